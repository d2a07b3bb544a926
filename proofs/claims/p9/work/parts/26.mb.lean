section MB
variable {p : Program} {l : Launch} {e : Env} {R : Room} {s : State} {m : MethodId} {args : Array Value} {below : List Frame} {meth : Method} {c : Code} {H : Heap} {locs : List Loc} {Q : State → Prop} {A : Nat → Prop} {v : EV} {a : Nat → Nat} {own : String} {cc : ByteArray} {nL fr lo : Nat}
def mb_named_212 (fu : Nat) (rc : RC) (F : PF) (G : PG) : PR := some (1, F, G)
def mb_named_211 (fu : Nat) (rc : RC) (z0 : Int32) (F : PF) (G : PG) : PR := mb_named_212 fu rc F G
def mb_named_207 (fu : Nat) (rc : RC) (z0 : Int32) (z1 : Int32) (F : PF) (G : PG) : PR := (mf_step fu z1 z0 0 F G).bind (fun q => mb_named_211 fu rc q.1 q.2.1 q.2.2)
def mb_named_201 (fu : Nat) (rc : RC) (x2 : Int32) (z0 : Int32) (F : PF) (G : PG) : PR := if ixb x2 900 = true then (mb_named_207 fu rc (G 20 x2.toNatClampNeg) z0 F G) else none
def mb_named_197 (fu : Nat) (rc : RC) (z0 : Int32) (F : PF) (G : PG) : PR := mb_named_207 fu rc 0 z0 F G
def mb_named_192 (fu : Nat) (rc : RC) (x2 : Int32) (z0 : Int32) (F : PF) (G : PG) : PR := if x2 = (-1 : Int32) then mb_named_197 fu rc z0 F G else mb_named_201 fu rc x2 z0 F G
def mb_named_191 (fu : Nat) (rc : RC) (x2 : Int32) (F : PF) (G : PG) : PR := mb_named_192 fu rc x2 3 F G
def mb_named_187 (fu : Nat) (rc : RC) (x2 : Int32) (F : PF) (G : PG) : PR := mb_named_192 fu rc x2 1 F G
def mb_named_178 (fu : Nat) (rc : RC) (x2 : Int32) (F : PF) (G : PG) : PR := if ixb x2 900 = true then (if (G 23 x2.toNatClampNeg) = (0 : Int32) then mb_named_191 fu rc x2 F G else mb_named_187 fu rc x2 F G) else none
def mb_named_172 (fu : Nat) (rc : RC) (x2 : Int32) (F : PF) (G : PG) : PR := if x2 = (-1 : Int32) then mb_named_191 fu rc x2 F G else mb_named_178 fu rc x2 F G
def mb_named_168 (fu : Nat) (rc : RC) (z0 : Int32) (F : PF) (G : PG) : PR := mb_named_212 fu rc F G
def mb_named_156 (fu : Nat) (rc : RC) (x2 : Int32) (F : PF) (G : PG) : PR := if ixb x2 900 = true then ((mf_step fu 0 (G 20 x2.toNatClampNeg) 0 F G).bind (fun q => mb_named_168 fu rc q.1 q.2.1 q.2.2)) else none
def mb_named_147 (fu : Nat) (rc : RC) (x2 : Int32) (F : PF) (G : PG) : PR := if ixb x2 900 = true then (if (G 17 x2.toNatClampNeg) = (0 : Int32) then mb_named_156 fu rc x2 F G else mb_named_172 fu rc x2 F G) else none
def mb_named_142 (fu : Nat) (rc : RC) (x2 : Int32) (F : PF) (G : PG) : PR := if x2 = (-1 : Int32) then mb_named_172 fu rc x2 F G else mb_named_147 fu rc x2 F G
def mb_named_138 (fu : Nat) (rc : RC) (z0 : Int32) (F : PF) (G : PG) : PR := mb_named_212 fu rc F G
def mb_named_130 (fu : Nat) (rc : RC) (F : PF) (G : PG) : PR := (mf_step fu 7 0 0 F G).bind (fun q => mb_named_138 fu rc q.1 q.2.1 q.2.2)
def mb_named_128 (fu : Nat) (rc : RC) (F : PF) (G : PG) : PR := some (0, F, G)
def mb_named_125 (fu : Nat) (rc : RC) (z0 : Int32) (F : PF) (G : PG) : PR := if z0 = (0 : Int32) then mb_named_128 fu rc F G else mb_named_130 fu rc F G
def mb_named_120 (fu : Nat) (rc : RC) (x2 : Int32) (F : PF) (G : PG) : PR := (rc 3 x2 0 F G).bind (fun q => mb_named_125 fu rc q.1 q.2.1 q.2.2)
def mb_named_115 (fu : Nat) (rc : RC) (x2 : Int32) (x4 : Int32) (F : PF) (G : PG) : PR := if x4 = (0 : Int32) then mb_named_142 fu rc x2 F G else mb_named_120 fu rc x2 F G
def mb_named_103 (fu : Nat) (rc : RC) (x1 : Int32) (x2 : Int32) (x4 : Int32) (F : PF) (G : PG) : PR := if ixb x1 4002 = true then ((mf_note fu 6 (G 6 x1.toNatClampNeg) F G).bind (fun q => mb_named_115 fu rc x2 x4 q.2.1 q.2.2)) else none
def mb_named_100 (fu : Nat) (rc : RC) (x1 : Int32) (x2 : Int32) (x4 : Int32) (z0 : Int32) (z1 : Int32) (F : PF) (G : PG) : PR := if z1 = z0 then mb_named_115 fu rc x2 x4 F G else mb_named_103 fu rc x1 x2 x4 F G
def mb_named_99 (fu : Nat) (rc : RC) (x1 : Int32) (x2 : Int32) (x4 : Int32) (z0 : Int32) (F : PF) (G : PG) : PR := mb_named_100 fu rc x1 x2 x4 0 z0 F G
def mb_named_95 (fu : Nat) (rc : RC) (x1 : Int32) (x2 : Int32) (x4 : Int32) (z0 : Int32) (F : PF) (G : PG) : PR := mb_named_100 fu rc x1 x2 x4 1 z0 F G
def mb_named_83 (fu : Nat) (rc : RC) (x1 : Int32) (x2 : Int32) (x4 : Int32) (F : PF) (G : PG) : PR := if ixb x2 900 = true then (if (G 17 x2.toNatClampNeg) = (2 : Int32) then mb_named_95 fu rc x1 x2 x4 x4 F G else mb_named_99 fu rc x1 x2 x4 x4 F G) else none
def mb_named_78 (fu : Nat) (rc : RC) (x1 : Int32) (x2 : Int32) (x4 : Int32) (F : PF) (G : PG) : PR := if x2 = (-1 : Int32) then mb_named_103 fu rc x1 x2 x4 F G else mb_named_83 fu rc x1 x2 x4 F G
def mb_named_75 (fu : Nat) (rc : RC) (x2 : Int32) (x4 : Int32) (F : PF) (G : PG) : PR := mb_named_115 fu rc x2 x4 F G
def mb_named_64 (fu : Nat) (rc : RC) (x1 : Int32) (x2 : Int32) (x4 : Int32) (F : PF) (G : PG) : PR := if ixb x1 4002 = true then ((mf_note fu 4 (G 6 x1.toNatClampNeg) F G).bind (fun q => mb_named_75 fu rc x2 x4 q.2.1 q.2.2)) else none
def mb_named_58 (fu : Nat) (rc : RC) (x1 : Int32) (x2 : Int32) (x3 : Int32) (z0 : Int32) (F : PF) (G : PG) : PR := if x3 = (0 : Int32) then mb_named_78 fu rc x1 x2 z0 F G else mb_named_64 fu rc x1 x2 z0 F G
def mb_named_51 (fu : Nat) (rc : RC) (x1 : Int32) (x2 : Int32) (z0 : Int32) (F : PF) (G : PG) : PR := (mf_isSign fu 24 F G).bind (fun q => mb_named_58 fu rc x1 x2 z0 q.1 q.2.1 q.2.2)
def mb_named_50 (fu : Nat) (rc : RC) (x1 : Int32) (x2 : Int32) (F : PF) (G : PG) : PR := mb_named_51 fu rc x1 x2 0 F G
def mb_named_46 (fu : Nat) (rc : RC) (x1 : Int32) (x2 : Int32) (F : PF) (G : PG) : PR := mb_named_51 fu rc x1 x2 1 F G
def mb_named_38 (fu : Nat) (rc : RC) (x1 : Int32) (x2 : Int32) (F : PF) (G : PG) : PR := if (F 62) = (-1 : Int32) then mb_named_46 fu rc x1 x2 F G else mb_named_50 fu rc x1 x2 F G
def mb_named_32 (fu : Nat) (rc : RC) (x1 : Int32) (z0 : Int32) (F : PF) (G : PG) : PR := if z0 = (-1 : Int32) then mb_named_38 fu rc x1 z0 F G else mb_named_50 fu rc x1 z0 F G
def mb_named_27 (fu : Nat) (rc : RC) (x1 : Int32) (F : PF) (G : PG) : PR := (mf_meaning fu x1 F G).bind (fun q => mb_named_32 fu rc x1 q.1 q.2.1 q.2.2)
def mb_named_23 (fu : Nat) (rc : RC) (x1 : Int32) (F : PF) (G : PG) : PR := mb_named_32 fu rc x1 (-1) F G
def mb_named_16 (fu : Nat) (rc : RC) (x1 : Int32) (F : PF) (G : PG) : PR := if (F 46) = (0 : Int32) then mb_named_23 fu rc x1 F G else mb_named_27 fu rc x1 F G
def mb_named_15 (fu : Nat) (rc : RC) (z0 : Int32) (F : PF) (G : PG) : PR := if b01 z0 = true then (some (z0, F, G)) else none
def mb_named_9 (fu : Nat) (rc : RC) (x1 : Int32) (F : PF) (G : PG) : PR := (rc 1 x1 1 F G).bind (fun q => mb_named_15 fu rc q.1 q.2.1 q.2.2)
def mb_named_6 (fu : Nat) (rc : RC) (x1 : Int32) (z0 : Int32) (F : PF) (G : PG) : PR := if z0 = (0 : Int32) then mb_named_16 fu rc x1 F G else mb_named_9 fu rc x1 F G
def mb_named_0 (fu : Nat) (rc : RC) (x1 : Int32) (F : PF) (G : PG) : PR := (mf_isSign fu 22 F G).bind (fun q => mb_named_6 fu rc x1 q.1 q.2.1 q.2.2)
def mh_named (fu : Nat) (rc : RC) (x1 : Int32) (F : PF) (G : PG) : PR := mb_named_0 fu rc x1 F G
theorem mw_named_212 (fu : Nat) (rc : RC) {dd : Nat} (hr : mH1 l v a rc dd) {res : Int32 × PF × PG} (C : mMC p R s m args c A v RX12 cX12_named 5 (dd + 1 + 3) (60 * (dd + 1) + 64)) (hret : ∀ (H1 : Heap) (locs1 : List Loc) (ls1 : Array Slot) (pc : Nat), mMW s A v a res.2.1 res.2.2 H1 locs1 → narrow .boolean (.int res.1) = .int res.1 → decode cX12_named pc = .ok (.ireturn, 1) → W p l e R s m args below meth c H1 locs1 0 0 Q (F0 m pc ls1 [.int res.1])) (F : PF) (G : PG) (hm : mb_named_212 fu rc F G = some res) {H : Heap} {locs : List Loc} (hw : mMW s A v a F G H locs) {ls : Array Slot} (hl : lv_has ls 5 []) : W p l e R s m args below meth c H locs 0 0 Q (F0 m 212 ls []) := by
  have hx := C.1
  have hb := C.2.1
  unfold mb_named_212 at hm
  refine lv_iconst (v := 1) hx hb dX12_named_212 (by decide) ?_
  obtain rfl := Option.some.inj hm
  exact hret _ _ _ _ hw (b01_nar (v := 1) (Or.inr rfl)) dX12_named_213
theorem mw_named_211 (fu : Nat) (rc : RC) {dd : Nat} (hr : mH1 l v a rc dd) {res : Int32 × PF × PG} (C : mMC p R s m args c A v RX12 cX12_named 5 (dd + 1 + 3) (60 * (dd + 1) + 64)) (hret : ∀ (H1 : Heap) (locs1 : List Loc) (ls1 : Array Slot) (pc : Nat), mMW s A v a res.2.1 res.2.2 H1 locs1 → narrow .boolean (.int res.1) = .int res.1 → decode cX12_named pc = .ok (.ireturn, 1) → W p l e R s m args below meth c H1 locs1 0 0 Q (F0 m pc ls1 [.int res.1])) (z0 : Int32) (F : PF) (G : PG) (hm : mb_named_211 fu rc z0 F G = some res) {H : Heap} {locs : List Loc} (hw : mMW s A v a F G H locs) {ls : Array Slot} (hl : lv_has ls 5 []) : W p l e R s m args below meth c H locs 0 0 Q (F0 m 211 ls [.int z0]) := by
  have hx := C.1
  have hb := C.2.1
  unfold mb_named_211 at hm
  refine lv_pop hx hb dX12_named_211 rfl ?_
  exact mw_named_212 fu rc hr C hret F G hm hw (lv_sub hl [] rfl)
theorem mw_named_207 (fu : Nat) (rc : RC) {dd : Nat} (hr : mH1 l v a rc dd) {res : Int32 × PF × PG} (C : mMC p R s m args c A v RX12 cX12_named 5 (dd + 1 + 3) (60 * (dd + 1) + 64)) (hret : ∀ (H1 : Heap) (locs1 : List Loc) (ls1 : Array Slot) (pc : Nat), mMW s A v a res.2.1 res.2.2 H1 locs1 → narrow .boolean (.int res.1) = .int res.1 → decode cX12_named pc = .ok (.ireturn, 1) → W p l e R s m args below meth c H1 locs1 0 0 Q (F0 m pc ls1 [.int res.1])) (z0 : Int32) (z1 : Int32) (F : PF) (G : PG) (hm : mb_named_207 fu rc z0 z1 F G = some res) {H : Heap} {locs : List Loc} (hw : mMW s A v a F G H locs) {ls : Array Slot} (hl : lv_has ls 5 []) : W p l e R s m args below meth c H locs 0 0 Q (F0 m 207 ls [.int z0, .int z1, .ref (a 212)]) := by
  have hx := C.1
  have hb := C.2.1
  unfold mb_named_207 at hm
  refine lv_iconst (v := 0) hx hb dX12_named_207 (by decide) ?_
  obtain ⟨⟨r1, F1, G1⟩, hc, hm⟩ := bind_elim hm
  refine mcallI (n := 3) (As := [.int z1, .int z0, .int 0]) (rest := []) C hw (mk_step l v a _ fu z1 z0 0 F G r1 F1 G1 hc) (mrecv_X12 C hw) mm_203 mm_204 mm_205 mm_27 mm_206 (by decide +kernel) rfl (by omega) (by omega) hl.1 rfl (Nat.le_of_ble_eq_true rfl) dX12_named_208 (fun H locs hw => ?_)
  exact mw_named_211 fu rc hr C hret r1 F1 G1 hm hw (lv_sub hl [] rfl)
theorem mw_named_201 (fu : Nat) (rc : RC) {dd : Nat} (hr : mH1 l v a rc dd) {res : Int32 × PF × PG} (C : mMC p R s m args c A v RX12 cX12_named 5 (dd + 1 + 3) (60 * (dd + 1) + 64)) (hret : ∀ (H1 : Heap) (locs1 : List Loc) (ls1 : Array Slot) (pc : Nat), mMW s A v a res.2.1 res.2.2 H1 locs1 → narrow .boolean (.int res.1) = .int res.1 → decode cX12_named pc = .ok (.ireturn, 1) → W p l e R s m args below meth c H1 locs1 0 0 Q (F0 m pc ls1 [.int res.1])) (x2 : Int32) (z0 : Int32) (F : PF) (G : PG) (hm : mb_named_201 fu rc x2 z0 F G = some res) {H : Heap} {locs : List Loc} (hw : mMW s A v a F G H locs) {ls : Array Slot} (hl : lv_has ls 5 [(0, .ref (a 212)), (2, .int x2)]) : W p l e R s m args below meth c H locs 0 0 Q (F0 m 201 ls [.int z0, .ref (a 212)]) := by
  have hx := C.1
  have hb := C.2.1
  unfold mb_named_201 at hm
  refine lv_aload_n hx hb dX12_named_201 rfl (lv_at hl 0 rfl) ?_
  refine mg_X12_49 C hw dX12_named_202 ?_
  refine lv_iload_n hx hb dX12_named_205 rfl (lv_at hl 1 rfl) ?_
  obtain ⟨hi, hm⟩ := ix_elim hm
  refine mal_20 C hw hi dX12_named_206 ?_
  exact mw_named_207 fu rc hr C hret (G 20 x2.toNatClampNeg) z0 F G hm hw (lv_sub hl [] rfl)
theorem mw_named_197 (fu : Nat) (rc : RC) {dd : Nat} (hr : mH1 l v a rc dd) {res : Int32 × PF × PG} (C : mMC p R s m args c A v RX12 cX12_named 5 (dd + 1 + 3) (60 * (dd + 1) + 64)) (hret : ∀ (H1 : Heap) (locs1 : List Loc) (ls1 : Array Slot) (pc : Nat), mMW s A v a res.2.1 res.2.2 H1 locs1 → narrow .boolean (.int res.1) = .int res.1 → decode cX12_named pc = .ok (.ireturn, 1) → W p l e R s m args below meth c H1 locs1 0 0 Q (F0 m pc ls1 [.int res.1])) (z0 : Int32) (F : PF) (G : PG) (hm : mb_named_197 fu rc z0 F G = some res) {H : Heap} {locs : List Loc} (hw : mMW s A v a F G H locs) {ls : Array Slot} (hl : lv_has ls 5 []) : W p l e R s m args below meth c H locs 0 0 Q (F0 m 197 ls [.int z0, .ref (a 212)]) := by
  have hx := C.1
  have hb := C.2.1
  unfold mb_named_197 at hm
  refine lv_iconst (v := 0) hx hb dX12_named_197 (by decide) ?_
  refine lv_goto (tgt := 207) hx hb dX12_named_198 (by decide) ?_
  exact mw_named_207 fu rc hr C hret 0 z0 F G hm hw (lv_sub hl [] rfl)
theorem mw_named_192 (fu : Nat) (rc : RC) {dd : Nat} (hr : mH1 l v a rc dd) {res : Int32 × PF × PG} (C : mMC p R s m args c A v RX12 cX12_named 5 (dd + 1 + 3) (60 * (dd + 1) + 64)) (hret : ∀ (H1 : Heap) (locs1 : List Loc) (ls1 : Array Slot) (pc : Nat), mMW s A v a res.2.1 res.2.2 H1 locs1 → narrow .boolean (.int res.1) = .int res.1 → decode cX12_named pc = .ok (.ireturn, 1) → W p l e R s m args below meth c H1 locs1 0 0 Q (F0 m pc ls1 [.int res.1])) (x2 : Int32) (z0 : Int32) (F : PF) (G : PG) (hm : mb_named_192 fu rc x2 z0 F G = some res) {H : Heap} {locs : List Loc} (hw : mMW s A v a F G H locs) {ls : Array Slot} (hl : lv_has ls 5 [(0, .ref (a 212)), (2, .int x2)]) : W p l e R s m args below meth c H locs 0 0 Q (F0 m 192 ls [.int z0, .ref (a 212)]) := by
  have hx := C.1
  have hb := C.2.1
  unfold mb_named_192 at hm
  refine lv_iload_n hx hb dX12_named_192 rfl (lv_at hl 1 rfl) ?_
  refine lv_iconst (v := (-1)) hx hb dX12_named_193 (by decide) ?_
  refine lv_icmp_ne (tgt := 201) hx hb dX12_named_194 (by decide) (fun c_1 => ?_) (fun c_1 => ?_)
  · have hm := (if_neg c_1).symm.trans hm
    exact mw_named_201 fu rc hr C hret x2 z0 F G hm hw (lv_sub hl [0, 1] rfl)
  · have hm := (if_pos c_1).symm.trans hm
    exact mw_named_197 fu rc hr C hret z0 F G hm hw (lv_sub hl [] rfl)
theorem mw_named_191 (fu : Nat) (rc : RC) {dd : Nat} (hr : mH1 l v a rc dd) {res : Int32 × PF × PG} (C : mMC p R s m args c A v RX12 cX12_named 5 (dd + 1 + 3) (60 * (dd + 1) + 64)) (hret : ∀ (H1 : Heap) (locs1 : List Loc) (ls1 : Array Slot) (pc : Nat), mMW s A v a res.2.1 res.2.2 H1 locs1 → narrow .boolean (.int res.1) = .int res.1 → decode cX12_named pc = .ok (.ireturn, 1) → W p l e R s m args below meth c H1 locs1 0 0 Q (F0 m pc ls1 [.int res.1])) (x2 : Int32) (F : PF) (G : PG) (hm : mb_named_191 fu rc x2 F G = some res) {H : Heap} {locs : List Loc} (hw : mMW s A v a F G H locs) {ls : Array Slot} (hl : lv_has ls 5 [(0, .ref (a 212)), (2, .int x2)]) : W p l e R s m args below meth c H locs 0 0 Q (F0 m 191 ls [.ref (a 212)]) := by
  have hx := C.1
  have hb := C.2.1
  unfold mb_named_191 at hm
  refine lv_iconst (v := 3) hx hb dX12_named_191 (by decide) ?_
  exact mw_named_192 fu rc hr C hret x2 3 F G hm hw (lv_sub hl [0, 1] rfl)
theorem mw_named_187 (fu : Nat) (rc : RC) {dd : Nat} (hr : mH1 l v a rc dd) {res : Int32 × PF × PG} (C : mMC p R s m args c A v RX12 cX12_named 5 (dd + 1 + 3) (60 * (dd + 1) + 64)) (hret : ∀ (H1 : Heap) (locs1 : List Loc) (ls1 : Array Slot) (pc : Nat), mMW s A v a res.2.1 res.2.2 H1 locs1 → narrow .boolean (.int res.1) = .int res.1 → decode cX12_named pc = .ok (.ireturn, 1) → W p l e R s m args below meth c H1 locs1 0 0 Q (F0 m pc ls1 [.int res.1])) (x2 : Int32) (F : PF) (G : PG) (hm : mb_named_187 fu rc x2 F G = some res) {H : Heap} {locs : List Loc} (hw : mMW s A v a F G H locs) {ls : Array Slot} (hl : lv_has ls 5 [(0, .ref (a 212)), (2, .int x2)]) : W p l e R s m args below meth c H locs 0 0 Q (F0 m 187 ls [.ref (a 212)]) := by
  have hx := C.1
  have hb := C.2.1
  unfold mb_named_187 at hm
  refine lv_iconst (v := 1) hx hb dX12_named_187 (by decide) ?_
  refine lv_goto (tgt := 192) hx hb dX12_named_188 (by decide) ?_
  exact mw_named_192 fu rc hr C hret x2 1 F G hm hw (lv_sub hl [0, 1] rfl)
theorem mw_named_178 (fu : Nat) (rc : RC) {dd : Nat} (hr : mH1 l v a rc dd) {res : Int32 × PF × PG} (C : mMC p R s m args c A v RX12 cX12_named 5 (dd + 1 + 3) (60 * (dd + 1) + 64)) (hret : ∀ (H1 : Heap) (locs1 : List Loc) (ls1 : Array Slot) (pc : Nat), mMW s A v a res.2.1 res.2.2 H1 locs1 → narrow .boolean (.int res.1) = .int res.1 → decode cX12_named pc = .ok (.ireturn, 1) → W p l e R s m args below meth c H1 locs1 0 0 Q (F0 m pc ls1 [.int res.1])) (x2 : Int32) (F : PF) (G : PG) (hm : mb_named_178 fu rc x2 F G = some res) {H : Heap} {locs : List Loc} (hw : mMW s A v a F G H locs) {ls : Array Slot} (hl : lv_has ls 5 [(0, .ref (a 212)), (2, .int x2)]) : W p l e R s m args below meth c H locs 0 0 Q (F0 m 178 ls [.ref (a 212)]) := by
  have hx := C.1
  have hb := C.2.1
  unfold mb_named_178 at hm
  refine lv_aload_n hx hb dX12_named_178 rfl (lv_at hl 0 rfl) ?_
  refine mg_X12_59 C hw dX12_named_179 ?_
  refine lv_iload_n hx hb dX12_named_182 rfl (lv_at hl 1 rfl) ?_
  obtain ⟨hi, hm⟩ := ix_elim hm
  refine mal_23 C hw hi dX12_named_183 ?_
  refine lv_if_eq (tgt := 191) hx hb dX12_named_184 (by decide) (fun c_1 => ?_) (fun c_1 => ?_)
  · have hm := (if_pos c_1).symm.trans hm
    exact mw_named_191 fu rc hr C hret x2 F G hm hw (lv_sub hl [0, 1] rfl)
  · have hm := (if_neg c_1).symm.trans hm
    exact mw_named_187 fu rc hr C hret x2 F G hm hw (lv_sub hl [0, 1] rfl)
theorem mw_named_172 (fu : Nat) (rc : RC) {dd : Nat} (hr : mH1 l v a rc dd) {res : Int32 × PF × PG} (C : mMC p R s m args c A v RX12 cX12_named 5 (dd + 1 + 3) (60 * (dd + 1) + 64)) (hret : ∀ (H1 : Heap) (locs1 : List Loc) (ls1 : Array Slot) (pc : Nat), mMW s A v a res.2.1 res.2.2 H1 locs1 → narrow .boolean (.int res.1) = .int res.1 → decode cX12_named pc = .ok (.ireturn, 1) → W p l e R s m args below meth c H1 locs1 0 0 Q (F0 m pc ls1 [.int res.1])) (x2 : Int32) (F : PF) (G : PG) (hm : mb_named_172 fu rc x2 F G = some res) {H : Heap} {locs : List Loc} (hw : mMW s A v a F G H locs) {ls : Array Slot} (hl : lv_has ls 5 [(0, .ref (a 212)), (2, .int x2)]) : W p l e R s m args below meth c H locs 0 0 Q (F0 m 172 ls []) := by
  have hx := C.1
  have hb := C.2.1
  unfold mb_named_172 at hm
  refine lv_aload_n hx hb dX12_named_172 rfl (lv_at hl 0 rfl) ?_
  refine lv_iload_n hx hb dX12_named_173 rfl (lv_at hl 1 rfl) ?_
  refine lv_iconst (v := (-1)) hx hb dX12_named_174 (by decide) ?_
  refine lv_icmp_eq (tgt := 191) hx hb dX12_named_175 (by decide) (fun c_1 => ?_) (fun c_1 => ?_)
  · have hm := (if_pos c_1).symm.trans hm
    exact mw_named_191 fu rc hr C hret x2 F G hm hw (lv_sub hl [0, 1] rfl)
  · have hm := (if_neg c_1).symm.trans hm
    exact mw_named_178 fu rc hr C hret x2 F G hm hw (lv_sub hl [0, 1] rfl)
theorem mw_named_168 (fu : Nat) (rc : RC) {dd : Nat} (hr : mH1 l v a rc dd) {res : Int32 × PF × PG} (C : mMC p R s m args c A v RX12 cX12_named 5 (dd + 1 + 3) (60 * (dd + 1) + 64)) (hret : ∀ (H1 : Heap) (locs1 : List Loc) (ls1 : Array Slot) (pc : Nat), mMW s A v a res.2.1 res.2.2 H1 locs1 → narrow .boolean (.int res.1) = .int res.1 → decode cX12_named pc = .ok (.ireturn, 1) → W p l e R s m args below meth c H1 locs1 0 0 Q (F0 m pc ls1 [.int res.1])) (z0 : Int32) (F : PF) (G : PG) (hm : mb_named_168 fu rc z0 F G = some res) {H : Heap} {locs : List Loc} (hw : mMW s A v a F G H locs) {ls : Array Slot} (hl : lv_has ls 5 []) : W p l e R s m args below meth c H locs 0 0 Q (F0 m 168 ls [.int z0]) := by
  have hx := C.1
  have hb := C.2.1
  unfold mb_named_168 at hm
  refine lv_pop hx hb dX12_named_168 rfl ?_
  refine lv_goto (tgt := 212) hx hb dX12_named_169 (by decide) ?_
  exact mw_named_212 fu rc hr C hret F G hm hw (lv_sub hl [] rfl)
theorem mw_named_156 (fu : Nat) (rc : RC) {dd : Nat} (hr : mH1 l v a rc dd) {res : Int32 × PF × PG} (C : mMC p R s m args c A v RX12 cX12_named 5 (dd + 1 + 3) (60 * (dd + 1) + 64)) (hret : ∀ (H1 : Heap) (locs1 : List Loc) (ls1 : Array Slot) (pc : Nat), mMW s A v a res.2.1 res.2.2 H1 locs1 → narrow .boolean (.int res.1) = .int res.1 → decode cX12_named pc = .ok (.ireturn, 1) → W p l e R s m args below meth c H1 locs1 0 0 Q (F0 m pc ls1 [.int res.1])) (x2 : Int32) (F : PF) (G : PG) (hm : mb_named_156 fu rc x2 F G = some res) {H : Heap} {locs : List Loc} (hw : mMW s A v a F G H locs) {ls : Array Slot} (hl : lv_has ls 5 [(0, .ref (a 212)), (2, .int x2)]) : W p l e R s m args below meth c H locs 0 0 Q (F0 m 156 ls []) := by
  have hx := C.1
  have hb := C.2.1
  unfold mb_named_156 at hm
  refine lv_aload_n hx hb dX12_named_156 rfl (lv_at hl 0 rfl) ?_
  refine lv_iconst (v := 0) hx hb dX12_named_157 (by decide) ?_
  refine lv_aload_n hx hb dX12_named_158 rfl (lv_at hl 0 rfl) ?_
  refine mg_X12_49 C hw dX12_named_159 ?_
  refine lv_iload_n hx hb dX12_named_162 rfl (lv_at hl 1 rfl) ?_
  obtain ⟨hi, hm⟩ := ix_elim hm
  refine mal_20 C hw hi dX12_named_163 ?_
  refine lv_iconst (v := 0) hx hb dX12_named_164 (by decide) ?_
  obtain ⟨⟨r1, F1, G1⟩, hc, hm⟩ := bind_elim hm
  refine mcallI (n := 3) (As := [.int 0, .int (G 20 x2.toNatClampNeg), .int 0]) (rest := []) C hw (mk_step l v a _ fu 0 (G 20 x2.toNatClampNeg) 0 F G r1 F1 G1 hc) (mrecv_X12 C hw) mm_203 mm_204 mm_205 mm_27 mm_206 (by decide +kernel) rfl (by omega) (by omega) hl.1 rfl (Nat.le_of_ble_eq_true rfl) dX12_named_165 (fun H locs hw => ?_)
  exact mw_named_168 fu rc hr C hret r1 F1 G1 hm hw (lv_sub hl [] rfl)
theorem mw_named_147 (fu : Nat) (rc : RC) {dd : Nat} (hr : mH1 l v a rc dd) {res : Int32 × PF × PG} (C : mMC p R s m args c A v RX12 cX12_named 5 (dd + 1 + 3) (60 * (dd + 1) + 64)) (hret : ∀ (H1 : Heap) (locs1 : List Loc) (ls1 : Array Slot) (pc : Nat), mMW s A v a res.2.1 res.2.2 H1 locs1 → narrow .boolean (.int res.1) = .int res.1 → decode cX12_named pc = .ok (.ireturn, 1) → W p l e R s m args below meth c H1 locs1 0 0 Q (F0 m pc ls1 [.int res.1])) (x2 : Int32) (F : PF) (G : PG) (hm : mb_named_147 fu rc x2 F G = some res) {H : Heap} {locs : List Loc} (hw : mMW s A v a F G H locs) {ls : Array Slot} (hl : lv_has ls 5 [(0, .ref (a 212)), (2, .int x2)]) : W p l e R s m args below meth c H locs 0 0 Q (F0 m 147 ls []) := by
  have hx := C.1
  have hb := C.2.1
  unfold mb_named_147 at hm
  refine lv_aload_n hx hb dX12_named_147 rfl (lv_at hl 0 rfl) ?_
  refine mg_X12_40 C hw dX12_named_148 ?_
  refine lv_iload_n hx hb dX12_named_151 rfl (lv_at hl 1 rfl) ?_
  obtain ⟨hi, hm⟩ := ix_elim hm
  refine mal_17 C hw hi dX12_named_152 ?_
  refine lv_if_ne (tgt := 172) hx hb dX12_named_153 (by decide) (fun c_1 => ?_) (fun c_1 => ?_)
  · have hm := (if_neg c_1).symm.trans hm
    exact mw_named_172 fu rc hr C hret x2 F G hm hw (lv_sub hl [0, 1] rfl)
  · have hm := (if_pos c_1).symm.trans hm
    exact mw_named_156 fu rc hr C hret x2 F G hm hw (lv_sub hl [0, 1] rfl)
theorem mw_named_142 (fu : Nat) (rc : RC) {dd : Nat} (hr : mH1 l v a rc dd) {res : Int32 × PF × PG} (C : mMC p R s m args c A v RX12 cX12_named 5 (dd + 1 + 3) (60 * (dd + 1) + 64)) (hret : ∀ (H1 : Heap) (locs1 : List Loc) (ls1 : Array Slot) (pc : Nat), mMW s A v a res.2.1 res.2.2 H1 locs1 → narrow .boolean (.int res.1) = .int res.1 → decode cX12_named pc = .ok (.ireturn, 1) → W p l e R s m args below meth c H1 locs1 0 0 Q (F0 m pc ls1 [.int res.1])) (x2 : Int32) (F : PF) (G : PG) (hm : mb_named_142 fu rc x2 F G = some res) {H : Heap} {locs : List Loc} (hw : mMW s A v a F G H locs) {ls : Array Slot} (hl : lv_has ls 5 [(0, .ref (a 212)), (2, .int x2)]) : W p l e R s m args below meth c H locs 0 0 Q (F0 m 142 ls []) := by
  have hx := C.1
  have hb := C.2.1
  unfold mb_named_142 at hm
  refine lv_iload_n hx hb dX12_named_142 rfl (lv_at hl 1 rfl) ?_
  refine lv_iconst (v := (-1)) hx hb dX12_named_143 (by decide) ?_
  refine lv_icmp_eq (tgt := 172) hx hb dX12_named_144 (by decide) (fun c_1 => ?_) (fun c_1 => ?_)
  · have hm := (if_pos c_1).symm.trans hm
    exact mw_named_172 fu rc hr C hret x2 F G hm hw (lv_sub hl [0, 1] rfl)
  · have hm := (if_neg c_1).symm.trans hm
    exact mw_named_147 fu rc hr C hret x2 F G hm hw (lv_sub hl [0, 1] rfl)
theorem mw_named_138 (fu : Nat) (rc : RC) {dd : Nat} (hr : mH1 l v a rc dd) {res : Int32 × PF × PG} (C : mMC p R s m args c A v RX12 cX12_named 5 (dd + 1 + 3) (60 * (dd + 1) + 64)) (hret : ∀ (H1 : Heap) (locs1 : List Loc) (ls1 : Array Slot) (pc : Nat), mMW s A v a res.2.1 res.2.2 H1 locs1 → narrow .boolean (.int res.1) = .int res.1 → decode cX12_named pc = .ok (.ireturn, 1) → W p l e R s m args below meth c H1 locs1 0 0 Q (F0 m pc ls1 [.int res.1])) (z0 : Int32) (F : PF) (G : PG) (hm : mb_named_138 fu rc z0 F G = some res) {H : Heap} {locs : List Loc} (hw : mMW s A v a F G H locs) {ls : Array Slot} (hl : lv_has ls 5 []) : W p l e R s m args below meth c H locs 0 0 Q (F0 m 138 ls [.int z0]) := by
  have hx := C.1
  have hb := C.2.1
  unfold mb_named_138 at hm
  refine lv_pop hx hb dX12_named_138 rfl ?_
  refine lv_goto (tgt := 212) hx hb dX12_named_139 (by decide) ?_
  exact mw_named_212 fu rc hr C hret F G hm hw (lv_sub hl [] rfl)
theorem mw_named_130 (fu : Nat) (rc : RC) {dd : Nat} (hr : mH1 l v a rc dd) {res : Int32 × PF × PG} (C : mMC p R s m args c A v RX12 cX12_named 5 (dd + 1 + 3) (60 * (dd + 1) + 64)) (hret : ∀ (H1 : Heap) (locs1 : List Loc) (ls1 : Array Slot) (pc : Nat), mMW s A v a res.2.1 res.2.2 H1 locs1 → narrow .boolean (.int res.1) = .int res.1 → decode cX12_named pc = .ok (.ireturn, 1) → W p l e R s m args below meth c H1 locs1 0 0 Q (F0 m pc ls1 [.int res.1])) (F : PF) (G : PG) (hm : mb_named_130 fu rc F G = some res) {H : Heap} {locs : List Loc} (hw : mMW s A v a F G H locs) {ls : Array Slot} (hl : lv_has ls 5 [(0, .ref (a 212))]) : W p l e R s m args below meth c H locs 0 0 Q (F0 m 130 ls []) := by
  have hx := C.1
  have hb := C.2.1
  unfold mb_named_130 at hm
  refine lv_aload_n hx hb dX12_named_130 rfl (lv_at hl 0 rfl) ?_
  refine lv_bipush (v := 7) hx hb dX12_named_131 (by decide) ?_
  refine lv_iconst (v := 0) hx hb dX12_named_133 (by decide) ?_
  refine lv_iconst (v := 0) hx hb dX12_named_134 (by decide) ?_
  obtain ⟨⟨r1, F1, G1⟩, hc, hm⟩ := bind_elim hm
  refine mcallI (n := 3) (As := [.int 7, .int 0, .int 0]) (rest := []) C hw (mk_step l v a _ fu 7 0 0 F G r1 F1 G1 hc) (mrecv_X12 C hw) mm_203 mm_204 mm_205 mm_27 mm_206 (by decide +kernel) rfl (by omega) (by omega) hl.1 rfl (Nat.le_of_ble_eq_true rfl) dX12_named_135 (fun H locs hw => ?_)
  exact mw_named_138 fu rc hr C hret r1 F1 G1 hm hw (lv_sub hl [] rfl)
theorem mw_named_128 (fu : Nat) (rc : RC) {dd : Nat} (hr : mH1 l v a rc dd) {res : Int32 × PF × PG} (C : mMC p R s m args c A v RX12 cX12_named 5 (dd + 1 + 3) (60 * (dd + 1) + 64)) (hret : ∀ (H1 : Heap) (locs1 : List Loc) (ls1 : Array Slot) (pc : Nat), mMW s A v a res.2.1 res.2.2 H1 locs1 → narrow .boolean (.int res.1) = .int res.1 → decode cX12_named pc = .ok (.ireturn, 1) → W p l e R s m args below meth c H1 locs1 0 0 Q (F0 m pc ls1 [.int res.1])) (F : PF) (G : PG) (hm : mb_named_128 fu rc F G = some res) {H : Heap} {locs : List Loc} (hw : mMW s A v a F G H locs) {ls : Array Slot} (hl : lv_has ls 5 []) : W p l e R s m args below meth c H locs 0 0 Q (F0 m 128 ls []) := by
  have hx := C.1
  have hb := C.2.1
  unfold mb_named_128 at hm
  refine lv_iconst (v := 0) hx hb dX12_named_128 (by decide) ?_
  obtain rfl := Option.some.inj hm
  exact hret _ _ _ _ hw (b01_nar (v := 0) (Or.inl rfl)) dX12_named_129
theorem mw_named_125 (fu : Nat) (rc : RC) {dd : Nat} (hr : mH1 l v a rc dd) {res : Int32 × PF × PG} (C : mMC p R s m args c A v RX12 cX12_named 5 (dd + 1 + 3) (60 * (dd + 1) + 64)) (hret : ∀ (H1 : Heap) (locs1 : List Loc) (ls1 : Array Slot) (pc : Nat), mMW s A v a res.2.1 res.2.2 H1 locs1 → narrow .boolean (.int res.1) = .int res.1 → decode cX12_named pc = .ok (.ireturn, 1) → W p l e R s m args below meth c H1 locs1 0 0 Q (F0 m pc ls1 [.int res.1])) (z0 : Int32) (F : PF) (G : PG) (hm : mb_named_125 fu rc z0 F G = some res) {H : Heap} {locs : List Loc} (hw : mMW s A v a F G H locs) {ls : Array Slot} (hl : lv_has ls 5 [(0, .ref (a 212))]) : W p l e R s m args below meth c H locs 0 0 Q (F0 m 125 ls [.int z0]) := by
  have hx := C.1
  have hb := C.2.1
  unfold mb_named_125 at hm
  refine lv_if_ne (tgt := 130) hx hb dX12_named_125 (by decide) (fun c_1 => ?_) (fun c_1 => ?_)
  · have hm := (if_neg c_1).symm.trans hm
    exact mw_named_130 fu rc hr C hret F G hm hw (lv_sub hl [0] rfl)
  · have hm := (if_pos c_1).symm.trans hm
    exact mw_named_128 fu rc hr C hret F G hm hw (lv_sub hl [] rfl)
theorem mw_named_120 (fu : Nat) (rc : RC) {dd : Nat} (hr : mH1 l v a rc dd) {res : Int32 × PF × PG} (C : mMC p R s m args c A v RX12 cX12_named 5 (dd + 1 + 3) (60 * (dd + 1) + 64)) (hret : ∀ (H1 : Heap) (locs1 : List Loc) (ls1 : Array Slot) (pc : Nat), mMW s A v a res.2.1 res.2.2 H1 locs1 → narrow .boolean (.int res.1) = .int res.1 → decode cX12_named pc = .ok (.ireturn, 1) → W p l e R s m args below meth c H1 locs1 0 0 Q (F0 m pc ls1 [.int res.1])) (x2 : Int32) (F : PF) (G : PG) (hm : mb_named_120 fu rc x2 F G = some res) {H : Heap} {locs : List Loc} (hw : mMW s A v a F G H locs) {ls : Array Slot} (hl : lv_has ls 5 [(0, .ref (a 212)), (2, .int x2)]) : W p l e R s m args below meth c H locs 0 0 Q (F0 m 120 ls []) := by
  have hx := C.1
  have hb := C.2.1
  unfold mb_named_120 at hm
  refine lv_aload_n hx hb dX12_named_120 rfl (lv_at hl 0 rfl) ?_
  refine lv_iload_n hx hb dX12_named_121 rfl (lv_at hl 1 rfl) ?_
  obtain ⟨⟨r1, F1, G1⟩, hc, hm⟩ := bind_elim hm
  refine mcallI (n := 1) (As := [.int x2]) (rest := []) C hw (hr.2.2.2.1 _ x2 F G r1 F1 G1 hc) (mrecv_X12 C hw) mm_272 mm_273 mm_274 mm_27 mm_267 (by decide +kernel) rfl (by omega) (by omega) hl.1 rfl (Nat.le_of_ble_eq_true rfl) dX12_named_122 (fun H locs hw => ?_)
  exact mw_named_125 fu rc hr C hret r1 F1 G1 hm hw (lv_sub hl [0] rfl)
theorem mw_named_115 (fu : Nat) (rc : RC) {dd : Nat} (hr : mH1 l v a rc dd) {res : Int32 × PF × PG} (C : mMC p R s m args c A v RX12 cX12_named 5 (dd + 1 + 3) (60 * (dd + 1) + 64)) (hret : ∀ (H1 : Heap) (locs1 : List Loc) (ls1 : Array Slot) (pc : Nat), mMW s A v a res.2.1 res.2.2 H1 locs1 → narrow .boolean (.int res.1) = .int res.1 → decode cX12_named pc = .ok (.ireturn, 1) → W p l e R s m args below meth c H1 locs1 0 0 Q (F0 m pc ls1 [.int res.1])) (x2 : Int32) (x4 : Int32) (F : PF) (G : PG) (hm : mb_named_115 fu rc x2 x4 F G = some res) {H : Heap} {locs : List Loc} (hw : mMW s A v a F G H locs) {ls : Array Slot} (hl : lv_has ls 5 [(0, .ref (a 212)), (2, .int x2), (4, .int x4)]) : W p l e R s m args below meth c H locs 0 0 Q (F0 m 115 ls []) := by
  have hx := C.1
  have hb := C.2.1
  unfold mb_named_115 at hm
  refine lv_iload hx hb dX12_named_115 (lv_at hl 2 rfl) ?_
  refine lv_if_eq (tgt := 142) hx hb dX12_named_117 (by decide) (fun c_1 => ?_) (fun c_1 => ?_)
  · have hm := (if_pos c_1).symm.trans hm
    exact mw_named_142 fu rc hr C hret x2 F G hm hw (lv_sub hl [0, 1] rfl)
  · have hm := (if_neg c_1).symm.trans hm
    exact mw_named_120 fu rc hr C hret x2 F G hm hw (lv_sub hl [0, 1] rfl)
theorem mw_named_103 (fu : Nat) (rc : RC) {dd : Nat} (hr : mH1 l v a rc dd) {res : Int32 × PF × PG} (C : mMC p R s m args c A v RX12 cX12_named 5 (dd + 1 + 3) (60 * (dd + 1) + 64)) (hret : ∀ (H1 : Heap) (locs1 : List Loc) (ls1 : Array Slot) (pc : Nat), mMW s A v a res.2.1 res.2.2 H1 locs1 → narrow .boolean (.int res.1) = .int res.1 → decode cX12_named pc = .ok (.ireturn, 1) → W p l e R s m args below meth c H1 locs1 0 0 Q (F0 m pc ls1 [.int res.1])) (x1 : Int32) (x2 : Int32) (x4 : Int32) (F : PF) (G : PG) (hm : mb_named_103 fu rc x1 x2 x4 F G = some res) {H : Heap} {locs : List Loc} (hw : mMW s A v a F G H locs) {ls : Array Slot} (hl : lv_has ls 5 [(0, .ref (a 212)), (1, .int x1), (2, .int x2), (4, .int x4)]) : W p l e R s m args below meth c H locs 0 0 Q (F0 m 103 ls []) := by
  have hx := C.1
  have hb := C.2.1
  unfold mb_named_103 at hm
  refine lv_aload_n hx hb dX12_named_103 rfl (lv_at hl 0 rfl) ?_
  refine lv_bipush (v := 6) hx hb dX12_named_104 (by decide) ?_
  refine lv_aload_n hx hb dX12_named_106 rfl (lv_at hl 0 rfl) ?_
  refine mg_X12_22 C hw dX12_named_107 ?_
  refine lv_iload_n hx hb dX12_named_110 rfl (lv_at hl 1 rfl) ?_
  obtain ⟨hi, hm⟩ := ix_elim hm
  refine mal_6 C hw hi dX12_named_111 ?_
  obtain ⟨⟨r1, F1, G1⟩, hc, hm⟩ := bind_elim hm
  refine mcallV (n := 2) (As := [.int 6, .int (G 6 x1.toNatClampNeg)]) (rest := []) C hw (mk_note l v a _ fu 6 (G 6 x1.toNatClampNeg) F G r1 F1 G1 hc) (mrecv_X12 C hw) mm_220 mm_221 mm_222 mm_27 mm_223 (by decide +kernel) rfl (by omega) (by omega) hl.1 rfl (Nat.le_of_ble_eq_true rfl) dX12_named_112 (fun H locs hw => ?_)
  exact mw_named_115 fu rc hr C hret x2 x4 F1 G1 hm hw (lv_sub hl [0, 2, 3] rfl)
theorem mw_named_100 (fu : Nat) (rc : RC) {dd : Nat} (hr : mH1 l v a rc dd) {res : Int32 × PF × PG} (C : mMC p R s m args c A v RX12 cX12_named 5 (dd + 1 + 3) (60 * (dd + 1) + 64)) (hret : ∀ (H1 : Heap) (locs1 : List Loc) (ls1 : Array Slot) (pc : Nat), mMW s A v a res.2.1 res.2.2 H1 locs1 → narrow .boolean (.int res.1) = .int res.1 → decode cX12_named pc = .ok (.ireturn, 1) → W p l e R s m args below meth c H1 locs1 0 0 Q (F0 m pc ls1 [.int res.1])) (x1 : Int32) (x2 : Int32) (x4 : Int32) (z0 : Int32) (z1 : Int32) (F : PF) (G : PG) (hm : mb_named_100 fu rc x1 x2 x4 z0 z1 F G = some res) {H : Heap} {locs : List Loc} (hw : mMW s A v a F G H locs) {ls : Array Slot} (hl : lv_has ls 5 [(0, .ref (a 212)), (1, .int x1), (2, .int x2), (4, .int x4)]) : W p l e R s m args below meth c H locs 0 0 Q (F0 m 100 ls [.int z0, .int z1]) := by
  have hx := C.1
  have hb := C.2.1
  unfold mb_named_100 at hm
  refine lv_icmp_eq (tgt := 115) hx hb dX12_named_100 (by decide) (fun c_1 => ?_) (fun c_1 => ?_)
  · have hm := (if_pos c_1).symm.trans hm
    exact mw_named_115 fu rc hr C hret x2 x4 F G hm hw (lv_sub hl [0, 2, 3] rfl)
  · have hm := (if_neg c_1).symm.trans hm
    exact mw_named_103 fu rc hr C hret x1 x2 x4 F G hm hw (lv_sub hl [0, 1, 2, 3] rfl)
theorem mw_named_99 (fu : Nat) (rc : RC) {dd : Nat} (hr : mH1 l v a rc dd) {res : Int32 × PF × PG} (C : mMC p R s m args c A v RX12 cX12_named 5 (dd + 1 + 3) (60 * (dd + 1) + 64)) (hret : ∀ (H1 : Heap) (locs1 : List Loc) (ls1 : Array Slot) (pc : Nat), mMW s A v a res.2.1 res.2.2 H1 locs1 → narrow .boolean (.int res.1) = .int res.1 → decode cX12_named pc = .ok (.ireturn, 1) → W p l e R s m args below meth c H1 locs1 0 0 Q (F0 m pc ls1 [.int res.1])) (x1 : Int32) (x2 : Int32) (x4 : Int32) (z0 : Int32) (F : PF) (G : PG) (hm : mb_named_99 fu rc x1 x2 x4 z0 F G = some res) {H : Heap} {locs : List Loc} (hw : mMW s A v a F G H locs) {ls : Array Slot} (hl : lv_has ls 5 [(0, .ref (a 212)), (1, .int x1), (2, .int x2), (4, .int x4)]) : W p l e R s m args below meth c H locs 0 0 Q (F0 m 99 ls [.int z0]) := by
  have hx := C.1
  have hb := C.2.1
  unfold mb_named_99 at hm
  refine lv_iconst (v := 0) hx hb dX12_named_99 (by decide) ?_
  exact mw_named_100 fu rc hr C hret x1 x2 x4 0 z0 F G hm hw (lv_sub hl [0, 1, 2, 3] rfl)
theorem mw_named_95 (fu : Nat) (rc : RC) {dd : Nat} (hr : mH1 l v a rc dd) {res : Int32 × PF × PG} (C : mMC p R s m args c A v RX12 cX12_named 5 (dd + 1 + 3) (60 * (dd + 1) + 64)) (hret : ∀ (H1 : Heap) (locs1 : List Loc) (ls1 : Array Slot) (pc : Nat), mMW s A v a res.2.1 res.2.2 H1 locs1 → narrow .boolean (.int res.1) = .int res.1 → decode cX12_named pc = .ok (.ireturn, 1) → W p l e R s m args below meth c H1 locs1 0 0 Q (F0 m pc ls1 [.int res.1])) (x1 : Int32) (x2 : Int32) (x4 : Int32) (z0 : Int32) (F : PF) (G : PG) (hm : mb_named_95 fu rc x1 x2 x4 z0 F G = some res) {H : Heap} {locs : List Loc} (hw : mMW s A v a F G H locs) {ls : Array Slot} (hl : lv_has ls 5 [(0, .ref (a 212)), (1, .int x1), (2, .int x2), (4, .int x4)]) : W p l e R s m args below meth c H locs 0 0 Q (F0 m 95 ls [.int z0]) := by
  have hx := C.1
  have hb := C.2.1
  unfold mb_named_95 at hm
  refine lv_iconst (v := 1) hx hb dX12_named_95 (by decide) ?_
  refine lv_goto (tgt := 100) hx hb dX12_named_96 (by decide) ?_
  exact mw_named_100 fu rc hr C hret x1 x2 x4 1 z0 F G hm hw (lv_sub hl [0, 1, 2, 3] rfl)
theorem mw_named_83 (fu : Nat) (rc : RC) {dd : Nat} (hr : mH1 l v a rc dd) {res : Int32 × PF × PG} (C : mMC p R s m args c A v RX12 cX12_named 5 (dd + 1 + 3) (60 * (dd + 1) + 64)) (hret : ∀ (H1 : Heap) (locs1 : List Loc) (ls1 : Array Slot) (pc : Nat), mMW s A v a res.2.1 res.2.2 H1 locs1 → narrow .boolean (.int res.1) = .int res.1 → decode cX12_named pc = .ok (.ireturn, 1) → W p l e R s m args below meth c H1 locs1 0 0 Q (F0 m pc ls1 [.int res.1])) (x1 : Int32) (x2 : Int32) (x4 : Int32) (F : PF) (G : PG) (hm : mb_named_83 fu rc x1 x2 x4 F G = some res) {H : Heap} {locs : List Loc} (hw : mMW s A v a F G H locs) {ls : Array Slot} (hl : lv_has ls 5 [(0, .ref (a 212)), (1, .int x1), (2, .int x2), (4, .int x4)]) : W p l e R s m args below meth c H locs 0 0 Q (F0 m 83 ls []) := by
  have hx := C.1
  have hb := C.2.1
  unfold mb_named_83 at hm
  refine lv_iload hx hb dX12_named_83 (lv_at hl 3 rfl) ?_
  refine lv_aload_n hx hb dX12_named_85 rfl (lv_at hl 0 rfl) ?_
  refine mg_X12_40 C hw dX12_named_86 ?_
  refine lv_iload_n hx hb dX12_named_89 rfl (lv_at hl 2 rfl) ?_
  obtain ⟨hi, hm⟩ := ix_elim hm
  refine mal_17 C hw hi dX12_named_90 ?_
  refine lv_iconst (v := 2) hx hb dX12_named_91 (by decide) ?_
  refine lv_icmp_ne (tgt := 99) hx hb dX12_named_92 (by decide) (fun c_1 => ?_) (fun c_1 => ?_)
  · have hm := (if_neg c_1).symm.trans hm
    exact mw_named_99 fu rc hr C hret x1 x2 x4 x4 F G hm hw (lv_sub hl [0, 1, 2, 3] rfl)
  · have hm := (if_pos c_1).symm.trans hm
    exact mw_named_95 fu rc hr C hret x1 x2 x4 x4 F G hm hw (lv_sub hl [0, 1, 2, 3] rfl)
theorem mw_named_78 (fu : Nat) (rc : RC) {dd : Nat} (hr : mH1 l v a rc dd) {res : Int32 × PF × PG} (C : mMC p R s m args c A v RX12 cX12_named 5 (dd + 1 + 3) (60 * (dd + 1) + 64)) (hret : ∀ (H1 : Heap) (locs1 : List Loc) (ls1 : Array Slot) (pc : Nat), mMW s A v a res.2.1 res.2.2 H1 locs1 → narrow .boolean (.int res.1) = .int res.1 → decode cX12_named pc = .ok (.ireturn, 1) → W p l e R s m args below meth c H1 locs1 0 0 Q (F0 m pc ls1 [.int res.1])) (x1 : Int32) (x2 : Int32) (x4 : Int32) (F : PF) (G : PG) (hm : mb_named_78 fu rc x1 x2 x4 F G = some res) {H : Heap} {locs : List Loc} (hw : mMW s A v a F G H locs) {ls : Array Slot} (hl : lv_has ls 5 [(0, .ref (a 212)), (1, .int x1), (2, .int x2), (4, .int x4)]) : W p l e R s m args below meth c H locs 0 0 Q (F0 m 78 ls []) := by
  have hx := C.1
  have hb := C.2.1
  unfold mb_named_78 at hm
  refine lv_iload_n hx hb dX12_named_78 rfl (lv_at hl 2 rfl) ?_
  refine lv_iconst (v := (-1)) hx hb dX12_named_79 (by decide) ?_
  refine lv_icmp_eq (tgt := 103) hx hb dX12_named_80 (by decide) (fun c_1 => ?_) (fun c_1 => ?_)
  · have hm := (if_pos c_1).symm.trans hm
    exact mw_named_103 fu rc hr C hret x1 x2 x4 F G hm hw (lv_sub hl [0, 1, 2, 3] rfl)
  · have hm := (if_neg c_1).symm.trans hm
    exact mw_named_83 fu rc hr C hret x1 x2 x4 F G hm hw (lv_sub hl [0, 1, 2, 3] rfl)
theorem mw_named_75 (fu : Nat) (rc : RC) {dd : Nat} (hr : mH1 l v a rc dd) {res : Int32 × PF × PG} (C : mMC p R s m args c A v RX12 cX12_named 5 (dd + 1 + 3) (60 * (dd + 1) + 64)) (hret : ∀ (H1 : Heap) (locs1 : List Loc) (ls1 : Array Slot) (pc : Nat), mMW s A v a res.2.1 res.2.2 H1 locs1 → narrow .boolean (.int res.1) = .int res.1 → decode cX12_named pc = .ok (.ireturn, 1) → W p l e R s m args below meth c H1 locs1 0 0 Q (F0 m pc ls1 [.int res.1])) (x2 : Int32) (x4 : Int32) (F : PF) (G : PG) (hm : mb_named_75 fu rc x2 x4 F G = some res) {H : Heap} {locs : List Loc} (hw : mMW s A v a F G H locs) {ls : Array Slot} (hl : lv_has ls 5 [(0, .ref (a 212)), (2, .int x2), (4, .int x4)]) : W p l e R s m args below meth c H locs 0 0 Q (F0 m 75 ls []) := by
  have hx := C.1
  have hb := C.2.1
  unfold mb_named_75 at hm
  refine lv_goto (tgt := 115) hx hb dX12_named_75 (by decide) ?_
  exact mw_named_115 fu rc hr C hret x2 x4 F G hm hw (lv_sub hl [0, 1, 2] rfl)
theorem mw_named_64 (fu : Nat) (rc : RC) {dd : Nat} (hr : mH1 l v a rc dd) {res : Int32 × PF × PG} (C : mMC p R s m args c A v RX12 cX12_named 5 (dd + 1 + 3) (60 * (dd + 1) + 64)) (hret : ∀ (H1 : Heap) (locs1 : List Loc) (ls1 : Array Slot) (pc : Nat), mMW s A v a res.2.1 res.2.2 H1 locs1 → narrow .boolean (.int res.1) = .int res.1 → decode cX12_named pc = .ok (.ireturn, 1) → W p l e R s m args below meth c H1 locs1 0 0 Q (F0 m pc ls1 [.int res.1])) (x1 : Int32) (x2 : Int32) (x4 : Int32) (F : PF) (G : PG) (hm : mb_named_64 fu rc x1 x2 x4 F G = some res) {H : Heap} {locs : List Loc} (hw : mMW s A v a F G H locs) {ls : Array Slot} (hl : lv_has ls 5 [(0, .ref (a 212)), (1, .int x1), (2, .int x2), (4, .int x4)]) : W p l e R s m args below meth c H locs 0 0 Q (F0 m 64 ls []) := by
  have hx := C.1
  have hb := C.2.1
  unfold mb_named_64 at hm
  refine lv_aload_n hx hb dX12_named_64 rfl (lv_at hl 0 rfl) ?_
  refine lv_iconst (v := 4) hx hb dX12_named_65 (by decide) ?_
  refine lv_aload_n hx hb dX12_named_66 rfl (lv_at hl 0 rfl) ?_
  refine mg_X12_22 C hw dX12_named_67 ?_
  refine lv_iload_n hx hb dX12_named_70 rfl (lv_at hl 1 rfl) ?_
  obtain ⟨hi, hm⟩ := ix_elim hm
  refine mal_6 C hw hi dX12_named_71 ?_
  obtain ⟨⟨r1, F1, G1⟩, hc, hm⟩ := bind_elim hm
  refine mcallV (n := 2) (As := [.int 4, .int (G 6 x1.toNatClampNeg)]) (rest := []) C hw (mk_note l v a _ fu 4 (G 6 x1.toNatClampNeg) F G r1 F1 G1 hc) (mrecv_X12 C hw) mm_220 mm_221 mm_222 mm_27 mm_223 (by decide +kernel) rfl (by omega) (by omega) hl.1 rfl (Nat.le_of_ble_eq_true rfl) dX12_named_72 (fun H locs hw => ?_)
  exact mw_named_75 fu rc hr C hret x2 x4 F1 G1 hm hw (lv_sub hl [0, 2, 3] rfl)
theorem mw_named_58 (fu : Nat) (rc : RC) {dd : Nat} (hr : mH1 l v a rc dd) {res : Int32 × PF × PG} (C : mMC p R s m args c A v RX12 cX12_named 5 (dd + 1 + 3) (60 * (dd + 1) + 64)) (hret : ∀ (H1 : Heap) (locs1 : List Loc) (ls1 : Array Slot) (pc : Nat), mMW s A v a res.2.1 res.2.2 H1 locs1 → narrow .boolean (.int res.1) = .int res.1 → decode cX12_named pc = .ok (.ireturn, 1) → W p l e R s m args below meth c H1 locs1 0 0 Q (F0 m pc ls1 [.int res.1])) (x1 : Int32) (x2 : Int32) (x3 : Int32) (z0 : Int32) (F : PF) (G : PG) (hm : mb_named_58 fu rc x1 x2 x3 z0 F G = some res) {H : Heap} {locs : List Loc} (hw : mMW s A v a F G H locs) {ls : Array Slot} (hl : lv_has ls 5 [(0, .ref (a 212)), (1, .int x1), (2, .int x2), (3, .int x3)]) : W p l e R s m args below meth c H locs 0 0 Q (F0 m 58 ls [.int z0]) := by
  have hx := C.1
  have hb := C.2.1
  unfold mb_named_58 at hm
  refine lv_istore (lv' := [(4, .int z0), (0, .ref (a 212)), (1, .int x1), (2, .int x2), (3, .int x3)]) hx hb dX12_named_58 hl (by decide) rfl (fun ls hl => ?_)
  refine lv_iload_n hx hb dX12_named_60 rfl (lv_at hl 4 rfl) ?_
  refine lv_if_eq (tgt := 78) hx hb dX12_named_61 (by decide) (fun c_1 => ?_) (fun c_1 => ?_)
  · have hm := (if_pos c_1).symm.trans hm
    exact mw_named_78 fu rc hr C hret x1 x2 z0 F G hm hw (lv_sub hl [1, 2, 3, 0] rfl)
  · have hm := (if_neg c_1).symm.trans hm
    exact mw_named_64 fu rc hr C hret x1 x2 z0 F G hm hw (lv_sub hl [1, 2, 3, 0] rfl)
theorem mw_named_51 (fu : Nat) (rc : RC) {dd : Nat} (hr : mH1 l v a rc dd) {res : Int32 × PF × PG} (C : mMC p R s m args c A v RX12 cX12_named 5 (dd + 1 + 3) (60 * (dd + 1) + 64)) (hret : ∀ (H1 : Heap) (locs1 : List Loc) (ls1 : Array Slot) (pc : Nat), mMW s A v a res.2.1 res.2.2 H1 locs1 → narrow .boolean (.int res.1) = .int res.1 → decode cX12_named pc = .ok (.ireturn, 1) → W p l e R s m args below meth c H1 locs1 0 0 Q (F0 m pc ls1 [.int res.1])) (x1 : Int32) (x2 : Int32) (z0 : Int32) (F : PF) (G : PG) (hm : mb_named_51 fu rc x1 x2 z0 F G = some res) {H : Heap} {locs : List Loc} (hw : mMW s A v a F G H locs) {ls : Array Slot} (hl : lv_has ls 5 [(0, .ref (a 212)), (1, .int x1), (2, .int x2)]) : W p l e R s m args below meth c H locs 0 0 Q (F0 m 51 ls [.int z0]) := by
  have hx := C.1
  have hb := C.2.1
  unfold mb_named_51 at hm
  refine lv_istore_n (lv' := [(3, .int z0), (0, .ref (a 212)), (1, .int x1), (2, .int x2)]) hx hb dX12_named_51 rfl hl (by decide) rfl (fun ls hl => ?_)
  refine lv_aload_n hx hb dX12_named_52 rfl (lv_at hl 1 rfl) ?_
  refine lv_bipush (v := 24) hx hb dX12_named_53 (by decide) ?_
  obtain ⟨⟨r1, F1, G1⟩, hc, hm⟩ := bind_elim hm
  refine mcallI (n := 1) (As := [.int 24]) (rest := []) C hw (mk_isSign l v a _ fu 24 F G r1 F1 G1 hc) (mrecv_X12 C hw) mm_183 mm_184 mm_185 mm_27 mm_186 (by decide +kernel) rfl (by omega) (by omega) hl.1 rfl (Nat.le_of_ble_eq_true rfl) dX12_named_55 (fun H locs hw => ?_)
  exact mw_named_58 fu rc hr C hret x1 x2 z0 r1 F1 G1 hm hw (lv_sub hl [1, 2, 3, 0] rfl)
theorem mw_named_50 (fu : Nat) (rc : RC) {dd : Nat} (hr : mH1 l v a rc dd) {res : Int32 × PF × PG} (C : mMC p R s m args c A v RX12 cX12_named 5 (dd + 1 + 3) (60 * (dd + 1) + 64)) (hret : ∀ (H1 : Heap) (locs1 : List Loc) (ls1 : Array Slot) (pc : Nat), mMW s A v a res.2.1 res.2.2 H1 locs1 → narrow .boolean (.int res.1) = .int res.1 → decode cX12_named pc = .ok (.ireturn, 1) → W p l e R s m args below meth c H1 locs1 0 0 Q (F0 m pc ls1 [.int res.1])) (x1 : Int32) (x2 : Int32) (F : PF) (G : PG) (hm : mb_named_50 fu rc x1 x2 F G = some res) {H : Heap} {locs : List Loc} (hw : mMW s A v a F G H locs) {ls : Array Slot} (hl : lv_has ls 5 [(0, .ref (a 212)), (1, .int x1), (2, .int x2)]) : W p l e R s m args below meth c H locs 0 0 Q (F0 m 50 ls []) := by
  have hx := C.1
  have hb := C.2.1
  unfold mb_named_50 at hm
  refine lv_iconst (v := 0) hx hb dX12_named_50 (by decide) ?_
  exact mw_named_51 fu rc hr C hret x1 x2 0 F G hm hw (lv_sub hl [0, 1, 2] rfl)
theorem mw_named_46 (fu : Nat) (rc : RC) {dd : Nat} (hr : mH1 l v a rc dd) {res : Int32 × PF × PG} (C : mMC p R s m args c A v RX12 cX12_named 5 (dd + 1 + 3) (60 * (dd + 1) + 64)) (hret : ∀ (H1 : Heap) (locs1 : List Loc) (ls1 : Array Slot) (pc : Nat), mMW s A v a res.2.1 res.2.2 H1 locs1 → narrow .boolean (.int res.1) = .int res.1 → decode cX12_named pc = .ok (.ireturn, 1) → W p l e R s m args below meth c H1 locs1 0 0 Q (F0 m pc ls1 [.int res.1])) (x1 : Int32) (x2 : Int32) (F : PF) (G : PG) (hm : mb_named_46 fu rc x1 x2 F G = some res) {H : Heap} {locs : List Loc} (hw : mMW s A v a F G H locs) {ls : Array Slot} (hl : lv_has ls 5 [(0, .ref (a 212)), (1, .int x1), (2, .int x2)]) : W p l e R s m args below meth c H locs 0 0 Q (F0 m 46 ls []) := by
  have hx := C.1
  have hb := C.2.1
  unfold mb_named_46 at hm
  refine lv_iconst (v := 1) hx hb dX12_named_46 (by decide) ?_
  refine lv_goto (tgt := 51) hx hb dX12_named_47 (by decide) ?_
  exact mw_named_51 fu rc hr C hret x1 x2 1 F G hm hw (lv_sub hl [0, 1, 2] rfl)
theorem mw_named_38 (fu : Nat) (rc : RC) {dd : Nat} (hr : mH1 l v a rc dd) {res : Int32 × PF × PG} (C : mMC p R s m args c A v RX12 cX12_named 5 (dd + 1 + 3) (60 * (dd + 1) + 64)) (hret : ∀ (H1 : Heap) (locs1 : List Loc) (ls1 : Array Slot) (pc : Nat), mMW s A v a res.2.1 res.2.2 H1 locs1 → narrow .boolean (.int res.1) = .int res.1 → decode cX12_named pc = .ok (.ireturn, 1) → W p l e R s m args below meth c H1 locs1 0 0 Q (F0 m pc ls1 [.int res.1])) (x1 : Int32) (x2 : Int32) (F : PF) (G : PG) (hm : mb_named_38 fu rc x1 x2 F G = some res) {H : Heap} {locs : List Loc} (hw : mMW s A v a F G H locs) {ls : Array Slot} (hl : lv_has ls 5 [(0, .ref (a 212)), (1, .int x1), (2, .int x2)]) : W p l e R s m args below meth c H locs 0 0 Q (F0 m 38 ls []) := by
  have hx := C.1
  have hb := C.2.1
  unfold mb_named_38 at hm
  refine lv_aload_n hx hb dX12_named_38 rfl (lv_at hl 0 rfl) ?_
  refine mg_X12_374 C hw dX12_named_39 ?_
  refine lv_iconst (v := (-1)) hx hb dX12_named_42 (by decide) ?_
  refine lv_icmp_ne (tgt := 50) hx hb dX12_named_43 (by decide) (fun c_1 => ?_) (fun c_1 => ?_)
  · have hm := (if_neg c_1).symm.trans hm
    exact mw_named_50 fu rc hr C hret x1 x2 F G hm hw (lv_sub hl [0, 1, 2] rfl)
  · have hm := (if_pos c_1).symm.trans hm
    exact mw_named_46 fu rc hr C hret x1 x2 F G hm hw (lv_sub hl [0, 1, 2] rfl)
theorem mw_named_32 (fu : Nat) (rc : RC) {dd : Nat} (hr : mH1 l v a rc dd) {res : Int32 × PF × PG} (C : mMC p R s m args c A v RX12 cX12_named 5 (dd + 1 + 3) (60 * (dd + 1) + 64)) (hret : ∀ (H1 : Heap) (locs1 : List Loc) (ls1 : Array Slot) (pc : Nat), mMW s A v a res.2.1 res.2.2 H1 locs1 → narrow .boolean (.int res.1) = .int res.1 → decode cX12_named pc = .ok (.ireturn, 1) → W p l e R s m args below meth c H1 locs1 0 0 Q (F0 m pc ls1 [.int res.1])) (x1 : Int32) (z0 : Int32) (F : PF) (G : PG) (hm : mb_named_32 fu rc x1 z0 F G = some res) {H : Heap} {locs : List Loc} (hw : mMW s A v a F G H locs) {ls : Array Slot} (hl : lv_has ls 5 [(0, .ref (a 212)), (1, .int x1)]) : W p l e R s m args below meth c H locs 0 0 Q (F0 m 32 ls [.int z0]) := by
  have hx := C.1
  have hb := C.2.1
  unfold mb_named_32 at hm
  refine lv_istore_n (lv' := [(2, .int z0), (0, .ref (a 212)), (1, .int x1)]) hx hb dX12_named_32 rfl hl (by decide) rfl (fun ls hl => ?_)
  refine lv_iload_n hx hb dX12_named_33 rfl (lv_at hl 0 rfl) ?_
  refine lv_iconst (v := (-1)) hx hb dX12_named_34 (by decide) ?_
  refine lv_icmp_ne (tgt := 50) hx hb dX12_named_35 (by decide) (fun c_1 => ?_) (fun c_1 => ?_)
  · have hm := (if_neg c_1).symm.trans hm
    exact mw_named_50 fu rc hr C hret x1 z0 F G hm hw (lv_sub hl [1, 2, 0] rfl)
  · have hm := (if_pos c_1).symm.trans hm
    exact mw_named_38 fu rc hr C hret x1 z0 F G hm hw (lv_sub hl [1, 2, 0] rfl)
theorem mw_named_27 (fu : Nat) (rc : RC) {dd : Nat} (hr : mH1 l v a rc dd) {res : Int32 × PF × PG} (C : mMC p R s m args c A v RX12 cX12_named 5 (dd + 1 + 3) (60 * (dd + 1) + 64)) (hret : ∀ (H1 : Heap) (locs1 : List Loc) (ls1 : Array Slot) (pc : Nat), mMW s A v a res.2.1 res.2.2 H1 locs1 → narrow .boolean (.int res.1) = .int res.1 → decode cX12_named pc = .ok (.ireturn, 1) → W p l e R s m args below meth c H1 locs1 0 0 Q (F0 m pc ls1 [.int res.1])) (x1 : Int32) (F : PF) (G : PG) (hm : mb_named_27 fu rc x1 F G = some res) {H : Heap} {locs : List Loc} (hw : mMW s A v a F G H locs) {ls : Array Slot} (hl : lv_has ls 5 [(0, .ref (a 212)), (1, .int x1)]) : W p l e R s m args below meth c H locs 0 0 Q (F0 m 27 ls []) := by
  have hx := C.1
  have hb := C.2.1
  unfold mb_named_27 at hm
  refine lv_aload_n hx hb dX12_named_27 rfl (lv_at hl 0 rfl) ?_
  refine lv_iload_n hx hb dX12_named_28 rfl (lv_at hl 1 rfl) ?_
  obtain ⟨⟨r1, F1, G1⟩, hc, hm⟩ := bind_elim hm
  refine mcallI (n := 1) (As := [.int x1]) (rest := []) C hw (mk_meaning l v a _ fu x1 F G r1 F1 G1 hc) (mrecv_X12 C hw) mm_232 mm_233 mm_234 mm_27 mm_235 (by decide +kernel) rfl (by omega) (by omega) hl.1 rfl (Nat.le_of_ble_eq_true rfl) dX12_named_29 (fun H locs hw => ?_)
  exact mw_named_32 fu rc hr C hret x1 r1 F1 G1 hm hw (lv_sub hl [0, 1] rfl)
theorem mw_named_23 (fu : Nat) (rc : RC) {dd : Nat} (hr : mH1 l v a rc dd) {res : Int32 × PF × PG} (C : mMC p R s m args c A v RX12 cX12_named 5 (dd + 1 + 3) (60 * (dd + 1) + 64)) (hret : ∀ (H1 : Heap) (locs1 : List Loc) (ls1 : Array Slot) (pc : Nat), mMW s A v a res.2.1 res.2.2 H1 locs1 → narrow .boolean (.int res.1) = .int res.1 → decode cX12_named pc = .ok (.ireturn, 1) → W p l e R s m args below meth c H1 locs1 0 0 Q (F0 m pc ls1 [.int res.1])) (x1 : Int32) (F : PF) (G : PG) (hm : mb_named_23 fu rc x1 F G = some res) {H : Heap} {locs : List Loc} (hw : mMW s A v a F G H locs) {ls : Array Slot} (hl : lv_has ls 5 [(0, .ref (a 212)), (1, .int x1)]) : W p l e R s m args below meth c H locs 0 0 Q (F0 m 23 ls []) := by
  have hx := C.1
  have hb := C.2.1
  unfold mb_named_23 at hm
  refine lv_iconst (v := (-1)) hx hb dX12_named_23 (by decide) ?_
  refine lv_goto (tgt := 32) hx hb dX12_named_24 (by decide) ?_
  exact mw_named_32 fu rc hr C hret x1 (-1) F G hm hw (lv_sub hl [0, 1] rfl)
theorem mw_named_16 (fu : Nat) (rc : RC) {dd : Nat} (hr : mH1 l v a rc dd) {res : Int32 × PF × PG} (C : mMC p R s m args c A v RX12 cX12_named 5 (dd + 1 + 3) (60 * (dd + 1) + 64)) (hret : ∀ (H1 : Heap) (locs1 : List Loc) (ls1 : Array Slot) (pc : Nat), mMW s A v a res.2.1 res.2.2 H1 locs1 → narrow .boolean (.int res.1) = .int res.1 → decode cX12_named pc = .ok (.ireturn, 1) → W p l e R s m args below meth c H1 locs1 0 0 Q (F0 m pc ls1 [.int res.1])) (x1 : Int32) (F : PF) (G : PG) (hm : mb_named_16 fu rc x1 F G = some res) {H : Heap} {locs : List Loc} (hw : mMW s A v a F G H locs) {ls : Array Slot} (hl : lv_has ls 5 [(0, .ref (a 212)), (1, .int x1)]) : W p l e R s m args below meth c H locs 0 0 Q (F0 m 16 ls []) := by
  have hx := C.1
  have hb := C.2.1
  unfold mb_named_16 at hm
  refine lv_aload_n hx hb dX12_named_16 rfl (lv_at hl 0 rfl) ?_
  refine mg_X12_245 C hw dX12_named_17 ?_
  refine lv_if_ne (tgt := 27) hx hb dX12_named_20 (by decide) (fun c_1 => ?_) (fun c_1 => ?_)
  · have hm := (if_neg c_1).symm.trans hm
    exact mw_named_27 fu rc hr C hret x1 F G hm hw (lv_sub hl [0, 1] rfl)
  · have hm := (if_pos c_1).symm.trans hm
    exact mw_named_23 fu rc hr C hret x1 F G hm hw (lv_sub hl [0, 1] rfl)
theorem mw_named_15 (fu : Nat) (rc : RC) {dd : Nat} (hr : mH1 l v a rc dd) {res : Int32 × PF × PG} (C : mMC p R s m args c A v RX12 cX12_named 5 (dd + 1 + 3) (60 * (dd + 1) + 64)) (hret : ∀ (H1 : Heap) (locs1 : List Loc) (ls1 : Array Slot) (pc : Nat), mMW s A v a res.2.1 res.2.2 H1 locs1 → narrow .boolean (.int res.1) = .int res.1 → decode cX12_named pc = .ok (.ireturn, 1) → W p l e R s m args below meth c H1 locs1 0 0 Q (F0 m pc ls1 [.int res.1])) (z0 : Int32) (F : PF) (G : PG) (hm : mb_named_15 fu rc z0 F G = some res) {H : Heap} {locs : List Loc} (hw : mMW s A v a F G H locs) {ls : Array Slot} (hl : lv_has ls 5 []) : W p l e R s m args below meth c H locs 0 0 Q (F0 m 15 ls [.int z0]) := by
  have hx := C.1
  have hb := C.2.1
  unfold mb_named_15 at hm
  obtain ⟨hz, hm⟩ := b01_elim hm
  obtain rfl := Option.some.inj hm
  exact hret _ _ _ _ hw (b01_nar hz) dX12_named_15
theorem mw_named_9 (fu : Nat) (rc : RC) {dd : Nat} (hr : mH1 l v a rc dd) {res : Int32 × PF × PG} (C : mMC p R s m args c A v RX12 cX12_named 5 (dd + 1 + 3) (60 * (dd + 1) + 64)) (hret : ∀ (H1 : Heap) (locs1 : List Loc) (ls1 : Array Slot) (pc : Nat), mMW s A v a res.2.1 res.2.2 H1 locs1 → narrow .boolean (.int res.1) = .int res.1 → decode cX12_named pc = .ok (.ireturn, 1) → W p l e R s m args below meth c H1 locs1 0 0 Q (F0 m pc ls1 [.int res.1])) (x1 : Int32) (F : PF) (G : PG) (hm : mb_named_9 fu rc x1 F G = some res) {H : Heap} {locs : List Loc} (hw : mMW s A v a F G H locs) {ls : Array Slot} (hl : lv_has ls 5 [(0, .ref (a 212)), (1, .int x1)]) : W p l e R s m args below meth c H locs 0 0 Q (F0 m 9 ls []) := by
  have hx := C.1
  have hb := C.2.1
  unfold mb_named_9 at hm
  refine lv_aload_n hx hb dX12_named_9 rfl (lv_at hl 0 rfl) ?_
  refine lv_iload_n hx hb dX12_named_10 rfl (lv_at hl 1 rfl) ?_
  refine lv_iconst (v := 1) hx hb dX12_named_11 (by decide) ?_
  obtain ⟨⟨r1, F1, G1⟩, hc, hm⟩ := bind_elim hm
  refine mcallI (n := 2) (As := [.int x1, .int 1]) (rest := []) C hw (hr.2.1 _ x1 1 F G r1 F1 G1 hc) (mrecv_X12 C hw) mm_269 mm_270 mm_271 mm_27 mm_239 (by decide +kernel) rfl (by omega) (by omega) hl.1 rfl (Nat.le_of_ble_eq_true rfl) dX12_named_12 (fun H locs hw => ?_)
  exact mw_named_15 fu rc hr C hret r1 F1 G1 hm hw (lv_sub hl [] rfl)
theorem mw_named_6 (fu : Nat) (rc : RC) {dd : Nat} (hr : mH1 l v a rc dd) {res : Int32 × PF × PG} (C : mMC p R s m args c A v RX12 cX12_named 5 (dd + 1 + 3) (60 * (dd + 1) + 64)) (hret : ∀ (H1 : Heap) (locs1 : List Loc) (ls1 : Array Slot) (pc : Nat), mMW s A v a res.2.1 res.2.2 H1 locs1 → narrow .boolean (.int res.1) = .int res.1 → decode cX12_named pc = .ok (.ireturn, 1) → W p l e R s m args below meth c H1 locs1 0 0 Q (F0 m pc ls1 [.int res.1])) (x1 : Int32) (z0 : Int32) (F : PF) (G : PG) (hm : mb_named_6 fu rc x1 z0 F G = some res) {H : Heap} {locs : List Loc} (hw : mMW s A v a F G H locs) {ls : Array Slot} (hl : lv_has ls 5 [(0, .ref (a 212)), (1, .int x1)]) : W p l e R s m args below meth c H locs 0 0 Q (F0 m 6 ls [.int z0]) := by
  have hx := C.1
  have hb := C.2.1
  unfold mb_named_6 at hm
  refine lv_if_eq (tgt := 16) hx hb dX12_named_6 (by decide) (fun c_1 => ?_) (fun c_1 => ?_)
  · have hm := (if_pos c_1).symm.trans hm
    exact mw_named_16 fu rc hr C hret x1 F G hm hw (lv_sub hl [0, 1] rfl)
  · have hm := (if_neg c_1).symm.trans hm
    exact mw_named_9 fu rc hr C hret x1 F G hm hw (lv_sub hl [0, 1] rfl)
theorem mw_named_0 (fu : Nat) (rc : RC) {dd : Nat} (hr : mH1 l v a rc dd) {res : Int32 × PF × PG} (C : mMC p R s m args c A v RX12 cX12_named 5 (dd + 1 + 3) (60 * (dd + 1) + 64)) (hret : ∀ (H1 : Heap) (locs1 : List Loc) (ls1 : Array Slot) (pc : Nat), mMW s A v a res.2.1 res.2.2 H1 locs1 → narrow .boolean (.int res.1) = .int res.1 → decode cX12_named pc = .ok (.ireturn, 1) → W p l e R s m args below meth c H1 locs1 0 0 Q (F0 m pc ls1 [.int res.1])) (x1 : Int32) (F : PF) (G : PG) (hm : mb_named_0 fu rc x1 F G = some res) {H : Heap} {locs : List Loc} (hw : mMW s A v a F G H locs) {ls : Array Slot} (hl : lv_has ls 5 [(0, .ref (a 212)), (1, .int x1)]) : W p l e R s m args below meth c H locs 0 0 Q (F0 m 0 ls []) := by
  have hx := C.1
  have hb := C.2.1
  unfold mb_named_0 at hm
  refine lv_aload_n hx hb dX12_named_0 rfl (lv_at hl 0 rfl) ?_
  refine lv_bipush (v := 22) hx hb dX12_named_1 (by decide) ?_
  obtain ⟨⟨r1, F1, G1⟩, hc, hm⟩ := bind_elim hm
  refine mcallI (n := 1) (As := [.int 22]) (rest := []) C hw (mk_isSign l v a _ fu 22 F G r1 F1 G1 hc) (mrecv_X12 C hw) mm_183 mm_184 mm_185 mm_27 mm_186 (by decide +kernel) rfl (by omega) (by omega) hl.1 rfl (Nat.le_of_ble_eq_true rfl) dX12_named_3 (fun H locs hw => ?_)
  exact mw_named_6 fu rc hr C hret x1 r1 F1 G1 hm hw (lv_sub hl [0, 1] rfl)
theorem mq_named (l : Launch) (v : EV) (a : Nat → Nat) (sz : Nat) (fu : Nat) (rc : RC) {dd : Nat} (hr : mH1 l v a rc dd) (x1 : Int32) (F : PF) (G : PG) (r : Int32) (F1 : PF) (G1 : PG) (hm : mh_named fu rc x1 F G = some (r, F1, G1)) : mMI l yX12_named cX12_named 5 (some .boolean) (dd + 1 + 3) (60 * (dd + 1) + 64) v a sz [.ref (a 212), .int x1] F G r F1 G1 := mMI.of (ty := .boolean) (by decide) rfl (Nat.le_of_ble_eq_true rfl) (fun p e R s m args below meth c Q A H locs ls C hw hl hret => mw_named_0 fu rc hr (res := (r, F1, G1)) C hret x1 F G hm hw hl)
def mb_operand_42 (fu : Nat) (rc : RC) (ag_5 : Int32 → PF → PG → PR) (x1 : Int32) (F : PF) (G : PG) : PR := ag_5 x1 F G
def mb_operand_32 (fu : Nat) (rc : RC) (ag_5 : Int32 → PF → PG → PR) (x1 : Int32) (F : PF) (G : PG) : PR := mb_operand_42 fu rc ag_5 x1 (fup F 42 ((F 42) + (1 : Int32))) G
def mb_operand_88 (fu : Nat) (rc : RC) (F : PF) (G : PG) : PR := some (1, F, G)
def mb_operand_81 (fu : Nat) (rc : RC) (ag_63 : Int32 → Int32 → PF → PG → PR) (x1 : Int32) (x3 : Int32) (z0 : Int32) (F : PF) (G : PG) : PR := ag_63 x1 (x3 + (-1)) F G
def mb_operand_68 (fu : Nat) (rc : RC) (ag_63 : Int32 → Int32 → PF → PG → PR) (x1 : Int32) (x3 : Int32) (F : PF) (G : PG) : PR := if ixb x3 4002 = true then ((mf_step fu 11 (G 5 x3.toNatClampNeg) 0 F G).bind (fun q => mb_operand_81 fu rc ag_63 x1 x3 q.1 q.2.1 q.2.2)) else none
def mb_operand_63 (fu : Nat) (rc : RC) (ag_63 : Int32 → Int32 → PF → PG → PR) (x1 : Int32) (x3 : Int32) (F : PF) (G : PG) : PR := if x3 < x1 then mb_operand_88 fu rc F G else mb_operand_68 fu rc ag_63 x1 x3 F G
def ml_operand_63 (fu : Nat) (rc : RC) : Nat → Int32 → Int32 → PF → PG → PR
  | 0 => fun _ _ _ _ => none
  | n + 1 => fun x1 x3 F G => mb_operand_63 fu rc (ml_operand_63 fu rc n) x1 x3 F G
def mb_operand_59 (fu : Nat) (rc : RC) (x1 : Int32) (x2 : Int32) (F : PF) (G : PG) : PR := ml_operand_63 fu rc fu x1 (x2 - (1 : Int32)) F G
def mb_operand_57 (fu : Nat) (rc : RC) (F : PF) (G : PG) : PR := some (0, F, G)
def mb_operand_54 (fu : Nat) (rc : RC) (x1 : Int32) (x2 : Int32) (z0 : Int32) (F : PF) (G : PG) : PR := if z0 = (0 : Int32) then mb_operand_57 fu rc F G else mb_operand_59 fu rc x1 x2 F G
def mb_operand_45 (fu : Nat) (rc : RC) (x1 : Int32) (F : PF) (G : PG) : PR := (rc 8 0 0 F G).bind (fun q => mb_operand_54 fu rc x1 (F 42) q.1 q.2.1 q.2.2)
def mb_operand_29 (fu : Nat) (rc : RC) (ag_5 : Int32 → PF → PG → PR) (x1 : Int32) (z0 : Int32) (F : PF) (G : PG) : PR := if z0 = (0 : Int32) then mb_operand_45 fu rc x1 F G else mb_operand_32 fu rc ag_5 x1 F G
def mb_operand_23 (fu : Nat) (rc : RC) (ag_5 : Int32 → PF → PG → PR) (x1 : Int32) (F : PF) (G : PG) : PR := (mf_isSign fu 44 F G).bind (fun q => mb_operand_29 fu rc ag_5 x1 q.1 q.2.1 q.2.2)
def mb_operand_20 (fu : Nat) (rc : RC) (ag_5 : Int32 → PF → PG → PR) (x1 : Int32) (z0 : Int32) (F : PF) (G : PG) : PR := if z0 = (0 : Int32) then mb_operand_23 fu rc ag_5 x1 F G else mb_operand_32 fu rc ag_5 x1 F G
def mb_operand_14 (fu : Nat) (rc : RC) (ag_5 : Int32 → PF → PG → PR) (x1 : Int32) (F : PF) (G : PG) : PR := (mf_isSign fu 43 F G).bind (fun q => mb_operand_20 fu rc ag_5 x1 q.1 q.2.1 q.2.2)
def mb_operand_11 (fu : Nat) (rc : RC) (ag_5 : Int32 → PF → PG → PR) (x1 : Int32) (z0 : Int32) (F : PF) (G : PG) : PR := if z0 = (0 : Int32) then mb_operand_14 fu rc ag_5 x1 F G else mb_operand_32 fu rc ag_5 x1 F G
def mb_operand_5 (fu : Nat) (rc : RC) (ag_5 : Int32 → PF → PG → PR) (x1 : Int32) (F : PF) (G : PG) : PR := (mf_isSign fu 39 F G).bind (fun q => mb_operand_11 fu rc ag_5 x1 q.1 q.2.1 q.2.2)
def ml_operand_5 (fu : Nat) (rc : RC) : Nat → Int32 → PF → PG → PR
  | 0 => fun _ _ _ => none
  | n + 1 => fun x1 F G => mb_operand_5 fu rc (ml_operand_5 fu rc n) x1 F G
def mb_operand_0 (fu : Nat) (rc : RC) (F : PF) (G : PG) : PR := ml_operand_5 fu rc fu (F 42) F G
def mh_operand (fu : Nat) (rc : RC) (F : PF) (G : PG) : PR := mb_operand_0 fu rc F G
theorem mw_operand_42 (fu : Nat) (rc : RC) {dd : Nat} (hr : mH1 l v a rc dd) {res : Int32 × PF × PG} (C : mMC p R s m args c A v RX12 cX12_operand 4 (dd + 1 + 3) (60 * (dd + 1) + 64)) (hret : ∀ (H1 : Heap) (locs1 : List Loc) (ls1 : Array Slot) (pc : Nat), mMW s A v a res.2.1 res.2.2 H1 locs1 → narrow .boolean (.int res.1) = .int res.1 → decode cX12_operand pc = .ok (.ireturn, 1) → W p l e R s m args below meth c H1 locs1 0 0 Q (F0 m pc ls1 [.int res.1])) (ag_5 : Int32 → PF → PG → PR) (hag_5 : ∀ (x1 : Int32) (F : PF) (G : PG), ag_5 x1 F G = some res → ∀ (H : Heap) (locs : List Loc) (ls : Array Slot), mMW s A v a F G H locs → lv_has ls 4 [(0, .ref (a 212)), (1, .int x1)] → W p l e R s m args below meth c H locs 0 0 Q (F0 m 5 ls [])) (x1 : Int32) (F : PF) (G : PG) (hm : mb_operand_42 fu rc ag_5 x1 F G = some res) {H : Heap} {locs : List Loc} (hw : mMW s A v a F G H locs) {ls : Array Slot} (hl : lv_has ls 4 [(0, .ref (a 212)), (1, .int x1)]) : W p l e R s m args below meth c H locs 0 0 Q (F0 m 42 ls []) := by
  have hx := C.1
  have hb := C.2.1
  unfold mb_operand_42 at hm
  refine lv_goto (tgt := 5) hx hb dX12_operand_42 (by decide) ?_
  exact hag_5 x1 F G hm _ _ _ hw (lv_sub hl [0, 1] rfl)
theorem mw_operand_32 (fu : Nat) (rc : RC) {dd : Nat} (hr : mH1 l v a rc dd) {res : Int32 × PF × PG} (C : mMC p R s m args c A v RX12 cX12_operand 4 (dd + 1 + 3) (60 * (dd + 1) + 64)) (hret : ∀ (H1 : Heap) (locs1 : List Loc) (ls1 : Array Slot) (pc : Nat), mMW s A v a res.2.1 res.2.2 H1 locs1 → narrow .boolean (.int res.1) = .int res.1 → decode cX12_operand pc = .ok (.ireturn, 1) → W p l e R s m args below meth c H1 locs1 0 0 Q (F0 m pc ls1 [.int res.1])) (ag_5 : Int32 → PF → PG → PR) (hag_5 : ∀ (x1 : Int32) (F : PF) (G : PG), ag_5 x1 F G = some res → ∀ (H : Heap) (locs : List Loc) (ls : Array Slot), mMW s A v a F G H locs → lv_has ls 4 [(0, .ref (a 212)), (1, .int x1)] → W p l e R s m args below meth c H locs 0 0 Q (F0 m 5 ls [])) (x1 : Int32) (F : PF) (G : PG) (hm : mb_operand_32 fu rc ag_5 x1 F G = some res) {H : Heap} {locs : List Loc} (hw : mMW s A v a F G H locs) {ls : Array Slot} (hl : lv_has ls 4 [(0, .ref (a 212)), (1, .int x1)]) : W p l e R s m args below meth c H locs 0 0 Q (F0 m 32 ls []) := by
  have hx := C.1
  have hb := C.2.1
  unfold mb_operand_32 at hm
  refine lv_aload_n hx hb dX12_operand_32 rfl (lv_at hl 0 rfl) ?_
  refine lv_dup hx hb dX12_operand_33 rfl ?_
  refine mg_X12_233 C hw dX12_operand_34 ?_
  refine lv_iconst (v := 1) hx hb dX12_operand_37 (by decide) ?_
  refine lv_iadd hx hb dX12_operand_38 ?_
  refine mp_X12_233 C hw dX12_operand_39 (fun H locs hw => ?_)
  exact mw_operand_42 fu rc hr C hret ag_5 hag_5 x1 (fup F 42 ((F 42) + (1 : Int32))) G hm hw (lv_sub hl [0, 1] rfl)
theorem mw_operand_88 (fu : Nat) (rc : RC) {dd : Nat} (hr : mH1 l v a rc dd) {res : Int32 × PF × PG} (C : mMC p R s m args c A v RX12 cX12_operand 4 (dd + 1 + 3) (60 * (dd + 1) + 64)) (hret : ∀ (H1 : Heap) (locs1 : List Loc) (ls1 : Array Slot) (pc : Nat), mMW s A v a res.2.1 res.2.2 H1 locs1 → narrow .boolean (.int res.1) = .int res.1 → decode cX12_operand pc = .ok (.ireturn, 1) → W p l e R s m args below meth c H1 locs1 0 0 Q (F0 m pc ls1 [.int res.1])) (F : PF) (G : PG) (hm : mb_operand_88 fu rc F G = some res) {H : Heap} {locs : List Loc} (hw : mMW s A v a F G H locs) {ls : Array Slot} (hl : lv_has ls 4 []) : W p l e R s m args below meth c H locs 0 0 Q (F0 m 88 ls []) := by
  have hx := C.1
  have hb := C.2.1
  unfold mb_operand_88 at hm
  refine lv_iconst (v := 1) hx hb dX12_operand_88 (by decide) ?_
  obtain rfl := Option.some.inj hm
  exact hret _ _ _ _ hw (b01_nar (v := 1) (Or.inr rfl)) dX12_operand_89
theorem mw_operand_81 (fu : Nat) (rc : RC) {dd : Nat} (hr : mH1 l v a rc dd) {res : Int32 × PF × PG} (C : mMC p R s m args c A v RX12 cX12_operand 4 (dd + 1 + 3) (60 * (dd + 1) + 64)) (hret : ∀ (H1 : Heap) (locs1 : List Loc) (ls1 : Array Slot) (pc : Nat), mMW s A v a res.2.1 res.2.2 H1 locs1 → narrow .boolean (.int res.1) = .int res.1 → decode cX12_operand pc = .ok (.ireturn, 1) → W p l e R s m args below meth c H1 locs1 0 0 Q (F0 m pc ls1 [.int res.1])) (ag_63 : Int32 → Int32 → PF → PG → PR) (hag_63 : ∀ (x1 : Int32) (x3 : Int32) (F : PF) (G : PG), ag_63 x1 x3 F G = some res → ∀ (H : Heap) (locs : List Loc) (ls : Array Slot), mMW s A v a F G H locs → lv_has ls 4 [(0, .ref (a 212)), (1, .int x1), (3, .int x3)] → W p l e R s m args below meth c H locs 0 0 Q (F0 m 63 ls [])) (x1 : Int32) (x3 : Int32) (z0 : Int32) (F : PF) (G : PG) (hm : mb_operand_81 fu rc ag_63 x1 x3 z0 F G = some res) {H : Heap} {locs : List Loc} (hw : mMW s A v a F G H locs) {ls : Array Slot} (hl : lv_has ls 4 [(0, .ref (a 212)), (1, .int x1), (3, .int x3)]) : W p l e R s m args below meth c H locs 0 0 Q (F0 m 81 ls [.int z0]) := by
  have hx := C.1
  have hb := C.2.1
  unfold mb_operand_81 at hm
  refine lv_pop hx hb dX12_operand_81 rfl ?_
  refine lv_iinc (v := (x3 + (-1))) (lv' := [(3, .int (x3 + (-1))), (0, .ref (a 212)), (1, .int x1)]) hx hb dX12_operand_82 hl (k := 2) rfl (by rfl) (by decide) rfl (fun ls hl => ?_)
  refine lv_goto (tgt := 63) hx hb dX12_operand_85 (by decide) ?_
  exact hag_63 x1 (x3 + (-1)) F G hm _ _ _ hw (lv_sub hl [1, 2, 0] rfl)
theorem mw_operand_68 (fu : Nat) (rc : RC) {dd : Nat} (hr : mH1 l v a rc dd) {res : Int32 × PF × PG} (C : mMC p R s m args c A v RX12 cX12_operand 4 (dd + 1 + 3) (60 * (dd + 1) + 64)) (hret : ∀ (H1 : Heap) (locs1 : List Loc) (ls1 : Array Slot) (pc : Nat), mMW s A v a res.2.1 res.2.2 H1 locs1 → narrow .boolean (.int res.1) = .int res.1 → decode cX12_operand pc = .ok (.ireturn, 1) → W p l e R s m args below meth c H1 locs1 0 0 Q (F0 m pc ls1 [.int res.1])) (ag_63 : Int32 → Int32 → PF → PG → PR) (hag_63 : ∀ (x1 : Int32) (x3 : Int32) (F : PF) (G : PG), ag_63 x1 x3 F G = some res → ∀ (H : Heap) (locs : List Loc) (ls : Array Slot), mMW s A v a F G H locs → lv_has ls 4 [(0, .ref (a 212)), (1, .int x1), (3, .int x3)] → W p l e R s m args below meth c H locs 0 0 Q (F0 m 63 ls [])) (x1 : Int32) (x3 : Int32) (F : PF) (G : PG) (hm : mb_operand_68 fu rc ag_63 x1 x3 F G = some res) {H : Heap} {locs : List Loc} (hw : mMW s A v a F G H locs) {ls : Array Slot} (hl : lv_has ls 4 [(0, .ref (a 212)), (1, .int x1), (3, .int x3)]) : W p l e R s m args below meth c H locs 0 0 Q (F0 m 68 ls []) := by
  have hx := C.1
  have hb := C.2.1
  unfold mb_operand_68 at hm
  refine lv_aload_n hx hb dX12_operand_68 rfl (lv_at hl 0 rfl) ?_
  refine lv_bipush (v := 11) hx hb dX12_operand_69 (by decide) ?_
  refine lv_aload_n hx hb dX12_operand_71 rfl (lv_at hl 0 rfl) ?_
  refine mg_X12_19 C hw dX12_operand_72 ?_
  refine lv_iload_n hx hb dX12_operand_75 rfl (lv_at hl 2 rfl) ?_
  obtain ⟨hi, hm⟩ := ix_elim hm
  refine mal_5 C hw hi dX12_operand_76 ?_
  refine lv_iconst (v := 0) hx hb dX12_operand_77 (by decide) ?_
  obtain ⟨⟨r1, F1, G1⟩, hc, hm⟩ := bind_elim hm
  refine mcallI (n := 3) (As := [.int 11, .int (G 5 x3.toNatClampNeg), .int 0]) (rest := []) C hw (mk_step l v a _ fu 11 (G 5 x3.toNatClampNeg) 0 F G r1 F1 G1 hc) (mrecv_X12 C hw) mm_203 mm_204 mm_205 mm_27 mm_206 (by decide +kernel) rfl (by omega) (by omega) hl.1 rfl (Nat.le_of_ble_eq_true rfl) dX12_operand_78 (fun H locs hw => ?_)
  exact mw_operand_81 fu rc hr C hret ag_63 hag_63 x1 x3 r1 F1 G1 hm hw (lv_sub hl [0, 1, 2] rfl)
theorem mw_operand_63 (fu : Nat) (rc : RC) {dd : Nat} (hr : mH1 l v a rc dd) {res : Int32 × PF × PG} (C : mMC p R s m args c A v RX12 cX12_operand 4 (dd + 1 + 3) (60 * (dd + 1) + 64)) (hret : ∀ (H1 : Heap) (locs1 : List Loc) (ls1 : Array Slot) (pc : Nat), mMW s A v a res.2.1 res.2.2 H1 locs1 → narrow .boolean (.int res.1) = .int res.1 → decode cX12_operand pc = .ok (.ireturn, 1) → W p l e R s m args below meth c H1 locs1 0 0 Q (F0 m pc ls1 [.int res.1])) (ag_63 : Int32 → Int32 → PF → PG → PR) (hag_63 : ∀ (x1 : Int32) (x3 : Int32) (F : PF) (G : PG), ag_63 x1 x3 F G = some res → ∀ (H : Heap) (locs : List Loc) (ls : Array Slot), mMW s A v a F G H locs → lv_has ls 4 [(0, .ref (a 212)), (1, .int x1), (3, .int x3)] → W p l e R s m args below meth c H locs 0 0 Q (F0 m 63 ls [])) (x1 : Int32) (x3 : Int32) (F : PF) (G : PG) (hm : mb_operand_63 fu rc ag_63 x1 x3 F G = some res) {H : Heap} {locs : List Loc} (hw : mMW s A v a F G H locs) {ls : Array Slot} (hl : lv_has ls 4 [(0, .ref (a 212)), (1, .int x1), (3, .int x3)]) : W p l e R s m args below meth c H locs 0 0 Q (F0 m 63 ls []) := by
  have hx := C.1
  have hb := C.2.1
  unfold mb_operand_63 at hm
  refine lv_iload_n hx hb dX12_operand_63 rfl (lv_at hl 2 rfl) ?_
  refine lv_iload_n hx hb dX12_operand_64 rfl (lv_at hl 1 rfl) ?_
  refine lv_icmp_lt (tgt := 88) hx hb dX12_operand_65 (by decide) (fun c_1 => ?_) (fun c_1 => ?_)
  · have hm := (if_pos c_1).symm.trans hm
    exact mw_operand_88 fu rc hr C hret F G hm hw (lv_sub hl [] rfl)
  · have hm := (if_neg c_1).symm.trans hm
    exact mw_operand_68 fu rc hr C hret ag_63 hag_63 x1 x3 F G hm hw (lv_sub hl [0, 1, 2] rfl)
theorem mwl_operand_63 (fu : Nat) (rc : RC) {dd : Nat} (hr : mH1 l v a rc dd) {res : Int32 × PF × PG} (C : mMC p R s m args c A v RX12 cX12_operand 4 (dd + 1 + 3) (60 * (dd + 1) + 64)) (hret : ∀ (H1 : Heap) (locs1 : List Loc) (ls1 : Array Slot) (pc : Nat), mMW s A v a res.2.1 res.2.2 H1 locs1 → narrow .boolean (.int res.1) = .int res.1 → decode cX12_operand pc = .ok (.ireturn, 1) → W p l e R s m args below meth c H1 locs1 0 0 Q (F0 m pc ls1 [.int res.1])) : ∀ (n : Nat) (x1 : Int32) (x3 : Int32) (F : PF) (G : PG) (hm : ml_operand_63 fu rc n x1 x3 F G = some res) {H : Heap} {locs : List Loc} (hw : mMW s A v a F G H locs) {ls : Array Slot} (hl : lv_has ls 4 [(0, .ref (a 212)), (1, .int x1), (3, .int x3)]), W p l e R s m args below meth c H locs 0 0 Q (F0 m 63 ls []) := by
  intro n
  induction n with
  | zero =>
    intro x1 x3 F G hm
    exact no_elim (show (none : PR) = some res from hm)
  | succ n ih =>
    intro x1 x3 F G hm H locs hw ls hl
    exact mw_operand_63 fu rc hr C hret (ml_operand_63 fu rc n) (fun x1 x3 F G hm H locs ls hw hl => ih x1 x3 F G hm hw hl) x1 x3 F G hm hw hl
theorem mw_operand_59 (fu : Nat) (rc : RC) {dd : Nat} (hr : mH1 l v a rc dd) {res : Int32 × PF × PG} (C : mMC p R s m args c A v RX12 cX12_operand 4 (dd + 1 + 3) (60 * (dd + 1) + 64)) (hret : ∀ (H1 : Heap) (locs1 : List Loc) (ls1 : Array Slot) (pc : Nat), mMW s A v a res.2.1 res.2.2 H1 locs1 → narrow .boolean (.int res.1) = .int res.1 → decode cX12_operand pc = .ok (.ireturn, 1) → W p l e R s m args below meth c H1 locs1 0 0 Q (F0 m pc ls1 [.int res.1])) (x1 : Int32) (x2 : Int32) (F : PF) (G : PG) (hm : mb_operand_59 fu rc x1 x2 F G = some res) {H : Heap} {locs : List Loc} (hw : mMW s A v a F G H locs) {ls : Array Slot} (hl : lv_has ls 4 [(0, .ref (a 212)), (1, .int x1), (2, .int x2)]) : W p l e R s m args below meth c H locs 0 0 Q (F0 m 59 ls []) := by
  have hx := C.1
  have hb := C.2.1
  unfold mb_operand_59 at hm
  refine lv_iload_n hx hb dX12_operand_59 rfl (lv_at hl 2 rfl) ?_
  refine lv_iconst (v := 1) hx hb dX12_operand_60 (by decide) ?_
  refine lv_isub hx hb dX12_operand_61 ?_
  refine lv_istore_n (lv' := [(3, .int (x2 - (1 : Int32))), (0, .ref (a 212)), (1, .int x1), (2, .int x2)]) hx hb dX12_operand_62 rfl hl (by decide) rfl (fun ls hl => ?_)
  exact mwl_operand_63 fu rc hr C hret fu x1 (x2 - (1 : Int32)) F G hm hw (lv_sub hl [1, 2, 0] rfl)
theorem mw_operand_57 (fu : Nat) (rc : RC) {dd : Nat} (hr : mH1 l v a rc dd) {res : Int32 × PF × PG} (C : mMC p R s m args c A v RX12 cX12_operand 4 (dd + 1 + 3) (60 * (dd + 1) + 64)) (hret : ∀ (H1 : Heap) (locs1 : List Loc) (ls1 : Array Slot) (pc : Nat), mMW s A v a res.2.1 res.2.2 H1 locs1 → narrow .boolean (.int res.1) = .int res.1 → decode cX12_operand pc = .ok (.ireturn, 1) → W p l e R s m args below meth c H1 locs1 0 0 Q (F0 m pc ls1 [.int res.1])) (F : PF) (G : PG) (hm : mb_operand_57 fu rc F G = some res) {H : Heap} {locs : List Loc} (hw : mMW s A v a F G H locs) {ls : Array Slot} (hl : lv_has ls 4 []) : W p l e R s m args below meth c H locs 0 0 Q (F0 m 57 ls []) := by
  have hx := C.1
  have hb := C.2.1
  unfold mb_operand_57 at hm
  refine lv_iconst (v := 0) hx hb dX12_operand_57 (by decide) ?_
  obtain rfl := Option.some.inj hm
  exact hret _ _ _ _ hw (b01_nar (v := 0) (Or.inl rfl)) dX12_operand_58
theorem mw_operand_54 (fu : Nat) (rc : RC) {dd : Nat} (hr : mH1 l v a rc dd) {res : Int32 × PF × PG} (C : mMC p R s m args c A v RX12 cX12_operand 4 (dd + 1 + 3) (60 * (dd + 1) + 64)) (hret : ∀ (H1 : Heap) (locs1 : List Loc) (ls1 : Array Slot) (pc : Nat), mMW s A v a res.2.1 res.2.2 H1 locs1 → narrow .boolean (.int res.1) = .int res.1 → decode cX12_operand pc = .ok (.ireturn, 1) → W p l e R s m args below meth c H1 locs1 0 0 Q (F0 m pc ls1 [.int res.1])) (x1 : Int32) (x2 : Int32) (z0 : Int32) (F : PF) (G : PG) (hm : mb_operand_54 fu rc x1 x2 z0 F G = some res) {H : Heap} {locs : List Loc} (hw : mMW s A v a F G H locs) {ls : Array Slot} (hl : lv_has ls 4 [(0, .ref (a 212)), (1, .int x1), (2, .int x2)]) : W p l e R s m args below meth c H locs 0 0 Q (F0 m 54 ls [.int z0]) := by
  have hx := C.1
  have hb := C.2.1
  unfold mb_operand_54 at hm
  refine lv_if_ne (tgt := 59) hx hb dX12_operand_54 (by decide) (fun c_1 => ?_) (fun c_1 => ?_)
  · have hm := (if_neg c_1).symm.trans hm
    exact mw_operand_59 fu rc hr C hret x1 x2 F G hm hw (lv_sub hl [0, 1, 2] rfl)
  · have hm := (if_pos c_1).symm.trans hm
    exact mw_operand_57 fu rc hr C hret F G hm hw (lv_sub hl [] rfl)
theorem mw_operand_45 (fu : Nat) (rc : RC) {dd : Nat} (hr : mH1 l v a rc dd) {res : Int32 × PF × PG} (C : mMC p R s m args c A v RX12 cX12_operand 4 (dd + 1 + 3) (60 * (dd + 1) + 64)) (hret : ∀ (H1 : Heap) (locs1 : List Loc) (ls1 : Array Slot) (pc : Nat), mMW s A v a res.2.1 res.2.2 H1 locs1 → narrow .boolean (.int res.1) = .int res.1 → decode cX12_operand pc = .ok (.ireturn, 1) → W p l e R s m args below meth c H1 locs1 0 0 Q (F0 m pc ls1 [.int res.1])) (x1 : Int32) (F : PF) (G : PG) (hm : mb_operand_45 fu rc x1 F G = some res) {H : Heap} {locs : List Loc} (hw : mMW s A v a F G H locs) {ls : Array Slot} (hl : lv_has ls 4 [(0, .ref (a 212)), (1, .int x1)]) : W p l e R s m args below meth c H locs 0 0 Q (F0 m 45 ls []) := by
  have hx := C.1
  have hb := C.2.1
  unfold mb_operand_45 at hm
  refine lv_aload_n hx hb dX12_operand_45 rfl (lv_at hl 0 rfl) ?_
  refine mg_X12_233 C hw dX12_operand_46 ?_
  refine lv_istore_n (lv' := [(2, .int (F 42)), (0, .ref (a 212)), (1, .int x1)]) hx hb dX12_operand_49 rfl hl (by decide) rfl (fun ls hl => ?_)
  refine lv_aload_n hx hb dX12_operand_50 rfl (lv_at hl 1 rfl) ?_
  obtain ⟨⟨r1, F1, G1⟩, hc, hm⟩ := bind_elim hm
  refine mcallI (n := 0) (As := []) (rest := []) C hw (hr.2.2.2.2.2.2.2.2 _ F G r1 F1 G1 hc) (mrecv_X12 C hw) mm_277 mm_278 mm_279 mm_27 mm_280 (by decide +kernel) rfl (by omega) (by omega) hl.1 rfl (Nat.le_of_ble_eq_true rfl) dX12_operand_51 (fun H locs hw => ?_)
  exact mw_operand_54 fu rc hr C hret x1 (F 42) r1 F1 G1 hm hw (lv_sub hl [1, 2, 0] rfl)
theorem mw_operand_29 (fu : Nat) (rc : RC) {dd : Nat} (hr : mH1 l v a rc dd) {res : Int32 × PF × PG} (C : mMC p R s m args c A v RX12 cX12_operand 4 (dd + 1 + 3) (60 * (dd + 1) + 64)) (hret : ∀ (H1 : Heap) (locs1 : List Loc) (ls1 : Array Slot) (pc : Nat), mMW s A v a res.2.1 res.2.2 H1 locs1 → narrow .boolean (.int res.1) = .int res.1 → decode cX12_operand pc = .ok (.ireturn, 1) → W p l e R s m args below meth c H1 locs1 0 0 Q (F0 m pc ls1 [.int res.1])) (ag_5 : Int32 → PF → PG → PR) (hag_5 : ∀ (x1 : Int32) (F : PF) (G : PG), ag_5 x1 F G = some res → ∀ (H : Heap) (locs : List Loc) (ls : Array Slot), mMW s A v a F G H locs → lv_has ls 4 [(0, .ref (a 212)), (1, .int x1)] → W p l e R s m args below meth c H locs 0 0 Q (F0 m 5 ls [])) (x1 : Int32) (z0 : Int32) (F : PF) (G : PG) (hm : mb_operand_29 fu rc ag_5 x1 z0 F G = some res) {H : Heap} {locs : List Loc} (hw : mMW s A v a F G H locs) {ls : Array Slot} (hl : lv_has ls 4 [(0, .ref (a 212)), (1, .int x1)]) : W p l e R s m args below meth c H locs 0 0 Q (F0 m 29 ls [.int z0]) := by
  have hx := C.1
  have hb := C.2.1
  unfold mb_operand_29 at hm
  refine lv_if_eq (tgt := 45) hx hb dX12_operand_29 (by decide) (fun c_1 => ?_) (fun c_1 => ?_)
  · have hm := (if_pos c_1).symm.trans hm
    exact mw_operand_45 fu rc hr C hret x1 F G hm hw (lv_sub hl [0, 1] rfl)
  · have hm := (if_neg c_1).symm.trans hm
    exact mw_operand_32 fu rc hr C hret ag_5 hag_5 x1 F G hm hw (lv_sub hl [0, 1] rfl)
theorem mw_operand_23 (fu : Nat) (rc : RC) {dd : Nat} (hr : mH1 l v a rc dd) {res : Int32 × PF × PG} (C : mMC p R s m args c A v RX12 cX12_operand 4 (dd + 1 + 3) (60 * (dd + 1) + 64)) (hret : ∀ (H1 : Heap) (locs1 : List Loc) (ls1 : Array Slot) (pc : Nat), mMW s A v a res.2.1 res.2.2 H1 locs1 → narrow .boolean (.int res.1) = .int res.1 → decode cX12_operand pc = .ok (.ireturn, 1) → W p l e R s m args below meth c H1 locs1 0 0 Q (F0 m pc ls1 [.int res.1])) (ag_5 : Int32 → PF → PG → PR) (hag_5 : ∀ (x1 : Int32) (F : PF) (G : PG), ag_5 x1 F G = some res → ∀ (H : Heap) (locs : List Loc) (ls : Array Slot), mMW s A v a F G H locs → lv_has ls 4 [(0, .ref (a 212)), (1, .int x1)] → W p l e R s m args below meth c H locs 0 0 Q (F0 m 5 ls [])) (x1 : Int32) (F : PF) (G : PG) (hm : mb_operand_23 fu rc ag_5 x1 F G = some res) {H : Heap} {locs : List Loc} (hw : mMW s A v a F G H locs) {ls : Array Slot} (hl : lv_has ls 4 [(0, .ref (a 212)), (1, .int x1)]) : W p l e R s m args below meth c H locs 0 0 Q (F0 m 23 ls []) := by
  have hx := C.1
  have hb := C.2.1
  unfold mb_operand_23 at hm
  refine lv_aload_n hx hb dX12_operand_23 rfl (lv_at hl 0 rfl) ?_
  refine lv_bipush (v := 44) hx hb dX12_operand_24 (by decide) ?_
  obtain ⟨⟨r1, F1, G1⟩, hc, hm⟩ := bind_elim hm
  refine mcallI (n := 1) (As := [.int 44]) (rest := []) C hw (mk_isSign l v a _ fu 44 F G r1 F1 G1 hc) (mrecv_X12 C hw) mm_183 mm_184 mm_185 mm_27 mm_186 (by decide +kernel) rfl (by omega) (by omega) hl.1 rfl (Nat.le_of_ble_eq_true rfl) dX12_operand_26 (fun H locs hw => ?_)
  exact mw_operand_29 fu rc hr C hret ag_5 hag_5 x1 r1 F1 G1 hm hw (lv_sub hl [0, 1] rfl)
theorem mw_operand_20 (fu : Nat) (rc : RC) {dd : Nat} (hr : mH1 l v a rc dd) {res : Int32 × PF × PG} (C : mMC p R s m args c A v RX12 cX12_operand 4 (dd + 1 + 3) (60 * (dd + 1) + 64)) (hret : ∀ (H1 : Heap) (locs1 : List Loc) (ls1 : Array Slot) (pc : Nat), mMW s A v a res.2.1 res.2.2 H1 locs1 → narrow .boolean (.int res.1) = .int res.1 → decode cX12_operand pc = .ok (.ireturn, 1) → W p l e R s m args below meth c H1 locs1 0 0 Q (F0 m pc ls1 [.int res.1])) (ag_5 : Int32 → PF → PG → PR) (hag_5 : ∀ (x1 : Int32) (F : PF) (G : PG), ag_5 x1 F G = some res → ∀ (H : Heap) (locs : List Loc) (ls : Array Slot), mMW s A v a F G H locs → lv_has ls 4 [(0, .ref (a 212)), (1, .int x1)] → W p l e R s m args below meth c H locs 0 0 Q (F0 m 5 ls [])) (x1 : Int32) (z0 : Int32) (F : PF) (G : PG) (hm : mb_operand_20 fu rc ag_5 x1 z0 F G = some res) {H : Heap} {locs : List Loc} (hw : mMW s A v a F G H locs) {ls : Array Slot} (hl : lv_has ls 4 [(0, .ref (a 212)), (1, .int x1)]) : W p l e R s m args below meth c H locs 0 0 Q (F0 m 20 ls [.int z0]) := by
  have hx := C.1
  have hb := C.2.1
  unfold mb_operand_20 at hm
  refine lv_if_ne (tgt := 32) hx hb dX12_operand_20 (by decide) (fun c_1 => ?_) (fun c_1 => ?_)
  · have hm := (if_neg c_1).symm.trans hm
    exact mw_operand_32 fu rc hr C hret ag_5 hag_5 x1 F G hm hw (lv_sub hl [0, 1] rfl)
  · have hm := (if_pos c_1).symm.trans hm
    exact mw_operand_23 fu rc hr C hret ag_5 hag_5 x1 F G hm hw (lv_sub hl [0, 1] rfl)
theorem mw_operand_14 (fu : Nat) (rc : RC) {dd : Nat} (hr : mH1 l v a rc dd) {res : Int32 × PF × PG} (C : mMC p R s m args c A v RX12 cX12_operand 4 (dd + 1 + 3) (60 * (dd + 1) + 64)) (hret : ∀ (H1 : Heap) (locs1 : List Loc) (ls1 : Array Slot) (pc : Nat), mMW s A v a res.2.1 res.2.2 H1 locs1 → narrow .boolean (.int res.1) = .int res.1 → decode cX12_operand pc = .ok (.ireturn, 1) → W p l e R s m args below meth c H1 locs1 0 0 Q (F0 m pc ls1 [.int res.1])) (ag_5 : Int32 → PF → PG → PR) (hag_5 : ∀ (x1 : Int32) (F : PF) (G : PG), ag_5 x1 F G = some res → ∀ (H : Heap) (locs : List Loc) (ls : Array Slot), mMW s A v a F G H locs → lv_has ls 4 [(0, .ref (a 212)), (1, .int x1)] → W p l e R s m args below meth c H locs 0 0 Q (F0 m 5 ls [])) (x1 : Int32) (F : PF) (G : PG) (hm : mb_operand_14 fu rc ag_5 x1 F G = some res) {H : Heap} {locs : List Loc} (hw : mMW s A v a F G H locs) {ls : Array Slot} (hl : lv_has ls 4 [(0, .ref (a 212)), (1, .int x1)]) : W p l e R s m args below meth c H locs 0 0 Q (F0 m 14 ls []) := by
  have hx := C.1
  have hb := C.2.1
  unfold mb_operand_14 at hm
  refine lv_aload_n hx hb dX12_operand_14 rfl (lv_at hl 0 rfl) ?_
  refine lv_bipush (v := 43) hx hb dX12_operand_15 (by decide) ?_
  obtain ⟨⟨r1, F1, G1⟩, hc, hm⟩ := bind_elim hm
  refine mcallI (n := 1) (As := [.int 43]) (rest := []) C hw (mk_isSign l v a _ fu 43 F G r1 F1 G1 hc) (mrecv_X12 C hw) mm_183 mm_184 mm_185 mm_27 mm_186 (by decide +kernel) rfl (by omega) (by omega) hl.1 rfl (Nat.le_of_ble_eq_true rfl) dX12_operand_17 (fun H locs hw => ?_)
  exact mw_operand_20 fu rc hr C hret ag_5 hag_5 x1 r1 F1 G1 hm hw (lv_sub hl [0, 1] rfl)
theorem mw_operand_11 (fu : Nat) (rc : RC) {dd : Nat} (hr : mH1 l v a rc dd) {res : Int32 × PF × PG} (C : mMC p R s m args c A v RX12 cX12_operand 4 (dd + 1 + 3) (60 * (dd + 1) + 64)) (hret : ∀ (H1 : Heap) (locs1 : List Loc) (ls1 : Array Slot) (pc : Nat), mMW s A v a res.2.1 res.2.2 H1 locs1 → narrow .boolean (.int res.1) = .int res.1 → decode cX12_operand pc = .ok (.ireturn, 1) → W p l e R s m args below meth c H1 locs1 0 0 Q (F0 m pc ls1 [.int res.1])) (ag_5 : Int32 → PF → PG → PR) (hag_5 : ∀ (x1 : Int32) (F : PF) (G : PG), ag_5 x1 F G = some res → ∀ (H : Heap) (locs : List Loc) (ls : Array Slot), mMW s A v a F G H locs → lv_has ls 4 [(0, .ref (a 212)), (1, .int x1)] → W p l e R s m args below meth c H locs 0 0 Q (F0 m 5 ls [])) (x1 : Int32) (z0 : Int32) (F : PF) (G : PG) (hm : mb_operand_11 fu rc ag_5 x1 z0 F G = some res) {H : Heap} {locs : List Loc} (hw : mMW s A v a F G H locs) {ls : Array Slot} (hl : lv_has ls 4 [(0, .ref (a 212)), (1, .int x1)]) : W p l e R s m args below meth c H locs 0 0 Q (F0 m 11 ls [.int z0]) := by
  have hx := C.1
  have hb := C.2.1
  unfold mb_operand_11 at hm
  refine lv_if_ne (tgt := 32) hx hb dX12_operand_11 (by decide) (fun c_1 => ?_) (fun c_1 => ?_)
  · have hm := (if_neg c_1).symm.trans hm
    exact mw_operand_32 fu rc hr C hret ag_5 hag_5 x1 F G hm hw (lv_sub hl [0, 1] rfl)
  · have hm := (if_pos c_1).symm.trans hm
    exact mw_operand_14 fu rc hr C hret ag_5 hag_5 x1 F G hm hw (lv_sub hl [0, 1] rfl)
theorem mw_operand_5 (fu : Nat) (rc : RC) {dd : Nat} (hr : mH1 l v a rc dd) {res : Int32 × PF × PG} (C : mMC p R s m args c A v RX12 cX12_operand 4 (dd + 1 + 3) (60 * (dd + 1) + 64)) (hret : ∀ (H1 : Heap) (locs1 : List Loc) (ls1 : Array Slot) (pc : Nat), mMW s A v a res.2.1 res.2.2 H1 locs1 → narrow .boolean (.int res.1) = .int res.1 → decode cX12_operand pc = .ok (.ireturn, 1) → W p l e R s m args below meth c H1 locs1 0 0 Q (F0 m pc ls1 [.int res.1])) (ag_5 : Int32 → PF → PG → PR) (hag_5 : ∀ (x1 : Int32) (F : PF) (G : PG), ag_5 x1 F G = some res → ∀ (H : Heap) (locs : List Loc) (ls : Array Slot), mMW s A v a F G H locs → lv_has ls 4 [(0, .ref (a 212)), (1, .int x1)] → W p l e R s m args below meth c H locs 0 0 Q (F0 m 5 ls [])) (x1 : Int32) (F : PF) (G : PG) (hm : mb_operand_5 fu rc ag_5 x1 F G = some res) {H : Heap} {locs : List Loc} (hw : mMW s A v a F G H locs) {ls : Array Slot} (hl : lv_has ls 4 [(0, .ref (a 212)), (1, .int x1)]) : W p l e R s m args below meth c H locs 0 0 Q (F0 m 5 ls []) := by
  have hx := C.1
  have hb := C.2.1
  unfold mb_operand_5 at hm
  refine lv_aload_n hx hb dX12_operand_5 rfl (lv_at hl 0 rfl) ?_
  refine lv_bipush (v := 39) hx hb dX12_operand_6 (by decide) ?_
  obtain ⟨⟨r1, F1, G1⟩, hc, hm⟩ := bind_elim hm
  refine mcallI (n := 1) (As := [.int 39]) (rest := []) C hw (mk_isSign l v a _ fu 39 F G r1 F1 G1 hc) (mrecv_X12 C hw) mm_183 mm_184 mm_185 mm_27 mm_186 (by decide +kernel) rfl (by omega) (by omega) hl.1 rfl (Nat.le_of_ble_eq_true rfl) dX12_operand_8 (fun H locs hw => ?_)
  exact mw_operand_11 fu rc hr C hret ag_5 hag_5 x1 r1 F1 G1 hm hw (lv_sub hl [0, 1] rfl)
theorem mwl_operand_5 (fu : Nat) (rc : RC) {dd : Nat} (hr : mH1 l v a rc dd) {res : Int32 × PF × PG} (C : mMC p R s m args c A v RX12 cX12_operand 4 (dd + 1 + 3) (60 * (dd + 1) + 64)) (hret : ∀ (H1 : Heap) (locs1 : List Loc) (ls1 : Array Slot) (pc : Nat), mMW s A v a res.2.1 res.2.2 H1 locs1 → narrow .boolean (.int res.1) = .int res.1 → decode cX12_operand pc = .ok (.ireturn, 1) → W p l e R s m args below meth c H1 locs1 0 0 Q (F0 m pc ls1 [.int res.1])) : ∀ (n : Nat) (x1 : Int32) (F : PF) (G : PG) (hm : ml_operand_5 fu rc n x1 F G = some res) {H : Heap} {locs : List Loc} (hw : mMW s A v a F G H locs) {ls : Array Slot} (hl : lv_has ls 4 [(0, .ref (a 212)), (1, .int x1)]), W p l e R s m args below meth c H locs 0 0 Q (F0 m 5 ls []) := by
  intro n
  induction n with
  | zero =>
    intro x1 F G hm
    exact no_elim (show (none : PR) = some res from hm)
  | succ n ih =>
    intro x1 F G hm H locs hw ls hl
    exact mw_operand_5 fu rc hr C hret (ml_operand_5 fu rc n) (fun x1 F G hm H locs ls hw hl => ih x1 F G hm hw hl) x1 F G hm hw hl
theorem mw_operand_0 (fu : Nat) (rc : RC) {dd : Nat} (hr : mH1 l v a rc dd) {res : Int32 × PF × PG} (C : mMC p R s m args c A v RX12 cX12_operand 4 (dd + 1 + 3) (60 * (dd + 1) + 64)) (hret : ∀ (H1 : Heap) (locs1 : List Loc) (ls1 : Array Slot) (pc : Nat), mMW s A v a res.2.1 res.2.2 H1 locs1 → narrow .boolean (.int res.1) = .int res.1 → decode cX12_operand pc = .ok (.ireturn, 1) → W p l e R s m args below meth c H1 locs1 0 0 Q (F0 m pc ls1 [.int res.1])) (F : PF) (G : PG) (hm : mb_operand_0 fu rc F G = some res) {H : Heap} {locs : List Loc} (hw : mMW s A v a F G H locs) {ls : Array Slot} (hl : lv_has ls 4 [(0, .ref (a 212))]) : W p l e R s m args below meth c H locs 0 0 Q (F0 m 0 ls []) := by
  have hx := C.1
  have hb := C.2.1
  unfold mb_operand_0 at hm
  refine lv_aload_n hx hb dX12_operand_0 rfl (lv_at hl 0 rfl) ?_
  refine mg_X12_233 C hw dX12_operand_1 ?_
  refine lv_istore_n (lv' := [(1, .int (F 42)), (0, .ref (a 212))]) hx hb dX12_operand_4 rfl hl (by decide) rfl (fun ls hl => ?_)
  exact mwl_operand_5 fu rc hr C hret fu (F 42) F G hm hw (lv_sub hl [1, 0] rfl)
theorem mq_operand (l : Launch) (v : EV) (a : Nat → Nat) (sz : Nat) (fu : Nat) (rc : RC) {dd : Nat} (hr : mH1 l v a rc dd) (F : PF) (G : PG) (r : Int32) (F1 : PF) (G1 : PG) (hm : mh_operand fu rc F G = some (r, F1, G1)) : mMI l yX12_operand cX12_operand 4 (some .boolean) (dd + 1 + 3) (60 * (dd + 1) + 64) v a sz [.ref (a 212)] F G r F1 G1 := mMI.of (ty := .boolean) (by decide) rfl (Nat.le_of_ble_eq_true rfl) (fun p e R s m args below meth c Q A H locs ls C hw hl hret => mw_operand_0 fu rc hr (res := (r, F1, G1)) C hret F G hm hw hl)
def mb_plain_210 (fu : Nat) (rc : RC) (z0 : Int32) (F : PF) (G : PG) : PR := if b01 z0 = true then (some (z0, F, G)) else none
def mb_plain_205 (fu : Nat) (rc : RC) (x1 : Int32) (F : PF) (G : PG) : PR := (rc 6 x1 0 F G).bind (fun q => mb_plain_210 fu rc q.1 q.2.1 q.2.2)
def mb_plain_202 (fu : Nat) (rc : RC) (z0 : Int32) (F : PF) (G : PG) : PR := mb_plain_210 fu rc z0 F G
def mb_plain_197 (fu : Nat) (rc : RC) (x1 : Int32) (F : PF) (G : PG) : PR := (rc 5 x1 0 F G).bind (fun q => mb_plain_202 fu rc q.1 q.2.1 q.2.2)
def mb_plain_190 (fu : Nat) (rc : RC) (x1 : Int32) (F : PF) (G : PG) : PR := if (F 54) = (0 : Int32) then mb_plain_205 fu rc x1 F G else mb_plain_197 fu rc x1 F G
def mb_plain_175 (fu : Nat) (rc : RC) (F : PF) (G : PG) : PR := mb_plain_190 fu rc (F 42) (fup F 42 ((F 42) + (1 : Int32))) G
def mb_plain_174 (fu : Nat) (rc : RC) (z0 : Int32) (F : PF) (G : PG) : PR := if b01 z0 = true then (some (z0, F, G)) else none
def mb_plain_169 (fu : Nat) (rc : RC) (F : PF) (G : PG) : PR := (mf_fails fu 2 F G).bind (fun q => mb_plain_174 fu rc q.1 q.2.1 q.2.2)
def mb_plain_156 (fu : Nat) (rc : RC) (F : PF) (G : PG) : PR := if ixb (F 42) 4002 = true then (if (G 4 (F 42).toNatClampNeg) = (1 : Int32) then mb_plain_175 fu rc F G else mb_plain_169 fu rc F G) else none
def mb_plain_143 (fu : Nat) (rc : RC) (F : PF) (G : PG) : PR := some (0, F, G)
def mb_plain_153 (fu : Nat) (rc : RC) (z0 : Int32) (F : PF) (G : PG) : PR := some (1, F, G)
def mb_plain_145 (fu : Nat) (rc : RC) (F : PF) (G : PG) : PR := (mf_step fu 21 0 0 F G).bind (fun q => mb_plain_153 fu rc q.1 q.2.1 q.2.2)
def mb_plain_140 (fu : Nat) (rc : RC) (z0 : Int32) (F : PF) (G : PG) : PR := if z0 = (0 : Int32) then mb_plain_143 fu rc F G else mb_plain_145 fu rc F G
def mb_plain_134 (fu : Nat) (rc : RC) (F : PF) (G : PG) : PR := (mf_closeSign fu 23 F G).bind (fun q => mb_plain_140 fu rc q.1 q.2.1 q.2.2)
def mb_plain_131 (fu : Nat) (rc : RC) (z0 : Int32) (F : PF) (G : PG) : PR := if z0 = (0 : Int32) then mb_plain_143 fu rc F G else mb_plain_134 fu rc F G
def mb_plain_125 (fu : Nat) (rc : RC) (F : PF) (G : PG) : PR := (mf_openSign fu 22 F G).bind (fun q => mb_plain_131 fu rc q.1 q.2.1 q.2.2)
def mb_plain_115 (fu : Nat) (rc : RC) (F : PF) (G : PG) : PR := mb_plain_125 fu rc (fup F 42 ((F 42) + (1 : Int32))) G
def mb_plain_110 (fu : Nat) (rc : RC) (F : PF) (G : PG) : PR := mb_plain_115 fu rc (fup F 55 (1 : Int32)) G
def mb_plain_95 (fu : Nat) (rc : RC) (F : PF) (G : PG) : PR := if ixb (F 42) 4002 = true then ((mf_note fu 10 (G 6 (F 42).toNatClampNeg) F G).bind (fun q => mb_plain_110 fu rc q.2.1 q.2.2)) else none
def mb_plain_88 (fu : Nat) (rc : RC) (F : PF) (G : PG) : PR := if (F 54) = (0 : Int32) then mb_plain_115 fu rc F G else mb_plain_95 fu rc F G
def mb_plain_85 (fu : Nat) (rc : RC) (z0 : Int32) (F : PF) (G : PG) : PR := if z0 = (0 : Int32) then mb_plain_156 fu rc F G else mb_plain_88 fu rc F G
def mb_plain_79 (fu : Nat) (rc : RC) (F : PF) (G : PG) : PR := (mf_isWord fu 13 F G).bind (fun q => mb_plain_85 fu rc q.1 q.2.1 q.2.2)
def mb_plain_78 (fu : Nat) (rc : RC) (z0 : Int32) (F : PF) (G : PG) : PR := if b01 z0 = true then (some (z0, F, G)) else none
def mb_plain_77 (fu : Nat) (rc : RC) (F : PF) (G : PG) : PR := mb_plain_78 fu rc 0 F G
def mb_plain_73 (fu : Nat) (rc : RC) (F : PF) (G : PG) : PR := mb_plain_78 fu rc 1 F G
def mb_plain_70 (fu : Nat) (rc : RC) (z0 : Int32) (F : PF) (G : PG) : PR := if z0 = (0 : Int32) then mb_plain_77 fu rc F G else mb_plain_73 fu rc F G
def mb_plain_64 (fu : Nat) (rc : RC) (F : PF) (G : PG) : PR := (mf_closeSign fu 23 F G).bind (fun q => mb_plain_70 fu rc q.1 q.2.1 q.2.2)
def mb_plain_61 (fu : Nat) (rc : RC) (z0 : Int32) (F : PF) (G : PG) : PR := if z0 = (0 : Int32) then mb_plain_77 fu rc F G else mb_plain_64 fu rc F G
def mb_plain_57 (fu : Nat) (rc : RC) (F : PF) (G : PG) : PR := (rc 4 0 0 F G).bind (fun q => mb_plain_61 fu rc q.1 q.2.1 q.2.2)
def mb_plain_54 (fu : Nat) (rc : RC) (z0 : Int32) (F : PF) (G : PG) : PR := if z0 = (0 : Int32) then mb_plain_77 fu rc F G else mb_plain_57 fu rc F G
def mb_plain_50 (fu : Nat) (rc : RC) (F : PF) (G : PG) : PR := (mf_opens fu F G).bind (fun q => mb_plain_54 fu rc q.1 q.2.1 q.2.2)
def mb_plain_47 (fu : Nat) (rc : RC) (z0 : Int32) (F : PF) (G : PG) : PR := if z0 = (0 : Int32) then mb_plain_79 fu rc F G else mb_plain_50 fu rc F G
def mb_plain_41 (fu : Nat) (rc : RC) (F : PF) (G : PG) : PR := (mf_isSign fu 22 F G).bind (fun q => mb_plain_47 fu rc q.1 q.2.1 q.2.2)
def mb_plain_39 (fu : Nat) (rc : RC) (F : PF) (G : PG) : PR := some (1, F, G)
def mb_plain_28 (fu : Nat) (rc : RC) (z0 : Int32) (F : PF) (G : PG) : PR := mb_plain_39 fu rc (fup F 42 ((F 42) + (1 : Int32))) G
def mb_plain_13 (fu : Nat) (rc : RC) (F : PF) (G : PG) : PR := if ixb (F 42) 4002 = true then ((mf_step fu 0 (G 5 (F 42).toNatClampNeg) 0 F G).bind (fun q => mb_plain_28 fu rc q.1 q.2.1 q.2.2)) else none
def mb_plain_0 (fu : Nat) (rc : RC) (F : PF) (G : PG) : PR := if ixb (F 42) 4002 = true then (if (G 4 (F 42).toNatClampNeg) = (3 : Int32) then mb_plain_13 fu rc F G else mb_plain_41 fu rc F G) else none
def mh_plain (fu : Nat) (rc : RC) (F : PF) (G : PG) : PR := mb_plain_0 fu rc F G
theorem mw_plain_210 (fu : Nat) (rc : RC) {dd : Nat} (hr : mH1 l v a rc dd) {res : Int32 × PF × PG} (C : mMC p R s m args c A v RX12 cX12_plain 2 (dd + 1 + 3) (60 * (dd + 1) + 64)) (hret : ∀ (H1 : Heap) (locs1 : List Loc) (ls1 : Array Slot) (pc : Nat), mMW s A v a res.2.1 res.2.2 H1 locs1 → narrow .boolean (.int res.1) = .int res.1 → decode cX12_plain pc = .ok (.ireturn, 1) → W p l e R s m args below meth c H1 locs1 0 0 Q (F0 m pc ls1 [.int res.1])) (z0 : Int32) (F : PF) (G : PG) (hm : mb_plain_210 fu rc z0 F G = some res) {H : Heap} {locs : List Loc} (hw : mMW s A v a F G H locs) {ls : Array Slot} (hl : lv_has ls 2 []) : W p l e R s m args below meth c H locs 0 0 Q (F0 m 210 ls [.int z0]) := by
  have hx := C.1
  have hb := C.2.1
  unfold mb_plain_210 at hm
  obtain ⟨hz, hm⟩ := b01_elim hm
  obtain rfl := Option.some.inj hm
  exact hret _ _ _ _ hw (b01_nar hz) dX12_plain_210
theorem mw_plain_205 (fu : Nat) (rc : RC) {dd : Nat} (hr : mH1 l v a rc dd) {res : Int32 × PF × PG} (C : mMC p R s m args c A v RX12 cX12_plain 2 (dd + 1 + 3) (60 * (dd + 1) + 64)) (hret : ∀ (H1 : Heap) (locs1 : List Loc) (ls1 : Array Slot) (pc : Nat), mMW s A v a res.2.1 res.2.2 H1 locs1 → narrow .boolean (.int res.1) = .int res.1 → decode cX12_plain pc = .ok (.ireturn, 1) → W p l e R s m args below meth c H1 locs1 0 0 Q (F0 m pc ls1 [.int res.1])) (x1 : Int32) (F : PF) (G : PG) (hm : mb_plain_205 fu rc x1 F G = some res) {H : Heap} {locs : List Loc} (hw : mMW s A v a F G H locs) {ls : Array Slot} (hl : lv_has ls 2 [(0, .ref (a 212)), (1, .int x1)]) : W p l e R s m args below meth c H locs 0 0 Q (F0 m 205 ls []) := by
  have hx := C.1
  have hb := C.2.1
  unfold mb_plain_205 at hm
  refine lv_aload_n hx hb dX12_plain_205 rfl (lv_at hl 0 rfl) ?_
  refine lv_iload_n hx hb dX12_plain_206 rfl (lv_at hl 1 rfl) ?_
  obtain ⟨⟨r1, F1, G1⟩, hc, hm⟩ := bind_elim hm
  refine mcallI (n := 1) (As := [.int x1]) (rest := []) C hw (hr.2.2.2.2.2.2.1 _ x1 F G r1 F1 G1 hc) (mrecv_X12 C hw) mm_284 mm_285 mm_286 mm_27 mm_275 (by decide +kernel) rfl (by omega) (by omega) hl.1 rfl (Nat.le_of_ble_eq_true rfl) dX12_plain_207 (fun H locs hw => ?_)
  exact mw_plain_210 fu rc hr C hret r1 F1 G1 hm hw (lv_sub hl [] rfl)
theorem mw_plain_202 (fu : Nat) (rc : RC) {dd : Nat} (hr : mH1 l v a rc dd) {res : Int32 × PF × PG} (C : mMC p R s m args c A v RX12 cX12_plain 2 (dd + 1 + 3) (60 * (dd + 1) + 64)) (hret : ∀ (H1 : Heap) (locs1 : List Loc) (ls1 : Array Slot) (pc : Nat), mMW s A v a res.2.1 res.2.2 H1 locs1 → narrow .boolean (.int res.1) = .int res.1 → decode cX12_plain pc = .ok (.ireturn, 1) → W p l e R s m args below meth c H1 locs1 0 0 Q (F0 m pc ls1 [.int res.1])) (z0 : Int32) (F : PF) (G : PG) (hm : mb_plain_202 fu rc z0 F G = some res) {H : Heap} {locs : List Loc} (hw : mMW s A v a F G H locs) {ls : Array Slot} (hl : lv_has ls 2 []) : W p l e R s m args below meth c H locs 0 0 Q (F0 m 202 ls [.int z0]) := by
  have hx := C.1
  have hb := C.2.1
  unfold mb_plain_202 at hm
  refine lv_goto (tgt := 210) hx hb dX12_plain_202 (by decide) ?_
  exact mw_plain_210 fu rc hr C hret z0 F G hm hw (lv_sub hl [] rfl)
theorem mw_plain_197 (fu : Nat) (rc : RC) {dd : Nat} (hr : mH1 l v a rc dd) {res : Int32 × PF × PG} (C : mMC p R s m args c A v RX12 cX12_plain 2 (dd + 1 + 3) (60 * (dd + 1) + 64)) (hret : ∀ (H1 : Heap) (locs1 : List Loc) (ls1 : Array Slot) (pc : Nat), mMW s A v a res.2.1 res.2.2 H1 locs1 → narrow .boolean (.int res.1) = .int res.1 → decode cX12_plain pc = .ok (.ireturn, 1) → W p l e R s m args below meth c H1 locs1 0 0 Q (F0 m pc ls1 [.int res.1])) (x1 : Int32) (F : PF) (G : PG) (hm : mb_plain_197 fu rc x1 F G = some res) {H : Heap} {locs : List Loc} (hw : mMW s A v a F G H locs) {ls : Array Slot} (hl : lv_has ls 2 [(0, .ref (a 212)), (1, .int x1)]) : W p l e R s m args below meth c H locs 0 0 Q (F0 m 197 ls []) := by
  have hx := C.1
  have hb := C.2.1
  unfold mb_plain_197 at hm
  refine lv_aload_n hx hb dX12_plain_197 rfl (lv_at hl 0 rfl) ?_
  refine lv_iload_n hx hb dX12_plain_198 rfl (lv_at hl 1 rfl) ?_
  obtain ⟨⟨r1, F1, G1⟩, hc, hm⟩ := bind_elim hm
  refine mcallI (n := 1) (As := [.int x1]) (rest := []) C hw (hr.2.2.2.2.2.1 _ x1 F G r1 F1 G1 hc) (mrecv_X12 C hw) mm_281 mm_282 mm_283 mm_27 mm_268 (by decide +kernel) rfl (by omega) (by omega) hl.1 rfl (Nat.le_of_ble_eq_true rfl) dX12_plain_199 (fun H locs hw => ?_)
  exact mw_plain_202 fu rc hr C hret r1 F1 G1 hm hw (lv_sub hl [] rfl)
theorem mw_plain_190 (fu : Nat) (rc : RC) {dd : Nat} (hr : mH1 l v a rc dd) {res : Int32 × PF × PG} (C : mMC p R s m args c A v RX12 cX12_plain 2 (dd + 1 + 3) (60 * (dd + 1) + 64)) (hret : ∀ (H1 : Heap) (locs1 : List Loc) (ls1 : Array Slot) (pc : Nat), mMW s A v a res.2.1 res.2.2 H1 locs1 → narrow .boolean (.int res.1) = .int res.1 → decode cX12_plain pc = .ok (.ireturn, 1) → W p l e R s m args below meth c H1 locs1 0 0 Q (F0 m pc ls1 [.int res.1])) (x1 : Int32) (F : PF) (G : PG) (hm : mb_plain_190 fu rc x1 F G = some res) {H : Heap} {locs : List Loc} (hw : mMW s A v a F G H locs) {ls : Array Slot} (hl : lv_has ls 2 [(0, .ref (a 212)), (1, .int x1)]) : W p l e R s m args below meth c H locs 0 0 Q (F0 m 190 ls []) := by
  have hx := C.1
  have hb := C.2.1
  unfold mb_plain_190 at hm
  refine lv_aload_n hx hb dX12_plain_190 rfl (lv_at hl 0 rfl) ?_
  refine mg_X12_365 C hw dX12_plain_191 ?_
  refine lv_if_eq (tgt := 205) hx hb dX12_plain_194 (by decide) (fun c_1 => ?_) (fun c_1 => ?_)
  · have hm := (if_pos c_1).symm.trans hm
    exact mw_plain_205 fu rc hr C hret x1 F G hm hw (lv_sub hl [0, 1] rfl)
  · have hm := (if_neg c_1).symm.trans hm
    exact mw_plain_197 fu rc hr C hret x1 F G hm hw (lv_sub hl [0, 1] rfl)
theorem mw_plain_175 (fu : Nat) (rc : RC) {dd : Nat} (hr : mH1 l v a rc dd) {res : Int32 × PF × PG} (C : mMC p R s m args c A v RX12 cX12_plain 2 (dd + 1 + 3) (60 * (dd + 1) + 64)) (hret : ∀ (H1 : Heap) (locs1 : List Loc) (ls1 : Array Slot) (pc : Nat), mMW s A v a res.2.1 res.2.2 H1 locs1 → narrow .boolean (.int res.1) = .int res.1 → decode cX12_plain pc = .ok (.ireturn, 1) → W p l e R s m args below meth c H1 locs1 0 0 Q (F0 m pc ls1 [.int res.1])) (F : PF) (G : PG) (hm : mb_plain_175 fu rc F G = some res) {H : Heap} {locs : List Loc} (hw : mMW s A v a F G H locs) {ls : Array Slot} (hl : lv_has ls 2 [(0, .ref (a 212))]) : W p l e R s m args below meth c H locs 0 0 Q (F0 m 175 ls []) := by
  have hx := C.1
  have hb := C.2.1
  unfold mb_plain_175 at hm
  refine lv_aload_n hx hb dX12_plain_175 rfl (lv_at hl 0 rfl) ?_
  refine mg_X12_233 C hw dX12_plain_176 ?_
  refine lv_istore_n (lv' := [(1, .int (F 42)), (0, .ref (a 212))]) hx hb dX12_plain_179 rfl hl (by decide) rfl (fun ls hl => ?_)
  refine lv_aload_n hx hb dX12_plain_180 rfl (lv_at hl 1 rfl) ?_
  refine lv_dup hx hb dX12_plain_181 rfl ?_
  refine mg_X12_233 C hw dX12_plain_182 ?_
  refine lv_iconst (v := 1) hx hb dX12_plain_185 (by decide) ?_
  refine lv_iadd hx hb dX12_plain_186 ?_
  refine mp_X12_233 C hw dX12_plain_187 (fun H locs hw => ?_)
  exact mw_plain_190 fu rc hr C hret (F 42) (fup F 42 ((F 42) + (1 : Int32))) G hm hw (lv_sub hl [1, 0] rfl)
theorem mw_plain_174 (fu : Nat) (rc : RC) {dd : Nat} (hr : mH1 l v a rc dd) {res : Int32 × PF × PG} (C : mMC p R s m args c A v RX12 cX12_plain 2 (dd + 1 + 3) (60 * (dd + 1) + 64)) (hret : ∀ (H1 : Heap) (locs1 : List Loc) (ls1 : Array Slot) (pc : Nat), mMW s A v a res.2.1 res.2.2 H1 locs1 → narrow .boolean (.int res.1) = .int res.1 → decode cX12_plain pc = .ok (.ireturn, 1) → W p l e R s m args below meth c H1 locs1 0 0 Q (F0 m pc ls1 [.int res.1])) (z0 : Int32) (F : PF) (G : PG) (hm : mb_plain_174 fu rc z0 F G = some res) {H : Heap} {locs : List Loc} (hw : mMW s A v a F G H locs) {ls : Array Slot} (hl : lv_has ls 2 []) : W p l e R s m args below meth c H locs 0 0 Q (F0 m 174 ls [.int z0]) := by
  have hx := C.1
  have hb := C.2.1
  unfold mb_plain_174 at hm
  obtain ⟨hz, hm⟩ := b01_elim hm
  obtain rfl := Option.some.inj hm
  exact hret _ _ _ _ hw (b01_nar hz) dX12_plain_174
theorem mw_plain_169 (fu : Nat) (rc : RC) {dd : Nat} (hr : mH1 l v a rc dd) {res : Int32 × PF × PG} (C : mMC p R s m args c A v RX12 cX12_plain 2 (dd + 1 + 3) (60 * (dd + 1) + 64)) (hret : ∀ (H1 : Heap) (locs1 : List Loc) (ls1 : Array Slot) (pc : Nat), mMW s A v a res.2.1 res.2.2 H1 locs1 → narrow .boolean (.int res.1) = .int res.1 → decode cX12_plain pc = .ok (.ireturn, 1) → W p l e R s m args below meth c H1 locs1 0 0 Q (F0 m pc ls1 [.int res.1])) (F : PF) (G : PG) (hm : mb_plain_169 fu rc F G = some res) {H : Heap} {locs : List Loc} (hw : mMW s A v a F G H locs) {ls : Array Slot} (hl : lv_has ls 2 [(0, .ref (a 212))]) : W p l e R s m args below meth c H locs 0 0 Q (F0 m 169 ls []) := by
  have hx := C.1
  have hb := C.2.1
  unfold mb_plain_169 at hm
  refine lv_aload_n hx hb dX12_plain_169 rfl (lv_at hl 0 rfl) ?_
  refine lv_iconst (v := 2) hx hb dX12_plain_170 (by decide) ?_
  obtain ⟨⟨r1, F1, G1⟩, hc, hm⟩ := bind_elim hm
  refine mcallI (n := 1) (As := [.int 2]) (rest := []) C hw (mk_fails l v a _ fu 2 F G r1 F1 G1 hc) (mrecv_X12 C hw) mm_166 mm_167 mm_168 mm_27 mm_169 (by decide +kernel) rfl (by omega) (by omega) hl.1 rfl (Nat.le_of_ble_eq_true rfl) dX12_plain_171 (fun H locs hw => ?_)
  exact mw_plain_174 fu rc hr C hret r1 F1 G1 hm hw (lv_sub hl [] rfl)
theorem mw_plain_156 (fu : Nat) (rc : RC) {dd : Nat} (hr : mH1 l v a rc dd) {res : Int32 × PF × PG} (C : mMC p R s m args c A v RX12 cX12_plain 2 (dd + 1 + 3) (60 * (dd + 1) + 64)) (hret : ∀ (H1 : Heap) (locs1 : List Loc) (ls1 : Array Slot) (pc : Nat), mMW s A v a res.2.1 res.2.2 H1 locs1 → narrow .boolean (.int res.1) = .int res.1 → decode cX12_plain pc = .ok (.ireturn, 1) → W p l e R s m args below meth c H1 locs1 0 0 Q (F0 m pc ls1 [.int res.1])) (F : PF) (G : PG) (hm : mb_plain_156 fu rc F G = some res) {H : Heap} {locs : List Loc} (hw : mMW s A v a F G H locs) {ls : Array Slot} (hl : lv_has ls 2 [(0, .ref (a 212))]) : W p l e R s m args below meth c H locs 0 0 Q (F0 m 156 ls []) := by
  have hx := C.1
  have hb := C.2.1
  unfold mb_plain_156 at hm
  refine lv_aload_n hx hb dX12_plain_156 rfl (lv_at hl 0 rfl) ?_
  refine mg_X12_16 C hw dX12_plain_157 ?_
  refine lv_aload_n hx hb dX12_plain_160 rfl (lv_at hl 0 rfl) ?_
  refine mg_X12_233 C hw dX12_plain_161 ?_
  obtain ⟨hi, hm⟩ := ix_elim hm
  refine mal_4 C hw hi dX12_plain_164 ?_
  refine lv_iconst (v := 1) hx hb dX12_plain_165 (by decide) ?_
  refine lv_icmp_eq (tgt := 175) hx hb dX12_plain_166 (by decide) (fun c_1 => ?_) (fun c_1 => ?_)
  · have hm := (if_pos c_1).symm.trans hm
    exact mw_plain_175 fu rc hr C hret F G hm hw (lv_sub hl [0] rfl)
  · have hm := (if_neg c_1).symm.trans hm
    exact mw_plain_169 fu rc hr C hret F G hm hw (lv_sub hl [0] rfl)
theorem mw_plain_143 (fu : Nat) (rc : RC) {dd : Nat} (hr : mH1 l v a rc dd) {res : Int32 × PF × PG} (C : mMC p R s m args c A v RX12 cX12_plain 2 (dd + 1 + 3) (60 * (dd + 1) + 64)) (hret : ∀ (H1 : Heap) (locs1 : List Loc) (ls1 : Array Slot) (pc : Nat), mMW s A v a res.2.1 res.2.2 H1 locs1 → narrow .boolean (.int res.1) = .int res.1 → decode cX12_plain pc = .ok (.ireturn, 1) → W p l e R s m args below meth c H1 locs1 0 0 Q (F0 m pc ls1 [.int res.1])) (F : PF) (G : PG) (hm : mb_plain_143 fu rc F G = some res) {H : Heap} {locs : List Loc} (hw : mMW s A v a F G H locs) {ls : Array Slot} (hl : lv_has ls 2 []) : W p l e R s m args below meth c H locs 0 0 Q (F0 m 143 ls []) := by
  have hx := C.1
  have hb := C.2.1
  unfold mb_plain_143 at hm
  refine lv_iconst (v := 0) hx hb dX12_plain_143 (by decide) ?_
  obtain rfl := Option.some.inj hm
  exact hret _ _ _ _ hw (b01_nar (v := 0) (Or.inl rfl)) dX12_plain_144
theorem mw_plain_153 (fu : Nat) (rc : RC) {dd : Nat} (hr : mH1 l v a rc dd) {res : Int32 × PF × PG} (C : mMC p R s m args c A v RX12 cX12_plain 2 (dd + 1 + 3) (60 * (dd + 1) + 64)) (hret : ∀ (H1 : Heap) (locs1 : List Loc) (ls1 : Array Slot) (pc : Nat), mMW s A v a res.2.1 res.2.2 H1 locs1 → narrow .boolean (.int res.1) = .int res.1 → decode cX12_plain pc = .ok (.ireturn, 1) → W p l e R s m args below meth c H1 locs1 0 0 Q (F0 m pc ls1 [.int res.1])) (z0 : Int32) (F : PF) (G : PG) (hm : mb_plain_153 fu rc z0 F G = some res) {H : Heap} {locs : List Loc} (hw : mMW s A v a F G H locs) {ls : Array Slot} (hl : lv_has ls 2 []) : W p l e R s m args below meth c H locs 0 0 Q (F0 m 153 ls [.int z0]) := by
  have hx := C.1
  have hb := C.2.1
  unfold mb_plain_153 at hm
  refine lv_pop hx hb dX12_plain_153 rfl ?_
  refine lv_iconst (v := 1) hx hb dX12_plain_154 (by decide) ?_
  obtain rfl := Option.some.inj hm
  exact hret _ _ _ _ hw (b01_nar (v := 1) (Or.inr rfl)) dX12_plain_155
theorem mw_plain_145 (fu : Nat) (rc : RC) {dd : Nat} (hr : mH1 l v a rc dd) {res : Int32 × PF × PG} (C : mMC p R s m args c A v RX12 cX12_plain 2 (dd + 1 + 3) (60 * (dd + 1) + 64)) (hret : ∀ (H1 : Heap) (locs1 : List Loc) (ls1 : Array Slot) (pc : Nat), mMW s A v a res.2.1 res.2.2 H1 locs1 → narrow .boolean (.int res.1) = .int res.1 → decode cX12_plain pc = .ok (.ireturn, 1) → W p l e R s m args below meth c H1 locs1 0 0 Q (F0 m pc ls1 [.int res.1])) (F : PF) (G : PG) (hm : mb_plain_145 fu rc F G = some res) {H : Heap} {locs : List Loc} (hw : mMW s A v a F G H locs) {ls : Array Slot} (hl : lv_has ls 2 [(0, .ref (a 212))]) : W p l e R s m args below meth c H locs 0 0 Q (F0 m 145 ls []) := by
  have hx := C.1
  have hb := C.2.1
  unfold mb_plain_145 at hm
  refine lv_aload_n hx hb dX12_plain_145 rfl (lv_at hl 0 rfl) ?_
  refine lv_bipush (v := 21) hx hb dX12_plain_146 (by decide) ?_
  refine lv_iconst (v := 0) hx hb dX12_plain_148 (by decide) ?_
  refine lv_iconst (v := 0) hx hb dX12_plain_149 (by decide) ?_
  obtain ⟨⟨r1, F1, G1⟩, hc, hm⟩ := bind_elim hm
  refine mcallI (n := 3) (As := [.int 21, .int 0, .int 0]) (rest := []) C hw (mk_step l v a _ fu 21 0 0 F G r1 F1 G1 hc) (mrecv_X12 C hw) mm_203 mm_204 mm_205 mm_27 mm_206 (by decide +kernel) rfl (by omega) (by omega) hl.1 rfl (Nat.le_of_ble_eq_true rfl) dX12_plain_150 (fun H locs hw => ?_)
  exact mw_plain_153 fu rc hr C hret r1 F1 G1 hm hw (lv_sub hl [] rfl)
theorem mw_plain_140 (fu : Nat) (rc : RC) {dd : Nat} (hr : mH1 l v a rc dd) {res : Int32 × PF × PG} (C : mMC p R s m args c A v RX12 cX12_plain 2 (dd + 1 + 3) (60 * (dd + 1) + 64)) (hret : ∀ (H1 : Heap) (locs1 : List Loc) (ls1 : Array Slot) (pc : Nat), mMW s A v a res.2.1 res.2.2 H1 locs1 → narrow .boolean (.int res.1) = .int res.1 → decode cX12_plain pc = .ok (.ireturn, 1) → W p l e R s m args below meth c H1 locs1 0 0 Q (F0 m pc ls1 [.int res.1])) (z0 : Int32) (F : PF) (G : PG) (hm : mb_plain_140 fu rc z0 F G = some res) {H : Heap} {locs : List Loc} (hw : mMW s A v a F G H locs) {ls : Array Slot} (hl : lv_has ls 2 [(0, .ref (a 212))]) : W p l e R s m args below meth c H locs 0 0 Q (F0 m 140 ls [.int z0]) := by
  have hx := C.1
  have hb := C.2.1
  unfold mb_plain_140 at hm
  refine lv_if_ne (tgt := 145) hx hb dX12_plain_140 (by decide) (fun c_1 => ?_) (fun c_1 => ?_)
  · have hm := (if_neg c_1).symm.trans hm
    exact mw_plain_145 fu rc hr C hret F G hm hw (lv_sub hl [0] rfl)
  · have hm := (if_pos c_1).symm.trans hm
    exact mw_plain_143 fu rc hr C hret F G hm hw (lv_sub hl [] rfl)
theorem mw_plain_134 (fu : Nat) (rc : RC) {dd : Nat} (hr : mH1 l v a rc dd) {res : Int32 × PF × PG} (C : mMC p R s m args c A v RX12 cX12_plain 2 (dd + 1 + 3) (60 * (dd + 1) + 64)) (hret : ∀ (H1 : Heap) (locs1 : List Loc) (ls1 : Array Slot) (pc : Nat), mMW s A v a res.2.1 res.2.2 H1 locs1 → narrow .boolean (.int res.1) = .int res.1 → decode cX12_plain pc = .ok (.ireturn, 1) → W p l e R s m args below meth c H1 locs1 0 0 Q (F0 m pc ls1 [.int res.1])) (F : PF) (G : PG) (hm : mb_plain_134 fu rc F G = some res) {H : Heap} {locs : List Loc} (hw : mMW s A v a F G H locs) {ls : Array Slot} (hl : lv_has ls 2 [(0, .ref (a 212))]) : W p l e R s m args below meth c H locs 0 0 Q (F0 m 134 ls []) := by
  have hx := C.1
  have hb := C.2.1
  unfold mb_plain_134 at hm
  refine lv_aload_n hx hb dX12_plain_134 rfl (lv_at hl 0 rfl) ?_
  refine lv_bipush (v := 23) hx hb dX12_plain_135 (by decide) ?_
  obtain ⟨⟨r1, F1, G1⟩, hc, hm⟩ := bind_elim hm
  refine mcallI (n := 1) (As := [.int 23]) (rest := []) C hw (mk_closeSign l v a _ fu 23 F G r1 F1 G1 hc) (mrecv_X12 C hw) mm_248 mm_249 mm_250 mm_27 mm_251 (by decide +kernel) rfl (by omega) (by omega) hl.1 rfl (Nat.le_of_ble_eq_true rfl) dX12_plain_137 (fun H locs hw => ?_)
  exact mw_plain_140 fu rc hr C hret r1 F1 G1 hm hw (lv_sub hl [0] rfl)
theorem mw_plain_131 (fu : Nat) (rc : RC) {dd : Nat} (hr : mH1 l v a rc dd) {res : Int32 × PF × PG} (C : mMC p R s m args c A v RX12 cX12_plain 2 (dd + 1 + 3) (60 * (dd + 1) + 64)) (hret : ∀ (H1 : Heap) (locs1 : List Loc) (ls1 : Array Slot) (pc : Nat), mMW s A v a res.2.1 res.2.2 H1 locs1 → narrow .boolean (.int res.1) = .int res.1 → decode cX12_plain pc = .ok (.ireturn, 1) → W p l e R s m args below meth c H1 locs1 0 0 Q (F0 m pc ls1 [.int res.1])) (z0 : Int32) (F : PF) (G : PG) (hm : mb_plain_131 fu rc z0 F G = some res) {H : Heap} {locs : List Loc} (hw : mMW s A v a F G H locs) {ls : Array Slot} (hl : lv_has ls 2 [(0, .ref (a 212))]) : W p l e R s m args below meth c H locs 0 0 Q (F0 m 131 ls [.int z0]) := by
  have hx := C.1
  have hb := C.2.1
  unfold mb_plain_131 at hm
  refine lv_if_eq (tgt := 143) hx hb dX12_plain_131 (by decide) (fun c_1 => ?_) (fun c_1 => ?_)
  · have hm := (if_pos c_1).symm.trans hm
    exact mw_plain_143 fu rc hr C hret F G hm hw (lv_sub hl [] rfl)
  · have hm := (if_neg c_1).symm.trans hm
    exact mw_plain_134 fu rc hr C hret F G hm hw (lv_sub hl [0] rfl)
theorem mw_plain_125 (fu : Nat) (rc : RC) {dd : Nat} (hr : mH1 l v a rc dd) {res : Int32 × PF × PG} (C : mMC p R s m args c A v RX12 cX12_plain 2 (dd + 1 + 3) (60 * (dd + 1) + 64)) (hret : ∀ (H1 : Heap) (locs1 : List Loc) (ls1 : Array Slot) (pc : Nat), mMW s A v a res.2.1 res.2.2 H1 locs1 → narrow .boolean (.int res.1) = .int res.1 → decode cX12_plain pc = .ok (.ireturn, 1) → W p l e R s m args below meth c H1 locs1 0 0 Q (F0 m pc ls1 [.int res.1])) (F : PF) (G : PG) (hm : mb_plain_125 fu rc F G = some res) {H : Heap} {locs : List Loc} (hw : mMW s A v a F G H locs) {ls : Array Slot} (hl : lv_has ls 2 [(0, .ref (a 212))]) : W p l e R s m args below meth c H locs 0 0 Q (F0 m 125 ls []) := by
  have hx := C.1
  have hb := C.2.1
  unfold mb_plain_125 at hm
  refine lv_aload_n hx hb dX12_plain_125 rfl (lv_at hl 0 rfl) ?_
  refine lv_bipush (v := 22) hx hb dX12_plain_126 (by decide) ?_
  obtain ⟨⟨r1, F1, G1⟩, hc, hm⟩ := bind_elim hm
  refine mcallI (n := 1) (As := [.int 22]) (rest := []) C hw (mk_openSign l v a _ fu 22 F G r1 F1 G1 hc) (mrecv_X12 C hw) mm_241 mm_242 mm_243 mm_27 mm_244 (by decide +kernel) rfl (by omega) (by omega) hl.1 rfl (Nat.le_of_ble_eq_true rfl) dX12_plain_128 (fun H locs hw => ?_)
  exact mw_plain_131 fu rc hr C hret r1 F1 G1 hm hw (lv_sub hl [0] rfl)
theorem mw_plain_115 (fu : Nat) (rc : RC) {dd : Nat} (hr : mH1 l v a rc dd) {res : Int32 × PF × PG} (C : mMC p R s m args c A v RX12 cX12_plain 2 (dd + 1 + 3) (60 * (dd + 1) + 64)) (hret : ∀ (H1 : Heap) (locs1 : List Loc) (ls1 : Array Slot) (pc : Nat), mMW s A v a res.2.1 res.2.2 H1 locs1 → narrow .boolean (.int res.1) = .int res.1 → decode cX12_plain pc = .ok (.ireturn, 1) → W p l e R s m args below meth c H1 locs1 0 0 Q (F0 m pc ls1 [.int res.1])) (F : PF) (G : PG) (hm : mb_plain_115 fu rc F G = some res) {H : Heap} {locs : List Loc} (hw : mMW s A v a F G H locs) {ls : Array Slot} (hl : lv_has ls 2 [(0, .ref (a 212))]) : W p l e R s m args below meth c H locs 0 0 Q (F0 m 115 ls []) := by
  have hx := C.1
  have hb := C.2.1
  unfold mb_plain_115 at hm
  refine lv_aload_n hx hb dX12_plain_115 rfl (lv_at hl 0 rfl) ?_
  refine lv_dup hx hb dX12_plain_116 rfl ?_
  refine mg_X12_233 C hw dX12_plain_117 ?_
  refine lv_iconst (v := 1) hx hb dX12_plain_120 (by decide) ?_
  refine lv_iadd hx hb dX12_plain_121 ?_
  refine mp_X12_233 C hw dX12_plain_122 (fun H locs hw => ?_)
  exact mw_plain_125 fu rc hr C hret (fup F 42 ((F 42) + (1 : Int32))) G hm hw (lv_sub hl [0] rfl)
theorem mw_plain_110 (fu : Nat) (rc : RC) {dd : Nat} (hr : mH1 l v a rc dd) {res : Int32 × PF × PG} (C : mMC p R s m args c A v RX12 cX12_plain 2 (dd + 1 + 3) (60 * (dd + 1) + 64)) (hret : ∀ (H1 : Heap) (locs1 : List Loc) (ls1 : Array Slot) (pc : Nat), mMW s A v a res.2.1 res.2.2 H1 locs1 → narrow .boolean (.int res.1) = .int res.1 → decode cX12_plain pc = .ok (.ireturn, 1) → W p l e R s m args below meth c H1 locs1 0 0 Q (F0 m pc ls1 [.int res.1])) (F : PF) (G : PG) (hm : mb_plain_110 fu rc F G = some res) {H : Heap} {locs : List Loc} (hw : mMW s A v a F G H locs) {ls : Array Slot} (hl : lv_has ls 2 [(0, .ref (a 212))]) : W p l e R s m args below meth c H locs 0 0 Q (F0 m 110 ls []) := by
  have hx := C.1
  have hb := C.2.1
  unfold mb_plain_110 at hm
  refine lv_aload_n hx hb dX12_plain_110 rfl (lv_at hl 0 rfl) ?_
  refine lv_iconst (v := 1) hx hb dX12_plain_111 (by decide) ?_
  refine mp_X12_345 C hw (by decide) dX12_plain_112 (fun H locs hw => ?_)
  exact mw_plain_115 fu rc hr C hret (fup F 55 (1 : Int32)) G hm hw (lv_sub hl [0] rfl)
theorem mw_plain_95 (fu : Nat) (rc : RC) {dd : Nat} (hr : mH1 l v a rc dd) {res : Int32 × PF × PG} (C : mMC p R s m args c A v RX12 cX12_plain 2 (dd + 1 + 3) (60 * (dd + 1) + 64)) (hret : ∀ (H1 : Heap) (locs1 : List Loc) (ls1 : Array Slot) (pc : Nat), mMW s A v a res.2.1 res.2.2 H1 locs1 → narrow .boolean (.int res.1) = .int res.1 → decode cX12_plain pc = .ok (.ireturn, 1) → W p l e R s m args below meth c H1 locs1 0 0 Q (F0 m pc ls1 [.int res.1])) (F : PF) (G : PG) (hm : mb_plain_95 fu rc F G = some res) {H : Heap} {locs : List Loc} (hw : mMW s A v a F G H locs) {ls : Array Slot} (hl : lv_has ls 2 [(0, .ref (a 212))]) : W p l e R s m args below meth c H locs 0 0 Q (F0 m 95 ls []) := by
  have hx := C.1
  have hb := C.2.1
  unfold mb_plain_95 at hm
  refine lv_aload_n hx hb dX12_plain_95 rfl (lv_at hl 0 rfl) ?_
  refine lv_bipush (v := 10) hx hb dX12_plain_96 (by decide) ?_
  refine lv_aload_n hx hb dX12_plain_98 rfl (lv_at hl 0 rfl) ?_
  refine mg_X12_22 C hw dX12_plain_99 ?_
  refine lv_aload_n hx hb dX12_plain_102 rfl (lv_at hl 0 rfl) ?_
  refine mg_X12_233 C hw dX12_plain_103 ?_
  obtain ⟨hi, hm⟩ := ix_elim hm
  refine mal_6 C hw hi dX12_plain_106 ?_
  obtain ⟨⟨r1, F1, G1⟩, hc, hm⟩ := bind_elim hm
  refine mcallV (n := 2) (As := [.int 10, .int (G 6 (F 42).toNatClampNeg)]) (rest := []) C hw (mk_note l v a _ fu 10 (G 6 (F 42).toNatClampNeg) F G r1 F1 G1 hc) (mrecv_X12 C hw) mm_220 mm_221 mm_222 mm_27 mm_223 (by decide +kernel) rfl (by omega) (by omega) hl.1 rfl (Nat.le_of_ble_eq_true rfl) dX12_plain_107 (fun H locs hw => ?_)
  exact mw_plain_110 fu rc hr C hret F1 G1 hm hw (lv_sub hl [0] rfl)
theorem mw_plain_88 (fu : Nat) (rc : RC) {dd : Nat} (hr : mH1 l v a rc dd) {res : Int32 × PF × PG} (C : mMC p R s m args c A v RX12 cX12_plain 2 (dd + 1 + 3) (60 * (dd + 1) + 64)) (hret : ∀ (H1 : Heap) (locs1 : List Loc) (ls1 : Array Slot) (pc : Nat), mMW s A v a res.2.1 res.2.2 H1 locs1 → narrow .boolean (.int res.1) = .int res.1 → decode cX12_plain pc = .ok (.ireturn, 1) → W p l e R s m args below meth c H1 locs1 0 0 Q (F0 m pc ls1 [.int res.1])) (F : PF) (G : PG) (hm : mb_plain_88 fu rc F G = some res) {H : Heap} {locs : List Loc} (hw : mMW s A v a F G H locs) {ls : Array Slot} (hl : lv_has ls 2 [(0, .ref (a 212))]) : W p l e R s m args below meth c H locs 0 0 Q (F0 m 88 ls []) := by
  have hx := C.1
  have hb := C.2.1
  unfold mb_plain_88 at hm
  refine lv_aload_n hx hb dX12_plain_88 rfl (lv_at hl 0 rfl) ?_
  refine mg_X12_365 C hw dX12_plain_89 ?_
  refine lv_if_eq (tgt := 115) hx hb dX12_plain_92 (by decide) (fun c_1 => ?_) (fun c_1 => ?_)
  · have hm := (if_pos c_1).symm.trans hm
    exact mw_plain_115 fu rc hr C hret F G hm hw (lv_sub hl [0] rfl)
  · have hm := (if_neg c_1).symm.trans hm
    exact mw_plain_95 fu rc hr C hret F G hm hw (lv_sub hl [0] rfl)
theorem mw_plain_85 (fu : Nat) (rc : RC) {dd : Nat} (hr : mH1 l v a rc dd) {res : Int32 × PF × PG} (C : mMC p R s m args c A v RX12 cX12_plain 2 (dd + 1 + 3) (60 * (dd + 1) + 64)) (hret : ∀ (H1 : Heap) (locs1 : List Loc) (ls1 : Array Slot) (pc : Nat), mMW s A v a res.2.1 res.2.2 H1 locs1 → narrow .boolean (.int res.1) = .int res.1 → decode cX12_plain pc = .ok (.ireturn, 1) → W p l e R s m args below meth c H1 locs1 0 0 Q (F0 m pc ls1 [.int res.1])) (z0 : Int32) (F : PF) (G : PG) (hm : mb_plain_85 fu rc z0 F G = some res) {H : Heap} {locs : List Loc} (hw : mMW s A v a F G H locs) {ls : Array Slot} (hl : lv_has ls 2 [(0, .ref (a 212))]) : W p l e R s m args below meth c H locs 0 0 Q (F0 m 85 ls [.int z0]) := by
  have hx := C.1
  have hb := C.2.1
  unfold mb_plain_85 at hm
  refine lv_if_eq (tgt := 156) hx hb dX12_plain_85 (by decide) (fun c_1 => ?_) (fun c_1 => ?_)
  · have hm := (if_pos c_1).symm.trans hm
    exact mw_plain_156 fu rc hr C hret F G hm hw (lv_sub hl [0] rfl)
  · have hm := (if_neg c_1).symm.trans hm
    exact mw_plain_88 fu rc hr C hret F G hm hw (lv_sub hl [0] rfl)
theorem mw_plain_79 (fu : Nat) (rc : RC) {dd : Nat} (hr : mH1 l v a rc dd) {res : Int32 × PF × PG} (C : mMC p R s m args c A v RX12 cX12_plain 2 (dd + 1 + 3) (60 * (dd + 1) + 64)) (hret : ∀ (H1 : Heap) (locs1 : List Loc) (ls1 : Array Slot) (pc : Nat), mMW s A v a res.2.1 res.2.2 H1 locs1 → narrow .boolean (.int res.1) = .int res.1 → decode cX12_plain pc = .ok (.ireturn, 1) → W p l e R s m args below meth c H1 locs1 0 0 Q (F0 m pc ls1 [.int res.1])) (F : PF) (G : PG) (hm : mb_plain_79 fu rc F G = some res) {H : Heap} {locs : List Loc} (hw : mMW s A v a F G H locs) {ls : Array Slot} (hl : lv_has ls 2 [(0, .ref (a 212))]) : W p l e R s m args below meth c H locs 0 0 Q (F0 m 79 ls []) := by
  have hx := C.1
  have hb := C.2.1
  unfold mb_plain_79 at hm
  refine lv_aload_n hx hb dX12_plain_79 rfl (lv_at hl 0 rfl) ?_
  refine lv_bipush (v := 13) hx hb dX12_plain_80 (by decide) ?_
  obtain ⟨⟨r1, F1, G1⟩, hc, hm⟩ := bind_elim hm
  refine mcallI (n := 1) (As := [.int 13]) (rest := []) C hw (mk_isWord l v a _ fu 13 F G r1 F1 G1 hc) (mrecv_X12 C hw) mm_162 mm_163 mm_164 mm_27 mm_165 (by decide +kernel) rfl (by omega) (by omega) hl.1 rfl (Nat.le_of_ble_eq_true rfl) dX12_plain_82 (fun H locs hw => ?_)
  exact mw_plain_85 fu rc hr C hret r1 F1 G1 hm hw (lv_sub hl [0] rfl)
theorem mw_plain_78 (fu : Nat) (rc : RC) {dd : Nat} (hr : mH1 l v a rc dd) {res : Int32 × PF × PG} (C : mMC p R s m args c A v RX12 cX12_plain 2 (dd + 1 + 3) (60 * (dd + 1) + 64)) (hret : ∀ (H1 : Heap) (locs1 : List Loc) (ls1 : Array Slot) (pc : Nat), mMW s A v a res.2.1 res.2.2 H1 locs1 → narrow .boolean (.int res.1) = .int res.1 → decode cX12_plain pc = .ok (.ireturn, 1) → W p l e R s m args below meth c H1 locs1 0 0 Q (F0 m pc ls1 [.int res.1])) (z0 : Int32) (F : PF) (G : PG) (hm : mb_plain_78 fu rc z0 F G = some res) {H : Heap} {locs : List Loc} (hw : mMW s A v a F G H locs) {ls : Array Slot} (hl : lv_has ls 2 []) : W p l e R s m args below meth c H locs 0 0 Q (F0 m 78 ls [.int z0]) := by
  have hx := C.1
  have hb := C.2.1
  unfold mb_plain_78 at hm
  obtain ⟨hz, hm⟩ := b01_elim hm
  obtain rfl := Option.some.inj hm
  exact hret _ _ _ _ hw (b01_nar hz) dX12_plain_78
theorem mw_plain_77 (fu : Nat) (rc : RC) {dd : Nat} (hr : mH1 l v a rc dd) {res : Int32 × PF × PG} (C : mMC p R s m args c A v RX12 cX12_plain 2 (dd + 1 + 3) (60 * (dd + 1) + 64)) (hret : ∀ (H1 : Heap) (locs1 : List Loc) (ls1 : Array Slot) (pc : Nat), mMW s A v a res.2.1 res.2.2 H1 locs1 → narrow .boolean (.int res.1) = .int res.1 → decode cX12_plain pc = .ok (.ireturn, 1) → W p l e R s m args below meth c H1 locs1 0 0 Q (F0 m pc ls1 [.int res.1])) (F : PF) (G : PG) (hm : mb_plain_77 fu rc F G = some res) {H : Heap} {locs : List Loc} (hw : mMW s A v a F G H locs) {ls : Array Slot} (hl : lv_has ls 2 []) : W p l e R s m args below meth c H locs 0 0 Q (F0 m 77 ls []) := by
  have hx := C.1
  have hb := C.2.1
  unfold mb_plain_77 at hm
  refine lv_iconst (v := 0) hx hb dX12_plain_77 (by decide) ?_
  exact mw_plain_78 fu rc hr C hret 0 F G hm hw (lv_sub hl [] rfl)
theorem mw_plain_73 (fu : Nat) (rc : RC) {dd : Nat} (hr : mH1 l v a rc dd) {res : Int32 × PF × PG} (C : mMC p R s m args c A v RX12 cX12_plain 2 (dd + 1 + 3) (60 * (dd + 1) + 64)) (hret : ∀ (H1 : Heap) (locs1 : List Loc) (ls1 : Array Slot) (pc : Nat), mMW s A v a res.2.1 res.2.2 H1 locs1 → narrow .boolean (.int res.1) = .int res.1 → decode cX12_plain pc = .ok (.ireturn, 1) → W p l e R s m args below meth c H1 locs1 0 0 Q (F0 m pc ls1 [.int res.1])) (F : PF) (G : PG) (hm : mb_plain_73 fu rc F G = some res) {H : Heap} {locs : List Loc} (hw : mMW s A v a F G H locs) {ls : Array Slot} (hl : lv_has ls 2 []) : W p l e R s m args below meth c H locs 0 0 Q (F0 m 73 ls []) := by
  have hx := C.1
  have hb := C.2.1
  unfold mb_plain_73 at hm
  refine lv_iconst (v := 1) hx hb dX12_plain_73 (by decide) ?_
  refine lv_goto (tgt := 78) hx hb dX12_plain_74 (by decide) ?_
  exact mw_plain_78 fu rc hr C hret 1 F G hm hw (lv_sub hl [] rfl)
theorem mw_plain_70 (fu : Nat) (rc : RC) {dd : Nat} (hr : mH1 l v a rc dd) {res : Int32 × PF × PG} (C : mMC p R s m args c A v RX12 cX12_plain 2 (dd + 1 + 3) (60 * (dd + 1) + 64)) (hret : ∀ (H1 : Heap) (locs1 : List Loc) (ls1 : Array Slot) (pc : Nat), mMW s A v a res.2.1 res.2.2 H1 locs1 → narrow .boolean (.int res.1) = .int res.1 → decode cX12_plain pc = .ok (.ireturn, 1) → W p l e R s m args below meth c H1 locs1 0 0 Q (F0 m pc ls1 [.int res.1])) (z0 : Int32) (F : PF) (G : PG) (hm : mb_plain_70 fu rc z0 F G = some res) {H : Heap} {locs : List Loc} (hw : mMW s A v a F G H locs) {ls : Array Slot} (hl : lv_has ls 2 []) : W p l e R s m args below meth c H locs 0 0 Q (F0 m 70 ls [.int z0]) := by
  have hx := C.1
  have hb := C.2.1
  unfold mb_plain_70 at hm
  refine lv_if_eq (tgt := 77) hx hb dX12_plain_70 (by decide) (fun c_1 => ?_) (fun c_1 => ?_)
  · have hm := (if_pos c_1).symm.trans hm
    exact mw_plain_77 fu rc hr C hret F G hm hw (lv_sub hl [] rfl)
  · have hm := (if_neg c_1).symm.trans hm
    exact mw_plain_73 fu rc hr C hret F G hm hw (lv_sub hl [] rfl)
theorem mw_plain_64 (fu : Nat) (rc : RC) {dd : Nat} (hr : mH1 l v a rc dd) {res : Int32 × PF × PG} (C : mMC p R s m args c A v RX12 cX12_plain 2 (dd + 1 + 3) (60 * (dd + 1) + 64)) (hret : ∀ (H1 : Heap) (locs1 : List Loc) (ls1 : Array Slot) (pc : Nat), mMW s A v a res.2.1 res.2.2 H1 locs1 → narrow .boolean (.int res.1) = .int res.1 → decode cX12_plain pc = .ok (.ireturn, 1) → W p l e R s m args below meth c H1 locs1 0 0 Q (F0 m pc ls1 [.int res.1])) (F : PF) (G : PG) (hm : mb_plain_64 fu rc F G = some res) {H : Heap} {locs : List Loc} (hw : mMW s A v a F G H locs) {ls : Array Slot} (hl : lv_has ls 2 [(0, .ref (a 212))]) : W p l e R s m args below meth c H locs 0 0 Q (F0 m 64 ls []) := by
  have hx := C.1
  have hb := C.2.1
  unfold mb_plain_64 at hm
  refine lv_aload_n hx hb dX12_plain_64 rfl (lv_at hl 0 rfl) ?_
  refine lv_bipush (v := 23) hx hb dX12_plain_65 (by decide) ?_
  obtain ⟨⟨r1, F1, G1⟩, hc, hm⟩ := bind_elim hm
  refine mcallI (n := 1) (As := [.int 23]) (rest := []) C hw (mk_closeSign l v a _ fu 23 F G r1 F1 G1 hc) (mrecv_X12 C hw) mm_248 mm_249 mm_250 mm_27 mm_251 (by decide +kernel) rfl (by omega) (by omega) hl.1 rfl (Nat.le_of_ble_eq_true rfl) dX12_plain_67 (fun H locs hw => ?_)
  exact mw_plain_70 fu rc hr C hret r1 F1 G1 hm hw (lv_sub hl [] rfl)
theorem mw_plain_61 (fu : Nat) (rc : RC) {dd : Nat} (hr : mH1 l v a rc dd) {res : Int32 × PF × PG} (C : mMC p R s m args c A v RX12 cX12_plain 2 (dd + 1 + 3) (60 * (dd + 1) + 64)) (hret : ∀ (H1 : Heap) (locs1 : List Loc) (ls1 : Array Slot) (pc : Nat), mMW s A v a res.2.1 res.2.2 H1 locs1 → narrow .boolean (.int res.1) = .int res.1 → decode cX12_plain pc = .ok (.ireturn, 1) → W p l e R s m args below meth c H1 locs1 0 0 Q (F0 m pc ls1 [.int res.1])) (z0 : Int32) (F : PF) (G : PG) (hm : mb_plain_61 fu rc z0 F G = some res) {H : Heap} {locs : List Loc} (hw : mMW s A v a F G H locs) {ls : Array Slot} (hl : lv_has ls 2 [(0, .ref (a 212))]) : W p l e R s m args below meth c H locs 0 0 Q (F0 m 61 ls [.int z0]) := by
  have hx := C.1
  have hb := C.2.1
  unfold mb_plain_61 at hm
  refine lv_if_eq (tgt := 77) hx hb dX12_plain_61 (by decide) (fun c_1 => ?_) (fun c_1 => ?_)
  · have hm := (if_pos c_1).symm.trans hm
    exact mw_plain_77 fu rc hr C hret F G hm hw (lv_sub hl [] rfl)
  · have hm := (if_neg c_1).symm.trans hm
    exact mw_plain_64 fu rc hr C hret F G hm hw (lv_sub hl [0] rfl)
theorem mw_plain_57 (fu : Nat) (rc : RC) {dd : Nat} (hr : mH1 l v a rc dd) {res : Int32 × PF × PG} (C : mMC p R s m args c A v RX12 cX12_plain 2 (dd + 1 + 3) (60 * (dd + 1) + 64)) (hret : ∀ (H1 : Heap) (locs1 : List Loc) (ls1 : Array Slot) (pc : Nat), mMW s A v a res.2.1 res.2.2 H1 locs1 → narrow .boolean (.int res.1) = .int res.1 → decode cX12_plain pc = .ok (.ireturn, 1) → W p l e R s m args below meth c H1 locs1 0 0 Q (F0 m pc ls1 [.int res.1])) (F : PF) (G : PG) (hm : mb_plain_57 fu rc F G = some res) {H : Heap} {locs : List Loc} (hw : mMW s A v a F G H locs) {ls : Array Slot} (hl : lv_has ls 2 [(0, .ref (a 212))]) : W p l e R s m args below meth c H locs 0 0 Q (F0 m 57 ls []) := by
  have hx := C.1
  have hb := C.2.1
  unfold mb_plain_57 at hm
  refine lv_aload_n hx hb dX12_plain_57 rfl (lv_at hl 0 rfl) ?_
  obtain ⟨⟨r1, F1, G1⟩, hc, hm⟩ := bind_elim hm
  refine mcallI (n := 0) (As := []) (rest := []) C hw (hr.2.2.2.2.1 _ F G r1 F1 G1 hc) (mrecv_X12 C hw) mm_191 mm_192 mm_193 mm_27 mm_194 (by decide +kernel) rfl (by omega) (by omega) hl.1 rfl (Nat.le_of_ble_eq_true rfl) dX12_plain_58 (fun H locs hw => ?_)
  exact mw_plain_61 fu rc hr C hret r1 F1 G1 hm hw (lv_sub hl [0] rfl)
theorem mw_plain_54 (fu : Nat) (rc : RC) {dd : Nat} (hr : mH1 l v a rc dd) {res : Int32 × PF × PG} (C : mMC p R s m args c A v RX12 cX12_plain 2 (dd + 1 + 3) (60 * (dd + 1) + 64)) (hret : ∀ (H1 : Heap) (locs1 : List Loc) (ls1 : Array Slot) (pc : Nat), mMW s A v a res.2.1 res.2.2 H1 locs1 → narrow .boolean (.int res.1) = .int res.1 → decode cX12_plain pc = .ok (.ireturn, 1) → W p l e R s m args below meth c H1 locs1 0 0 Q (F0 m pc ls1 [.int res.1])) (z0 : Int32) (F : PF) (G : PG) (hm : mb_plain_54 fu rc z0 F G = some res) {H : Heap} {locs : List Loc} (hw : mMW s A v a F G H locs) {ls : Array Slot} (hl : lv_has ls 2 [(0, .ref (a 212))]) : W p l e R s m args below meth c H locs 0 0 Q (F0 m 54 ls [.int z0]) := by
  have hx := C.1
  have hb := C.2.1
  unfold mb_plain_54 at hm
  refine lv_if_eq (tgt := 77) hx hb dX12_plain_54 (by decide) (fun c_1 => ?_) (fun c_1 => ?_)
  · have hm := (if_pos c_1).symm.trans hm
    exact mw_plain_77 fu rc hr C hret F G hm hw (lv_sub hl [] rfl)
  · have hm := (if_neg c_1).symm.trans hm
    exact mw_plain_57 fu rc hr C hret F G hm hw (lv_sub hl [0] rfl)
theorem mw_plain_50 (fu : Nat) (rc : RC) {dd : Nat} (hr : mH1 l v a rc dd) {res : Int32 × PF × PG} (C : mMC p R s m args c A v RX12 cX12_plain 2 (dd + 1 + 3) (60 * (dd + 1) + 64)) (hret : ∀ (H1 : Heap) (locs1 : List Loc) (ls1 : Array Slot) (pc : Nat), mMW s A v a res.2.1 res.2.2 H1 locs1 → narrow .boolean (.int res.1) = .int res.1 → decode cX12_plain pc = .ok (.ireturn, 1) → W p l e R s m args below meth c H1 locs1 0 0 Q (F0 m pc ls1 [.int res.1])) (F : PF) (G : PG) (hm : mb_plain_50 fu rc F G = some res) {H : Heap} {locs : List Loc} (hw : mMW s A v a F G H locs) {ls : Array Slot} (hl : lv_has ls 2 [(0, .ref (a 212))]) : W p l e R s m args below meth c H locs 0 0 Q (F0 m 50 ls []) := by
  have hx := C.1
  have hb := C.2.1
  unfold mb_plain_50 at hm
  refine lv_aload_n hx hb dX12_plain_50 rfl (lv_at hl 0 rfl) ?_
  obtain ⟨⟨r1, F1, G1⟩, hc, hm⟩ := bind_elim hm
  refine mcallI (n := 0) (As := []) (rest := []) C hw (mk_opens l v a _ fu F G r1 F1 G1 hc) (mrecv_X12 C hw) mm_199 mm_200 mm_201 mm_27 mm_202 (by decide +kernel) rfl (by omega) (by omega) hl.1 rfl (Nat.le_of_ble_eq_true rfl) dX12_plain_51 (fun H locs hw => ?_)
  exact mw_plain_54 fu rc hr C hret r1 F1 G1 hm hw (lv_sub hl [0] rfl)
theorem mw_plain_47 (fu : Nat) (rc : RC) {dd : Nat} (hr : mH1 l v a rc dd) {res : Int32 × PF × PG} (C : mMC p R s m args c A v RX12 cX12_plain 2 (dd + 1 + 3) (60 * (dd + 1) + 64)) (hret : ∀ (H1 : Heap) (locs1 : List Loc) (ls1 : Array Slot) (pc : Nat), mMW s A v a res.2.1 res.2.2 H1 locs1 → narrow .boolean (.int res.1) = .int res.1 → decode cX12_plain pc = .ok (.ireturn, 1) → W p l e R s m args below meth c H1 locs1 0 0 Q (F0 m pc ls1 [.int res.1])) (z0 : Int32) (F : PF) (G : PG) (hm : mb_plain_47 fu rc z0 F G = some res) {H : Heap} {locs : List Loc} (hw : mMW s A v a F G H locs) {ls : Array Slot} (hl : lv_has ls 2 [(0, .ref (a 212))]) : W p l e R s m args below meth c H locs 0 0 Q (F0 m 47 ls [.int z0]) := by
  have hx := C.1
  have hb := C.2.1
  unfold mb_plain_47 at hm
  refine lv_if_eq (tgt := 79) hx hb dX12_plain_47 (by decide) (fun c_1 => ?_) (fun c_1 => ?_)
  · have hm := (if_pos c_1).symm.trans hm
    exact mw_plain_79 fu rc hr C hret F G hm hw (lv_sub hl [0] rfl)
  · have hm := (if_neg c_1).symm.trans hm
    exact mw_plain_50 fu rc hr C hret F G hm hw (lv_sub hl [0] rfl)
theorem mw_plain_41 (fu : Nat) (rc : RC) {dd : Nat} (hr : mH1 l v a rc dd) {res : Int32 × PF × PG} (C : mMC p R s m args c A v RX12 cX12_plain 2 (dd + 1 + 3) (60 * (dd + 1) + 64)) (hret : ∀ (H1 : Heap) (locs1 : List Loc) (ls1 : Array Slot) (pc : Nat), mMW s A v a res.2.1 res.2.2 H1 locs1 → narrow .boolean (.int res.1) = .int res.1 → decode cX12_plain pc = .ok (.ireturn, 1) → W p l e R s m args below meth c H1 locs1 0 0 Q (F0 m pc ls1 [.int res.1])) (F : PF) (G : PG) (hm : mb_plain_41 fu rc F G = some res) {H : Heap} {locs : List Loc} (hw : mMW s A v a F G H locs) {ls : Array Slot} (hl : lv_has ls 2 [(0, .ref (a 212))]) : W p l e R s m args below meth c H locs 0 0 Q (F0 m 41 ls []) := by
  have hx := C.1
  have hb := C.2.1
  unfold mb_plain_41 at hm
  refine lv_aload_n hx hb dX12_plain_41 rfl (lv_at hl 0 rfl) ?_
  refine lv_bipush (v := 22) hx hb dX12_plain_42 (by decide) ?_
  obtain ⟨⟨r1, F1, G1⟩, hc, hm⟩ := bind_elim hm
  refine mcallI (n := 1) (As := [.int 22]) (rest := []) C hw (mk_isSign l v a _ fu 22 F G r1 F1 G1 hc) (mrecv_X12 C hw) mm_183 mm_184 mm_185 mm_27 mm_186 (by decide +kernel) rfl (by omega) (by omega) hl.1 rfl (Nat.le_of_ble_eq_true rfl) dX12_plain_44 (fun H locs hw => ?_)
  exact mw_plain_47 fu rc hr C hret r1 F1 G1 hm hw (lv_sub hl [0] rfl)
theorem mw_plain_39 (fu : Nat) (rc : RC) {dd : Nat} (hr : mH1 l v a rc dd) {res : Int32 × PF × PG} (C : mMC p R s m args c A v RX12 cX12_plain 2 (dd + 1 + 3) (60 * (dd + 1) + 64)) (hret : ∀ (H1 : Heap) (locs1 : List Loc) (ls1 : Array Slot) (pc : Nat), mMW s A v a res.2.1 res.2.2 H1 locs1 → narrow .boolean (.int res.1) = .int res.1 → decode cX12_plain pc = .ok (.ireturn, 1) → W p l e R s m args below meth c H1 locs1 0 0 Q (F0 m pc ls1 [.int res.1])) (F : PF) (G : PG) (hm : mb_plain_39 fu rc F G = some res) {H : Heap} {locs : List Loc} (hw : mMW s A v a F G H locs) {ls : Array Slot} (hl : lv_has ls 2 []) : W p l e R s m args below meth c H locs 0 0 Q (F0 m 39 ls []) := by
  have hx := C.1
  have hb := C.2.1
  unfold mb_plain_39 at hm
  refine lv_iconst (v := 1) hx hb dX12_plain_39 (by decide) ?_
  obtain rfl := Option.some.inj hm
  exact hret _ _ _ _ hw (b01_nar (v := 1) (Or.inr rfl)) dX12_plain_40
theorem mw_plain_28 (fu : Nat) (rc : RC) {dd : Nat} (hr : mH1 l v a rc dd) {res : Int32 × PF × PG} (C : mMC p R s m args c A v RX12 cX12_plain 2 (dd + 1 + 3) (60 * (dd + 1) + 64)) (hret : ∀ (H1 : Heap) (locs1 : List Loc) (ls1 : Array Slot) (pc : Nat), mMW s A v a res.2.1 res.2.2 H1 locs1 → narrow .boolean (.int res.1) = .int res.1 → decode cX12_plain pc = .ok (.ireturn, 1) → W p l e R s m args below meth c H1 locs1 0 0 Q (F0 m pc ls1 [.int res.1])) (z0 : Int32) (F : PF) (G : PG) (hm : mb_plain_28 fu rc z0 F G = some res) {H : Heap} {locs : List Loc} (hw : mMW s A v a F G H locs) {ls : Array Slot} (hl : lv_has ls 2 [(0, .ref (a 212))]) : W p l e R s m args below meth c H locs 0 0 Q (F0 m 28 ls [.int z0]) := by
  have hx := C.1
  have hb := C.2.1
  unfold mb_plain_28 at hm
  refine lv_pop hx hb dX12_plain_28 rfl ?_
  refine lv_aload_n hx hb dX12_plain_29 rfl (lv_at hl 0 rfl) ?_
  refine lv_dup hx hb dX12_plain_30 rfl ?_
  refine mg_X12_233 C hw dX12_plain_31 ?_
  refine lv_iconst (v := 1) hx hb dX12_plain_34 (by decide) ?_
  refine lv_iadd hx hb dX12_plain_35 ?_
  refine mp_X12_233 C hw dX12_plain_36 (fun H locs hw => ?_)
  exact mw_plain_39 fu rc hr C hret (fup F 42 ((F 42) + (1 : Int32))) G hm hw (lv_sub hl [] rfl)
theorem mw_plain_13 (fu : Nat) (rc : RC) {dd : Nat} (hr : mH1 l v a rc dd) {res : Int32 × PF × PG} (C : mMC p R s m args c A v RX12 cX12_plain 2 (dd + 1 + 3) (60 * (dd + 1) + 64)) (hret : ∀ (H1 : Heap) (locs1 : List Loc) (ls1 : Array Slot) (pc : Nat), mMW s A v a res.2.1 res.2.2 H1 locs1 → narrow .boolean (.int res.1) = .int res.1 → decode cX12_plain pc = .ok (.ireturn, 1) → W p l e R s m args below meth c H1 locs1 0 0 Q (F0 m pc ls1 [.int res.1])) (F : PF) (G : PG) (hm : mb_plain_13 fu rc F G = some res) {H : Heap} {locs : List Loc} (hw : mMW s A v a F G H locs) {ls : Array Slot} (hl : lv_has ls 2 [(0, .ref (a 212))]) : W p l e R s m args below meth c H locs 0 0 Q (F0 m 13 ls []) := by
  have hx := C.1
  have hb := C.2.1
  unfold mb_plain_13 at hm
  refine lv_aload_n hx hb dX12_plain_13 rfl (lv_at hl 0 rfl) ?_
  refine lv_iconst (v := 0) hx hb dX12_plain_14 (by decide) ?_
  refine lv_aload_n hx hb dX12_plain_15 rfl (lv_at hl 0 rfl) ?_
  refine mg_X12_19 C hw dX12_plain_16 ?_
  refine lv_aload_n hx hb dX12_plain_19 rfl (lv_at hl 0 rfl) ?_
  refine mg_X12_233 C hw dX12_plain_20 ?_
  obtain ⟨hi, hm⟩ := ix_elim hm
  refine mal_5 C hw hi dX12_plain_23 ?_
  refine lv_iconst (v := 0) hx hb dX12_plain_24 (by decide) ?_
  obtain ⟨⟨r1, F1, G1⟩, hc, hm⟩ := bind_elim hm
  refine mcallI (n := 3) (As := [.int 0, .int (G 5 (F 42).toNatClampNeg), .int 0]) (rest := []) C hw (mk_step l v a _ fu 0 (G 5 (F 42).toNatClampNeg) 0 F G r1 F1 G1 hc) (mrecv_X12 C hw) mm_203 mm_204 mm_205 mm_27 mm_206 (by decide +kernel) rfl (by omega) (by omega) hl.1 rfl (Nat.le_of_ble_eq_true rfl) dX12_plain_25 (fun H locs hw => ?_)
  exact mw_plain_28 fu rc hr C hret r1 F1 G1 hm hw (lv_sub hl [0] rfl)
theorem mw_plain_0 (fu : Nat) (rc : RC) {dd : Nat} (hr : mH1 l v a rc dd) {res : Int32 × PF × PG} (C : mMC p R s m args c A v RX12 cX12_plain 2 (dd + 1 + 3) (60 * (dd + 1) + 64)) (hret : ∀ (H1 : Heap) (locs1 : List Loc) (ls1 : Array Slot) (pc : Nat), mMW s A v a res.2.1 res.2.2 H1 locs1 → narrow .boolean (.int res.1) = .int res.1 → decode cX12_plain pc = .ok (.ireturn, 1) → W p l e R s m args below meth c H1 locs1 0 0 Q (F0 m pc ls1 [.int res.1])) (F : PF) (G : PG) (hm : mb_plain_0 fu rc F G = some res) {H : Heap} {locs : List Loc} (hw : mMW s A v a F G H locs) {ls : Array Slot} (hl : lv_has ls 2 [(0, .ref (a 212))]) : W p l e R s m args below meth c H locs 0 0 Q (F0 m 0 ls []) := by
  have hx := C.1
  have hb := C.2.1
  unfold mb_plain_0 at hm
  refine lv_aload_n hx hb dX12_plain_0 rfl (lv_at hl 0 rfl) ?_
  refine mg_X12_16 C hw dX12_plain_1 ?_
  refine lv_aload_n hx hb dX12_plain_4 rfl (lv_at hl 0 rfl) ?_
  refine mg_X12_233 C hw dX12_plain_5 ?_
  obtain ⟨hi, hm⟩ := ix_elim hm
  refine mal_4 C hw hi dX12_plain_8 ?_
  refine lv_iconst (v := 3) hx hb dX12_plain_9 (by decide) ?_
  refine lv_icmp_ne (tgt := 41) hx hb dX12_plain_10 (by decide) (fun c_1 => ?_) (fun c_1 => ?_)
  · have hm := (if_neg c_1).symm.trans hm
    exact mw_plain_41 fu rc hr C hret F G hm hw (lv_sub hl [0] rfl)
  · have hm := (if_pos c_1).symm.trans hm
    exact mw_plain_13 fu rc hr C hret F G hm hw (lv_sub hl [0] rfl)
theorem mq_plain (l : Launch) (v : EV) (a : Nat → Nat) (sz : Nat) (fu : Nat) (rc : RC) {dd : Nat} (hr : mH1 l v a rc dd) (F : PF) (G : PG) (r : Int32) (F1 : PF) (G1 : PG) (hm : mh_plain fu rc F G = some (r, F1, G1)) : mMI l yX12_plain cX12_plain 2 (some .boolean) (dd + 1 + 3) (60 * (dd + 1) + 64) v a sz [.ref (a 212)] F G r F1 G1 := mMI.of (ty := .boolean) (by decide) rfl (Nat.le_of_ble_eq_true rfl) (fun p e R s m args below meth c Q A H locs ls C hw hl hret => mw_plain_0 fu rc hr (res := (r, F1, G1)) C hret F G hm hw hl)
def mS1 (fu : Nat) : Nat → RC
  | 0 => fun _ _ _ _ _ => none
  | n + 1 => fun i x y F G => if i = 0 then mh_argument fu (mS1 fu n) x y F G else if i = 1 then mh_call fu (mS1 fu n) x y F G else if i = 2 then mh_chain fu (mS1 fu n) F G else if i = 3 then mh_element fu (mS1 fu n) x F G else if i = 4 then mh_expression fu (mS1 fu n) F G else if i = 5 then mh_inConstant fu (mS1 fu n) x F G else if i = 6 then mh_named fu (mS1 fu n) x F G else if i = 7 then mh_operand fu (mS1 fu n) F G else if i = 8 then mh_plain fu (mS1 fu n) F G else none
theorem mS1_all (l : Launch) (v : EV) (a : Nat → Nat) (fu : Nat) : ∀ dd : Nat, mH1 l v a (mS1 fu dd) dd := by
  intro dd
  induction dd with
  | zero =>
    refine ⟨fun sz x y F G r F1 G1 h => no_elim h, fun sz x y F G r F1 G1 h => no_elim h, fun sz F G r F1 G1 h => no_elim h, fun sz x F G r F1 G1 h => no_elim h, fun sz F G r F1 G1 h => no_elim h, fun sz x F G r F1 G1 h => no_elim h, fun sz x F G r F1 G1 h => no_elim h, fun sz F G r F1 G1 h => no_elim h, fun sz F G r F1 G1 h => no_elim h⟩
  | succ dd ih =>
    exact ⟨fun sz x y F G r F1 G1 h => mq_argument l v a sz fu (mS1 fu dd) ih x y F G r F1 G1 h, fun sz x y F G r F1 G1 h => mq_call l v a sz fu (mS1 fu dd) ih x y F G r F1 G1 h, fun sz F G r F1 G1 h => mq_chain l v a sz fu (mS1 fu dd) ih F G r F1 G1 h, fun sz x F G r F1 G1 h => mq_element l v a sz fu (mS1 fu dd) ih x F G r F1 G1 h, fun sz F G r F1 G1 h => mq_expression l v a sz fu (mS1 fu dd) ih F G r F1 G1 h, fun sz x F G r F1 G1 h => mq_inConstant l v a sz fu (mS1 fu dd) ih x F G r F1 G1 h, fun sz x F G r F1 G1 h => mq_named l v a sz fu (mS1 fu dd) ih x F G r F1 G1 h, fun sz F G r F1 G1 h => mq_operand l v a sz fu (mS1 fu dd) ih F G r F1 G1 h, fun sz F G r F1 G1 h => mq_plain l v a sz fu (mS1 fu dd) ih F G r F1 G1 h⟩
def mf_argument (fu : Nat) (x : Int32) (y : Int32) (F : PF) (G : PG) : PR := mS1 fu 300 0 x y F G
theorem mk_argument (l : Launch) (v : EV) (a : Nat → Nat) (sz : Nat) (fu : Nat) (x : Int32) (y : Int32) (F : PF) (G : PG) (r : Int32) (F1 : PF) (G1 : PG) (hm : mf_argument fu x y F G = some (r, F1, G1)) : mMI l yX12_argument cX12_argument 8 (some .boolean) 303 18064 v a sz [.ref (a 212), .int x, .int y] F G r F1 G1 := (mS1_all l v a fu 300).1 sz x y F G r F1 G1 hm
def mf_call (fu : Nat) (x : Int32) (y : Int32) (F : PF) (G : PG) : PR := mS1 fu 300 1 x y F G
theorem mk_call (l : Launch) (v : EV) (a : Nat → Nat) (sz : Nat) (fu : Nat) (x : Int32) (y : Int32) (F : PF) (G : PG) (r : Int32) (F1 : PF) (G1 : PG) (hm : mf_call fu x y F G = some (r, F1, G1)) : mMI l yX12_call cX12_call 7 (some .boolean) 303 18064 v a sz [.ref (a 212), .int x, .int y] F G r F1 G1 := (mS1_all l v a fu 300).2.1 sz x y F G r F1 G1 hm
def mf_chain (fu : Nat) (F : PF) (G : PG) : PR := mS1 fu 300 2 0 0 F G
theorem mk_chain (l : Launch) (v : EV) (a : Nat → Nat) (sz : Nat) (fu : Nat) (F : PF) (G : PG) (r : Int32) (F1 : PF) (G1 : PG) (hm : mf_chain fu F G = some (r, F1, G1)) : mMI l yX12_chain cX12_chain 4 (some .boolean) 303 18064 v a sz [.ref (a 212)] F G r F1 G1 := (mS1_all l v a fu 300).2.2.1 sz F G r F1 G1 hm
def mf_element (fu : Nat) (x : Int32) (F : PF) (G : PG) : PR := mS1 fu 300 3 x 0 F G
theorem mk_element (l : Launch) (v : EV) (a : Nat → Nat) (sz : Nat) (fu : Nat) (x : Int32) (F : PF) (G : PG) (r : Int32) (F1 : PF) (G1 : PG) (hm : mf_element fu x F G = some (r, F1, G1)) : mMI l yX12_element cX12_element 7 (some .boolean) 303 18064 v a sz [.ref (a 212), .int x] F G r F1 G1 := (mS1_all l v a fu 300).2.2.2.1 sz x F G r F1 G1 hm
def mf_expression (fu : Nat) (F : PF) (G : PG) : PR := mS1 fu 300 4 0 0 F G
theorem mk_expression (l : Launch) (v : EV) (a : Nat → Nat) (sz : Nat) (fu : Nat) (F : PF) (G : PG) (r : Int32) (F1 : PF) (G1 : PG) (hm : mf_expression fu F G = some (r, F1, G1)) : mMI l yX12_expression cX12_expression 3 (some .boolean) 303 18064 v a sz [.ref (a 212)] F G r F1 G1 := (mS1_all l v a fu 300).2.2.2.2.1 sz F G r F1 G1 hm
def mf_inConstant (fu : Nat) (x : Int32) (F : PF) (G : PG) : PR := mS1 fu 300 5 x 0 F G
theorem mk_inConstant (l : Launch) (v : EV) (a : Nat → Nat) (sz : Nat) (fu : Nat) (x : Int32) (F : PF) (G : PG) (r : Int32) (F1 : PF) (G1 : PG) (hm : mf_inConstant fu x F G = some (r, F1, G1)) : mMI l yX12_inConstant cX12_inConstant 6 (some .boolean) 303 18064 v a sz [.ref (a 212), .int x] F G r F1 G1 := (mS1_all l v a fu 300).2.2.2.2.2.1 sz x F G r F1 G1 hm
def mf_named (fu : Nat) (x : Int32) (F : PF) (G : PG) : PR := mS1 fu 300 6 x 0 F G
theorem mk_named (l : Launch) (v : EV) (a : Nat → Nat) (sz : Nat) (fu : Nat) (x : Int32) (F : PF) (G : PG) (r : Int32) (F1 : PF) (G1 : PG) (hm : mf_named fu x F G = some (r, F1, G1)) : mMI l yX12_named cX12_named 5 (some .boolean) 303 18064 v a sz [.ref (a 212), .int x] F G r F1 G1 := (mS1_all l v a fu 300).2.2.2.2.2.2.1 sz x F G r F1 G1 hm
def mf_operand (fu : Nat) (F : PF) (G : PG) : PR := mS1 fu 300 7 0 0 F G
theorem mk_operand (l : Launch) (v : EV) (a : Nat → Nat) (sz : Nat) (fu : Nat) (F : PF) (G : PG) (r : Int32) (F1 : PF) (G1 : PG) (hm : mf_operand fu F G = some (r, F1, G1)) : mMI l yX12_operand cX12_operand 4 (some .boolean) 303 18064 v a sz [.ref (a 212)] F G r F1 G1 := (mS1_all l v a fu 300).2.2.2.2.2.2.2.1 sz F G r F1 G1 hm
def mf_plain (fu : Nat) (F : PF) (G : PG) : PR := mS1 fu 300 8 0 0 F G
theorem mk_plain (l : Launch) (v : EV) (a : Nat → Nat) (sz : Nat) (fu : Nat) (F : PF) (G : PG) (r : Int32) (F1 : PF) (G1 : PG) (hm : mf_plain fu F G = some (r, F1, G1)) : mMI l yX12_plain cX12_plain 2 (some .boolean) 303 18064 v a sz [.ref (a 212)] F G r F1 G1 := (mS1_all l v a fu 300).2.2.2.2.2.2.2.2 sz F G r F1 G1 hm
def mb_alone_32 (fu : Nat) (z0 : Int32) (F : PF) (G : PG) : PR := some (z0, F, G)
def mb_alone_31 (fu : Nat) (F : PF) (G : PG) : PR := mb_alone_32 fu 0 F G
def mb_alone_27 (fu : Nat) (F : PF) (G : PG) : PR := mb_alone_32 fu 1 F G
def mb_alone_23 (fu : Nat) (x1 : Int32) (F : PF) (G : PG) : PR := if x1 = (0 : Int32) then mb_alone_27 fu F G else mb_alone_31 fu F G
def mb_alone_17 (fu : Nat) (x1 : Int32) (F : PF) (G : PG) : PR := mb_alone_32 fu (x1 ^^^ (-1 : Int32)) F G
def mb_alone_11 (fu : Nat) (x0 : Int32) (x1 : Int32) (F : PF) (G : PG) : PR := if x0 = (43 : Int32) then mb_alone_17 fu x1 F G else mb_alone_23 fu x1 F G
def mb_alone_6 (fu : Nat) (x1 : Int32) (F : PF) (G : PG) : PR := mb_alone_32 fu (-x1) F G
def mb_alone_0 (fu : Nat) (x0 : Int32) (x1 : Int32) (F : PF) (G : PG) : PR := if x0 = (39 : Int32) then mb_alone_6 fu x1 F G else mb_alone_11 fu x0 x1 F G
def mf_alone (fu : Nat) (x0 : Int32) (x1 : Int32) (F : PF) (G : PG) : PR := mb_alone_0 fu x0 x1 F G
theorem mw_alone_32 (fu : Nat) {res : Int32 × PF × PG} (C : mMC p R s m args c A v RX12 cX12_alone 2 0 0) (hret : ∀ (H1 : Heap) (locs1 : List Loc) (ls1 : Array Slot) (pc : Nat), mMW s A v a res.2.1 res.2.2 H1 locs1 → narrow .int (.int res.1) = .int res.1 → decode cX12_alone pc = .ok (.ireturn, 1) → W p l e R s m args below meth c H1 locs1 0 0 Q (F0 m pc ls1 [.int res.1])) (z0 : Int32) (F : PF) (G : PG) (hm : mb_alone_32 fu z0 F G = some res) {H : Heap} {locs : List Loc} (hw : mMW s A v a F G H locs) {ls : Array Slot} (hl : lv_has ls 2 []) : W p l e R s m args below meth c H locs 0 0 Q (F0 m 32 ls [.int z0]) := by
  have hx := C.1
  have hb := C.2.1
  unfold mb_alone_32 at hm
  obtain rfl := Option.some.inj hm
  exact hret _ _ _ _ hw rfl dX12_alone_32
theorem mw_alone_31 (fu : Nat) {res : Int32 × PF × PG} (C : mMC p R s m args c A v RX12 cX12_alone 2 0 0) (hret : ∀ (H1 : Heap) (locs1 : List Loc) (ls1 : Array Slot) (pc : Nat), mMW s A v a res.2.1 res.2.2 H1 locs1 → narrow .int (.int res.1) = .int res.1 → decode cX12_alone pc = .ok (.ireturn, 1) → W p l e R s m args below meth c H1 locs1 0 0 Q (F0 m pc ls1 [.int res.1])) (F : PF) (G : PG) (hm : mb_alone_31 fu F G = some res) {H : Heap} {locs : List Loc} (hw : mMW s A v a F G H locs) {ls : Array Slot} (hl : lv_has ls 2 []) : W p l e R s m args below meth c H locs 0 0 Q (F0 m 31 ls []) := by
  have hx := C.1
  have hb := C.2.1
  unfold mb_alone_31 at hm
  refine lv_iconst (v := 0) hx hb dX12_alone_31 (by decide) ?_
  exact mw_alone_32 fu C hret 0 F G hm hw (lv_sub hl [] rfl)
theorem mw_alone_27 (fu : Nat) {res : Int32 × PF × PG} (C : mMC p R s m args c A v RX12 cX12_alone 2 0 0) (hret : ∀ (H1 : Heap) (locs1 : List Loc) (ls1 : Array Slot) (pc : Nat), mMW s A v a res.2.1 res.2.2 H1 locs1 → narrow .int (.int res.1) = .int res.1 → decode cX12_alone pc = .ok (.ireturn, 1) → W p l e R s m args below meth c H1 locs1 0 0 Q (F0 m pc ls1 [.int res.1])) (F : PF) (G : PG) (hm : mb_alone_27 fu F G = some res) {H : Heap} {locs : List Loc} (hw : mMW s A v a F G H locs) {ls : Array Slot} (hl : lv_has ls 2 []) : W p l e R s m args below meth c H locs 0 0 Q (F0 m 27 ls []) := by
  have hx := C.1
  have hb := C.2.1
  unfold mb_alone_27 at hm
  refine lv_iconst (v := 1) hx hb dX12_alone_27 (by decide) ?_
  refine lv_goto (tgt := 32) hx hb dX12_alone_28 (by decide) ?_
  exact mw_alone_32 fu C hret 1 F G hm hw (lv_sub hl [] rfl)
theorem mw_alone_23 (fu : Nat) {res : Int32 × PF × PG} (C : mMC p R s m args c A v RX12 cX12_alone 2 0 0) (hret : ∀ (H1 : Heap) (locs1 : List Loc) (ls1 : Array Slot) (pc : Nat), mMW s A v a res.2.1 res.2.2 H1 locs1 → narrow .int (.int res.1) = .int res.1 → decode cX12_alone pc = .ok (.ireturn, 1) → W p l e R s m args below meth c H1 locs1 0 0 Q (F0 m pc ls1 [.int res.1])) (x1 : Int32) (F : PF) (G : PG) (hm : mb_alone_23 fu x1 F G = some res) {H : Heap} {locs : List Loc} (hw : mMW s A v a F G H locs) {ls : Array Slot} (hl : lv_has ls 2 [(1, .int x1)]) : W p l e R s m args below meth c H locs 0 0 Q (F0 m 23 ls []) := by
  have hx := C.1
  have hb := C.2.1
  unfold mb_alone_23 at hm
  refine lv_iload_n hx hb dX12_alone_23 rfl (lv_at hl 0 rfl) ?_
  refine lv_if_ne (tgt := 31) hx hb dX12_alone_24 (by decide) (fun c_1 => ?_) (fun c_1 => ?_)
  · have hm := (if_neg c_1).symm.trans hm
    exact mw_alone_31 fu C hret F G hm hw (lv_sub hl [] rfl)
  · have hm := (if_pos c_1).symm.trans hm
    exact mw_alone_27 fu C hret F G hm hw (lv_sub hl [] rfl)
theorem mw_alone_17 (fu : Nat) {res : Int32 × PF × PG} (C : mMC p R s m args c A v RX12 cX12_alone 2 0 0) (hret : ∀ (H1 : Heap) (locs1 : List Loc) (ls1 : Array Slot) (pc : Nat), mMW s A v a res.2.1 res.2.2 H1 locs1 → narrow .int (.int res.1) = .int res.1 → decode cX12_alone pc = .ok (.ireturn, 1) → W p l e R s m args below meth c H1 locs1 0 0 Q (F0 m pc ls1 [.int res.1])) (x1 : Int32) (F : PF) (G : PG) (hm : mb_alone_17 fu x1 F G = some res) {H : Heap} {locs : List Loc} (hw : mMW s A v a F G H locs) {ls : Array Slot} (hl : lv_has ls 2 [(1, .int x1)]) : W p l e R s m args below meth c H locs 0 0 Q (F0 m 17 ls []) := by
  have hx := C.1
  have hb := C.2.1
  unfold mb_alone_17 at hm
  refine lv_iload_n hx hb dX12_alone_17 rfl (lv_at hl 0 rfl) ?_
  refine lv_iconst (v := (-1)) hx hb dX12_alone_18 (by decide) ?_
  refine lv_ixor hx hb dX12_alone_19 ?_
  refine lv_goto (tgt := 32) hx hb dX12_alone_20 (by decide) ?_
  exact mw_alone_32 fu C hret (x1 ^^^ (-1 : Int32)) F G hm hw (lv_sub hl [] rfl)
theorem mw_alone_11 (fu : Nat) {res : Int32 × PF × PG} (C : mMC p R s m args c A v RX12 cX12_alone 2 0 0) (hret : ∀ (H1 : Heap) (locs1 : List Loc) (ls1 : Array Slot) (pc : Nat), mMW s A v a res.2.1 res.2.2 H1 locs1 → narrow .int (.int res.1) = .int res.1 → decode cX12_alone pc = .ok (.ireturn, 1) → W p l e R s m args below meth c H1 locs1 0 0 Q (F0 m pc ls1 [.int res.1])) (x0 : Int32) (x1 : Int32) (F : PF) (G : PG) (hm : mb_alone_11 fu x0 x1 F G = some res) {H : Heap} {locs : List Loc} (hw : mMW s A v a F G H locs) {ls : Array Slot} (hl : lv_has ls 2 [(0, .int x0), (1, .int x1)]) : W p l e R s m args below meth c H locs 0 0 Q (F0 m 11 ls []) := by
  have hx := C.1
  have hb := C.2.1
  unfold mb_alone_11 at hm
  refine lv_iload_n hx hb dX12_alone_11 rfl (lv_at hl 0 rfl) ?_
  refine lv_bipush (v := 43) hx hb dX12_alone_12 (by decide) ?_
  refine lv_icmp_ne (tgt := 23) hx hb dX12_alone_14 (by decide) (fun c_1 => ?_) (fun c_1 => ?_)
  · have hm := (if_neg c_1).symm.trans hm
    exact mw_alone_23 fu C hret x1 F G hm hw (lv_sub hl [1] rfl)
  · have hm := (if_pos c_1).symm.trans hm
    exact mw_alone_17 fu C hret x1 F G hm hw (lv_sub hl [1] rfl)
theorem mw_alone_6 (fu : Nat) {res : Int32 × PF × PG} (C : mMC p R s m args c A v RX12 cX12_alone 2 0 0) (hret : ∀ (H1 : Heap) (locs1 : List Loc) (ls1 : Array Slot) (pc : Nat), mMW s A v a res.2.1 res.2.2 H1 locs1 → narrow .int (.int res.1) = .int res.1 → decode cX12_alone pc = .ok (.ireturn, 1) → W p l e R s m args below meth c H1 locs1 0 0 Q (F0 m pc ls1 [.int res.1])) (x1 : Int32) (F : PF) (G : PG) (hm : mb_alone_6 fu x1 F G = some res) {H : Heap} {locs : List Loc} (hw : mMW s A v a F G H locs) {ls : Array Slot} (hl : lv_has ls 2 [(1, .int x1)]) : W p l e R s m args below meth c H locs 0 0 Q (F0 m 6 ls []) := by
  have hx := C.1
  have hb := C.2.1
  unfold mb_alone_6 at hm
  refine lv_iload_n hx hb dX12_alone_6 rfl (lv_at hl 0 rfl) ?_
  refine lv_ineg hx hb dX12_alone_7 ?_
  refine lv_goto (tgt := 32) hx hb dX12_alone_8 (by decide) ?_
  exact mw_alone_32 fu C hret (-x1) F G hm hw (lv_sub hl [] rfl)
theorem mw_alone_0 (fu : Nat) {res : Int32 × PF × PG} (C : mMC p R s m args c A v RX12 cX12_alone 2 0 0) (hret : ∀ (H1 : Heap) (locs1 : List Loc) (ls1 : Array Slot) (pc : Nat), mMW s A v a res.2.1 res.2.2 H1 locs1 → narrow .int (.int res.1) = .int res.1 → decode cX12_alone pc = .ok (.ireturn, 1) → W p l e R s m args below meth c H1 locs1 0 0 Q (F0 m pc ls1 [.int res.1])) (x0 : Int32) (x1 : Int32) (F : PF) (G : PG) (hm : mb_alone_0 fu x0 x1 F G = some res) {H : Heap} {locs : List Loc} (hw : mMW s A v a F G H locs) {ls : Array Slot} (hl : lv_has ls 2 [(0, .int x0), (1, .int x1)]) : W p l e R s m args below meth c H locs 0 0 Q (F0 m 0 ls []) := by
  have hx := C.1
  have hb := C.2.1
  unfold mb_alone_0 at hm
  refine lv_iload_n hx hb dX12_alone_0 rfl (lv_at hl 0 rfl) ?_
  refine lv_bipush (v := 39) hx hb dX12_alone_1 (by decide) ?_
  refine lv_icmp_ne (tgt := 11) hx hb dX12_alone_3 (by decide) (fun c_1 => ?_) (fun c_1 => ?_)
  · have hm := (if_neg c_1).symm.trans hm
    exact mw_alone_11 fu C hret x0 x1 F G hm hw (lv_sub hl [0, 1] rfl)
  · have hm := (if_pos c_1).symm.trans hm
    exact mw_alone_6 fu C hret x1 F G hm hw (lv_sub hl [1] rfl)
theorem mk_alone (l : Launch) (v : EV) (a : Nat → Nat) (sz : Nat) (fu : Nat) (x0 : Int32) (x1 : Int32) (F : PF) (G : PG) (r : Int32) (F1 : PF) (G1 : PG) (hm : mf_alone fu x0 x1 F G = some (r, F1, G1)) : mMI l yX12_alone cX12_alone 2 (some .int) 0 0 v a sz [.int x0, .int x1] F G r F1 G1 := mMI.of (ty := .int) (by decide) rfl (Nat.le_of_ble_eq_true rfl) (fun p e R s m args below meth c Q A H locs ls C hw hl hret => mw_alone_0 fu (res := (r, F1, G1)) C hret x0 x1 F G hm hw hl)
def mb_rest_27 (fu : Nat) (z0 : Int32) (F : PF) (G : PG) : PR := some (z0, F, G)
def mb_rest_24 (fu : Nat) (x0 : Int32) (x1 : Int32) (F : PF) (G : PG) : PR := if x1 = 0 then none else (mb_rest_27 fu (x0 - x0 / x1 * x1) F G)
def mb_rest_20 (fu : Nat) (F : PF) (G : PG) : PR := mb_rest_27 fu 0 F G
def mb_rest_15 (fu : Nat) (x0 : Int32) (x1 : Int32) (F : PF) (G : PG) : PR := if x1 = (-1 : Int32) then mb_rest_20 fu F G else mb_rest_24 fu x0 x1 F G
def mb_rest_8 (fu : Nat) (x0 : Int32) (x1 : Int32) (F : PF) (G : PG) : PR := if x0 = (-2147483648 : Int32) then mb_rest_15 fu x0 x1 F G else mb_rest_24 fu x0 x1 F G
def mb_rest_4 (fu : Nat) (x0 : Int32) (F : PF) (G : PG) : PR := mb_rest_27 fu x0 F G
def mb_rest_0 (fu : Nat) (x0 : Int32) (x1 : Int32) (F : PF) (G : PG) : PR := if x1 = (0 : Int32) then mb_rest_4 fu x0 F G else mb_rest_8 fu x0 x1 F G
def mf_rest (fu : Nat) (x0 : Int32) (x1 : Int32) (F : PF) (G : PG) : PR := mb_rest_0 fu x0 x1 F G
theorem mw_rest_27 (fu : Nat) {res : Int32 × PF × PG} (C : mMC p R s m args c A v RX12 cX12_rest 2 0 0) (hret : ∀ (H1 : Heap) (locs1 : List Loc) (ls1 : Array Slot) (pc : Nat), mMW s A v a res.2.1 res.2.2 H1 locs1 → narrow .int (.int res.1) = .int res.1 → decode cX12_rest pc = .ok (.ireturn, 1) → W p l e R s m args below meth c H1 locs1 0 0 Q (F0 m pc ls1 [.int res.1])) (z0 : Int32) (F : PF) (G : PG) (hm : mb_rest_27 fu z0 F G = some res) {H : Heap} {locs : List Loc} (hw : mMW s A v a F G H locs) {ls : Array Slot} (hl : lv_has ls 2 []) : W p l e R s m args below meth c H locs 0 0 Q (F0 m 27 ls [.int z0]) := by
  have hx := C.1
  have hb := C.2.1
  unfold mb_rest_27 at hm
  obtain rfl := Option.some.inj hm
  exact hret _ _ _ _ hw rfl dX12_rest_27
theorem mw_rest_24 (fu : Nat) {res : Int32 × PF × PG} (C : mMC p R s m args c A v RX12 cX12_rest 2 0 0) (hret : ∀ (H1 : Heap) (locs1 : List Loc) (ls1 : Array Slot) (pc : Nat), mMW s A v a res.2.1 res.2.2 H1 locs1 → narrow .int (.int res.1) = .int res.1 → decode cX12_rest pc = .ok (.ireturn, 1) → W p l e R s m args below meth c H1 locs1 0 0 Q (F0 m pc ls1 [.int res.1])) (x0 : Int32) (x1 : Int32) (F : PF) (G : PG) (hm : mb_rest_24 fu x0 x1 F G = some res) {H : Heap} {locs : List Loc} (hw : mMW s A v a F G H locs) {ls : Array Slot} (hl : lv_has ls 2 [(0, .int x0), (1, .int x1)]) : W p l e R s m args below meth c H locs 0 0 Q (F0 m 24 ls []) := by
  have hx := C.1
  have hb := C.2.1
  unfold mb_rest_24 at hm
  refine lv_iload_n hx hb dX12_rest_24 rfl (lv_at hl 0 rfl) ?_
  refine lv_iload_n hx hb dX12_rest_25 rfl (lv_at hl 1 rfl) ?_
  obtain ⟨hne, hm⟩ := nz_elim hm
  refine lv_irem hx hb dX12_rest_26 hne ?_
  exact mw_rest_27 fu C hret (x0 - x0 / x1 * x1) F G hm hw (lv_sub hl [] rfl)
theorem mw_rest_20 (fu : Nat) {res : Int32 × PF × PG} (C : mMC p R s m args c A v RX12 cX12_rest 2 0 0) (hret : ∀ (H1 : Heap) (locs1 : List Loc) (ls1 : Array Slot) (pc : Nat), mMW s A v a res.2.1 res.2.2 H1 locs1 → narrow .int (.int res.1) = .int res.1 → decode cX12_rest pc = .ok (.ireturn, 1) → W p l e R s m args below meth c H1 locs1 0 0 Q (F0 m pc ls1 [.int res.1])) (F : PF) (G : PG) (hm : mb_rest_20 fu F G = some res) {H : Heap} {locs : List Loc} (hw : mMW s A v a F G H locs) {ls : Array Slot} (hl : lv_has ls 2 []) : W p l e R s m args below meth c H locs 0 0 Q (F0 m 20 ls []) := by
  have hx := C.1
  have hb := C.2.1
  unfold mb_rest_20 at hm
  refine lv_iconst (v := 0) hx hb dX12_rest_20 (by decide) ?_
  refine lv_goto (tgt := 27) hx hb dX12_rest_21 (by decide) ?_
  exact mw_rest_27 fu C hret 0 F G hm hw (lv_sub hl [] rfl)
theorem mw_rest_15 (fu : Nat) {res : Int32 × PF × PG} (C : mMC p R s m args c A v RX12 cX12_rest 2 0 0) (hret : ∀ (H1 : Heap) (locs1 : List Loc) (ls1 : Array Slot) (pc : Nat), mMW s A v a res.2.1 res.2.2 H1 locs1 → narrow .int (.int res.1) = .int res.1 → decode cX12_rest pc = .ok (.ireturn, 1) → W p l e R s m args below meth c H1 locs1 0 0 Q (F0 m pc ls1 [.int res.1])) (x0 : Int32) (x1 : Int32) (F : PF) (G : PG) (hm : mb_rest_15 fu x0 x1 F G = some res) {H : Heap} {locs : List Loc} (hw : mMW s A v a F G H locs) {ls : Array Slot} (hl : lv_has ls 2 [(0, .int x0), (1, .int x1)]) : W p l e R s m args below meth c H locs 0 0 Q (F0 m 15 ls []) := by
  have hx := C.1
  have hb := C.2.1
  unfold mb_rest_15 at hm
  refine lv_iload_n hx hb dX12_rest_15 rfl (lv_at hl 1 rfl) ?_
  refine lv_iconst (v := (-1)) hx hb dX12_rest_16 (by decide) ?_
  refine lv_icmp_ne (tgt := 24) hx hb dX12_rest_17 (by decide) (fun c_1 => ?_) (fun c_1 => ?_)
  · have hm := (if_neg c_1).symm.trans hm
    exact mw_rest_24 fu C hret x0 x1 F G hm hw (lv_sub hl [0, 1] rfl)
  · have hm := (if_pos c_1).symm.trans hm
    exact mw_rest_20 fu C hret F G hm hw (lv_sub hl [] rfl)
theorem mw_rest_8 (fu : Nat) {res : Int32 × PF × PG} (C : mMC p R s m args c A v RX12 cX12_rest 2 0 0) (hret : ∀ (H1 : Heap) (locs1 : List Loc) (ls1 : Array Slot) (pc : Nat), mMW s A v a res.2.1 res.2.2 H1 locs1 → narrow .int (.int res.1) = .int res.1 → decode cX12_rest pc = .ok (.ireturn, 1) → W p l e R s m args below meth c H1 locs1 0 0 Q (F0 m pc ls1 [.int res.1])) (x0 : Int32) (x1 : Int32) (F : PF) (G : PG) (hm : mb_rest_8 fu x0 x1 F G = some res) {H : Heap} {locs : List Loc} (hw : mMW s A v a F G H locs) {ls : Array Slot} (hl : lv_has ls 2 [(0, .int x0), (1, .int x1)]) : W p l e R s m args below meth c H locs 0 0 Q (F0 m 8 ls []) := by
  have hx := C.1
  have hb := C.2.1
  unfold mb_rest_8 at hm
  refine lv_iload_n hx hb dX12_rest_8 rfl (lv_at hl 0 rfl) ?_
  refine lv_ldcw (v := (-2147483648)) hx hb C.2.2.2.1 (C.2.2.2.2.1 _ mm_303) dX12_rest_9 ?_
  refine lv_icmp_ne (tgt := 24) hx hb dX12_rest_12 (by decide) (fun c_1 => ?_) (fun c_1 => ?_)
  · have hm := (if_neg c_1).symm.trans hm
    exact mw_rest_24 fu C hret x0 x1 F G hm hw (lv_sub hl [0, 1] rfl)
  · have hm := (if_pos c_1).symm.trans hm
    exact mw_rest_15 fu C hret x0 x1 F G hm hw (lv_sub hl [0, 1] rfl)
theorem mw_rest_4 (fu : Nat) {res : Int32 × PF × PG} (C : mMC p R s m args c A v RX12 cX12_rest 2 0 0) (hret : ∀ (H1 : Heap) (locs1 : List Loc) (ls1 : Array Slot) (pc : Nat), mMW s A v a res.2.1 res.2.2 H1 locs1 → narrow .int (.int res.1) = .int res.1 → decode cX12_rest pc = .ok (.ireturn, 1) → W p l e R s m args below meth c H1 locs1 0 0 Q (F0 m pc ls1 [.int res.1])) (x0 : Int32) (F : PF) (G : PG) (hm : mb_rest_4 fu x0 F G = some res) {H : Heap} {locs : List Loc} (hw : mMW s A v a F G H locs) {ls : Array Slot} (hl : lv_has ls 2 [(0, .int x0)]) : W p l e R s m args below meth c H locs 0 0 Q (F0 m 4 ls []) := by
  have hx := C.1
  have hb := C.2.1
  unfold mb_rest_4 at hm
  refine lv_iload_n hx hb dX12_rest_4 rfl (lv_at hl 0 rfl) ?_
  refine lv_goto (tgt := 27) hx hb dX12_rest_5 (by decide) ?_
  exact mw_rest_27 fu C hret x0 F G hm hw (lv_sub hl [] rfl)
theorem mw_rest_0 (fu : Nat) {res : Int32 × PF × PG} (C : mMC p R s m args c A v RX12 cX12_rest 2 0 0) (hret : ∀ (H1 : Heap) (locs1 : List Loc) (ls1 : Array Slot) (pc : Nat), mMW s A v a res.2.1 res.2.2 H1 locs1 → narrow .int (.int res.1) = .int res.1 → decode cX12_rest pc = .ok (.ireturn, 1) → W p l e R s m args below meth c H1 locs1 0 0 Q (F0 m pc ls1 [.int res.1])) (x0 : Int32) (x1 : Int32) (F : PF) (G : PG) (hm : mb_rest_0 fu x0 x1 F G = some res) {H : Heap} {locs : List Loc} (hw : mMW s A v a F G H locs) {ls : Array Slot} (hl : lv_has ls 2 [(0, .int x0), (1, .int x1)]) : W p l e R s m args below meth c H locs 0 0 Q (F0 m 0 ls []) := by
  have hx := C.1
  have hb := C.2.1
  unfold mb_rest_0 at hm
  refine lv_iload_n hx hb dX12_rest_0 rfl (lv_at hl 1 rfl) ?_
  refine lv_if_ne (tgt := 8) hx hb dX12_rest_1 (by decide) (fun c_1 => ?_) (fun c_1 => ?_)
  · have hm := (if_neg c_1).symm.trans hm
    exact mw_rest_8 fu C hret x0 x1 F G hm hw (lv_sub hl [0, 1] rfl)
  · have hm := (if_pos c_1).symm.trans hm
    exact mw_rest_4 fu C hret x0 F G hm hw (lv_sub hl [0] rfl)
theorem mk_rest (l : Launch) (v : EV) (a : Nat → Nat) (sz : Nat) (fu : Nat) (x0 : Int32) (x1 : Int32) (F : PF) (G : PG) (r : Int32) (F1 : PF) (G1 : PG) (hm : mf_rest fu x0 x1 F G = some (r, F1, G1)) : mMI l yX12_rest cX12_rest 2 (some .int) 0 0 v a sz [.int x0, .int x1] F G r F1 G1 := mMI.of (ty := .int) (by decide) rfl (Nat.le_of_ble_eq_true rfl) (fun p e R s m args below meth c Q A H locs ls C hw hl hret => mw_rest_0 fu (res := (r, F1, G1)) C hret x0 x1 F G hm hw hl)
def mb_over_27 (fu : Nat) (z0 : Int32) (F : PF) (G : PG) : PR := some (z0, F, G)
def mb_over_24 (fu : Nat) (x0 : Int32) (x1 : Int32) (F : PF) (G : PG) : PR := if x1 = 0 then none else (mb_over_27 fu (x0 / x1) F G)
def mb_over_20 (fu : Nat) (x0 : Int32) (F : PF) (G : PG) : PR := mb_over_27 fu x0 F G
def mb_over_15 (fu : Nat) (x0 : Int32) (x1 : Int32) (F : PF) (G : PG) : PR := if x1 = (-1 : Int32) then mb_over_20 fu x0 F G else mb_over_24 fu x0 x1 F G
def mb_over_8 (fu : Nat) (x0 : Int32) (x1 : Int32) (F : PF) (G : PG) : PR := if x0 = (-2147483648 : Int32) then mb_over_15 fu x0 x1 F G else mb_over_24 fu x0 x1 F G
def mb_over_4 (fu : Nat) (F : PF) (G : PG) : PR := mb_over_27 fu (-1) F G
def mb_over_0 (fu : Nat) (x0 : Int32) (x1 : Int32) (F : PF) (G : PG) : PR := if x1 = (0 : Int32) then mb_over_4 fu F G else mb_over_8 fu x0 x1 F G
def mf_over (fu : Nat) (x0 : Int32) (x1 : Int32) (F : PF) (G : PG) : PR := mb_over_0 fu x0 x1 F G
theorem mw_over_27 (fu : Nat) {res : Int32 × PF × PG} (C : mMC p R s m args c A v RX12 cX12_over 2 0 0) (hret : ∀ (H1 : Heap) (locs1 : List Loc) (ls1 : Array Slot) (pc : Nat), mMW s A v a res.2.1 res.2.2 H1 locs1 → narrow .int (.int res.1) = .int res.1 → decode cX12_over pc = .ok (.ireturn, 1) → W p l e R s m args below meth c H1 locs1 0 0 Q (F0 m pc ls1 [.int res.1])) (z0 : Int32) (F : PF) (G : PG) (hm : mb_over_27 fu z0 F G = some res) {H : Heap} {locs : List Loc} (hw : mMW s A v a F G H locs) {ls : Array Slot} (hl : lv_has ls 2 []) : W p l e R s m args below meth c H locs 0 0 Q (F0 m 27 ls [.int z0]) := by
  have hx := C.1
  have hb := C.2.1
  unfold mb_over_27 at hm
  obtain rfl := Option.some.inj hm
  exact hret _ _ _ _ hw rfl dX12_over_27
theorem mw_over_24 (fu : Nat) {res : Int32 × PF × PG} (C : mMC p R s m args c A v RX12 cX12_over 2 0 0) (hret : ∀ (H1 : Heap) (locs1 : List Loc) (ls1 : Array Slot) (pc : Nat), mMW s A v a res.2.1 res.2.2 H1 locs1 → narrow .int (.int res.1) = .int res.1 → decode cX12_over pc = .ok (.ireturn, 1) → W p l e R s m args below meth c H1 locs1 0 0 Q (F0 m pc ls1 [.int res.1])) (x0 : Int32) (x1 : Int32) (F : PF) (G : PG) (hm : mb_over_24 fu x0 x1 F G = some res) {H : Heap} {locs : List Loc} (hw : mMW s A v a F G H locs) {ls : Array Slot} (hl : lv_has ls 2 [(0, .int x0), (1, .int x1)]) : W p l e R s m args below meth c H locs 0 0 Q (F0 m 24 ls []) := by
  have hx := C.1
  have hb := C.2.1
  unfold mb_over_24 at hm
  refine lv_iload_n hx hb dX12_over_24 rfl (lv_at hl 0 rfl) ?_
  refine lv_iload_n hx hb dX12_over_25 rfl (lv_at hl 1 rfl) ?_
  obtain ⟨hne, hm⟩ := nz_elim hm
  refine lv_idiv hx hb dX12_over_26 hne ?_
  exact mw_over_27 fu C hret (x0 / x1) F G hm hw (lv_sub hl [] rfl)
theorem mw_over_20 (fu : Nat) {res : Int32 × PF × PG} (C : mMC p R s m args c A v RX12 cX12_over 2 0 0) (hret : ∀ (H1 : Heap) (locs1 : List Loc) (ls1 : Array Slot) (pc : Nat), mMW s A v a res.2.1 res.2.2 H1 locs1 → narrow .int (.int res.1) = .int res.1 → decode cX12_over pc = .ok (.ireturn, 1) → W p l e R s m args below meth c H1 locs1 0 0 Q (F0 m pc ls1 [.int res.1])) (x0 : Int32) (F : PF) (G : PG) (hm : mb_over_20 fu x0 F G = some res) {H : Heap} {locs : List Loc} (hw : mMW s A v a F G H locs) {ls : Array Slot} (hl : lv_has ls 2 [(0, .int x0)]) : W p l e R s m args below meth c H locs 0 0 Q (F0 m 20 ls []) := by
  have hx := C.1
  have hb := C.2.1
  unfold mb_over_20 at hm
  refine lv_iload_n hx hb dX12_over_20 rfl (lv_at hl 0 rfl) ?_
  refine lv_goto (tgt := 27) hx hb dX12_over_21 (by decide) ?_
  exact mw_over_27 fu C hret x0 F G hm hw (lv_sub hl [] rfl)
theorem mw_over_15 (fu : Nat) {res : Int32 × PF × PG} (C : mMC p R s m args c A v RX12 cX12_over 2 0 0) (hret : ∀ (H1 : Heap) (locs1 : List Loc) (ls1 : Array Slot) (pc : Nat), mMW s A v a res.2.1 res.2.2 H1 locs1 → narrow .int (.int res.1) = .int res.1 → decode cX12_over pc = .ok (.ireturn, 1) → W p l e R s m args below meth c H1 locs1 0 0 Q (F0 m pc ls1 [.int res.1])) (x0 : Int32) (x1 : Int32) (F : PF) (G : PG) (hm : mb_over_15 fu x0 x1 F G = some res) {H : Heap} {locs : List Loc} (hw : mMW s A v a F G H locs) {ls : Array Slot} (hl : lv_has ls 2 [(0, .int x0), (1, .int x1)]) : W p l e R s m args below meth c H locs 0 0 Q (F0 m 15 ls []) := by
  have hx := C.1
  have hb := C.2.1
  unfold mb_over_15 at hm
  refine lv_iload_n hx hb dX12_over_15 rfl (lv_at hl 1 rfl) ?_
  refine lv_iconst (v := (-1)) hx hb dX12_over_16 (by decide) ?_
  refine lv_icmp_ne (tgt := 24) hx hb dX12_over_17 (by decide) (fun c_1 => ?_) (fun c_1 => ?_)
  · have hm := (if_neg c_1).symm.trans hm
    exact mw_over_24 fu C hret x0 x1 F G hm hw (lv_sub hl [0, 1] rfl)
  · have hm := (if_pos c_1).symm.trans hm
    exact mw_over_20 fu C hret x0 F G hm hw (lv_sub hl [0] rfl)
theorem mw_over_8 (fu : Nat) {res : Int32 × PF × PG} (C : mMC p R s m args c A v RX12 cX12_over 2 0 0) (hret : ∀ (H1 : Heap) (locs1 : List Loc) (ls1 : Array Slot) (pc : Nat), mMW s A v a res.2.1 res.2.2 H1 locs1 → narrow .int (.int res.1) = .int res.1 → decode cX12_over pc = .ok (.ireturn, 1) → W p l e R s m args below meth c H1 locs1 0 0 Q (F0 m pc ls1 [.int res.1])) (x0 : Int32) (x1 : Int32) (F : PF) (G : PG) (hm : mb_over_8 fu x0 x1 F G = some res) {H : Heap} {locs : List Loc} (hw : mMW s A v a F G H locs) {ls : Array Slot} (hl : lv_has ls 2 [(0, .int x0), (1, .int x1)]) : W p l e R s m args below meth c H locs 0 0 Q (F0 m 8 ls []) := by
  have hx := C.1
  have hb := C.2.1
  unfold mb_over_8 at hm
  refine lv_iload_n hx hb dX12_over_8 rfl (lv_at hl 0 rfl) ?_
  refine lv_ldcw (v := (-2147483648)) hx hb C.2.2.2.1 (C.2.2.2.2.1 _ mm_303) dX12_over_9 ?_
  refine lv_icmp_ne (tgt := 24) hx hb dX12_over_12 (by decide) (fun c_1 => ?_) (fun c_1 => ?_)
  · have hm := (if_neg c_1).symm.trans hm
    exact mw_over_24 fu C hret x0 x1 F G hm hw (lv_sub hl [0, 1] rfl)
  · have hm := (if_pos c_1).symm.trans hm
    exact mw_over_15 fu C hret x0 x1 F G hm hw (lv_sub hl [0, 1] rfl)
theorem mw_over_4 (fu : Nat) {res : Int32 × PF × PG} (C : mMC p R s m args c A v RX12 cX12_over 2 0 0) (hret : ∀ (H1 : Heap) (locs1 : List Loc) (ls1 : Array Slot) (pc : Nat), mMW s A v a res.2.1 res.2.2 H1 locs1 → narrow .int (.int res.1) = .int res.1 → decode cX12_over pc = .ok (.ireturn, 1) → W p l e R s m args below meth c H1 locs1 0 0 Q (F0 m pc ls1 [.int res.1])) (F : PF) (G : PG) (hm : mb_over_4 fu F G = some res) {H : Heap} {locs : List Loc} (hw : mMW s A v a F G H locs) {ls : Array Slot} (hl : lv_has ls 2 []) : W p l e R s m args below meth c H locs 0 0 Q (F0 m 4 ls []) := by
  have hx := C.1
  have hb := C.2.1
  unfold mb_over_4 at hm
  refine lv_iconst (v := (-1)) hx hb dX12_over_4 (by decide) ?_
  refine lv_goto (tgt := 27) hx hb dX12_over_5 (by decide) ?_
  exact mw_over_27 fu C hret (-1) F G hm hw (lv_sub hl [] rfl)
theorem mw_over_0 (fu : Nat) {res : Int32 × PF × PG} (C : mMC p R s m args c A v RX12 cX12_over 2 0 0) (hret : ∀ (H1 : Heap) (locs1 : List Loc) (ls1 : Array Slot) (pc : Nat), mMW s A v a res.2.1 res.2.2 H1 locs1 → narrow .int (.int res.1) = .int res.1 → decode cX12_over pc = .ok (.ireturn, 1) → W p l e R s m args below meth c H1 locs1 0 0 Q (F0 m pc ls1 [.int res.1])) (x0 : Int32) (x1 : Int32) (F : PF) (G : PG) (hm : mb_over_0 fu x0 x1 F G = some res) {H : Heap} {locs : List Loc} (hw : mMW s A v a F G H locs) {ls : Array Slot} (hl : lv_has ls 2 [(0, .int x0), (1, .int x1)]) : W p l e R s m args below meth c H locs 0 0 Q (F0 m 0 ls []) := by
  have hx := C.1
  have hb := C.2.1
  unfold mb_over_0 at hm
  refine lv_iload_n hx hb dX12_over_0 rfl (lv_at hl 1 rfl) ?_
  refine lv_if_ne (tgt := 8) hx hb dX12_over_1 (by decide) (fun c_1 => ?_) (fun c_1 => ?_)
  · have hm := (if_neg c_1).symm.trans hm
    exact mw_over_8 fu C hret x0 x1 F G hm hw (lv_sub hl [0, 1] rfl)
  · have hm := (if_pos c_1).symm.trans hm
    exact mw_over_4 fu C hret F G hm hw (lv_sub hl [] rfl)
theorem mk_over (l : Launch) (v : EV) (a : Nat → Nat) (sz : Nat) (fu : Nat) (x0 : Int32) (x1 : Int32) (F : PF) (G : PG) (r : Int32) (F1 : PF) (G1 : PG) (hm : mf_over fu x0 x1 F G = some (r, F1, G1)) : mMI l yX12_over cX12_over 2 (some .int) 0 0 v a sz [.int x0, .int x1] F G r F1 G1 := mMI.of (ty := .int) (by decide) rfl (Nat.le_of_ble_eq_true rfl) (fun p e R s m args below meth c Q A H locs ls C hw hl hret => mw_over_0 fu (res := (r, F1, G1)) C hret x0 x1 F G hm hw hl)
def mb_doing_180 (fu : Nat) (x1 : Int32) (x2 : Int32) (F : PF) (G : PG) : PR := some ((x1 ||| x2), F, G)
def mb_doing_184 (fu : Nat) (x1 : Int32) (x2 : Int32) (F : PF) (G : PG) : PR := some ((x1 ^^^ x2), F, G)
def mb_doing_188 (fu : Nat) (x1 : Int32) (x2 : Int32) (F : PF) (G : PG) : PR := some ((x1 &&& x2), F, G)
def mb_doing_202 (fu : Nat) (z0 : Int32) (F : PF) (G : PG) : PR := some (z0, F, G)
def mb_doing_201 (fu : Nat) (F : PF) (G : PG) : PR := mb_doing_202 fu 0 F G
def mb_doing_197 (fu : Nat) (F : PF) (G : PG) : PR := mb_doing_202 fu 1 F G
def mb_doing_192 (fu : Nat) (x1 : Int32) (x2 : Int32) (F : PF) (G : PG) : PR := if x1 = x2 then mb_doing_197 fu F G else mb_doing_201 fu F G
def mb_doing_213 (fu : Nat) (z0 : Int32) (F : PF) (G : PG) : PR := some (z0, F, G)
def mb_doing_212 (fu : Nat) (F : PF) (G : PG) : PR := mb_doing_213 fu 0 F G
def mb_doing_208 (fu : Nat) (F : PF) (G : PG) : PR := mb_doing_213 fu 1 F G
def mb_doing_203 (fu : Nat) (x1 : Int32) (x2 : Int32) (F : PF) (G : PG) : PR := if x1 = x2 then mb_doing_212 fu F G else mb_doing_208 fu F G
def mb_doing_224 (fu : Nat) (z0 : Int32) (F : PF) (G : PG) : PR := some (z0, F, G)
def mb_doing_223 (fu : Nat) (F : PF) (G : PG) : PR := mb_doing_224 fu 0 F G
def mb_doing_219 (fu : Nat) (F : PF) (G : PG) : PR := mb_doing_224 fu 1 F G
def mb_doing_214 (fu : Nat) (x1 : Int32) (x2 : Int32) (F : PF) (G : PG) : PR := if x2 ≤ x1 then mb_doing_223 fu F G else mb_doing_219 fu F G
def mb_doing_235 (fu : Nat) (z0 : Int32) (F : PF) (G : PG) : PR := some (z0, F, G)
def mb_doing_234 (fu : Nat) (F : PF) (G : PG) : PR := mb_doing_235 fu 0 F G
def mb_doing_230 (fu : Nat) (F : PF) (G : PG) : PR := mb_doing_235 fu 1 F G
def mb_doing_225 (fu : Nat) (x1 : Int32) (x2 : Int32) (F : PF) (G : PG) : PR := if x2 < x1 then mb_doing_234 fu F G else mb_doing_230 fu F G
def mb_doing_246 (fu : Nat) (z0 : Int32) (F : PF) (G : PG) : PR := some (z0, F, G)
def mb_doing_245 (fu : Nat) (F : PF) (G : PG) : PR := mb_doing_246 fu 0 F G
def mb_doing_241 (fu : Nat) (F : PF) (G : PG) : PR := mb_doing_246 fu 1 F G
def mb_doing_236 (fu : Nat) (x1 : Int32) (x2 : Int32) (F : PF) (G : PG) : PR := if x1 ≤ x2 then mb_doing_245 fu F G else mb_doing_241 fu F G
def mb_doing_257 (fu : Nat) (z0 : Int32) (F : PF) (G : PG) : PR := some (z0, F, G)
def mb_doing_256 (fu : Nat) (F : PF) (G : PG) : PR := mb_doing_257 fu 0 F G
def mb_doing_252 (fu : Nat) (F : PF) (G : PG) : PR := mb_doing_257 fu 1 F G
def mb_doing_247 (fu : Nat) (x1 : Int32) (x2 : Int32) (F : PF) (G : PG) : PR := if x1 < x2 then mb_doing_256 fu F G else mb_doing_252 fu F G
def mb_doing_258 (fu : Nat) (x1 : Int32) (x2 : Int32) (F : PF) (G : PG) : PR := some ((x1 <<< ((x2 &&& (31 : Int32)) &&& 31)), F, G)
def mb_doing_265 (fu : Nat) (x1 : Int32) (x2 : Int32) (F : PF) (G : PG) : PR := some ((x1 >>> ((x2 &&& (31 : Int32)) &&& 31)), F, G)
def mb_doing_272 (fu : Nat) (x1 : Int32) (x2 : Int32) (F : PF) (G : PG) : PR := some (((x1.toUInt32 >>> ((x2 &&& (31 : Int32)).toUInt32 &&& Int32.toUInt32 31)).toInt32), F, G)
def mb_doing_279 (fu : Nat) (x1 : Int32) (x2 : Int32) (F : PF) (G : PG) : PR := some ((x1 + x2), F, G)
def mb_doing_283 (fu : Nat) (x1 : Int32) (x2 : Int32) (F : PF) (G : PG) : PR := some ((x1 - x2), F, G)
def mb_doing_287 (fu : Nat) (x1 : Int32) (x2 : Int32) (F : PF) (G : PG) : PR := some ((x1 * x2), F, G)
def mb_doing_296 (fu : Nat) (z0 : Int32) (F : PF) (G : PG) : PR := some (z0, F, G)
def mb_doing_291 (fu : Nat) (x1 : Int32) (x2 : Int32) (F : PF) (G : PG) : PR := (mf_over fu x1 x2 F G).bind (fun q => mb_doing_296 fu q.1 q.2.1 q.2.2)
def mb_doing_302 (fu : Nat) (z0 : Int32) (F : PF) (G : PG) : PR := some (z0, F, G)
def mb_doing_297 (fu : Nat) (x1 : Int32) (x2 : Int32) (F : PF) (G : PG) : PR := (mf_rest fu x1 x2 F G).bind (fun q => mb_doing_302 fu q.1 q.2.1 q.2.2)
def mb_doing_0 (fu : Nat) (x0 : Int32) (x1 : Int32) (x2 : Int32) (F : PF) (G : PG) : PR := if x0.toInt < 1 ∨ 41 < x0.toInt then mb_doing_297 fu x1 x2 F G else if x0 = 1 then mb_doing_272 fu x1 x2 F G else if x0 = 2 then mb_doing_297 fu x1 x2 F G else if x0 = 3 then mb_doing_297 fu x1 x2 F G else if x0 = 4 then mb_doing_297 fu x1 x2 F G else if x0 = 5 then mb_doing_297 fu x1 x2 F G else if x0 = 6 then mb_doing_297 fu x1 x2 F G else if x0 = 7 then mb_doing_297 fu x1 x2 F G else if x0 = 8 then mb_doing_297 fu x1 x2 F G else if x0 = 9 then mb_doing_297 fu x1 x2 F G else if x0 = 10 then mb_doing_297 fu x1 x2 F G else if x0 = 11 then mb_doing_297 fu x1 x2 F G else if x0 = 12 then mb_doing_297 fu x1 x2 F G else if x0 = 13 then mb_doing_297 fu x1 x2 F G else if x0 = 14 then mb_doing_297 fu x1 x2 F G else if x0 = 15 then mb_doing_297 fu x1 x2 F G else if x0 = 16 then mb_doing_192 fu x1 x2 F G else if x0 = 17 then mb_doing_203 fu x1 x2 F G else if x0 = 18 then mb_doing_225 fu x1 x2 F G else if x0 = 19 then mb_doing_247 fu x1 x2 F G else if x0 = 20 then mb_doing_258 fu x1 x2 F G else if x0 = 21 then mb_doing_265 fu x1 x2 F G else if x0 = 22 then mb_doing_297 fu x1 x2 F G else if x0 = 23 then mb_doing_297 fu x1 x2 F G else if x0 = 24 then mb_doing_297 fu x1 x2 F G else if x0 = 25 then mb_doing_297 fu x1 x2 F G else if x0 = 26 then mb_doing_297 fu x1 x2 F G else if x0 = 27 then mb_doing_297 fu x1 x2 F G else if x0 = 28 then mb_doing_297 fu x1 x2 F G else if x0 = 29 then mb_doing_297 fu x1 x2 F G else if x0 = 30 then mb_doing_297 fu x1 x2 F G else if x0 = 31 then mb_doing_297 fu x1 x2 F G else if x0 = 32 then mb_doing_297 fu x1 x2 F G else if x0 = 33 then mb_doing_180 fu x1 x2 F G else if x0 = 34 then mb_doing_184 fu x1 x2 F G else if x0 = 35 then mb_doing_188 fu x1 x2 F G else if x0 = 36 then mb_doing_214 fu x1 x2 F G else if x0 = 37 then mb_doing_236 fu x1 x2 F G else if x0 = 38 then mb_doing_279 fu x1 x2 F G else if x0 = 39 then mb_doing_283 fu x1 x2 F G else if x0 = 40 then mb_doing_287 fu x1 x2 F G else mb_doing_291 fu x1 x2 F G
def mf_doing (fu : Nat) (x0 : Int32) (x1 : Int32) (x2 : Int32) (F : PF) (G : PG) : PR := mb_doing_0 fu x0 x1 x2 F G
theorem mw_doing_180 (fu : Nat) {res : Int32 × PF × PG} (C : mMC p R s m args c A v RX12 cX12_doing 3 1 21) (hret : ∀ (H1 : Heap) (locs1 : List Loc) (ls1 : Array Slot) (pc : Nat), mMW s A v a res.2.1 res.2.2 H1 locs1 → narrow .int (.int res.1) = .int res.1 → decode cX12_doing pc = .ok (.ireturn, 1) → W p l e R s m args below meth c H1 locs1 0 0 Q (F0 m pc ls1 [.int res.1])) (x1 : Int32) (x2 : Int32) (F : PF) (G : PG) (hm : mb_doing_180 fu x1 x2 F G = some res) {H : Heap} {locs : List Loc} (hw : mMW s A v a F G H locs) {ls : Array Slot} (hl : lv_has ls 3 [(1, .int x1), (2, .int x2)]) : W p l e R s m args below meth c H locs 0 0 Q (F0 m 180 ls []) := by
  have hx := C.1
  have hb := C.2.1
  unfold mb_doing_180 at hm
  refine lv_iload_n hx hb dX12_doing_180 rfl (lv_at hl 0 rfl) ?_
  refine lv_iload_n hx hb dX12_doing_181 rfl (lv_at hl 1 rfl) ?_
  refine lv_ior hx hb dX12_doing_182 ?_
  obtain rfl := Option.some.inj hm
  exact hret _ _ _ _ hw rfl dX12_doing_183
theorem mw_doing_184 (fu : Nat) {res : Int32 × PF × PG} (C : mMC p R s m args c A v RX12 cX12_doing 3 1 21) (hret : ∀ (H1 : Heap) (locs1 : List Loc) (ls1 : Array Slot) (pc : Nat), mMW s A v a res.2.1 res.2.2 H1 locs1 → narrow .int (.int res.1) = .int res.1 → decode cX12_doing pc = .ok (.ireturn, 1) → W p l e R s m args below meth c H1 locs1 0 0 Q (F0 m pc ls1 [.int res.1])) (x1 : Int32) (x2 : Int32) (F : PF) (G : PG) (hm : mb_doing_184 fu x1 x2 F G = some res) {H : Heap} {locs : List Loc} (hw : mMW s A v a F G H locs) {ls : Array Slot} (hl : lv_has ls 3 [(1, .int x1), (2, .int x2)]) : W p l e R s m args below meth c H locs 0 0 Q (F0 m 184 ls []) := by
  have hx := C.1
  have hb := C.2.1
  unfold mb_doing_184 at hm
  refine lv_iload_n hx hb dX12_doing_184 rfl (lv_at hl 0 rfl) ?_
  refine lv_iload_n hx hb dX12_doing_185 rfl (lv_at hl 1 rfl) ?_
  refine lv_ixor hx hb dX12_doing_186 ?_
  obtain rfl := Option.some.inj hm
  exact hret _ _ _ _ hw rfl dX12_doing_187
theorem mw_doing_188 (fu : Nat) {res : Int32 × PF × PG} (C : mMC p R s m args c A v RX12 cX12_doing 3 1 21) (hret : ∀ (H1 : Heap) (locs1 : List Loc) (ls1 : Array Slot) (pc : Nat), mMW s A v a res.2.1 res.2.2 H1 locs1 → narrow .int (.int res.1) = .int res.1 → decode cX12_doing pc = .ok (.ireturn, 1) → W p l e R s m args below meth c H1 locs1 0 0 Q (F0 m pc ls1 [.int res.1])) (x1 : Int32) (x2 : Int32) (F : PF) (G : PG) (hm : mb_doing_188 fu x1 x2 F G = some res) {H : Heap} {locs : List Loc} (hw : mMW s A v a F G H locs) {ls : Array Slot} (hl : lv_has ls 3 [(1, .int x1), (2, .int x2)]) : W p l e R s m args below meth c H locs 0 0 Q (F0 m 188 ls []) := by
  have hx := C.1
  have hb := C.2.1
  unfold mb_doing_188 at hm
  refine lv_iload_n hx hb dX12_doing_188 rfl (lv_at hl 0 rfl) ?_
  refine lv_iload_n hx hb dX12_doing_189 rfl (lv_at hl 1 rfl) ?_
  refine lv_iand hx hb dX12_doing_190 ?_
  obtain rfl := Option.some.inj hm
  exact hret _ _ _ _ hw rfl dX12_doing_191
theorem mw_doing_202 (fu : Nat) {res : Int32 × PF × PG} (C : mMC p R s m args c A v RX12 cX12_doing 3 1 21) (hret : ∀ (H1 : Heap) (locs1 : List Loc) (ls1 : Array Slot) (pc : Nat), mMW s A v a res.2.1 res.2.2 H1 locs1 → narrow .int (.int res.1) = .int res.1 → decode cX12_doing pc = .ok (.ireturn, 1) → W p l e R s m args below meth c H1 locs1 0 0 Q (F0 m pc ls1 [.int res.1])) (z0 : Int32) (F : PF) (G : PG) (hm : mb_doing_202 fu z0 F G = some res) {H : Heap} {locs : List Loc} (hw : mMW s A v a F G H locs) {ls : Array Slot} (hl : lv_has ls 3 []) : W p l e R s m args below meth c H locs 0 0 Q (F0 m 202 ls [.int z0]) := by
  have hx := C.1
  have hb := C.2.1
  unfold mb_doing_202 at hm
  obtain rfl := Option.some.inj hm
  exact hret _ _ _ _ hw rfl dX12_doing_202
theorem mw_doing_201 (fu : Nat) {res : Int32 × PF × PG} (C : mMC p R s m args c A v RX12 cX12_doing 3 1 21) (hret : ∀ (H1 : Heap) (locs1 : List Loc) (ls1 : Array Slot) (pc : Nat), mMW s A v a res.2.1 res.2.2 H1 locs1 → narrow .int (.int res.1) = .int res.1 → decode cX12_doing pc = .ok (.ireturn, 1) → W p l e R s m args below meth c H1 locs1 0 0 Q (F0 m pc ls1 [.int res.1])) (F : PF) (G : PG) (hm : mb_doing_201 fu F G = some res) {H : Heap} {locs : List Loc} (hw : mMW s A v a F G H locs) {ls : Array Slot} (hl : lv_has ls 3 []) : W p l e R s m args below meth c H locs 0 0 Q (F0 m 201 ls []) := by
  have hx := C.1
  have hb := C.2.1
  unfold mb_doing_201 at hm
  refine lv_iconst (v := 0) hx hb dX12_doing_201 (by decide) ?_
  exact mw_doing_202 fu C hret 0 F G hm hw (lv_sub hl [] rfl)
theorem mw_doing_197 (fu : Nat) {res : Int32 × PF × PG} (C : mMC p R s m args c A v RX12 cX12_doing 3 1 21) (hret : ∀ (H1 : Heap) (locs1 : List Loc) (ls1 : Array Slot) (pc : Nat), mMW s A v a res.2.1 res.2.2 H1 locs1 → narrow .int (.int res.1) = .int res.1 → decode cX12_doing pc = .ok (.ireturn, 1) → W p l e R s m args below meth c H1 locs1 0 0 Q (F0 m pc ls1 [.int res.1])) (F : PF) (G : PG) (hm : mb_doing_197 fu F G = some res) {H : Heap} {locs : List Loc} (hw : mMW s A v a F G H locs) {ls : Array Slot} (hl : lv_has ls 3 []) : W p l e R s m args below meth c H locs 0 0 Q (F0 m 197 ls []) := by
  have hx := C.1
  have hb := C.2.1
  unfold mb_doing_197 at hm
  refine lv_iconst (v := 1) hx hb dX12_doing_197 (by decide) ?_
  refine lv_goto (tgt := 202) hx hb dX12_doing_198 (by decide) ?_
  exact mw_doing_202 fu C hret 1 F G hm hw (lv_sub hl [] rfl)
theorem mw_doing_192 (fu : Nat) {res : Int32 × PF × PG} (C : mMC p R s m args c A v RX12 cX12_doing 3 1 21) (hret : ∀ (H1 : Heap) (locs1 : List Loc) (ls1 : Array Slot) (pc : Nat), mMW s A v a res.2.1 res.2.2 H1 locs1 → narrow .int (.int res.1) = .int res.1 → decode cX12_doing pc = .ok (.ireturn, 1) → W p l e R s m args below meth c H1 locs1 0 0 Q (F0 m pc ls1 [.int res.1])) (x1 : Int32) (x2 : Int32) (F : PF) (G : PG) (hm : mb_doing_192 fu x1 x2 F G = some res) {H : Heap} {locs : List Loc} (hw : mMW s A v a F G H locs) {ls : Array Slot} (hl : lv_has ls 3 [(1, .int x1), (2, .int x2)]) : W p l e R s m args below meth c H locs 0 0 Q (F0 m 192 ls []) := by
  have hx := C.1
  have hb := C.2.1
  unfold mb_doing_192 at hm
  refine lv_iload_n hx hb dX12_doing_192 rfl (lv_at hl 0 rfl) ?_
  refine lv_iload_n hx hb dX12_doing_193 rfl (lv_at hl 1 rfl) ?_
  refine lv_icmp_ne (tgt := 201) hx hb dX12_doing_194 (by decide) (fun c_1 => ?_) (fun c_1 => ?_)
  · have hm := (if_neg c_1).symm.trans hm
    exact mw_doing_201 fu C hret F G hm hw (lv_sub hl [] rfl)
  · have hm := (if_pos c_1).symm.trans hm
    exact mw_doing_197 fu C hret F G hm hw (lv_sub hl [] rfl)
theorem mw_doing_213 (fu : Nat) {res : Int32 × PF × PG} (C : mMC p R s m args c A v RX12 cX12_doing 3 1 21) (hret : ∀ (H1 : Heap) (locs1 : List Loc) (ls1 : Array Slot) (pc : Nat), mMW s A v a res.2.1 res.2.2 H1 locs1 → narrow .int (.int res.1) = .int res.1 → decode cX12_doing pc = .ok (.ireturn, 1) → W p l e R s m args below meth c H1 locs1 0 0 Q (F0 m pc ls1 [.int res.1])) (z0 : Int32) (F : PF) (G : PG) (hm : mb_doing_213 fu z0 F G = some res) {H : Heap} {locs : List Loc} (hw : mMW s A v a F G H locs) {ls : Array Slot} (hl : lv_has ls 3 []) : W p l e R s m args below meth c H locs 0 0 Q (F0 m 213 ls [.int z0]) := by
  have hx := C.1
  have hb := C.2.1
  unfold mb_doing_213 at hm
  obtain rfl := Option.some.inj hm
  exact hret _ _ _ _ hw rfl dX12_doing_213
theorem mw_doing_212 (fu : Nat) {res : Int32 × PF × PG} (C : mMC p R s m args c A v RX12 cX12_doing 3 1 21) (hret : ∀ (H1 : Heap) (locs1 : List Loc) (ls1 : Array Slot) (pc : Nat), mMW s A v a res.2.1 res.2.2 H1 locs1 → narrow .int (.int res.1) = .int res.1 → decode cX12_doing pc = .ok (.ireturn, 1) → W p l e R s m args below meth c H1 locs1 0 0 Q (F0 m pc ls1 [.int res.1])) (F : PF) (G : PG) (hm : mb_doing_212 fu F G = some res) {H : Heap} {locs : List Loc} (hw : mMW s A v a F G H locs) {ls : Array Slot} (hl : lv_has ls 3 []) : W p l e R s m args below meth c H locs 0 0 Q (F0 m 212 ls []) := by
  have hx := C.1
  have hb := C.2.1
  unfold mb_doing_212 at hm
  refine lv_iconst (v := 0) hx hb dX12_doing_212 (by decide) ?_
  exact mw_doing_213 fu C hret 0 F G hm hw (lv_sub hl [] rfl)
theorem mw_doing_208 (fu : Nat) {res : Int32 × PF × PG} (C : mMC p R s m args c A v RX12 cX12_doing 3 1 21) (hret : ∀ (H1 : Heap) (locs1 : List Loc) (ls1 : Array Slot) (pc : Nat), mMW s A v a res.2.1 res.2.2 H1 locs1 → narrow .int (.int res.1) = .int res.1 → decode cX12_doing pc = .ok (.ireturn, 1) → W p l e R s m args below meth c H1 locs1 0 0 Q (F0 m pc ls1 [.int res.1])) (F : PF) (G : PG) (hm : mb_doing_208 fu F G = some res) {H : Heap} {locs : List Loc} (hw : mMW s A v a F G H locs) {ls : Array Slot} (hl : lv_has ls 3 []) : W p l e R s m args below meth c H locs 0 0 Q (F0 m 208 ls []) := by
  have hx := C.1
  have hb := C.2.1
  unfold mb_doing_208 at hm
  refine lv_iconst (v := 1) hx hb dX12_doing_208 (by decide) ?_
  refine lv_goto (tgt := 213) hx hb dX12_doing_209 (by decide) ?_
  exact mw_doing_213 fu C hret 1 F G hm hw (lv_sub hl [] rfl)
theorem mw_doing_203 (fu : Nat) {res : Int32 × PF × PG} (C : mMC p R s m args c A v RX12 cX12_doing 3 1 21) (hret : ∀ (H1 : Heap) (locs1 : List Loc) (ls1 : Array Slot) (pc : Nat), mMW s A v a res.2.1 res.2.2 H1 locs1 → narrow .int (.int res.1) = .int res.1 → decode cX12_doing pc = .ok (.ireturn, 1) → W p l e R s m args below meth c H1 locs1 0 0 Q (F0 m pc ls1 [.int res.1])) (x1 : Int32) (x2 : Int32) (F : PF) (G : PG) (hm : mb_doing_203 fu x1 x2 F G = some res) {H : Heap} {locs : List Loc} (hw : mMW s A v a F G H locs) {ls : Array Slot} (hl : lv_has ls 3 [(1, .int x1), (2, .int x2)]) : W p l e R s m args below meth c H locs 0 0 Q (F0 m 203 ls []) := by
  have hx := C.1
  have hb := C.2.1
  unfold mb_doing_203 at hm
  refine lv_iload_n hx hb dX12_doing_203 rfl (lv_at hl 0 rfl) ?_
  refine lv_iload_n hx hb dX12_doing_204 rfl (lv_at hl 1 rfl) ?_
  refine lv_icmp_eq (tgt := 212) hx hb dX12_doing_205 (by decide) (fun c_1 => ?_) (fun c_1 => ?_)
  · have hm := (if_pos c_1).symm.trans hm
    exact mw_doing_212 fu C hret F G hm hw (lv_sub hl [] rfl)
  · have hm := (if_neg c_1).symm.trans hm
    exact mw_doing_208 fu C hret F G hm hw (lv_sub hl [] rfl)
theorem mw_doing_224 (fu : Nat) {res : Int32 × PF × PG} (C : mMC p R s m args c A v RX12 cX12_doing 3 1 21) (hret : ∀ (H1 : Heap) (locs1 : List Loc) (ls1 : Array Slot) (pc : Nat), mMW s A v a res.2.1 res.2.2 H1 locs1 → narrow .int (.int res.1) = .int res.1 → decode cX12_doing pc = .ok (.ireturn, 1) → W p l e R s m args below meth c H1 locs1 0 0 Q (F0 m pc ls1 [.int res.1])) (z0 : Int32) (F : PF) (G : PG) (hm : mb_doing_224 fu z0 F G = some res) {H : Heap} {locs : List Loc} (hw : mMW s A v a F G H locs) {ls : Array Slot} (hl : lv_has ls 3 []) : W p l e R s m args below meth c H locs 0 0 Q (F0 m 224 ls [.int z0]) := by
  have hx := C.1
  have hb := C.2.1
  unfold mb_doing_224 at hm
  obtain rfl := Option.some.inj hm
  exact hret _ _ _ _ hw rfl dX12_doing_224
theorem mw_doing_223 (fu : Nat) {res : Int32 × PF × PG} (C : mMC p R s m args c A v RX12 cX12_doing 3 1 21) (hret : ∀ (H1 : Heap) (locs1 : List Loc) (ls1 : Array Slot) (pc : Nat), mMW s A v a res.2.1 res.2.2 H1 locs1 → narrow .int (.int res.1) = .int res.1 → decode cX12_doing pc = .ok (.ireturn, 1) → W p l e R s m args below meth c H1 locs1 0 0 Q (F0 m pc ls1 [.int res.1])) (F : PF) (G : PG) (hm : mb_doing_223 fu F G = some res) {H : Heap} {locs : List Loc} (hw : mMW s A v a F G H locs) {ls : Array Slot} (hl : lv_has ls 3 []) : W p l e R s m args below meth c H locs 0 0 Q (F0 m 223 ls []) := by
  have hx := C.1
  have hb := C.2.1
  unfold mb_doing_223 at hm
  refine lv_iconst (v := 0) hx hb dX12_doing_223 (by decide) ?_
  exact mw_doing_224 fu C hret 0 F G hm hw (lv_sub hl [] rfl)
theorem mw_doing_219 (fu : Nat) {res : Int32 × PF × PG} (C : mMC p R s m args c A v RX12 cX12_doing 3 1 21) (hret : ∀ (H1 : Heap) (locs1 : List Loc) (ls1 : Array Slot) (pc : Nat), mMW s A v a res.2.1 res.2.2 H1 locs1 → narrow .int (.int res.1) = .int res.1 → decode cX12_doing pc = .ok (.ireturn, 1) → W p l e R s m args below meth c H1 locs1 0 0 Q (F0 m pc ls1 [.int res.1])) (F : PF) (G : PG) (hm : mb_doing_219 fu F G = some res) {H : Heap} {locs : List Loc} (hw : mMW s A v a F G H locs) {ls : Array Slot} (hl : lv_has ls 3 []) : W p l e R s m args below meth c H locs 0 0 Q (F0 m 219 ls []) := by
  have hx := C.1
  have hb := C.2.1
  unfold mb_doing_219 at hm
  refine lv_iconst (v := 1) hx hb dX12_doing_219 (by decide) ?_
  refine lv_goto (tgt := 224) hx hb dX12_doing_220 (by decide) ?_
  exact mw_doing_224 fu C hret 1 F G hm hw (lv_sub hl [] rfl)
theorem mw_doing_214 (fu : Nat) {res : Int32 × PF × PG} (C : mMC p R s m args c A v RX12 cX12_doing 3 1 21) (hret : ∀ (H1 : Heap) (locs1 : List Loc) (ls1 : Array Slot) (pc : Nat), mMW s A v a res.2.1 res.2.2 H1 locs1 → narrow .int (.int res.1) = .int res.1 → decode cX12_doing pc = .ok (.ireturn, 1) → W p l e R s m args below meth c H1 locs1 0 0 Q (F0 m pc ls1 [.int res.1])) (x1 : Int32) (x2 : Int32) (F : PF) (G : PG) (hm : mb_doing_214 fu x1 x2 F G = some res) {H : Heap} {locs : List Loc} (hw : mMW s A v a F G H locs) {ls : Array Slot} (hl : lv_has ls 3 [(1, .int x1), (2, .int x2)]) : W p l e R s m args below meth c H locs 0 0 Q (F0 m 214 ls []) := by
  have hx := C.1
  have hb := C.2.1
  unfold mb_doing_214 at hm
  refine lv_iload_n hx hb dX12_doing_214 rfl (lv_at hl 0 rfl) ?_
  refine lv_iload_n hx hb dX12_doing_215 rfl (lv_at hl 1 rfl) ?_
  refine lv_icmp_ge (tgt := 223) hx hb dX12_doing_216 (by decide) (fun c_1 => ?_) (fun c_1 => ?_)
  · have hm := (if_pos c_1).symm.trans hm
    exact mw_doing_223 fu C hret F G hm hw (lv_sub hl [] rfl)
  · have hm := (if_neg c_1).symm.trans hm
    exact mw_doing_219 fu C hret F G hm hw (lv_sub hl [] rfl)
theorem mw_doing_235 (fu : Nat) {res : Int32 × PF × PG} (C : mMC p R s m args c A v RX12 cX12_doing 3 1 21) (hret : ∀ (H1 : Heap) (locs1 : List Loc) (ls1 : Array Slot) (pc : Nat), mMW s A v a res.2.1 res.2.2 H1 locs1 → narrow .int (.int res.1) = .int res.1 → decode cX12_doing pc = .ok (.ireturn, 1) → W p l e R s m args below meth c H1 locs1 0 0 Q (F0 m pc ls1 [.int res.1])) (z0 : Int32) (F : PF) (G : PG) (hm : mb_doing_235 fu z0 F G = some res) {H : Heap} {locs : List Loc} (hw : mMW s A v a F G H locs) {ls : Array Slot} (hl : lv_has ls 3 []) : W p l e R s m args below meth c H locs 0 0 Q (F0 m 235 ls [.int z0]) := by
  have hx := C.1
  have hb := C.2.1
  unfold mb_doing_235 at hm
  obtain rfl := Option.some.inj hm
  exact hret _ _ _ _ hw rfl dX12_doing_235
theorem mw_doing_234 (fu : Nat) {res : Int32 × PF × PG} (C : mMC p R s m args c A v RX12 cX12_doing 3 1 21) (hret : ∀ (H1 : Heap) (locs1 : List Loc) (ls1 : Array Slot) (pc : Nat), mMW s A v a res.2.1 res.2.2 H1 locs1 → narrow .int (.int res.1) = .int res.1 → decode cX12_doing pc = .ok (.ireturn, 1) → W p l e R s m args below meth c H1 locs1 0 0 Q (F0 m pc ls1 [.int res.1])) (F : PF) (G : PG) (hm : mb_doing_234 fu F G = some res) {H : Heap} {locs : List Loc} (hw : mMW s A v a F G H locs) {ls : Array Slot} (hl : lv_has ls 3 []) : W p l e R s m args below meth c H locs 0 0 Q (F0 m 234 ls []) := by
  have hx := C.1
  have hb := C.2.1
  unfold mb_doing_234 at hm
  refine lv_iconst (v := 0) hx hb dX12_doing_234 (by decide) ?_
  exact mw_doing_235 fu C hret 0 F G hm hw (lv_sub hl [] rfl)
theorem mw_doing_230 (fu : Nat) {res : Int32 × PF × PG} (C : mMC p R s m args c A v RX12 cX12_doing 3 1 21) (hret : ∀ (H1 : Heap) (locs1 : List Loc) (ls1 : Array Slot) (pc : Nat), mMW s A v a res.2.1 res.2.2 H1 locs1 → narrow .int (.int res.1) = .int res.1 → decode cX12_doing pc = .ok (.ireturn, 1) → W p l e R s m args below meth c H1 locs1 0 0 Q (F0 m pc ls1 [.int res.1])) (F : PF) (G : PG) (hm : mb_doing_230 fu F G = some res) {H : Heap} {locs : List Loc} (hw : mMW s A v a F G H locs) {ls : Array Slot} (hl : lv_has ls 3 []) : W p l e R s m args below meth c H locs 0 0 Q (F0 m 230 ls []) := by
  have hx := C.1
  have hb := C.2.1
  unfold mb_doing_230 at hm
  refine lv_iconst (v := 1) hx hb dX12_doing_230 (by decide) ?_
  refine lv_goto (tgt := 235) hx hb dX12_doing_231 (by decide) ?_
  exact mw_doing_235 fu C hret 1 F G hm hw (lv_sub hl [] rfl)
theorem mw_doing_225 (fu : Nat) {res : Int32 × PF × PG} (C : mMC p R s m args c A v RX12 cX12_doing 3 1 21) (hret : ∀ (H1 : Heap) (locs1 : List Loc) (ls1 : Array Slot) (pc : Nat), mMW s A v a res.2.1 res.2.2 H1 locs1 → narrow .int (.int res.1) = .int res.1 → decode cX12_doing pc = .ok (.ireturn, 1) → W p l e R s m args below meth c H1 locs1 0 0 Q (F0 m pc ls1 [.int res.1])) (x1 : Int32) (x2 : Int32) (F : PF) (G : PG) (hm : mb_doing_225 fu x1 x2 F G = some res) {H : Heap} {locs : List Loc} (hw : mMW s A v a F G H locs) {ls : Array Slot} (hl : lv_has ls 3 [(1, .int x1), (2, .int x2)]) : W p l e R s m args below meth c H locs 0 0 Q (F0 m 225 ls []) := by
  have hx := C.1
  have hb := C.2.1
  unfold mb_doing_225 at hm
  refine lv_iload_n hx hb dX12_doing_225 rfl (lv_at hl 0 rfl) ?_
  refine lv_iload_n hx hb dX12_doing_226 rfl (lv_at hl 1 rfl) ?_
  refine lv_icmp_gt (tgt := 234) hx hb dX12_doing_227 (by decide) (fun c_1 => ?_) (fun c_1 => ?_)
  · have hm := (if_pos c_1).symm.trans hm
    exact mw_doing_234 fu C hret F G hm hw (lv_sub hl [] rfl)
  · have hm := (if_neg c_1).symm.trans hm
    exact mw_doing_230 fu C hret F G hm hw (lv_sub hl [] rfl)
theorem mw_doing_246 (fu : Nat) {res : Int32 × PF × PG} (C : mMC p R s m args c A v RX12 cX12_doing 3 1 21) (hret : ∀ (H1 : Heap) (locs1 : List Loc) (ls1 : Array Slot) (pc : Nat), mMW s A v a res.2.1 res.2.2 H1 locs1 → narrow .int (.int res.1) = .int res.1 → decode cX12_doing pc = .ok (.ireturn, 1) → W p l e R s m args below meth c H1 locs1 0 0 Q (F0 m pc ls1 [.int res.1])) (z0 : Int32) (F : PF) (G : PG) (hm : mb_doing_246 fu z0 F G = some res) {H : Heap} {locs : List Loc} (hw : mMW s A v a F G H locs) {ls : Array Slot} (hl : lv_has ls 3 []) : W p l e R s m args below meth c H locs 0 0 Q (F0 m 246 ls [.int z0]) := by
  have hx := C.1
  have hb := C.2.1
  unfold mb_doing_246 at hm
  obtain rfl := Option.some.inj hm
  exact hret _ _ _ _ hw rfl dX12_doing_246
theorem mw_doing_245 (fu : Nat) {res : Int32 × PF × PG} (C : mMC p R s m args c A v RX12 cX12_doing 3 1 21) (hret : ∀ (H1 : Heap) (locs1 : List Loc) (ls1 : Array Slot) (pc : Nat), mMW s A v a res.2.1 res.2.2 H1 locs1 → narrow .int (.int res.1) = .int res.1 → decode cX12_doing pc = .ok (.ireturn, 1) → W p l e R s m args below meth c H1 locs1 0 0 Q (F0 m pc ls1 [.int res.1])) (F : PF) (G : PG) (hm : mb_doing_245 fu F G = some res) {H : Heap} {locs : List Loc} (hw : mMW s A v a F G H locs) {ls : Array Slot} (hl : lv_has ls 3 []) : W p l e R s m args below meth c H locs 0 0 Q (F0 m 245 ls []) := by
  have hx := C.1
  have hb := C.2.1
  unfold mb_doing_245 at hm
  refine lv_iconst (v := 0) hx hb dX12_doing_245 (by decide) ?_
  exact mw_doing_246 fu C hret 0 F G hm hw (lv_sub hl [] rfl)
theorem mw_doing_241 (fu : Nat) {res : Int32 × PF × PG} (C : mMC p R s m args c A v RX12 cX12_doing 3 1 21) (hret : ∀ (H1 : Heap) (locs1 : List Loc) (ls1 : Array Slot) (pc : Nat), mMW s A v a res.2.1 res.2.2 H1 locs1 → narrow .int (.int res.1) = .int res.1 → decode cX12_doing pc = .ok (.ireturn, 1) → W p l e R s m args below meth c H1 locs1 0 0 Q (F0 m pc ls1 [.int res.1])) (F : PF) (G : PG) (hm : mb_doing_241 fu F G = some res) {H : Heap} {locs : List Loc} (hw : mMW s A v a F G H locs) {ls : Array Slot} (hl : lv_has ls 3 []) : W p l e R s m args below meth c H locs 0 0 Q (F0 m 241 ls []) := by
  have hx := C.1
  have hb := C.2.1
  unfold mb_doing_241 at hm
  refine lv_iconst (v := 1) hx hb dX12_doing_241 (by decide) ?_
  refine lv_goto (tgt := 246) hx hb dX12_doing_242 (by decide) ?_
  exact mw_doing_246 fu C hret 1 F G hm hw (lv_sub hl [] rfl)
theorem mw_doing_236 (fu : Nat) {res : Int32 × PF × PG} (C : mMC p R s m args c A v RX12 cX12_doing 3 1 21) (hret : ∀ (H1 : Heap) (locs1 : List Loc) (ls1 : Array Slot) (pc : Nat), mMW s A v a res.2.1 res.2.2 H1 locs1 → narrow .int (.int res.1) = .int res.1 → decode cX12_doing pc = .ok (.ireturn, 1) → W p l e R s m args below meth c H1 locs1 0 0 Q (F0 m pc ls1 [.int res.1])) (x1 : Int32) (x2 : Int32) (F : PF) (G : PG) (hm : mb_doing_236 fu x1 x2 F G = some res) {H : Heap} {locs : List Loc} (hw : mMW s A v a F G H locs) {ls : Array Slot} (hl : lv_has ls 3 [(1, .int x1), (2, .int x2)]) : W p l e R s m args below meth c H locs 0 0 Q (F0 m 236 ls []) := by
  have hx := C.1
  have hb := C.2.1
  unfold mb_doing_236 at hm
  refine lv_iload_n hx hb dX12_doing_236 rfl (lv_at hl 0 rfl) ?_
  refine lv_iload_n hx hb dX12_doing_237 rfl (lv_at hl 1 rfl) ?_
  refine lv_icmp_le (tgt := 245) hx hb dX12_doing_238 (by decide) (fun c_1 => ?_) (fun c_1 => ?_)
  · have hm := (if_pos c_1).symm.trans hm
    exact mw_doing_245 fu C hret F G hm hw (lv_sub hl [] rfl)
  · have hm := (if_neg c_1).symm.trans hm
    exact mw_doing_241 fu C hret F G hm hw (lv_sub hl [] rfl)
theorem mw_doing_257 (fu : Nat) {res : Int32 × PF × PG} (C : mMC p R s m args c A v RX12 cX12_doing 3 1 21) (hret : ∀ (H1 : Heap) (locs1 : List Loc) (ls1 : Array Slot) (pc : Nat), mMW s A v a res.2.1 res.2.2 H1 locs1 → narrow .int (.int res.1) = .int res.1 → decode cX12_doing pc = .ok (.ireturn, 1) → W p l e R s m args below meth c H1 locs1 0 0 Q (F0 m pc ls1 [.int res.1])) (z0 : Int32) (F : PF) (G : PG) (hm : mb_doing_257 fu z0 F G = some res) {H : Heap} {locs : List Loc} (hw : mMW s A v a F G H locs) {ls : Array Slot} (hl : lv_has ls 3 []) : W p l e R s m args below meth c H locs 0 0 Q (F0 m 257 ls [.int z0]) := by
  have hx := C.1
  have hb := C.2.1
  unfold mb_doing_257 at hm
  obtain rfl := Option.some.inj hm
  exact hret _ _ _ _ hw rfl dX12_doing_257
theorem mw_doing_256 (fu : Nat) {res : Int32 × PF × PG} (C : mMC p R s m args c A v RX12 cX12_doing 3 1 21) (hret : ∀ (H1 : Heap) (locs1 : List Loc) (ls1 : Array Slot) (pc : Nat), mMW s A v a res.2.1 res.2.2 H1 locs1 → narrow .int (.int res.1) = .int res.1 → decode cX12_doing pc = .ok (.ireturn, 1) → W p l e R s m args below meth c H1 locs1 0 0 Q (F0 m pc ls1 [.int res.1])) (F : PF) (G : PG) (hm : mb_doing_256 fu F G = some res) {H : Heap} {locs : List Loc} (hw : mMW s A v a F G H locs) {ls : Array Slot} (hl : lv_has ls 3 []) : W p l e R s m args below meth c H locs 0 0 Q (F0 m 256 ls []) := by
  have hx := C.1
  have hb := C.2.1
  unfold mb_doing_256 at hm
  refine lv_iconst (v := 0) hx hb dX12_doing_256 (by decide) ?_
  exact mw_doing_257 fu C hret 0 F G hm hw (lv_sub hl [] rfl)
theorem mw_doing_252 (fu : Nat) {res : Int32 × PF × PG} (C : mMC p R s m args c A v RX12 cX12_doing 3 1 21) (hret : ∀ (H1 : Heap) (locs1 : List Loc) (ls1 : Array Slot) (pc : Nat), mMW s A v a res.2.1 res.2.2 H1 locs1 → narrow .int (.int res.1) = .int res.1 → decode cX12_doing pc = .ok (.ireturn, 1) → W p l e R s m args below meth c H1 locs1 0 0 Q (F0 m pc ls1 [.int res.1])) (F : PF) (G : PG) (hm : mb_doing_252 fu F G = some res) {H : Heap} {locs : List Loc} (hw : mMW s A v a F G H locs) {ls : Array Slot} (hl : lv_has ls 3 []) : W p l e R s m args below meth c H locs 0 0 Q (F0 m 252 ls []) := by
  have hx := C.1
  have hb := C.2.1
  unfold mb_doing_252 at hm
  refine lv_iconst (v := 1) hx hb dX12_doing_252 (by decide) ?_
  refine lv_goto (tgt := 257) hx hb dX12_doing_253 (by decide) ?_
  exact mw_doing_257 fu C hret 1 F G hm hw (lv_sub hl [] rfl)
theorem mw_doing_247 (fu : Nat) {res : Int32 × PF × PG} (C : mMC p R s m args c A v RX12 cX12_doing 3 1 21) (hret : ∀ (H1 : Heap) (locs1 : List Loc) (ls1 : Array Slot) (pc : Nat), mMW s A v a res.2.1 res.2.2 H1 locs1 → narrow .int (.int res.1) = .int res.1 → decode cX12_doing pc = .ok (.ireturn, 1) → W p l e R s m args below meth c H1 locs1 0 0 Q (F0 m pc ls1 [.int res.1])) (x1 : Int32) (x2 : Int32) (F : PF) (G : PG) (hm : mb_doing_247 fu x1 x2 F G = some res) {H : Heap} {locs : List Loc} (hw : mMW s A v a F G H locs) {ls : Array Slot} (hl : lv_has ls 3 [(1, .int x1), (2, .int x2)]) : W p l e R s m args below meth c H locs 0 0 Q (F0 m 247 ls []) := by
  have hx := C.1
  have hb := C.2.1
  unfold mb_doing_247 at hm
  refine lv_iload_n hx hb dX12_doing_247 rfl (lv_at hl 0 rfl) ?_
  refine lv_iload_n hx hb dX12_doing_248 rfl (lv_at hl 1 rfl) ?_
  refine lv_icmp_lt (tgt := 256) hx hb dX12_doing_249 (by decide) (fun c_1 => ?_) (fun c_1 => ?_)
  · have hm := (if_pos c_1).symm.trans hm
    exact mw_doing_256 fu C hret F G hm hw (lv_sub hl [] rfl)
  · have hm := (if_neg c_1).symm.trans hm
    exact mw_doing_252 fu C hret F G hm hw (lv_sub hl [] rfl)
theorem mw_doing_258 (fu : Nat) {res : Int32 × PF × PG} (C : mMC p R s m args c A v RX12 cX12_doing 3 1 21) (hret : ∀ (H1 : Heap) (locs1 : List Loc) (ls1 : Array Slot) (pc : Nat), mMW s A v a res.2.1 res.2.2 H1 locs1 → narrow .int (.int res.1) = .int res.1 → decode cX12_doing pc = .ok (.ireturn, 1) → W p l e R s m args below meth c H1 locs1 0 0 Q (F0 m pc ls1 [.int res.1])) (x1 : Int32) (x2 : Int32) (F : PF) (G : PG) (hm : mb_doing_258 fu x1 x2 F G = some res) {H : Heap} {locs : List Loc} (hw : mMW s A v a F G H locs) {ls : Array Slot} (hl : lv_has ls 3 [(1, .int x1), (2, .int x2)]) : W p l e R s m args below meth c H locs 0 0 Q (F0 m 258 ls []) := by
  have hx := C.1
  have hb := C.2.1
  unfold mb_doing_258 at hm
  refine lv_iload_n hx hb dX12_doing_258 rfl (lv_at hl 0 rfl) ?_
  refine lv_iload_n hx hb dX12_doing_259 rfl (lv_at hl 1 rfl) ?_
  refine lv_bipush (v := 31) hx hb dX12_doing_260 (by decide) ?_
  refine lv_iand hx hb dX12_doing_262 ?_
  refine lv_ishl hx hb dX12_doing_263 ?_
  obtain rfl := Option.some.inj hm
  exact hret _ _ _ _ hw rfl dX12_doing_264
theorem mw_doing_265 (fu : Nat) {res : Int32 × PF × PG} (C : mMC p R s m args c A v RX12 cX12_doing 3 1 21) (hret : ∀ (H1 : Heap) (locs1 : List Loc) (ls1 : Array Slot) (pc : Nat), mMW s A v a res.2.1 res.2.2 H1 locs1 → narrow .int (.int res.1) = .int res.1 → decode cX12_doing pc = .ok (.ireturn, 1) → W p l e R s m args below meth c H1 locs1 0 0 Q (F0 m pc ls1 [.int res.1])) (x1 : Int32) (x2 : Int32) (F : PF) (G : PG) (hm : mb_doing_265 fu x1 x2 F G = some res) {H : Heap} {locs : List Loc} (hw : mMW s A v a F G H locs) {ls : Array Slot} (hl : lv_has ls 3 [(1, .int x1), (2, .int x2)]) : W p l e R s m args below meth c H locs 0 0 Q (F0 m 265 ls []) := by
  have hx := C.1
  have hb := C.2.1
  unfold mb_doing_265 at hm
  refine lv_iload_n hx hb dX12_doing_265 rfl (lv_at hl 0 rfl) ?_
  refine lv_iload_n hx hb dX12_doing_266 rfl (lv_at hl 1 rfl) ?_
  refine lv_bipush (v := 31) hx hb dX12_doing_267 (by decide) ?_
  refine lv_iand hx hb dX12_doing_269 ?_
  refine lv_ishr hx hb dX12_doing_270 ?_
  obtain rfl := Option.some.inj hm
  exact hret _ _ _ _ hw rfl dX12_doing_271
theorem mw_doing_272 (fu : Nat) {res : Int32 × PF × PG} (C : mMC p R s m args c A v RX12 cX12_doing 3 1 21) (hret : ∀ (H1 : Heap) (locs1 : List Loc) (ls1 : Array Slot) (pc : Nat), mMW s A v a res.2.1 res.2.2 H1 locs1 → narrow .int (.int res.1) = .int res.1 → decode cX12_doing pc = .ok (.ireturn, 1) → W p l e R s m args below meth c H1 locs1 0 0 Q (F0 m pc ls1 [.int res.1])) (x1 : Int32) (x2 : Int32) (F : PF) (G : PG) (hm : mb_doing_272 fu x1 x2 F G = some res) {H : Heap} {locs : List Loc} (hw : mMW s A v a F G H locs) {ls : Array Slot} (hl : lv_has ls 3 [(1, .int x1), (2, .int x2)]) : W p l e R s m args below meth c H locs 0 0 Q (F0 m 272 ls []) := by
  have hx := C.1
  have hb := C.2.1
  unfold mb_doing_272 at hm
  refine lv_iload_n hx hb dX12_doing_272 rfl (lv_at hl 0 rfl) ?_
  refine lv_iload_n hx hb dX12_doing_273 rfl (lv_at hl 1 rfl) ?_
  refine lv_bipush (v := 31) hx hb dX12_doing_274 (by decide) ?_
  refine lv_iand hx hb dX12_doing_276 ?_
  refine lv_iushr hx hb dX12_doing_277 rfl ?_
  obtain rfl := Option.some.inj hm
  exact hret _ _ _ _ hw rfl dX12_doing_278
theorem mw_doing_279 (fu : Nat) {res : Int32 × PF × PG} (C : mMC p R s m args c A v RX12 cX12_doing 3 1 21) (hret : ∀ (H1 : Heap) (locs1 : List Loc) (ls1 : Array Slot) (pc : Nat), mMW s A v a res.2.1 res.2.2 H1 locs1 → narrow .int (.int res.1) = .int res.1 → decode cX12_doing pc = .ok (.ireturn, 1) → W p l e R s m args below meth c H1 locs1 0 0 Q (F0 m pc ls1 [.int res.1])) (x1 : Int32) (x2 : Int32) (F : PF) (G : PG) (hm : mb_doing_279 fu x1 x2 F G = some res) {H : Heap} {locs : List Loc} (hw : mMW s A v a F G H locs) {ls : Array Slot} (hl : lv_has ls 3 [(1, .int x1), (2, .int x2)]) : W p l e R s m args below meth c H locs 0 0 Q (F0 m 279 ls []) := by
  have hx := C.1
  have hb := C.2.1
  unfold mb_doing_279 at hm
  refine lv_iload_n hx hb dX12_doing_279 rfl (lv_at hl 0 rfl) ?_
  refine lv_iload_n hx hb dX12_doing_280 rfl (lv_at hl 1 rfl) ?_
  refine lv_iadd hx hb dX12_doing_281 ?_
  obtain rfl := Option.some.inj hm
  exact hret _ _ _ _ hw rfl dX12_doing_282
theorem mw_doing_283 (fu : Nat) {res : Int32 × PF × PG} (C : mMC p R s m args c A v RX12 cX12_doing 3 1 21) (hret : ∀ (H1 : Heap) (locs1 : List Loc) (ls1 : Array Slot) (pc : Nat), mMW s A v a res.2.1 res.2.2 H1 locs1 → narrow .int (.int res.1) = .int res.1 → decode cX12_doing pc = .ok (.ireturn, 1) → W p l e R s m args below meth c H1 locs1 0 0 Q (F0 m pc ls1 [.int res.1])) (x1 : Int32) (x2 : Int32) (F : PF) (G : PG) (hm : mb_doing_283 fu x1 x2 F G = some res) {H : Heap} {locs : List Loc} (hw : mMW s A v a F G H locs) {ls : Array Slot} (hl : lv_has ls 3 [(1, .int x1), (2, .int x2)]) : W p l e R s m args below meth c H locs 0 0 Q (F0 m 283 ls []) := by
  have hx := C.1
  have hb := C.2.1
  unfold mb_doing_283 at hm
  refine lv_iload_n hx hb dX12_doing_283 rfl (lv_at hl 0 rfl) ?_
  refine lv_iload_n hx hb dX12_doing_284 rfl (lv_at hl 1 rfl) ?_
  refine lv_isub hx hb dX12_doing_285 ?_
  obtain rfl := Option.some.inj hm
  exact hret _ _ _ _ hw rfl dX12_doing_286
theorem mw_doing_287 (fu : Nat) {res : Int32 × PF × PG} (C : mMC p R s m args c A v RX12 cX12_doing 3 1 21) (hret : ∀ (H1 : Heap) (locs1 : List Loc) (ls1 : Array Slot) (pc : Nat), mMW s A v a res.2.1 res.2.2 H1 locs1 → narrow .int (.int res.1) = .int res.1 → decode cX12_doing pc = .ok (.ireturn, 1) → W p l e R s m args below meth c H1 locs1 0 0 Q (F0 m pc ls1 [.int res.1])) (x1 : Int32) (x2 : Int32) (F : PF) (G : PG) (hm : mb_doing_287 fu x1 x2 F G = some res) {H : Heap} {locs : List Loc} (hw : mMW s A v a F G H locs) {ls : Array Slot} (hl : lv_has ls 3 [(1, .int x1), (2, .int x2)]) : W p l e R s m args below meth c H locs 0 0 Q (F0 m 287 ls []) := by
  have hx := C.1
  have hb := C.2.1
  unfold mb_doing_287 at hm
  refine lv_iload_n hx hb dX12_doing_287 rfl (lv_at hl 0 rfl) ?_
  refine lv_iload_n hx hb dX12_doing_288 rfl (lv_at hl 1 rfl) ?_
  refine lv_imul hx hb dX12_doing_289 ?_
  obtain rfl := Option.some.inj hm
  exact hret _ _ _ _ hw rfl dX12_doing_290
theorem mw_doing_296 (fu : Nat) {res : Int32 × PF × PG} (C : mMC p R s m args c A v RX12 cX12_doing 3 1 21) (hret : ∀ (H1 : Heap) (locs1 : List Loc) (ls1 : Array Slot) (pc : Nat), mMW s A v a res.2.1 res.2.2 H1 locs1 → narrow .int (.int res.1) = .int res.1 → decode cX12_doing pc = .ok (.ireturn, 1) → W p l e R s m args below meth c H1 locs1 0 0 Q (F0 m pc ls1 [.int res.1])) (z0 : Int32) (F : PF) (G : PG) (hm : mb_doing_296 fu z0 F G = some res) {H : Heap} {locs : List Loc} (hw : mMW s A v a F G H locs) {ls : Array Slot} (hl : lv_has ls 3 []) : W p l e R s m args below meth c H locs 0 0 Q (F0 m 296 ls [.int z0]) := by
  have hx := C.1
  have hb := C.2.1
  unfold mb_doing_296 at hm
  obtain rfl := Option.some.inj hm
  exact hret _ _ _ _ hw rfl dX12_doing_296
theorem mw_doing_291 (fu : Nat) {res : Int32 × PF × PG} (C : mMC p R s m args c A v RX12 cX12_doing 3 1 21) (hret : ∀ (H1 : Heap) (locs1 : List Loc) (ls1 : Array Slot) (pc : Nat), mMW s A v a res.2.1 res.2.2 H1 locs1 → narrow .int (.int res.1) = .int res.1 → decode cX12_doing pc = .ok (.ireturn, 1) → W p l e R s m args below meth c H1 locs1 0 0 Q (F0 m pc ls1 [.int res.1])) (x1 : Int32) (x2 : Int32) (F : PF) (G : PG) (hm : mb_doing_291 fu x1 x2 F G = some res) {H : Heap} {locs : List Loc} (hw : mMW s A v a F G H locs) {ls : Array Slot} (hl : lv_has ls 3 [(1, .int x1), (2, .int x2)]) : W p l e R s m args below meth c H locs 0 0 Q (F0 m 291 ls []) := by
  have hx := C.1
  have hb := C.2.1
  unfold mb_doing_291 at hm
  refine lv_iload_n hx hb dX12_doing_291 rfl (lv_at hl 0 rfl) ?_
  refine lv_iload_n hx hb dX12_doing_292 rfl (lv_at hl 1 rfl) ?_
  obtain ⟨⟨r1, F1, G1⟩, hc, hm⟩ := bind_elim hm
  refine mcallIS (n := 2) (As := [.int x1, .int x2]) (rest := []) C hw (mk_over l v a _ fu x1 x2 F G r1 F1 G1 hc) mm_300 mm_301 mm_27 mm_302 (by decide +kernel) rfl (by omega) (by omega) hl.1 rfl (Nat.le_of_ble_eq_true rfl) dX12_doing_293 (fun H locs hw => ?_)
  exact mw_doing_296 fu C hret r1 F1 G1 hm hw (lv_sub hl [] rfl)
theorem mw_doing_302 (fu : Nat) {res : Int32 × PF × PG} (C : mMC p R s m args c A v RX12 cX12_doing 3 1 21) (hret : ∀ (H1 : Heap) (locs1 : List Loc) (ls1 : Array Slot) (pc : Nat), mMW s A v a res.2.1 res.2.2 H1 locs1 → narrow .int (.int res.1) = .int res.1 → decode cX12_doing pc = .ok (.ireturn, 1) → W p l e R s m args below meth c H1 locs1 0 0 Q (F0 m pc ls1 [.int res.1])) (z0 : Int32) (F : PF) (G : PG) (hm : mb_doing_302 fu z0 F G = some res) {H : Heap} {locs : List Loc} (hw : mMW s A v a F G H locs) {ls : Array Slot} (hl : lv_has ls 3 []) : W p l e R s m args below meth c H locs 0 0 Q (F0 m 302 ls [.int z0]) := by
  have hx := C.1
  have hb := C.2.1
  unfold mb_doing_302 at hm
  obtain rfl := Option.some.inj hm
  exact hret _ _ _ _ hw rfl dX12_doing_302
theorem mw_doing_297 (fu : Nat) {res : Int32 × PF × PG} (C : mMC p R s m args c A v RX12 cX12_doing 3 1 21) (hret : ∀ (H1 : Heap) (locs1 : List Loc) (ls1 : Array Slot) (pc : Nat), mMW s A v a res.2.1 res.2.2 H1 locs1 → narrow .int (.int res.1) = .int res.1 → decode cX12_doing pc = .ok (.ireturn, 1) → W p l e R s m args below meth c H1 locs1 0 0 Q (F0 m pc ls1 [.int res.1])) (x1 : Int32) (x2 : Int32) (F : PF) (G : PG) (hm : mb_doing_297 fu x1 x2 F G = some res) {H : Heap} {locs : List Loc} (hw : mMW s A v a F G H locs) {ls : Array Slot} (hl : lv_has ls 3 [(1, .int x1), (2, .int x2)]) : W p l e R s m args below meth c H locs 0 0 Q (F0 m 297 ls []) := by
  have hx := C.1
  have hb := C.2.1
  unfold mb_doing_297 at hm
  refine lv_iload_n hx hb dX12_doing_297 rfl (lv_at hl 0 rfl) ?_
  refine lv_iload_n hx hb dX12_doing_298 rfl (lv_at hl 1 rfl) ?_
  obtain ⟨⟨r1, F1, G1⟩, hc, hm⟩ := bind_elim hm
  refine mcallIS (n := 2) (As := [.int x1, .int x2]) (rest := []) C hw (mk_rest l v a _ fu x1 x2 F G r1 F1 G1 hc) mm_304 mm_305 mm_27 mm_306 (by decide +kernel) rfl (by omega) (by omega) hl.1 rfl (Nat.le_of_ble_eq_true rfl) dX12_doing_299 (fun H locs hw => ?_)
  exact mw_doing_302 fu C hret r1 F1 G1 hm hw (lv_sub hl [] rfl)
theorem mw_doing_0 (fu : Nat) {res : Int32 × PF × PG} (C : mMC p R s m args c A v RX12 cX12_doing 3 1 21) (hret : ∀ (H1 : Heap) (locs1 : List Loc) (ls1 : Array Slot) (pc : Nat), mMW s A v a res.2.1 res.2.2 H1 locs1 → narrow .int (.int res.1) = .int res.1 → decode cX12_doing pc = .ok (.ireturn, 1) → W p l e R s m args below meth c H1 locs1 0 0 Q (F0 m pc ls1 [.int res.1])) (x0 : Int32) (x1 : Int32) (x2 : Int32) (F : PF) (G : PG) (hm : mb_doing_0 fu x0 x1 x2 F G = some res) {H : Heap} {locs : List Loc} (hw : mMW s A v a F G H locs) {ls : Array Slot} (hl : lv_has ls 3 [(0, .int x0), (1, .int x1), (2, .int x2)]) : W p l e R s m args below meth c H locs 0 0 Q (F0 m 0 ls []) := by
  have hx := C.1
  have hb := C.2.1
  unfold mb_doing_0 at hm
  refine lv_iload_n hx hb dX12_doing_0 rfl (lv_at hl 0 rfl) ?_
  by_cases c_0 : x0.toInt < 1 ∨ 41 < x0.toInt
  · have hm := (if_pos c_0).symm.trans hm
    refine lv_tableOut (tgt := 297) hx hb dX12_doing_1 c_0 (by decide) ?_
    exact mw_doing_297 fu C hret x1 x2 F G hm hw (lv_sub hl [1, 2] rfl)
  have hm := (if_neg c_0).symm.trans hm
  by_cases c_1 : x0 = 1
  · have hm := (if_pos c_1).symm.trans hm
    refine my_top 1 c_1 ?_
    refine lv_tableIn (off := 271) (tgt := 272) hx hb dX12_doing_1 (by decide) (by decide) (by decide) (by decide) ?_
    exact mw_doing_272 fu C hret x1 x2 F G hm hw (lv_sub hl [1, 2] rfl)
  have hm := (if_neg c_1).symm.trans hm
  have n_0 := c_1
  clear c_1
  by_cases c_1 : x0 = 2
  · have hm := (if_pos c_1).symm.trans hm
    refine my_top 2 c_1 ?_
    refine lv_tableIn (off := 296) (tgt := 297) hx hb dX12_doing_1 (by decide) (by decide) (by decide) (by decide) ?_
    exact mw_doing_297 fu C hret x1 x2 F G hm hw (lv_sub hl [1, 2] rfl)
  have hm := (if_neg c_1).symm.trans hm
  have n_1 := c_1
  clear c_1
  by_cases c_1 : x0 = 3
  · have hm := (if_pos c_1).symm.trans hm
    refine my_top 3 c_1 ?_
    refine lv_tableIn (off := 296) (tgt := 297) hx hb dX12_doing_1 (by decide) (by decide) (by decide) (by decide) ?_
    exact mw_doing_297 fu C hret x1 x2 F G hm hw (lv_sub hl [1, 2] rfl)
  have hm := (if_neg c_1).symm.trans hm
  have n_2 := c_1
  clear c_1
  by_cases c_1 : x0 = 4
  · have hm := (if_pos c_1).symm.trans hm
    refine my_top 4 c_1 ?_
    refine lv_tableIn (off := 296) (tgt := 297) hx hb dX12_doing_1 (by decide) (by decide) (by decide) (by decide) ?_
    exact mw_doing_297 fu C hret x1 x2 F G hm hw (lv_sub hl [1, 2] rfl)
  have hm := (if_neg c_1).symm.trans hm
  have n_3 := c_1
  clear c_1
  by_cases c_1 : x0 = 5
  · have hm := (if_pos c_1).symm.trans hm
    refine my_top 5 c_1 ?_
    refine lv_tableIn (off := 296) (tgt := 297) hx hb dX12_doing_1 (by decide) (by decide) (by decide) (by decide) ?_
    exact mw_doing_297 fu C hret x1 x2 F G hm hw (lv_sub hl [1, 2] rfl)
  have hm := (if_neg c_1).symm.trans hm
  have n_4 := c_1
  clear c_1
  by_cases c_1 : x0 = 6
  · have hm := (if_pos c_1).symm.trans hm
    refine my_top 6 c_1 ?_
    refine lv_tableIn (off := 296) (tgt := 297) hx hb dX12_doing_1 (by decide) (by decide) (by decide) (by decide) ?_
    exact mw_doing_297 fu C hret x1 x2 F G hm hw (lv_sub hl [1, 2] rfl)
  have hm := (if_neg c_1).symm.trans hm
  have n_5 := c_1
  clear c_1
  by_cases c_1 : x0 = 7
  · have hm := (if_pos c_1).symm.trans hm
    refine my_top 7 c_1 ?_
    refine lv_tableIn (off := 296) (tgt := 297) hx hb dX12_doing_1 (by decide) (by decide) (by decide) (by decide) ?_
    exact mw_doing_297 fu C hret x1 x2 F G hm hw (lv_sub hl [1, 2] rfl)
  have hm := (if_neg c_1).symm.trans hm
  have n_6 := c_1
  clear c_1
  by_cases c_1 : x0 = 8
  · have hm := (if_pos c_1).symm.trans hm
    refine my_top 8 c_1 ?_
    refine lv_tableIn (off := 296) (tgt := 297) hx hb dX12_doing_1 (by decide) (by decide) (by decide) (by decide) ?_
    exact mw_doing_297 fu C hret x1 x2 F G hm hw (lv_sub hl [1, 2] rfl)
  have hm := (if_neg c_1).symm.trans hm
  have n_7 := c_1
  clear c_1
  by_cases c_1 : x0 = 9
  · have hm := (if_pos c_1).symm.trans hm
    refine my_top 9 c_1 ?_
    refine lv_tableIn (off := 296) (tgt := 297) hx hb dX12_doing_1 (by decide) (by decide) (by decide) (by decide) ?_
    exact mw_doing_297 fu C hret x1 x2 F G hm hw (lv_sub hl [1, 2] rfl)
  have hm := (if_neg c_1).symm.trans hm
  have n_8 := c_1
  clear c_1
  by_cases c_1 : x0 = 10
  · have hm := (if_pos c_1).symm.trans hm
    refine my_top 10 c_1 ?_
    refine lv_tableIn (off := 296) (tgt := 297) hx hb dX12_doing_1 (by decide) (by decide) (by decide) (by decide) ?_
    exact mw_doing_297 fu C hret x1 x2 F G hm hw (lv_sub hl [1, 2] rfl)
  have hm := (if_neg c_1).symm.trans hm
  have n_9 := c_1
  clear c_1
  by_cases c_1 : x0 = 11
  · have hm := (if_pos c_1).symm.trans hm
    refine my_top 11 c_1 ?_
    refine lv_tableIn (off := 296) (tgt := 297) hx hb dX12_doing_1 (by decide) (by decide) (by decide) (by decide) ?_
    exact mw_doing_297 fu C hret x1 x2 F G hm hw (lv_sub hl [1, 2] rfl)
  have hm := (if_neg c_1).symm.trans hm
  have n_10 := c_1
  clear c_1
  by_cases c_1 : x0 = 12
  · have hm := (if_pos c_1).symm.trans hm
    refine my_top 12 c_1 ?_
    refine lv_tableIn (off := 296) (tgt := 297) hx hb dX12_doing_1 (by decide) (by decide) (by decide) (by decide) ?_
    exact mw_doing_297 fu C hret x1 x2 F G hm hw (lv_sub hl [1, 2] rfl)
  have hm := (if_neg c_1).symm.trans hm
  have n_11 := c_1
  clear c_1
  by_cases c_1 : x0 = 13
  · have hm := (if_pos c_1).symm.trans hm
    refine my_top 13 c_1 ?_
    refine lv_tableIn (off := 296) (tgt := 297) hx hb dX12_doing_1 (by decide) (by decide) (by decide) (by decide) ?_
    exact mw_doing_297 fu C hret x1 x2 F G hm hw (lv_sub hl [1, 2] rfl)
  have hm := (if_neg c_1).symm.trans hm
  have n_12 := c_1
  clear c_1
  by_cases c_1 : x0 = 14
  · have hm := (if_pos c_1).symm.trans hm
    refine my_top 14 c_1 ?_
    refine lv_tableIn (off := 296) (tgt := 297) hx hb dX12_doing_1 (by decide) (by decide) (by decide) (by decide) ?_
    exact mw_doing_297 fu C hret x1 x2 F G hm hw (lv_sub hl [1, 2] rfl)
  have hm := (if_neg c_1).symm.trans hm
  have n_13 := c_1
  clear c_1
  by_cases c_1 : x0 = 15
  · have hm := (if_pos c_1).symm.trans hm
    refine my_top 15 c_1 ?_
    refine lv_tableIn (off := 296) (tgt := 297) hx hb dX12_doing_1 (by decide) (by decide) (by decide) (by decide) ?_
    exact mw_doing_297 fu C hret x1 x2 F G hm hw (lv_sub hl [1, 2] rfl)
  have hm := (if_neg c_1).symm.trans hm
  have n_14 := c_1
  clear c_1
  by_cases c_1 : x0 = 16
  · have hm := (if_pos c_1).symm.trans hm
    refine my_top 16 c_1 ?_
    refine lv_tableIn (off := 191) (tgt := 192) hx hb dX12_doing_1 (by decide) (by decide) (by decide) (by decide) ?_
    exact mw_doing_192 fu C hret x1 x2 F G hm hw (lv_sub hl [1, 2] rfl)
  have hm := (if_neg c_1).symm.trans hm
  have n_15 := c_1
  clear c_1
  by_cases c_1 : x0 = 17
  · have hm := (if_pos c_1).symm.trans hm
    refine my_top 17 c_1 ?_
    refine lv_tableIn (off := 202) (tgt := 203) hx hb dX12_doing_1 (by decide) (by decide) (by decide) (by decide) ?_
    exact mw_doing_203 fu C hret x1 x2 F G hm hw (lv_sub hl [1, 2] rfl)
  have hm := (if_neg c_1).symm.trans hm
  have n_16 := c_1
  clear c_1
  by_cases c_1 : x0 = 18
  · have hm := (if_pos c_1).symm.trans hm
    refine my_top 18 c_1 ?_
    refine lv_tableIn (off := 224) (tgt := 225) hx hb dX12_doing_1 (by decide) (by decide) (by decide) (by decide) ?_
    exact mw_doing_225 fu C hret x1 x2 F G hm hw (lv_sub hl [1, 2] rfl)
  have hm := (if_neg c_1).symm.trans hm
  have n_17 := c_1
  clear c_1
  by_cases c_1 : x0 = 19
  · have hm := (if_pos c_1).symm.trans hm
    refine my_top 19 c_1 ?_
    refine lv_tableIn (off := 246) (tgt := 247) hx hb dX12_doing_1 (by decide) (by decide) (by decide) (by decide) ?_
    exact mw_doing_247 fu C hret x1 x2 F G hm hw (lv_sub hl [1, 2] rfl)
  have hm := (if_neg c_1).symm.trans hm
  have n_18 := c_1
  clear c_1
  by_cases c_1 : x0 = 20
  · have hm := (if_pos c_1).symm.trans hm
    refine my_top 20 c_1 ?_
    refine lv_tableIn (off := 257) (tgt := 258) hx hb dX12_doing_1 (by decide) (by decide) (by decide) (by decide) ?_
    exact mw_doing_258 fu C hret x1 x2 F G hm hw (lv_sub hl [1, 2] rfl)
  have hm := (if_neg c_1).symm.trans hm
  have n_19 := c_1
  clear c_1
  by_cases c_1 : x0 = 21
  · have hm := (if_pos c_1).symm.trans hm
    refine my_top 21 c_1 ?_
    refine lv_tableIn (off := 264) (tgt := 265) hx hb dX12_doing_1 (by decide) (by decide) (by decide) (by decide) ?_
    exact mw_doing_265 fu C hret x1 x2 F G hm hw (lv_sub hl [1, 2] rfl)
  have hm := (if_neg c_1).symm.trans hm
  have n_20 := c_1
  clear c_1
  by_cases c_1 : x0 = 22
  · have hm := (if_pos c_1).symm.trans hm
    refine my_top 22 c_1 ?_
    refine lv_tableIn (off := 296) (tgt := 297) hx hb dX12_doing_1 (by decide) (by decide) (by decide) (by decide) ?_
    exact mw_doing_297 fu C hret x1 x2 F G hm hw (lv_sub hl [1, 2] rfl)
  have hm := (if_neg c_1).symm.trans hm
  have n_21 := c_1
  clear c_1
  by_cases c_1 : x0 = 23
  · have hm := (if_pos c_1).symm.trans hm
    refine my_top 23 c_1 ?_
    refine lv_tableIn (off := 296) (tgt := 297) hx hb dX12_doing_1 (by decide) (by decide) (by decide) (by decide) ?_
    exact mw_doing_297 fu C hret x1 x2 F G hm hw (lv_sub hl [1, 2] rfl)
  have hm := (if_neg c_1).symm.trans hm
  have n_22 := c_1
  clear c_1
  by_cases c_1 : x0 = 24
  · have hm := (if_pos c_1).symm.trans hm
    refine my_top 24 c_1 ?_
    refine lv_tableIn (off := 296) (tgt := 297) hx hb dX12_doing_1 (by decide) (by decide) (by decide) (by decide) ?_
    exact mw_doing_297 fu C hret x1 x2 F G hm hw (lv_sub hl [1, 2] rfl)
  have hm := (if_neg c_1).symm.trans hm
  have n_23 := c_1
  clear c_1
  by_cases c_1 : x0 = 25
  · have hm := (if_pos c_1).symm.trans hm
    refine my_top 25 c_1 ?_
    refine lv_tableIn (off := 296) (tgt := 297) hx hb dX12_doing_1 (by decide) (by decide) (by decide) (by decide) ?_
    exact mw_doing_297 fu C hret x1 x2 F G hm hw (lv_sub hl [1, 2] rfl)
  have hm := (if_neg c_1).symm.trans hm
  have n_24 := c_1
  clear c_1
  by_cases c_1 : x0 = 26
  · have hm := (if_pos c_1).symm.trans hm
    refine my_top 26 c_1 ?_
    refine lv_tableIn (off := 296) (tgt := 297) hx hb dX12_doing_1 (by decide) (by decide) (by decide) (by decide) ?_
    exact mw_doing_297 fu C hret x1 x2 F G hm hw (lv_sub hl [1, 2] rfl)
  have hm := (if_neg c_1).symm.trans hm
  have n_25 := c_1
  clear c_1
  by_cases c_1 : x0 = 27
  · have hm := (if_pos c_1).symm.trans hm
    refine my_top 27 c_1 ?_
    refine lv_tableIn (off := 296) (tgt := 297) hx hb dX12_doing_1 (by decide) (by decide) (by decide) (by decide) ?_
    exact mw_doing_297 fu C hret x1 x2 F G hm hw (lv_sub hl [1, 2] rfl)
  have hm := (if_neg c_1).symm.trans hm
  have n_26 := c_1
  clear c_1
  by_cases c_1 : x0 = 28
  · have hm := (if_pos c_1).symm.trans hm
    refine my_top 28 c_1 ?_
    refine lv_tableIn (off := 296) (tgt := 297) hx hb dX12_doing_1 (by decide) (by decide) (by decide) (by decide) ?_
    exact mw_doing_297 fu C hret x1 x2 F G hm hw (lv_sub hl [1, 2] rfl)
  have hm := (if_neg c_1).symm.trans hm
  have n_27 := c_1
  clear c_1
  by_cases c_1 : x0 = 29
  · have hm := (if_pos c_1).symm.trans hm
    refine my_top 29 c_1 ?_
    refine lv_tableIn (off := 296) (tgt := 297) hx hb dX12_doing_1 (by decide) (by decide) (by decide) (by decide) ?_
    exact mw_doing_297 fu C hret x1 x2 F G hm hw (lv_sub hl [1, 2] rfl)
  have hm := (if_neg c_1).symm.trans hm
  have n_28 := c_1
  clear c_1
  by_cases c_1 : x0 = 30
  · have hm := (if_pos c_1).symm.trans hm
    refine my_top 30 c_1 ?_
    refine lv_tableIn (off := 296) (tgt := 297) hx hb dX12_doing_1 (by decide) (by decide) (by decide) (by decide) ?_
    exact mw_doing_297 fu C hret x1 x2 F G hm hw (lv_sub hl [1, 2] rfl)
  have hm := (if_neg c_1).symm.trans hm
  have n_29 := c_1
  clear c_1
  by_cases c_1 : x0 = 31
  · have hm := (if_pos c_1).symm.trans hm
    refine my_top 31 c_1 ?_
    refine lv_tableIn (off := 296) (tgt := 297) hx hb dX12_doing_1 (by decide) (by decide) (by decide) (by decide) ?_
    exact mw_doing_297 fu C hret x1 x2 F G hm hw (lv_sub hl [1, 2] rfl)
  have hm := (if_neg c_1).symm.trans hm
  have n_30 := c_1
  clear c_1
  by_cases c_1 : x0 = 32
  · have hm := (if_pos c_1).symm.trans hm
    refine my_top 32 c_1 ?_
    refine lv_tableIn (off := 296) (tgt := 297) hx hb dX12_doing_1 (by decide) (by decide) (by decide) (by decide) ?_
    exact mw_doing_297 fu C hret x1 x2 F G hm hw (lv_sub hl [1, 2] rfl)
  have hm := (if_neg c_1).symm.trans hm
  have n_31 := c_1
  clear c_1
  by_cases c_1 : x0 = 33
  · have hm := (if_pos c_1).symm.trans hm
    refine my_top 33 c_1 ?_
    refine lv_tableIn (off := 179) (tgt := 180) hx hb dX12_doing_1 (by decide) (by decide) (by decide) (by decide) ?_
    exact mw_doing_180 fu C hret x1 x2 F G hm hw (lv_sub hl [1, 2] rfl)
  have hm := (if_neg c_1).symm.trans hm
  have n_32 := c_1
  clear c_1
  by_cases c_1 : x0 = 34
  · have hm := (if_pos c_1).symm.trans hm
    refine my_top 34 c_1 ?_
    refine lv_tableIn (off := 183) (tgt := 184) hx hb dX12_doing_1 (by decide) (by decide) (by decide) (by decide) ?_
    exact mw_doing_184 fu C hret x1 x2 F G hm hw (lv_sub hl [1, 2] rfl)
  have hm := (if_neg c_1).symm.trans hm
  have n_33 := c_1
  clear c_1
  by_cases c_1 : x0 = 35
  · have hm := (if_pos c_1).symm.trans hm
    refine my_top 35 c_1 ?_
    refine lv_tableIn (off := 187) (tgt := 188) hx hb dX12_doing_1 (by decide) (by decide) (by decide) (by decide) ?_
    exact mw_doing_188 fu C hret x1 x2 F G hm hw (lv_sub hl [1, 2] rfl)
  have hm := (if_neg c_1).symm.trans hm
  have n_34 := c_1
  clear c_1
  by_cases c_1 : x0 = 36
  · have hm := (if_pos c_1).symm.trans hm
    refine my_top 36 c_1 ?_
    refine lv_tableIn (off := 213) (tgt := 214) hx hb dX12_doing_1 (by decide) (by decide) (by decide) (by decide) ?_
    exact mw_doing_214 fu C hret x1 x2 F G hm hw (lv_sub hl [1, 2] rfl)
  have hm := (if_neg c_1).symm.trans hm
  have n_35 := c_1
  clear c_1
  by_cases c_1 : x0 = 37
  · have hm := (if_pos c_1).symm.trans hm
    refine my_top 37 c_1 ?_
    refine lv_tableIn (off := 235) (tgt := 236) hx hb dX12_doing_1 (by decide) (by decide) (by decide) (by decide) ?_
    exact mw_doing_236 fu C hret x1 x2 F G hm hw (lv_sub hl [1, 2] rfl)
  have hm := (if_neg c_1).symm.trans hm
  have n_36 := c_1
  clear c_1
  by_cases c_1 : x0 = 38
  · have hm := (if_pos c_1).symm.trans hm
    refine my_top 38 c_1 ?_
    refine lv_tableIn (off := 278) (tgt := 279) hx hb dX12_doing_1 (by decide) (by decide) (by decide) (by decide) ?_
    exact mw_doing_279 fu C hret x1 x2 F G hm hw (lv_sub hl [1, 2] rfl)
  have hm := (if_neg c_1).symm.trans hm
  have n_37 := c_1
  clear c_1
  by_cases c_1 : x0 = 39
  · have hm := (if_pos c_1).symm.trans hm
    refine my_top 39 c_1 ?_
    refine lv_tableIn (off := 282) (tgt := 283) hx hb dX12_doing_1 (by decide) (by decide) (by decide) (by decide) ?_
    exact mw_doing_283 fu C hret x1 x2 F G hm hw (lv_sub hl [1, 2] rfl)
  have hm := (if_neg c_1).symm.trans hm
  have n_38 := c_1
  clear c_1
  by_cases c_1 : x0 = 40
  · have hm := (if_pos c_1).symm.trans hm
    refine my_top 40 c_1 ?_
    refine lv_tableIn (off := 286) (tgt := 287) hx hb dX12_doing_1 (by decide) (by decide) (by decide) (by decide) ?_
    exact mw_doing_287 fu C hret x1 x2 F G hm hw (lv_sub hl [1, 2] rfl)
  have hm := (if_neg c_1).symm.trans hm
  have n_39 := c_1
  clear c_1
  have c_1 : x0 = 41 := my_last (l := 1) (k := 40) c_0 (by decide) (fun j hj => match j, hj with | 0, _ => fun h9 => n_0 (Int32.toInt_inj.mp (h9.trans (by decide))) | 1, _ => fun h9 => n_1 (Int32.toInt_inj.mp (h9.trans (by decide))) | 2, _ => fun h9 => n_2 (Int32.toInt_inj.mp (h9.trans (by decide))) | 3, _ => fun h9 => n_3 (Int32.toInt_inj.mp (h9.trans (by decide))) | 4, _ => fun h9 => n_4 (Int32.toInt_inj.mp (h9.trans (by decide))) | 5, _ => fun h9 => n_5 (Int32.toInt_inj.mp (h9.trans (by decide))) | 6, _ => fun h9 => n_6 (Int32.toInt_inj.mp (h9.trans (by decide))) | 7, _ => fun h9 => n_7 (Int32.toInt_inj.mp (h9.trans (by decide))) | 8, _ => fun h9 => n_8 (Int32.toInt_inj.mp (h9.trans (by decide))) | 9, _ => fun h9 => n_9 (Int32.toInt_inj.mp (h9.trans (by decide))) | 10, _ => fun h9 => n_10 (Int32.toInt_inj.mp (h9.trans (by decide))) | 11, _ => fun h9 => n_11 (Int32.toInt_inj.mp (h9.trans (by decide))) | 12, _ => fun h9 => n_12 (Int32.toInt_inj.mp (h9.trans (by decide))) | 13, _ => fun h9 => n_13 (Int32.toInt_inj.mp (h9.trans (by decide))) | 14, _ => fun h9 => n_14 (Int32.toInt_inj.mp (h9.trans (by decide))) | 15, _ => fun h9 => n_15 (Int32.toInt_inj.mp (h9.trans (by decide))) | 16, _ => fun h9 => n_16 (Int32.toInt_inj.mp (h9.trans (by decide))) | 17, _ => fun h9 => n_17 (Int32.toInt_inj.mp (h9.trans (by decide))) | 18, _ => fun h9 => n_18 (Int32.toInt_inj.mp (h9.trans (by decide))) | 19, _ => fun h9 => n_19 (Int32.toInt_inj.mp (h9.trans (by decide))) | 20, _ => fun h9 => n_20 (Int32.toInt_inj.mp (h9.trans (by decide))) | 21, _ => fun h9 => n_21 (Int32.toInt_inj.mp (h9.trans (by decide))) | 22, _ => fun h9 => n_22 (Int32.toInt_inj.mp (h9.trans (by decide))) | 23, _ => fun h9 => n_23 (Int32.toInt_inj.mp (h9.trans (by decide))) | 24, _ => fun h9 => n_24 (Int32.toInt_inj.mp (h9.trans (by decide))) | 25, _ => fun h9 => n_25 (Int32.toInt_inj.mp (h9.trans (by decide))) | 26, _ => fun h9 => n_26 (Int32.toInt_inj.mp (h9.trans (by decide))) | 27, _ => fun h9 => n_27 (Int32.toInt_inj.mp (h9.trans (by decide))) | 28, _ => fun h9 => n_28 (Int32.toInt_inj.mp (h9.trans (by decide))) | 29, _ => fun h9 => n_29 (Int32.toInt_inj.mp (h9.trans (by decide))) | 30, _ => fun h9 => n_30 (Int32.toInt_inj.mp (h9.trans (by decide))) | 31, _ => fun h9 => n_31 (Int32.toInt_inj.mp (h9.trans (by decide))) | 32, _ => fun h9 => n_32 (Int32.toInt_inj.mp (h9.trans (by decide))) | 33, _ => fun h9 => n_33 (Int32.toInt_inj.mp (h9.trans (by decide))) | 34, _ => fun h9 => n_34 (Int32.toInt_inj.mp (h9.trans (by decide))) | 35, _ => fun h9 => n_35 (Int32.toInt_inj.mp (h9.trans (by decide))) | 36, _ => fun h9 => n_36 (Int32.toInt_inj.mp (h9.trans (by decide))) | 37, _ => fun h9 => n_37 (Int32.toInt_inj.mp (h9.trans (by decide))) | 38, _ => fun h9 => n_38 (Int32.toInt_inj.mp (h9.trans (by decide))) | 39, _ => fun h9 => n_39 (Int32.toInt_inj.mp (h9.trans (by decide))) | q + 40, h => absurd h (by omega)) (by decide)
  refine my_top 41 c_1 ?_
  refine lv_tableIn (off := 290) (tgt := 291) hx hb dX12_doing_1 (by decide) (by decide) (by decide) (by decide) ?_
  exact mw_doing_291 fu C hret x1 x2 F G hm hw (lv_sub hl [1, 2] rfl)
theorem mk_doing (l : Launch) (v : EV) (a : Nat → Nat) (sz : Nat) (fu : Nat) (x0 : Int32) (x1 : Int32) (x2 : Int32) (F : PF) (G : PG) (r : Int32) (F1 : PF) (G1 : PG) (hm : mf_doing fu x0 x1 x2 F G = some (r, F1, G1)) : mMI l yX12_doing cX12_doing 3 (some .int) 1 21 v a sz [.int x0, .int x1, .int x2] F G r F1 G1 := mMI.of (ty := .int) (by decide) rfl (Nat.le_of_ble_eq_true rfl) (fun p e R s m args below meth c Q A H locs ls C hw hl hret => mw_doing_0 fu (res := (r, F1, G1)) C hret x0 x1 x2 F G hm hw hl)
def mb_plainly_92 (fu : Nat) (x1 : Int32) (F : PF) (G : PG) : PR := some ((x1 + (1 : Int32)), F, G)
def mb_plainly_82 (fu : Nat) (x1 : Int32) (F : PF) (G : PG) : PR := mb_plainly_92 fu x1 (fup F 72 ((F 72) + (1 : Int32))) G
def mb_plainly_72 (fu : Nat) (x1 : Int32) (x2 : Int32) (F : PF) (G : PG) : PR := if ixb (F 72) 280000 = true then (mb_plainly_82 fu x1 F (gup G 71 (F 72).toNatClampNeg x2)) else none
def mb_plainly_141 (fu : Nat) (x1 : Int32) (F : PF) (G : PG) : PR := some ((x1 + (1 : Int32)), F, G)
def mb_plainly_140 (fu : Nat) (x1 : Int32) (z0 : Int32) (z1 : Int32) (F : PF) (G : PG) : PR := if ixb z1 280000 = true then (mb_plainly_141 fu x1 F (gup G 71 z1.toNatClampNeg z0)) else none
def mb_plainly_106 (fu : Nat) (x1 : Int32) (x2 : Int32) (F : PF) (G : PG) : PR := if ixb ((F 72) - (1 : Int32)) 280000 = true then (if ixb (F 72) 280000 = true then ((mf_doing fu x2 (G 71 ((F 72) - (1 : Int32)).toNatClampNeg) (G 71 (F 72).toNatClampNeg) F G).bind (fun q => mb_plainly_140 fu x1 q.1 ((F 72) - (1 : Int32)) q.2.1 q.2.2)) else none) else none
def mb_plainly_96 (fu : Nat) (x1 : Int32) (x2 : Int32) (F : PF) (G : PG) : PR := mb_plainly_106 fu x1 x2 (fup F 72 ((F 72) - (1 : Int32))) G
def mb_plainly_171 (fu : Nat) (x1 : Int32) (F : PF) (G : PG) : PR := some ((x1 + (1 : Int32)), F, G)
def mb_plainly_170 (fu : Nat) (x1 : Int32) (z0 : Int32) (z1 : Int32) (F : PF) (G : PG) : PR := if ixb z1 280000 = true then (mb_plainly_171 fu x1 F (gup G 71 z1.toNatClampNeg z0)) else none
def mb_plainly_145 (fu : Nat) (x1 : Int32) (x2 : Int32) (F : PF) (G : PG) : PR := if ixb ((F 72) - (1 : Int32)) 280000 = true then ((mf_alone fu x2 (G 71 ((F 72) - (1 : Int32)).toNatClampNeg) F G).bind (fun q => mb_plainly_170 fu x1 q.1 ((F 72) - (1 : Int32)) q.2.1 q.2.2)) else none
def mb_plainly_205 (fu : Nat) (x1 : Int32) (F : PF) (G : PG) : PR := some ((x1 + (1 : Int32)), F, G)
def mb_plainly_204 (fu : Nat) (x1 : Int32) (z0 : Int32) (z1 : Int32) (F : PF) (G : PG) : PR := if ixb z1 280000 = true then (mb_plainly_205 fu x1 F (gup G 71 z1.toNatClampNeg z0)) else none
def mb_plainly_203 (fu : Nat) (x1 : Int32) (z0 : Int32) (F : PF) (G : PG) : PR := mb_plainly_204 fu x1 0 z0 F G
def mb_plainly_199 (fu : Nat) (x1 : Int32) (z0 : Int32) (F : PF) (G : PG) : PR := mb_plainly_204 fu x1 1 z0 F G
def mb_plainly_175 (fu : Nat) (x1 : Int32) (F : PF) (G : PG) : PR := if ixb ((F 72) - (1 : Int32)) 280000 = true then (if (G 71 ((F 72) - (1 : Int32)).toNatClampNeg) = (0 : Int32) then mb_plainly_203 fu x1 ((F 72) - (1 : Int32)) F G else mb_plainly_199 fu x1 ((F 72) - (1 : Int32)) F G) else none
def mb_plainly_209 (fu : Nat) (x2 : Int32) (F : PF) (G : PG) : PR := some (x2, F, G)
def mb_plainly_240 (fu : Nat) (z0 : Int32) (F : PF) (G : PG) : PR := some (z0, F, G)
def mb_plainly_237 (fu : Nat) (x1 : Int32) (F : PF) (G : PG) : PR := mb_plainly_240 fu (x1 + (1 : Int32)) F G
def mb_plainly_233 (fu : Nat) (x2 : Int32) (F : PF) (G : PG) : PR := mb_plainly_240 fu x2 F G
def mb_plainly_221 (fu : Nat) (x1 : Int32) (x2 : Int32) (F : PF) (G : PG) : PR := if ixb (F 72) 280000 = true then (if (G 71 (F 72).toNatClampNeg) = (0 : Int32) then mb_plainly_237 fu x1 F G else mb_plainly_233 fu x2 F G) else none
def mb_plainly_211 (fu : Nat) (x1 : Int32) (x2 : Int32) (F : PF) (G : PG) : PR := mb_plainly_221 fu x1 x2 (fup F 72 ((F 72) - (1 : Int32))) G
def mb_plainly_270 (fu : Nat) (z0 : Int32) (F : PF) (G : PG) : PR := some (z0, F, G)
def mb_plainly_267 (fu : Nat) (x1 : Int32) (F : PF) (G : PG) : PR := mb_plainly_270 fu (x1 + (1 : Int32)) F G
def mb_plainly_263 (fu : Nat) (x2 : Int32) (F : PF) (G : PG) : PR := mb_plainly_270 fu x2 F G
def mb_plainly_251 (fu : Nat) (x1 : Int32) (x2 : Int32) (F : PF) (G : PG) : PR := if ixb (F 72) 280000 = true then (if (G 71 (F 72).toNatClampNeg) = (0 : Int32) then mb_plainly_263 fu x2 F G else mb_plainly_267 fu x1 F G) else none
def mb_plainly_241 (fu : Nat) (x1 : Int32) (x2 : Int32) (F : PF) (G : PG) : PR := mb_plainly_251 fu x1 x2 (fup F 72 ((F 72) - (1 : Int32))) G
def mb_plainly_0 (fu : Nat) (x1 : Int32) (F : PF) (G : PG) : PR := if ixb x1 9000 = true then (if ixb x1 9000 = true then (if (G 56 x1.toNatClampNeg) = 0 then mb_plainly_72 fu x1 (G 57 x1.toNatClampNeg) F G else if (G 56 x1.toNatClampNeg) = 10 then mb_plainly_96 fu x1 (G 57 x1.toNatClampNeg) F G else if (G 56 x1.toNatClampNeg) = 11 then mb_plainly_145 fu x1 (G 57 x1.toNatClampNeg) F G else if (G 56 x1.toNatClampNeg) = 12 then mb_plainly_209 fu (G 57 x1.toNatClampNeg) F G else if (G 56 x1.toNatClampNeg) = 14 then mb_plainly_211 fu x1 (G 57 x1.toNatClampNeg) F G else if (G 56 x1.toNatClampNeg) = 23 then mb_plainly_175 fu x1 F G else mb_plainly_241 fu x1 (G 57 x1.toNatClampNeg) F G) else none) else none
def mf_plainly (fu : Nat) (x1 : Int32) (F : PF) (G : PG) : PR := mb_plainly_0 fu x1 F G
theorem mw_plainly_92 (fu : Nat) {res : Int32 × PF × PG} (C : mMC p R s m args c A v RX12 cX12_plainly 3 2 43) (hret : ∀ (H1 : Heap) (locs1 : List Loc) (ls1 : Array Slot) (pc : Nat), mMW s A v a res.2.1 res.2.2 H1 locs1 → narrow .int (.int res.1) = .int res.1 → decode cX12_plainly pc = .ok (.ireturn, 1) → W p l e R s m args below meth c H1 locs1 0 0 Q (F0 m pc ls1 [.int res.1])) (x1 : Int32) (F : PF) (G : PG) (hm : mb_plainly_92 fu x1 F G = some res) {H : Heap} {locs : List Loc} (hw : mMW s A v a F G H locs) {ls : Array Slot} (hl : lv_has ls 3 [(1, .int x1)]) : W p l e R s m args below meth c H locs 0 0 Q (F0 m 92 ls []) := by
  have hx := C.1
  have hb := C.2.1
  unfold mb_plainly_92 at hm
  refine lv_iload_n hx hb dX12_plainly_92 rfl (lv_at hl 0 rfl) ?_
  refine lv_iconst (v := 1) hx hb dX12_plainly_93 (by decide) ?_
  refine lv_iadd hx hb dX12_plainly_94 ?_
  obtain rfl := Option.some.inj hm
  exact hret _ _ _ _ hw rfl dX12_plainly_95
theorem mw_plainly_82 (fu : Nat) {res : Int32 × PF × PG} (C : mMC p R s m args c A v RX12 cX12_plainly 3 2 43) (hret : ∀ (H1 : Heap) (locs1 : List Loc) (ls1 : Array Slot) (pc : Nat), mMW s A v a res.2.1 res.2.2 H1 locs1 → narrow .int (.int res.1) = .int res.1 → decode cX12_plainly pc = .ok (.ireturn, 1) → W p l e R s m args below meth c H1 locs1 0 0 Q (F0 m pc ls1 [.int res.1])) (x1 : Int32) (F : PF) (G : PG) (hm : mb_plainly_82 fu x1 F G = some res) {H : Heap} {locs : List Loc} (hw : mMW s A v a F G H locs) {ls : Array Slot} (hl : lv_has ls 3 [(0, .ref (a 212)), (1, .int x1)]) : W p l e R s m args below meth c H locs 0 0 Q (F0 m 82 ls []) := by
  have hx := C.1
  have hb := C.2.1
  unfold mb_plainly_82 at hm
  refine lv_aload_n hx hb dX12_plainly_82 rfl (lv_at hl 0 rfl) ?_
  refine lv_dup hx hb dX12_plainly_83 rfl ?_
  refine mg_X12_497 C hw dX12_plainly_84 ?_
  refine lv_iconst (v := 1) hx hb dX12_plainly_87 (by decide) ?_
  refine lv_iadd hx hb dX12_plainly_88 ?_
  refine mp_X12_497 C hw dX12_plainly_89 (fun H locs hw => ?_)
  exact mw_plainly_92 fu C hret x1 (fup F 72 ((F 72) + (1 : Int32))) G hm hw (lv_sub hl [1] rfl)
theorem mw_plainly_72 (fu : Nat) {res : Int32 × PF × PG} (C : mMC p R s m args c A v RX12 cX12_plainly 3 2 43) (hret : ∀ (H1 : Heap) (locs1 : List Loc) (ls1 : Array Slot) (pc : Nat), mMW s A v a res.2.1 res.2.2 H1 locs1 → narrow .int (.int res.1) = .int res.1 → decode cX12_plainly pc = .ok (.ireturn, 1) → W p l e R s m args below meth c H1 locs1 0 0 Q (F0 m pc ls1 [.int res.1])) (x1 : Int32) (x2 : Int32) (F : PF) (G : PG) (hm : mb_plainly_72 fu x1 x2 F G = some res) {H : Heap} {locs : List Loc} (hw : mMW s A v a F G H locs) {ls : Array Slot} (hl : lv_has ls 3 [(0, .ref (a 212)), (1, .int x1), (2, .int x2)]) : W p l e R s m args below meth c H locs 0 0 Q (F0 m 72 ls []) := by
  have hx := C.1
  have hb := C.2.1
  unfold mb_plainly_72 at hm
  refine lv_aload_n hx hb dX12_plainly_72 rfl (lv_at hl 0 rfl) ?_
  refine mg_X12_126 C hw dX12_plainly_73 ?_
  refine lv_aload_n hx hb dX12_plainly_76 rfl (lv_at hl 0 rfl) ?_
  refine mg_X12_497 C hw dX12_plainly_77 ?_
  refine lv_iload_n hx hb dX12_plainly_80 rfl (lv_at hl 2 rfl) ?_
  obtain ⟨hi, hm⟩ := ix_elim hm
  refine mas_71 C hw hi dX12_plainly_81 (fun H locs hw => ?_)
  exact mw_plainly_82 fu C hret x1 F (gup G 71 (F 72).toNatClampNeg x2) hm hw (lv_sub hl [0, 1] rfl)
theorem mw_plainly_141 (fu : Nat) {res : Int32 × PF × PG} (C : mMC p R s m args c A v RX12 cX12_plainly 3 2 43) (hret : ∀ (H1 : Heap) (locs1 : List Loc) (ls1 : Array Slot) (pc : Nat), mMW s A v a res.2.1 res.2.2 H1 locs1 → narrow .int (.int res.1) = .int res.1 → decode cX12_plainly pc = .ok (.ireturn, 1) → W p l e R s m args below meth c H1 locs1 0 0 Q (F0 m pc ls1 [.int res.1])) (x1 : Int32) (F : PF) (G : PG) (hm : mb_plainly_141 fu x1 F G = some res) {H : Heap} {locs : List Loc} (hw : mMW s A v a F G H locs) {ls : Array Slot} (hl : lv_has ls 3 [(1, .int x1)]) : W p l e R s m args below meth c H locs 0 0 Q (F0 m 141 ls []) := by
  have hx := C.1
  have hb := C.2.1
  unfold mb_plainly_141 at hm
  refine lv_iload_n hx hb dX12_plainly_141 rfl (lv_at hl 0 rfl) ?_
  refine lv_iconst (v := 1) hx hb dX12_plainly_142 (by decide) ?_
  refine lv_iadd hx hb dX12_plainly_143 ?_
  obtain rfl := Option.some.inj hm
  exact hret _ _ _ _ hw rfl dX12_plainly_144
theorem mw_plainly_140 (fu : Nat) {res : Int32 × PF × PG} (C : mMC p R s m args c A v RX12 cX12_plainly 3 2 43) (hret : ∀ (H1 : Heap) (locs1 : List Loc) (ls1 : Array Slot) (pc : Nat), mMW s A v a res.2.1 res.2.2 H1 locs1 → narrow .int (.int res.1) = .int res.1 → decode cX12_plainly pc = .ok (.ireturn, 1) → W p l e R s m args below meth c H1 locs1 0 0 Q (F0 m pc ls1 [.int res.1])) (x1 : Int32) (z0 : Int32) (z1 : Int32) (F : PF) (G : PG) (hm : mb_plainly_140 fu x1 z0 z1 F G = some res) {H : Heap} {locs : List Loc} (hw : mMW s A v a F G H locs) {ls : Array Slot} (hl : lv_has ls 3 [(1, .int x1)]) : W p l e R s m args below meth c H locs 0 0 Q (F0 m 140 ls [.int z0, .int z1, .ref (a 71)]) := by
  have hx := C.1
  have hb := C.2.1
  unfold mb_plainly_140 at hm
  obtain ⟨hi, hm⟩ := ix_elim hm
  refine mas_71 C hw hi dX12_plainly_140 (fun H locs hw => ?_)
  exact mw_plainly_141 fu C hret x1 F (gup G 71 z1.toNatClampNeg z0) hm hw (lv_sub hl [0] rfl)
theorem mw_plainly_106 (fu : Nat) {res : Int32 × PF × PG} (C : mMC p R s m args c A v RX12 cX12_plainly 3 2 43) (hret : ∀ (H1 : Heap) (locs1 : List Loc) (ls1 : Array Slot) (pc : Nat), mMW s A v a res.2.1 res.2.2 H1 locs1 → narrow .int (.int res.1) = .int res.1 → decode cX12_plainly pc = .ok (.ireturn, 1) → W p l e R s m args below meth c H1 locs1 0 0 Q (F0 m pc ls1 [.int res.1])) (x1 : Int32) (x2 : Int32) (F : PF) (G : PG) (hm : mb_plainly_106 fu x1 x2 F G = some res) {H : Heap} {locs : List Loc} (hw : mMW s A v a F G H locs) {ls : Array Slot} (hl : lv_has ls 3 [(0, .ref (a 212)), (1, .int x1), (2, .int x2)]) : W p l e R s m args below meth c H locs 0 0 Q (F0 m 106 ls []) := by
  have hx := C.1
  have hb := C.2.1
  unfold mb_plainly_106 at hm
  refine lv_aload_n hx hb dX12_plainly_106 rfl (lv_at hl 0 rfl) ?_
  refine mg_X12_126 C hw dX12_plainly_107 ?_
  refine lv_aload_n hx hb dX12_plainly_110 rfl (lv_at hl 0 rfl) ?_
  refine mg_X12_497 C hw dX12_plainly_111 ?_
  refine lv_iconst (v := 1) hx hb dX12_plainly_114 (by decide) ?_
  refine lv_isub hx hb dX12_plainly_115 ?_
  refine lv_iload_n hx hb dX12_plainly_116 rfl (lv_at hl 2 rfl) ?_
  refine lv_aload_n hx hb dX12_plainly_117 rfl (lv_at hl 0 rfl) ?_
  refine mg_X12_126 C hw dX12_plainly_118 ?_
  refine lv_aload_n hx hb dX12_plainly_121 rfl (lv_at hl 0 rfl) ?_
  refine mg_X12_497 C hw dX12_plainly_122 ?_
  refine lv_iconst (v := 1) hx hb dX12_plainly_125 (by decide) ?_
  refine lv_isub hx hb dX12_plainly_126 ?_
  obtain ⟨hi, hm⟩ := ix_elim hm
  refine mal_71 C hw hi dX12_plainly_127 ?_
  refine lv_aload_n hx hb dX12_plainly_128 rfl (lv_at hl 0 rfl) ?_
  refine mg_X12_126 C hw dX12_plainly_129 ?_
  refine lv_aload_n hx hb dX12_plainly_132 rfl (lv_at hl 0 rfl) ?_
  refine mg_X12_497 C hw dX12_plainly_133 ?_
  obtain ⟨hi, hm⟩ := ix_elim hm
  refine mal_71 C hw hi dX12_plainly_136 ?_
  obtain ⟨⟨r1, F1, G1⟩, hc, hm⟩ := bind_elim hm
  refine mcallIS (n := 3) (As := [.int x2, .int (G 71 ((F 72) - (1 : Int32)).toNatClampNeg), .int (G 71 (F 72).toNatClampNeg)]) (rest := [.int ((F 72) - (1 : Int32)), .ref (a 71)]) C hw (mk_doing l v a _ fu x2 (G 71 ((F 72) - (1 : Int32)).toNatClampNeg) (G 71 (F 72).toNatClampNeg) F G r1 F1 G1 hc) mm_297 mm_298 mm_27 mm_299 (by decide +kernel) rfl (by omega) (by omega) hl.1 rfl (Nat.le_of_ble_eq_true rfl) dX12_plainly_137 (fun H locs hw => ?_)
  exact mw_plainly_140 fu C hret x1 r1 ((F 72) - (1 : Int32)) F1 G1 hm hw (lv_sub hl [1] rfl)
theorem mw_plainly_96 (fu : Nat) {res : Int32 × PF × PG} (C : mMC p R s m args c A v RX12 cX12_plainly 3 2 43) (hret : ∀ (H1 : Heap) (locs1 : List Loc) (ls1 : Array Slot) (pc : Nat), mMW s A v a res.2.1 res.2.2 H1 locs1 → narrow .int (.int res.1) = .int res.1 → decode cX12_plainly pc = .ok (.ireturn, 1) → W p l e R s m args below meth c H1 locs1 0 0 Q (F0 m pc ls1 [.int res.1])) (x1 : Int32) (x2 : Int32) (F : PF) (G : PG) (hm : mb_plainly_96 fu x1 x2 F G = some res) {H : Heap} {locs : List Loc} (hw : mMW s A v a F G H locs) {ls : Array Slot} (hl : lv_has ls 3 [(0, .ref (a 212)), (1, .int x1), (2, .int x2)]) : W p l e R s m args below meth c H locs 0 0 Q (F0 m 96 ls []) := by
  have hx := C.1
  have hb := C.2.1
  unfold mb_plainly_96 at hm
  refine lv_aload_n hx hb dX12_plainly_96 rfl (lv_at hl 0 rfl) ?_
  refine lv_dup hx hb dX12_plainly_97 rfl ?_
  refine mg_X12_497 C hw dX12_plainly_98 ?_
  refine lv_iconst (v := 1) hx hb dX12_plainly_101 (by decide) ?_
  refine lv_isub hx hb dX12_plainly_102 ?_
  refine mp_X12_497 C hw dX12_plainly_103 (fun H locs hw => ?_)
  exact mw_plainly_106 fu C hret x1 x2 (fup F 72 ((F 72) - (1 : Int32))) G hm hw (lv_sub hl [0, 1, 2] rfl)
theorem mw_plainly_171 (fu : Nat) {res : Int32 × PF × PG} (C : mMC p R s m args c A v RX12 cX12_plainly 3 2 43) (hret : ∀ (H1 : Heap) (locs1 : List Loc) (ls1 : Array Slot) (pc : Nat), mMW s A v a res.2.1 res.2.2 H1 locs1 → narrow .int (.int res.1) = .int res.1 → decode cX12_plainly pc = .ok (.ireturn, 1) → W p l e R s m args below meth c H1 locs1 0 0 Q (F0 m pc ls1 [.int res.1])) (x1 : Int32) (F : PF) (G : PG) (hm : mb_plainly_171 fu x1 F G = some res) {H : Heap} {locs : List Loc} (hw : mMW s A v a F G H locs) {ls : Array Slot} (hl : lv_has ls 3 [(1, .int x1)]) : W p l e R s m args below meth c H locs 0 0 Q (F0 m 171 ls []) := by
  have hx := C.1
  have hb := C.2.1
  unfold mb_plainly_171 at hm
  refine lv_iload_n hx hb dX12_plainly_171 rfl (lv_at hl 0 rfl) ?_
  refine lv_iconst (v := 1) hx hb dX12_plainly_172 (by decide) ?_
  refine lv_iadd hx hb dX12_plainly_173 ?_
  obtain rfl := Option.some.inj hm
  exact hret _ _ _ _ hw rfl dX12_plainly_174
theorem mw_plainly_170 (fu : Nat) {res : Int32 × PF × PG} (C : mMC p R s m args c A v RX12 cX12_plainly 3 2 43) (hret : ∀ (H1 : Heap) (locs1 : List Loc) (ls1 : Array Slot) (pc : Nat), mMW s A v a res.2.1 res.2.2 H1 locs1 → narrow .int (.int res.1) = .int res.1 → decode cX12_plainly pc = .ok (.ireturn, 1) → W p l e R s m args below meth c H1 locs1 0 0 Q (F0 m pc ls1 [.int res.1])) (x1 : Int32) (z0 : Int32) (z1 : Int32) (F : PF) (G : PG) (hm : mb_plainly_170 fu x1 z0 z1 F G = some res) {H : Heap} {locs : List Loc} (hw : mMW s A v a F G H locs) {ls : Array Slot} (hl : lv_has ls 3 [(1, .int x1)]) : W p l e R s m args below meth c H locs 0 0 Q (F0 m 170 ls [.int z0, .int z1, .ref (a 71)]) := by
  have hx := C.1
  have hb := C.2.1
  unfold mb_plainly_170 at hm
  obtain ⟨hi, hm⟩ := ix_elim hm
  refine mas_71 C hw hi dX12_plainly_170 (fun H locs hw => ?_)
  exact mw_plainly_171 fu C hret x1 F (gup G 71 z1.toNatClampNeg z0) hm hw (lv_sub hl [0] rfl)
theorem mw_plainly_145 (fu : Nat) {res : Int32 × PF × PG} (C : mMC p R s m args c A v RX12 cX12_plainly 3 2 43) (hret : ∀ (H1 : Heap) (locs1 : List Loc) (ls1 : Array Slot) (pc : Nat), mMW s A v a res.2.1 res.2.2 H1 locs1 → narrow .int (.int res.1) = .int res.1 → decode cX12_plainly pc = .ok (.ireturn, 1) → W p l e R s m args below meth c H1 locs1 0 0 Q (F0 m pc ls1 [.int res.1])) (x1 : Int32) (x2 : Int32) (F : PF) (G : PG) (hm : mb_plainly_145 fu x1 x2 F G = some res) {H : Heap} {locs : List Loc} (hw : mMW s A v a F G H locs) {ls : Array Slot} (hl : lv_has ls 3 [(0, .ref (a 212)), (1, .int x1), (2, .int x2)]) : W p l e R s m args below meth c H locs 0 0 Q (F0 m 145 ls []) := by
  have hx := C.1
  have hb := C.2.1
  unfold mb_plainly_145 at hm
  refine lv_aload_n hx hb dX12_plainly_145 rfl (lv_at hl 0 rfl) ?_
  refine mg_X12_126 C hw dX12_plainly_146 ?_
  refine lv_aload_n hx hb dX12_plainly_149 rfl (lv_at hl 0 rfl) ?_
  refine mg_X12_497 C hw dX12_plainly_150 ?_
  refine lv_iconst (v := 1) hx hb dX12_plainly_153 (by decide) ?_
  refine lv_isub hx hb dX12_plainly_154 ?_
  refine lv_iload_n hx hb dX12_plainly_155 rfl (lv_at hl 2 rfl) ?_
  refine lv_aload_n hx hb dX12_plainly_156 rfl (lv_at hl 0 rfl) ?_
  refine mg_X12_126 C hw dX12_plainly_157 ?_
  refine lv_aload_n hx hb dX12_plainly_160 rfl (lv_at hl 0 rfl) ?_
  refine mg_X12_497 C hw dX12_plainly_161 ?_
  refine lv_iconst (v := 1) hx hb dX12_plainly_164 (by decide) ?_
  refine lv_isub hx hb dX12_plainly_165 ?_
  obtain ⟨hi, hm⟩ := ix_elim hm
  refine mal_71 C hw hi dX12_plainly_166 ?_
  obtain ⟨⟨r1, F1, G1⟩, hc, hm⟩ := bind_elim hm
  refine mcallIS (n := 2) (As := [.int x2, .int (G 71 ((F 72) - (1 : Int32)).toNatClampNeg)]) (rest := [.int ((F 72) - (1 : Int32)), .ref (a 71)]) C hw (mk_alone l v a _ fu x2 (G 71 ((F 72) - (1 : Int32)).toNatClampNeg) F G r1 F1 G1 hc) mm_307 mm_308 mm_27 mm_309 (by decide +kernel) rfl (by omega) (by omega) hl.1 rfl (Nat.le_of_ble_eq_true rfl) dX12_plainly_167 (fun H locs hw => ?_)
  exact mw_plainly_170 fu C hret x1 r1 ((F 72) - (1 : Int32)) F1 G1 hm hw (lv_sub hl [1] rfl)
theorem mw_plainly_205 (fu : Nat) {res : Int32 × PF × PG} (C : mMC p R s m args c A v RX12 cX12_plainly 3 2 43) (hret : ∀ (H1 : Heap) (locs1 : List Loc) (ls1 : Array Slot) (pc : Nat), mMW s A v a res.2.1 res.2.2 H1 locs1 → narrow .int (.int res.1) = .int res.1 → decode cX12_plainly pc = .ok (.ireturn, 1) → W p l e R s m args below meth c H1 locs1 0 0 Q (F0 m pc ls1 [.int res.1])) (x1 : Int32) (F : PF) (G : PG) (hm : mb_plainly_205 fu x1 F G = some res) {H : Heap} {locs : List Loc} (hw : mMW s A v a F G H locs) {ls : Array Slot} (hl : lv_has ls 3 [(1, .int x1)]) : W p l e R s m args below meth c H locs 0 0 Q (F0 m 205 ls []) := by
  have hx := C.1
  have hb := C.2.1
  unfold mb_plainly_205 at hm
  refine lv_iload_n hx hb dX12_plainly_205 rfl (lv_at hl 0 rfl) ?_
  refine lv_iconst (v := 1) hx hb dX12_plainly_206 (by decide) ?_
  refine lv_iadd hx hb dX12_plainly_207 ?_
  obtain rfl := Option.some.inj hm
  exact hret _ _ _ _ hw rfl dX12_plainly_208
theorem mw_plainly_204 (fu : Nat) {res : Int32 × PF × PG} (C : mMC p R s m args c A v RX12 cX12_plainly 3 2 43) (hret : ∀ (H1 : Heap) (locs1 : List Loc) (ls1 : Array Slot) (pc : Nat), mMW s A v a res.2.1 res.2.2 H1 locs1 → narrow .int (.int res.1) = .int res.1 → decode cX12_plainly pc = .ok (.ireturn, 1) → W p l e R s m args below meth c H1 locs1 0 0 Q (F0 m pc ls1 [.int res.1])) (x1 : Int32) (z0 : Int32) (z1 : Int32) (F : PF) (G : PG) (hm : mb_plainly_204 fu x1 z0 z1 F G = some res) {H : Heap} {locs : List Loc} (hw : mMW s A v a F G H locs) {ls : Array Slot} (hl : lv_has ls 3 [(1, .int x1)]) : W p l e R s m args below meth c H locs 0 0 Q (F0 m 204 ls [.int z0, .int z1, .ref (a 71)]) := by
  have hx := C.1
  have hb := C.2.1
  unfold mb_plainly_204 at hm
  obtain ⟨hi, hm⟩ := ix_elim hm
  refine mas_71 C hw hi dX12_plainly_204 (fun H locs hw => ?_)
  exact mw_plainly_205 fu C hret x1 F (gup G 71 z1.toNatClampNeg z0) hm hw (lv_sub hl [0] rfl)
theorem mw_plainly_203 (fu : Nat) {res : Int32 × PF × PG} (C : mMC p R s m args c A v RX12 cX12_plainly 3 2 43) (hret : ∀ (H1 : Heap) (locs1 : List Loc) (ls1 : Array Slot) (pc : Nat), mMW s A v a res.2.1 res.2.2 H1 locs1 → narrow .int (.int res.1) = .int res.1 → decode cX12_plainly pc = .ok (.ireturn, 1) → W p l e R s m args below meth c H1 locs1 0 0 Q (F0 m pc ls1 [.int res.1])) (x1 : Int32) (z0 : Int32) (F : PF) (G : PG) (hm : mb_plainly_203 fu x1 z0 F G = some res) {H : Heap} {locs : List Loc} (hw : mMW s A v a F G H locs) {ls : Array Slot} (hl : lv_has ls 3 [(1, .int x1)]) : W p l e R s m args below meth c H locs 0 0 Q (F0 m 203 ls [.int z0, .ref (a 71)]) := by
  have hx := C.1
  have hb := C.2.1
  unfold mb_plainly_203 at hm
  refine lv_iconst (v := 0) hx hb dX12_plainly_203 (by decide) ?_
  exact mw_plainly_204 fu C hret x1 0 z0 F G hm hw (lv_sub hl [0] rfl)
theorem mw_plainly_199 (fu : Nat) {res : Int32 × PF × PG} (C : mMC p R s m args c A v RX12 cX12_plainly 3 2 43) (hret : ∀ (H1 : Heap) (locs1 : List Loc) (ls1 : Array Slot) (pc : Nat), mMW s A v a res.2.1 res.2.2 H1 locs1 → narrow .int (.int res.1) = .int res.1 → decode cX12_plainly pc = .ok (.ireturn, 1) → W p l e R s m args below meth c H1 locs1 0 0 Q (F0 m pc ls1 [.int res.1])) (x1 : Int32) (z0 : Int32) (F : PF) (G : PG) (hm : mb_plainly_199 fu x1 z0 F G = some res) {H : Heap} {locs : List Loc} (hw : mMW s A v a F G H locs) {ls : Array Slot} (hl : lv_has ls 3 [(1, .int x1)]) : W p l e R s m args below meth c H locs 0 0 Q (F0 m 199 ls [.int z0, .ref (a 71)]) := by
  have hx := C.1
  have hb := C.2.1
  unfold mb_plainly_199 at hm
  refine lv_iconst (v := 1) hx hb dX12_plainly_199 (by decide) ?_
  refine lv_goto (tgt := 204) hx hb dX12_plainly_200 (by decide) ?_
  exact mw_plainly_204 fu C hret x1 1 z0 F G hm hw (lv_sub hl [0] rfl)
theorem mw_plainly_175 (fu : Nat) {res : Int32 × PF × PG} (C : mMC p R s m args c A v RX12 cX12_plainly 3 2 43) (hret : ∀ (H1 : Heap) (locs1 : List Loc) (ls1 : Array Slot) (pc : Nat), mMW s A v a res.2.1 res.2.2 H1 locs1 → narrow .int (.int res.1) = .int res.1 → decode cX12_plainly pc = .ok (.ireturn, 1) → W p l e R s m args below meth c H1 locs1 0 0 Q (F0 m pc ls1 [.int res.1])) (x1 : Int32) (F : PF) (G : PG) (hm : mb_plainly_175 fu x1 F G = some res) {H : Heap} {locs : List Loc} (hw : mMW s A v a F G H locs) {ls : Array Slot} (hl : lv_has ls 3 [(0, .ref (a 212)), (1, .int x1)]) : W p l e R s m args below meth c H locs 0 0 Q (F0 m 175 ls []) := by
  have hx := C.1
  have hb := C.2.1
  unfold mb_plainly_175 at hm
  refine lv_aload_n hx hb dX12_plainly_175 rfl (lv_at hl 0 rfl) ?_
  refine mg_X12_126 C hw dX12_plainly_176 ?_
  refine lv_aload_n hx hb dX12_plainly_179 rfl (lv_at hl 0 rfl) ?_
  refine mg_X12_497 C hw dX12_plainly_180 ?_
  refine lv_iconst (v := 1) hx hb dX12_plainly_183 (by decide) ?_
  refine lv_isub hx hb dX12_plainly_184 ?_
  refine lv_aload_n hx hb dX12_plainly_185 rfl (lv_at hl 0 rfl) ?_
  refine mg_X12_126 C hw dX12_plainly_186 ?_
  refine lv_aload_n hx hb dX12_plainly_189 rfl (lv_at hl 0 rfl) ?_
  refine mg_X12_497 C hw dX12_plainly_190 ?_
  refine lv_iconst (v := 1) hx hb dX12_plainly_193 (by decide) ?_
  refine lv_isub hx hb dX12_plainly_194 ?_
  obtain ⟨hi, hm⟩ := ix_elim hm
  refine mal_71 C hw hi dX12_plainly_195 ?_
  refine lv_if_eq (tgt := 203) hx hb dX12_plainly_196 (by decide) (fun c_1 => ?_) (fun c_1 => ?_)
  · have hm := (if_pos c_1).symm.trans hm
    exact mw_plainly_203 fu C hret x1 ((F 72) - (1 : Int32)) F G hm hw (lv_sub hl [1] rfl)
  · have hm := (if_neg c_1).symm.trans hm
    exact mw_plainly_199 fu C hret x1 ((F 72) - (1 : Int32)) F G hm hw (lv_sub hl [1] rfl)
theorem mw_plainly_209 (fu : Nat) {res : Int32 × PF × PG} (C : mMC p R s m args c A v RX12 cX12_plainly 3 2 43) (hret : ∀ (H1 : Heap) (locs1 : List Loc) (ls1 : Array Slot) (pc : Nat), mMW s A v a res.2.1 res.2.2 H1 locs1 → narrow .int (.int res.1) = .int res.1 → decode cX12_plainly pc = .ok (.ireturn, 1) → W p l e R s m args below meth c H1 locs1 0 0 Q (F0 m pc ls1 [.int res.1])) (x2 : Int32) (F : PF) (G : PG) (hm : mb_plainly_209 fu x2 F G = some res) {H : Heap} {locs : List Loc} (hw : mMW s A v a F G H locs) {ls : Array Slot} (hl : lv_has ls 3 [(2, .int x2)]) : W p l e R s m args below meth c H locs 0 0 Q (F0 m 209 ls []) := by
  have hx := C.1
  have hb := C.2.1
  unfold mb_plainly_209 at hm
  refine lv_iload_n hx hb dX12_plainly_209 rfl (lv_at hl 0 rfl) ?_
  obtain rfl := Option.some.inj hm
  exact hret _ _ _ _ hw rfl dX12_plainly_210
theorem mw_plainly_240 (fu : Nat) {res : Int32 × PF × PG} (C : mMC p R s m args c A v RX12 cX12_plainly 3 2 43) (hret : ∀ (H1 : Heap) (locs1 : List Loc) (ls1 : Array Slot) (pc : Nat), mMW s A v a res.2.1 res.2.2 H1 locs1 → narrow .int (.int res.1) = .int res.1 → decode cX12_plainly pc = .ok (.ireturn, 1) → W p l e R s m args below meth c H1 locs1 0 0 Q (F0 m pc ls1 [.int res.1])) (z0 : Int32) (F : PF) (G : PG) (hm : mb_plainly_240 fu z0 F G = some res) {H : Heap} {locs : List Loc} (hw : mMW s A v a F G H locs) {ls : Array Slot} (hl : lv_has ls 3 []) : W p l e R s m args below meth c H locs 0 0 Q (F0 m 240 ls [.int z0]) := by
  have hx := C.1
  have hb := C.2.1
  unfold mb_plainly_240 at hm
  obtain rfl := Option.some.inj hm
  exact hret _ _ _ _ hw rfl dX12_plainly_240
theorem mw_plainly_237 (fu : Nat) {res : Int32 × PF × PG} (C : mMC p R s m args c A v RX12 cX12_plainly 3 2 43) (hret : ∀ (H1 : Heap) (locs1 : List Loc) (ls1 : Array Slot) (pc : Nat), mMW s A v a res.2.1 res.2.2 H1 locs1 → narrow .int (.int res.1) = .int res.1 → decode cX12_plainly pc = .ok (.ireturn, 1) → W p l e R s m args below meth c H1 locs1 0 0 Q (F0 m pc ls1 [.int res.1])) (x1 : Int32) (F : PF) (G : PG) (hm : mb_plainly_237 fu x1 F G = some res) {H : Heap} {locs : List Loc} (hw : mMW s A v a F G H locs) {ls : Array Slot} (hl : lv_has ls 3 [(1, .int x1)]) : W p l e R s m args below meth c H locs 0 0 Q (F0 m 237 ls []) := by
  have hx := C.1
  have hb := C.2.1
  unfold mb_plainly_237 at hm
  refine lv_iload_n hx hb dX12_plainly_237 rfl (lv_at hl 0 rfl) ?_
  refine lv_iconst (v := 1) hx hb dX12_plainly_238 (by decide) ?_
  refine lv_iadd hx hb dX12_plainly_239 ?_
  exact mw_plainly_240 fu C hret (x1 + (1 : Int32)) F G hm hw (lv_sub hl [] rfl)
theorem mw_plainly_233 (fu : Nat) {res : Int32 × PF × PG} (C : mMC p R s m args c A v RX12 cX12_plainly 3 2 43) (hret : ∀ (H1 : Heap) (locs1 : List Loc) (ls1 : Array Slot) (pc : Nat), mMW s A v a res.2.1 res.2.2 H1 locs1 → narrow .int (.int res.1) = .int res.1 → decode cX12_plainly pc = .ok (.ireturn, 1) → W p l e R s m args below meth c H1 locs1 0 0 Q (F0 m pc ls1 [.int res.1])) (x2 : Int32) (F : PF) (G : PG) (hm : mb_plainly_233 fu x2 F G = some res) {H : Heap} {locs : List Loc} (hw : mMW s A v a F G H locs) {ls : Array Slot} (hl : lv_has ls 3 [(2, .int x2)]) : W p l e R s m args below meth c H locs 0 0 Q (F0 m 233 ls []) := by
  have hx := C.1
  have hb := C.2.1
  unfold mb_plainly_233 at hm
  refine lv_iload_n hx hb dX12_plainly_233 rfl (lv_at hl 0 rfl) ?_
  refine lv_goto (tgt := 240) hx hb dX12_plainly_234 (by decide) ?_
  exact mw_plainly_240 fu C hret x2 F G hm hw (lv_sub hl [] rfl)
theorem mw_plainly_221 (fu : Nat) {res : Int32 × PF × PG} (C : mMC p R s m args c A v RX12 cX12_plainly 3 2 43) (hret : ∀ (H1 : Heap) (locs1 : List Loc) (ls1 : Array Slot) (pc : Nat), mMW s A v a res.2.1 res.2.2 H1 locs1 → narrow .int (.int res.1) = .int res.1 → decode cX12_plainly pc = .ok (.ireturn, 1) → W p l e R s m args below meth c H1 locs1 0 0 Q (F0 m pc ls1 [.int res.1])) (x1 : Int32) (x2 : Int32) (F : PF) (G : PG) (hm : mb_plainly_221 fu x1 x2 F G = some res) {H : Heap} {locs : List Loc} (hw : mMW s A v a F G H locs) {ls : Array Slot} (hl : lv_has ls 3 [(0, .ref (a 212)), (1, .int x1), (2, .int x2)]) : W p l e R s m args below meth c H locs 0 0 Q (F0 m 221 ls []) := by
  have hx := C.1
  have hb := C.2.1
  unfold mb_plainly_221 at hm
  refine lv_aload_n hx hb dX12_plainly_221 rfl (lv_at hl 0 rfl) ?_
  refine mg_X12_126 C hw dX12_plainly_222 ?_
  refine lv_aload_n hx hb dX12_plainly_225 rfl (lv_at hl 0 rfl) ?_
  refine mg_X12_497 C hw dX12_plainly_226 ?_
  obtain ⟨hi, hm⟩ := ix_elim hm
  refine mal_71 C hw hi dX12_plainly_229 ?_
  refine lv_if_eq (tgt := 237) hx hb dX12_plainly_230 (by decide) (fun c_1 => ?_) (fun c_1 => ?_)
  · have hm := (if_pos c_1).symm.trans hm
    exact mw_plainly_237 fu C hret x1 F G hm hw (lv_sub hl [1] rfl)
  · have hm := (if_neg c_1).symm.trans hm
    exact mw_plainly_233 fu C hret x2 F G hm hw (lv_sub hl [2] rfl)
theorem mw_plainly_211 (fu : Nat) {res : Int32 × PF × PG} (C : mMC p R s m args c A v RX12 cX12_plainly 3 2 43) (hret : ∀ (H1 : Heap) (locs1 : List Loc) (ls1 : Array Slot) (pc : Nat), mMW s A v a res.2.1 res.2.2 H1 locs1 → narrow .int (.int res.1) = .int res.1 → decode cX12_plainly pc = .ok (.ireturn, 1) → W p l e R s m args below meth c H1 locs1 0 0 Q (F0 m pc ls1 [.int res.1])) (x1 : Int32) (x2 : Int32) (F : PF) (G : PG) (hm : mb_plainly_211 fu x1 x2 F G = some res) {H : Heap} {locs : List Loc} (hw : mMW s A v a F G H locs) {ls : Array Slot} (hl : lv_has ls 3 [(0, .ref (a 212)), (1, .int x1), (2, .int x2)]) : W p l e R s m args below meth c H locs 0 0 Q (F0 m 211 ls []) := by
  have hx := C.1
  have hb := C.2.1
  unfold mb_plainly_211 at hm
  refine lv_aload_n hx hb dX12_plainly_211 rfl (lv_at hl 0 rfl) ?_
  refine lv_dup hx hb dX12_plainly_212 rfl ?_
  refine mg_X12_497 C hw dX12_plainly_213 ?_
  refine lv_iconst (v := 1) hx hb dX12_plainly_216 (by decide) ?_
  refine lv_isub hx hb dX12_plainly_217 ?_
  refine mp_X12_497 C hw dX12_plainly_218 (fun H locs hw => ?_)
  exact mw_plainly_221 fu C hret x1 x2 (fup F 72 ((F 72) - (1 : Int32))) G hm hw (lv_sub hl [0, 1, 2] rfl)
theorem mw_plainly_270 (fu : Nat) {res : Int32 × PF × PG} (C : mMC p R s m args c A v RX12 cX12_plainly 3 2 43) (hret : ∀ (H1 : Heap) (locs1 : List Loc) (ls1 : Array Slot) (pc : Nat), mMW s A v a res.2.1 res.2.2 H1 locs1 → narrow .int (.int res.1) = .int res.1 → decode cX12_plainly pc = .ok (.ireturn, 1) → W p l e R s m args below meth c H1 locs1 0 0 Q (F0 m pc ls1 [.int res.1])) (z0 : Int32) (F : PF) (G : PG) (hm : mb_plainly_270 fu z0 F G = some res) {H : Heap} {locs : List Loc} (hw : mMW s A v a F G H locs) {ls : Array Slot} (hl : lv_has ls 3 []) : W p l e R s m args below meth c H locs 0 0 Q (F0 m 270 ls [.int z0]) := by
  have hx := C.1
  have hb := C.2.1
  unfold mb_plainly_270 at hm
  obtain rfl := Option.some.inj hm
  exact hret _ _ _ _ hw rfl dX12_plainly_270
theorem mw_plainly_267 (fu : Nat) {res : Int32 × PF × PG} (C : mMC p R s m args c A v RX12 cX12_plainly 3 2 43) (hret : ∀ (H1 : Heap) (locs1 : List Loc) (ls1 : Array Slot) (pc : Nat), mMW s A v a res.2.1 res.2.2 H1 locs1 → narrow .int (.int res.1) = .int res.1 → decode cX12_plainly pc = .ok (.ireturn, 1) → W p l e R s m args below meth c H1 locs1 0 0 Q (F0 m pc ls1 [.int res.1])) (x1 : Int32) (F : PF) (G : PG) (hm : mb_plainly_267 fu x1 F G = some res) {H : Heap} {locs : List Loc} (hw : mMW s A v a F G H locs) {ls : Array Slot} (hl : lv_has ls 3 [(1, .int x1)]) : W p l e R s m args below meth c H locs 0 0 Q (F0 m 267 ls []) := by
  have hx := C.1
  have hb := C.2.1
  unfold mb_plainly_267 at hm
  refine lv_iload_n hx hb dX12_plainly_267 rfl (lv_at hl 0 rfl) ?_
  refine lv_iconst (v := 1) hx hb dX12_plainly_268 (by decide) ?_
  refine lv_iadd hx hb dX12_plainly_269 ?_
  exact mw_plainly_270 fu C hret (x1 + (1 : Int32)) F G hm hw (lv_sub hl [] rfl)
theorem mw_plainly_263 (fu : Nat) {res : Int32 × PF × PG} (C : mMC p R s m args c A v RX12 cX12_plainly 3 2 43) (hret : ∀ (H1 : Heap) (locs1 : List Loc) (ls1 : Array Slot) (pc : Nat), mMW s A v a res.2.1 res.2.2 H1 locs1 → narrow .int (.int res.1) = .int res.1 → decode cX12_plainly pc = .ok (.ireturn, 1) → W p l e R s m args below meth c H1 locs1 0 0 Q (F0 m pc ls1 [.int res.1])) (x2 : Int32) (F : PF) (G : PG) (hm : mb_plainly_263 fu x2 F G = some res) {H : Heap} {locs : List Loc} (hw : mMW s A v a F G H locs) {ls : Array Slot} (hl : lv_has ls 3 [(2, .int x2)]) : W p l e R s m args below meth c H locs 0 0 Q (F0 m 263 ls []) := by
  have hx := C.1
  have hb := C.2.1
  unfold mb_plainly_263 at hm
  refine lv_iload_n hx hb dX12_plainly_263 rfl (lv_at hl 0 rfl) ?_
  refine lv_goto (tgt := 270) hx hb dX12_plainly_264 (by decide) ?_
  exact mw_plainly_270 fu C hret x2 F G hm hw (lv_sub hl [] rfl)
theorem mw_plainly_251 (fu : Nat) {res : Int32 × PF × PG} (C : mMC p R s m args c A v RX12 cX12_plainly 3 2 43) (hret : ∀ (H1 : Heap) (locs1 : List Loc) (ls1 : Array Slot) (pc : Nat), mMW s A v a res.2.1 res.2.2 H1 locs1 → narrow .int (.int res.1) = .int res.1 → decode cX12_plainly pc = .ok (.ireturn, 1) → W p l e R s m args below meth c H1 locs1 0 0 Q (F0 m pc ls1 [.int res.1])) (x1 : Int32) (x2 : Int32) (F : PF) (G : PG) (hm : mb_plainly_251 fu x1 x2 F G = some res) {H : Heap} {locs : List Loc} (hw : mMW s A v a F G H locs) {ls : Array Slot} (hl : lv_has ls 3 [(0, .ref (a 212)), (1, .int x1), (2, .int x2)]) : W p l e R s m args below meth c H locs 0 0 Q (F0 m 251 ls []) := by
  have hx := C.1
  have hb := C.2.1
  unfold mb_plainly_251 at hm
  refine lv_aload_n hx hb dX12_plainly_251 rfl (lv_at hl 0 rfl) ?_
  refine mg_X12_126 C hw dX12_plainly_252 ?_
  refine lv_aload_n hx hb dX12_plainly_255 rfl (lv_at hl 0 rfl) ?_
  refine mg_X12_497 C hw dX12_plainly_256 ?_
  obtain ⟨hi, hm⟩ := ix_elim hm
  refine mal_71 C hw hi dX12_plainly_259 ?_
  refine lv_if_ne (tgt := 267) hx hb dX12_plainly_260 (by decide) (fun c_1 => ?_) (fun c_1 => ?_)
  · have hm := (if_neg c_1).symm.trans hm
    exact mw_plainly_267 fu C hret x1 F G hm hw (lv_sub hl [1] rfl)
  · have hm := (if_pos c_1).symm.trans hm
    exact mw_plainly_263 fu C hret x2 F G hm hw (lv_sub hl [2] rfl)
theorem mw_plainly_241 (fu : Nat) {res : Int32 × PF × PG} (C : mMC p R s m args c A v RX12 cX12_plainly 3 2 43) (hret : ∀ (H1 : Heap) (locs1 : List Loc) (ls1 : Array Slot) (pc : Nat), mMW s A v a res.2.1 res.2.2 H1 locs1 → narrow .int (.int res.1) = .int res.1 → decode cX12_plainly pc = .ok (.ireturn, 1) → W p l e R s m args below meth c H1 locs1 0 0 Q (F0 m pc ls1 [.int res.1])) (x1 : Int32) (x2 : Int32) (F : PF) (G : PG) (hm : mb_plainly_241 fu x1 x2 F G = some res) {H : Heap} {locs : List Loc} (hw : mMW s A v a F G H locs) {ls : Array Slot} (hl : lv_has ls 3 [(0, .ref (a 212)), (1, .int x1), (2, .int x2)]) : W p l e R s m args below meth c H locs 0 0 Q (F0 m 241 ls []) := by
  have hx := C.1
  have hb := C.2.1
  unfold mb_plainly_241 at hm
  refine lv_aload_n hx hb dX12_plainly_241 rfl (lv_at hl 0 rfl) ?_
  refine lv_dup hx hb dX12_plainly_242 rfl ?_
  refine mg_X12_497 C hw dX12_plainly_243 ?_
  refine lv_iconst (v := 1) hx hb dX12_plainly_246 (by decide) ?_
  refine lv_isub hx hb dX12_plainly_247 ?_
  refine mp_X12_497 C hw dX12_plainly_248 (fun H locs hw => ?_)
  exact mw_plainly_251 fu C hret x1 x2 (fup F 72 ((F 72) - (1 : Int32))) G hm hw (lv_sub hl [0, 1, 2] rfl)
theorem mw_plainly_0 (fu : Nat) {res : Int32 × PF × PG} (C : mMC p R s m args c A v RX12 cX12_plainly 3 2 43) (hret : ∀ (H1 : Heap) (locs1 : List Loc) (ls1 : Array Slot) (pc : Nat), mMW s A v a res.2.1 res.2.2 H1 locs1 → narrow .int (.int res.1) = .int res.1 → decode cX12_plainly pc = .ok (.ireturn, 1) → W p l e R s m args below meth c H1 locs1 0 0 Q (F0 m pc ls1 [.int res.1])) (x1 : Int32) (F : PF) (G : PG) (hm : mb_plainly_0 fu x1 F G = some res) {H : Heap} {locs : List Loc} (hw : mMW s A v a F G H locs) {ls : Array Slot} (hl : lv_has ls 3 [(0, .ref (a 212)), (1, .int x1)]) : W p l e R s m args below meth c H locs 0 0 Q (F0 m 0 ls []) := by
  have hx := C.1
  have hb := C.2.1
  unfold mb_plainly_0 at hm
  refine lv_aload_n hx hb dX12_plainly_0 rfl (lv_at hl 0 rfl) ?_
  refine mg_X12_107 C hw dX12_plainly_1 ?_
  refine lv_iload_n hx hb dX12_plainly_4 rfl (lv_at hl 1 rfl) ?_
  obtain ⟨hi, hm⟩ := ix_elim hm
  refine mal_57 C hw hi dX12_plainly_5 ?_
  refine lv_istore_n (lv' := [(2, .int (G 57 x1.toNatClampNeg)), (0, .ref (a 212)), (1, .int x1)]) hx hb dX12_plainly_6 rfl hl (by decide) rfl (fun ls hl => ?_)
  refine lv_aload_n hx hb dX12_plainly_7 rfl (lv_at hl 1 rfl) ?_
  refine mg_X12_104 C hw dX12_plainly_8 ?_
  refine lv_iload_n hx hb dX12_plainly_11 rfl (lv_at hl 2 rfl) ?_
  obtain ⟨hi, hm⟩ := ix_elim hm
  refine mal_56 C hw hi dX12_plainly_12 ?_
  by_cases c_1 : (G 56 x1.toNatClampNeg) = 0
  · have hm := (if_pos c_1).symm.trans hm
    refine my_top 0 c_1 ?_
    refine lv_lookup (off := 59) (tgt := 72) hx hb dX12_plainly_13 (by decide) (by decide) (by decide) ?_
    exact mw_plainly_72 fu C hret x1 (G 57 x1.toNatClampNeg) F G hm hw (lv_sub hl [1, 2, 0] rfl)
  have hm := (if_neg c_1).symm.trans hm
  have n_0 := c_1
  clear c_1
  by_cases c_1 : (G 56 x1.toNatClampNeg) = 10
  · have hm := (if_pos c_1).symm.trans hm
    refine my_top 10 c_1 ?_
    refine lv_lookup (off := 83) (tgt := 96) hx hb dX12_plainly_13 (by decide) (by decide) (by decide) ?_
    exact mw_plainly_96 fu C hret x1 (G 57 x1.toNatClampNeg) F G hm hw (lv_sub hl [1, 2, 0] rfl)
  have hm := (if_neg c_1).symm.trans hm
  have n_1 := c_1
  clear c_1
  by_cases c_1 : (G 56 x1.toNatClampNeg) = 11
  · have hm := (if_pos c_1).symm.trans hm
    refine my_top 11 c_1 ?_
    refine lv_lookup (off := 132) (tgt := 145) hx hb dX12_plainly_13 (by decide) (by decide) (by decide) ?_
    exact mw_plainly_145 fu C hret x1 (G 57 x1.toNatClampNeg) F G hm hw (lv_sub hl [1, 2, 0] rfl)
  have hm := (if_neg c_1).symm.trans hm
  have n_2 := c_1
  clear c_1
  by_cases c_1 : (G 56 x1.toNatClampNeg) = 12
  · have hm := (if_pos c_1).symm.trans hm
    refine my_top 12 c_1 ?_
    refine lv_lookup (off := 196) (tgt := 209) hx hb dX12_plainly_13 (by decide) (by decide) (by decide) ?_
    exact mw_plainly_209 fu C hret (G 57 x1.toNatClampNeg) F G hm hw (lv_sub hl [0] rfl)
  have hm := (if_neg c_1).symm.trans hm
  have n_3 := c_1
  clear c_1
  by_cases c_1 : (G 56 x1.toNatClampNeg) = 14
  · have hm := (if_pos c_1).symm.trans hm
    refine my_top 14 c_1 ?_
    refine lv_lookup (off := 198) (tgt := 211) hx hb dX12_plainly_13 (by decide) (by decide) (by decide) ?_
    exact mw_plainly_211 fu C hret x1 (G 57 x1.toNatClampNeg) F G hm hw (lv_sub hl [1, 2, 0] rfl)
  have hm := (if_neg c_1).symm.trans hm
  have n_4 := c_1
  clear c_1
  by_cases c_1 : (G 56 x1.toNatClampNeg) = 23
  · have hm := (if_pos c_1).symm.trans hm
    refine my_top 23 c_1 ?_
    refine lv_lookup (off := 162) (tgt := 175) hx hb dX12_plainly_13 (by decide) (by decide) (by decide) ?_
    exact mw_plainly_175 fu C hret x1 F G hm hw (lv_sub hl [1, 2] rfl)
  have hm := (if_neg c_1).symm.trans hm
  have n_5 := c_1
  clear c_1
  refine lv_lookup (off := 228) (tgt := 241) hx hb dX12_plainly_13 (by decide) ((lv_osw n_0 (by decide)).trans ((lv_osw n_1 (by decide)).trans ((lv_osw n_2 (by decide)).trans ((lv_osw n_3 (by decide)).trans ((lv_osw n_4 (by decide)).trans ((lv_osw n_5 (by decide)).trans (rfl))))))) (by decide) ?_
  exact mw_plainly_241 fu C hret x1 (G 57 x1.toNatClampNeg) F G hm hw (lv_sub hl [1, 2, 0] rfl)
theorem mk_plainly (l : Launch) (v : EV) (a : Nat → Nat) (sz : Nat) (fu : Nat) (x1 : Int32) (F : PF) (G : PG) (r : Int32) (F1 : PF) (G1 : PG) (hm : mf_plainly fu x1 F G = some (r, F1, G1)) : mMI l yX12_plainly cX12_plainly 3 (some .int) 2 43 v a sz [.ref (a 212), .int x1] F G r F1 G1 := mMI.of (ty := .int) (by decide) rfl (Nat.le_of_ble_eq_true rfl) (fun p e R s m args below meth c Q A H locs ls C hw hl hret => mw_plainly_0 fu (res := (r, F1, G1)) C hret x1 F G hm hw hl)
def mb_reckon_24 (fu : Nat) (F : PF) (G : PG) : PR := if ixb (0 : Int32) 280000 = true then (some ((G 71 (0 : Int32).toNatClampNeg), F, G)) else none
def mb_reckon_20 (fu : Nat) (ag_7 : Int32 → PF → PG → PR) (z0 : Int32) (F : PF) (G : PG) : PR := ag_7 z0 F G
def mb_reckon_15 (fu : Nat) (ag_7 : Int32 → PF → PG → PR) (x2 : Int32) (F : PF) (G : PG) : PR := (mf_plainly fu x2 F G).bind (fun q => mb_reckon_20 fu ag_7 q.1 q.2.1 q.2.2)
def mb_reckon_7 (fu : Nat) (ag_7 : Int32 → PF → PG → PR) (x2 : Int32) (F : PF) (G : PG) : PR := if (F 60) ≤ x2 then mb_reckon_24 fu F G else mb_reckon_15 fu ag_7 x2 F G
def ml_reckon_7 (fu : Nat) : Nat → Int32 → PF → PG → PR
  | 0 => fun _ _ _ => none
  | n + 1 => fun x2 F G => mb_reckon_7 fu (ml_reckon_7 fu n) x2 F G
def mb_reckon_5 (fu : Nat) (x1 : Int32) (F : PF) (G : PG) : PR := ml_reckon_7 fu fu x1 F G
def mb_reckon_0 (fu : Nat) (x1 : Int32) (F : PF) (G : PG) : PR := mb_reckon_5 fu x1 (fup F 72 (0 : Int32)) G
def mf_reckon (fu : Nat) (x1 : Int32) (F : PF) (G : PG) : PR := mb_reckon_0 fu x1 F G
theorem mw_reckon_24 (fu : Nat) {res : Int32 × PF × PG} (C : mMC p R s m args c A v RX12 cX12_reckon 3 3 65) (hret : ∀ (H1 : Heap) (locs1 : List Loc) (ls1 : Array Slot) (pc : Nat), mMW s A v a res.2.1 res.2.2 H1 locs1 → narrow .int (.int res.1) = .int res.1 → decode cX12_reckon pc = .ok (.ireturn, 1) → W p l e R s m args below meth c H1 locs1 0 0 Q (F0 m pc ls1 [.int res.1])) (F : PF) (G : PG) (hm : mb_reckon_24 fu F G = some res) {H : Heap} {locs : List Loc} (hw : mMW s A v a F G H locs) {ls : Array Slot} (hl : lv_has ls 3 [(0, .ref (a 212))]) : W p l e R s m args below meth c H locs 0 0 Q (F0 m 24 ls []) := by
  have hx := C.1
  have hb := C.2.1
  unfold mb_reckon_24 at hm
  refine lv_aload_n hx hb dX12_reckon_24 rfl (lv_at hl 0 rfl) ?_
  refine mg_X12_126 C hw dX12_reckon_25 ?_
  refine lv_iconst (v := 0) hx hb dX12_reckon_28 (by decide) ?_
  obtain ⟨hi, hm⟩ := ix_elim hm
  refine mal_71 C hw hi dX12_reckon_29 ?_
  obtain rfl := Option.some.inj hm
  exact hret _ _ _ _ hw rfl dX12_reckon_30
theorem mw_reckon_20 (fu : Nat) {res : Int32 × PF × PG} (C : mMC p R s m args c A v RX12 cX12_reckon 3 3 65) (hret : ∀ (H1 : Heap) (locs1 : List Loc) (ls1 : Array Slot) (pc : Nat), mMW s A v a res.2.1 res.2.2 H1 locs1 → narrow .int (.int res.1) = .int res.1 → decode cX12_reckon pc = .ok (.ireturn, 1) → W p l e R s m args below meth c H1 locs1 0 0 Q (F0 m pc ls1 [.int res.1])) (ag_7 : Int32 → PF → PG → PR) (hag_7 : ∀ (x2 : Int32) (F : PF) (G : PG), ag_7 x2 F G = some res → ∀ (H : Heap) (locs : List Loc) (ls : Array Slot), mMW s A v a F G H locs → lv_has ls 3 [(0, .ref (a 212)), (2, .int x2)] → W p l e R s m args below meth c H locs 0 0 Q (F0 m 7 ls [])) (z0 : Int32) (F : PF) (G : PG) (hm : mb_reckon_20 fu ag_7 z0 F G = some res) {H : Heap} {locs : List Loc} (hw : mMW s A v a F G H locs) {ls : Array Slot} (hl : lv_has ls 3 [(0, .ref (a 212))]) : W p l e R s m args below meth c H locs 0 0 Q (F0 m 20 ls [.int z0]) := by
  have hx := C.1
  have hb := C.2.1
  unfold mb_reckon_20 at hm
  refine lv_istore_n (lv' := [(2, .int z0), (0, .ref (a 212))]) hx hb dX12_reckon_20 rfl hl (by decide) rfl (fun ls hl => ?_)
  refine lv_goto (tgt := 7) hx hb dX12_reckon_21 (by decide) ?_
  exact hag_7 z0 F G hm _ _ _ hw (lv_sub hl [1, 0] rfl)
theorem mw_reckon_15 (fu : Nat) {res : Int32 × PF × PG} (C : mMC p R s m args c A v RX12 cX12_reckon 3 3 65) (hret : ∀ (H1 : Heap) (locs1 : List Loc) (ls1 : Array Slot) (pc : Nat), mMW s A v a res.2.1 res.2.2 H1 locs1 → narrow .int (.int res.1) = .int res.1 → decode cX12_reckon pc = .ok (.ireturn, 1) → W p l e R s m args below meth c H1 locs1 0 0 Q (F0 m pc ls1 [.int res.1])) (ag_7 : Int32 → PF → PG → PR) (hag_7 : ∀ (x2 : Int32) (F : PF) (G : PG), ag_7 x2 F G = some res → ∀ (H : Heap) (locs : List Loc) (ls : Array Slot), mMW s A v a F G H locs → lv_has ls 3 [(0, .ref (a 212)), (2, .int x2)] → W p l e R s m args below meth c H locs 0 0 Q (F0 m 7 ls [])) (x2 : Int32) (F : PF) (G : PG) (hm : mb_reckon_15 fu ag_7 x2 F G = some res) {H : Heap} {locs : List Loc} (hw : mMW s A v a F G H locs) {ls : Array Slot} (hl : lv_has ls 3 [(0, .ref (a 212)), (2, .int x2)]) : W p l e R s m args below meth c H locs 0 0 Q (F0 m 15 ls []) := by
  have hx := C.1
  have hb := C.2.1
  unfold mb_reckon_15 at hm
  refine lv_aload_n hx hb dX12_reckon_15 rfl (lv_at hl 0 rfl) ?_
  refine lv_iload_n hx hb dX12_reckon_16 rfl (lv_at hl 1 rfl) ?_
  obtain ⟨⟨r1, F1, G1⟩, hc, hm⟩ := bind_elim hm
  refine mcallI (n := 1) (As := [.int x2]) (rest := []) C hw (mk_plainly l v a _ fu x2 F G r1 F1 G1 hc) (mrecv_X12 C hw) mm_293 mm_294 mm_295 mm_27 mm_296 (by decide +kernel) rfl (by omega) (by omega) hl.1 rfl (Nat.le_of_ble_eq_true rfl) dX12_reckon_17 (fun H locs hw => ?_)
  exact mw_reckon_20 fu C hret ag_7 hag_7 r1 F1 G1 hm hw (lv_sub hl [0] rfl)
theorem mw_reckon_7 (fu : Nat) {res : Int32 × PF × PG} (C : mMC p R s m args c A v RX12 cX12_reckon 3 3 65) (hret : ∀ (H1 : Heap) (locs1 : List Loc) (ls1 : Array Slot) (pc : Nat), mMW s A v a res.2.1 res.2.2 H1 locs1 → narrow .int (.int res.1) = .int res.1 → decode cX12_reckon pc = .ok (.ireturn, 1) → W p l e R s m args below meth c H1 locs1 0 0 Q (F0 m pc ls1 [.int res.1])) (ag_7 : Int32 → PF → PG → PR) (hag_7 : ∀ (x2 : Int32) (F : PF) (G : PG), ag_7 x2 F G = some res → ∀ (H : Heap) (locs : List Loc) (ls : Array Slot), mMW s A v a F G H locs → lv_has ls 3 [(0, .ref (a 212)), (2, .int x2)] → W p l e R s m args below meth c H locs 0 0 Q (F0 m 7 ls [])) (x2 : Int32) (F : PF) (G : PG) (hm : mb_reckon_7 fu ag_7 x2 F G = some res) {H : Heap} {locs : List Loc} (hw : mMW s A v a F G H locs) {ls : Array Slot} (hl : lv_has ls 3 [(0, .ref (a 212)), (2, .int x2)]) : W p l e R s m args below meth c H locs 0 0 Q (F0 m 7 ls []) := by
  have hx := C.1
  have hb := C.2.1
  unfold mb_reckon_7 at hm
  refine lv_iload_n hx hb dX12_reckon_7 rfl (lv_at hl 1 rfl) ?_
  refine lv_aload_n hx hb dX12_reckon_8 rfl (lv_at hl 0 rfl) ?_
  refine mg_X12_276 C hw dX12_reckon_9 ?_
  refine lv_icmp_ge (tgt := 24) hx hb dX12_reckon_12 (by decide) (fun c_1 => ?_) (fun c_1 => ?_)
  · have hm := (if_pos c_1).symm.trans hm
    exact mw_reckon_24 fu C hret F G hm hw (lv_sub hl [0] rfl)
  · have hm := (if_neg c_1).symm.trans hm
    exact mw_reckon_15 fu C hret ag_7 hag_7 x2 F G hm hw (lv_sub hl [0, 1] rfl)
theorem mwl_reckon_7 (fu : Nat) {res : Int32 × PF × PG} (C : mMC p R s m args c A v RX12 cX12_reckon 3 3 65) (hret : ∀ (H1 : Heap) (locs1 : List Loc) (ls1 : Array Slot) (pc : Nat), mMW s A v a res.2.1 res.2.2 H1 locs1 → narrow .int (.int res.1) = .int res.1 → decode cX12_reckon pc = .ok (.ireturn, 1) → W p l e R s m args below meth c H1 locs1 0 0 Q (F0 m pc ls1 [.int res.1])) : ∀ (n : Nat) (x2 : Int32) (F : PF) (G : PG) (hm : ml_reckon_7 fu n x2 F G = some res) {H : Heap} {locs : List Loc} (hw : mMW s A v a F G H locs) {ls : Array Slot} (hl : lv_has ls 3 [(0, .ref (a 212)), (2, .int x2)]), W p l e R s m args below meth c H locs 0 0 Q (F0 m 7 ls []) := by
  intro n
  induction n with
  | zero =>
    intro x2 F G hm
    exact no_elim (show (none : PR) = some res from hm)
  | succ n ih =>
    intro x2 F G hm H locs hw ls hl
    exact mw_reckon_7 fu C hret (ml_reckon_7 fu n) (fun x2 F G hm H locs ls hw hl => ih x2 F G hm hw hl) x2 F G hm hw hl
theorem mw_reckon_5 (fu : Nat) {res : Int32 × PF × PG} (C : mMC p R s m args c A v RX12 cX12_reckon 3 3 65) (hret : ∀ (H1 : Heap) (locs1 : List Loc) (ls1 : Array Slot) (pc : Nat), mMW s A v a res.2.1 res.2.2 H1 locs1 → narrow .int (.int res.1) = .int res.1 → decode cX12_reckon pc = .ok (.ireturn, 1) → W p l e R s m args below meth c H1 locs1 0 0 Q (F0 m pc ls1 [.int res.1])) (x1 : Int32) (F : PF) (G : PG) (hm : mb_reckon_5 fu x1 F G = some res) {H : Heap} {locs : List Loc} (hw : mMW s A v a F G H locs) {ls : Array Slot} (hl : lv_has ls 3 [(0, .ref (a 212)), (1, .int x1)]) : W p l e R s m args below meth c H locs 0 0 Q (F0 m 5 ls []) := by
  have hx := C.1
  have hb := C.2.1
  unfold mb_reckon_5 at hm
  refine lv_iload_n hx hb dX12_reckon_5 rfl (lv_at hl 1 rfl) ?_
  refine lv_istore_n (lv' := [(2, .int x1), (0, .ref (a 212)), (1, .int x1)]) hx hb dX12_reckon_6 rfl hl (by decide) rfl (fun ls hl => ?_)
  exact mwl_reckon_7 fu C hret fu x1 F G hm hw (lv_sub hl [1, 0] rfl)
theorem mw_reckon_0 (fu : Nat) {res : Int32 × PF × PG} (C : mMC p R s m args c A v RX12 cX12_reckon 3 3 65) (hret : ∀ (H1 : Heap) (locs1 : List Loc) (ls1 : Array Slot) (pc : Nat), mMW s A v a res.2.1 res.2.2 H1 locs1 → narrow .int (.int res.1) = .int res.1 → decode cX12_reckon pc = .ok (.ireturn, 1) → W p l e R s m args below meth c H1 locs1 0 0 Q (F0 m pc ls1 [.int res.1])) (x1 : Int32) (F : PF) (G : PG) (hm : mb_reckon_0 fu x1 F G = some res) {H : Heap} {locs : List Loc} (hw : mMW s A v a F G H locs) {ls : Array Slot} (hl : lv_has ls 3 [(0, .ref (a 212)), (1, .int x1)]) : W p l e R s m args below meth c H locs 0 0 Q (F0 m 0 ls []) := by
  have hx := C.1
  have hb := C.2.1
  unfold mb_reckon_0 at hm
  refine lv_aload_n hx hb dX12_reckon_0 rfl (lv_at hl 0 rfl) ?_
  refine lv_iconst (v := 0) hx hb dX12_reckon_1 (by decide) ?_
  refine mp_X12_497 C hw dX12_reckon_2 (fun H locs hw => ?_)
  exact mw_reckon_5 fu C hret x1 (fup F 72 (0 : Int32)) G hm hw (lv_sub hl [0, 1] rfl)
theorem mk_reckon (l : Launch) (v : EV) (a : Nat → Nat) (sz : Nat) (fu : Nat) (x1 : Int32) (F : PF) (G : PG) (r : Int32) (F1 : PF) (G1 : PG) (hm : mf_reckon fu x1 F G = some (r, F1, G1)) : mMI l yX12_reckon cX12_reckon 3 (some .int) 3 65 v a sz [.ref (a 212), .int x1] F G r F1 G1 := mMI.of (ty := .int) (by decide) rfl (Nat.le_of_ble_eq_true rfl) (fun p e R s m args below meth c Q A H locs ls C hw hl hret => mw_reckon_0 fu (res := (r, F1, G1)) C hret x1 F G hm hw hl)
def mb_value_66 (fu : Nat) (x3 : Int32) (F : PF) (G : PG) : PR := some (x3, F, G)
def mb_value_60 (fu : Nat) (x2 : Int32) (z0 : Int32) (F : PF) (G : PG) : PR := mb_value_66 fu z0 (fup F 60 x2) G
def mb_value_51 (fu : Nat) (x2 : Int32) (F : PF) (G : PG) : PR := mb_value_60 fu x2 0 F G
def mb_value_55 (fu : Nat) (x2 : Int32) (F : PF) (G : PG) : PR := (mf_reckon fu x2 F G).bind (fun q => mb_value_60 fu x2 q.1 q.2.1 q.2.2)
def mb_value_44 (fu : Nat) (x2 : Int32) (F : PF) (G : PG) : PR := if (F 55) = (0 : Int32) then mb_value_55 fu x2 F G else mb_value_51 fu x2 F G
def mb_value_37 (fu : Nat) (x2 : Int32) (F : PF) (G : PG) : PR := if (F 46) = (0 : Int32) then mb_value_51 fu x2 F G else mb_value_44 fu x2 F G
def mb_value_30 (fu : Nat) (x2 : Int32) (F : PF) (G : PG) : PR := if (0 : Int32) < (F 44) then mb_value_51 fu x2 F G else mb_value_37 fu x2 F G
def mb_value_24 (fu : Nat) (x1 : Int32) (x2 : Int32) (z0 : Int32) (F : PF) (G : PG) : PR := if b01 x1 = true then (mb_value_30 fu x2 (fup F 54 x1) G) else none
def mb_value_15 (fu : Nat) (x1 : Int32) (F : PF) (G : PG) : PR := (mf_expression fu F G).bind (fun q => mb_value_24 fu x1 (F 60) q.1 q.2.1 q.2.2)
def mb_value_10 (fu : Nat) (x1 : Int32) (F : PF) (G : PG) : PR := mb_value_15 fu x1 (fup F 55 (0 : Int32)) G
def mb_value_0 (fu : Nat) (F : PF) (G : PG) : PR := mb_value_10 fu (F 54) (fup F 54 (1 : Int32)) G
def mf_value (fu : Nat) (F : PF) (G : PG) : PR := mb_value_0 fu F G
theorem mw_value_66 (fu : Nat) {res : Int32 × PF × PG} (C : mMC p R s m args c A v RX12 cX12_value 4 304 18086) (hret : ∀ (H1 : Heap) (locs1 : List Loc) (ls1 : Array Slot) (pc : Nat), mMW s A v a res.2.1 res.2.2 H1 locs1 → narrow .int (.int res.1) = .int res.1 → decode cX12_value pc = .ok (.ireturn, 1) → W p l e R s m args below meth c H1 locs1 0 0 Q (F0 m pc ls1 [.int res.1])) (x3 : Int32) (F : PF) (G : PG) (hm : mb_value_66 fu x3 F G = some res) {H : Heap} {locs : List Loc} (hw : mMW s A v a F G H locs) {ls : Array Slot} (hl : lv_has ls 4 [(3, .int x3)]) : W p l e R s m args below meth c H locs 0 0 Q (F0 m 66 ls []) := by
  have hx := C.1
  have hb := C.2.1
  unfold mb_value_66 at hm
  refine lv_iload_n hx hb dX12_value_66 rfl (lv_at hl 0 rfl) ?_
  obtain rfl := Option.some.inj hm
  exact hret _ _ _ _ hw rfl dX12_value_67
theorem mw_value_60 (fu : Nat) {res : Int32 × PF × PG} (C : mMC p R s m args c A v RX12 cX12_value 4 304 18086) (hret : ∀ (H1 : Heap) (locs1 : List Loc) (ls1 : Array Slot) (pc : Nat), mMW s A v a res.2.1 res.2.2 H1 locs1 → narrow .int (.int res.1) = .int res.1 → decode cX12_value pc = .ok (.ireturn, 1) → W p l e R s m args below meth c H1 locs1 0 0 Q (F0 m pc ls1 [.int res.1])) (x2 : Int32) (z0 : Int32) (F : PF) (G : PG) (hm : mb_value_60 fu x2 z0 F G = some res) {H : Heap} {locs : List Loc} (hw : mMW s A v a F G H locs) {ls : Array Slot} (hl : lv_has ls 4 [(0, .ref (a 212)), (2, .int x2)]) : W p l e R s m args below meth c H locs 0 0 Q (F0 m 60 ls [.int z0]) := by
  have hx := C.1
  have hb := C.2.1
  unfold mb_value_60 at hm
  refine lv_istore_n (lv' := [(3, .int z0), (0, .ref (a 212)), (2, .int x2)]) hx hb dX12_value_60 rfl hl (by decide) rfl (fun ls hl => ?_)
  refine lv_aload_n hx hb dX12_value_61 rfl (lv_at hl 1 rfl) ?_
  refine lv_iload_n hx hb dX12_value_62 rfl (lv_at hl 2 rfl) ?_
  refine mp_X12_276 C hw dX12_value_63 (fun H locs hw => ?_)
  exact mw_value_66 fu C hret z0 (fup F 60 x2) G hm hw (lv_sub hl [0] rfl)
theorem mw_value_51 (fu : Nat) {res : Int32 × PF × PG} (C : mMC p R s m args c A v RX12 cX12_value 4 304 18086) (hret : ∀ (H1 : Heap) (locs1 : List Loc) (ls1 : Array Slot) (pc : Nat), mMW s A v a res.2.1 res.2.2 H1 locs1 → narrow .int (.int res.1) = .int res.1 → decode cX12_value pc = .ok (.ireturn, 1) → W p l e R s m args below meth c H1 locs1 0 0 Q (F0 m pc ls1 [.int res.1])) (x2 : Int32) (F : PF) (G : PG) (hm : mb_value_51 fu x2 F G = some res) {H : Heap} {locs : List Loc} (hw : mMW s A v a F G H locs) {ls : Array Slot} (hl : lv_has ls 4 [(0, .ref (a 212)), (2, .int x2)]) : W p l e R s m args below meth c H locs 0 0 Q (F0 m 51 ls []) := by
  have hx := C.1
  have hb := C.2.1
  unfold mb_value_51 at hm
  refine lv_iconst (v := 0) hx hb dX12_value_51 (by decide) ?_
  refine lv_goto (tgt := 60) hx hb dX12_value_52 (by decide) ?_
  exact mw_value_60 fu C hret x2 0 F G hm hw (lv_sub hl [0, 1] rfl)
theorem mw_value_55 (fu : Nat) {res : Int32 × PF × PG} (C : mMC p R s m args c A v RX12 cX12_value 4 304 18086) (hret : ∀ (H1 : Heap) (locs1 : List Loc) (ls1 : Array Slot) (pc : Nat), mMW s A v a res.2.1 res.2.2 H1 locs1 → narrow .int (.int res.1) = .int res.1 → decode cX12_value pc = .ok (.ireturn, 1) → W p l e R s m args below meth c H1 locs1 0 0 Q (F0 m pc ls1 [.int res.1])) (x2 : Int32) (F : PF) (G : PG) (hm : mb_value_55 fu x2 F G = some res) {H : Heap} {locs : List Loc} (hw : mMW s A v a F G H locs) {ls : Array Slot} (hl : lv_has ls 4 [(0, .ref (a 212)), (2, .int x2)]) : W p l e R s m args below meth c H locs 0 0 Q (F0 m 55 ls []) := by
  have hx := C.1
  have hb := C.2.1
  unfold mb_value_55 at hm
  refine lv_aload_n hx hb dX12_value_55 rfl (lv_at hl 0 rfl) ?_
  refine lv_iload_n hx hb dX12_value_56 rfl (lv_at hl 1 rfl) ?_
  obtain ⟨⟨r1, F1, G1⟩, hc, hm⟩ := bind_elim hm
  refine mcallI (n := 1) (As := [.int x2]) (rest := []) C hw (mk_reckon l v a _ fu x2 F G r1 F1 G1 hc) (mrecv_X12 C hw) mm_287 mm_288 mm_289 mm_27 mm_290 (by decide +kernel) rfl (by omega) (by omega) hl.1 rfl (Nat.le_of_ble_eq_true rfl) dX12_value_57 (fun H locs hw => ?_)
  exact mw_value_60 fu C hret x2 r1 F1 G1 hm hw (lv_sub hl [0, 1] rfl)
theorem mw_value_44 (fu : Nat) {res : Int32 × PF × PG} (C : mMC p R s m args c A v RX12 cX12_value 4 304 18086) (hret : ∀ (H1 : Heap) (locs1 : List Loc) (ls1 : Array Slot) (pc : Nat), mMW s A v a res.2.1 res.2.2 H1 locs1 → narrow .int (.int res.1) = .int res.1 → decode cX12_value pc = .ok (.ireturn, 1) → W p l e R s m args below meth c H1 locs1 0 0 Q (F0 m pc ls1 [.int res.1])) (x2 : Int32) (F : PF) (G : PG) (hm : mb_value_44 fu x2 F G = some res) {H : Heap} {locs : List Loc} (hw : mMW s A v a F G H locs) {ls : Array Slot} (hl : lv_has ls 4 [(0, .ref (a 212)), (2, .int x2)]) : W p l e R s m args below meth c H locs 0 0 Q (F0 m 44 ls []) := by
  have hx := C.1
  have hb := C.2.1
  unfold mb_value_44 at hm
  refine lv_aload_n hx hb dX12_value_44 rfl (lv_at hl 0 rfl) ?_
  refine mg_X12_345 C hw dX12_value_45 ?_
  refine lv_if_eq (tgt := 55) hx hb dX12_value_48 (by decide) (fun c_1 => ?_) (fun c_1 => ?_)
  · have hm := (if_pos c_1).symm.trans hm
    exact mw_value_55 fu C hret x2 F G hm hw (lv_sub hl [0, 1] rfl)
  · have hm := (if_neg c_1).symm.trans hm
    exact mw_value_51 fu C hret x2 F G hm hw (lv_sub hl [0, 1] rfl)
theorem mw_value_37 (fu : Nat) {res : Int32 × PF × PG} (C : mMC p R s m args c A v RX12 cX12_value 4 304 18086) (hret : ∀ (H1 : Heap) (locs1 : List Loc) (ls1 : Array Slot) (pc : Nat), mMW s A v a res.2.1 res.2.2 H1 locs1 → narrow .int (.int res.1) = .int res.1 → decode cX12_value pc = .ok (.ireturn, 1) → W p l e R s m args below meth c H1 locs1 0 0 Q (F0 m pc ls1 [.int res.1])) (x2 : Int32) (F : PF) (G : PG) (hm : mb_value_37 fu x2 F G = some res) {H : Heap} {locs : List Loc} (hw : mMW s A v a F G H locs) {ls : Array Slot} (hl : lv_has ls 4 [(0, .ref (a 212)), (2, .int x2)]) : W p l e R s m args below meth c H locs 0 0 Q (F0 m 37 ls []) := by
  have hx := C.1
  have hb := C.2.1
  unfold mb_value_37 at hm
  refine lv_aload_n hx hb dX12_value_37 rfl (lv_at hl 0 rfl) ?_
  refine mg_X12_245 C hw dX12_value_38 ?_
  refine lv_if_eq (tgt := 51) hx hb dX12_value_41 (by decide) (fun c_1 => ?_) (fun c_1 => ?_)
  · have hm := (if_pos c_1).symm.trans hm
    exact mw_value_51 fu C hret x2 F G hm hw (lv_sub hl [0, 1] rfl)
  · have hm := (if_neg c_1).symm.trans hm
    exact mw_value_44 fu C hret x2 F G hm hw (lv_sub hl [0, 1] rfl)
theorem mw_value_30 (fu : Nat) {res : Int32 × PF × PG} (C : mMC p R s m args c A v RX12 cX12_value 4 304 18086) (hret : ∀ (H1 : Heap) (locs1 : List Loc) (ls1 : Array Slot) (pc : Nat), mMW s A v a res.2.1 res.2.2 H1 locs1 → narrow .int (.int res.1) = .int res.1 → decode cX12_value pc = .ok (.ireturn, 1) → W p l e R s m args below meth c H1 locs1 0 0 Q (F0 m pc ls1 [.int res.1])) (x2 : Int32) (F : PF) (G : PG) (hm : mb_value_30 fu x2 F G = some res) {H : Heap} {locs : List Loc} (hw : mMW s A v a F G H locs) {ls : Array Slot} (hl : lv_has ls 4 [(0, .ref (a 212)), (2, .int x2)]) : W p l e R s m args below meth c H locs 0 0 Q (F0 m 30 ls []) := by
  have hx := C.1
  have hb := C.2.1
  unfold mb_value_30 at hm
  refine lv_aload_n hx hb dX12_value_30 rfl (lv_at hl 0 rfl) ?_
  refine mg_X12_230 C hw dX12_value_31 ?_
  refine lv_if_gt (tgt := 51) hx hb dX12_value_34 (by decide) (fun c_1 => ?_) (fun c_1 => ?_)
  · have hm := (if_pos c_1).symm.trans hm
    exact mw_value_51 fu C hret x2 F G hm hw (lv_sub hl [0, 1] rfl)
  · have hm := (if_neg c_1).symm.trans hm
    exact mw_value_37 fu C hret x2 F G hm hw (lv_sub hl [0, 1] rfl)
theorem mw_value_24 (fu : Nat) {res : Int32 × PF × PG} (C : mMC p R s m args c A v RX12 cX12_value 4 304 18086) (hret : ∀ (H1 : Heap) (locs1 : List Loc) (ls1 : Array Slot) (pc : Nat), mMW s A v a res.2.1 res.2.2 H1 locs1 → narrow .int (.int res.1) = .int res.1 → decode cX12_value pc = .ok (.ireturn, 1) → W p l e R s m args below meth c H1 locs1 0 0 Q (F0 m pc ls1 [.int res.1])) (x1 : Int32) (x2 : Int32) (z0 : Int32) (F : PF) (G : PG) (hm : mb_value_24 fu x1 x2 z0 F G = some res) {H : Heap} {locs : List Loc} (hw : mMW s A v a F G H locs) {ls : Array Slot} (hl : lv_has ls 4 [(0, .ref (a 212)), (1, .int x1), (2, .int x2)]) : W p l e R s m args below meth c H locs 0 0 Q (F0 m 24 ls [.int z0]) := by
  have hx := C.1
  have hb := C.2.1
  unfold mb_value_24 at hm
  refine lv_pop hx hb dX12_value_24 rfl ?_
  refine lv_aload_n hx hb dX12_value_25 rfl (lv_at hl 0 rfl) ?_
  refine lv_iload_n hx hb dX12_value_26 rfl (lv_at hl 1 rfl) ?_
  obtain ⟨hz, hm⟩ := b01_elim hm
  refine mp_X12_365 C hw hz dX12_value_27 (fun H locs hw => ?_)
  exact mw_value_30 fu C hret x2 (fup F 54 x1) G hm hw (lv_sub hl [0, 2] rfl)
theorem mw_value_15 (fu : Nat) {res : Int32 × PF × PG} (C : mMC p R s m args c A v RX12 cX12_value 4 304 18086) (hret : ∀ (H1 : Heap) (locs1 : List Loc) (ls1 : Array Slot) (pc : Nat), mMW s A v a res.2.1 res.2.2 H1 locs1 → narrow .int (.int res.1) = .int res.1 → decode cX12_value pc = .ok (.ireturn, 1) → W p l e R s m args below meth c H1 locs1 0 0 Q (F0 m pc ls1 [.int res.1])) (x1 : Int32) (F : PF) (G : PG) (hm : mb_value_15 fu x1 F G = some res) {H : Heap} {locs : List Loc} (hw : mMW s A v a F G H locs) {ls : Array Slot} (hl : lv_has ls 4 [(0, .ref (a 212)), (1, .int x1)]) : W p l e R s m args below meth c H locs 0 0 Q (F0 m 15 ls []) := by
  have hx := C.1
  have hb := C.2.1
  unfold mb_value_15 at hm
  refine lv_aload_n hx hb dX12_value_15 rfl (lv_at hl 0 rfl) ?_
  refine mg_X12_276 C hw dX12_value_16 ?_
  refine lv_istore_n (lv' := [(2, .int (F 60)), (0, .ref (a 212)), (1, .int x1)]) hx hb dX12_value_19 rfl hl (by decide) rfl (fun ls hl => ?_)
  refine lv_aload_n hx hb dX12_value_20 rfl (lv_at hl 1 rfl) ?_
  obtain ⟨⟨r1, F1, G1⟩, hc, hm⟩ := bind_elim hm
  refine mcallI (n := 0) (As := []) (rest := []) C hw (mk_expression l v a _ fu F G r1 F1 G1 hc) (mrecv_X12 C hw) mm_191 mm_192 mm_193 mm_27 mm_194 (by decide +kernel) rfl (by omega) (by omega) hl.1 rfl (Nat.le_of_ble_eq_true rfl) dX12_value_21 (fun H locs hw => ?_)
  exact mw_value_24 fu C hret x1 (F 60) r1 F1 G1 hm hw (lv_sub hl [1, 2, 0] rfl)
theorem mw_value_10 (fu : Nat) {res : Int32 × PF × PG} (C : mMC p R s m args c A v RX12 cX12_value 4 304 18086) (hret : ∀ (H1 : Heap) (locs1 : List Loc) (ls1 : Array Slot) (pc : Nat), mMW s A v a res.2.1 res.2.2 H1 locs1 → narrow .int (.int res.1) = .int res.1 → decode cX12_value pc = .ok (.ireturn, 1) → W p l e R s m args below meth c H1 locs1 0 0 Q (F0 m pc ls1 [.int res.1])) (x1 : Int32) (F : PF) (G : PG) (hm : mb_value_10 fu x1 F G = some res) {H : Heap} {locs : List Loc} (hw : mMW s A v a F G H locs) {ls : Array Slot} (hl : lv_has ls 4 [(0, .ref (a 212)), (1, .int x1)]) : W p l e R s m args below meth c H locs 0 0 Q (F0 m 10 ls []) := by
  have hx := C.1
  have hb := C.2.1
  unfold mb_value_10 at hm
  refine lv_aload_n hx hb dX12_value_10 rfl (lv_at hl 0 rfl) ?_
  refine lv_iconst (v := 0) hx hb dX12_value_11 (by decide) ?_
  refine mp_X12_345 C hw (by decide) dX12_value_12 (fun H locs hw => ?_)
  exact mw_value_15 fu C hret x1 (fup F 55 (0 : Int32)) G hm hw (lv_sub hl [0, 1] rfl)
theorem mw_value_0 (fu : Nat) {res : Int32 × PF × PG} (C : mMC p R s m args c A v RX12 cX12_value 4 304 18086) (hret : ∀ (H1 : Heap) (locs1 : List Loc) (ls1 : Array Slot) (pc : Nat), mMW s A v a res.2.1 res.2.2 H1 locs1 → narrow .int (.int res.1) = .int res.1 → decode cX12_value pc = .ok (.ireturn, 1) → W p l e R s m args below meth c H1 locs1 0 0 Q (F0 m pc ls1 [.int res.1])) (F : PF) (G : PG) (hm : mb_value_0 fu F G = some res) {H : Heap} {locs : List Loc} (hw : mMW s A v a F G H locs) {ls : Array Slot} (hl : lv_has ls 4 [(0, .ref (a 212))]) : W p l e R s m args below meth c H locs 0 0 Q (F0 m 0 ls []) := by
  have hx := C.1
  have hb := C.2.1
  unfold mb_value_0 at hm
  refine lv_aload_n hx hb dX12_value_0 rfl (lv_at hl 0 rfl) ?_
  refine mg_X12_365 C hw dX12_value_1 ?_
  refine lv_istore_n (lv' := [(1, .int (F 54)), (0, .ref (a 212))]) hx hb dX12_value_4 rfl hl (by decide) rfl (fun ls hl => ?_)
  refine lv_aload_n hx hb dX12_value_5 rfl (lv_at hl 1 rfl) ?_
  refine lv_iconst (v := 1) hx hb dX12_value_6 (by decide) ?_
  refine mp_X12_365 C hw (by decide) dX12_value_7 (fun H locs hw => ?_)
  exact mw_value_10 fu C hret (F 54) (fup F 54 (1 : Int32)) G hm hw (lv_sub hl [1, 0] rfl)
theorem mk_value (l : Launch) (v : EV) (a : Nat → Nat) (sz : Nat) (fu : Nat) (F : PF) (G : PG) (r : Int32) (F1 : PF) (G1 : PG) (hm : mf_value fu F G = some (r, F1, G1)) : mMI l yX12_value cX12_value 4 (some .int) 304 18086 v a sz [.ref (a 212)] F G r F1 G1 := mMI.of (ty := .int) (by decide) rfl (Nat.le_of_ble_eq_true rfl) (fun p e R s m args below meth c Q A H locs ls C hw hl hret => mw_value_0 fu (res := (r, F1, G1)) C hret F G hm hw hl)
def mb_sizeHere_29 (fu : Nat) (F : PF) (G : PG) : PR := some (1, F, G)
def mb_sizeHere_61 (fu : Nat) (F : PF) (G : PG) : PR := some ((-1), F, G)
def mb_sizeHere_54 (fu : Nat) (x1 : Int32) (F : PF) (G : PG) : PR := (mf_note fu 10 x1 F G).bind (fun q => mb_sizeHere_61 fu q.2.1 q.2.2)
def mb_sizeHere_52 (fu : Nat) (x2 : Int32) (F : PF) (G : PG) : PR := some (x2, F, G)
def mb_sizeHere_45 (fu : Nat) (x1 : Int32) (x2 : Int32) (F : PF) (G : PG) : PR := if (500 : Int32) < x2 then mb_sizeHere_54 fu x1 F G else mb_sizeHere_52 fu x2 F G
def mb_sizeHere_40 (fu : Nat) (x1 : Int32) (x2 : Int32) (F : PF) (G : PG) : PR := if x2 < (1 : Int32) then mb_sizeHere_54 fu x1 F G else mb_sizeHere_45 fu x1 x2 F G
def mb_sizeHere_38 (fu : Nat) (F : PF) (G : PG) : PR := some ((-1), F, G)
def mb_sizeHere_31 (fu : Nat) (x1 : Int32) (x2 : Int32) (F : PF) (G : PG) : PR := if (F 55) = (0 : Int32) then mb_sizeHere_40 fu x1 x2 F G else mb_sizeHere_38 fu F G
def mb_sizeHere_22 (fu : Nat) (x1 : Int32) (x2 : Int32) (F : PF) (G : PG) : PR := if (F 46) = (0 : Int32) then mb_sizeHere_29 fu F G else mb_sizeHere_31 fu x1 x2 F G
def mb_sizeHere_14 (fu : Nat) (x1 : Int32) (z0 : Int32) (F : PF) (G : PG) : PR := if (0 : Int32) < (F 44) then mb_sizeHere_29 fu F G else mb_sizeHere_22 fu x1 z0 F G
def mb_sizeHere_0 (fu : Nat) (F : PF) (G : PG) : PR := if ixb (F 42) 4002 = true then ((mf_value fu F G).bind (fun q => mb_sizeHere_14 fu (G 6 (F 42).toNatClampNeg) q.1 q.2.1 q.2.2)) else none
def mf_sizeHere (fu : Nat) (F : PF) (G : PG) : PR := mb_sizeHere_0 fu F G
theorem mw_sizeHere_29 (fu : Nat) {res : Int32 × PF × PG} (C : mMC p R s m args c A v RX12 cX12_sizeHere 3 305 18109) (hret : ∀ (H1 : Heap) (locs1 : List Loc) (ls1 : Array Slot) (pc : Nat), mMW s A v a res.2.1 res.2.2 H1 locs1 → narrow .int (.int res.1) = .int res.1 → decode cX12_sizeHere pc = .ok (.ireturn, 1) → W p l e R s m args below meth c H1 locs1 0 0 Q (F0 m pc ls1 [.int res.1])) (F : PF) (G : PG) (hm : mb_sizeHere_29 fu F G = some res) {H : Heap} {locs : List Loc} (hw : mMW s A v a F G H locs) {ls : Array Slot} (hl : lv_has ls 3 []) : W p l e R s m args below meth c H locs 0 0 Q (F0 m 29 ls []) := by
  have hx := C.1
  have hb := C.2.1
  unfold mb_sizeHere_29 at hm
  refine lv_iconst (v := 1) hx hb dX12_sizeHere_29 (by decide) ?_
  obtain rfl := Option.some.inj hm
  exact hret _ _ _ _ hw rfl dX12_sizeHere_30
theorem mw_sizeHere_61 (fu : Nat) {res : Int32 × PF × PG} (C : mMC p R s m args c A v RX12 cX12_sizeHere 3 305 18109) (hret : ∀ (H1 : Heap) (locs1 : List Loc) (ls1 : Array Slot) (pc : Nat), mMW s A v a res.2.1 res.2.2 H1 locs1 → narrow .int (.int res.1) = .int res.1 → decode cX12_sizeHere pc = .ok (.ireturn, 1) → W p l e R s m args below meth c H1 locs1 0 0 Q (F0 m pc ls1 [.int res.1])) (F : PF) (G : PG) (hm : mb_sizeHere_61 fu F G = some res) {H : Heap} {locs : List Loc} (hw : mMW s A v a F G H locs) {ls : Array Slot} (hl : lv_has ls 3 []) : W p l e R s m args below meth c H locs 0 0 Q (F0 m 61 ls []) := by
  have hx := C.1
  have hb := C.2.1
  unfold mb_sizeHere_61 at hm
  refine lv_iconst (v := (-1)) hx hb dX12_sizeHere_61 (by decide) ?_
  obtain rfl := Option.some.inj hm
  exact hret _ _ _ _ hw rfl dX12_sizeHere_62
theorem mw_sizeHere_54 (fu : Nat) {res : Int32 × PF × PG} (C : mMC p R s m args c A v RX12 cX12_sizeHere 3 305 18109) (hret : ∀ (H1 : Heap) (locs1 : List Loc) (ls1 : Array Slot) (pc : Nat), mMW s A v a res.2.1 res.2.2 H1 locs1 → narrow .int (.int res.1) = .int res.1 → decode cX12_sizeHere pc = .ok (.ireturn, 1) → W p l e R s m args below meth c H1 locs1 0 0 Q (F0 m pc ls1 [.int res.1])) (x1 : Int32) (F : PF) (G : PG) (hm : mb_sizeHere_54 fu x1 F G = some res) {H : Heap} {locs : List Loc} (hw : mMW s A v a F G H locs) {ls : Array Slot} (hl : lv_has ls 3 [(0, .ref (a 212)), (1, .int x1)]) : W p l e R s m args below meth c H locs 0 0 Q (F0 m 54 ls []) := by
  have hx := C.1
  have hb := C.2.1
  unfold mb_sizeHere_54 at hm
  refine lv_aload_n hx hb dX12_sizeHere_54 rfl (lv_at hl 0 rfl) ?_
  refine lv_bipush (v := 10) hx hb dX12_sizeHere_55 (by decide) ?_
  refine lv_iload_n hx hb dX12_sizeHere_57 rfl (lv_at hl 1 rfl) ?_
  obtain ⟨⟨r1, F1, G1⟩, hc, hm⟩ := bind_elim hm
  refine mcallV (n := 2) (As := [.int 10, .int x1]) (rest := []) C hw (mk_note l v a _ fu 10 x1 F G r1 F1 G1 hc) (mrecv_X12 C hw) mm_220 mm_221 mm_222 mm_27 mm_223 (by decide +kernel) rfl (by omega) (by omega) hl.1 rfl (Nat.le_of_ble_eq_true rfl) dX12_sizeHere_58 (fun H locs hw => ?_)
  exact mw_sizeHere_61 fu C hret F1 G1 hm hw (lv_sub hl [] rfl)
theorem mw_sizeHere_52 (fu : Nat) {res : Int32 × PF × PG} (C : mMC p R s m args c A v RX12 cX12_sizeHere 3 305 18109) (hret : ∀ (H1 : Heap) (locs1 : List Loc) (ls1 : Array Slot) (pc : Nat), mMW s A v a res.2.1 res.2.2 H1 locs1 → narrow .int (.int res.1) = .int res.1 → decode cX12_sizeHere pc = .ok (.ireturn, 1) → W p l e R s m args below meth c H1 locs1 0 0 Q (F0 m pc ls1 [.int res.1])) (x2 : Int32) (F : PF) (G : PG) (hm : mb_sizeHere_52 fu x2 F G = some res) {H : Heap} {locs : List Loc} (hw : mMW s A v a F G H locs) {ls : Array Slot} (hl : lv_has ls 3 [(2, .int x2)]) : W p l e R s m args below meth c H locs 0 0 Q (F0 m 52 ls []) := by
  have hx := C.1
  have hb := C.2.1
  unfold mb_sizeHere_52 at hm
  refine lv_iload_n hx hb dX12_sizeHere_52 rfl (lv_at hl 0 rfl) ?_
  obtain rfl := Option.some.inj hm
  exact hret _ _ _ _ hw rfl dX12_sizeHere_53
theorem mw_sizeHere_45 (fu : Nat) {res : Int32 × PF × PG} (C : mMC p R s m args c A v RX12 cX12_sizeHere 3 305 18109) (hret : ∀ (H1 : Heap) (locs1 : List Loc) (ls1 : Array Slot) (pc : Nat), mMW s A v a res.2.1 res.2.2 H1 locs1 → narrow .int (.int res.1) = .int res.1 → decode cX12_sizeHere pc = .ok (.ireturn, 1) → W p l e R s m args below meth c H1 locs1 0 0 Q (F0 m pc ls1 [.int res.1])) (x1 : Int32) (x2 : Int32) (F : PF) (G : PG) (hm : mb_sizeHere_45 fu x1 x2 F G = some res) {H : Heap} {locs : List Loc} (hw : mMW s A v a F G H locs) {ls : Array Slot} (hl : lv_has ls 3 [(0, .ref (a 212)), (1, .int x1), (2, .int x2)]) : W p l e R s m args below meth c H locs 0 0 Q (F0 m 45 ls []) := by
  have hx := C.1
  have hb := C.2.1
  unfold mb_sizeHere_45 at hm
  refine lv_iload_n hx hb dX12_sizeHere_45 rfl (lv_at hl 2 rfl) ?_
  refine lv_sipush (v := 500) hx hb dX12_sizeHere_46 (by decide) ?_
  refine lv_icmp_gt (tgt := 54) hx hb dX12_sizeHere_49 (by decide) (fun c_1 => ?_) (fun c_1 => ?_)
  · have hm := (if_pos c_1).symm.trans hm
    exact mw_sizeHere_54 fu C hret x1 F G hm hw (lv_sub hl [0, 1] rfl)
  · have hm := (if_neg c_1).symm.trans hm
    exact mw_sizeHere_52 fu C hret x2 F G hm hw (lv_sub hl [2] rfl)
theorem mw_sizeHere_40 (fu : Nat) {res : Int32 × PF × PG} (C : mMC p R s m args c A v RX12 cX12_sizeHere 3 305 18109) (hret : ∀ (H1 : Heap) (locs1 : List Loc) (ls1 : Array Slot) (pc : Nat), mMW s A v a res.2.1 res.2.2 H1 locs1 → narrow .int (.int res.1) = .int res.1 → decode cX12_sizeHere pc = .ok (.ireturn, 1) → W p l e R s m args below meth c H1 locs1 0 0 Q (F0 m pc ls1 [.int res.1])) (x1 : Int32) (x2 : Int32) (F : PF) (G : PG) (hm : mb_sizeHere_40 fu x1 x2 F G = some res) {H : Heap} {locs : List Loc} (hw : mMW s A v a F G H locs) {ls : Array Slot} (hl : lv_has ls 3 [(0, .ref (a 212)), (1, .int x1), (2, .int x2)]) : W p l e R s m args below meth c H locs 0 0 Q (F0 m 40 ls []) := by
  have hx := C.1
  have hb := C.2.1
  unfold mb_sizeHere_40 at hm
  refine lv_iload_n hx hb dX12_sizeHere_40 rfl (lv_at hl 2 rfl) ?_
  refine lv_iconst (v := 1) hx hb dX12_sizeHere_41 (by decide) ?_
  refine lv_icmp_lt (tgt := 54) hx hb dX12_sizeHere_42 (by decide) (fun c_1 => ?_) (fun c_1 => ?_)
  · have hm := (if_pos c_1).symm.trans hm
    exact mw_sizeHere_54 fu C hret x1 F G hm hw (lv_sub hl [0, 1] rfl)
  · have hm := (if_neg c_1).symm.trans hm
    exact mw_sizeHere_45 fu C hret x1 x2 F G hm hw (lv_sub hl [0, 1, 2] rfl)
theorem mw_sizeHere_38 (fu : Nat) {res : Int32 × PF × PG} (C : mMC p R s m args c A v RX12 cX12_sizeHere 3 305 18109) (hret : ∀ (H1 : Heap) (locs1 : List Loc) (ls1 : Array Slot) (pc : Nat), mMW s A v a res.2.1 res.2.2 H1 locs1 → narrow .int (.int res.1) = .int res.1 → decode cX12_sizeHere pc = .ok (.ireturn, 1) → W p l e R s m args below meth c H1 locs1 0 0 Q (F0 m pc ls1 [.int res.1])) (F : PF) (G : PG) (hm : mb_sizeHere_38 fu F G = some res) {H : Heap} {locs : List Loc} (hw : mMW s A v a F G H locs) {ls : Array Slot} (hl : lv_has ls 3 []) : W p l e R s m args below meth c H locs 0 0 Q (F0 m 38 ls []) := by
  have hx := C.1
  have hb := C.2.1
  unfold mb_sizeHere_38 at hm
  refine lv_iconst (v := (-1)) hx hb dX12_sizeHere_38 (by decide) ?_
  obtain rfl := Option.some.inj hm
  exact hret _ _ _ _ hw rfl dX12_sizeHere_39
theorem mw_sizeHere_31 (fu : Nat) {res : Int32 × PF × PG} (C : mMC p R s m args c A v RX12 cX12_sizeHere 3 305 18109) (hret : ∀ (H1 : Heap) (locs1 : List Loc) (ls1 : Array Slot) (pc : Nat), mMW s A v a res.2.1 res.2.2 H1 locs1 → narrow .int (.int res.1) = .int res.1 → decode cX12_sizeHere pc = .ok (.ireturn, 1) → W p l e R s m args below meth c H1 locs1 0 0 Q (F0 m pc ls1 [.int res.1])) (x1 : Int32) (x2 : Int32) (F : PF) (G : PG) (hm : mb_sizeHere_31 fu x1 x2 F G = some res) {H : Heap} {locs : List Loc} (hw : mMW s A v a F G H locs) {ls : Array Slot} (hl : lv_has ls 3 [(0, .ref (a 212)), (1, .int x1), (2, .int x2)]) : W p l e R s m args below meth c H locs 0 0 Q (F0 m 31 ls []) := by
  have hx := C.1
  have hb := C.2.1
  unfold mb_sizeHere_31 at hm
  refine lv_aload_n hx hb dX12_sizeHere_31 rfl (lv_at hl 0 rfl) ?_
  refine mg_X12_345 C hw dX12_sizeHere_32 ?_
  refine lv_if_eq (tgt := 40) hx hb dX12_sizeHere_35 (by decide) (fun c_1 => ?_) (fun c_1 => ?_)
  · have hm := (if_pos c_1).symm.trans hm
    exact mw_sizeHere_40 fu C hret x1 x2 F G hm hw (lv_sub hl [0, 1, 2] rfl)
  · have hm := (if_neg c_1).symm.trans hm
    exact mw_sizeHere_38 fu C hret F G hm hw (lv_sub hl [] rfl)
theorem mw_sizeHere_22 (fu : Nat) {res : Int32 × PF × PG} (C : mMC p R s m args c A v RX12 cX12_sizeHere 3 305 18109) (hret : ∀ (H1 : Heap) (locs1 : List Loc) (ls1 : Array Slot) (pc : Nat), mMW s A v a res.2.1 res.2.2 H1 locs1 → narrow .int (.int res.1) = .int res.1 → decode cX12_sizeHere pc = .ok (.ireturn, 1) → W p l e R s m args below meth c H1 locs1 0 0 Q (F0 m pc ls1 [.int res.1])) (x1 : Int32) (x2 : Int32) (F : PF) (G : PG) (hm : mb_sizeHere_22 fu x1 x2 F G = some res) {H : Heap} {locs : List Loc} (hw : mMW s A v a F G H locs) {ls : Array Slot} (hl : lv_has ls 3 [(0, .ref (a 212)), (1, .int x1), (2, .int x2)]) : W p l e R s m args below meth c H locs 0 0 Q (F0 m 22 ls []) := by
  have hx := C.1
  have hb := C.2.1
  unfold mb_sizeHere_22 at hm
  refine lv_aload_n hx hb dX12_sizeHere_22 rfl (lv_at hl 0 rfl) ?_
  refine mg_X12_245 C hw dX12_sizeHere_23 ?_
  refine lv_if_ne (tgt := 31) hx hb dX12_sizeHere_26 (by decide) (fun c_1 => ?_) (fun c_1 => ?_)
  · have hm := (if_neg c_1).symm.trans hm
    exact mw_sizeHere_31 fu C hret x1 x2 F G hm hw (lv_sub hl [0, 1, 2] rfl)
  · have hm := (if_pos c_1).symm.trans hm
    exact mw_sizeHere_29 fu C hret F G hm hw (lv_sub hl [] rfl)
theorem mw_sizeHere_14 (fu : Nat) {res : Int32 × PF × PG} (C : mMC p R s m args c A v RX12 cX12_sizeHere 3 305 18109) (hret : ∀ (H1 : Heap) (locs1 : List Loc) (ls1 : Array Slot) (pc : Nat), mMW s A v a res.2.1 res.2.2 H1 locs1 → narrow .int (.int res.1) = .int res.1 → decode cX12_sizeHere pc = .ok (.ireturn, 1) → W p l e R s m args below meth c H1 locs1 0 0 Q (F0 m pc ls1 [.int res.1])) (x1 : Int32) (z0 : Int32) (F : PF) (G : PG) (hm : mb_sizeHere_14 fu x1 z0 F G = some res) {H : Heap} {locs : List Loc} (hw : mMW s A v a F G H locs) {ls : Array Slot} (hl : lv_has ls 3 [(0, .ref (a 212)), (1, .int x1)]) : W p l e R s m args below meth c H locs 0 0 Q (F0 m 14 ls [.int z0]) := by
  have hx := C.1
  have hb := C.2.1
  unfold mb_sizeHere_14 at hm
  refine lv_istore_n (lv' := [(2, .int z0), (0, .ref (a 212)), (1, .int x1)]) hx hb dX12_sizeHere_14 rfl hl (by decide) rfl (fun ls hl => ?_)
  refine lv_aload_n hx hb dX12_sizeHere_15 rfl (lv_at hl 1 rfl) ?_
  refine mg_X12_230 C hw dX12_sizeHere_16 ?_
  refine lv_if_gt (tgt := 29) hx hb dX12_sizeHere_19 (by decide) (fun c_1 => ?_) (fun c_1 => ?_)
  · have hm := (if_pos c_1).symm.trans hm
    exact mw_sizeHere_29 fu C hret F G hm hw (lv_sub hl [] rfl)
  · have hm := (if_neg c_1).symm.trans hm
    exact mw_sizeHere_22 fu C hret x1 z0 F G hm hw (lv_sub hl [1, 2, 0] rfl)
theorem mw_sizeHere_0 (fu : Nat) {res : Int32 × PF × PG} (C : mMC p R s m args c A v RX12 cX12_sizeHere 3 305 18109) (hret : ∀ (H1 : Heap) (locs1 : List Loc) (ls1 : Array Slot) (pc : Nat), mMW s A v a res.2.1 res.2.2 H1 locs1 → narrow .int (.int res.1) = .int res.1 → decode cX12_sizeHere pc = .ok (.ireturn, 1) → W p l e R s m args below meth c H1 locs1 0 0 Q (F0 m pc ls1 [.int res.1])) (F : PF) (G : PG) (hm : mb_sizeHere_0 fu F G = some res) {H : Heap} {locs : List Loc} (hw : mMW s A v a F G H locs) {ls : Array Slot} (hl : lv_has ls 3 [(0, .ref (a 212))]) : W p l e R s m args below meth c H locs 0 0 Q (F0 m 0 ls []) := by
  have hx := C.1
  have hb := C.2.1
  unfold mb_sizeHere_0 at hm
  refine lv_aload_n hx hb dX12_sizeHere_0 rfl (lv_at hl 0 rfl) ?_
  refine mg_X12_22 C hw dX12_sizeHere_1 ?_
  refine lv_aload_n hx hb dX12_sizeHere_4 rfl (lv_at hl 0 rfl) ?_
  refine mg_X12_233 C hw dX12_sizeHere_5 ?_
  obtain ⟨hi, hm⟩ := ix_elim hm
  refine mal_6 C hw hi dX12_sizeHere_8 ?_
  refine lv_istore_n (lv' := [(1, .int (G 6 (F 42).toNatClampNeg)), (0, .ref (a 212))]) hx hb dX12_sizeHere_9 rfl hl (by decide) rfl (fun ls hl => ?_)
  refine lv_aload_n hx hb dX12_sizeHere_10 rfl (lv_at hl 1 rfl) ?_
  obtain ⟨⟨r1, F1, G1⟩, hc, hm⟩ := bind_elim hm
  refine mcallI (n := 0) (As := []) (rest := []) C hw (mk_value l v a _ fu F G r1 F1 G1 hc) (mrecv_X12 C hw) mm_187 mm_188 mm_189 mm_27 mm_190 (by decide +kernel) rfl (by omega) (by omega) hl.1 rfl (Nat.le_of_ble_eq_true rfl) dX12_sizeHere_11 (fun H locs hw => ?_)
  exact mw_sizeHere_14 fu C hret (G 6 (F 42).toNatClampNeg) r1 F1 G1 hm hw (lv_sub hl [1, 0] rfl)
theorem mk_sizeHere (l : Launch) (v : EV) (a : Nat → Nat) (sz : Nat) (fu : Nat) (F : PF) (G : PG) (r : Int32) (F1 : PF) (G1 : PG) (hm : mf_sizeHere fu F G = some (r, F1, G1)) : mMI l yX12_sizeHere cX12_sizeHere 3 (some .int) 305 18109 v a sz [.ref (a 212)] F G r F1 G1 := mMI.of (ty := .int) (by decide) rfl (Nat.le_of_ble_eq_true rfl) (fun p e R s m args below meth c Q A H locs ls C hw hl hret => mw_sizeHere_0 fu (res := (r, F1, G1)) C hret F G hm hw hl)
def mb_declare_114 (fu : Nat) (F : PF) (G : PG) : PR := some (0, F, G)
def mb_declare_104 (fu : Nat) (F : PF) (G : PG) : PR := mb_declare_114 fu (fup F 14 ((F 14) + (1 : Int32))) G
def mb_declare_93 (fu : Nat) (x6 : Int32) (F : PF) (G : PG) : PR := if ixb (F 14) 900 = true then (mb_declare_104 fu F (gup G 23 (F 14).toNatClampNeg (vp_nar .boolean x6))) else none
def mb_declare_82 (fu : Nat) (x5 : Int32) (x6 : Int32) (F : PF) (G : PG) : PR := if ixb (F 14) 900 = true then (mb_declare_93 fu x6 F (gup G 21 (F 14).toNatClampNeg x5)) else none
def mb_declare_71 (fu : Nat) (x4 : Int32) (x5 : Int32) (x6 : Int32) (F : PF) (G : PG) : PR := if ixb (F 14) 900 = true then (mb_declare_82 fu x5 x6 F (gup G 20 (F 14).toNatClampNeg x4)) else none
def mb_declare_61 (fu : Nat) (x3 : Int32) (x4 : Int32) (x5 : Int32) (x6 : Int32) (F : PF) (G : PG) : PR := if ixb (F 14) 900 = true then (mb_declare_71 fu x4 x5 x6 F (gup G 22 (F 14).toNatClampNeg (vp_nar .boolean x3))) else none
def mb_declare_48 (fu : Nat) (x3 : Int32) (x4 : Int32) (x5 : Int32) (x6 : Int32) (F : PF) (G : PG) : PR := if ixb (F 14) 900 = true then (mb_declare_61 fu x3 x4 x5 x6 F (gup G 19 (F 14).toNatClampNeg (F 15))) else none
def mb_declare_33 (fu : Nat) (x1 : Int32) (x3 : Int32) (x4 : Int32) (x5 : Int32) (x6 : Int32) (F : PF) (G : PG) : PR := if ixb x1 4002 = true then (if ixb (F 14) 900 = true then (mb_declare_48 fu x3 x4 x5 x6 F (gup G 18 (F 14).toNatClampNeg (G 6 x1.toNatClampNeg))) else none) else none
def mb_declare_23 (fu : Nat) (x1 : Int32) (x2 : Int32) (x3 : Int32) (x4 : Int32) (x5 : Int32) (x6 : Int32) (F : PF) (G : PG) : PR := if ixb (F 14) 900 = true then (mb_declare_33 fu x1 x3 x4 x5 x6 F (gup G 17 (F 14).toNatClampNeg x2)) else none
def mb_declare_8 (fu : Nat) (x1 : Int32) (x2 : Int32) (x3 : Int32) (x4 : Int32) (x5 : Int32) (x6 : Int32) (F : PF) (G : PG) : PR := if ixb x1 4002 = true then (if ixb (F 14) 900 = true then (mb_declare_23 fu x1 x2 x3 x4 x5 x6 F (gup G 16 (F 14).toNatClampNeg (G 5 x1.toNatClampNeg))) else none) else none
def mb_declare_7 (fu : Nat) (F : PF) (G : PG) : PR := some (0, F, G)
def mb_declare_0 (fu : Nat) (x1 : Int32) (x2 : Int32) (x3 : Int32) (x4 : Int32) (x5 : Int32) (x6 : Int32) (F : PF) (G : PG) : PR := if (F 46) = (0 : Int32) then mb_declare_7 fu F G else mb_declare_8 fu x1 x2 x3 x4 x5 x6 F G
def mf_declare (fu : Nat) (x1 : Int32) (x2 : Int32) (x3 : Int32) (x4 : Int32) (x5 : Int32) (x6 : Int32) (F : PF) (G : PG) : PR := mb_declare_0 fu x1 x2 x3 x4 x5 x6 F G
theorem mw_declare_114 (fu : Nat) {res : Int32 × PF × PG} (C : mMC p R s m args c A v RX12 cX12_declare 7 0 0) (hret : ∀ (H1 : Heap) (locs1 : List Loc) (ls1 : Array Slot) (pc : Nat), mMW s A v a res.2.1 res.2.2 H1 locs1 → decode cX12_declare pc = .ok (.return_, 1) → W p l e R s m args below meth c H1 locs1 0 0 Q (F0 m pc ls1 [])) (F : PF) (G : PG) (hm : mb_declare_114 fu F G = some res) {H : Heap} {locs : List Loc} (hw : mMW s A v a F G H locs) {ls : Array Slot} (hl : lv_has ls 7 []) : W p l e R s m args below meth c H locs 0 0 Q (F0 m 114 ls []) := by
  have hx := C.1
  have hb := C.2.1
  unfold mb_declare_114 at hm
  obtain rfl := Option.some.inj hm
  exact hret _ _ _ _ hw dX12_declare_114
theorem mw_declare_104 (fu : Nat) {res : Int32 × PF × PG} (C : mMC p R s m args c A v RX12 cX12_declare 7 0 0) (hret : ∀ (H1 : Heap) (locs1 : List Loc) (ls1 : Array Slot) (pc : Nat), mMW s A v a res.2.1 res.2.2 H1 locs1 → decode cX12_declare pc = .ok (.return_, 1) → W p l e R s m args below meth c H1 locs1 0 0 Q (F0 m pc ls1 [])) (F : PF) (G : PG) (hm : mb_declare_104 fu F G = some res) {H : Heap} {locs : List Loc} (hw : mMW s A v a F G H locs) {ls : Array Slot} (hl : lv_has ls 7 [(0, .ref (a 212))]) : W p l e R s m args below meth c H locs 0 0 Q (F0 m 104 ls []) := by
  have hx := C.1
  have hb := C.2.1
  unfold mb_declare_104 at hm
  refine lv_aload_n hx hb dX12_declare_104 rfl (lv_at hl 0 rfl) ?_
  refine lv_dup hx hb dX12_declare_105 rfl ?_
  refine mg_X12_279 C hw dX12_declare_106 ?_
  refine lv_iconst (v := 1) hx hb dX12_declare_109 (by decide) ?_
  refine lv_iadd hx hb dX12_declare_110 ?_
  refine mp_X12_279 C hw dX12_declare_111 (fun H locs hw => ?_)
  exact mw_declare_114 fu C hret (fup F 14 ((F 14) + (1 : Int32))) G hm hw (lv_sub hl [] rfl)
theorem mw_declare_93 (fu : Nat) {res : Int32 × PF × PG} (C : mMC p R s m args c A v RX12 cX12_declare 7 0 0) (hret : ∀ (H1 : Heap) (locs1 : List Loc) (ls1 : Array Slot) (pc : Nat), mMW s A v a res.2.1 res.2.2 H1 locs1 → decode cX12_declare pc = .ok (.return_, 1) → W p l e R s m args below meth c H1 locs1 0 0 Q (F0 m pc ls1 [])) (x6 : Int32) (F : PF) (G : PG) (hm : mb_declare_93 fu x6 F G = some res) {H : Heap} {locs : List Loc} (hw : mMW s A v a F G H locs) {ls : Array Slot} (hl : lv_has ls 7 [(0, .ref (a 212)), (6, .int x6)]) : W p l e R s m args below meth c H locs 0 0 Q (F0 m 93 ls []) := by
  have hx := C.1
  have hb := C.2.1
  unfold mb_declare_93 at hm
  refine lv_aload_n hx hb dX12_declare_93 rfl (lv_at hl 0 rfl) ?_
  refine mg_X12_59 C hw dX12_declare_94 ?_
  refine lv_aload_n hx hb dX12_declare_97 rfl (lv_at hl 0 rfl) ?_
  refine mg_X12_279 C hw dX12_declare_98 ?_
  refine lv_iload hx hb dX12_declare_101 (lv_at hl 1 rfl) ?_
  obtain ⟨hi, hm⟩ := ix_elim hm
  refine mas_23 C hw hi dX12_declare_103 (fun H locs hw => ?_)
  exact mw_declare_104 fu C hret F (gup G 23 (F 14).toNatClampNeg (vp_nar .boolean x6)) hm hw (lv_sub hl [0] rfl)
theorem mw_declare_82 (fu : Nat) {res : Int32 × PF × PG} (C : mMC p R s m args c A v RX12 cX12_declare 7 0 0) (hret : ∀ (H1 : Heap) (locs1 : List Loc) (ls1 : Array Slot) (pc : Nat), mMW s A v a res.2.1 res.2.2 H1 locs1 → decode cX12_declare pc = .ok (.return_, 1) → W p l e R s m args below meth c H1 locs1 0 0 Q (F0 m pc ls1 [])) (x5 : Int32) (x6 : Int32) (F : PF) (G : PG) (hm : mb_declare_82 fu x5 x6 F G = some res) {H : Heap} {locs : List Loc} (hw : mMW s A v a F G H locs) {ls : Array Slot} (hl : lv_has ls 7 [(0, .ref (a 212)), (5, .int x5), (6, .int x6)]) : W p l e R s m args below meth c H locs 0 0 Q (F0 m 82 ls []) := by
  have hx := C.1
  have hb := C.2.1
  unfold mb_declare_82 at hm
  refine lv_aload_n hx hb dX12_declare_82 rfl (lv_at hl 0 rfl) ?_
  refine mg_X12_52 C hw dX12_declare_83 ?_
  refine lv_aload_n hx hb dX12_declare_86 rfl (lv_at hl 0 rfl) ?_
  refine mg_X12_279 C hw dX12_declare_87 ?_
  refine lv_iload hx hb dX12_declare_90 (lv_at hl 1 rfl) ?_
  obtain ⟨hi, hm⟩ := ix_elim hm
  refine mas_21 C hw hi dX12_declare_92 (fun H locs hw => ?_)
  exact mw_declare_93 fu C hret x6 F (gup G 21 (F 14).toNatClampNeg x5) hm hw (lv_sub hl [0, 2] rfl)
theorem mw_declare_71 (fu : Nat) {res : Int32 × PF × PG} (C : mMC p R s m args c A v RX12 cX12_declare 7 0 0) (hret : ∀ (H1 : Heap) (locs1 : List Loc) (ls1 : Array Slot) (pc : Nat), mMW s A v a res.2.1 res.2.2 H1 locs1 → decode cX12_declare pc = .ok (.return_, 1) → W p l e R s m args below meth c H1 locs1 0 0 Q (F0 m pc ls1 [])) (x4 : Int32) (x5 : Int32) (x6 : Int32) (F : PF) (G : PG) (hm : mb_declare_71 fu x4 x5 x6 F G = some res) {H : Heap} {locs : List Loc} (hw : mMW s A v a F G H locs) {ls : Array Slot} (hl : lv_has ls 7 [(0, .ref (a 212)), (4, .int x4), (5, .int x5), (6, .int x6)]) : W p l e R s m args below meth c H locs 0 0 Q (F0 m 71 ls []) := by
  have hx := C.1
  have hb := C.2.1
  unfold mb_declare_71 at hm
  refine lv_aload_n hx hb dX12_declare_71 rfl (lv_at hl 0 rfl) ?_
  refine mg_X12_49 C hw dX12_declare_72 ?_
  refine lv_aload_n hx hb dX12_declare_75 rfl (lv_at hl 0 rfl) ?_
  refine mg_X12_279 C hw dX12_declare_76 ?_
  refine lv_iload hx hb dX12_declare_79 (lv_at hl 1 rfl) ?_
  obtain ⟨hi, hm⟩ := ix_elim hm
  refine mas_20 C hw hi dX12_declare_81 (fun H locs hw => ?_)
  exact mw_declare_82 fu C hret x5 x6 F (gup G 20 (F 14).toNatClampNeg x4) hm hw (lv_sub hl [0, 2, 3] rfl)
theorem mw_declare_61 (fu : Nat) {res : Int32 × PF × PG} (C : mMC p R s m args c A v RX12 cX12_declare 7 0 0) (hret : ∀ (H1 : Heap) (locs1 : List Loc) (ls1 : Array Slot) (pc : Nat), mMW s A v a res.2.1 res.2.2 H1 locs1 → decode cX12_declare pc = .ok (.return_, 1) → W p l e R s m args below meth c H1 locs1 0 0 Q (F0 m pc ls1 [])) (x3 : Int32) (x4 : Int32) (x5 : Int32) (x6 : Int32) (F : PF) (G : PG) (hm : mb_declare_61 fu x3 x4 x5 x6 F G = some res) {H : Heap} {locs : List Loc} (hw : mMW s A v a F G H locs) {ls : Array Slot} (hl : lv_has ls 7 [(0, .ref (a 212)), (3, .int x3), (4, .int x4), (5, .int x5), (6, .int x6)]) : W p l e R s m args below meth c H locs 0 0 Q (F0 m 61 ls []) := by
  have hx := C.1
  have hb := C.2.1
  unfold mb_declare_61 at hm
  refine lv_aload_n hx hb dX12_declare_61 rfl (lv_at hl 0 rfl) ?_
  refine mg_X12_55 C hw dX12_declare_62 ?_
  refine lv_aload_n hx hb dX12_declare_65 rfl (lv_at hl 0 rfl) ?_
  refine mg_X12_279 C hw dX12_declare_66 ?_
  refine lv_iload_n hx hb dX12_declare_69 rfl (lv_at hl 1 rfl) ?_
  obtain ⟨hi, hm⟩ := ix_elim hm
  refine mas_22 C hw hi dX12_declare_70 (fun H locs hw => ?_)
  exact mw_declare_71 fu C hret x4 x5 x6 F (gup G 22 (F 14).toNatClampNeg (vp_nar .boolean x3)) hm hw (lv_sub hl [0, 2, 3, 4] rfl)
theorem mw_declare_48 (fu : Nat) {res : Int32 × PF × PG} (C : mMC p R s m args c A v RX12 cX12_declare 7 0 0) (hret : ∀ (H1 : Heap) (locs1 : List Loc) (ls1 : Array Slot) (pc : Nat), mMW s A v a res.2.1 res.2.2 H1 locs1 → decode cX12_declare pc = .ok (.return_, 1) → W p l e R s m args below meth c H1 locs1 0 0 Q (F0 m pc ls1 [])) (x3 : Int32) (x4 : Int32) (x5 : Int32) (x6 : Int32) (F : PF) (G : PG) (hm : mb_declare_48 fu x3 x4 x5 x6 F G = some res) {H : Heap} {locs : List Loc} (hw : mMW s A v a F G H locs) {ls : Array Slot} (hl : lv_has ls 7 [(0, .ref (a 212)), (3, .int x3), (4, .int x4), (5, .int x5), (6, .int x6)]) : W p l e R s m args below meth c H locs 0 0 Q (F0 m 48 ls []) := by
  have hx := C.1
  have hb := C.2.1
  unfold mb_declare_48 at hm
  refine lv_aload_n hx hb dX12_declare_48 rfl (lv_at hl 0 rfl) ?_
  refine mg_X12_46 C hw dX12_declare_49 ?_
  refine lv_aload_n hx hb dX12_declare_52 rfl (lv_at hl 0 rfl) ?_
  refine mg_X12_279 C hw dX12_declare_53 ?_
  refine lv_aload_n hx hb dX12_declare_56 rfl (lv_at hl 0 rfl) ?_
  refine mg_X12_282 C hw dX12_declare_57 ?_
  obtain ⟨hi, hm⟩ := ix_elim hm
  refine mas_19 C hw hi dX12_declare_60 (fun H locs hw => ?_)
  exact mw_declare_61 fu C hret x3 x4 x5 x6 F (gup G 19 (F 14).toNatClampNeg (F 15)) hm hw (lv_sub hl [0, 1, 2, 3, 4] rfl)
theorem mw_declare_33 (fu : Nat) {res : Int32 × PF × PG} (C : mMC p R s m args c A v RX12 cX12_declare 7 0 0) (hret : ∀ (H1 : Heap) (locs1 : List Loc) (ls1 : Array Slot) (pc : Nat), mMW s A v a res.2.1 res.2.2 H1 locs1 → decode cX12_declare pc = .ok (.return_, 1) → W p l e R s m args below meth c H1 locs1 0 0 Q (F0 m pc ls1 [])) (x1 : Int32) (x3 : Int32) (x4 : Int32) (x5 : Int32) (x6 : Int32) (F : PF) (G : PG) (hm : mb_declare_33 fu x1 x3 x4 x5 x6 F G = some res) {H : Heap} {locs : List Loc} (hw : mMW s A v a F G H locs) {ls : Array Slot} (hl : lv_has ls 7 [(0, .ref (a 212)), (1, .int x1), (3, .int x3), (4, .int x4), (5, .int x5), (6, .int x6)]) : W p l e R s m args below meth c H locs 0 0 Q (F0 m 33 ls []) := by
  have hx := C.1
  have hb := C.2.1
  unfold mb_declare_33 at hm
  refine lv_aload_n hx hb dX12_declare_33 rfl (lv_at hl 0 rfl) ?_
  refine mg_X12_43 C hw dX12_declare_34 ?_
  refine lv_aload_n hx hb dX12_declare_37 rfl (lv_at hl 0 rfl) ?_
  refine mg_X12_279 C hw dX12_declare_38 ?_
  refine lv_aload_n hx hb dX12_declare_41 rfl (lv_at hl 0 rfl) ?_
  refine mg_X12_22 C hw dX12_declare_42 ?_
  refine lv_iload_n hx hb dX12_declare_45 rfl (lv_at hl 1 rfl) ?_
  obtain ⟨hi, hm⟩ := ix_elim hm
  refine mal_6 C hw hi dX12_declare_46 ?_
  obtain ⟨hi, hm⟩ := ix_elim hm
  refine mas_18 C hw hi dX12_declare_47 (fun H locs hw => ?_)
  exact mw_declare_48 fu C hret x3 x4 x5 x6 F (gup G 18 (F 14).toNatClampNeg (G 6 x1.toNatClampNeg)) hm hw (lv_sub hl [0, 2, 3, 4, 5] rfl)
theorem mw_declare_23 (fu : Nat) {res : Int32 × PF × PG} (C : mMC p R s m args c A v RX12 cX12_declare 7 0 0) (hret : ∀ (H1 : Heap) (locs1 : List Loc) (ls1 : Array Slot) (pc : Nat), mMW s A v a res.2.1 res.2.2 H1 locs1 → decode cX12_declare pc = .ok (.return_, 1) → W p l e R s m args below meth c H1 locs1 0 0 Q (F0 m pc ls1 [])) (x1 : Int32) (x2 : Int32) (x3 : Int32) (x4 : Int32) (x5 : Int32) (x6 : Int32) (F : PF) (G : PG) (hm : mb_declare_23 fu x1 x2 x3 x4 x5 x6 F G = some res) {H : Heap} {locs : List Loc} (hw : mMW s A v a F G H locs) {ls : Array Slot} (hl : lv_has ls 7 [(0, .ref (a 212)), (1, .int x1), (2, .int x2), (3, .int x3), (4, .int x4), (5, .int x5), (6, .int x6)]) : W p l e R s m args below meth c H locs 0 0 Q (F0 m 23 ls []) := by
  have hx := C.1
  have hb := C.2.1
  unfold mb_declare_23 at hm
  refine lv_aload_n hx hb dX12_declare_23 rfl (lv_at hl 0 rfl) ?_
  refine mg_X12_40 C hw dX12_declare_24 ?_
  refine lv_aload_n hx hb dX12_declare_27 rfl (lv_at hl 0 rfl) ?_
  refine mg_X12_279 C hw dX12_declare_28 ?_
  refine lv_iload_n hx hb dX12_declare_31 rfl (lv_at hl 2 rfl) ?_
  obtain ⟨hi, hm⟩ := ix_elim hm
  refine mas_17 C hw hi dX12_declare_32 (fun H locs hw => ?_)
  exact mw_declare_33 fu C hret x1 x3 x4 x5 x6 F (gup G 17 (F 14).toNatClampNeg x2) hm hw (lv_sub hl [0, 1, 3, 4, 5, 6] rfl)
theorem mw_declare_8 (fu : Nat) {res : Int32 × PF × PG} (C : mMC p R s m args c A v RX12 cX12_declare 7 0 0) (hret : ∀ (H1 : Heap) (locs1 : List Loc) (ls1 : Array Slot) (pc : Nat), mMW s A v a res.2.1 res.2.2 H1 locs1 → decode cX12_declare pc = .ok (.return_, 1) → W p l e R s m args below meth c H1 locs1 0 0 Q (F0 m pc ls1 [])) (x1 : Int32) (x2 : Int32) (x3 : Int32) (x4 : Int32) (x5 : Int32) (x6 : Int32) (F : PF) (G : PG) (hm : mb_declare_8 fu x1 x2 x3 x4 x5 x6 F G = some res) {H : Heap} {locs : List Loc} (hw : mMW s A v a F G H locs) {ls : Array Slot} (hl : lv_has ls 7 [(0, .ref (a 212)), (1, .int x1), (2, .int x2), (3, .int x3), (4, .int x4), (5, .int x5), (6, .int x6)]) : W p l e R s m args below meth c H locs 0 0 Q (F0 m 8 ls []) := by
  have hx := C.1
  have hb := C.2.1
  unfold mb_declare_8 at hm
  refine lv_aload_n hx hb dX12_declare_8 rfl (lv_at hl 0 rfl) ?_
  refine mg_X12_37 C hw dX12_declare_9 ?_
  refine lv_aload_n hx hb dX12_declare_12 rfl (lv_at hl 0 rfl) ?_
  refine mg_X12_279 C hw dX12_declare_13 ?_
  refine lv_aload_n hx hb dX12_declare_16 rfl (lv_at hl 0 rfl) ?_
  refine mg_X12_19 C hw dX12_declare_17 ?_
  refine lv_iload_n hx hb dX12_declare_20 rfl (lv_at hl 1 rfl) ?_
  obtain ⟨hi, hm⟩ := ix_elim hm
  refine mal_5 C hw hi dX12_declare_21 ?_
  obtain ⟨hi, hm⟩ := ix_elim hm
  refine mas_16 C hw hi dX12_declare_22 (fun H locs hw => ?_)
  exact mw_declare_23 fu C hret x1 x2 x3 x4 x5 x6 F (gup G 16 (F 14).toNatClampNeg (G 5 x1.toNatClampNeg)) hm hw (lv_sub hl [0, 1, 2, 3, 4, 5, 6] rfl)
theorem mw_declare_7 (fu : Nat) {res : Int32 × PF × PG} (C : mMC p R s m args c A v RX12 cX12_declare 7 0 0) (hret : ∀ (H1 : Heap) (locs1 : List Loc) (ls1 : Array Slot) (pc : Nat), mMW s A v a res.2.1 res.2.2 H1 locs1 → decode cX12_declare pc = .ok (.return_, 1) → W p l e R s m args below meth c H1 locs1 0 0 Q (F0 m pc ls1 [])) (F : PF) (G : PG) (hm : mb_declare_7 fu F G = some res) {H : Heap} {locs : List Loc} (hw : mMW s A v a F G H locs) {ls : Array Slot} (hl : lv_has ls 7 []) : W p l e R s m args below meth c H locs 0 0 Q (F0 m 7 ls []) := by
  have hx := C.1
  have hb := C.2.1
  unfold mb_declare_7 at hm
  obtain rfl := Option.some.inj hm
  exact hret _ _ _ _ hw dX12_declare_7
theorem mw_declare_0 (fu : Nat) {res : Int32 × PF × PG} (C : mMC p R s m args c A v RX12 cX12_declare 7 0 0) (hret : ∀ (H1 : Heap) (locs1 : List Loc) (ls1 : Array Slot) (pc : Nat), mMW s A v a res.2.1 res.2.2 H1 locs1 → decode cX12_declare pc = .ok (.return_, 1) → W p l e R s m args below meth c H1 locs1 0 0 Q (F0 m pc ls1 [])) (x1 : Int32) (x2 : Int32) (x3 : Int32) (x4 : Int32) (x5 : Int32) (x6 : Int32) (F : PF) (G : PG) (hm : mb_declare_0 fu x1 x2 x3 x4 x5 x6 F G = some res) {H : Heap} {locs : List Loc} (hw : mMW s A v a F G H locs) {ls : Array Slot} (hl : lv_has ls 7 [(0, .ref (a 212)), (1, .int x1), (2, .int x2), (3, .int x3), (4, .int x4), (5, .int x5), (6, .int x6)]) : W p l e R s m args below meth c H locs 0 0 Q (F0 m 0 ls []) := by
  have hx := C.1
  have hb := C.2.1
  unfold mb_declare_0 at hm
  refine lv_aload_n hx hb dX12_declare_0 rfl (lv_at hl 0 rfl) ?_
  refine mg_X12_245 C hw dX12_declare_1 ?_
  refine lv_if_ne (tgt := 8) hx hb dX12_declare_4 (by decide) (fun c_1 => ?_) (fun c_1 => ?_)
  · have hm := (if_neg c_1).symm.trans hm
    exact mw_declare_8 fu C hret x1 x2 x3 x4 x5 x6 F G hm hw (lv_sub hl [0, 1, 2, 3, 4, 5, 6] rfl)
  · have hm := (if_pos c_1).symm.trans hm
    exact mw_declare_7 fu C hret F G hm hw (lv_sub hl [] rfl)
theorem mk_declare (l : Launch) (v : EV) (a : Nat → Nat) (sz : Nat) (fu : Nat) (x1 : Int32) (x2 : Int32) (x3 : Int32) (x4 : Int32) (x5 : Int32) (x6 : Int32) (F : PF) (G : PG) (r : Int32) (F1 : PF) (G1 : PG) (hm : mf_declare fu x1 x2 x3 x4 x5 x6 F G = some (r, F1, G1)) : mMV l yX12_declare cX12_declare 7 0 0 v a sz [.ref (a 212), .int x1, .int x2, .int x3, .int x4, .int x5, .int x6] F G F1 G1 := mMV.of (by decide) (Nat.le_of_ble_eq_true rfl) (fun p e R s m args below meth c Q A H locs ls C hw hl hret => mw_declare_0 fu (res := (r, F1, G1)) C hret x1 x2 x3 x4 x5 x6 F G hm hw hl)
def mb_twice_142 (fu : Nat) (F : PF) (G : PG) : PR := some (0, F, G)
def mb_twice_131 (fu : Nat) (x1 : Int32) (F : PF) (G : PG) : PR := if ixb x1 4002 = true then ((mf_note fu 5 (G 6 x1.toNatClampNeg) F G).bind (fun q => mb_twice_142 fu q.2.1 q.2.2)) else none
def mb_twice_127 (fu : Nat) (x1 : Int32) (x2 : Int32) (F : PF) (G : PG) : PR := if x2 = (0 : Int32) then mb_twice_142 fu F G else mb_twice_131 fu x1 F G
def mb_twice_120 (fu : Nat) (ag_66 : Int32 → Int32 → Int32 → PF → PG → PR) (x1 : Int32) (x3 : Int32) (z0 : Int32) (F : PF) (G : PG) : PR := ag_66 x1 z0 (x3 + 1) F G
def mb_twice_115 (fu : Nat) (ag_66 : Int32 → Int32 → Int32 → PF → PG → PR) (x1 : Int32) (x3 : Int32) (F : PF) (G : PG) : PR := mb_twice_120 fu ag_66 x1 x3 1 F G
def mb_twice_119 (fu : Nat) (ag_66 : Int32 → Int32 → Int32 → PF → PG → PR) (x1 : Int32) (x3 : Int32) (F : PF) (G : PG) : PR := mb_twice_120 fu ag_66 x1 x3 0 F G
def mb_twice_100 (fu : Nat) (ag_66 : Int32 → Int32 → Int32 → PF → PG → PR) (x1 : Int32) (x3 : Int32) (F : PF) (G : PG) : PR := if ixb x3 500 = true then (if ixb x1 4002 = true then (if (G 6 x1.toNatClampNeg) ≤ (G 26 x3.toNatClampNeg) then mb_twice_119 fu ag_66 x1 x3 F G else mb_twice_115 fu ag_66 x1 x3 F G) else none) else none
def mb_twice_85 (fu : Nat) (ag_66 : Int32 → Int32 → Int32 → PF → PG → PR) (x1 : Int32) (x3 : Int32) (F : PF) (G : PG) : PR := if ixb x3 500 = true then (if ixb x1 4002 = true then (if (G 25 x3.toNatClampNeg) = (G 5 x1.toNatClampNeg) then mb_twice_100 fu ag_66 x1 x3 F G else mb_twice_119 fu ag_66 x1 x3 F G) else none) else none
def mb_twice_81 (fu : Nat) (ag_66 : Int32 → Int32 → Int32 → PF → PG → PR) (x1 : Int32) (x2 : Int32) (x3 : Int32) (F : PF) (G : PG) : PR := if x2 = (0 : Int32) then mb_twice_85 fu ag_66 x1 x3 F G else mb_twice_115 fu ag_66 x1 x3 F G
def mb_twice_74 (fu : Nat) (ag_66 : Int32 → Int32 → Int32 → PF → PG → PR) (x1 : Int32) (x2 : Int32) (x3 : Int32) (F : PF) (G : PG) : PR := if (F 15) = (0 : Int32) then mb_twice_81 fu ag_66 x1 x2 x3 F G else mb_twice_127 fu x1 x2 F G
def mb_twice_66 (fu : Nat) (ag_66 : Int32 → Int32 → Int32 → PF → PG → PR) (x1 : Int32) (x2 : Int32) (x3 : Int32) (F : PF) (G : PG) : PR := if (F 24) ≤ x3 then mb_twice_127 fu x1 x2 F G else mb_twice_74 fu ag_66 x1 x2 x3 F G
def ml_twice_66 (fu : Nat) : Nat → Int32 → Int32 → Int32 → PF → PG → PR
  | 0 => fun _ _ _ _ _ => none
  | n + 1 => fun x1 x2 x3 F G => mb_twice_66 fu (ml_twice_66 fu n) x1 x2 x3 F G
def mb_twice_64 (fu : Nat) (x1 : Int32) (x2 : Int32) (F : PF) (G : PG) : PR := ml_twice_66 fu fu x1 x2 0 F G
def mb_twice_57 (fu : Nat) (ag_12 : Int32 → Int32 → Int32 → PF → PG → PR) (x1 : Int32) (x3 : Int32) (z0 : Int32) (F : PF) (G : PG) : PR := ag_12 x1 z0 (x3 + 1) F G
def mb_twice_52 (fu : Nat) (ag_12 : Int32 → Int32 → Int32 → PF → PG → PR) (x1 : Int32) (x3 : Int32) (F : PF) (G : PG) : PR := mb_twice_57 fu ag_12 x1 x3 1 F G
def mb_twice_56 (fu : Nat) (ag_12 : Int32 → Int32 → Int32 → PF → PG → PR) (x1 : Int32) (x3 : Int32) (F : PF) (G : PG) : PR := mb_twice_57 fu ag_12 x1 x3 0 F G
def mb_twice_37 (fu : Nat) (ag_12 : Int32 → Int32 → Int32 → PF → PG → PR) (x1 : Int32) (x3 : Int32) (F : PF) (G : PG) : PR := if ixb x3 900 = true then (if ixb x1 4002 = true then (if (G 16 x3.toNatClampNeg) = (G 5 x1.toNatClampNeg) then mb_twice_52 fu ag_12 x1 x3 F G else mb_twice_56 fu ag_12 x1 x3 F G) else none) else none
def mb_twice_24 (fu : Nat) (ag_12 : Int32 → Int32 → Int32 → PF → PG → PR) (x1 : Int32) (x3 : Int32) (F : PF) (G : PG) : PR := if ixb x3 900 = true then (if (G 19 x3.toNatClampNeg) = (F 15) then mb_twice_37 fu ag_12 x1 x3 F G else mb_twice_56 fu ag_12 x1 x3 F G) else none
def mb_twice_20 (fu : Nat) (ag_12 : Int32 → Int32 → Int32 → PF → PG → PR) (x1 : Int32) (x2 : Int32) (x3 : Int32) (F : PF) (G : PG) : PR := if x2 = (0 : Int32) then mb_twice_24 fu ag_12 x1 x3 F G else mb_twice_52 fu ag_12 x1 x3 F G
def mb_twice_12 (fu : Nat) (ag_12 : Int32 → Int32 → Int32 → PF → PG → PR) (x1 : Int32) (x2 : Int32) (x3 : Int32) (F : PF) (G : PG) : PR := if (F 14) ≤ x3 then mb_twice_64 fu x1 x2 F G else mb_twice_20 fu ag_12 x1 x2 x3 F G
def ml_twice_12 (fu : Nat) : Nat → Int32 → Int32 → Int32 → PF → PG → PR
  | 0 => fun _ _ _ _ _ => none
  | n + 1 => fun x1 x2 x3 F G => mb_twice_12 fu (ml_twice_12 fu n) x1 x2 x3 F G
def mb_twice_8 (fu : Nat) (x1 : Int32) (F : PF) (G : PG) : PR := ml_twice_12 fu fu x1 0 0 F G
def mb_twice_7 (fu : Nat) (F : PF) (G : PG) : PR := some (0, F, G)
def mb_twice_0 (fu : Nat) (x1 : Int32) (F : PF) (G : PG) : PR := if (F 46) = (0 : Int32) then mb_twice_7 fu F G else mb_twice_8 fu x1 F G
def mf_twice (fu : Nat) (x1 : Int32) (F : PF) (G : PG) : PR := mb_twice_0 fu x1 F G
theorem mw_twice_142 (fu : Nat) {res : Int32 × PF × PG} (C : mMC p R s m args c A v RX12 cX12_twice 4 2 45) (hret : ∀ (H1 : Heap) (locs1 : List Loc) (ls1 : Array Slot) (pc : Nat), mMW s A v a res.2.1 res.2.2 H1 locs1 → decode cX12_twice pc = .ok (.return_, 1) → W p l e R s m args below meth c H1 locs1 0 0 Q (F0 m pc ls1 [])) (F : PF) (G : PG) (hm : mb_twice_142 fu F G = some res) {H : Heap} {locs : List Loc} (hw : mMW s A v a F G H locs) {ls : Array Slot} (hl : lv_has ls 4 []) : W p l e R s m args below meth c H locs 0 0 Q (F0 m 142 ls []) := by
  have hx := C.1
  have hb := C.2.1
  unfold mb_twice_142 at hm
  obtain rfl := Option.some.inj hm
  exact hret _ _ _ _ hw dX12_twice_142
theorem mw_twice_131 (fu : Nat) {res : Int32 × PF × PG} (C : mMC p R s m args c A v RX12 cX12_twice 4 2 45) (hret : ∀ (H1 : Heap) (locs1 : List Loc) (ls1 : Array Slot) (pc : Nat), mMW s A v a res.2.1 res.2.2 H1 locs1 → decode cX12_twice pc = .ok (.return_, 1) → W p l e R s m args below meth c H1 locs1 0 0 Q (F0 m pc ls1 [])) (x1 : Int32) (F : PF) (G : PG) (hm : mb_twice_131 fu x1 F G = some res) {H : Heap} {locs : List Loc} (hw : mMW s A v a F G H locs) {ls : Array Slot} (hl : lv_has ls 4 [(0, .ref (a 212)), (1, .int x1)]) : W p l e R s m args below meth c H locs 0 0 Q (F0 m 131 ls []) := by
  have hx := C.1
  have hb := C.2.1
  unfold mb_twice_131 at hm
  refine lv_aload_n hx hb dX12_twice_131 rfl (lv_at hl 0 rfl) ?_
  refine lv_iconst (v := 5) hx hb dX12_twice_132 (by decide) ?_
  refine lv_aload_n hx hb dX12_twice_133 rfl (lv_at hl 0 rfl) ?_
  refine mg_X12_22 C hw dX12_twice_134 ?_
  refine lv_iload_n hx hb dX12_twice_137 rfl (lv_at hl 1 rfl) ?_
  obtain ⟨hi, hm⟩ := ix_elim hm
  refine mal_6 C hw hi dX12_twice_138 ?_
  obtain ⟨⟨r1, F1, G1⟩, hc, hm⟩ := bind_elim hm
  refine mcallV (n := 2) (As := [.int 5, .int (G 6 x1.toNatClampNeg)]) (rest := []) C hw (mk_note l v a _ fu 5 (G 6 x1.toNatClampNeg) F G r1 F1 G1 hc) (mrecv_X12 C hw) mm_220 mm_221 mm_222 mm_27 mm_223 (by decide +kernel) rfl (by omega) (by omega) hl.1 rfl (Nat.le_of_ble_eq_true rfl) dX12_twice_139 (fun H locs hw => ?_)
  exact mw_twice_142 fu C hret F1 G1 hm hw (lv_sub hl [] rfl)
theorem mw_twice_127 (fu : Nat) {res : Int32 × PF × PG} (C : mMC p R s m args c A v RX12 cX12_twice 4 2 45) (hret : ∀ (H1 : Heap) (locs1 : List Loc) (ls1 : Array Slot) (pc : Nat), mMW s A v a res.2.1 res.2.2 H1 locs1 → decode cX12_twice pc = .ok (.return_, 1) → W p l e R s m args below meth c H1 locs1 0 0 Q (F0 m pc ls1 [])) (x1 : Int32) (x2 : Int32) (F : PF) (G : PG) (hm : mb_twice_127 fu x1 x2 F G = some res) {H : Heap} {locs : List Loc} (hw : mMW s A v a F G H locs) {ls : Array Slot} (hl : lv_has ls 4 [(0, .ref (a 212)), (1, .int x1), (2, .int x2)]) : W p l e R s m args below meth c H locs 0 0 Q (F0 m 127 ls []) := by
  have hx := C.1
  have hb := C.2.1
  unfold mb_twice_127 at hm
  refine lv_iload_n hx hb dX12_twice_127 rfl (lv_at hl 2 rfl) ?_
  refine lv_if_eq (tgt := 142) hx hb dX12_twice_128 (by decide) (fun c_1 => ?_) (fun c_1 => ?_)
  · have hm := (if_pos c_1).symm.trans hm
    exact mw_twice_142 fu C hret F G hm hw (lv_sub hl [] rfl)
  · have hm := (if_neg c_1).symm.trans hm
    exact mw_twice_131 fu C hret x1 F G hm hw (lv_sub hl [0, 1] rfl)
theorem mw_twice_120 (fu : Nat) {res : Int32 × PF × PG} (C : mMC p R s m args c A v RX12 cX12_twice 4 2 45) (hret : ∀ (H1 : Heap) (locs1 : List Loc) (ls1 : Array Slot) (pc : Nat), mMW s A v a res.2.1 res.2.2 H1 locs1 → decode cX12_twice pc = .ok (.return_, 1) → W p l e R s m args below meth c H1 locs1 0 0 Q (F0 m pc ls1 [])) (ag_66 : Int32 → Int32 → Int32 → PF → PG → PR) (hag_66 : ∀ (x1 : Int32) (x2 : Int32) (x3 : Int32) (F : PF) (G : PG), ag_66 x1 x2 x3 F G = some res → ∀ (H : Heap) (locs : List Loc) (ls : Array Slot), mMW s A v a F G H locs → lv_has ls 4 [(0, .ref (a 212)), (1, .int x1), (2, .int x2), (3, .int x3)] → W p l e R s m args below meth c H locs 0 0 Q (F0 m 66 ls [])) (x1 : Int32) (x3 : Int32) (z0 : Int32) (F : PF) (G : PG) (hm : mb_twice_120 fu ag_66 x1 x3 z0 F G = some res) {H : Heap} {locs : List Loc} (hw : mMW s A v a F G H locs) {ls : Array Slot} (hl : lv_has ls 4 [(0, .ref (a 212)), (1, .int x1), (3, .int x3)]) : W p l e R s m args below meth c H locs 0 0 Q (F0 m 120 ls [.int z0]) := by
  have hx := C.1
  have hb := C.2.1
  unfold mb_twice_120 at hm
  refine lv_istore_n (lv' := [(2, .int z0), (0, .ref (a 212)), (1, .int x1), (3, .int x3)]) hx hb dX12_twice_120 rfl hl (by decide) rfl (fun ls hl => ?_)
  refine lv_iinc (v := (x3 + 1)) (lv' := [(3, .int (x3 + 1)), (2, .int z0), (0, .ref (a 212)), (1, .int x1)]) hx hb dX12_twice_121 hl (k := 3) rfl (by rfl) (by decide) rfl (fun ls hl => ?_)
  refine lv_goto (tgt := 66) hx hb dX12_twice_124 (by decide) ?_
  exact hag_66 x1 z0 (x3 + 1) F G hm _ _ _ hw (lv_sub hl [2, 3, 1, 0] rfl)
theorem mw_twice_115 (fu : Nat) {res : Int32 × PF × PG} (C : mMC p R s m args c A v RX12 cX12_twice 4 2 45) (hret : ∀ (H1 : Heap) (locs1 : List Loc) (ls1 : Array Slot) (pc : Nat), mMW s A v a res.2.1 res.2.2 H1 locs1 → decode cX12_twice pc = .ok (.return_, 1) → W p l e R s m args below meth c H1 locs1 0 0 Q (F0 m pc ls1 [])) (ag_66 : Int32 → Int32 → Int32 → PF → PG → PR) (hag_66 : ∀ (x1 : Int32) (x2 : Int32) (x3 : Int32) (F : PF) (G : PG), ag_66 x1 x2 x3 F G = some res → ∀ (H : Heap) (locs : List Loc) (ls : Array Slot), mMW s A v a F G H locs → lv_has ls 4 [(0, .ref (a 212)), (1, .int x1), (2, .int x2), (3, .int x3)] → W p l e R s m args below meth c H locs 0 0 Q (F0 m 66 ls [])) (x1 : Int32) (x3 : Int32) (F : PF) (G : PG) (hm : mb_twice_115 fu ag_66 x1 x3 F G = some res) {H : Heap} {locs : List Loc} (hw : mMW s A v a F G H locs) {ls : Array Slot} (hl : lv_has ls 4 [(0, .ref (a 212)), (1, .int x1), (3, .int x3)]) : W p l e R s m args below meth c H locs 0 0 Q (F0 m 115 ls []) := by
  have hx := C.1
  have hb := C.2.1
  unfold mb_twice_115 at hm
  refine lv_iconst (v := 1) hx hb dX12_twice_115 (by decide) ?_
  refine lv_goto (tgt := 120) hx hb dX12_twice_116 (by decide) ?_
  exact mw_twice_120 fu C hret ag_66 hag_66 x1 x3 1 F G hm hw (lv_sub hl [0, 1, 2] rfl)
theorem mw_twice_119 (fu : Nat) {res : Int32 × PF × PG} (C : mMC p R s m args c A v RX12 cX12_twice 4 2 45) (hret : ∀ (H1 : Heap) (locs1 : List Loc) (ls1 : Array Slot) (pc : Nat), mMW s A v a res.2.1 res.2.2 H1 locs1 → decode cX12_twice pc = .ok (.return_, 1) → W p l e R s m args below meth c H1 locs1 0 0 Q (F0 m pc ls1 [])) (ag_66 : Int32 → Int32 → Int32 → PF → PG → PR) (hag_66 : ∀ (x1 : Int32) (x2 : Int32) (x3 : Int32) (F : PF) (G : PG), ag_66 x1 x2 x3 F G = some res → ∀ (H : Heap) (locs : List Loc) (ls : Array Slot), mMW s A v a F G H locs → lv_has ls 4 [(0, .ref (a 212)), (1, .int x1), (2, .int x2), (3, .int x3)] → W p l e R s m args below meth c H locs 0 0 Q (F0 m 66 ls [])) (x1 : Int32) (x3 : Int32) (F : PF) (G : PG) (hm : mb_twice_119 fu ag_66 x1 x3 F G = some res) {H : Heap} {locs : List Loc} (hw : mMW s A v a F G H locs) {ls : Array Slot} (hl : lv_has ls 4 [(0, .ref (a 212)), (1, .int x1), (3, .int x3)]) : W p l e R s m args below meth c H locs 0 0 Q (F0 m 119 ls []) := by
  have hx := C.1
  have hb := C.2.1
  unfold mb_twice_119 at hm
  refine lv_iconst (v := 0) hx hb dX12_twice_119 (by decide) ?_
  exact mw_twice_120 fu C hret ag_66 hag_66 x1 x3 0 F G hm hw (lv_sub hl [0, 1, 2] rfl)
theorem mw_twice_100 (fu : Nat) {res : Int32 × PF × PG} (C : mMC p R s m args c A v RX12 cX12_twice 4 2 45) (hret : ∀ (H1 : Heap) (locs1 : List Loc) (ls1 : Array Slot) (pc : Nat), mMW s A v a res.2.1 res.2.2 H1 locs1 → decode cX12_twice pc = .ok (.return_, 1) → W p l e R s m args below meth c H1 locs1 0 0 Q (F0 m pc ls1 [])) (ag_66 : Int32 → Int32 → Int32 → PF → PG → PR) (hag_66 : ∀ (x1 : Int32) (x2 : Int32) (x3 : Int32) (F : PF) (G : PG), ag_66 x1 x2 x3 F G = some res → ∀ (H : Heap) (locs : List Loc) (ls : Array Slot), mMW s A v a F G H locs → lv_has ls 4 [(0, .ref (a 212)), (1, .int x1), (2, .int x2), (3, .int x3)] → W p l e R s m args below meth c H locs 0 0 Q (F0 m 66 ls [])) (x1 : Int32) (x3 : Int32) (F : PF) (G : PG) (hm : mb_twice_100 fu ag_66 x1 x3 F G = some res) {H : Heap} {locs : List Loc} (hw : mMW s A v a F G H locs) {ls : Array Slot} (hl : lv_has ls 4 [(0, .ref (a 212)), (1, .int x1), (3, .int x3)]) : W p l e R s m args below meth c H locs 0 0 Q (F0 m 100 ls []) := by
  have hx := C.1
  have hb := C.2.1
  unfold mb_twice_100 at hm
  refine lv_aload_n hx hb dX12_twice_100 rfl (lv_at hl 0 rfl) ?_
  refine mg_X12_65 C hw dX12_twice_101 ?_
  refine lv_iload_n hx hb dX12_twice_104 rfl (lv_at hl 2 rfl) ?_
  obtain ⟨hi, hm⟩ := ix_elim hm
  refine mal_26 C hw hi dX12_twice_105 ?_
  refine lv_aload_n hx hb dX12_twice_106 rfl (lv_at hl 0 rfl) ?_
  refine mg_X12_22 C hw dX12_twice_107 ?_
  refine lv_iload_n hx hb dX12_twice_110 rfl (lv_at hl 1 rfl) ?_
  obtain ⟨hi, hm⟩ := ix_elim hm
  refine mal_6 C hw hi dX12_twice_111 ?_
  refine lv_icmp_ge (tgt := 119) hx hb dX12_twice_112 (by decide) (fun c_1 => ?_) (fun c_1 => ?_)
  · have hm := (if_pos c_1).symm.trans hm
    exact mw_twice_119 fu C hret ag_66 hag_66 x1 x3 F G hm hw (lv_sub hl [0, 1, 2] rfl)
  · have hm := (if_neg c_1).symm.trans hm
    exact mw_twice_115 fu C hret ag_66 hag_66 x1 x3 F G hm hw (lv_sub hl [0, 1, 2] rfl)
theorem mw_twice_85 (fu : Nat) {res : Int32 × PF × PG} (C : mMC p R s m args c A v RX12 cX12_twice 4 2 45) (hret : ∀ (H1 : Heap) (locs1 : List Loc) (ls1 : Array Slot) (pc : Nat), mMW s A v a res.2.1 res.2.2 H1 locs1 → decode cX12_twice pc = .ok (.return_, 1) → W p l e R s m args below meth c H1 locs1 0 0 Q (F0 m pc ls1 [])) (ag_66 : Int32 → Int32 → Int32 → PF → PG → PR) (hag_66 : ∀ (x1 : Int32) (x2 : Int32) (x3 : Int32) (F : PF) (G : PG), ag_66 x1 x2 x3 F G = some res → ∀ (H : Heap) (locs : List Loc) (ls : Array Slot), mMW s A v a F G H locs → lv_has ls 4 [(0, .ref (a 212)), (1, .int x1), (2, .int x2), (3, .int x3)] → W p l e R s m args below meth c H locs 0 0 Q (F0 m 66 ls [])) (x1 : Int32) (x3 : Int32) (F : PF) (G : PG) (hm : mb_twice_85 fu ag_66 x1 x3 F G = some res) {H : Heap} {locs : List Loc} (hw : mMW s A v a F G H locs) {ls : Array Slot} (hl : lv_has ls 4 [(0, .ref (a 212)), (1, .int x1), (3, .int x3)]) : W p l e R s m args below meth c H locs 0 0 Q (F0 m 85 ls []) := by
  have hx := C.1
  have hb := C.2.1
  unfold mb_twice_85 at hm
  refine lv_aload_n hx hb dX12_twice_85 rfl (lv_at hl 0 rfl) ?_
  refine mg_X12_62 C hw dX12_twice_86 ?_
  refine lv_iload_n hx hb dX12_twice_89 rfl (lv_at hl 2 rfl) ?_
  obtain ⟨hi, hm⟩ := ix_elim hm
  refine mal_25 C hw hi dX12_twice_90 ?_
  refine lv_aload_n hx hb dX12_twice_91 rfl (lv_at hl 0 rfl) ?_
  refine mg_X12_19 C hw dX12_twice_92 ?_
  refine lv_iload_n hx hb dX12_twice_95 rfl (lv_at hl 1 rfl) ?_
  obtain ⟨hi, hm⟩ := ix_elim hm
  refine mal_5 C hw hi dX12_twice_96 ?_
  refine lv_icmp_ne (tgt := 119) hx hb dX12_twice_97 (by decide) (fun c_1 => ?_) (fun c_1 => ?_)
  · have hm := (if_neg c_1).symm.trans hm
    exact mw_twice_119 fu C hret ag_66 hag_66 x1 x3 F G hm hw (lv_sub hl [0, 1, 2] rfl)
  · have hm := (if_pos c_1).symm.trans hm
    exact mw_twice_100 fu C hret ag_66 hag_66 x1 x3 F G hm hw (lv_sub hl [0, 1, 2] rfl)
theorem mw_twice_81 (fu : Nat) {res : Int32 × PF × PG} (C : mMC p R s m args c A v RX12 cX12_twice 4 2 45) (hret : ∀ (H1 : Heap) (locs1 : List Loc) (ls1 : Array Slot) (pc : Nat), mMW s A v a res.2.1 res.2.2 H1 locs1 → decode cX12_twice pc = .ok (.return_, 1) → W p l e R s m args below meth c H1 locs1 0 0 Q (F0 m pc ls1 [])) (ag_66 : Int32 → Int32 → Int32 → PF → PG → PR) (hag_66 : ∀ (x1 : Int32) (x2 : Int32) (x3 : Int32) (F : PF) (G : PG), ag_66 x1 x2 x3 F G = some res → ∀ (H : Heap) (locs : List Loc) (ls : Array Slot), mMW s A v a F G H locs → lv_has ls 4 [(0, .ref (a 212)), (1, .int x1), (2, .int x2), (3, .int x3)] → W p l e R s m args below meth c H locs 0 0 Q (F0 m 66 ls [])) (x1 : Int32) (x2 : Int32) (x3 : Int32) (F : PF) (G : PG) (hm : mb_twice_81 fu ag_66 x1 x2 x3 F G = some res) {H : Heap} {locs : List Loc} (hw : mMW s A v a F G H locs) {ls : Array Slot} (hl : lv_has ls 4 [(0, .ref (a 212)), (1, .int x1), (2, .int x2), (3, .int x3)]) : W p l e R s m args below meth c H locs 0 0 Q (F0 m 81 ls []) := by
  have hx := C.1
  have hb := C.2.1
  unfold mb_twice_81 at hm
  refine lv_iload_n hx hb dX12_twice_81 rfl (lv_at hl 2 rfl) ?_
  refine lv_if_ne (tgt := 115) hx hb dX12_twice_82 (by decide) (fun c_1 => ?_) (fun c_1 => ?_)
  · have hm := (if_neg c_1).symm.trans hm
    exact mw_twice_115 fu C hret ag_66 hag_66 x1 x3 F G hm hw (lv_sub hl [0, 1, 3] rfl)
  · have hm := (if_pos c_1).symm.trans hm
    exact mw_twice_85 fu C hret ag_66 hag_66 x1 x3 F G hm hw (lv_sub hl [0, 1, 3] rfl)
theorem mw_twice_74 (fu : Nat) {res : Int32 × PF × PG} (C : mMC p R s m args c A v RX12 cX12_twice 4 2 45) (hret : ∀ (H1 : Heap) (locs1 : List Loc) (ls1 : Array Slot) (pc : Nat), mMW s A v a res.2.1 res.2.2 H1 locs1 → decode cX12_twice pc = .ok (.return_, 1) → W p l e R s m args below meth c H1 locs1 0 0 Q (F0 m pc ls1 [])) (ag_66 : Int32 → Int32 → Int32 → PF → PG → PR) (hag_66 : ∀ (x1 : Int32) (x2 : Int32) (x3 : Int32) (F : PF) (G : PG), ag_66 x1 x2 x3 F G = some res → ∀ (H : Heap) (locs : List Loc) (ls : Array Slot), mMW s A v a F G H locs → lv_has ls 4 [(0, .ref (a 212)), (1, .int x1), (2, .int x2), (3, .int x3)] → W p l e R s m args below meth c H locs 0 0 Q (F0 m 66 ls [])) (x1 : Int32) (x2 : Int32) (x3 : Int32) (F : PF) (G : PG) (hm : mb_twice_74 fu ag_66 x1 x2 x3 F G = some res) {H : Heap} {locs : List Loc} (hw : mMW s A v a F G H locs) {ls : Array Slot} (hl : lv_has ls 4 [(0, .ref (a 212)), (1, .int x1), (2, .int x2), (3, .int x3)]) : W p l e R s m args below meth c H locs 0 0 Q (F0 m 74 ls []) := by
  have hx := C.1
  have hb := C.2.1
  unfold mb_twice_74 at hm
  refine lv_aload_n hx hb dX12_twice_74 rfl (lv_at hl 0 rfl) ?_
  refine mg_X12_282 C hw dX12_twice_75 ?_
  refine lv_if_ne (tgt := 127) hx hb dX12_twice_78 (by decide) (fun c_1 => ?_) (fun c_1 => ?_)
  · have hm := (if_neg c_1).symm.trans hm
    exact mw_twice_127 fu C hret x1 x2 F G hm hw (lv_sub hl [0, 1, 2] rfl)
  · have hm := (if_pos c_1).symm.trans hm
    exact mw_twice_81 fu C hret ag_66 hag_66 x1 x2 x3 F G hm hw (lv_sub hl [0, 1, 2, 3] rfl)
theorem mw_twice_66 (fu : Nat) {res : Int32 × PF × PG} (C : mMC p R s m args c A v RX12 cX12_twice 4 2 45) (hret : ∀ (H1 : Heap) (locs1 : List Loc) (ls1 : Array Slot) (pc : Nat), mMW s A v a res.2.1 res.2.2 H1 locs1 → decode cX12_twice pc = .ok (.return_, 1) → W p l e R s m args below meth c H1 locs1 0 0 Q (F0 m pc ls1 [])) (ag_66 : Int32 → Int32 → Int32 → PF → PG → PR) (hag_66 : ∀ (x1 : Int32) (x2 : Int32) (x3 : Int32) (F : PF) (G : PG), ag_66 x1 x2 x3 F G = some res → ∀ (H : Heap) (locs : List Loc) (ls : Array Slot), mMW s A v a F G H locs → lv_has ls 4 [(0, .ref (a 212)), (1, .int x1), (2, .int x2), (3, .int x3)] → W p l e R s m args below meth c H locs 0 0 Q (F0 m 66 ls [])) (x1 : Int32) (x2 : Int32) (x3 : Int32) (F : PF) (G : PG) (hm : mb_twice_66 fu ag_66 x1 x2 x3 F G = some res) {H : Heap} {locs : List Loc} (hw : mMW s A v a F G H locs) {ls : Array Slot} (hl : lv_has ls 4 [(0, .ref (a 212)), (1, .int x1), (2, .int x2), (3, .int x3)]) : W p l e R s m args below meth c H locs 0 0 Q (F0 m 66 ls []) := by
  have hx := C.1
  have hb := C.2.1
  unfold mb_twice_66 at hm
  refine lv_iload_n hx hb dX12_twice_66 rfl (lv_at hl 3 rfl) ?_
  refine lv_aload_n hx hb dX12_twice_67 rfl (lv_at hl 0 rfl) ?_
  refine mg_X12_297 C hw dX12_twice_68 ?_
  refine lv_icmp_ge (tgt := 127) hx hb dX12_twice_71 (by decide) (fun c_1 => ?_) (fun c_1 => ?_)
  · have hm := (if_pos c_1).symm.trans hm
    exact mw_twice_127 fu C hret x1 x2 F G hm hw (lv_sub hl [0, 1, 2] rfl)
  · have hm := (if_neg c_1).symm.trans hm
    exact mw_twice_74 fu C hret ag_66 hag_66 x1 x2 x3 F G hm hw (lv_sub hl [0, 1, 2, 3] rfl)
theorem mwl_twice_66 (fu : Nat) {res : Int32 × PF × PG} (C : mMC p R s m args c A v RX12 cX12_twice 4 2 45) (hret : ∀ (H1 : Heap) (locs1 : List Loc) (ls1 : Array Slot) (pc : Nat), mMW s A v a res.2.1 res.2.2 H1 locs1 → decode cX12_twice pc = .ok (.return_, 1) → W p l e R s m args below meth c H1 locs1 0 0 Q (F0 m pc ls1 [])) : ∀ (n : Nat) (x1 : Int32) (x2 : Int32) (x3 : Int32) (F : PF) (G : PG) (hm : ml_twice_66 fu n x1 x2 x3 F G = some res) {H : Heap} {locs : List Loc} (hw : mMW s A v a F G H locs) {ls : Array Slot} (hl : lv_has ls 4 [(0, .ref (a 212)), (1, .int x1), (2, .int x2), (3, .int x3)]), W p l e R s m args below meth c H locs 0 0 Q (F0 m 66 ls []) := by
  intro n
  induction n with
  | zero =>
    intro x1 x2 x3 F G hm
    exact no_elim (show (none : PR) = some res from hm)
  | succ n ih =>
    intro x1 x2 x3 F G hm H locs hw ls hl
    exact mw_twice_66 fu C hret (ml_twice_66 fu n) (fun x1 x2 x3 F G hm H locs ls hw hl => ih x1 x2 x3 F G hm hw hl) x1 x2 x3 F G hm hw hl
theorem mw_twice_64 (fu : Nat) {res : Int32 × PF × PG} (C : mMC p R s m args c A v RX12 cX12_twice 4 2 45) (hret : ∀ (H1 : Heap) (locs1 : List Loc) (ls1 : Array Slot) (pc : Nat), mMW s A v a res.2.1 res.2.2 H1 locs1 → decode cX12_twice pc = .ok (.return_, 1) → W p l e R s m args below meth c H1 locs1 0 0 Q (F0 m pc ls1 [])) (x1 : Int32) (x2 : Int32) (F : PF) (G : PG) (hm : mb_twice_64 fu x1 x2 F G = some res) {H : Heap} {locs : List Loc} (hw : mMW s A v a F G H locs) {ls : Array Slot} (hl : lv_has ls 4 [(0, .ref (a 212)), (1, .int x1), (2, .int x2)]) : W p l e R s m args below meth c H locs 0 0 Q (F0 m 64 ls []) := by
  have hx := C.1
  have hb := C.2.1
  unfold mb_twice_64 at hm
  refine lv_iconst (v := 0) hx hb dX12_twice_64 (by decide) ?_
  refine lv_istore_n (lv' := [(3, .int 0), (0, .ref (a 212)), (1, .int x1), (2, .int x2)]) hx hb dX12_twice_65 rfl hl (by decide) rfl (fun ls hl => ?_)
  exact mwl_twice_66 fu C hret fu x1 x2 0 F G hm hw (lv_sub hl [1, 2, 3, 0] rfl)
theorem mw_twice_57 (fu : Nat) {res : Int32 × PF × PG} (C : mMC p R s m args c A v RX12 cX12_twice 4 2 45) (hret : ∀ (H1 : Heap) (locs1 : List Loc) (ls1 : Array Slot) (pc : Nat), mMW s A v a res.2.1 res.2.2 H1 locs1 → decode cX12_twice pc = .ok (.return_, 1) → W p l e R s m args below meth c H1 locs1 0 0 Q (F0 m pc ls1 [])) (ag_12 : Int32 → Int32 → Int32 → PF → PG → PR) (hag_12 : ∀ (x1 : Int32) (x2 : Int32) (x3 : Int32) (F : PF) (G : PG), ag_12 x1 x2 x3 F G = some res → ∀ (H : Heap) (locs : List Loc) (ls : Array Slot), mMW s A v a F G H locs → lv_has ls 4 [(0, .ref (a 212)), (1, .int x1), (2, .int x2), (3, .int x3)] → W p l e R s m args below meth c H locs 0 0 Q (F0 m 12 ls [])) (x1 : Int32) (x3 : Int32) (z0 : Int32) (F : PF) (G : PG) (hm : mb_twice_57 fu ag_12 x1 x3 z0 F G = some res) {H : Heap} {locs : List Loc} (hw : mMW s A v a F G H locs) {ls : Array Slot} (hl : lv_has ls 4 [(0, .ref (a 212)), (1, .int x1), (3, .int x3)]) : W p l e R s m args below meth c H locs 0 0 Q (F0 m 57 ls [.int z0]) := by
  have hx := C.1
  have hb := C.2.1
  unfold mb_twice_57 at hm
  refine lv_istore_n (lv' := [(2, .int z0), (0, .ref (a 212)), (1, .int x1), (3, .int x3)]) hx hb dX12_twice_57 rfl hl (by decide) rfl (fun ls hl => ?_)
  refine lv_iinc (v := (x3 + 1)) (lv' := [(3, .int (x3 + 1)), (2, .int z0), (0, .ref (a 212)), (1, .int x1)]) hx hb dX12_twice_58 hl (k := 3) rfl (by rfl) (by decide) rfl (fun ls hl => ?_)
  refine lv_goto (tgt := 12) hx hb dX12_twice_61 (by decide) ?_
  exact hag_12 x1 z0 (x3 + 1) F G hm _ _ _ hw (lv_sub hl [2, 3, 1, 0] rfl)
theorem mw_twice_52 (fu : Nat) {res : Int32 × PF × PG} (C : mMC p R s m args c A v RX12 cX12_twice 4 2 45) (hret : ∀ (H1 : Heap) (locs1 : List Loc) (ls1 : Array Slot) (pc : Nat), mMW s A v a res.2.1 res.2.2 H1 locs1 → decode cX12_twice pc = .ok (.return_, 1) → W p l e R s m args below meth c H1 locs1 0 0 Q (F0 m pc ls1 [])) (ag_12 : Int32 → Int32 → Int32 → PF → PG → PR) (hag_12 : ∀ (x1 : Int32) (x2 : Int32) (x3 : Int32) (F : PF) (G : PG), ag_12 x1 x2 x3 F G = some res → ∀ (H : Heap) (locs : List Loc) (ls : Array Slot), mMW s A v a F G H locs → lv_has ls 4 [(0, .ref (a 212)), (1, .int x1), (2, .int x2), (3, .int x3)] → W p l e R s m args below meth c H locs 0 0 Q (F0 m 12 ls [])) (x1 : Int32) (x3 : Int32) (F : PF) (G : PG) (hm : mb_twice_52 fu ag_12 x1 x3 F G = some res) {H : Heap} {locs : List Loc} (hw : mMW s A v a F G H locs) {ls : Array Slot} (hl : lv_has ls 4 [(0, .ref (a 212)), (1, .int x1), (3, .int x3)]) : W p l e R s m args below meth c H locs 0 0 Q (F0 m 52 ls []) := by
  have hx := C.1
  have hb := C.2.1
  unfold mb_twice_52 at hm
  refine lv_iconst (v := 1) hx hb dX12_twice_52 (by decide) ?_
  refine lv_goto (tgt := 57) hx hb dX12_twice_53 (by decide) ?_
  exact mw_twice_57 fu C hret ag_12 hag_12 x1 x3 1 F G hm hw (lv_sub hl [0, 1, 2] rfl)
theorem mw_twice_56 (fu : Nat) {res : Int32 × PF × PG} (C : mMC p R s m args c A v RX12 cX12_twice 4 2 45) (hret : ∀ (H1 : Heap) (locs1 : List Loc) (ls1 : Array Slot) (pc : Nat), mMW s A v a res.2.1 res.2.2 H1 locs1 → decode cX12_twice pc = .ok (.return_, 1) → W p l e R s m args below meth c H1 locs1 0 0 Q (F0 m pc ls1 [])) (ag_12 : Int32 → Int32 → Int32 → PF → PG → PR) (hag_12 : ∀ (x1 : Int32) (x2 : Int32) (x3 : Int32) (F : PF) (G : PG), ag_12 x1 x2 x3 F G = some res → ∀ (H : Heap) (locs : List Loc) (ls : Array Slot), mMW s A v a F G H locs → lv_has ls 4 [(0, .ref (a 212)), (1, .int x1), (2, .int x2), (3, .int x3)] → W p l e R s m args below meth c H locs 0 0 Q (F0 m 12 ls [])) (x1 : Int32) (x3 : Int32) (F : PF) (G : PG) (hm : mb_twice_56 fu ag_12 x1 x3 F G = some res) {H : Heap} {locs : List Loc} (hw : mMW s A v a F G H locs) {ls : Array Slot} (hl : lv_has ls 4 [(0, .ref (a 212)), (1, .int x1), (3, .int x3)]) : W p l e R s m args below meth c H locs 0 0 Q (F0 m 56 ls []) := by
  have hx := C.1
  have hb := C.2.1
  unfold mb_twice_56 at hm
  refine lv_iconst (v := 0) hx hb dX12_twice_56 (by decide) ?_
  exact mw_twice_57 fu C hret ag_12 hag_12 x1 x3 0 F G hm hw (lv_sub hl [0, 1, 2] rfl)
theorem mw_twice_37 (fu : Nat) {res : Int32 × PF × PG} (C : mMC p R s m args c A v RX12 cX12_twice 4 2 45) (hret : ∀ (H1 : Heap) (locs1 : List Loc) (ls1 : Array Slot) (pc : Nat), mMW s A v a res.2.1 res.2.2 H1 locs1 → decode cX12_twice pc = .ok (.return_, 1) → W p l e R s m args below meth c H1 locs1 0 0 Q (F0 m pc ls1 [])) (ag_12 : Int32 → Int32 → Int32 → PF → PG → PR) (hag_12 : ∀ (x1 : Int32) (x2 : Int32) (x3 : Int32) (F : PF) (G : PG), ag_12 x1 x2 x3 F G = some res → ∀ (H : Heap) (locs : List Loc) (ls : Array Slot), mMW s A v a F G H locs → lv_has ls 4 [(0, .ref (a 212)), (1, .int x1), (2, .int x2), (3, .int x3)] → W p l e R s m args below meth c H locs 0 0 Q (F0 m 12 ls [])) (x1 : Int32) (x3 : Int32) (F : PF) (G : PG) (hm : mb_twice_37 fu ag_12 x1 x3 F G = some res) {H : Heap} {locs : List Loc} (hw : mMW s A v a F G H locs) {ls : Array Slot} (hl : lv_has ls 4 [(0, .ref (a 212)), (1, .int x1), (3, .int x3)]) : W p l e R s m args below meth c H locs 0 0 Q (F0 m 37 ls []) := by
  have hx := C.1
  have hb := C.2.1
  unfold mb_twice_37 at hm
  refine lv_aload_n hx hb dX12_twice_37 rfl (lv_at hl 0 rfl) ?_
  refine mg_X12_37 C hw dX12_twice_38 ?_
  refine lv_iload_n hx hb dX12_twice_41 rfl (lv_at hl 2 rfl) ?_
  obtain ⟨hi, hm⟩ := ix_elim hm
  refine mal_16 C hw hi dX12_twice_42 ?_
  refine lv_aload_n hx hb dX12_twice_43 rfl (lv_at hl 0 rfl) ?_
  refine mg_X12_19 C hw dX12_twice_44 ?_
  refine lv_iload_n hx hb dX12_twice_47 rfl (lv_at hl 1 rfl) ?_
  obtain ⟨hi, hm⟩ := ix_elim hm
  refine mal_5 C hw hi dX12_twice_48 ?_
  refine lv_icmp_ne (tgt := 56) hx hb dX12_twice_49 (by decide) (fun c_1 => ?_) (fun c_1 => ?_)
  · have hm := (if_neg c_1).symm.trans hm
    exact mw_twice_56 fu C hret ag_12 hag_12 x1 x3 F G hm hw (lv_sub hl [0, 1, 2] rfl)
  · have hm := (if_pos c_1).symm.trans hm
    exact mw_twice_52 fu C hret ag_12 hag_12 x1 x3 F G hm hw (lv_sub hl [0, 1, 2] rfl)
theorem mw_twice_24 (fu : Nat) {res : Int32 × PF × PG} (C : mMC p R s m args c A v RX12 cX12_twice 4 2 45) (hret : ∀ (H1 : Heap) (locs1 : List Loc) (ls1 : Array Slot) (pc : Nat), mMW s A v a res.2.1 res.2.2 H1 locs1 → decode cX12_twice pc = .ok (.return_, 1) → W p l e R s m args below meth c H1 locs1 0 0 Q (F0 m pc ls1 [])) (ag_12 : Int32 → Int32 → Int32 → PF → PG → PR) (hag_12 : ∀ (x1 : Int32) (x2 : Int32) (x3 : Int32) (F : PF) (G : PG), ag_12 x1 x2 x3 F G = some res → ∀ (H : Heap) (locs : List Loc) (ls : Array Slot), mMW s A v a F G H locs → lv_has ls 4 [(0, .ref (a 212)), (1, .int x1), (2, .int x2), (3, .int x3)] → W p l e R s m args below meth c H locs 0 0 Q (F0 m 12 ls [])) (x1 : Int32) (x3 : Int32) (F : PF) (G : PG) (hm : mb_twice_24 fu ag_12 x1 x3 F G = some res) {H : Heap} {locs : List Loc} (hw : mMW s A v a F G H locs) {ls : Array Slot} (hl : lv_has ls 4 [(0, .ref (a 212)), (1, .int x1), (3, .int x3)]) : W p l e R s m args below meth c H locs 0 0 Q (F0 m 24 ls []) := by
  have hx := C.1
  have hb := C.2.1
  unfold mb_twice_24 at hm
  refine lv_aload_n hx hb dX12_twice_24 rfl (lv_at hl 0 rfl) ?_
  refine mg_X12_46 C hw dX12_twice_25 ?_
  refine lv_iload_n hx hb dX12_twice_28 rfl (lv_at hl 2 rfl) ?_
  obtain ⟨hi, hm⟩ := ix_elim hm
  refine mal_19 C hw hi dX12_twice_29 ?_
  refine lv_aload_n hx hb dX12_twice_30 rfl (lv_at hl 0 rfl) ?_
  refine mg_X12_282 C hw dX12_twice_31 ?_
  refine lv_icmp_ne (tgt := 56) hx hb dX12_twice_34 (by decide) (fun c_1 => ?_) (fun c_1 => ?_)
  · have hm := (if_neg c_1).symm.trans hm
    exact mw_twice_56 fu C hret ag_12 hag_12 x1 x3 F G hm hw (lv_sub hl [0, 1, 2] rfl)
  · have hm := (if_pos c_1).symm.trans hm
    exact mw_twice_37 fu C hret ag_12 hag_12 x1 x3 F G hm hw (lv_sub hl [0, 1, 2] rfl)
theorem mw_twice_20 (fu : Nat) {res : Int32 × PF × PG} (C : mMC p R s m args c A v RX12 cX12_twice 4 2 45) (hret : ∀ (H1 : Heap) (locs1 : List Loc) (ls1 : Array Slot) (pc : Nat), mMW s A v a res.2.1 res.2.2 H1 locs1 → decode cX12_twice pc = .ok (.return_, 1) → W p l e R s m args below meth c H1 locs1 0 0 Q (F0 m pc ls1 [])) (ag_12 : Int32 → Int32 → Int32 → PF → PG → PR) (hag_12 : ∀ (x1 : Int32) (x2 : Int32) (x3 : Int32) (F : PF) (G : PG), ag_12 x1 x2 x3 F G = some res → ∀ (H : Heap) (locs : List Loc) (ls : Array Slot), mMW s A v a F G H locs → lv_has ls 4 [(0, .ref (a 212)), (1, .int x1), (2, .int x2), (3, .int x3)] → W p l e R s m args below meth c H locs 0 0 Q (F0 m 12 ls [])) (x1 : Int32) (x2 : Int32) (x3 : Int32) (F : PF) (G : PG) (hm : mb_twice_20 fu ag_12 x1 x2 x3 F G = some res) {H : Heap} {locs : List Loc} (hw : mMW s A v a F G H locs) {ls : Array Slot} (hl : lv_has ls 4 [(0, .ref (a 212)), (1, .int x1), (2, .int x2), (3, .int x3)]) : W p l e R s m args below meth c H locs 0 0 Q (F0 m 20 ls []) := by
  have hx := C.1
  have hb := C.2.1
  unfold mb_twice_20 at hm
  refine lv_iload_n hx hb dX12_twice_20 rfl (lv_at hl 2 rfl) ?_
  refine lv_if_ne (tgt := 52) hx hb dX12_twice_21 (by decide) (fun c_1 => ?_) (fun c_1 => ?_)
  · have hm := (if_neg c_1).symm.trans hm
    exact mw_twice_52 fu C hret ag_12 hag_12 x1 x3 F G hm hw (lv_sub hl [0, 1, 3] rfl)
  · have hm := (if_pos c_1).symm.trans hm
    exact mw_twice_24 fu C hret ag_12 hag_12 x1 x3 F G hm hw (lv_sub hl [0, 1, 3] rfl)
theorem mw_twice_12 (fu : Nat) {res : Int32 × PF × PG} (C : mMC p R s m args c A v RX12 cX12_twice 4 2 45) (hret : ∀ (H1 : Heap) (locs1 : List Loc) (ls1 : Array Slot) (pc : Nat), mMW s A v a res.2.1 res.2.2 H1 locs1 → decode cX12_twice pc = .ok (.return_, 1) → W p l e R s m args below meth c H1 locs1 0 0 Q (F0 m pc ls1 [])) (ag_12 : Int32 → Int32 → Int32 → PF → PG → PR) (hag_12 : ∀ (x1 : Int32) (x2 : Int32) (x3 : Int32) (F : PF) (G : PG), ag_12 x1 x2 x3 F G = some res → ∀ (H : Heap) (locs : List Loc) (ls : Array Slot), mMW s A v a F G H locs → lv_has ls 4 [(0, .ref (a 212)), (1, .int x1), (2, .int x2), (3, .int x3)] → W p l e R s m args below meth c H locs 0 0 Q (F0 m 12 ls [])) (x1 : Int32) (x2 : Int32) (x3 : Int32) (F : PF) (G : PG) (hm : mb_twice_12 fu ag_12 x1 x2 x3 F G = some res) {H : Heap} {locs : List Loc} (hw : mMW s A v a F G H locs) {ls : Array Slot} (hl : lv_has ls 4 [(0, .ref (a 212)), (1, .int x1), (2, .int x2), (3, .int x3)]) : W p l e R s m args below meth c H locs 0 0 Q (F0 m 12 ls []) := by
  have hx := C.1
  have hb := C.2.1
  unfold mb_twice_12 at hm
  refine lv_iload_n hx hb dX12_twice_12 rfl (lv_at hl 3 rfl) ?_
  refine lv_aload_n hx hb dX12_twice_13 rfl (lv_at hl 0 rfl) ?_
  refine mg_X12_279 C hw dX12_twice_14 ?_
  refine lv_icmp_ge (tgt := 64) hx hb dX12_twice_17 (by decide) (fun c_1 => ?_) (fun c_1 => ?_)
  · have hm := (if_pos c_1).symm.trans hm
    exact mw_twice_64 fu C hret x1 x2 F G hm hw (lv_sub hl [0, 1, 2] rfl)
  · have hm := (if_neg c_1).symm.trans hm
    exact mw_twice_20 fu C hret ag_12 hag_12 x1 x2 x3 F G hm hw (lv_sub hl [0, 1, 2, 3] rfl)
theorem mwl_twice_12 (fu : Nat) {res : Int32 × PF × PG} (C : mMC p R s m args c A v RX12 cX12_twice 4 2 45) (hret : ∀ (H1 : Heap) (locs1 : List Loc) (ls1 : Array Slot) (pc : Nat), mMW s A v a res.2.1 res.2.2 H1 locs1 → decode cX12_twice pc = .ok (.return_, 1) → W p l e R s m args below meth c H1 locs1 0 0 Q (F0 m pc ls1 [])) : ∀ (n : Nat) (x1 : Int32) (x2 : Int32) (x3 : Int32) (F : PF) (G : PG) (hm : ml_twice_12 fu n x1 x2 x3 F G = some res) {H : Heap} {locs : List Loc} (hw : mMW s A v a F G H locs) {ls : Array Slot} (hl : lv_has ls 4 [(0, .ref (a 212)), (1, .int x1), (2, .int x2), (3, .int x3)]), W p l e R s m args below meth c H locs 0 0 Q (F0 m 12 ls []) := by
  intro n
  induction n with
  | zero =>
    intro x1 x2 x3 F G hm
    exact no_elim (show (none : PR) = some res from hm)
  | succ n ih =>
    intro x1 x2 x3 F G hm H locs hw ls hl
    exact mw_twice_12 fu C hret (ml_twice_12 fu n) (fun x1 x2 x3 F G hm H locs ls hw hl => ih x1 x2 x3 F G hm hw hl) x1 x2 x3 F G hm hw hl
theorem mw_twice_8 (fu : Nat) {res : Int32 × PF × PG} (C : mMC p R s m args c A v RX12 cX12_twice 4 2 45) (hret : ∀ (H1 : Heap) (locs1 : List Loc) (ls1 : Array Slot) (pc : Nat), mMW s A v a res.2.1 res.2.2 H1 locs1 → decode cX12_twice pc = .ok (.return_, 1) → W p l e R s m args below meth c H1 locs1 0 0 Q (F0 m pc ls1 [])) (x1 : Int32) (F : PF) (G : PG) (hm : mb_twice_8 fu x1 F G = some res) {H : Heap} {locs : List Loc} (hw : mMW s A v a F G H locs) {ls : Array Slot} (hl : lv_has ls 4 [(0, .ref (a 212)), (1, .int x1)]) : W p l e R s m args below meth c H locs 0 0 Q (F0 m 8 ls []) := by
  have hx := C.1
  have hb := C.2.1
  unfold mb_twice_8 at hm
  refine lv_iconst (v := 0) hx hb dX12_twice_8 (by decide) ?_
  refine lv_istore_n (lv' := [(2, .int 0), (0, .ref (a 212)), (1, .int x1)]) hx hb dX12_twice_9 rfl hl (by decide) rfl (fun ls hl => ?_)
  refine lv_iconst (v := 0) hx hb dX12_twice_10 (by decide) ?_
  refine lv_istore_n (lv' := [(3, .int 0), (2, .int 0), (0, .ref (a 212)), (1, .int x1)]) hx hb dX12_twice_11 rfl hl (by decide) rfl (fun ls hl => ?_)
  exact mwl_twice_12 fu C hret fu x1 0 0 F G hm hw (lv_sub hl [2, 3, 1, 0] rfl)
theorem mw_twice_7 (fu : Nat) {res : Int32 × PF × PG} (C : mMC p R s m args c A v RX12 cX12_twice 4 2 45) (hret : ∀ (H1 : Heap) (locs1 : List Loc) (ls1 : Array Slot) (pc : Nat), mMW s A v a res.2.1 res.2.2 H1 locs1 → decode cX12_twice pc = .ok (.return_, 1) → W p l e R s m args below meth c H1 locs1 0 0 Q (F0 m pc ls1 [])) (F : PF) (G : PG) (hm : mb_twice_7 fu F G = some res) {H : Heap} {locs : List Loc} (hw : mMW s A v a F G H locs) {ls : Array Slot} (hl : lv_has ls 4 []) : W p l e R s m args below meth c H locs 0 0 Q (F0 m 7 ls []) := by
  have hx := C.1
  have hb := C.2.1
  unfold mb_twice_7 at hm
  obtain rfl := Option.some.inj hm
  exact hret _ _ _ _ hw dX12_twice_7
theorem mw_twice_0 (fu : Nat) {res : Int32 × PF × PG} (C : mMC p R s m args c A v RX12 cX12_twice 4 2 45) (hret : ∀ (H1 : Heap) (locs1 : List Loc) (ls1 : Array Slot) (pc : Nat), mMW s A v a res.2.1 res.2.2 H1 locs1 → decode cX12_twice pc = .ok (.return_, 1) → W p l e R s m args below meth c H1 locs1 0 0 Q (F0 m pc ls1 [])) (x1 : Int32) (F : PF) (G : PG) (hm : mb_twice_0 fu x1 F G = some res) {H : Heap} {locs : List Loc} (hw : mMW s A v a F G H locs) {ls : Array Slot} (hl : lv_has ls 4 [(0, .ref (a 212)), (1, .int x1)]) : W p l e R s m args below meth c H locs 0 0 Q (F0 m 0 ls []) := by
  have hx := C.1
  have hb := C.2.1
  unfold mb_twice_0 at hm
  refine lv_aload_n hx hb dX12_twice_0 rfl (lv_at hl 0 rfl) ?_
  refine mg_X12_245 C hw dX12_twice_1 ?_
  refine lv_if_ne (tgt := 8) hx hb dX12_twice_4 (by decide) (fun c_1 => ?_) (fun c_1 => ?_)
  · have hm := (if_neg c_1).symm.trans hm
    exact mw_twice_8 fu C hret x1 F G hm hw (lv_sub hl [0, 1] rfl)
  · have hm := (if_pos c_1).symm.trans hm
    exact mw_twice_7 fu C hret F G hm hw (lv_sub hl [] rfl)
theorem mk_twice (l : Launch) (v : EV) (a : Nat → Nat) (sz : Nat) (fu : Nat) (x1 : Int32) (F : PF) (G : PG) (r : Int32) (F1 : PF) (G1 : PG) (hm : mf_twice fu x1 F G = some (r, F1, G1)) : mMV l yX12_twice cX12_twice 4 2 45 v a sz [.ref (a 212), .int x1] F G F1 G1 := mMV.of (by decide) (Nat.le_of_ble_eq_true rfl) (fun p e R s m args below meth c Q A H locs ls C hw hl hret => mw_twice_0 fu (res := (r, F1, G1)) C hret x1 F G hm hw hl)
def mb_array_463 (fu : Nat) (F : PF) (G : PG) : PR := some (1, F, G)
def mb_array_459 (fu : Nat) (z0 : Int32) (z1 : Int32) (z2 : Int32) (z3 : Int32) (z4 : Int32) (F : PF) (G : PG) : PR := (mf_declare fu z4 z3 z2 z1 z0 0 F G).bind (fun q => mb_array_463 fu q.2.1 q.2.2)
def mb_array_458 (fu : Nat) (x3 : Int32) (z0 : Int32) (z1 : Int32) (z2 : Int32) (z3 : Int32) (F : PF) (G : PG) : PR := mb_array_459 fu x3 z0 z1 z2 z3 F G
def mb_array_454 (fu : Nat) (z0 : Int32) (z1 : Int32) (z2 : Int32) (z3 : Int32) (F : PF) (G : PG) : PR := mb_array_459 fu 1 z0 z1 z2 z3 F G
def mb_array_443 (fu : Nat) (x1 : Int32) (x2 : Int32) (x3 : Int32) (x4 : Int32) (F : PF) (G : PG) : PR := if x3 = (-1 : Int32) then mb_array_454 fu x4 x2 2 x1 F G else mb_array_458 fu x3 x4 x2 2 x1 F G
def mb_array_441 (fu : Nat) (F : PF) (G : PG) : PR := some (0, F, G)
def mb_array_438 (fu : Nat) (x1 : Int32) (x2 : Int32) (x3 : Int32) (x4 : Int32) (z0 : Int32) (F : PF) (G : PG) : PR := if z0 = (0 : Int32) then mb_array_441 fu F G else mb_array_443 fu x1 x2 x3 x4 F G
def mb_array_432 (fu : Nat) (x1 : Int32) (x2 : Int32) (x3 : Int32) (x4 : Int32) (F : PF) (G : PG) : PR := (mf_closeSign fu 27 F G).bind (fun q => mb_array_438 fu x1 x2 x3 x4 q.1 q.2.1 q.2.2)
def mb_array_429 (fu : Nat) (ag_297 : Int32 → Int32 → Int32 → Int32 → Int32 → Int32 → Int32 → PF → PG → PR) (x1 : Int32) (x2 : Int32) (x3 : Int32) (x4 : Int32) (x7 : Int32) (x8 : Int32) (x9 : Int32) (F : PF) (G : PG) : PR := ag_297 x1 x2 x3 x4 x7 x8 x9 F G
def mb_array_425 (fu : Nat) (ag_297 : Int32 → Int32 → Int32 → Int32 → Int32 → Int32 → Int32 → PF → PG → PR) (x1 : Int32) (x2 : Int32) (x3 : Int32) (x4 : Int32) (x7 : Int32) (x8 : Int32) (x9 : Int32) (z0 : Int32) (z1 : Int32) (F : PF) (G : PG) : PR := mb_array_429 fu ag_297 x1 x2 x3 x4 x7 x8 x9 (fup F 42 (z1 + z0)) G
def mb_array_424 (fu : Nat) (ag_297 : Int32 → Int32 → Int32 → Int32 → Int32 → Int32 → Int32 → PF → PG → PR) (x1 : Int32) (x2 : Int32) (x3 : Int32) (x4 : Int32) (x7 : Int32) (x8 : Int32) (x9 : Int32) (z0 : Int32) (F : PF) (G : PG) : PR := mb_array_425 fu ag_297 x1 x2 x3 x4 x7 x8 x9 0 z0 F G
def mb_array_420 (fu : Nat) (ag_297 : Int32 → Int32 → Int32 → Int32 → Int32 → Int32 → Int32 → PF → PG → PR) (x1 : Int32) (x2 : Int32) (x3 : Int32) (x4 : Int32) (x7 : Int32) (x8 : Int32) (x9 : Int32) (z0 : Int32) (F : PF) (G : PG) : PR := mb_array_425 fu ag_297 x1 x2 x3 x4 x7 x8 x9 1 z0 F G
def mb_array_408 (fu : Nat) (ag_297 : Int32 → Int32 → Int32 → Int32 → Int32 → Int32 → Int32 → PF → PG → PR) (x1 : Int32) (x2 : Int32) (x3 : Int32) (x4 : Int32) (x7 : Int32) (x8 : Int32) (z0 : Int32) (F : PF) (G : PG) : PR := if z0 = (0 : Int32) then mb_array_424 fu ag_297 x1 x2 x3 x4 x7 x8 z0 (F 42) F G else mb_array_420 fu ag_297 x1 x2 x3 x4 x7 x8 z0 (F 42) F G
def mb_array_407 (fu : Nat) (ag_297 : Int32 → Int32 → Int32 → Int32 → Int32 → Int32 → Int32 → PF → PG → PR) (x1 : Int32) (x2 : Int32) (x3 : Int32) (x4 : Int32) (x7 : Int32) (x8 : Int32) (F : PF) (G : PG) : PR := mb_array_408 fu ag_297 x1 x2 x3 x4 x7 x8 0 F G
def mb_array_403 (fu : Nat) (ag_297 : Int32 → Int32 → Int32 → Int32 → Int32 → Int32 → Int32 → PF → PG → PR) (x1 : Int32) (x2 : Int32) (x3 : Int32) (x4 : Int32) (x7 : Int32) (x8 : Int32) (F : PF) (G : PG) : PR := mb_array_408 fu ag_297 x1 x2 x3 x4 x7 x8 1 F G
def mb_array_400 (fu : Nat) (ag_297 : Int32 → Int32 → Int32 → Int32 → Int32 → Int32 → Int32 → PF → PG → PR) (x1 : Int32) (x2 : Int32) (x3 : Int32) (x4 : Int32) (x7 : Int32) (x8 : Int32) (z0 : Int32) (F : PF) (G : PG) : PR := if z0 = (0 : Int32) then mb_array_407 fu ag_297 x1 x2 x3 x4 x7 x8 F G else mb_array_403 fu ag_297 x1 x2 x3 x4 x7 x8 F G
def mb_array_394 (fu : Nat) (ag_297 : Int32 → Int32 → Int32 → Int32 → Int32 → Int32 → Int32 → PF → PG → PR) (x1 : Int32) (x2 : Int32) (x3 : Int32) (x4 : Int32) (x7 : Int32) (x8 : Int32) (F : PF) (G : PG) : PR := (mf_isSign fu 28 F G).bind (fun q => mb_array_400 fu ag_297 x1 x2 x3 x4 x7 x8 q.1 q.2.1 q.2.2)
def mb_array_384 (fu : Nat) (ag_297 : Int32 → Int32 → Int32 → Int32 → Int32 → Int32 → Int32 → PF → PG → PR) (x1 : Int32) (x2 : Int32) (x3 : Int32) (x4 : Int32) (x7 : Int32) (x8 : Int32) (F : PF) (G : PG) : PR := if (F 44) = (0 : Int32) then mb_array_394 fu ag_297 x1 x2 x3 x4 x7 (x8 + 1) F G else mb_array_407 fu ag_297 x1 x2 x3 x4 x7 (x8 + 1) F G
def mb_array_383 (fu : Nat) (ag_297 : Int32 → Int32 → Int32 → Int32 → Int32 → Int32 → Int32 → PF → PG → PR) (x1 : Int32) (x2 : Int32) (x3 : Int32) (x4 : Int32) (x7 : Int32) (x8 : Int32) (z0 : Int32) (z1 : Int32) (F : PF) (G : PG) : PR := if ixb z1 8008 = true then (mb_array_384 fu ag_297 x1 x2 x3 x4 x7 x8 F (gup G 41 z1.toNatClampNeg z0)) else none
def mb_array_381 (fu : Nat) (ag_297 : Int32 → Int32 → Int32 → Int32 → Int32 → Int32 → Int32 → PF → PG → PR) (x1 : Int32) (x2 : Int32) (x3 : Int32) (x4 : Int32) (x7 : Int32) (x8 : Int32) (x11 : Int32) (z0 : Int32) (F : PF) (G : PG) : PR := mb_array_383 fu ag_297 x1 x2 x3 x4 x7 x8 x11 z0 F G
def mb_array_372 (fu : Nat) (ag_297 : Int32 → Int32 → Int32 → Int32 → Int32 → Int32 → Int32 → PF → PG → PR) (x1 : Int32) (x2 : Int32) (x3 : Int32) (x4 : Int32) (x7 : Int32) (x8 : Int32) (x11 : Int32) (z0 : Int32) (F : PF) (G : PG) : PR := mb_array_383 fu ag_297 x1 x2 x3 x4 x7 x8 (x11 &&& (255 : Int32)) z0 F G
def mb_array_359 (fu : Nat) (ag_297 : Int32 → Int32 → Int32 → Int32 → Int32 → Int32 → Int32 → PF → PG → PR) (x1 : Int32) (x2 : Int32) (x3 : Int32) (x4 : Int32) (x7 : Int32) (x8 : Int32) (x11 : Int32) (F : PF) (G : PG) : PR := if x2 = (0 : Int32) then mb_array_381 fu ag_297 x1 x2 x3 x4 x7 x8 x11 (x4 + x8) F G else mb_array_372 fu ag_297 x1 x2 x3 x4 x7 x8 x11 (x4 + x8) F G
def mb_array_352 (fu : Nat) (ag_297 : Int32 → Int32 → Int32 → Int32 → Int32 → Int32 → Int32 → PF → PG → PR) (x1 : Int32) (x2 : Int32) (x3 : Int32) (x4 : Int32) (x7 : Int32) (x8 : Int32) (x11 : Int32) (F : PF) (G : PG) : PR := if x7 ≤ x8 then mb_array_384 fu ag_297 x1 x2 x3 x4 x7 x8 F G else mb_array_359 fu ag_297 x1 x2 x3 x4 x7 x8 x11 F G
def mb_array_345 (fu : Nat) (ag_297 : Int32 → Int32 → Int32 → Int32 → Int32 → Int32 → Int32 → PF → PG → PR) (x1 : Int32) (x2 : Int32) (x3 : Int32) (x4 : Int32) (x7 : Int32) (x8 : Int32) (x11 : Int32) (F : PF) (G : PG) : PR := if (F 46) ≤ (0 : Int32) then mb_array_384 fu ag_297 x1 x2 x3 x4 x7 x8 F G else mb_array_352 fu ag_297 x1 x2 x3 x4 x7 x8 x11 F G
def mb_array_337 (fu : Nat) (ag_297 : Int32 → Int32 → Int32 → Int32 → Int32 → Int32 → Int32 → PF → PG → PR) (x1 : Int32) (x2 : Int32) (x3 : Int32) (x4 : Int32) (x7 : Int32) (x8 : Int32) (x10 : Int32) (x11 : Int32) (F : PF) (G : PG) : PR := (mf_note fu 10 x10 F G).bind (fun q => mb_array_345 fu ag_297 x1 x2 x3 x4 x7 x8 x11 q.2.1 q.2.2)
def mb_array_331 (fu : Nat) (ag_297 : Int32 → Int32 → Int32 → Int32 → Int32 → Int32 → Int32 → PF → PG → PR) (x1 : Int32) (x2 : Int32) (x3 : Int32) (x4 : Int32) (x7 : Int32) (x8 : Int32) (x10 : Int32) (x11 : Int32) (F : PF) (G : PG) : PR := if x8 = x3 then mb_array_337 fu ag_297 x1 x2 x3 x4 x7 x8 x10 x11 F G else mb_array_345 fu ag_297 x1 x2 x3 x4 x7 x8 x11 F G
def mb_array_324 (fu : Nat) (ag_297 : Int32 → Int32 → Int32 → Int32 → Int32 → Int32 → Int32 → PF → PG → PR) (x1 : Int32) (x2 : Int32) (x3 : Int32) (x4 : Int32) (x7 : Int32) (x8 : Int32) (x10 : Int32) (z0 : Int32) (F : PF) (G : PG) : PR := if x3 = (-1 : Int32) then mb_array_345 fu ag_297 x1 x2 x3 x4 x7 x8 z0 F G else mb_array_331 fu ag_297 x1 x2 x3 x4 x7 x8 x10 z0 F G
def mb_array_309 (fu : Nat) (ag_297 : Int32 → Int32 → Int32 → Int32 → Int32 → Int32 → Int32 → PF → PG → PR) (x1 : Int32) (x2 : Int32) (x3 : Int32) (x4 : Int32) (x7 : Int32) (x8 : Int32) (F : PF) (G : PG) : PR := if ixb (F 42) 4002 = true then ((mf_value fu F G).bind (fun q => mb_array_324 fu ag_297 x1 x2 x3 x4 x7 x8 (G 6 (F 42).toNatClampNeg) q.1 q.2.1 q.2.2)) else none
def mb_array_302 (fu : Nat) (ag_297 : Int32 → Int32 → Int32 → Int32 → Int32 → Int32 → Int32 → PF → PG → PR) (x1 : Int32) (x2 : Int32) (x3 : Int32) (x4 : Int32) (x7 : Int32) (x8 : Int32) (F : PF) (G : PG) : PR := if (F 44) = (0 : Int32) then mb_array_309 fu ag_297 x1 x2 x3 x4 x7 x8 F G else mb_array_432 fu x1 x2 x3 x4 F G
def mb_array_297 (fu : Nat) (ag_297 : Int32 → Int32 → Int32 → Int32 → Int32 → Int32 → Int32 → PF → PG → PR) (x1 : Int32) (x2 : Int32) (x3 : Int32) (x4 : Int32) (x7 : Int32) (x8 : Int32) (x9 : Int32) (F : PF) (G : PG) : PR := if x9 = (0 : Int32) then mb_array_432 fu x1 x2 x3 x4 F G else mb_array_302 fu ag_297 x1 x2 x3 x4 x7 x8 F G
def ml_array_297 (fu : Nat) : Nat → Int32 → Int32 → Int32 → Int32 → Int32 → Int32 → Int32 → PF → PG → PR
  | 0 => fun _ _ _ _ _ _ _ _ _ => none
  | n + 1 => fun x1 x2 x3 x4 x7 x8 x9 F G => mb_array_297 fu (ml_array_297 fu n) x1 x2 x3 x4 x7 x8 x9 F G
def mb_array_291 (fu : Nat) (x1 : Int32) (x2 : Int32) (x3 : Int32) (x4 : Int32) (x7 : Int32) (F : PF) (G : PG) : PR := ml_array_297 fu fu x1 x2 x3 x4 x7 0 1 F G
def mb_array_289 (fu : Nat) (F : PF) (G : PG) : PR := some (0, F, G)
def mb_array_286 (fu : Nat) (x1 : Int32) (x2 : Int32) (x3 : Int32) (x4 : Int32) (x7 : Int32) (z0 : Int32) (F : PF) (G : PG) : PR := if z0 = (0 : Int32) then mb_array_289 fu F G else mb_array_291 fu x1 x2 x3 x4 x7 F G
def mb_array_280 (fu : Nat) (x1 : Int32) (x2 : Int32) (x3 : Int32) (x4 : Int32) (x7 : Int32) (F : PF) (G : PG) : PR := (mf_openSign fu 26 F G).bind (fun q => mb_array_286 fu x1 x2 x3 x4 x7 q.1 q.2.1 q.2.2)
def mb_array_270 (fu : Nat) (x1 : Int32) (x2 : Int32) (x3 : Int32) (x4 : Int32) (x7 : Int32) (F : PF) (G : PG) : PR := mb_array_280 fu x1 x2 x3 x4 x7 (fup F 42 ((F 42) + (1 : Int32))) G
def mb_array_267 (fu : Nat) (x1 : Int32) (x2 : Int32) (x3 : Int32) (x4 : Int32) (x7 : Int32) (z0 : Int32) (F : PF) (G : PG) : PR := if z0 = (0 : Int32) then mb_array_443 fu x1 x2 x3 x4 F G else mb_array_270 fu x1 x2 x3 x4 x7 F G
def mb_array_261 (fu : Nat) (x1 : Int32) (x2 : Int32) (x3 : Int32) (x4 : Int32) (x7 : Int32) (F : PF) (G : PG) : PR := (mf_isSign fu 32 F G).bind (fun q => mb_array_267 fu x1 x2 x3 x4 x7 q.1 q.2.1 q.2.2)
def mb_array_250 (fu : Nat) (x1 : Int32) (x2 : Int32) (x3 : Int32) (x4 : Int32) (x7 : Int32) (F : PF) (G : PG) : PR := mb_array_261 fu x1 x2 x3 x4 x7 (fup F 37 ((F 37) + x7)) G
def mb_array_244 (fu : Nat) (ag_224 : Int32 → Int32 → Int32 → Int32 → Int32 → Int32 → PF → PG → PR) (x1 : Int32) (x2 : Int32) (x3 : Int32) (x4 : Int32) (x7 : Int32) (x8 : Int32) (F : PF) (G : PG) : PR := ag_224 x1 x2 x3 x4 x7 (x8 + 1) F G
def mb_array_231 (fu : Nat) (ag_224 : Int32 → Int32 → Int32 → Int32 → Int32 → Int32 → PF → PG → PR) (x1 : Int32) (x2 : Int32) (x3 : Int32) (x4 : Int32) (x7 : Int32) (x8 : Int32) (F : PF) (G : PG) : PR := if ixb ((F 37) + x8) 8008 = true then (mb_array_244 fu ag_224 x1 x2 x3 x4 x7 x8 F (gup G 41 ((F 37) + x8).toNatClampNeg (0 : Int32))) else none
def mb_array_224 (fu : Nat) (ag_224 : Int32 → Int32 → Int32 → Int32 → Int32 → Int32 → PF → PG → PR) (x1 : Int32) (x2 : Int32) (x3 : Int32) (x4 : Int32) (x7 : Int32) (x8 : Int32) (F : PF) (G : PG) : PR := if x7 ≤ x8 then mb_array_250 fu x1 x2 x3 x4 x7 F G else mb_array_231 fu ag_224 x1 x2 x3 x4 x7 x8 F G
def ml_array_224 (fu : Nat) : Nat → Int32 → Int32 → Int32 → Int32 → Int32 → Int32 → PF → PG → PR
  | 0 => fun _ _ _ _ _ _ _ _ => none
  | n + 1 => fun x1 x2 x3 x4 x7 x8 F G => mb_array_224 fu (ml_array_224 fu n) x1 x2 x3 x4 x7 x8 F G
def mb_array_219 (fu : Nat) (x1 : Int32) (x2 : Int32) (x3 : Int32) (x4 : Int32) (z0 : Int32) (F : PF) (G : PG) : PR := ml_array_224 fu fu x1 x2 x3 x4 z0 0 F G
def mb_array_214 (fu : Nat) (x1 : Int32) (x2 : Int32) (x3 : Int32) (x4 : Int32) (F : PF) (G : PG) : PR := mb_array_219 fu x1 x2 x3 x4 0 F G
def mb_array_218 (fu : Nat) (x1 : Int32) (x2 : Int32) (x3 : Int32) (x4 : Int32) (F : PF) (G : PG) : PR := mb_array_219 fu x1 x2 x3 x4 x3 F G
def mb_array_209 (fu : Nat) (x1 : Int32) (x2 : Int32) (x3 : Int32) (x4 : Int32) (x6 : Int32) (F : PF) (G : PG) : PR := if x6 = (0 : Int32) then mb_array_214 fu x1 x2 x3 x4 F G else mb_array_218 fu x1 x2 x3 x4 F G
def mb_array_204 (fu : Nat) (x1 : Int32) (x2 : Int32) (x3 : Int32) (x4 : Int32) (x6 : Int32) (F : PF) (G : PG) : PR := if x3 = (-1 : Int32) then mb_array_214 fu x1 x2 x3 x4 F G else mb_array_209 fu x1 x2 x3 x4 x6 F G
def mb_array_193 (fu : Nat) (x1 : Int32) (x2 : Int32) (x3 : Int32) (x4 : Int32) (x5 : Int32) (x6 : Int32) (F : PF) (G : PG) : PR := mb_array_204 fu x1 x2 x3 x4 x6 (fup F 36 ((F 36) + x5)) G
def mb_array_187 (fu : Nat) (ag_102 : Int32 → Int32 → Int32 → Int32 → Int32 → Int32 → Int32 → PF → PG → PR) (x1 : Int32) (x2 : Int32) (x3 : Int32) (x4 : Int32) (x5 : Int32) (x6 : Int32) (x7 : Int32) (F : PF) (G : PG) : PR := ag_102 x1 x2 x3 x4 x5 x6 (x7 + 1) F G
def mb_array_186 (fu : Nat) (ag_102 : Int32 → Int32 → Int32 → Int32 → Int32 → Int32 → Int32 → PF → PG → PR) (x1 : Int32) (x2 : Int32) (x3 : Int32) (x4 : Int32) (x5 : Int32) (x6 : Int32) (x7 : Int32) (z0 : Int32) (z1 : Int32) (F : PF) (G : PG) : PR := if ixb z1 2001 = true then (mb_array_187 fu ag_102 x1 x2 x3 x4 x5 x6 x7 F (gup G 38 z1.toNatClampNeg z0)) else none
def mb_array_185 (fu : Nat) (ag_102 : Int32 → Int32 → Int32 → Int32 → Int32 → Int32 → Int32 → PF → PG → PR) (x1 : Int32) (x2 : Int32) (x3 : Int32) (x4 : Int32) (x5 : Int32) (x6 : Int32) (x7 : Int32) (z0 : Int32) (F : PF) (G : PG) : PR := mb_array_186 fu ag_102 x1 x2 x3 x4 x5 x6 x7 1 z0 F G
def mb_array_182 (fu : Nat) (ag_102 : Int32 → Int32 → Int32 → Int32 → Int32 → Int32 → Int32 → PF → PG → PR) (x1 : Int32) (x2 : Int32) (x3 : Int32) (x4 : Int32) (x5 : Int32) (x6 : Int32) (x7 : Int32) (z0 : Int32) (z1 : Int32) (F : PF) (G : PG) : PR := mb_array_186 fu ag_102 x1 x2 x3 x4 x5 x6 x7 z0 z1 F G
def mb_array_172 (fu : Nat) (ag_102 : Int32 → Int32 → Int32 → Int32 → Int32 → Int32 → Int32 → PF → PG → PR) (x1 : Int32) (x2 : Int32) (x3 : Int32) (x4 : Int32) (x5 : Int32) (x6 : Int32) (x7 : Int32) (z0 : Int32) (F : PF) (G : PG) : PR := mb_array_182 fu ag_102 x1 x2 x3 x4 x5 x6 x7 (if (x3 - ((4 : Int32) * x7)) < (4 : Int32) then (x3 - ((4 : Int32) * x7)) else (4 : Int32)) z0 F G
def mb_array_157 (fu : Nat) (ag_102 : Int32 → Int32 → Int32 → Int32 → Int32 → Int32 → Int32 → PF → PG → PR) (x1 : Int32) (x2 : Int32) (x3 : Int32) (x4 : Int32) (x5 : Int32) (x6 : Int32) (x7 : Int32) (F : PF) (G : PG) : PR := if x2 = (0 : Int32) then mb_array_185 fu ag_102 x1 x2 x3 x4 x5 x6 x7 ((F 36) + x7) F G else mb_array_172 fu ag_102 x1 x2 x3 x4 x5 x6 x7 ((F 36) + x7) F G
def mb_array_144 (fu : Nat) (ag_102 : Int32 → Int32 → Int32 → Int32 → Int32 → Int32 → Int32 → PF → PG → PR) (x1 : Int32) (x2 : Int32) (x3 : Int32) (x4 : Int32) (x5 : Int32) (x6 : Int32) (x7 : Int32) (F : PF) (G : PG) : PR := if ixb ((F 36) + x7) 2001 = true then (mb_array_157 fu ag_102 x1 x2 x3 x4 x5 x6 x7 F (gup G 40 ((F 36) + x7).toNatClampNeg (vp_nar .boolean x2))) else none
def mb_array_142 (fu : Nat) (ag_102 : Int32 → Int32 → Int32 → Int32 → Int32 → Int32 → Int32 → PF → PG → PR) (x1 : Int32) (x2 : Int32) (x3 : Int32) (x4 : Int32) (x5 : Int32) (x6 : Int32) (x7 : Int32) (z0 : Int32) (z1 : Int32) (z2 : Int32) (F : PF) (G : PG) : PR := if ixb z2 2001 = true then (mb_array_144 fu ag_102 x1 x2 x3 x4 x5 x6 x7 F (gup G 39 z2.toNatClampNeg (z1 + z0))) else none
def mb_array_140 (fu : Nat) (ag_102 : Int32 → Int32 → Int32 → Int32 → Int32 → Int32 → Int32 → PF → PG → PR) (x1 : Int32) (x2 : Int32) (x3 : Int32) (x4 : Int32) (x5 : Int32) (x6 : Int32) (x7 : Int32) (z0 : Int32) (z1 : Int32) (F : PF) (G : PG) : PR := mb_array_142 fu ag_102 x1 x2 x3 x4 x5 x6 x7 x7 z0 z1 F G
def mb_array_133 (fu : Nat) (ag_102 : Int32 → Int32 → Int32 → Int32 → Int32 → Int32 → Int32 → PF → PG → PR) (x1 : Int32) (x2 : Int32) (x3 : Int32) (x4 : Int32) (x5 : Int32) (x6 : Int32) (x7 : Int32) (z0 : Int32) (z1 : Int32) (F : PF) (G : PG) : PR := mb_array_142 fu ag_102 x1 x2 x3 x4 x5 x6 x7 ((4 : Int32) * x7) z0 z1 F G
def mb_array_114 (fu : Nat) (ag_102 : Int32 → Int32 → Int32 → Int32 → Int32 → Int32 → Int32 → PF → PG → PR) (x1 : Int32) (x2 : Int32) (x3 : Int32) (x4 : Int32) (x5 : Int32) (x6 : Int32) (x7 : Int32) (F : PF) (G : PG) : PR := if x2 = (0 : Int32) then mb_array_140 fu ag_102 x1 x2 x3 x4 x5 x6 x7 (F 37) ((F 36) + x7) F G else mb_array_133 fu ag_102 x1 x2 x3 x4 x5 x6 x7 (F 37) ((F 36) + x7) F G
def mb_array_109 (fu : Nat) (ag_102 : Int32 → Int32 → Int32 → Int32 → Int32 → Int32 → Int32 → PF → PG → PR) (x1 : Int32) (x2 : Int32) (x3 : Int32) (x4 : Int32) (x5 : Int32) (x6 : Int32) (x7 : Int32) (F : PF) (G : PG) : PR := if x6 = (0 : Int32) then mb_array_193 fu x1 x2 x3 x4 x5 x6 F G else mb_array_114 fu ag_102 x1 x2 x3 x4 x5 x6 x7 F G
def mb_array_102 (fu : Nat) (ag_102 : Int32 → Int32 → Int32 → Int32 → Int32 → Int32 → Int32 → PF → PG → PR) (x1 : Int32) (x2 : Int32) (x3 : Int32) (x4 : Int32) (x5 : Int32) (x6 : Int32) (x7 : Int32) (F : PF) (G : PG) : PR := if x5 ≤ x7 then mb_array_193 fu x1 x2 x3 x4 x5 x6 F G else mb_array_109 fu ag_102 x1 x2 x3 x4 x5 x6 x7 F G
def ml_array_102 (fu : Nat) : Nat → Int32 → Int32 → Int32 → Int32 → Int32 → Int32 → Int32 → PF → PG → PR
  | 0 => fun _ _ _ _ _ _ _ _ _ => none
  | n + 1 => fun x1 x2 x3 x4 x5 x6 x7 F G => mb_array_102 fu (ml_array_102 fu n) x1 x2 x3 x4 x5 x6 x7 F G
def mb_array_99 (fu : Nat) (x1 : Int32) (x2 : Int32) (x3 : Int32) (x4 : Int32) (x5 : Int32) (x6 : Int32) (F : PF) (G : PG) : PR := ml_array_102 fu fu x1 x2 x3 x4 x5 x6 0 F G
def mb_array_87 (fu : Nat) (x1 : Int32) (x2 : Int32) (x3 : Int32) (x4 : Int32) (x5 : Int32) (x6 : Int32) (F : PF) (G : PG) : PR := if ixb x1 4002 = true then ((mf_note fu 11 (G 6 x1.toNatClampNeg) F G).bind (fun q => mb_array_99 fu x1 x2 x3 x4 x5 x6 q.2.1 q.2.2)) else none
def mb_array_80 (fu : Nat) (x1 : Int32) (x2 : Int32) (x3 : Int32) (x4 : Int32) (x5 : Int32) (z0 : Int32) (F : PF) (G : PG) : PR := if z0 = (0 : Int32) then mb_array_87 fu x1 x2 x3 x4 x5 z0 F G else mb_array_99 fu x1 x2 x3 x4 x5 z0 F G
def mb_array_79 (fu : Nat) (x1 : Int32) (x2 : Int32) (x3 : Int32) (x4 : Int32) (x5 : Int32) (F : PF) (G : PG) : PR := mb_array_80 fu x1 x2 x3 x4 x5 0 F G
def mb_array_75 (fu : Nat) (x1 : Int32) (x2 : Int32) (x3 : Int32) (x4 : Int32) (x5 : Int32) (F : PF) (G : PG) : PR := mb_array_80 fu x1 x2 x3 x4 x5 1 F G
def mb_array_60 (fu : Nat) (x1 : Int32) (x2 : Int32) (x3 : Int32) (x4 : Int32) (z0 : Int32) (F : PF) (G : PG) : PR := if (2000 : Int32) < ((F 36) + z0) then mb_array_79 fu x1 x2 x3 x4 z0 F G else mb_array_75 fu x1 x2 x3 x4 z0 F G
def mb_array_59 (fu : Nat) (x1 : Int32) (x2 : Int32) (x3 : Int32) (x4 : Int32) (F : PF) (G : PG) : PR := mb_array_60 fu x1 x2 x3 x4 x3 F G
def mb_array_51 (fu : Nat) (x1 : Int32) (x2 : Int32) (x3 : Int32) (x4 : Int32) (F : PF) (G : PG) : PR := mb_array_60 fu x1 x2 x3 x4 ((x3 + (3 : Int32)) / (4 : Int32)) F G
def mb_array_47 (fu : Nat) (x1 : Int32) (x2 : Int32) (x3 : Int32) (x4 : Int32) (F : PF) (G : PG) : PR := if x2 = (0 : Int32) then mb_array_59 fu x1 x2 x3 x4 F G else mb_array_51 fu x1 x2 x3 x4 F G
def mb_array_43 (fu : Nat) (x1 : Int32) (x2 : Int32) (x3 : Int32) (x4 : Int32) (F : PF) (G : PG) : PR := mb_array_60 fu x1 x2 x3 x4 0 F G
def mb_array_32 (fu : Nat) (x1 : Int32) (x2 : Int32) (x3 : Int32) (F : PF) (G : PG) : PR := if x3 = (-1 : Int32) then mb_array_43 fu x1 x2 x3 (F 37) F G else mb_array_47 fu x1 x2 x3 (F 37) F G
def mb_array_30 (fu : Nat) (F : PF) (G : PG) : PR := some (0, F, G)
def mb_array_27 (fu : Nat) (x1 : Int32) (x2 : Int32) (x3 : Int32) (z0 : Int32) (F : PF) (G : PG) : PR := if z0 = (0 : Int32) then mb_array_30 fu F G else mb_array_32 fu x1 x2 x3 F G
def mb_array_20 (fu : Nat) (x1 : Int32) (x2 : Int32) (z0 : Int32) (F : PF) (G : PG) : PR := (mf_closeSign fu 25 F G).bind (fun q => mb_array_27 fu x1 x2 z0 q.1 q.2.1 q.2.2)
def mb_array_16 (fu : Nat) (x1 : Int32) (x2 : Int32) (F : PF) (G : PG) : PR := (mf_sizeHere fu F G).bind (fun q => mb_array_20 fu x1 x2 q.1 q.2.1 q.2.2)
def mb_array_14 (fu : Nat) (F : PF) (G : PG) : PR := some (0, F, G)
def mb_array_11 (fu : Nat) (x1 : Int32) (x2 : Int32) (z0 : Int32) (F : PF) (G : PG) : PR := if z0 = (0 : Int32) then mb_array_14 fu F G else mb_array_16 fu x1 x2 F G
def mb_array_5 (fu : Nat) (x1 : Int32) (x2 : Int32) (F : PF) (G : PG) : PR := (mf_openSign fu 24 F G).bind (fun q => mb_array_11 fu x1 x2 q.1 q.2.1 q.2.2)
def mb_array_0 (fu : Nat) (x1 : Int32) (x2 : Int32) (F : PF) (G : PG) : PR := (mf_twice fu x1 F G).bind (fun q => mb_array_5 fu x1 x2 q.2.1 q.2.2)
def mf_array (fu : Nat) (x1 : Int32) (x2 : Int32) (F : PF) (G : PG) : PR := mb_array_0 fu x1 x2 F G
theorem mw_array_463 (fu : Nat) {res : Int32 × PF × PG} (C : mMC p R s m args c A v RX12 cX12_array 12 306 18131) (hret : ∀ (H1 : Heap) (locs1 : List Loc) (ls1 : Array Slot) (pc : Nat), mMW s A v a res.2.1 res.2.2 H1 locs1 → narrow .boolean (.int res.1) = .int res.1 → decode cX12_array pc = .ok (.ireturn, 1) → W p l e R s m args below meth c H1 locs1 0 0 Q (F0 m pc ls1 [.int res.1])) (F : PF) (G : PG) (hm : mb_array_463 fu F G = some res) {H : Heap} {locs : List Loc} (hw : mMW s A v a F G H locs) {ls : Array Slot} (hl : lv_has ls 12 []) : W p l e R s m args below meth c H locs 0 0 Q (F0 m 463 ls []) := by
  have hx := C.1
  have hb := C.2.1
  unfold mb_array_463 at hm
  refine lv_iconst (v := 1) hx hb dX12_array_463 (by decide) ?_
  obtain rfl := Option.some.inj hm
  exact hret _ _ _ _ hw (b01_nar (v := 1) (Or.inr rfl)) dX12_array_464
theorem mw_array_459 (fu : Nat) {res : Int32 × PF × PG} (C : mMC p R s m args c A v RX12 cX12_array 12 306 18131) (hret : ∀ (H1 : Heap) (locs1 : List Loc) (ls1 : Array Slot) (pc : Nat), mMW s A v a res.2.1 res.2.2 H1 locs1 → narrow .boolean (.int res.1) = .int res.1 → decode cX12_array pc = .ok (.ireturn, 1) → W p l e R s m args below meth c H1 locs1 0 0 Q (F0 m pc ls1 [.int res.1])) (z0 : Int32) (z1 : Int32) (z2 : Int32) (z3 : Int32) (z4 : Int32) (F : PF) (G : PG) (hm : mb_array_459 fu z0 z1 z2 z3 z4 F G = some res) {H : Heap} {locs : List Loc} (hw : mMW s A v a F G H locs) {ls : Array Slot} (hl : lv_has ls 12 []) : W p l e R s m args below meth c H locs 0 0 Q (F0 m 459 ls [.int z0, .int z1, .int z2, .int z3, .int z4, .ref (a 212)]) := by
  have hx := C.1
  have hb := C.2.1
  unfold mb_array_459 at hm
  refine lv_iconst (v := 0) hx hb dX12_array_459 (by decide) ?_
  obtain ⟨⟨r1, F1, G1⟩, hc, hm⟩ := bind_elim hm
  refine mcallV (n := 6) (As := [.int z4, .int z3, .int z2, .int z1, .int z0, .int 0]) (rest := []) C hw (mk_declare l v a _ fu z4 z3 z2 z1 z0 0 F G r1 F1 G1 hc) (mrecv_X12 C hw) mm_314 mm_315 mm_316 mm_27 mm_317 (by decide +kernel) rfl (by omega) (by omega) hl.1 rfl (Nat.le_of_ble_eq_true rfl) dX12_array_460 (fun H locs hw => ?_)
  exact mw_array_463 fu C hret F1 G1 hm hw (lv_sub hl [] rfl)
theorem mw_array_458 (fu : Nat) {res : Int32 × PF × PG} (C : mMC p R s m args c A v RX12 cX12_array 12 306 18131) (hret : ∀ (H1 : Heap) (locs1 : List Loc) (ls1 : Array Slot) (pc : Nat), mMW s A v a res.2.1 res.2.2 H1 locs1 → narrow .boolean (.int res.1) = .int res.1 → decode cX12_array pc = .ok (.ireturn, 1) → W p l e R s m args below meth c H1 locs1 0 0 Q (F0 m pc ls1 [.int res.1])) (x3 : Int32) (z0 : Int32) (z1 : Int32) (z2 : Int32) (z3 : Int32) (F : PF) (G : PG) (hm : mb_array_458 fu x3 z0 z1 z2 z3 F G = some res) {H : Heap} {locs : List Loc} (hw : mMW s A v a F G H locs) {ls : Array Slot} (hl : lv_has ls 12 [(3, .int x3)]) : W p l e R s m args below meth c H locs 0 0 Q (F0 m 458 ls [.int z0, .int z1, .int z2, .int z3, .ref (a 212)]) := by
  have hx := C.1
  have hb := C.2.1
  unfold mb_array_458 at hm
  refine lv_iload_n hx hb dX12_array_458 rfl (lv_at hl 0 rfl) ?_
  exact mw_array_459 fu C hret x3 z0 z1 z2 z3 F G hm hw (lv_sub hl [] rfl)
theorem mw_array_454 (fu : Nat) {res : Int32 × PF × PG} (C : mMC p R s m args c A v RX12 cX12_array 12 306 18131) (hret : ∀ (H1 : Heap) (locs1 : List Loc) (ls1 : Array Slot) (pc : Nat), mMW s A v a res.2.1 res.2.2 H1 locs1 → narrow .boolean (.int res.1) = .int res.1 → decode cX12_array pc = .ok (.ireturn, 1) → W p l e R s m args below meth c H1 locs1 0 0 Q (F0 m pc ls1 [.int res.1])) (z0 : Int32) (z1 : Int32) (z2 : Int32) (z3 : Int32) (F : PF) (G : PG) (hm : mb_array_454 fu z0 z1 z2 z3 F G = some res) {H : Heap} {locs : List Loc} (hw : mMW s A v a F G H locs) {ls : Array Slot} (hl : lv_has ls 12 []) : W p l e R s m args below meth c H locs 0 0 Q (F0 m 454 ls [.int z0, .int z1, .int z2, .int z3, .ref (a 212)]) := by
  have hx := C.1
  have hb := C.2.1
  unfold mb_array_454 at hm
  refine lv_iconst (v := 1) hx hb dX12_array_454 (by decide) ?_
  refine lv_goto (tgt := 459) hx hb dX12_array_455 (by decide) ?_
  exact mw_array_459 fu C hret 1 z0 z1 z2 z3 F G hm hw (lv_sub hl [] rfl)
theorem mw_array_443 (fu : Nat) {res : Int32 × PF × PG} (C : mMC p R s m args c A v RX12 cX12_array 12 306 18131) (hret : ∀ (H1 : Heap) (locs1 : List Loc) (ls1 : Array Slot) (pc : Nat), mMW s A v a res.2.1 res.2.2 H1 locs1 → narrow .boolean (.int res.1) = .int res.1 → decode cX12_array pc = .ok (.ireturn, 1) → W p l e R s m args below meth c H1 locs1 0 0 Q (F0 m pc ls1 [.int res.1])) (x1 : Int32) (x2 : Int32) (x3 : Int32) (x4 : Int32) (F : PF) (G : PG) (hm : mb_array_443 fu x1 x2 x3 x4 F G = some res) {H : Heap} {locs : List Loc} (hw : mMW s A v a F G H locs) {ls : Array Slot} (hl : lv_has ls 12 [(0, .ref (a 212)), (1, .int x1), (2, .int x2), (3, .int x3), (4, .int x4)]) : W p l e R s m args below meth c H locs 0 0 Q (F0 m 443 ls []) := by
  have hx := C.1
  have hb := C.2.1
  unfold mb_array_443 at hm
  refine lv_aload_n hx hb dX12_array_443 rfl (lv_at hl 0 rfl) ?_
  refine lv_iload_n hx hb dX12_array_444 rfl (lv_at hl 1 rfl) ?_
  refine lv_iconst (v := 2) hx hb dX12_array_445 (by decide) ?_
  refine lv_iload_n hx hb dX12_array_446 rfl (lv_at hl 2 rfl) ?_
  refine lv_iload hx hb dX12_array_447 (lv_at hl 4 rfl) ?_
  refine lv_iload_n hx hb dX12_array_449 rfl (lv_at hl 3 rfl) ?_
  refine lv_iconst (v := (-1)) hx hb dX12_array_450 (by decide) ?_
  refine lv_icmp_ne (tgt := 458) hx hb dX12_array_451 (by decide) (fun c_1 => ?_) (fun c_1 => ?_)
  · have hm := (if_neg c_1).symm.trans hm
    exact mw_array_458 fu C hret x3 x4 x2 2 x1 F G hm hw (lv_sub hl [3] rfl)
  · have hm := (if_pos c_1).symm.trans hm
    exact mw_array_454 fu C hret x4 x2 2 x1 F G hm hw (lv_sub hl [] rfl)
theorem mw_array_441 (fu : Nat) {res : Int32 × PF × PG} (C : mMC p R s m args c A v RX12 cX12_array 12 306 18131) (hret : ∀ (H1 : Heap) (locs1 : List Loc) (ls1 : Array Slot) (pc : Nat), mMW s A v a res.2.1 res.2.2 H1 locs1 → narrow .boolean (.int res.1) = .int res.1 → decode cX12_array pc = .ok (.ireturn, 1) → W p l e R s m args below meth c H1 locs1 0 0 Q (F0 m pc ls1 [.int res.1])) (F : PF) (G : PG) (hm : mb_array_441 fu F G = some res) {H : Heap} {locs : List Loc} (hw : mMW s A v a F G H locs) {ls : Array Slot} (hl : lv_has ls 12 []) : W p l e R s m args below meth c H locs 0 0 Q (F0 m 441 ls []) := by
  have hx := C.1
  have hb := C.2.1
  unfold mb_array_441 at hm
  refine lv_iconst (v := 0) hx hb dX12_array_441 (by decide) ?_
  obtain rfl := Option.some.inj hm
  exact hret _ _ _ _ hw (b01_nar (v := 0) (Or.inl rfl)) dX12_array_442
theorem mw_array_438 (fu : Nat) {res : Int32 × PF × PG} (C : mMC p R s m args c A v RX12 cX12_array 12 306 18131) (hret : ∀ (H1 : Heap) (locs1 : List Loc) (ls1 : Array Slot) (pc : Nat), mMW s A v a res.2.1 res.2.2 H1 locs1 → narrow .boolean (.int res.1) = .int res.1 → decode cX12_array pc = .ok (.ireturn, 1) → W p l e R s m args below meth c H1 locs1 0 0 Q (F0 m pc ls1 [.int res.1])) (x1 : Int32) (x2 : Int32) (x3 : Int32) (x4 : Int32) (z0 : Int32) (F : PF) (G : PG) (hm : mb_array_438 fu x1 x2 x3 x4 z0 F G = some res) {H : Heap} {locs : List Loc} (hw : mMW s A v a F G H locs) {ls : Array Slot} (hl : lv_has ls 12 [(0, .ref (a 212)), (1, .int x1), (2, .int x2), (3, .int x3), (4, .int x4)]) : W p l e R s m args below meth c H locs 0 0 Q (F0 m 438 ls [.int z0]) := by
  have hx := C.1
  have hb := C.2.1
  unfold mb_array_438 at hm
  refine lv_if_ne (tgt := 443) hx hb dX12_array_438 (by decide) (fun c_1 => ?_) (fun c_1 => ?_)
  · have hm := (if_neg c_1).symm.trans hm
    exact mw_array_443 fu C hret x1 x2 x3 x4 F G hm hw (lv_sub hl [0, 1, 2, 3, 4] rfl)
  · have hm := (if_pos c_1).symm.trans hm
    exact mw_array_441 fu C hret F G hm hw (lv_sub hl [] rfl)
theorem mw_array_432 (fu : Nat) {res : Int32 × PF × PG} (C : mMC p R s m args c A v RX12 cX12_array 12 306 18131) (hret : ∀ (H1 : Heap) (locs1 : List Loc) (ls1 : Array Slot) (pc : Nat), mMW s A v a res.2.1 res.2.2 H1 locs1 → narrow .boolean (.int res.1) = .int res.1 → decode cX12_array pc = .ok (.ireturn, 1) → W p l e R s m args below meth c H1 locs1 0 0 Q (F0 m pc ls1 [.int res.1])) (x1 : Int32) (x2 : Int32) (x3 : Int32) (x4 : Int32) (F : PF) (G : PG) (hm : mb_array_432 fu x1 x2 x3 x4 F G = some res) {H : Heap} {locs : List Loc} (hw : mMW s A v a F G H locs) {ls : Array Slot} (hl : lv_has ls 12 [(0, .ref (a 212)), (1, .int x1), (2, .int x2), (3, .int x3), (4, .int x4)]) : W p l e R s m args below meth c H locs 0 0 Q (F0 m 432 ls []) := by
  have hx := C.1
  have hb := C.2.1
  unfold mb_array_432 at hm
  refine lv_aload_n hx hb dX12_array_432 rfl (lv_at hl 0 rfl) ?_
  refine lv_bipush (v := 27) hx hb dX12_array_433 (by decide) ?_
  obtain ⟨⟨r1, F1, G1⟩, hc, hm⟩ := bind_elim hm
  refine mcallI (n := 1) (As := [.int 27]) (rest := []) C hw (mk_closeSign l v a _ fu 27 F G r1 F1 G1 hc) (mrecv_X12 C hw) mm_248 mm_249 mm_250 mm_27 mm_251 (by decide +kernel) rfl (by omega) (by omega) hl.1 rfl (Nat.le_of_ble_eq_true rfl) dX12_array_435 (fun H locs hw => ?_)
  exact mw_array_438 fu C hret x1 x2 x3 x4 r1 F1 G1 hm hw (lv_sub hl [0, 1, 2, 3, 4] rfl)
theorem mw_array_429 (fu : Nat) {res : Int32 × PF × PG} (C : mMC p R s m args c A v RX12 cX12_array 12 306 18131) (hret : ∀ (H1 : Heap) (locs1 : List Loc) (ls1 : Array Slot) (pc : Nat), mMW s A v a res.2.1 res.2.2 H1 locs1 → narrow .boolean (.int res.1) = .int res.1 → decode cX12_array pc = .ok (.ireturn, 1) → W p l e R s m args below meth c H1 locs1 0 0 Q (F0 m pc ls1 [.int res.1])) (ag_297 : Int32 → Int32 → Int32 → Int32 → Int32 → Int32 → Int32 → PF → PG → PR) (hag_297 : ∀ (x1 : Int32) (x2 : Int32) (x3 : Int32) (x4 : Int32) (x7 : Int32) (x8 : Int32) (x9 : Int32) (F : PF) (G : PG), ag_297 x1 x2 x3 x4 x7 x8 x9 F G = some res → ∀ (H : Heap) (locs : List Loc) (ls : Array Slot), mMW s A v a F G H locs → lv_has ls 12 [(0, .ref (a 212)), (1, .int x1), (2, .int x2), (3, .int x3), (4, .int x4), (7, .int x7), (8, .int x8), (9, .int x9)] → W p l e R s m args below meth c H locs 0 0 Q (F0 m 297 ls [])) (x1 : Int32) (x2 : Int32) (x3 : Int32) (x4 : Int32) (x7 : Int32) (x8 : Int32) (x9 : Int32) (F : PF) (G : PG) (hm : mb_array_429 fu ag_297 x1 x2 x3 x4 x7 x8 x9 F G = some res) {H : Heap} {locs : List Loc} (hw : mMW s A v a F G H locs) {ls : Array Slot} (hl : lv_has ls 12 [(0, .ref (a 212)), (1, .int x1), (2, .int x2), (3, .int x3), (4, .int x4), (7, .int x7), (8, .int x8), (9, .int x9)]) : W p l e R s m args below meth c H locs 0 0 Q (F0 m 429 ls []) := by
  have hx := C.1
  have hb := C.2.1
  unfold mb_array_429 at hm
  refine lv_goto (tgt := 297) hx hb dX12_array_429 (by decide) ?_
  exact hag_297 x1 x2 x3 x4 x7 x8 x9 F G hm _ _ _ hw (lv_sub hl [0, 1, 2, 3, 4, 5, 6, 7] rfl)
theorem mw_array_425 (fu : Nat) {res : Int32 × PF × PG} (C : mMC p R s m args c A v RX12 cX12_array 12 306 18131) (hret : ∀ (H1 : Heap) (locs1 : List Loc) (ls1 : Array Slot) (pc : Nat), mMW s A v a res.2.1 res.2.2 H1 locs1 → narrow .boolean (.int res.1) = .int res.1 → decode cX12_array pc = .ok (.ireturn, 1) → W p l e R s m args below meth c H1 locs1 0 0 Q (F0 m pc ls1 [.int res.1])) (ag_297 : Int32 → Int32 → Int32 → Int32 → Int32 → Int32 → Int32 → PF → PG → PR) (hag_297 : ∀ (x1 : Int32) (x2 : Int32) (x3 : Int32) (x4 : Int32) (x7 : Int32) (x8 : Int32) (x9 : Int32) (F : PF) (G : PG), ag_297 x1 x2 x3 x4 x7 x8 x9 F G = some res → ∀ (H : Heap) (locs : List Loc) (ls : Array Slot), mMW s A v a F G H locs → lv_has ls 12 [(0, .ref (a 212)), (1, .int x1), (2, .int x2), (3, .int x3), (4, .int x4), (7, .int x7), (8, .int x8), (9, .int x9)] → W p l e R s m args below meth c H locs 0 0 Q (F0 m 297 ls [])) (x1 : Int32) (x2 : Int32) (x3 : Int32) (x4 : Int32) (x7 : Int32) (x8 : Int32) (x9 : Int32) (z0 : Int32) (z1 : Int32) (F : PF) (G : PG) (hm : mb_array_425 fu ag_297 x1 x2 x3 x4 x7 x8 x9 z0 z1 F G = some res) {H : Heap} {locs : List Loc} (hw : mMW s A v a F G H locs) {ls : Array Slot} (hl : lv_has ls 12 [(0, .ref (a 212)), (1, .int x1), (2, .int x2), (3, .int x3), (4, .int x4), (7, .int x7), (8, .int x8), (9, .int x9)]) : W p l e R s m args below meth c H locs 0 0 Q (F0 m 425 ls [.int z0, .int z1, .ref (a 212)]) := by
  have hx := C.1
  have hb := C.2.1
  unfold mb_array_425 at hm
  refine lv_iadd hx hb dX12_array_425 ?_
  refine mp_X12_233 C hw dX12_array_426 (fun H locs hw => ?_)
  exact mw_array_429 fu C hret ag_297 hag_297 x1 x2 x3 x4 x7 x8 x9 (fup F 42 (z1 + z0)) G hm hw (lv_sub hl [0, 1, 2, 3, 4, 5, 6, 7] rfl)
theorem mw_array_424 (fu : Nat) {res : Int32 × PF × PG} (C : mMC p R s m args c A v RX12 cX12_array 12 306 18131) (hret : ∀ (H1 : Heap) (locs1 : List Loc) (ls1 : Array Slot) (pc : Nat), mMW s A v a res.2.1 res.2.2 H1 locs1 → narrow .boolean (.int res.1) = .int res.1 → decode cX12_array pc = .ok (.ireturn, 1) → W p l e R s m args below meth c H1 locs1 0 0 Q (F0 m pc ls1 [.int res.1])) (ag_297 : Int32 → Int32 → Int32 → Int32 → Int32 → Int32 → Int32 → PF → PG → PR) (hag_297 : ∀ (x1 : Int32) (x2 : Int32) (x3 : Int32) (x4 : Int32) (x7 : Int32) (x8 : Int32) (x9 : Int32) (F : PF) (G : PG), ag_297 x1 x2 x3 x4 x7 x8 x9 F G = some res → ∀ (H : Heap) (locs : List Loc) (ls : Array Slot), mMW s A v a F G H locs → lv_has ls 12 [(0, .ref (a 212)), (1, .int x1), (2, .int x2), (3, .int x3), (4, .int x4), (7, .int x7), (8, .int x8), (9, .int x9)] → W p l e R s m args below meth c H locs 0 0 Q (F0 m 297 ls [])) (x1 : Int32) (x2 : Int32) (x3 : Int32) (x4 : Int32) (x7 : Int32) (x8 : Int32) (x9 : Int32) (z0 : Int32) (F : PF) (G : PG) (hm : mb_array_424 fu ag_297 x1 x2 x3 x4 x7 x8 x9 z0 F G = some res) {H : Heap} {locs : List Loc} (hw : mMW s A v a F G H locs) {ls : Array Slot} (hl : lv_has ls 12 [(0, .ref (a 212)), (1, .int x1), (2, .int x2), (3, .int x3), (4, .int x4), (7, .int x7), (8, .int x8), (9, .int x9)]) : W p l e R s m args below meth c H locs 0 0 Q (F0 m 424 ls [.int z0, .ref (a 212)]) := by
  have hx := C.1
  have hb := C.2.1
  unfold mb_array_424 at hm
  refine lv_iconst (v := 0) hx hb dX12_array_424 (by decide) ?_
  exact mw_array_425 fu C hret ag_297 hag_297 x1 x2 x3 x4 x7 x8 x9 0 z0 F G hm hw (lv_sub hl [0, 1, 2, 3, 4, 5, 6, 7] rfl)
theorem mw_array_420 (fu : Nat) {res : Int32 × PF × PG} (C : mMC p R s m args c A v RX12 cX12_array 12 306 18131) (hret : ∀ (H1 : Heap) (locs1 : List Loc) (ls1 : Array Slot) (pc : Nat), mMW s A v a res.2.1 res.2.2 H1 locs1 → narrow .boolean (.int res.1) = .int res.1 → decode cX12_array pc = .ok (.ireturn, 1) → W p l e R s m args below meth c H1 locs1 0 0 Q (F0 m pc ls1 [.int res.1])) (ag_297 : Int32 → Int32 → Int32 → Int32 → Int32 → Int32 → Int32 → PF → PG → PR) (hag_297 : ∀ (x1 : Int32) (x2 : Int32) (x3 : Int32) (x4 : Int32) (x7 : Int32) (x8 : Int32) (x9 : Int32) (F : PF) (G : PG), ag_297 x1 x2 x3 x4 x7 x8 x9 F G = some res → ∀ (H : Heap) (locs : List Loc) (ls : Array Slot), mMW s A v a F G H locs → lv_has ls 12 [(0, .ref (a 212)), (1, .int x1), (2, .int x2), (3, .int x3), (4, .int x4), (7, .int x7), (8, .int x8), (9, .int x9)] → W p l e R s m args below meth c H locs 0 0 Q (F0 m 297 ls [])) (x1 : Int32) (x2 : Int32) (x3 : Int32) (x4 : Int32) (x7 : Int32) (x8 : Int32) (x9 : Int32) (z0 : Int32) (F : PF) (G : PG) (hm : mb_array_420 fu ag_297 x1 x2 x3 x4 x7 x8 x9 z0 F G = some res) {H : Heap} {locs : List Loc} (hw : mMW s A v a F G H locs) {ls : Array Slot} (hl : lv_has ls 12 [(0, .ref (a 212)), (1, .int x1), (2, .int x2), (3, .int x3), (4, .int x4), (7, .int x7), (8, .int x8), (9, .int x9)]) : W p l e R s m args below meth c H locs 0 0 Q (F0 m 420 ls [.int z0, .ref (a 212)]) := by
  have hx := C.1
  have hb := C.2.1
  unfold mb_array_420 at hm
  refine lv_iconst (v := 1) hx hb dX12_array_420 (by decide) ?_
  refine lv_goto (tgt := 425) hx hb dX12_array_421 (by decide) ?_
  exact mw_array_425 fu C hret ag_297 hag_297 x1 x2 x3 x4 x7 x8 x9 1 z0 F G hm hw (lv_sub hl [0, 1, 2, 3, 4, 5, 6, 7] rfl)
theorem mw_array_408 (fu : Nat) {res : Int32 × PF × PG} (C : mMC p R s m args c A v RX12 cX12_array 12 306 18131) (hret : ∀ (H1 : Heap) (locs1 : List Loc) (ls1 : Array Slot) (pc : Nat), mMW s A v a res.2.1 res.2.2 H1 locs1 → narrow .boolean (.int res.1) = .int res.1 → decode cX12_array pc = .ok (.ireturn, 1) → W p l e R s m args below meth c H1 locs1 0 0 Q (F0 m pc ls1 [.int res.1])) (ag_297 : Int32 → Int32 → Int32 → Int32 → Int32 → Int32 → Int32 → PF → PG → PR) (hag_297 : ∀ (x1 : Int32) (x2 : Int32) (x3 : Int32) (x4 : Int32) (x7 : Int32) (x8 : Int32) (x9 : Int32) (F : PF) (G : PG), ag_297 x1 x2 x3 x4 x7 x8 x9 F G = some res → ∀ (H : Heap) (locs : List Loc) (ls : Array Slot), mMW s A v a F G H locs → lv_has ls 12 [(0, .ref (a 212)), (1, .int x1), (2, .int x2), (3, .int x3), (4, .int x4), (7, .int x7), (8, .int x8), (9, .int x9)] → W p l e R s m args below meth c H locs 0 0 Q (F0 m 297 ls [])) (x1 : Int32) (x2 : Int32) (x3 : Int32) (x4 : Int32) (x7 : Int32) (x8 : Int32) (z0 : Int32) (F : PF) (G : PG) (hm : mb_array_408 fu ag_297 x1 x2 x3 x4 x7 x8 z0 F G = some res) {H : Heap} {locs : List Loc} (hw : mMW s A v a F G H locs) {ls : Array Slot} (hl : lv_has ls 12 [(0, .ref (a 212)), (1, .int x1), (2, .int x2), (3, .int x3), (4, .int x4), (7, .int x7), (8, .int x8)]) : W p l e R s m args below meth c H locs 0 0 Q (F0 m 408 ls [.int z0]) := by
  have hx := C.1
  have hb := C.2.1
  unfold mb_array_408 at hm
  refine lv_istore (lv' := [(9, .int z0), (0, .ref (a 212)), (1, .int x1), (2, .int x2), (3, .int x3), (4, .int x4), (7, .int x7), (8, .int x8)]) hx hb dX12_array_408 hl (by decide) rfl (fun ls hl => ?_)
  refine lv_aload_n hx hb dX12_array_410 rfl (lv_at hl 1 rfl) ?_
  refine lv_dup hx hb dX12_array_411 rfl ?_
  refine mg_X12_233 C hw dX12_array_412 ?_
  refine lv_iload hx hb dX12_array_415 (lv_at hl 0 rfl) ?_
  refine lv_if_eq (tgt := 424) hx hb dX12_array_417 (by decide) (fun c_1 => ?_) (fun c_1 => ?_)
  · have hm := (if_pos c_1).symm.trans hm
    exact mw_array_424 fu C hret ag_297 hag_297 x1 x2 x3 x4 x7 x8 z0 (F 42) F G hm hw (lv_sub hl [1, 2, 3, 4, 5, 6, 7, 0] rfl)
  · have hm := (if_neg c_1).symm.trans hm
    exact mw_array_420 fu C hret ag_297 hag_297 x1 x2 x3 x4 x7 x8 z0 (F 42) F G hm hw (lv_sub hl [1, 2, 3, 4, 5, 6, 7, 0] rfl)
theorem mw_array_407 (fu : Nat) {res : Int32 × PF × PG} (C : mMC p R s m args c A v RX12 cX12_array 12 306 18131) (hret : ∀ (H1 : Heap) (locs1 : List Loc) (ls1 : Array Slot) (pc : Nat), mMW s A v a res.2.1 res.2.2 H1 locs1 → narrow .boolean (.int res.1) = .int res.1 → decode cX12_array pc = .ok (.ireturn, 1) → W p l e R s m args below meth c H1 locs1 0 0 Q (F0 m pc ls1 [.int res.1])) (ag_297 : Int32 → Int32 → Int32 → Int32 → Int32 → Int32 → Int32 → PF → PG → PR) (hag_297 : ∀ (x1 : Int32) (x2 : Int32) (x3 : Int32) (x4 : Int32) (x7 : Int32) (x8 : Int32) (x9 : Int32) (F : PF) (G : PG), ag_297 x1 x2 x3 x4 x7 x8 x9 F G = some res → ∀ (H : Heap) (locs : List Loc) (ls : Array Slot), mMW s A v a F G H locs → lv_has ls 12 [(0, .ref (a 212)), (1, .int x1), (2, .int x2), (3, .int x3), (4, .int x4), (7, .int x7), (8, .int x8), (9, .int x9)] → W p l e R s m args below meth c H locs 0 0 Q (F0 m 297 ls [])) (x1 : Int32) (x2 : Int32) (x3 : Int32) (x4 : Int32) (x7 : Int32) (x8 : Int32) (F : PF) (G : PG) (hm : mb_array_407 fu ag_297 x1 x2 x3 x4 x7 x8 F G = some res) {H : Heap} {locs : List Loc} (hw : mMW s A v a F G H locs) {ls : Array Slot} (hl : lv_has ls 12 [(0, .ref (a 212)), (1, .int x1), (2, .int x2), (3, .int x3), (4, .int x4), (7, .int x7), (8, .int x8)]) : W p l e R s m args below meth c H locs 0 0 Q (F0 m 407 ls []) := by
  have hx := C.1
  have hb := C.2.1
  unfold mb_array_407 at hm
  refine lv_iconst (v := 0) hx hb dX12_array_407 (by decide) ?_
  exact mw_array_408 fu C hret ag_297 hag_297 x1 x2 x3 x4 x7 x8 0 F G hm hw (lv_sub hl [0, 1, 2, 3, 4, 5, 6] rfl)
theorem mw_array_403 (fu : Nat) {res : Int32 × PF × PG} (C : mMC p R s m args c A v RX12 cX12_array 12 306 18131) (hret : ∀ (H1 : Heap) (locs1 : List Loc) (ls1 : Array Slot) (pc : Nat), mMW s A v a res.2.1 res.2.2 H1 locs1 → narrow .boolean (.int res.1) = .int res.1 → decode cX12_array pc = .ok (.ireturn, 1) → W p l e R s m args below meth c H1 locs1 0 0 Q (F0 m pc ls1 [.int res.1])) (ag_297 : Int32 → Int32 → Int32 → Int32 → Int32 → Int32 → Int32 → PF → PG → PR) (hag_297 : ∀ (x1 : Int32) (x2 : Int32) (x3 : Int32) (x4 : Int32) (x7 : Int32) (x8 : Int32) (x9 : Int32) (F : PF) (G : PG), ag_297 x1 x2 x3 x4 x7 x8 x9 F G = some res → ∀ (H : Heap) (locs : List Loc) (ls : Array Slot), mMW s A v a F G H locs → lv_has ls 12 [(0, .ref (a 212)), (1, .int x1), (2, .int x2), (3, .int x3), (4, .int x4), (7, .int x7), (8, .int x8), (9, .int x9)] → W p l e R s m args below meth c H locs 0 0 Q (F0 m 297 ls [])) (x1 : Int32) (x2 : Int32) (x3 : Int32) (x4 : Int32) (x7 : Int32) (x8 : Int32) (F : PF) (G : PG) (hm : mb_array_403 fu ag_297 x1 x2 x3 x4 x7 x8 F G = some res) {H : Heap} {locs : List Loc} (hw : mMW s A v a F G H locs) {ls : Array Slot} (hl : lv_has ls 12 [(0, .ref (a 212)), (1, .int x1), (2, .int x2), (3, .int x3), (4, .int x4), (7, .int x7), (8, .int x8)]) : W p l e R s m args below meth c H locs 0 0 Q (F0 m 403 ls []) := by
  have hx := C.1
  have hb := C.2.1
  unfold mb_array_403 at hm
  refine lv_iconst (v := 1) hx hb dX12_array_403 (by decide) ?_
  refine lv_goto (tgt := 408) hx hb dX12_array_404 (by decide) ?_
  exact mw_array_408 fu C hret ag_297 hag_297 x1 x2 x3 x4 x7 x8 1 F G hm hw (lv_sub hl [0, 1, 2, 3, 4, 5, 6] rfl)
theorem mw_array_400 (fu : Nat) {res : Int32 × PF × PG} (C : mMC p R s m args c A v RX12 cX12_array 12 306 18131) (hret : ∀ (H1 : Heap) (locs1 : List Loc) (ls1 : Array Slot) (pc : Nat), mMW s A v a res.2.1 res.2.2 H1 locs1 → narrow .boolean (.int res.1) = .int res.1 → decode cX12_array pc = .ok (.ireturn, 1) → W p l e R s m args below meth c H1 locs1 0 0 Q (F0 m pc ls1 [.int res.1])) (ag_297 : Int32 → Int32 → Int32 → Int32 → Int32 → Int32 → Int32 → PF → PG → PR) (hag_297 : ∀ (x1 : Int32) (x2 : Int32) (x3 : Int32) (x4 : Int32) (x7 : Int32) (x8 : Int32) (x9 : Int32) (F : PF) (G : PG), ag_297 x1 x2 x3 x4 x7 x8 x9 F G = some res → ∀ (H : Heap) (locs : List Loc) (ls : Array Slot), mMW s A v a F G H locs → lv_has ls 12 [(0, .ref (a 212)), (1, .int x1), (2, .int x2), (3, .int x3), (4, .int x4), (7, .int x7), (8, .int x8), (9, .int x9)] → W p l e R s m args below meth c H locs 0 0 Q (F0 m 297 ls [])) (x1 : Int32) (x2 : Int32) (x3 : Int32) (x4 : Int32) (x7 : Int32) (x8 : Int32) (z0 : Int32) (F : PF) (G : PG) (hm : mb_array_400 fu ag_297 x1 x2 x3 x4 x7 x8 z0 F G = some res) {H : Heap} {locs : List Loc} (hw : mMW s A v a F G H locs) {ls : Array Slot} (hl : lv_has ls 12 [(0, .ref (a 212)), (1, .int x1), (2, .int x2), (3, .int x3), (4, .int x4), (7, .int x7), (8, .int x8)]) : W p l e R s m args below meth c H locs 0 0 Q (F0 m 400 ls [.int z0]) := by
  have hx := C.1
  have hb := C.2.1
  unfold mb_array_400 at hm
  refine lv_if_eq (tgt := 407) hx hb dX12_array_400 (by decide) (fun c_1 => ?_) (fun c_1 => ?_)
  · have hm := (if_pos c_1).symm.trans hm
    exact mw_array_407 fu C hret ag_297 hag_297 x1 x2 x3 x4 x7 x8 F G hm hw (lv_sub hl [0, 1, 2, 3, 4, 5, 6] rfl)
  · have hm := (if_neg c_1).symm.trans hm
    exact mw_array_403 fu C hret ag_297 hag_297 x1 x2 x3 x4 x7 x8 F G hm hw (lv_sub hl [0, 1, 2, 3, 4, 5, 6] rfl)
theorem mw_array_394 (fu : Nat) {res : Int32 × PF × PG} (C : mMC p R s m args c A v RX12 cX12_array 12 306 18131) (hret : ∀ (H1 : Heap) (locs1 : List Loc) (ls1 : Array Slot) (pc : Nat), mMW s A v a res.2.1 res.2.2 H1 locs1 → narrow .boolean (.int res.1) = .int res.1 → decode cX12_array pc = .ok (.ireturn, 1) → W p l e R s m args below meth c H1 locs1 0 0 Q (F0 m pc ls1 [.int res.1])) (ag_297 : Int32 → Int32 → Int32 → Int32 → Int32 → Int32 → Int32 → PF → PG → PR) (hag_297 : ∀ (x1 : Int32) (x2 : Int32) (x3 : Int32) (x4 : Int32) (x7 : Int32) (x8 : Int32) (x9 : Int32) (F : PF) (G : PG), ag_297 x1 x2 x3 x4 x7 x8 x9 F G = some res → ∀ (H : Heap) (locs : List Loc) (ls : Array Slot), mMW s A v a F G H locs → lv_has ls 12 [(0, .ref (a 212)), (1, .int x1), (2, .int x2), (3, .int x3), (4, .int x4), (7, .int x7), (8, .int x8), (9, .int x9)] → W p l e R s m args below meth c H locs 0 0 Q (F0 m 297 ls [])) (x1 : Int32) (x2 : Int32) (x3 : Int32) (x4 : Int32) (x7 : Int32) (x8 : Int32) (F : PF) (G : PG) (hm : mb_array_394 fu ag_297 x1 x2 x3 x4 x7 x8 F G = some res) {H : Heap} {locs : List Loc} (hw : mMW s A v a F G H locs) {ls : Array Slot} (hl : lv_has ls 12 [(0, .ref (a 212)), (1, .int x1), (2, .int x2), (3, .int x3), (4, .int x4), (7, .int x7), (8, .int x8)]) : W p l e R s m args below meth c H locs 0 0 Q (F0 m 394 ls []) := by
  have hx := C.1
  have hb := C.2.1
  unfold mb_array_394 at hm
  refine lv_aload_n hx hb dX12_array_394 rfl (lv_at hl 0 rfl) ?_
  refine lv_bipush (v := 28) hx hb dX12_array_395 (by decide) ?_
  obtain ⟨⟨r1, F1, G1⟩, hc, hm⟩ := bind_elim hm
  refine mcallI (n := 1) (As := [.int 28]) (rest := []) C hw (mk_isSign l v a _ fu 28 F G r1 F1 G1 hc) (mrecv_X12 C hw) mm_183 mm_184 mm_185 mm_27 mm_186 (by decide +kernel) rfl (by omega) (by omega) hl.1 rfl (Nat.le_of_ble_eq_true rfl) dX12_array_397 (fun H locs hw => ?_)
  exact mw_array_400 fu C hret ag_297 hag_297 x1 x2 x3 x4 x7 x8 r1 F1 G1 hm hw (lv_sub hl [0, 1, 2, 3, 4, 5, 6] rfl)
theorem mw_array_384 (fu : Nat) {res : Int32 × PF × PG} (C : mMC p R s m args c A v RX12 cX12_array 12 306 18131) (hret : ∀ (H1 : Heap) (locs1 : List Loc) (ls1 : Array Slot) (pc : Nat), mMW s A v a res.2.1 res.2.2 H1 locs1 → narrow .boolean (.int res.1) = .int res.1 → decode cX12_array pc = .ok (.ireturn, 1) → W p l e R s m args below meth c H1 locs1 0 0 Q (F0 m pc ls1 [.int res.1])) (ag_297 : Int32 → Int32 → Int32 → Int32 → Int32 → Int32 → Int32 → PF → PG → PR) (hag_297 : ∀ (x1 : Int32) (x2 : Int32) (x3 : Int32) (x4 : Int32) (x7 : Int32) (x8 : Int32) (x9 : Int32) (F : PF) (G : PG), ag_297 x1 x2 x3 x4 x7 x8 x9 F G = some res → ∀ (H : Heap) (locs : List Loc) (ls : Array Slot), mMW s A v a F G H locs → lv_has ls 12 [(0, .ref (a 212)), (1, .int x1), (2, .int x2), (3, .int x3), (4, .int x4), (7, .int x7), (8, .int x8), (9, .int x9)] → W p l e R s m args below meth c H locs 0 0 Q (F0 m 297 ls [])) (x1 : Int32) (x2 : Int32) (x3 : Int32) (x4 : Int32) (x7 : Int32) (x8 : Int32) (F : PF) (G : PG) (hm : mb_array_384 fu ag_297 x1 x2 x3 x4 x7 x8 F G = some res) {H : Heap} {locs : List Loc} (hw : mMW s A v a F G H locs) {ls : Array Slot} (hl : lv_has ls 12 [(0, .ref (a 212)), (1, .int x1), (2, .int x2), (3, .int x3), (4, .int x4), (7, .int x7), (8, .int x8)]) : W p l e R s m args below meth c H locs 0 0 Q (F0 m 384 ls []) := by
  have hx := C.1
  have hb := C.2.1
  unfold mb_array_384 at hm
  refine lv_iinc (v := (x8 + 1)) (lv' := [(8, .int (x8 + 1)), (0, .ref (a 212)), (1, .int x1), (2, .int x2), (3, .int x3), (4, .int x4), (7, .int x7)]) hx hb dX12_array_384 hl (k := 6) rfl (by rfl) (by decide) rfl (fun ls hl => ?_)
  refine lv_aload_n hx hb dX12_array_387 rfl (lv_at hl 1 rfl) ?_
  refine mg_X12_230 C hw dX12_array_388 ?_
  refine lv_if_ne (tgt := 407) hx hb dX12_array_391 (by decide) (fun c_1 => ?_) (fun c_1 => ?_)
  · have hm := (if_neg c_1).symm.trans hm
    exact mw_array_407 fu C hret ag_297 hag_297 x1 x2 x3 x4 x7 (x8 + 1) F G hm hw (lv_sub hl [1, 2, 3, 4, 5, 6, 0] rfl)
  · have hm := (if_pos c_1).symm.trans hm
    exact mw_array_394 fu C hret ag_297 hag_297 x1 x2 x3 x4 x7 (x8 + 1) F G hm hw (lv_sub hl [1, 2, 3, 4, 5, 6, 0] rfl)
theorem mw_array_383 (fu : Nat) {res : Int32 × PF × PG} (C : mMC p R s m args c A v RX12 cX12_array 12 306 18131) (hret : ∀ (H1 : Heap) (locs1 : List Loc) (ls1 : Array Slot) (pc : Nat), mMW s A v a res.2.1 res.2.2 H1 locs1 → narrow .boolean (.int res.1) = .int res.1 → decode cX12_array pc = .ok (.ireturn, 1) → W p l e R s m args below meth c H1 locs1 0 0 Q (F0 m pc ls1 [.int res.1])) (ag_297 : Int32 → Int32 → Int32 → Int32 → Int32 → Int32 → Int32 → PF → PG → PR) (hag_297 : ∀ (x1 : Int32) (x2 : Int32) (x3 : Int32) (x4 : Int32) (x7 : Int32) (x8 : Int32) (x9 : Int32) (F : PF) (G : PG), ag_297 x1 x2 x3 x4 x7 x8 x9 F G = some res → ∀ (H : Heap) (locs : List Loc) (ls : Array Slot), mMW s A v a F G H locs → lv_has ls 12 [(0, .ref (a 212)), (1, .int x1), (2, .int x2), (3, .int x3), (4, .int x4), (7, .int x7), (8, .int x8), (9, .int x9)] → W p l e R s m args below meth c H locs 0 0 Q (F0 m 297 ls [])) (x1 : Int32) (x2 : Int32) (x3 : Int32) (x4 : Int32) (x7 : Int32) (x8 : Int32) (z0 : Int32) (z1 : Int32) (F : PF) (G : PG) (hm : mb_array_383 fu ag_297 x1 x2 x3 x4 x7 x8 z0 z1 F G = some res) {H : Heap} {locs : List Loc} (hw : mMW s A v a F G H locs) {ls : Array Slot} (hl : lv_has ls 12 [(0, .ref (a 212)), (1, .int x1), (2, .int x2), (3, .int x3), (4, .int x4), (7, .int x7), (8, .int x8)]) : W p l e R s m args below meth c H locs 0 0 Q (F0 m 383 ls [.int z0, .int z1, .ref (a 41)]) := by
  have hx := C.1
  have hb := C.2.1
  unfold mb_array_383 at hm
  obtain ⟨hi, hm⟩ := ix_elim hm
  refine mas_41 C hw hi dX12_array_383 (fun H locs hw => ?_)
  exact mw_array_384 fu C hret ag_297 hag_297 x1 x2 x3 x4 x7 x8 F (gup G 41 z1.toNatClampNeg z0) hm hw (lv_sub hl [0, 1, 2, 3, 4, 5, 6] rfl)
theorem mw_array_381 (fu : Nat) {res : Int32 × PF × PG} (C : mMC p R s m args c A v RX12 cX12_array 12 306 18131) (hret : ∀ (H1 : Heap) (locs1 : List Loc) (ls1 : Array Slot) (pc : Nat), mMW s A v a res.2.1 res.2.2 H1 locs1 → narrow .boolean (.int res.1) = .int res.1 → decode cX12_array pc = .ok (.ireturn, 1) → W p l e R s m args below meth c H1 locs1 0 0 Q (F0 m pc ls1 [.int res.1])) (ag_297 : Int32 → Int32 → Int32 → Int32 → Int32 → Int32 → Int32 → PF → PG → PR) (hag_297 : ∀ (x1 : Int32) (x2 : Int32) (x3 : Int32) (x4 : Int32) (x7 : Int32) (x8 : Int32) (x9 : Int32) (F : PF) (G : PG), ag_297 x1 x2 x3 x4 x7 x8 x9 F G = some res → ∀ (H : Heap) (locs : List Loc) (ls : Array Slot), mMW s A v a F G H locs → lv_has ls 12 [(0, .ref (a 212)), (1, .int x1), (2, .int x2), (3, .int x3), (4, .int x4), (7, .int x7), (8, .int x8), (9, .int x9)] → W p l e R s m args below meth c H locs 0 0 Q (F0 m 297 ls [])) (x1 : Int32) (x2 : Int32) (x3 : Int32) (x4 : Int32) (x7 : Int32) (x8 : Int32) (x11 : Int32) (z0 : Int32) (F : PF) (G : PG) (hm : mb_array_381 fu ag_297 x1 x2 x3 x4 x7 x8 x11 z0 F G = some res) {H : Heap} {locs : List Loc} (hw : mMW s A v a F G H locs) {ls : Array Slot} (hl : lv_has ls 12 [(0, .ref (a 212)), (1, .int x1), (2, .int x2), (3, .int x3), (4, .int x4), (7, .int x7), (8, .int x8), (11, .int x11)]) : W p l e R s m args below meth c H locs 0 0 Q (F0 m 381 ls [.int z0, .ref (a 41)]) := by
  have hx := C.1
  have hb := C.2.1
  unfold mb_array_381 at hm
  refine lv_iload hx hb dX12_array_381 (lv_at hl 7 rfl) ?_
  exact mw_array_383 fu C hret ag_297 hag_297 x1 x2 x3 x4 x7 x8 x11 z0 F G hm hw (lv_sub hl [0, 1, 2, 3, 4, 5, 6] rfl)
theorem mw_array_372 (fu : Nat) {res : Int32 × PF × PG} (C : mMC p R s m args c A v RX12 cX12_array 12 306 18131) (hret : ∀ (H1 : Heap) (locs1 : List Loc) (ls1 : Array Slot) (pc : Nat), mMW s A v a res.2.1 res.2.2 H1 locs1 → narrow .boolean (.int res.1) = .int res.1 → decode cX12_array pc = .ok (.ireturn, 1) → W p l e R s m args below meth c H1 locs1 0 0 Q (F0 m pc ls1 [.int res.1])) (ag_297 : Int32 → Int32 → Int32 → Int32 → Int32 → Int32 → Int32 → PF → PG → PR) (hag_297 : ∀ (x1 : Int32) (x2 : Int32) (x3 : Int32) (x4 : Int32) (x7 : Int32) (x8 : Int32) (x9 : Int32) (F : PF) (G : PG), ag_297 x1 x2 x3 x4 x7 x8 x9 F G = some res → ∀ (H : Heap) (locs : List Loc) (ls : Array Slot), mMW s A v a F G H locs → lv_has ls 12 [(0, .ref (a 212)), (1, .int x1), (2, .int x2), (3, .int x3), (4, .int x4), (7, .int x7), (8, .int x8), (9, .int x9)] → W p l e R s m args below meth c H locs 0 0 Q (F0 m 297 ls [])) (x1 : Int32) (x2 : Int32) (x3 : Int32) (x4 : Int32) (x7 : Int32) (x8 : Int32) (x11 : Int32) (z0 : Int32) (F : PF) (G : PG) (hm : mb_array_372 fu ag_297 x1 x2 x3 x4 x7 x8 x11 z0 F G = some res) {H : Heap} {locs : List Loc} (hw : mMW s A v a F G H locs) {ls : Array Slot} (hl : lv_has ls 12 [(0, .ref (a 212)), (1, .int x1), (2, .int x2), (3, .int x3), (4, .int x4), (7, .int x7), (8, .int x8), (11, .int x11)]) : W p l e R s m args below meth c H locs 0 0 Q (F0 m 372 ls [.int z0, .ref (a 41)]) := by
  have hx := C.1
  have hb := C.2.1
  unfold mb_array_372 at hm
  refine lv_iload hx hb dX12_array_372 (lv_at hl 7 rfl) ?_
  refine lv_sipush (v := 255) hx hb dX12_array_374 (by decide) ?_
  refine lv_iand hx hb dX12_array_377 ?_
  refine lv_goto (tgt := 383) hx hb dX12_array_378 (by decide) ?_
  exact mw_array_383 fu C hret ag_297 hag_297 x1 x2 x3 x4 x7 x8 (x11 &&& (255 : Int32)) z0 F G hm hw (lv_sub hl [0, 1, 2, 3, 4, 5, 6] rfl)
theorem mw_array_359 (fu : Nat) {res : Int32 × PF × PG} (C : mMC p R s m args c A v RX12 cX12_array 12 306 18131) (hret : ∀ (H1 : Heap) (locs1 : List Loc) (ls1 : Array Slot) (pc : Nat), mMW s A v a res.2.1 res.2.2 H1 locs1 → narrow .boolean (.int res.1) = .int res.1 → decode cX12_array pc = .ok (.ireturn, 1) → W p l e R s m args below meth c H1 locs1 0 0 Q (F0 m pc ls1 [.int res.1])) (ag_297 : Int32 → Int32 → Int32 → Int32 → Int32 → Int32 → Int32 → PF → PG → PR) (hag_297 : ∀ (x1 : Int32) (x2 : Int32) (x3 : Int32) (x4 : Int32) (x7 : Int32) (x8 : Int32) (x9 : Int32) (F : PF) (G : PG), ag_297 x1 x2 x3 x4 x7 x8 x9 F G = some res → ∀ (H : Heap) (locs : List Loc) (ls : Array Slot), mMW s A v a F G H locs → lv_has ls 12 [(0, .ref (a 212)), (1, .int x1), (2, .int x2), (3, .int x3), (4, .int x4), (7, .int x7), (8, .int x8), (9, .int x9)] → W p l e R s m args below meth c H locs 0 0 Q (F0 m 297 ls [])) (x1 : Int32) (x2 : Int32) (x3 : Int32) (x4 : Int32) (x7 : Int32) (x8 : Int32) (x11 : Int32) (F : PF) (G : PG) (hm : mb_array_359 fu ag_297 x1 x2 x3 x4 x7 x8 x11 F G = some res) {H : Heap} {locs : List Loc} (hw : mMW s A v a F G H locs) {ls : Array Slot} (hl : lv_has ls 12 [(0, .ref (a 212)), (1, .int x1), (2, .int x2), (3, .int x3), (4, .int x4), (7, .int x7), (8, .int x8), (11, .int x11)]) : W p l e R s m args below meth c H locs 0 0 Q (F0 m 359 ls []) := by
  have hx := C.1
  have hb := C.2.1
  unfold mb_array_359 at hm
  refine lv_aload_n hx hb dX12_array_359 rfl (lv_at hl 0 rfl) ?_
  refine mg_X12_101 C hw dX12_array_360 ?_
  refine lv_iload hx hb dX12_array_363 (lv_at hl 4 rfl) ?_
  refine lv_iload hx hb dX12_array_365 (lv_at hl 6 rfl) ?_
  refine lv_iadd hx hb dX12_array_367 ?_
  refine lv_iload_n hx hb dX12_array_368 rfl (lv_at hl 2 rfl) ?_
  refine lv_if_eq (tgt := 381) hx hb dX12_array_369 (by decide) (fun c_1 => ?_) (fun c_1 => ?_)
  · have hm := (if_pos c_1).symm.trans hm
    exact mw_array_381 fu C hret ag_297 hag_297 x1 x2 x3 x4 x7 x8 x11 (x4 + x8) F G hm hw (lv_sub hl [0, 1, 2, 3, 4, 5, 6, 7] rfl)
  · have hm := (if_neg c_1).symm.trans hm
    exact mw_array_372 fu C hret ag_297 hag_297 x1 x2 x3 x4 x7 x8 x11 (x4 + x8) F G hm hw (lv_sub hl [0, 1, 2, 3, 4, 5, 6, 7] rfl)
theorem mw_array_352 (fu : Nat) {res : Int32 × PF × PG} (C : mMC p R s m args c A v RX12 cX12_array 12 306 18131) (hret : ∀ (H1 : Heap) (locs1 : List Loc) (ls1 : Array Slot) (pc : Nat), mMW s A v a res.2.1 res.2.2 H1 locs1 → narrow .boolean (.int res.1) = .int res.1 → decode cX12_array pc = .ok (.ireturn, 1) → W p l e R s m args below meth c H1 locs1 0 0 Q (F0 m pc ls1 [.int res.1])) (ag_297 : Int32 → Int32 → Int32 → Int32 → Int32 → Int32 → Int32 → PF → PG → PR) (hag_297 : ∀ (x1 : Int32) (x2 : Int32) (x3 : Int32) (x4 : Int32) (x7 : Int32) (x8 : Int32) (x9 : Int32) (F : PF) (G : PG), ag_297 x1 x2 x3 x4 x7 x8 x9 F G = some res → ∀ (H : Heap) (locs : List Loc) (ls : Array Slot), mMW s A v a F G H locs → lv_has ls 12 [(0, .ref (a 212)), (1, .int x1), (2, .int x2), (3, .int x3), (4, .int x4), (7, .int x7), (8, .int x8), (9, .int x9)] → W p l e R s m args below meth c H locs 0 0 Q (F0 m 297 ls [])) (x1 : Int32) (x2 : Int32) (x3 : Int32) (x4 : Int32) (x7 : Int32) (x8 : Int32) (x11 : Int32) (F : PF) (G : PG) (hm : mb_array_352 fu ag_297 x1 x2 x3 x4 x7 x8 x11 F G = some res) {H : Heap} {locs : List Loc} (hw : mMW s A v a F G H locs) {ls : Array Slot} (hl : lv_has ls 12 [(0, .ref (a 212)), (1, .int x1), (2, .int x2), (3, .int x3), (4, .int x4), (7, .int x7), (8, .int x8), (11, .int x11)]) : W p l e R s m args below meth c H locs 0 0 Q (F0 m 352 ls []) := by
  have hx := C.1
  have hb := C.2.1
  unfold mb_array_352 at hm
  refine lv_iload hx hb dX12_array_352 (lv_at hl 6 rfl) ?_
  refine lv_iload hx hb dX12_array_354 (lv_at hl 5 rfl) ?_
  refine lv_icmp_ge (tgt := 384) hx hb dX12_array_356 (by decide) (fun c_1 => ?_) (fun c_1 => ?_)
  · have hm := (if_pos c_1).symm.trans hm
    exact mw_array_384 fu C hret ag_297 hag_297 x1 x2 x3 x4 x7 x8 F G hm hw (lv_sub hl [0, 1, 2, 3, 4, 5, 6] rfl)
  · have hm := (if_neg c_1).symm.trans hm
    exact mw_array_359 fu C hret ag_297 hag_297 x1 x2 x3 x4 x7 x8 x11 F G hm hw (lv_sub hl [0, 1, 2, 3, 4, 5, 6, 7] rfl)
theorem mw_array_345 (fu : Nat) {res : Int32 × PF × PG} (C : mMC p R s m args c A v RX12 cX12_array 12 306 18131) (hret : ∀ (H1 : Heap) (locs1 : List Loc) (ls1 : Array Slot) (pc : Nat), mMW s A v a res.2.1 res.2.2 H1 locs1 → narrow .boolean (.int res.1) = .int res.1 → decode cX12_array pc = .ok (.ireturn, 1) → W p l e R s m args below meth c H1 locs1 0 0 Q (F0 m pc ls1 [.int res.1])) (ag_297 : Int32 → Int32 → Int32 → Int32 → Int32 → Int32 → Int32 → PF → PG → PR) (hag_297 : ∀ (x1 : Int32) (x2 : Int32) (x3 : Int32) (x4 : Int32) (x7 : Int32) (x8 : Int32) (x9 : Int32) (F : PF) (G : PG), ag_297 x1 x2 x3 x4 x7 x8 x9 F G = some res → ∀ (H : Heap) (locs : List Loc) (ls : Array Slot), mMW s A v a F G H locs → lv_has ls 12 [(0, .ref (a 212)), (1, .int x1), (2, .int x2), (3, .int x3), (4, .int x4), (7, .int x7), (8, .int x8), (9, .int x9)] → W p l e R s m args below meth c H locs 0 0 Q (F0 m 297 ls [])) (x1 : Int32) (x2 : Int32) (x3 : Int32) (x4 : Int32) (x7 : Int32) (x8 : Int32) (x11 : Int32) (F : PF) (G : PG) (hm : mb_array_345 fu ag_297 x1 x2 x3 x4 x7 x8 x11 F G = some res) {H : Heap} {locs : List Loc} (hw : mMW s A v a F G H locs) {ls : Array Slot} (hl : lv_has ls 12 [(0, .ref (a 212)), (1, .int x1), (2, .int x2), (3, .int x3), (4, .int x4), (7, .int x7), (8, .int x8), (11, .int x11)]) : W p l e R s m args below meth c H locs 0 0 Q (F0 m 345 ls []) := by
  have hx := C.1
  have hb := C.2.1
  unfold mb_array_345 at hm
  refine lv_aload_n hx hb dX12_array_345 rfl (lv_at hl 0 rfl) ?_
  refine mg_X12_245 C hw dX12_array_346 ?_
  refine lv_if_le (tgt := 384) hx hb dX12_array_349 (by decide) (fun c_1 => ?_) (fun c_1 => ?_)
  · have hm := (if_pos c_1).symm.trans hm
    exact mw_array_384 fu C hret ag_297 hag_297 x1 x2 x3 x4 x7 x8 F G hm hw (lv_sub hl [0, 1, 2, 3, 4, 5, 6] rfl)
  · have hm := (if_neg c_1).symm.trans hm
    exact mw_array_352 fu C hret ag_297 hag_297 x1 x2 x3 x4 x7 x8 x11 F G hm hw (lv_sub hl [0, 1, 2, 3, 4, 5, 6, 7] rfl)
theorem mw_array_337 (fu : Nat) {res : Int32 × PF × PG} (C : mMC p R s m args c A v RX12 cX12_array 12 306 18131) (hret : ∀ (H1 : Heap) (locs1 : List Loc) (ls1 : Array Slot) (pc : Nat), mMW s A v a res.2.1 res.2.2 H1 locs1 → narrow .boolean (.int res.1) = .int res.1 → decode cX12_array pc = .ok (.ireturn, 1) → W p l e R s m args below meth c H1 locs1 0 0 Q (F0 m pc ls1 [.int res.1])) (ag_297 : Int32 → Int32 → Int32 → Int32 → Int32 → Int32 → Int32 → PF → PG → PR) (hag_297 : ∀ (x1 : Int32) (x2 : Int32) (x3 : Int32) (x4 : Int32) (x7 : Int32) (x8 : Int32) (x9 : Int32) (F : PF) (G : PG), ag_297 x1 x2 x3 x4 x7 x8 x9 F G = some res → ∀ (H : Heap) (locs : List Loc) (ls : Array Slot), mMW s A v a F G H locs → lv_has ls 12 [(0, .ref (a 212)), (1, .int x1), (2, .int x2), (3, .int x3), (4, .int x4), (7, .int x7), (8, .int x8), (9, .int x9)] → W p l e R s m args below meth c H locs 0 0 Q (F0 m 297 ls [])) (x1 : Int32) (x2 : Int32) (x3 : Int32) (x4 : Int32) (x7 : Int32) (x8 : Int32) (x10 : Int32) (x11 : Int32) (F : PF) (G : PG) (hm : mb_array_337 fu ag_297 x1 x2 x3 x4 x7 x8 x10 x11 F G = some res) {H : Heap} {locs : List Loc} (hw : mMW s A v a F G H locs) {ls : Array Slot} (hl : lv_has ls 12 [(0, .ref (a 212)), (1, .int x1), (2, .int x2), (3, .int x3), (4, .int x4), (7, .int x7), (8, .int x8), (10, .int x10), (11, .int x11)]) : W p l e R s m args below meth c H locs 0 0 Q (F0 m 337 ls []) := by
  have hx := C.1
  have hb := C.2.1
  unfold mb_array_337 at hm
  refine lv_aload_n hx hb dX12_array_337 rfl (lv_at hl 0 rfl) ?_
  refine lv_bipush (v := 10) hx hb dX12_array_338 (by decide) ?_
  refine lv_iload hx hb dX12_array_340 (lv_at hl 7 rfl) ?_
  obtain ⟨⟨r1, F1, G1⟩, hc, hm⟩ := bind_elim hm
  refine mcallV (n := 2) (As := [.int 10, .int x10]) (rest := []) C hw (mk_note l v a _ fu 10 x10 F G r1 F1 G1 hc) (mrecv_X12 C hw) mm_220 mm_221 mm_222 mm_27 mm_223 (by decide +kernel) rfl (by omega) (by omega) hl.1 rfl (Nat.le_of_ble_eq_true rfl) dX12_array_342 (fun H locs hw => ?_)
  exact mw_array_345 fu C hret ag_297 hag_297 x1 x2 x3 x4 x7 x8 x11 F1 G1 hm hw (lv_sub hl [0, 1, 2, 3, 4, 5, 6, 8] rfl)
theorem mw_array_331 (fu : Nat) {res : Int32 × PF × PG} (C : mMC p R s m args c A v RX12 cX12_array 12 306 18131) (hret : ∀ (H1 : Heap) (locs1 : List Loc) (ls1 : Array Slot) (pc : Nat), mMW s A v a res.2.1 res.2.2 H1 locs1 → narrow .boolean (.int res.1) = .int res.1 → decode cX12_array pc = .ok (.ireturn, 1) → W p l e R s m args below meth c H1 locs1 0 0 Q (F0 m pc ls1 [.int res.1])) (ag_297 : Int32 → Int32 → Int32 → Int32 → Int32 → Int32 → Int32 → PF → PG → PR) (hag_297 : ∀ (x1 : Int32) (x2 : Int32) (x3 : Int32) (x4 : Int32) (x7 : Int32) (x8 : Int32) (x9 : Int32) (F : PF) (G : PG), ag_297 x1 x2 x3 x4 x7 x8 x9 F G = some res → ∀ (H : Heap) (locs : List Loc) (ls : Array Slot), mMW s A v a F G H locs → lv_has ls 12 [(0, .ref (a 212)), (1, .int x1), (2, .int x2), (3, .int x3), (4, .int x4), (7, .int x7), (8, .int x8), (9, .int x9)] → W p l e R s m args below meth c H locs 0 0 Q (F0 m 297 ls [])) (x1 : Int32) (x2 : Int32) (x3 : Int32) (x4 : Int32) (x7 : Int32) (x8 : Int32) (x10 : Int32) (x11 : Int32) (F : PF) (G : PG) (hm : mb_array_331 fu ag_297 x1 x2 x3 x4 x7 x8 x10 x11 F G = some res) {H : Heap} {locs : List Loc} (hw : mMW s A v a F G H locs) {ls : Array Slot} (hl : lv_has ls 12 [(0, .ref (a 212)), (1, .int x1), (2, .int x2), (3, .int x3), (4, .int x4), (7, .int x7), (8, .int x8), (10, .int x10), (11, .int x11)]) : W p l e R s m args below meth c H locs 0 0 Q (F0 m 331 ls []) := by
  have hx := C.1
  have hb := C.2.1
  unfold mb_array_331 at hm
  refine lv_iload hx hb dX12_array_331 (lv_at hl 6 rfl) ?_
  refine lv_iload_n hx hb dX12_array_333 rfl (lv_at hl 3 rfl) ?_
  refine lv_icmp_ne (tgt := 345) hx hb dX12_array_334 (by decide) (fun c_1 => ?_) (fun c_1 => ?_)
  · have hm := (if_neg c_1).symm.trans hm
    exact mw_array_345 fu C hret ag_297 hag_297 x1 x2 x3 x4 x7 x8 x11 F G hm hw (lv_sub hl [0, 1, 2, 3, 4, 5, 6, 8] rfl)
  · have hm := (if_pos c_1).symm.trans hm
    exact mw_array_337 fu C hret ag_297 hag_297 x1 x2 x3 x4 x7 x8 x10 x11 F G hm hw (lv_sub hl [0, 1, 2, 3, 4, 5, 6, 7, 8] rfl)
theorem mw_array_324 (fu : Nat) {res : Int32 × PF × PG} (C : mMC p R s m args c A v RX12 cX12_array 12 306 18131) (hret : ∀ (H1 : Heap) (locs1 : List Loc) (ls1 : Array Slot) (pc : Nat), mMW s A v a res.2.1 res.2.2 H1 locs1 → narrow .boolean (.int res.1) = .int res.1 → decode cX12_array pc = .ok (.ireturn, 1) → W p l e R s m args below meth c H1 locs1 0 0 Q (F0 m pc ls1 [.int res.1])) (ag_297 : Int32 → Int32 → Int32 → Int32 → Int32 → Int32 → Int32 → PF → PG → PR) (hag_297 : ∀ (x1 : Int32) (x2 : Int32) (x3 : Int32) (x4 : Int32) (x7 : Int32) (x8 : Int32) (x9 : Int32) (F : PF) (G : PG), ag_297 x1 x2 x3 x4 x7 x8 x9 F G = some res → ∀ (H : Heap) (locs : List Loc) (ls : Array Slot), mMW s A v a F G H locs → lv_has ls 12 [(0, .ref (a 212)), (1, .int x1), (2, .int x2), (3, .int x3), (4, .int x4), (7, .int x7), (8, .int x8), (9, .int x9)] → W p l e R s m args below meth c H locs 0 0 Q (F0 m 297 ls [])) (x1 : Int32) (x2 : Int32) (x3 : Int32) (x4 : Int32) (x7 : Int32) (x8 : Int32) (x10 : Int32) (z0 : Int32) (F : PF) (G : PG) (hm : mb_array_324 fu ag_297 x1 x2 x3 x4 x7 x8 x10 z0 F G = some res) {H : Heap} {locs : List Loc} (hw : mMW s A v a F G H locs) {ls : Array Slot} (hl : lv_has ls 12 [(0, .ref (a 212)), (1, .int x1), (2, .int x2), (3, .int x3), (4, .int x4), (7, .int x7), (8, .int x8), (10, .int x10)]) : W p l e R s m args below meth c H locs 0 0 Q (F0 m 324 ls [.int z0]) := by
  have hx := C.1
  have hb := C.2.1
  unfold mb_array_324 at hm
  refine lv_istore (lv' := [(11, .int z0), (0, .ref (a 212)), (1, .int x1), (2, .int x2), (3, .int x3), (4, .int x4), (7, .int x7), (8, .int x8), (10, .int x10)]) hx hb dX12_array_324 hl (by decide) rfl (fun ls hl => ?_)
  refine lv_iload_n hx hb dX12_array_326 rfl (lv_at hl 4 rfl) ?_
  refine lv_iconst (v := (-1)) hx hb dX12_array_327 (by decide) ?_
  refine lv_icmp_eq (tgt := 345) hx hb dX12_array_328 (by decide) (fun c_1 => ?_) (fun c_1 => ?_)
  · have hm := (if_pos c_1).symm.trans hm
    exact mw_array_345 fu C hret ag_297 hag_297 x1 x2 x3 x4 x7 x8 z0 F G hm hw (lv_sub hl [1, 2, 3, 4, 5, 6, 7, 0] rfl)
  · have hm := (if_neg c_1).symm.trans hm
    exact mw_array_331 fu C hret ag_297 hag_297 x1 x2 x3 x4 x7 x8 x10 z0 F G hm hw (lv_sub hl [1, 2, 3, 4, 5, 6, 7, 8, 0] rfl)
theorem mw_array_309 (fu : Nat) {res : Int32 × PF × PG} (C : mMC p R s m args c A v RX12 cX12_array 12 306 18131) (hret : ∀ (H1 : Heap) (locs1 : List Loc) (ls1 : Array Slot) (pc : Nat), mMW s A v a res.2.1 res.2.2 H1 locs1 → narrow .boolean (.int res.1) = .int res.1 → decode cX12_array pc = .ok (.ireturn, 1) → W p l e R s m args below meth c H1 locs1 0 0 Q (F0 m pc ls1 [.int res.1])) (ag_297 : Int32 → Int32 → Int32 → Int32 → Int32 → Int32 → Int32 → PF → PG → PR) (hag_297 : ∀ (x1 : Int32) (x2 : Int32) (x3 : Int32) (x4 : Int32) (x7 : Int32) (x8 : Int32) (x9 : Int32) (F : PF) (G : PG), ag_297 x1 x2 x3 x4 x7 x8 x9 F G = some res → ∀ (H : Heap) (locs : List Loc) (ls : Array Slot), mMW s A v a F G H locs → lv_has ls 12 [(0, .ref (a 212)), (1, .int x1), (2, .int x2), (3, .int x3), (4, .int x4), (7, .int x7), (8, .int x8), (9, .int x9)] → W p l e R s m args below meth c H locs 0 0 Q (F0 m 297 ls [])) (x1 : Int32) (x2 : Int32) (x3 : Int32) (x4 : Int32) (x7 : Int32) (x8 : Int32) (F : PF) (G : PG) (hm : mb_array_309 fu ag_297 x1 x2 x3 x4 x7 x8 F G = some res) {H : Heap} {locs : List Loc} (hw : mMW s A v a F G H locs) {ls : Array Slot} (hl : lv_has ls 12 [(0, .ref (a 212)), (1, .int x1), (2, .int x2), (3, .int x3), (4, .int x4), (7, .int x7), (8, .int x8)]) : W p l e R s m args below meth c H locs 0 0 Q (F0 m 309 ls []) := by
  have hx := C.1
  have hb := C.2.1
  unfold mb_array_309 at hm
  refine lv_aload_n hx hb dX12_array_309 rfl (lv_at hl 0 rfl) ?_
  refine mg_X12_22 C hw dX12_array_310 ?_
  refine lv_aload_n hx hb dX12_array_313 rfl (lv_at hl 0 rfl) ?_
  refine mg_X12_233 C hw dX12_array_314 ?_
  obtain ⟨hi, hm⟩ := ix_elim hm
  refine mal_6 C hw hi dX12_array_317 ?_
  refine lv_istore (lv' := [(10, .int (G 6 (F 42).toNatClampNeg)), (0, .ref (a 212)), (1, .int x1), (2, .int x2), (3, .int x3), (4, .int x4), (7, .int x7), (8, .int x8)]) hx hb dX12_array_318 hl (by decide) rfl (fun ls hl => ?_)
  refine lv_aload_n hx hb dX12_array_320 rfl (lv_at hl 1 rfl) ?_
  obtain ⟨⟨r1, F1, G1⟩, hc, hm⟩ := bind_elim hm
  refine mcallI (n := 0) (As := []) (rest := []) C hw (mk_value l v a _ fu F G r1 F1 G1 hc) (mrecv_X12 C hw) mm_187 mm_188 mm_189 mm_27 mm_190 (by decide +kernel) rfl (by omega) (by omega) hl.1 rfl (Nat.le_of_ble_eq_true rfl) dX12_array_321 (fun H locs hw => ?_)
  exact mw_array_324 fu C hret ag_297 hag_297 x1 x2 x3 x4 x7 x8 (G 6 (F 42).toNatClampNeg) r1 F1 G1 hm hw (lv_sub hl [1, 2, 3, 4, 5, 6, 7, 0] rfl)
theorem mw_array_302 (fu : Nat) {res : Int32 × PF × PG} (C : mMC p R s m args c A v RX12 cX12_array 12 306 18131) (hret : ∀ (H1 : Heap) (locs1 : List Loc) (ls1 : Array Slot) (pc : Nat), mMW s A v a res.2.1 res.2.2 H1 locs1 → narrow .boolean (.int res.1) = .int res.1 → decode cX12_array pc = .ok (.ireturn, 1) → W p l e R s m args below meth c H1 locs1 0 0 Q (F0 m pc ls1 [.int res.1])) (ag_297 : Int32 → Int32 → Int32 → Int32 → Int32 → Int32 → Int32 → PF → PG → PR) (hag_297 : ∀ (x1 : Int32) (x2 : Int32) (x3 : Int32) (x4 : Int32) (x7 : Int32) (x8 : Int32) (x9 : Int32) (F : PF) (G : PG), ag_297 x1 x2 x3 x4 x7 x8 x9 F G = some res → ∀ (H : Heap) (locs : List Loc) (ls : Array Slot), mMW s A v a F G H locs → lv_has ls 12 [(0, .ref (a 212)), (1, .int x1), (2, .int x2), (3, .int x3), (4, .int x4), (7, .int x7), (8, .int x8), (9, .int x9)] → W p l e R s m args below meth c H locs 0 0 Q (F0 m 297 ls [])) (x1 : Int32) (x2 : Int32) (x3 : Int32) (x4 : Int32) (x7 : Int32) (x8 : Int32) (F : PF) (G : PG) (hm : mb_array_302 fu ag_297 x1 x2 x3 x4 x7 x8 F G = some res) {H : Heap} {locs : List Loc} (hw : mMW s A v a F G H locs) {ls : Array Slot} (hl : lv_has ls 12 [(0, .ref (a 212)), (1, .int x1), (2, .int x2), (3, .int x3), (4, .int x4), (7, .int x7), (8, .int x8)]) : W p l e R s m args below meth c H locs 0 0 Q (F0 m 302 ls []) := by
  have hx := C.1
  have hb := C.2.1
  unfold mb_array_302 at hm
  refine lv_aload_n hx hb dX12_array_302 rfl (lv_at hl 0 rfl) ?_
  refine mg_X12_230 C hw dX12_array_303 ?_
  refine lv_if_ne (tgt := 432) hx hb dX12_array_306 (by decide) (fun c_1 => ?_) (fun c_1 => ?_)
  · have hm := (if_neg c_1).symm.trans hm
    exact mw_array_432 fu C hret x1 x2 x3 x4 F G hm hw (lv_sub hl [0, 1, 2, 3, 4] rfl)
  · have hm := (if_pos c_1).symm.trans hm
    exact mw_array_309 fu C hret ag_297 hag_297 x1 x2 x3 x4 x7 x8 F G hm hw (lv_sub hl [0, 1, 2, 3, 4, 5, 6] rfl)
theorem mw_array_297 (fu : Nat) {res : Int32 × PF × PG} (C : mMC p R s m args c A v RX12 cX12_array 12 306 18131) (hret : ∀ (H1 : Heap) (locs1 : List Loc) (ls1 : Array Slot) (pc : Nat), mMW s A v a res.2.1 res.2.2 H1 locs1 → narrow .boolean (.int res.1) = .int res.1 → decode cX12_array pc = .ok (.ireturn, 1) → W p l e R s m args below meth c H1 locs1 0 0 Q (F0 m pc ls1 [.int res.1])) (ag_297 : Int32 → Int32 → Int32 → Int32 → Int32 → Int32 → Int32 → PF → PG → PR) (hag_297 : ∀ (x1 : Int32) (x2 : Int32) (x3 : Int32) (x4 : Int32) (x7 : Int32) (x8 : Int32) (x9 : Int32) (F : PF) (G : PG), ag_297 x1 x2 x3 x4 x7 x8 x9 F G = some res → ∀ (H : Heap) (locs : List Loc) (ls : Array Slot), mMW s A v a F G H locs → lv_has ls 12 [(0, .ref (a 212)), (1, .int x1), (2, .int x2), (3, .int x3), (4, .int x4), (7, .int x7), (8, .int x8), (9, .int x9)] → W p l e R s m args below meth c H locs 0 0 Q (F0 m 297 ls [])) (x1 : Int32) (x2 : Int32) (x3 : Int32) (x4 : Int32) (x7 : Int32) (x8 : Int32) (x9 : Int32) (F : PF) (G : PG) (hm : mb_array_297 fu ag_297 x1 x2 x3 x4 x7 x8 x9 F G = some res) {H : Heap} {locs : List Loc} (hw : mMW s A v a F G H locs) {ls : Array Slot} (hl : lv_has ls 12 [(0, .ref (a 212)), (1, .int x1), (2, .int x2), (3, .int x3), (4, .int x4), (7, .int x7), (8, .int x8), (9, .int x9)]) : W p l e R s m args below meth c H locs 0 0 Q (F0 m 297 ls []) := by
  have hx := C.1
  have hb := C.2.1
  unfold mb_array_297 at hm
  refine lv_iload hx hb dX12_array_297 (lv_at hl 7 rfl) ?_
  refine lv_if_eq (tgt := 432) hx hb dX12_array_299 (by decide) (fun c_1 => ?_) (fun c_1 => ?_)
  · have hm := (if_pos c_1).symm.trans hm
    exact mw_array_432 fu C hret x1 x2 x3 x4 F G hm hw (lv_sub hl [0, 1, 2, 3, 4] rfl)
  · have hm := (if_neg c_1).symm.trans hm
    exact mw_array_302 fu C hret ag_297 hag_297 x1 x2 x3 x4 x7 x8 F G hm hw (lv_sub hl [0, 1, 2, 3, 4, 5, 6] rfl)
theorem mwl_array_297 (fu : Nat) {res : Int32 × PF × PG} (C : mMC p R s m args c A v RX12 cX12_array 12 306 18131) (hret : ∀ (H1 : Heap) (locs1 : List Loc) (ls1 : Array Slot) (pc : Nat), mMW s A v a res.2.1 res.2.2 H1 locs1 → narrow .boolean (.int res.1) = .int res.1 → decode cX12_array pc = .ok (.ireturn, 1) → W p l e R s m args below meth c H1 locs1 0 0 Q (F0 m pc ls1 [.int res.1])) : ∀ (n : Nat) (x1 : Int32) (x2 : Int32) (x3 : Int32) (x4 : Int32) (x7 : Int32) (x8 : Int32) (x9 : Int32) (F : PF) (G : PG) (hm : ml_array_297 fu n x1 x2 x3 x4 x7 x8 x9 F G = some res) {H : Heap} {locs : List Loc} (hw : mMW s A v a F G H locs) {ls : Array Slot} (hl : lv_has ls 12 [(0, .ref (a 212)), (1, .int x1), (2, .int x2), (3, .int x3), (4, .int x4), (7, .int x7), (8, .int x8), (9, .int x9)]), W p l e R s m args below meth c H locs 0 0 Q (F0 m 297 ls []) := by
  intro n
  induction n with
  | zero =>
    intro x1 x2 x3 x4 x7 x8 x9 F G hm
    exact no_elim (show (none : PR) = some res from hm)
  | succ n ih =>
    intro x1 x2 x3 x4 x7 x8 x9 F G hm H locs hw ls hl
    exact mw_array_297 fu C hret (ml_array_297 fu n) (fun x1 x2 x3 x4 x7 x8 x9 F G hm H locs ls hw hl => ih x1 x2 x3 x4 x7 x8 x9 F G hm hw hl) x1 x2 x3 x4 x7 x8 x9 F G hm hw hl
theorem mw_array_291 (fu : Nat) {res : Int32 × PF × PG} (C : mMC p R s m args c A v RX12 cX12_array 12 306 18131) (hret : ∀ (H1 : Heap) (locs1 : List Loc) (ls1 : Array Slot) (pc : Nat), mMW s A v a res.2.1 res.2.2 H1 locs1 → narrow .boolean (.int res.1) = .int res.1 → decode cX12_array pc = .ok (.ireturn, 1) → W p l e R s m args below meth c H1 locs1 0 0 Q (F0 m pc ls1 [.int res.1])) (x1 : Int32) (x2 : Int32) (x3 : Int32) (x4 : Int32) (x7 : Int32) (F : PF) (G : PG) (hm : mb_array_291 fu x1 x2 x3 x4 x7 F G = some res) {H : Heap} {locs : List Loc} (hw : mMW s A v a F G H locs) {ls : Array Slot} (hl : lv_has ls 12 [(0, .ref (a 212)), (1, .int x1), (2, .int x2), (3, .int x3), (4, .int x4), (7, .int x7)]) : W p l e R s m args below meth c H locs 0 0 Q (F0 m 291 ls []) := by
  have hx := C.1
  have hb := C.2.1
  unfold mb_array_291 at hm
  refine lv_iconst (v := 0) hx hb dX12_array_291 (by decide) ?_
  refine lv_istore (lv' := [(8, .int 0), (0, .ref (a 212)), (1, .int x1), (2, .int x2), (3, .int x3), (4, .int x4), (7, .int x7)]) hx hb dX12_array_292 hl (by decide) rfl (fun ls hl => ?_)
  refine lv_iconst (v := 1) hx hb dX12_array_294 (by decide) ?_
  refine lv_istore (lv' := [(9, .int 1), (8, .int 0), (0, .ref (a 212)), (1, .int x1), (2, .int x2), (3, .int x3), (4, .int x4), (7, .int x7)]) hx hb dX12_array_295 hl (by decide) rfl (fun ls hl => ?_)
  exact mwl_array_297 fu C hret fu x1 x2 x3 x4 x7 0 1 F G hm hw (lv_sub hl [2, 3, 4, 5, 6, 7, 1, 0] rfl)
theorem mw_array_289 (fu : Nat) {res : Int32 × PF × PG} (C : mMC p R s m args c A v RX12 cX12_array 12 306 18131) (hret : ∀ (H1 : Heap) (locs1 : List Loc) (ls1 : Array Slot) (pc : Nat), mMW s A v a res.2.1 res.2.2 H1 locs1 → narrow .boolean (.int res.1) = .int res.1 → decode cX12_array pc = .ok (.ireturn, 1) → W p l e R s m args below meth c H1 locs1 0 0 Q (F0 m pc ls1 [.int res.1])) (F : PF) (G : PG) (hm : mb_array_289 fu F G = some res) {H : Heap} {locs : List Loc} (hw : mMW s A v a F G H locs) {ls : Array Slot} (hl : lv_has ls 12 []) : W p l e R s m args below meth c H locs 0 0 Q (F0 m 289 ls []) := by
  have hx := C.1
  have hb := C.2.1
  unfold mb_array_289 at hm
  refine lv_iconst (v := 0) hx hb dX12_array_289 (by decide) ?_
  obtain rfl := Option.some.inj hm
  exact hret _ _ _ _ hw (b01_nar (v := 0) (Or.inl rfl)) dX12_array_290
theorem mw_array_286 (fu : Nat) {res : Int32 × PF × PG} (C : mMC p R s m args c A v RX12 cX12_array 12 306 18131) (hret : ∀ (H1 : Heap) (locs1 : List Loc) (ls1 : Array Slot) (pc : Nat), mMW s A v a res.2.1 res.2.2 H1 locs1 → narrow .boolean (.int res.1) = .int res.1 → decode cX12_array pc = .ok (.ireturn, 1) → W p l e R s m args below meth c H1 locs1 0 0 Q (F0 m pc ls1 [.int res.1])) (x1 : Int32) (x2 : Int32) (x3 : Int32) (x4 : Int32) (x7 : Int32) (z0 : Int32) (F : PF) (G : PG) (hm : mb_array_286 fu x1 x2 x3 x4 x7 z0 F G = some res) {H : Heap} {locs : List Loc} (hw : mMW s A v a F G H locs) {ls : Array Slot} (hl : lv_has ls 12 [(0, .ref (a 212)), (1, .int x1), (2, .int x2), (3, .int x3), (4, .int x4), (7, .int x7)]) : W p l e R s m args below meth c H locs 0 0 Q (F0 m 286 ls [.int z0]) := by
  have hx := C.1
  have hb := C.2.1
  unfold mb_array_286 at hm
  refine lv_if_ne (tgt := 291) hx hb dX12_array_286 (by decide) (fun c_1 => ?_) (fun c_1 => ?_)
  · have hm := (if_neg c_1).symm.trans hm
    exact mw_array_291 fu C hret x1 x2 x3 x4 x7 F G hm hw (lv_sub hl [0, 1, 2, 3, 4, 5] rfl)
  · have hm := (if_pos c_1).symm.trans hm
    exact mw_array_289 fu C hret F G hm hw (lv_sub hl [] rfl)
theorem mw_array_280 (fu : Nat) {res : Int32 × PF × PG} (C : mMC p R s m args c A v RX12 cX12_array 12 306 18131) (hret : ∀ (H1 : Heap) (locs1 : List Loc) (ls1 : Array Slot) (pc : Nat), mMW s A v a res.2.1 res.2.2 H1 locs1 → narrow .boolean (.int res.1) = .int res.1 → decode cX12_array pc = .ok (.ireturn, 1) → W p l e R s m args below meth c H1 locs1 0 0 Q (F0 m pc ls1 [.int res.1])) (x1 : Int32) (x2 : Int32) (x3 : Int32) (x4 : Int32) (x7 : Int32) (F : PF) (G : PG) (hm : mb_array_280 fu x1 x2 x3 x4 x7 F G = some res) {H : Heap} {locs : List Loc} (hw : mMW s A v a F G H locs) {ls : Array Slot} (hl : lv_has ls 12 [(0, .ref (a 212)), (1, .int x1), (2, .int x2), (3, .int x3), (4, .int x4), (7, .int x7)]) : W p l e R s m args below meth c H locs 0 0 Q (F0 m 280 ls []) := by
  have hx := C.1
  have hb := C.2.1
  unfold mb_array_280 at hm
  refine lv_aload_n hx hb dX12_array_280 rfl (lv_at hl 0 rfl) ?_
  refine lv_bipush (v := 26) hx hb dX12_array_281 (by decide) ?_
  obtain ⟨⟨r1, F1, G1⟩, hc, hm⟩ := bind_elim hm
  refine mcallI (n := 1) (As := [.int 26]) (rest := []) C hw (mk_openSign l v a _ fu 26 F G r1 F1 G1 hc) (mrecv_X12 C hw) mm_241 mm_242 mm_243 mm_27 mm_244 (by decide +kernel) rfl (by omega) (by omega) hl.1 rfl (Nat.le_of_ble_eq_true rfl) dX12_array_283 (fun H locs hw => ?_)
  exact mw_array_286 fu C hret x1 x2 x3 x4 x7 r1 F1 G1 hm hw (lv_sub hl [0, 1, 2, 3, 4, 5] rfl)
theorem mw_array_270 (fu : Nat) {res : Int32 × PF × PG} (C : mMC p R s m args c A v RX12 cX12_array 12 306 18131) (hret : ∀ (H1 : Heap) (locs1 : List Loc) (ls1 : Array Slot) (pc : Nat), mMW s A v a res.2.1 res.2.2 H1 locs1 → narrow .boolean (.int res.1) = .int res.1 → decode cX12_array pc = .ok (.ireturn, 1) → W p l e R s m args below meth c H1 locs1 0 0 Q (F0 m pc ls1 [.int res.1])) (x1 : Int32) (x2 : Int32) (x3 : Int32) (x4 : Int32) (x7 : Int32) (F : PF) (G : PG) (hm : mb_array_270 fu x1 x2 x3 x4 x7 F G = some res) {H : Heap} {locs : List Loc} (hw : mMW s A v a F G H locs) {ls : Array Slot} (hl : lv_has ls 12 [(0, .ref (a 212)), (1, .int x1), (2, .int x2), (3, .int x3), (4, .int x4), (7, .int x7)]) : W p l e R s m args below meth c H locs 0 0 Q (F0 m 270 ls []) := by
  have hx := C.1
  have hb := C.2.1
  unfold mb_array_270 at hm
  refine lv_aload_n hx hb dX12_array_270 rfl (lv_at hl 0 rfl) ?_
  refine lv_dup hx hb dX12_array_271 rfl ?_
  refine mg_X12_233 C hw dX12_array_272 ?_
  refine lv_iconst (v := 1) hx hb dX12_array_275 (by decide) ?_
  refine lv_iadd hx hb dX12_array_276 ?_
  refine mp_X12_233 C hw dX12_array_277 (fun H locs hw => ?_)
  exact mw_array_280 fu C hret x1 x2 x3 x4 x7 (fup F 42 ((F 42) + (1 : Int32))) G hm hw (lv_sub hl [0, 1, 2, 3, 4, 5] rfl)
theorem mw_array_267 (fu : Nat) {res : Int32 × PF × PG} (C : mMC p R s m args c A v RX12 cX12_array 12 306 18131) (hret : ∀ (H1 : Heap) (locs1 : List Loc) (ls1 : Array Slot) (pc : Nat), mMW s A v a res.2.1 res.2.2 H1 locs1 → narrow .boolean (.int res.1) = .int res.1 → decode cX12_array pc = .ok (.ireturn, 1) → W p l e R s m args below meth c H1 locs1 0 0 Q (F0 m pc ls1 [.int res.1])) (x1 : Int32) (x2 : Int32) (x3 : Int32) (x4 : Int32) (x7 : Int32) (z0 : Int32) (F : PF) (G : PG) (hm : mb_array_267 fu x1 x2 x3 x4 x7 z0 F G = some res) {H : Heap} {locs : List Loc} (hw : mMW s A v a F G H locs) {ls : Array Slot} (hl : lv_has ls 12 [(0, .ref (a 212)), (1, .int x1), (2, .int x2), (3, .int x3), (4, .int x4), (7, .int x7)]) : W p l e R s m args below meth c H locs 0 0 Q (F0 m 267 ls [.int z0]) := by
  have hx := C.1
  have hb := C.2.1
  unfold mb_array_267 at hm
  refine lv_if_eq (tgt := 443) hx hb dX12_array_267 (by decide) (fun c_1 => ?_) (fun c_1 => ?_)
  · have hm := (if_pos c_1).symm.trans hm
    exact mw_array_443 fu C hret x1 x2 x3 x4 F G hm hw (lv_sub hl [0, 1, 2, 3, 4] rfl)
  · have hm := (if_neg c_1).symm.trans hm
    exact mw_array_270 fu C hret x1 x2 x3 x4 x7 F G hm hw (lv_sub hl [0, 1, 2, 3, 4, 5] rfl)
theorem mw_array_261 (fu : Nat) {res : Int32 × PF × PG} (C : mMC p R s m args c A v RX12 cX12_array 12 306 18131) (hret : ∀ (H1 : Heap) (locs1 : List Loc) (ls1 : Array Slot) (pc : Nat), mMW s A v a res.2.1 res.2.2 H1 locs1 → narrow .boolean (.int res.1) = .int res.1 → decode cX12_array pc = .ok (.ireturn, 1) → W p l e R s m args below meth c H1 locs1 0 0 Q (F0 m pc ls1 [.int res.1])) (x1 : Int32) (x2 : Int32) (x3 : Int32) (x4 : Int32) (x7 : Int32) (F : PF) (G : PG) (hm : mb_array_261 fu x1 x2 x3 x4 x7 F G = some res) {H : Heap} {locs : List Loc} (hw : mMW s A v a F G H locs) {ls : Array Slot} (hl : lv_has ls 12 [(0, .ref (a 212)), (1, .int x1), (2, .int x2), (3, .int x3), (4, .int x4), (7, .int x7)]) : W p l e R s m args below meth c H locs 0 0 Q (F0 m 261 ls []) := by
  have hx := C.1
  have hb := C.2.1
  unfold mb_array_261 at hm
  refine lv_aload_n hx hb dX12_array_261 rfl (lv_at hl 0 rfl) ?_
  refine lv_bipush (v := 32) hx hb dX12_array_262 (by decide) ?_
  obtain ⟨⟨r1, F1, G1⟩, hc, hm⟩ := bind_elim hm
  refine mcallI (n := 1) (As := [.int 32]) (rest := []) C hw (mk_isSign l v a _ fu 32 F G r1 F1 G1 hc) (mrecv_X12 C hw) mm_183 mm_184 mm_185 mm_27 mm_186 (by decide +kernel) rfl (by omega) (by omega) hl.1 rfl (Nat.le_of_ble_eq_true rfl) dX12_array_264 (fun H locs hw => ?_)
  exact mw_array_267 fu C hret x1 x2 x3 x4 x7 r1 F1 G1 hm hw (lv_sub hl [0, 1, 2, 3, 4, 5] rfl)
theorem mw_array_250 (fu : Nat) {res : Int32 × PF × PG} (C : mMC p R s m args c A v RX12 cX12_array 12 306 18131) (hret : ∀ (H1 : Heap) (locs1 : List Loc) (ls1 : Array Slot) (pc : Nat), mMW s A v a res.2.1 res.2.2 H1 locs1 → narrow .boolean (.int res.1) = .int res.1 → decode cX12_array pc = .ok (.ireturn, 1) → W p l e R s m args below meth c H1 locs1 0 0 Q (F0 m pc ls1 [.int res.1])) (x1 : Int32) (x2 : Int32) (x3 : Int32) (x4 : Int32) (x7 : Int32) (F : PF) (G : PG) (hm : mb_array_250 fu x1 x2 x3 x4 x7 F G = some res) {H : Heap} {locs : List Loc} (hw : mMW s A v a F G H locs) {ls : Array Slot} (hl : lv_has ls 12 [(0, .ref (a 212)), (1, .int x1), (2, .int x2), (3, .int x3), (4, .int x4), (7, .int x7)]) : W p l e R s m args below meth c H locs 0 0 Q (F0 m 250 ls []) := by
  have hx := C.1
  have hb := C.2.1
  unfold mb_array_250 at hm
  refine lv_aload_n hx hb dX12_array_250 rfl (lv_at hl 0 rfl) ?_
  refine lv_dup hx hb dX12_array_251 rfl ?_
  refine mg_X12_291 C hw dX12_array_252 ?_
  refine lv_iload hx hb dX12_array_255 (lv_at hl 5 rfl) ?_
  refine lv_iadd hx hb dX12_array_257 ?_
  refine mp_X12_291 C hw dX12_array_258 (fun H locs hw => ?_)
  exact mw_array_261 fu C hret x1 x2 x3 x4 x7 (fup F 37 ((F 37) + x7)) G hm hw (lv_sub hl [0, 1, 2, 3, 4, 5] rfl)
theorem mw_array_244 (fu : Nat) {res : Int32 × PF × PG} (C : mMC p R s m args c A v RX12 cX12_array 12 306 18131) (hret : ∀ (H1 : Heap) (locs1 : List Loc) (ls1 : Array Slot) (pc : Nat), mMW s A v a res.2.1 res.2.2 H1 locs1 → narrow .boolean (.int res.1) = .int res.1 → decode cX12_array pc = .ok (.ireturn, 1) → W p l e R s m args below meth c H1 locs1 0 0 Q (F0 m pc ls1 [.int res.1])) (ag_224 : Int32 → Int32 → Int32 → Int32 → Int32 → Int32 → PF → PG → PR) (hag_224 : ∀ (x1 : Int32) (x2 : Int32) (x3 : Int32) (x4 : Int32) (x7 : Int32) (x8 : Int32) (F : PF) (G : PG), ag_224 x1 x2 x3 x4 x7 x8 F G = some res → ∀ (H : Heap) (locs : List Loc) (ls : Array Slot), mMW s A v a F G H locs → lv_has ls 12 [(0, .ref (a 212)), (1, .int x1), (2, .int x2), (3, .int x3), (4, .int x4), (7, .int x7), (8, .int x8)] → W p l e R s m args below meth c H locs 0 0 Q (F0 m 224 ls [])) (x1 : Int32) (x2 : Int32) (x3 : Int32) (x4 : Int32) (x7 : Int32) (x8 : Int32) (F : PF) (G : PG) (hm : mb_array_244 fu ag_224 x1 x2 x3 x4 x7 x8 F G = some res) {H : Heap} {locs : List Loc} (hw : mMW s A v a F G H locs) {ls : Array Slot} (hl : lv_has ls 12 [(0, .ref (a 212)), (1, .int x1), (2, .int x2), (3, .int x3), (4, .int x4), (7, .int x7), (8, .int x8)]) : W p l e R s m args below meth c H locs 0 0 Q (F0 m 244 ls []) := by
  have hx := C.1
  have hb := C.2.1
  unfold mb_array_244 at hm
  refine lv_iinc (v := (x8 + 1)) (lv' := [(8, .int (x8 + 1)), (0, .ref (a 212)), (1, .int x1), (2, .int x2), (3, .int x3), (4, .int x4), (7, .int x7)]) hx hb dX12_array_244 hl (k := 6) rfl (by rfl) (by decide) rfl (fun ls hl => ?_)
  refine lv_goto (tgt := 224) hx hb dX12_array_247 (by decide) ?_
  exact hag_224 x1 x2 x3 x4 x7 (x8 + 1) F G hm _ _ _ hw (lv_sub hl [1, 2, 3, 4, 5, 6, 0] rfl)
theorem mw_array_231 (fu : Nat) {res : Int32 × PF × PG} (C : mMC p R s m args c A v RX12 cX12_array 12 306 18131) (hret : ∀ (H1 : Heap) (locs1 : List Loc) (ls1 : Array Slot) (pc : Nat), mMW s A v a res.2.1 res.2.2 H1 locs1 → narrow .boolean (.int res.1) = .int res.1 → decode cX12_array pc = .ok (.ireturn, 1) → W p l e R s m args below meth c H1 locs1 0 0 Q (F0 m pc ls1 [.int res.1])) (ag_224 : Int32 → Int32 → Int32 → Int32 → Int32 → Int32 → PF → PG → PR) (hag_224 : ∀ (x1 : Int32) (x2 : Int32) (x3 : Int32) (x4 : Int32) (x7 : Int32) (x8 : Int32) (F : PF) (G : PG), ag_224 x1 x2 x3 x4 x7 x8 F G = some res → ∀ (H : Heap) (locs : List Loc) (ls : Array Slot), mMW s A v a F G H locs → lv_has ls 12 [(0, .ref (a 212)), (1, .int x1), (2, .int x2), (3, .int x3), (4, .int x4), (7, .int x7), (8, .int x8)] → W p l e R s m args below meth c H locs 0 0 Q (F0 m 224 ls [])) (x1 : Int32) (x2 : Int32) (x3 : Int32) (x4 : Int32) (x7 : Int32) (x8 : Int32) (F : PF) (G : PG) (hm : mb_array_231 fu ag_224 x1 x2 x3 x4 x7 x8 F G = some res) {H : Heap} {locs : List Loc} (hw : mMW s A v a F G H locs) {ls : Array Slot} (hl : lv_has ls 12 [(0, .ref (a 212)), (1, .int x1), (2, .int x2), (3, .int x3), (4, .int x4), (7, .int x7), (8, .int x8)]) : W p l e R s m args below meth c H locs 0 0 Q (F0 m 231 ls []) := by
  have hx := C.1
  have hb := C.2.1
  unfold mb_array_231 at hm
  refine lv_aload_n hx hb dX12_array_231 rfl (lv_at hl 0 rfl) ?_
  refine mg_X12_101 C hw dX12_array_232 ?_
  refine lv_aload_n hx hb dX12_array_235 rfl (lv_at hl 0 rfl) ?_
  refine mg_X12_291 C hw dX12_array_236 ?_
  refine lv_iload hx hb dX12_array_239 (lv_at hl 6 rfl) ?_
  refine lv_iadd hx hb dX12_array_241 ?_
  refine lv_iconst (v := 0) hx hb dX12_array_242 (by decide) ?_
  obtain ⟨hi, hm⟩ := ix_elim hm
  refine mas_41 C hw hi dX12_array_243 (fun H locs hw => ?_)
  exact mw_array_244 fu C hret ag_224 hag_224 x1 x2 x3 x4 x7 x8 F (gup G 41 ((F 37) + x8).toNatClampNeg (0 : Int32)) hm hw (lv_sub hl [0, 1, 2, 3, 4, 5, 6] rfl)
theorem mw_array_224 (fu : Nat) {res : Int32 × PF × PG} (C : mMC p R s m args c A v RX12 cX12_array 12 306 18131) (hret : ∀ (H1 : Heap) (locs1 : List Loc) (ls1 : Array Slot) (pc : Nat), mMW s A v a res.2.1 res.2.2 H1 locs1 → narrow .boolean (.int res.1) = .int res.1 → decode cX12_array pc = .ok (.ireturn, 1) → W p l e R s m args below meth c H1 locs1 0 0 Q (F0 m pc ls1 [.int res.1])) (ag_224 : Int32 → Int32 → Int32 → Int32 → Int32 → Int32 → PF → PG → PR) (hag_224 : ∀ (x1 : Int32) (x2 : Int32) (x3 : Int32) (x4 : Int32) (x7 : Int32) (x8 : Int32) (F : PF) (G : PG), ag_224 x1 x2 x3 x4 x7 x8 F G = some res → ∀ (H : Heap) (locs : List Loc) (ls : Array Slot), mMW s A v a F G H locs → lv_has ls 12 [(0, .ref (a 212)), (1, .int x1), (2, .int x2), (3, .int x3), (4, .int x4), (7, .int x7), (8, .int x8)] → W p l e R s m args below meth c H locs 0 0 Q (F0 m 224 ls [])) (x1 : Int32) (x2 : Int32) (x3 : Int32) (x4 : Int32) (x7 : Int32) (x8 : Int32) (F : PF) (G : PG) (hm : mb_array_224 fu ag_224 x1 x2 x3 x4 x7 x8 F G = some res) {H : Heap} {locs : List Loc} (hw : mMW s A v a F G H locs) {ls : Array Slot} (hl : lv_has ls 12 [(0, .ref (a 212)), (1, .int x1), (2, .int x2), (3, .int x3), (4, .int x4), (7, .int x7), (8, .int x8)]) : W p l e R s m args below meth c H locs 0 0 Q (F0 m 224 ls []) := by
  have hx := C.1
  have hb := C.2.1
  unfold mb_array_224 at hm
  refine lv_iload hx hb dX12_array_224 (lv_at hl 6 rfl) ?_
  refine lv_iload hx hb dX12_array_226 (lv_at hl 5 rfl) ?_
  refine lv_icmp_ge (tgt := 250) hx hb dX12_array_228 (by decide) (fun c_1 => ?_) (fun c_1 => ?_)
  · have hm := (if_pos c_1).symm.trans hm
    exact mw_array_250 fu C hret x1 x2 x3 x4 x7 F G hm hw (lv_sub hl [0, 1, 2, 3, 4, 5] rfl)
  · have hm := (if_neg c_1).symm.trans hm
    exact mw_array_231 fu C hret ag_224 hag_224 x1 x2 x3 x4 x7 x8 F G hm hw (lv_sub hl [0, 1, 2, 3, 4, 5, 6] rfl)
theorem mwl_array_224 (fu : Nat) {res : Int32 × PF × PG} (C : mMC p R s m args c A v RX12 cX12_array 12 306 18131) (hret : ∀ (H1 : Heap) (locs1 : List Loc) (ls1 : Array Slot) (pc : Nat), mMW s A v a res.2.1 res.2.2 H1 locs1 → narrow .boolean (.int res.1) = .int res.1 → decode cX12_array pc = .ok (.ireturn, 1) → W p l e R s m args below meth c H1 locs1 0 0 Q (F0 m pc ls1 [.int res.1])) : ∀ (n : Nat) (x1 : Int32) (x2 : Int32) (x3 : Int32) (x4 : Int32) (x7 : Int32) (x8 : Int32) (F : PF) (G : PG) (hm : ml_array_224 fu n x1 x2 x3 x4 x7 x8 F G = some res) {H : Heap} {locs : List Loc} (hw : mMW s A v a F G H locs) {ls : Array Slot} (hl : lv_has ls 12 [(0, .ref (a 212)), (1, .int x1), (2, .int x2), (3, .int x3), (4, .int x4), (7, .int x7), (8, .int x8)]), W p l e R s m args below meth c H locs 0 0 Q (F0 m 224 ls []) := by
  intro n
  induction n with
  | zero =>
    intro x1 x2 x3 x4 x7 x8 F G hm
    exact no_elim (show (none : PR) = some res from hm)
  | succ n ih =>
    intro x1 x2 x3 x4 x7 x8 F G hm H locs hw ls hl
    exact mw_array_224 fu C hret (ml_array_224 fu n) (fun x1 x2 x3 x4 x7 x8 F G hm H locs ls hw hl => ih x1 x2 x3 x4 x7 x8 F G hm hw hl) x1 x2 x3 x4 x7 x8 F G hm hw hl
theorem mw_array_219 (fu : Nat) {res : Int32 × PF × PG} (C : mMC p R s m args c A v RX12 cX12_array 12 306 18131) (hret : ∀ (H1 : Heap) (locs1 : List Loc) (ls1 : Array Slot) (pc : Nat), mMW s A v a res.2.1 res.2.2 H1 locs1 → narrow .boolean (.int res.1) = .int res.1 → decode cX12_array pc = .ok (.ireturn, 1) → W p l e R s m args below meth c H1 locs1 0 0 Q (F0 m pc ls1 [.int res.1])) (x1 : Int32) (x2 : Int32) (x3 : Int32) (x4 : Int32) (z0 : Int32) (F : PF) (G : PG) (hm : mb_array_219 fu x1 x2 x3 x4 z0 F G = some res) {H : Heap} {locs : List Loc} (hw : mMW s A v a F G H locs) {ls : Array Slot} (hl : lv_has ls 12 [(0, .ref (a 212)), (1, .int x1), (2, .int x2), (3, .int x3), (4, .int x4)]) : W p l e R s m args below meth c H locs 0 0 Q (F0 m 219 ls [.int z0]) := by
  have hx := C.1
  have hb := C.2.1
  unfold mb_array_219 at hm
  refine lv_istore (lv' := [(7, .int z0), (0, .ref (a 212)), (1, .int x1), (2, .int x2), (3, .int x3), (4, .int x4)]) hx hb dX12_array_219 hl (by decide) rfl (fun ls hl => ?_)
  refine lv_iconst (v := 0) hx hb dX12_array_221 (by decide) ?_
  refine lv_istore (lv' := [(8, .int 0), (7, .int z0), (0, .ref (a 212)), (1, .int x1), (2, .int x2), (3, .int x3), (4, .int x4)]) hx hb dX12_array_222 hl (by decide) rfl (fun ls hl => ?_)
  exact mwl_array_224 fu C hret fu x1 x2 x3 x4 z0 0 F G hm hw (lv_sub hl [2, 3, 4, 5, 6, 1, 0] rfl)
theorem mw_array_214 (fu : Nat) {res : Int32 × PF × PG} (C : mMC p R s m args c A v RX12 cX12_array 12 306 18131) (hret : ∀ (H1 : Heap) (locs1 : List Loc) (ls1 : Array Slot) (pc : Nat), mMW s A v a res.2.1 res.2.2 H1 locs1 → narrow .boolean (.int res.1) = .int res.1 → decode cX12_array pc = .ok (.ireturn, 1) → W p l e R s m args below meth c H1 locs1 0 0 Q (F0 m pc ls1 [.int res.1])) (x1 : Int32) (x2 : Int32) (x3 : Int32) (x4 : Int32) (F : PF) (G : PG) (hm : mb_array_214 fu x1 x2 x3 x4 F G = some res) {H : Heap} {locs : List Loc} (hw : mMW s A v a F G H locs) {ls : Array Slot} (hl : lv_has ls 12 [(0, .ref (a 212)), (1, .int x1), (2, .int x2), (3, .int x3), (4, .int x4)]) : W p l e R s m args below meth c H locs 0 0 Q (F0 m 214 ls []) := by
  have hx := C.1
  have hb := C.2.1
  unfold mb_array_214 at hm
  refine lv_iconst (v := 0) hx hb dX12_array_214 (by decide) ?_
  refine lv_goto (tgt := 219) hx hb dX12_array_215 (by decide) ?_
  exact mw_array_219 fu C hret x1 x2 x3 x4 0 F G hm hw (lv_sub hl [0, 1, 2, 3, 4] rfl)
theorem mw_array_218 (fu : Nat) {res : Int32 × PF × PG} (C : mMC p R s m args c A v RX12 cX12_array 12 306 18131) (hret : ∀ (H1 : Heap) (locs1 : List Loc) (ls1 : Array Slot) (pc : Nat), mMW s A v a res.2.1 res.2.2 H1 locs1 → narrow .boolean (.int res.1) = .int res.1 → decode cX12_array pc = .ok (.ireturn, 1) → W p l e R s m args below meth c H1 locs1 0 0 Q (F0 m pc ls1 [.int res.1])) (x1 : Int32) (x2 : Int32) (x3 : Int32) (x4 : Int32) (F : PF) (G : PG) (hm : mb_array_218 fu x1 x2 x3 x4 F G = some res) {H : Heap} {locs : List Loc} (hw : mMW s A v a F G H locs) {ls : Array Slot} (hl : lv_has ls 12 [(0, .ref (a 212)), (1, .int x1), (2, .int x2), (3, .int x3), (4, .int x4)]) : W p l e R s m args below meth c H locs 0 0 Q (F0 m 218 ls []) := by
  have hx := C.1
  have hb := C.2.1
  unfold mb_array_218 at hm
  refine lv_iload_n hx hb dX12_array_218 rfl (lv_at hl 3 rfl) ?_
  exact mw_array_219 fu C hret x1 x2 x3 x4 x3 F G hm hw (lv_sub hl [0, 1, 2, 3, 4] rfl)
theorem mw_array_209 (fu : Nat) {res : Int32 × PF × PG} (C : mMC p R s m args c A v RX12 cX12_array 12 306 18131) (hret : ∀ (H1 : Heap) (locs1 : List Loc) (ls1 : Array Slot) (pc : Nat), mMW s A v a res.2.1 res.2.2 H1 locs1 → narrow .boolean (.int res.1) = .int res.1 → decode cX12_array pc = .ok (.ireturn, 1) → W p l e R s m args below meth c H1 locs1 0 0 Q (F0 m pc ls1 [.int res.1])) (x1 : Int32) (x2 : Int32) (x3 : Int32) (x4 : Int32) (x6 : Int32) (F : PF) (G : PG) (hm : mb_array_209 fu x1 x2 x3 x4 x6 F G = some res) {H : Heap} {locs : List Loc} (hw : mMW s A v a F G H locs) {ls : Array Slot} (hl : lv_has ls 12 [(0, .ref (a 212)), (1, .int x1), (2, .int x2), (3, .int x3), (4, .int x4), (6, .int x6)]) : W p l e R s m args below meth c H locs 0 0 Q (F0 m 209 ls []) := by
  have hx := C.1
  have hb := C.2.1
  unfold mb_array_209 at hm
  refine lv_iload hx hb dX12_array_209 (lv_at hl 5 rfl) ?_
  refine lv_if_ne (tgt := 218) hx hb dX12_array_211 (by decide) (fun c_1 => ?_) (fun c_1 => ?_)
  · have hm := (if_neg c_1).symm.trans hm
    exact mw_array_218 fu C hret x1 x2 x3 x4 F G hm hw (lv_sub hl [0, 1, 2, 3, 4] rfl)
  · have hm := (if_pos c_1).symm.trans hm
    exact mw_array_214 fu C hret x1 x2 x3 x4 F G hm hw (lv_sub hl [0, 1, 2, 3, 4] rfl)
theorem mw_array_204 (fu : Nat) {res : Int32 × PF × PG} (C : mMC p R s m args c A v RX12 cX12_array 12 306 18131) (hret : ∀ (H1 : Heap) (locs1 : List Loc) (ls1 : Array Slot) (pc : Nat), mMW s A v a res.2.1 res.2.2 H1 locs1 → narrow .boolean (.int res.1) = .int res.1 → decode cX12_array pc = .ok (.ireturn, 1) → W p l e R s m args below meth c H1 locs1 0 0 Q (F0 m pc ls1 [.int res.1])) (x1 : Int32) (x2 : Int32) (x3 : Int32) (x4 : Int32) (x6 : Int32) (F : PF) (G : PG) (hm : mb_array_204 fu x1 x2 x3 x4 x6 F G = some res) {H : Heap} {locs : List Loc} (hw : mMW s A v a F G H locs) {ls : Array Slot} (hl : lv_has ls 12 [(0, .ref (a 212)), (1, .int x1), (2, .int x2), (3, .int x3), (4, .int x4), (6, .int x6)]) : W p l e R s m args below meth c H locs 0 0 Q (F0 m 204 ls []) := by
  have hx := C.1
  have hb := C.2.1
  unfold mb_array_204 at hm
  refine lv_iload_n hx hb dX12_array_204 rfl (lv_at hl 3 rfl) ?_
  refine lv_iconst (v := (-1)) hx hb dX12_array_205 (by decide) ?_
  refine lv_icmp_eq (tgt := 214) hx hb dX12_array_206 (by decide) (fun c_1 => ?_) (fun c_1 => ?_)
  · have hm := (if_pos c_1).symm.trans hm
    exact mw_array_214 fu C hret x1 x2 x3 x4 F G hm hw (lv_sub hl [0, 1, 2, 3, 4] rfl)
  · have hm := (if_neg c_1).symm.trans hm
    exact mw_array_209 fu C hret x1 x2 x3 x4 x6 F G hm hw (lv_sub hl [0, 1, 2, 3, 4, 5] rfl)
theorem mw_array_193 (fu : Nat) {res : Int32 × PF × PG} (C : mMC p R s m args c A v RX12 cX12_array 12 306 18131) (hret : ∀ (H1 : Heap) (locs1 : List Loc) (ls1 : Array Slot) (pc : Nat), mMW s A v a res.2.1 res.2.2 H1 locs1 → narrow .boolean (.int res.1) = .int res.1 → decode cX12_array pc = .ok (.ireturn, 1) → W p l e R s m args below meth c H1 locs1 0 0 Q (F0 m pc ls1 [.int res.1])) (x1 : Int32) (x2 : Int32) (x3 : Int32) (x4 : Int32) (x5 : Int32) (x6 : Int32) (F : PF) (G : PG) (hm : mb_array_193 fu x1 x2 x3 x4 x5 x6 F G = some res) {H : Heap} {locs : List Loc} (hw : mMW s A v a F G H locs) {ls : Array Slot} (hl : lv_has ls 12 [(0, .ref (a 212)), (1, .int x1), (2, .int x2), (3, .int x3), (4, .int x4), (5, .int x5), (6, .int x6)]) : W p l e R s m args below meth c H locs 0 0 Q (F0 m 193 ls []) := by
  have hx := C.1
  have hb := C.2.1
  unfold mb_array_193 at hm
  refine lv_aload_n hx hb dX12_array_193 rfl (lv_at hl 0 rfl) ?_
  refine lv_dup hx hb dX12_array_194 rfl ?_
  refine mg_X12_288 C hw dX12_array_195 ?_
  refine lv_iload hx hb dX12_array_198 (lv_at hl 5 rfl) ?_
  refine lv_iadd hx hb dX12_array_200 ?_
  refine mp_X12_288 C hw dX12_array_201 (fun H locs hw => ?_)
  exact mw_array_204 fu C hret x1 x2 x3 x4 x6 (fup F 36 ((F 36) + x5)) G hm hw (lv_sub hl [0, 1, 2, 3, 4, 6] rfl)
theorem mw_array_187 (fu : Nat) {res : Int32 × PF × PG} (C : mMC p R s m args c A v RX12 cX12_array 12 306 18131) (hret : ∀ (H1 : Heap) (locs1 : List Loc) (ls1 : Array Slot) (pc : Nat), mMW s A v a res.2.1 res.2.2 H1 locs1 → narrow .boolean (.int res.1) = .int res.1 → decode cX12_array pc = .ok (.ireturn, 1) → W p l e R s m args below meth c H1 locs1 0 0 Q (F0 m pc ls1 [.int res.1])) (ag_102 : Int32 → Int32 → Int32 → Int32 → Int32 → Int32 → Int32 → PF → PG → PR) (hag_102 : ∀ (x1 : Int32) (x2 : Int32) (x3 : Int32) (x4 : Int32) (x5 : Int32) (x6 : Int32) (x7 : Int32) (F : PF) (G : PG), ag_102 x1 x2 x3 x4 x5 x6 x7 F G = some res → ∀ (H : Heap) (locs : List Loc) (ls : Array Slot), mMW s A v a F G H locs → lv_has ls 12 [(0, .ref (a 212)), (1, .int x1), (2, .int x2), (3, .int x3), (4, .int x4), (5, .int x5), (6, .int x6), (7, .int x7)] → W p l e R s m args below meth c H locs 0 0 Q (F0 m 102 ls [])) (x1 : Int32) (x2 : Int32) (x3 : Int32) (x4 : Int32) (x5 : Int32) (x6 : Int32) (x7 : Int32) (F : PF) (G : PG) (hm : mb_array_187 fu ag_102 x1 x2 x3 x4 x5 x6 x7 F G = some res) {H : Heap} {locs : List Loc} (hw : mMW s A v a F G H locs) {ls : Array Slot} (hl : lv_has ls 12 [(0, .ref (a 212)), (1, .int x1), (2, .int x2), (3, .int x3), (4, .int x4), (5, .int x5), (6, .int x6), (7, .int x7)]) : W p l e R s m args below meth c H locs 0 0 Q (F0 m 187 ls []) := by
  have hx := C.1
  have hb := C.2.1
  unfold mb_array_187 at hm
  refine lv_iinc (v := (x7 + 1)) (lv' := [(7, .int (x7 + 1)), (0, .ref (a 212)), (1, .int x1), (2, .int x2), (3, .int x3), (4, .int x4), (5, .int x5), (6, .int x6)]) hx hb dX12_array_187 hl (k := 7) rfl (by rfl) (by decide) rfl (fun ls hl => ?_)
  refine lv_goto (tgt := 102) hx hb dX12_array_190 (by decide) ?_
  exact hag_102 x1 x2 x3 x4 x5 x6 (x7 + 1) F G hm _ _ _ hw (lv_sub hl [1, 2, 3, 4, 5, 6, 7, 0] rfl)
theorem mw_array_186 (fu : Nat) {res : Int32 × PF × PG} (C : mMC p R s m args c A v RX12 cX12_array 12 306 18131) (hret : ∀ (H1 : Heap) (locs1 : List Loc) (ls1 : Array Slot) (pc : Nat), mMW s A v a res.2.1 res.2.2 H1 locs1 → narrow .boolean (.int res.1) = .int res.1 → decode cX12_array pc = .ok (.ireturn, 1) → W p l e R s m args below meth c H1 locs1 0 0 Q (F0 m pc ls1 [.int res.1])) (ag_102 : Int32 → Int32 → Int32 → Int32 → Int32 → Int32 → Int32 → PF → PG → PR) (hag_102 : ∀ (x1 : Int32) (x2 : Int32) (x3 : Int32) (x4 : Int32) (x5 : Int32) (x6 : Int32) (x7 : Int32) (F : PF) (G : PG), ag_102 x1 x2 x3 x4 x5 x6 x7 F G = some res → ∀ (H : Heap) (locs : List Loc) (ls : Array Slot), mMW s A v a F G H locs → lv_has ls 12 [(0, .ref (a 212)), (1, .int x1), (2, .int x2), (3, .int x3), (4, .int x4), (5, .int x5), (6, .int x6), (7, .int x7)] → W p l e R s m args below meth c H locs 0 0 Q (F0 m 102 ls [])) (x1 : Int32) (x2 : Int32) (x3 : Int32) (x4 : Int32) (x5 : Int32) (x6 : Int32) (x7 : Int32) (z0 : Int32) (z1 : Int32) (F : PF) (G : PG) (hm : mb_array_186 fu ag_102 x1 x2 x3 x4 x5 x6 x7 z0 z1 F G = some res) {H : Heap} {locs : List Loc} (hw : mMW s A v a F G H locs) {ls : Array Slot} (hl : lv_has ls 12 [(0, .ref (a 212)), (1, .int x1), (2, .int x2), (3, .int x3), (4, .int x4), (5, .int x5), (6, .int x6), (7, .int x7)]) : W p l e R s m args below meth c H locs 0 0 Q (F0 m 186 ls [.int z0, .int z1, .ref (a 38)]) := by
  have hx := C.1
  have hb := C.2.1
  unfold mb_array_186 at hm
  obtain ⟨hi, hm⟩ := ix_elim hm
  refine mas_38 C hw hi dX12_array_186 (fun H locs hw => ?_)
  exact mw_array_187 fu C hret ag_102 hag_102 x1 x2 x3 x4 x5 x6 x7 F (gup G 38 z1.toNatClampNeg z0) hm hw (lv_sub hl [0, 1, 2, 3, 4, 5, 6, 7] rfl)
theorem mw_array_185 (fu : Nat) {res : Int32 × PF × PG} (C : mMC p R s m args c A v RX12 cX12_array 12 306 18131) (hret : ∀ (H1 : Heap) (locs1 : List Loc) (ls1 : Array Slot) (pc : Nat), mMW s A v a res.2.1 res.2.2 H1 locs1 → narrow .boolean (.int res.1) = .int res.1 → decode cX12_array pc = .ok (.ireturn, 1) → W p l e R s m args below meth c H1 locs1 0 0 Q (F0 m pc ls1 [.int res.1])) (ag_102 : Int32 → Int32 → Int32 → Int32 → Int32 → Int32 → Int32 → PF → PG → PR) (hag_102 : ∀ (x1 : Int32) (x2 : Int32) (x3 : Int32) (x4 : Int32) (x5 : Int32) (x6 : Int32) (x7 : Int32) (F : PF) (G : PG), ag_102 x1 x2 x3 x4 x5 x6 x7 F G = some res → ∀ (H : Heap) (locs : List Loc) (ls : Array Slot), mMW s A v a F G H locs → lv_has ls 12 [(0, .ref (a 212)), (1, .int x1), (2, .int x2), (3, .int x3), (4, .int x4), (5, .int x5), (6, .int x6), (7, .int x7)] → W p l e R s m args below meth c H locs 0 0 Q (F0 m 102 ls [])) (x1 : Int32) (x2 : Int32) (x3 : Int32) (x4 : Int32) (x5 : Int32) (x6 : Int32) (x7 : Int32) (z0 : Int32) (F : PF) (G : PG) (hm : mb_array_185 fu ag_102 x1 x2 x3 x4 x5 x6 x7 z0 F G = some res) {H : Heap} {locs : List Loc} (hw : mMW s A v a F G H locs) {ls : Array Slot} (hl : lv_has ls 12 [(0, .ref (a 212)), (1, .int x1), (2, .int x2), (3, .int x3), (4, .int x4), (5, .int x5), (6, .int x6), (7, .int x7)]) : W p l e R s m args below meth c H locs 0 0 Q (F0 m 185 ls [.int z0, .ref (a 38)]) := by
  have hx := C.1
  have hb := C.2.1
  unfold mb_array_185 at hm
  refine lv_iconst (v := 1) hx hb dX12_array_185 (by decide) ?_
  exact mw_array_186 fu C hret ag_102 hag_102 x1 x2 x3 x4 x5 x6 x7 1 z0 F G hm hw (lv_sub hl [0, 1, 2, 3, 4, 5, 6, 7] rfl)
theorem mw_array_182 (fu : Nat) {res : Int32 × PF × PG} (C : mMC p R s m args c A v RX12 cX12_array 12 306 18131) (hret : ∀ (H1 : Heap) (locs1 : List Loc) (ls1 : Array Slot) (pc : Nat), mMW s A v a res.2.1 res.2.2 H1 locs1 → narrow .boolean (.int res.1) = .int res.1 → decode cX12_array pc = .ok (.ireturn, 1) → W p l e R s m args below meth c H1 locs1 0 0 Q (F0 m pc ls1 [.int res.1])) (ag_102 : Int32 → Int32 → Int32 → Int32 → Int32 → Int32 → Int32 → PF → PG → PR) (hag_102 : ∀ (x1 : Int32) (x2 : Int32) (x3 : Int32) (x4 : Int32) (x5 : Int32) (x6 : Int32) (x7 : Int32) (F : PF) (G : PG), ag_102 x1 x2 x3 x4 x5 x6 x7 F G = some res → ∀ (H : Heap) (locs : List Loc) (ls : Array Slot), mMW s A v a F G H locs → lv_has ls 12 [(0, .ref (a 212)), (1, .int x1), (2, .int x2), (3, .int x3), (4, .int x4), (5, .int x5), (6, .int x6), (7, .int x7)] → W p l e R s m args below meth c H locs 0 0 Q (F0 m 102 ls [])) (x1 : Int32) (x2 : Int32) (x3 : Int32) (x4 : Int32) (x5 : Int32) (x6 : Int32) (x7 : Int32) (z0 : Int32) (z1 : Int32) (F : PF) (G : PG) (hm : mb_array_182 fu ag_102 x1 x2 x3 x4 x5 x6 x7 z0 z1 F G = some res) {H : Heap} {locs : List Loc} (hw : mMW s A v a F G H locs) {ls : Array Slot} (hl : lv_has ls 12 [(0, .ref (a 212)), (1, .int x1), (2, .int x2), (3, .int x3), (4, .int x4), (5, .int x5), (6, .int x6), (7, .int x7)]) : W p l e R s m args below meth c H locs 0 0 Q (F0 m 182 ls [.int z0, .int z1, .ref (a 38)]) := by
  have hx := C.1
  have hb := C.2.1
  unfold mb_array_182 at hm
  refine lv_goto (tgt := 186) hx hb dX12_array_182 (by decide) ?_
  exact mw_array_186 fu C hret ag_102 hag_102 x1 x2 x3 x4 x5 x6 x7 z0 z1 F G hm hw (lv_sub hl [0, 1, 2, 3, 4, 5, 6, 7] rfl)
theorem mw_array_172 (fu : Nat) {res : Int32 × PF × PG} (C : mMC p R s m args c A v RX12 cX12_array 12 306 18131) (hret : ∀ (H1 : Heap) (locs1 : List Loc) (ls1 : Array Slot) (pc : Nat), mMW s A v a res.2.1 res.2.2 H1 locs1 → narrow .boolean (.int res.1) = .int res.1 → decode cX12_array pc = .ok (.ireturn, 1) → W p l e R s m args below meth c H1 locs1 0 0 Q (F0 m pc ls1 [.int res.1])) (ag_102 : Int32 → Int32 → Int32 → Int32 → Int32 → Int32 → Int32 → PF → PG → PR) (hag_102 : ∀ (x1 : Int32) (x2 : Int32) (x3 : Int32) (x4 : Int32) (x5 : Int32) (x6 : Int32) (x7 : Int32) (F : PF) (G : PG), ag_102 x1 x2 x3 x4 x5 x6 x7 F G = some res → ∀ (H : Heap) (locs : List Loc) (ls : Array Slot), mMW s A v a F G H locs → lv_has ls 12 [(0, .ref (a 212)), (1, .int x1), (2, .int x2), (3, .int x3), (4, .int x4), (5, .int x5), (6, .int x6), (7, .int x7)] → W p l e R s m args below meth c H locs 0 0 Q (F0 m 102 ls [])) (x1 : Int32) (x2 : Int32) (x3 : Int32) (x4 : Int32) (x5 : Int32) (x6 : Int32) (x7 : Int32) (z0 : Int32) (F : PF) (G : PG) (hm : mb_array_172 fu ag_102 x1 x2 x3 x4 x5 x6 x7 z0 F G = some res) {H : Heap} {locs : List Loc} (hw : mMW s A v a F G H locs) {ls : Array Slot} (hl : lv_has ls 12 [(0, .ref (a 212)), (1, .int x1), (2, .int x2), (3, .int x3), (4, .int x4), (5, .int x5), (6, .int x6), (7, .int x7)]) : W p l e R s m args below meth c H locs 0 0 Q (F0 m 172 ls [.int z0, .ref (a 38)]) := by
  have hx := C.1
  have hb := C.2.1
  unfold mb_array_172 at hm
  refine lv_iconst (v := 4) hx hb dX12_array_172 (by decide) ?_
  refine lv_iload_n hx hb dX12_array_173 rfl (lv_at hl 3 rfl) ?_
  refine lv_iconst (v := 4) hx hb dX12_array_174 (by decide) ?_
  refine lv_iload hx hb dX12_array_175 (lv_at hl 7 rfl) ?_
  refine lv_imul hx hb dX12_array_177 ?_
  refine lv_isub hx hb dX12_array_178 ?_
  refine va_mmin hx hb (C.2.2.1.trans hl.1.symm) C.2.2.2.1 (C.2.2.2.2.1 _ mm_154) (C.2.2.2.2.1 _ mm_155) (C.2.2.2.2.1 _ mm_156) (C.2.2.2.2.1 _ mm_157) (Nat.le_trans (by omega) C.2.2.2.2.2.2.2.1) (Nat.le_trans (by simp only [List.map, List.sum_cons, List.sum_nil, Value.category]; omega) C.2.2.2.2.2.2.2.2.1) (Nat.zero_le _) (Nat.zero_le _) dX12_array_179 ?_
  exact mw_array_182 fu C hret ag_102 hag_102 x1 x2 x3 x4 x5 x6 x7 (if (x3 - ((4 : Int32) * x7)) < (4 : Int32) then (x3 - ((4 : Int32) * x7)) else (4 : Int32)) z0 F G hm hw (lv_sub hl [0, 1, 2, 3, 4, 5, 6, 7] rfl)
theorem mw_array_157 (fu : Nat) {res : Int32 × PF × PG} (C : mMC p R s m args c A v RX12 cX12_array 12 306 18131) (hret : ∀ (H1 : Heap) (locs1 : List Loc) (ls1 : Array Slot) (pc : Nat), mMW s A v a res.2.1 res.2.2 H1 locs1 → narrow .boolean (.int res.1) = .int res.1 → decode cX12_array pc = .ok (.ireturn, 1) → W p l e R s m args below meth c H1 locs1 0 0 Q (F0 m pc ls1 [.int res.1])) (ag_102 : Int32 → Int32 → Int32 → Int32 → Int32 → Int32 → Int32 → PF → PG → PR) (hag_102 : ∀ (x1 : Int32) (x2 : Int32) (x3 : Int32) (x4 : Int32) (x5 : Int32) (x6 : Int32) (x7 : Int32) (F : PF) (G : PG), ag_102 x1 x2 x3 x4 x5 x6 x7 F G = some res → ∀ (H : Heap) (locs : List Loc) (ls : Array Slot), mMW s A v a F G H locs → lv_has ls 12 [(0, .ref (a 212)), (1, .int x1), (2, .int x2), (3, .int x3), (4, .int x4), (5, .int x5), (6, .int x6), (7, .int x7)] → W p l e R s m args below meth c H locs 0 0 Q (F0 m 102 ls [])) (x1 : Int32) (x2 : Int32) (x3 : Int32) (x4 : Int32) (x5 : Int32) (x6 : Int32) (x7 : Int32) (F : PF) (G : PG) (hm : mb_array_157 fu ag_102 x1 x2 x3 x4 x5 x6 x7 F G = some res) {H : Heap} {locs : List Loc} (hw : mMW s A v a F G H locs) {ls : Array Slot} (hl : lv_has ls 12 [(0, .ref (a 212)), (1, .int x1), (2, .int x2), (3, .int x3), (4, .int x4), (5, .int x5), (6, .int x6), (7, .int x7)]) : W p l e R s m args below meth c H locs 0 0 Q (F0 m 157 ls []) := by
  have hx := C.1
  have hb := C.2.1
  unfold mb_array_157 at hm
  refine lv_aload_n hx hb dX12_array_157 rfl (lv_at hl 0 rfl) ?_
  refine mg_X12_92 C hw dX12_array_158 ?_
  refine lv_aload_n hx hb dX12_array_161 rfl (lv_at hl 0 rfl) ?_
  refine mg_X12_288 C hw dX12_array_162 ?_
  refine lv_iload hx hb dX12_array_165 (lv_at hl 7 rfl) ?_
  refine lv_iadd hx hb dX12_array_167 ?_
  refine lv_iload_n hx hb dX12_array_168 rfl (lv_at hl 2 rfl) ?_
  refine lv_if_eq (tgt := 185) hx hb dX12_array_169 (by decide) (fun c_1 => ?_) (fun c_1 => ?_)
  · have hm := (if_pos c_1).symm.trans hm
    exact mw_array_185 fu C hret ag_102 hag_102 x1 x2 x3 x4 x5 x6 x7 ((F 36) + x7) F G hm hw (lv_sub hl [0, 1, 2, 3, 4, 5, 6, 7] rfl)
  · have hm := (if_neg c_1).symm.trans hm
    exact mw_array_172 fu C hret ag_102 hag_102 x1 x2 x3 x4 x5 x6 x7 ((F 36) + x7) F G hm hw (lv_sub hl [0, 1, 2, 3, 4, 5, 6, 7] rfl)
theorem mw_array_144 (fu : Nat) {res : Int32 × PF × PG} (C : mMC p R s m args c A v RX12 cX12_array 12 306 18131) (hret : ∀ (H1 : Heap) (locs1 : List Loc) (ls1 : Array Slot) (pc : Nat), mMW s A v a res.2.1 res.2.2 H1 locs1 → narrow .boolean (.int res.1) = .int res.1 → decode cX12_array pc = .ok (.ireturn, 1) → W p l e R s m args below meth c H1 locs1 0 0 Q (F0 m pc ls1 [.int res.1])) (ag_102 : Int32 → Int32 → Int32 → Int32 → Int32 → Int32 → Int32 → PF → PG → PR) (hag_102 : ∀ (x1 : Int32) (x2 : Int32) (x3 : Int32) (x4 : Int32) (x5 : Int32) (x6 : Int32) (x7 : Int32) (F : PF) (G : PG), ag_102 x1 x2 x3 x4 x5 x6 x7 F G = some res → ∀ (H : Heap) (locs : List Loc) (ls : Array Slot), mMW s A v a F G H locs → lv_has ls 12 [(0, .ref (a 212)), (1, .int x1), (2, .int x2), (3, .int x3), (4, .int x4), (5, .int x5), (6, .int x6), (7, .int x7)] → W p l e R s m args below meth c H locs 0 0 Q (F0 m 102 ls [])) (x1 : Int32) (x2 : Int32) (x3 : Int32) (x4 : Int32) (x5 : Int32) (x6 : Int32) (x7 : Int32) (F : PF) (G : PG) (hm : mb_array_144 fu ag_102 x1 x2 x3 x4 x5 x6 x7 F G = some res) {H : Heap} {locs : List Loc} (hw : mMW s A v a F G H locs) {ls : Array Slot} (hl : lv_has ls 12 [(0, .ref (a 212)), (1, .int x1), (2, .int x2), (3, .int x3), (4, .int x4), (5, .int x5), (6, .int x6), (7, .int x7)]) : W p l e R s m args below meth c H locs 0 0 Q (F0 m 144 ls []) := by
  have hx := C.1
  have hb := C.2.1
  unfold mb_array_144 at hm
  refine lv_aload_n hx hb dX12_array_144 rfl (lv_at hl 0 rfl) ?_
  refine mg_X12_98 C hw dX12_array_145 ?_
  refine lv_aload_n hx hb dX12_array_148 rfl (lv_at hl 0 rfl) ?_
  refine mg_X12_288 C hw dX12_array_149 ?_
  refine lv_iload hx hb dX12_array_152 (lv_at hl 7 rfl) ?_
  refine lv_iadd hx hb dX12_array_154 ?_
  refine lv_iload_n hx hb dX12_array_155 rfl (lv_at hl 2 rfl) ?_
  obtain ⟨hi, hm⟩ := ix_elim hm
  refine mas_40 C hw hi dX12_array_156 (fun H locs hw => ?_)
  exact mw_array_157 fu C hret ag_102 hag_102 x1 x2 x3 x4 x5 x6 x7 F (gup G 40 ((F 36) + x7).toNatClampNeg (vp_nar .boolean x2)) hm hw (lv_sub hl [0, 1, 2, 3, 4, 5, 6, 7] rfl)
theorem mw_array_142 (fu : Nat) {res : Int32 × PF × PG} (C : mMC p R s m args c A v RX12 cX12_array 12 306 18131) (hret : ∀ (H1 : Heap) (locs1 : List Loc) (ls1 : Array Slot) (pc : Nat), mMW s A v a res.2.1 res.2.2 H1 locs1 → narrow .boolean (.int res.1) = .int res.1 → decode cX12_array pc = .ok (.ireturn, 1) → W p l e R s m args below meth c H1 locs1 0 0 Q (F0 m pc ls1 [.int res.1])) (ag_102 : Int32 → Int32 → Int32 → Int32 → Int32 → Int32 → Int32 → PF → PG → PR) (hag_102 : ∀ (x1 : Int32) (x2 : Int32) (x3 : Int32) (x4 : Int32) (x5 : Int32) (x6 : Int32) (x7 : Int32) (F : PF) (G : PG), ag_102 x1 x2 x3 x4 x5 x6 x7 F G = some res → ∀ (H : Heap) (locs : List Loc) (ls : Array Slot), mMW s A v a F G H locs → lv_has ls 12 [(0, .ref (a 212)), (1, .int x1), (2, .int x2), (3, .int x3), (4, .int x4), (5, .int x5), (6, .int x6), (7, .int x7)] → W p l e R s m args below meth c H locs 0 0 Q (F0 m 102 ls [])) (x1 : Int32) (x2 : Int32) (x3 : Int32) (x4 : Int32) (x5 : Int32) (x6 : Int32) (x7 : Int32) (z0 : Int32) (z1 : Int32) (z2 : Int32) (F : PF) (G : PG) (hm : mb_array_142 fu ag_102 x1 x2 x3 x4 x5 x6 x7 z0 z1 z2 F G = some res) {H : Heap} {locs : List Loc} (hw : mMW s A v a F G H locs) {ls : Array Slot} (hl : lv_has ls 12 [(0, .ref (a 212)), (1, .int x1), (2, .int x2), (3, .int x3), (4, .int x4), (5, .int x5), (6, .int x6), (7, .int x7)]) : W p l e R s m args below meth c H locs 0 0 Q (F0 m 142 ls [.int z0, .int z1, .int z2, .ref (a 39)]) := by
  have hx := C.1
  have hb := C.2.1
  unfold mb_array_142 at hm
  refine lv_iadd hx hb dX12_array_142 ?_
  obtain ⟨hi, hm⟩ := ix_elim hm
  refine mas_39 C hw hi dX12_array_143 (fun H locs hw => ?_)
  exact mw_array_144 fu C hret ag_102 hag_102 x1 x2 x3 x4 x5 x6 x7 F (gup G 39 z2.toNatClampNeg (z1 + z0)) hm hw (lv_sub hl [0, 1, 2, 3, 4, 5, 6, 7] rfl)
theorem mw_array_140 (fu : Nat) {res : Int32 × PF × PG} (C : mMC p R s m args c A v RX12 cX12_array 12 306 18131) (hret : ∀ (H1 : Heap) (locs1 : List Loc) (ls1 : Array Slot) (pc : Nat), mMW s A v a res.2.1 res.2.2 H1 locs1 → narrow .boolean (.int res.1) = .int res.1 → decode cX12_array pc = .ok (.ireturn, 1) → W p l e R s m args below meth c H1 locs1 0 0 Q (F0 m pc ls1 [.int res.1])) (ag_102 : Int32 → Int32 → Int32 → Int32 → Int32 → Int32 → Int32 → PF → PG → PR) (hag_102 : ∀ (x1 : Int32) (x2 : Int32) (x3 : Int32) (x4 : Int32) (x5 : Int32) (x6 : Int32) (x7 : Int32) (F : PF) (G : PG), ag_102 x1 x2 x3 x4 x5 x6 x7 F G = some res → ∀ (H : Heap) (locs : List Loc) (ls : Array Slot), mMW s A v a F G H locs → lv_has ls 12 [(0, .ref (a 212)), (1, .int x1), (2, .int x2), (3, .int x3), (4, .int x4), (5, .int x5), (6, .int x6), (7, .int x7)] → W p l e R s m args below meth c H locs 0 0 Q (F0 m 102 ls [])) (x1 : Int32) (x2 : Int32) (x3 : Int32) (x4 : Int32) (x5 : Int32) (x6 : Int32) (x7 : Int32) (z0 : Int32) (z1 : Int32) (F : PF) (G : PG) (hm : mb_array_140 fu ag_102 x1 x2 x3 x4 x5 x6 x7 z0 z1 F G = some res) {H : Heap} {locs : List Loc} (hw : mMW s A v a F G H locs) {ls : Array Slot} (hl : lv_has ls 12 [(0, .ref (a 212)), (1, .int x1), (2, .int x2), (3, .int x3), (4, .int x4), (5, .int x5), (6, .int x6), (7, .int x7)]) : W p l e R s m args below meth c H locs 0 0 Q (F0 m 140 ls [.int z0, .int z1, .ref (a 39)]) := by
  have hx := C.1
  have hb := C.2.1
  unfold mb_array_140 at hm
  refine lv_iload hx hb dX12_array_140 (lv_at hl 7 rfl) ?_
  exact mw_array_142 fu C hret ag_102 hag_102 x1 x2 x3 x4 x5 x6 x7 x7 z0 z1 F G hm hw (lv_sub hl [0, 1, 2, 3, 4, 5, 6, 7] rfl)
theorem mw_array_133 (fu : Nat) {res : Int32 × PF × PG} (C : mMC p R s m args c A v RX12 cX12_array 12 306 18131) (hret : ∀ (H1 : Heap) (locs1 : List Loc) (ls1 : Array Slot) (pc : Nat), mMW s A v a res.2.1 res.2.2 H1 locs1 → narrow .boolean (.int res.1) = .int res.1 → decode cX12_array pc = .ok (.ireturn, 1) → W p l e R s m args below meth c H1 locs1 0 0 Q (F0 m pc ls1 [.int res.1])) (ag_102 : Int32 → Int32 → Int32 → Int32 → Int32 → Int32 → Int32 → PF → PG → PR) (hag_102 : ∀ (x1 : Int32) (x2 : Int32) (x3 : Int32) (x4 : Int32) (x5 : Int32) (x6 : Int32) (x7 : Int32) (F : PF) (G : PG), ag_102 x1 x2 x3 x4 x5 x6 x7 F G = some res → ∀ (H : Heap) (locs : List Loc) (ls : Array Slot), mMW s A v a F G H locs → lv_has ls 12 [(0, .ref (a 212)), (1, .int x1), (2, .int x2), (3, .int x3), (4, .int x4), (5, .int x5), (6, .int x6), (7, .int x7)] → W p l e R s m args below meth c H locs 0 0 Q (F0 m 102 ls [])) (x1 : Int32) (x2 : Int32) (x3 : Int32) (x4 : Int32) (x5 : Int32) (x6 : Int32) (x7 : Int32) (z0 : Int32) (z1 : Int32) (F : PF) (G : PG) (hm : mb_array_133 fu ag_102 x1 x2 x3 x4 x5 x6 x7 z0 z1 F G = some res) {H : Heap} {locs : List Loc} (hw : mMW s A v a F G H locs) {ls : Array Slot} (hl : lv_has ls 12 [(0, .ref (a 212)), (1, .int x1), (2, .int x2), (3, .int x3), (4, .int x4), (5, .int x5), (6, .int x6), (7, .int x7)]) : W p l e R s m args below meth c H locs 0 0 Q (F0 m 133 ls [.int z0, .int z1, .ref (a 39)]) := by
  have hx := C.1
  have hb := C.2.1
  unfold mb_array_133 at hm
  refine lv_iconst (v := 4) hx hb dX12_array_133 (by decide) ?_
  refine lv_iload hx hb dX12_array_134 (lv_at hl 7 rfl) ?_
  refine lv_imul hx hb dX12_array_136 ?_
  refine lv_goto (tgt := 142) hx hb dX12_array_137 (by decide) ?_
  exact mw_array_142 fu C hret ag_102 hag_102 x1 x2 x3 x4 x5 x6 x7 ((4 : Int32) * x7) z0 z1 F G hm hw (lv_sub hl [0, 1, 2, 3, 4, 5, 6, 7] rfl)
theorem mw_array_114 (fu : Nat) {res : Int32 × PF × PG} (C : mMC p R s m args c A v RX12 cX12_array 12 306 18131) (hret : ∀ (H1 : Heap) (locs1 : List Loc) (ls1 : Array Slot) (pc : Nat), mMW s A v a res.2.1 res.2.2 H1 locs1 → narrow .boolean (.int res.1) = .int res.1 → decode cX12_array pc = .ok (.ireturn, 1) → W p l e R s m args below meth c H1 locs1 0 0 Q (F0 m pc ls1 [.int res.1])) (ag_102 : Int32 → Int32 → Int32 → Int32 → Int32 → Int32 → Int32 → PF → PG → PR) (hag_102 : ∀ (x1 : Int32) (x2 : Int32) (x3 : Int32) (x4 : Int32) (x5 : Int32) (x6 : Int32) (x7 : Int32) (F : PF) (G : PG), ag_102 x1 x2 x3 x4 x5 x6 x7 F G = some res → ∀ (H : Heap) (locs : List Loc) (ls : Array Slot), mMW s A v a F G H locs → lv_has ls 12 [(0, .ref (a 212)), (1, .int x1), (2, .int x2), (3, .int x3), (4, .int x4), (5, .int x5), (6, .int x6), (7, .int x7)] → W p l e R s m args below meth c H locs 0 0 Q (F0 m 102 ls [])) (x1 : Int32) (x2 : Int32) (x3 : Int32) (x4 : Int32) (x5 : Int32) (x6 : Int32) (x7 : Int32) (F : PF) (G : PG) (hm : mb_array_114 fu ag_102 x1 x2 x3 x4 x5 x6 x7 F G = some res) {H : Heap} {locs : List Loc} (hw : mMW s A v a F G H locs) {ls : Array Slot} (hl : lv_has ls 12 [(0, .ref (a 212)), (1, .int x1), (2, .int x2), (3, .int x3), (4, .int x4), (5, .int x5), (6, .int x6), (7, .int x7)]) : W p l e R s m args below meth c H locs 0 0 Q (F0 m 114 ls []) := by
  have hx := C.1
  have hb := C.2.1
  unfold mb_array_114 at hm
  refine lv_aload_n hx hb dX12_array_114 rfl (lv_at hl 0 rfl) ?_
  refine mg_X12_95 C hw dX12_array_115 ?_
  refine lv_aload_n hx hb dX12_array_118 rfl (lv_at hl 0 rfl) ?_
  refine mg_X12_288 C hw dX12_array_119 ?_
  refine lv_iload hx hb dX12_array_122 (lv_at hl 7 rfl) ?_
  refine lv_iadd hx hb dX12_array_124 ?_
  refine lv_aload_n hx hb dX12_array_125 rfl (lv_at hl 0 rfl) ?_
  refine mg_X12_291 C hw dX12_array_126 ?_
  refine lv_iload_n hx hb dX12_array_129 rfl (lv_at hl 2 rfl) ?_
  refine lv_if_eq (tgt := 140) hx hb dX12_array_130 (by decide) (fun c_1 => ?_) (fun c_1 => ?_)
  · have hm := (if_pos c_1).symm.trans hm
    exact mw_array_140 fu C hret ag_102 hag_102 x1 x2 x3 x4 x5 x6 x7 (F 37) ((F 36) + x7) F G hm hw (lv_sub hl [0, 1, 2, 3, 4, 5, 6, 7] rfl)
  · have hm := (if_neg c_1).symm.trans hm
    exact mw_array_133 fu C hret ag_102 hag_102 x1 x2 x3 x4 x5 x6 x7 (F 37) ((F 36) + x7) F G hm hw (lv_sub hl [0, 1, 2, 3, 4, 5, 6, 7] rfl)
theorem mw_array_109 (fu : Nat) {res : Int32 × PF × PG} (C : mMC p R s m args c A v RX12 cX12_array 12 306 18131) (hret : ∀ (H1 : Heap) (locs1 : List Loc) (ls1 : Array Slot) (pc : Nat), mMW s A v a res.2.1 res.2.2 H1 locs1 → narrow .boolean (.int res.1) = .int res.1 → decode cX12_array pc = .ok (.ireturn, 1) → W p l e R s m args below meth c H1 locs1 0 0 Q (F0 m pc ls1 [.int res.1])) (ag_102 : Int32 → Int32 → Int32 → Int32 → Int32 → Int32 → Int32 → PF → PG → PR) (hag_102 : ∀ (x1 : Int32) (x2 : Int32) (x3 : Int32) (x4 : Int32) (x5 : Int32) (x6 : Int32) (x7 : Int32) (F : PF) (G : PG), ag_102 x1 x2 x3 x4 x5 x6 x7 F G = some res → ∀ (H : Heap) (locs : List Loc) (ls : Array Slot), mMW s A v a F G H locs → lv_has ls 12 [(0, .ref (a 212)), (1, .int x1), (2, .int x2), (3, .int x3), (4, .int x4), (5, .int x5), (6, .int x6), (7, .int x7)] → W p l e R s m args below meth c H locs 0 0 Q (F0 m 102 ls [])) (x1 : Int32) (x2 : Int32) (x3 : Int32) (x4 : Int32) (x5 : Int32) (x6 : Int32) (x7 : Int32) (F : PF) (G : PG) (hm : mb_array_109 fu ag_102 x1 x2 x3 x4 x5 x6 x7 F G = some res) {H : Heap} {locs : List Loc} (hw : mMW s A v a F G H locs) {ls : Array Slot} (hl : lv_has ls 12 [(0, .ref (a 212)), (1, .int x1), (2, .int x2), (3, .int x3), (4, .int x4), (5, .int x5), (6, .int x6), (7, .int x7)]) : W p l e R s m args below meth c H locs 0 0 Q (F0 m 109 ls []) := by
  have hx := C.1
  have hb := C.2.1
  unfold mb_array_109 at hm
  refine lv_iload hx hb dX12_array_109 (lv_at hl 6 rfl) ?_
  refine lv_if_eq (tgt := 193) hx hb dX12_array_111 (by decide) (fun c_1 => ?_) (fun c_1 => ?_)
  · have hm := (if_pos c_1).symm.trans hm
    exact mw_array_193 fu C hret x1 x2 x3 x4 x5 x6 F G hm hw (lv_sub hl [0, 1, 2, 3, 4, 5, 6] rfl)
  · have hm := (if_neg c_1).symm.trans hm
    exact mw_array_114 fu C hret ag_102 hag_102 x1 x2 x3 x4 x5 x6 x7 F G hm hw (lv_sub hl [0, 1, 2, 3, 4, 5, 6, 7] rfl)
theorem mw_array_102 (fu : Nat) {res : Int32 × PF × PG} (C : mMC p R s m args c A v RX12 cX12_array 12 306 18131) (hret : ∀ (H1 : Heap) (locs1 : List Loc) (ls1 : Array Slot) (pc : Nat), mMW s A v a res.2.1 res.2.2 H1 locs1 → narrow .boolean (.int res.1) = .int res.1 → decode cX12_array pc = .ok (.ireturn, 1) → W p l e R s m args below meth c H1 locs1 0 0 Q (F0 m pc ls1 [.int res.1])) (ag_102 : Int32 → Int32 → Int32 → Int32 → Int32 → Int32 → Int32 → PF → PG → PR) (hag_102 : ∀ (x1 : Int32) (x2 : Int32) (x3 : Int32) (x4 : Int32) (x5 : Int32) (x6 : Int32) (x7 : Int32) (F : PF) (G : PG), ag_102 x1 x2 x3 x4 x5 x6 x7 F G = some res → ∀ (H : Heap) (locs : List Loc) (ls : Array Slot), mMW s A v a F G H locs → lv_has ls 12 [(0, .ref (a 212)), (1, .int x1), (2, .int x2), (3, .int x3), (4, .int x4), (5, .int x5), (6, .int x6), (7, .int x7)] → W p l e R s m args below meth c H locs 0 0 Q (F0 m 102 ls [])) (x1 : Int32) (x2 : Int32) (x3 : Int32) (x4 : Int32) (x5 : Int32) (x6 : Int32) (x7 : Int32) (F : PF) (G : PG) (hm : mb_array_102 fu ag_102 x1 x2 x3 x4 x5 x6 x7 F G = some res) {H : Heap} {locs : List Loc} (hw : mMW s A v a F G H locs) {ls : Array Slot} (hl : lv_has ls 12 [(0, .ref (a 212)), (1, .int x1), (2, .int x2), (3, .int x3), (4, .int x4), (5, .int x5), (6, .int x6), (7, .int x7)]) : W p l e R s m args below meth c H locs 0 0 Q (F0 m 102 ls []) := by
  have hx := C.1
  have hb := C.2.1
  unfold mb_array_102 at hm
  refine lv_iload hx hb dX12_array_102 (lv_at hl 7 rfl) ?_
  refine lv_iload hx hb dX12_array_104 (lv_at hl 5 rfl) ?_
  refine lv_icmp_ge (tgt := 193) hx hb dX12_array_106 (by decide) (fun c_1 => ?_) (fun c_1 => ?_)
  · have hm := (if_pos c_1).symm.trans hm
    exact mw_array_193 fu C hret x1 x2 x3 x4 x5 x6 F G hm hw (lv_sub hl [0, 1, 2, 3, 4, 5, 6] rfl)
  · have hm := (if_neg c_1).symm.trans hm
    exact mw_array_109 fu C hret ag_102 hag_102 x1 x2 x3 x4 x5 x6 x7 F G hm hw (lv_sub hl [0, 1, 2, 3, 4, 5, 6, 7] rfl)
theorem mwl_array_102 (fu : Nat) {res : Int32 × PF × PG} (C : mMC p R s m args c A v RX12 cX12_array 12 306 18131) (hret : ∀ (H1 : Heap) (locs1 : List Loc) (ls1 : Array Slot) (pc : Nat), mMW s A v a res.2.1 res.2.2 H1 locs1 → narrow .boolean (.int res.1) = .int res.1 → decode cX12_array pc = .ok (.ireturn, 1) → W p l e R s m args below meth c H1 locs1 0 0 Q (F0 m pc ls1 [.int res.1])) : ∀ (n : Nat) (x1 : Int32) (x2 : Int32) (x3 : Int32) (x4 : Int32) (x5 : Int32) (x6 : Int32) (x7 : Int32) (F : PF) (G : PG) (hm : ml_array_102 fu n x1 x2 x3 x4 x5 x6 x7 F G = some res) {H : Heap} {locs : List Loc} (hw : mMW s A v a F G H locs) {ls : Array Slot} (hl : lv_has ls 12 [(0, .ref (a 212)), (1, .int x1), (2, .int x2), (3, .int x3), (4, .int x4), (5, .int x5), (6, .int x6), (7, .int x7)]), W p l e R s m args below meth c H locs 0 0 Q (F0 m 102 ls []) := by
  intro n
  induction n with
  | zero =>
    intro x1 x2 x3 x4 x5 x6 x7 F G hm
    exact no_elim (show (none : PR) = some res from hm)
  | succ n ih =>
    intro x1 x2 x3 x4 x5 x6 x7 F G hm H locs hw ls hl
    exact mw_array_102 fu C hret (ml_array_102 fu n) (fun x1 x2 x3 x4 x5 x6 x7 F G hm H locs ls hw hl => ih x1 x2 x3 x4 x5 x6 x7 F G hm hw hl) x1 x2 x3 x4 x5 x6 x7 F G hm hw hl
theorem mw_array_99 (fu : Nat) {res : Int32 × PF × PG} (C : mMC p R s m args c A v RX12 cX12_array 12 306 18131) (hret : ∀ (H1 : Heap) (locs1 : List Loc) (ls1 : Array Slot) (pc : Nat), mMW s A v a res.2.1 res.2.2 H1 locs1 → narrow .boolean (.int res.1) = .int res.1 → decode cX12_array pc = .ok (.ireturn, 1) → W p l e R s m args below meth c H1 locs1 0 0 Q (F0 m pc ls1 [.int res.1])) (x1 : Int32) (x2 : Int32) (x3 : Int32) (x4 : Int32) (x5 : Int32) (x6 : Int32) (F : PF) (G : PG) (hm : mb_array_99 fu x1 x2 x3 x4 x5 x6 F G = some res) {H : Heap} {locs : List Loc} (hw : mMW s A v a F G H locs) {ls : Array Slot} (hl : lv_has ls 12 [(0, .ref (a 212)), (1, .int x1), (2, .int x2), (3, .int x3), (4, .int x4), (5, .int x5), (6, .int x6)]) : W p l e R s m args below meth c H locs 0 0 Q (F0 m 99 ls []) := by
  have hx := C.1
  have hb := C.2.1
  unfold mb_array_99 at hm
  refine lv_iconst (v := 0) hx hb dX12_array_99 (by decide) ?_
  refine lv_istore (lv' := [(7, .int 0), (0, .ref (a 212)), (1, .int x1), (2, .int x2), (3, .int x3), (4, .int x4), (5, .int x5), (6, .int x6)]) hx hb dX12_array_100 hl (by decide) rfl (fun ls hl => ?_)
  exact mwl_array_102 fu C hret fu x1 x2 x3 x4 x5 x6 0 F G hm hw (lv_sub hl [1, 2, 3, 4, 5, 6, 7, 0] rfl)
theorem mw_array_87 (fu : Nat) {res : Int32 × PF × PG} (C : mMC p R s m args c A v RX12 cX12_array 12 306 18131) (hret : ∀ (H1 : Heap) (locs1 : List Loc) (ls1 : Array Slot) (pc : Nat), mMW s A v a res.2.1 res.2.2 H1 locs1 → narrow .boolean (.int res.1) = .int res.1 → decode cX12_array pc = .ok (.ireturn, 1) → W p l e R s m args below meth c H1 locs1 0 0 Q (F0 m pc ls1 [.int res.1])) (x1 : Int32) (x2 : Int32) (x3 : Int32) (x4 : Int32) (x5 : Int32) (x6 : Int32) (F : PF) (G : PG) (hm : mb_array_87 fu x1 x2 x3 x4 x5 x6 F G = some res) {H : Heap} {locs : List Loc} (hw : mMW s A v a F G H locs) {ls : Array Slot} (hl : lv_has ls 12 [(0, .ref (a 212)), (1, .int x1), (2, .int x2), (3, .int x3), (4, .int x4), (5, .int x5), (6, .int x6)]) : W p l e R s m args below meth c H locs 0 0 Q (F0 m 87 ls []) := by
  have hx := C.1
  have hb := C.2.1
  unfold mb_array_87 at hm
  refine lv_aload_n hx hb dX12_array_87 rfl (lv_at hl 0 rfl) ?_
  refine lv_bipush (v := 11) hx hb dX12_array_88 (by decide) ?_
  refine lv_aload_n hx hb dX12_array_90 rfl (lv_at hl 0 rfl) ?_
  refine mg_X12_22 C hw dX12_array_91 ?_
  refine lv_iload_n hx hb dX12_array_94 rfl (lv_at hl 1 rfl) ?_
  obtain ⟨hi, hm⟩ := ix_elim hm
  refine mal_6 C hw hi dX12_array_95 ?_
  obtain ⟨⟨r1, F1, G1⟩, hc, hm⟩ := bind_elim hm
  refine mcallV (n := 2) (As := [.int 11, .int (G 6 x1.toNatClampNeg)]) (rest := []) C hw (mk_note l v a _ fu 11 (G 6 x1.toNatClampNeg) F G r1 F1 G1 hc) (mrecv_X12 C hw) mm_220 mm_221 mm_222 mm_27 mm_223 (by decide +kernel) rfl (by omega) (by omega) hl.1 rfl (Nat.le_of_ble_eq_true rfl) dX12_array_96 (fun H locs hw => ?_)
  exact mw_array_99 fu C hret x1 x2 x3 x4 x5 x6 F1 G1 hm hw (lv_sub hl [0, 1, 2, 3, 4, 5, 6] rfl)
theorem mw_array_80 (fu : Nat) {res : Int32 × PF × PG} (C : mMC p R s m args c A v RX12 cX12_array 12 306 18131) (hret : ∀ (H1 : Heap) (locs1 : List Loc) (ls1 : Array Slot) (pc : Nat), mMW s A v a res.2.1 res.2.2 H1 locs1 → narrow .boolean (.int res.1) = .int res.1 → decode cX12_array pc = .ok (.ireturn, 1) → W p l e R s m args below meth c H1 locs1 0 0 Q (F0 m pc ls1 [.int res.1])) (x1 : Int32) (x2 : Int32) (x3 : Int32) (x4 : Int32) (x5 : Int32) (z0 : Int32) (F : PF) (G : PG) (hm : mb_array_80 fu x1 x2 x3 x4 x5 z0 F G = some res) {H : Heap} {locs : List Loc} (hw : mMW s A v a F G H locs) {ls : Array Slot} (hl : lv_has ls 12 [(0, .ref (a 212)), (1, .int x1), (2, .int x2), (3, .int x3), (4, .int x4), (5, .int x5)]) : W p l e R s m args below meth c H locs 0 0 Q (F0 m 80 ls [.int z0]) := by
  have hx := C.1
  have hb := C.2.1
  unfold mb_array_80 at hm
  refine lv_istore (lv' := [(6, .int z0), (0, .ref (a 212)), (1, .int x1), (2, .int x2), (3, .int x3), (4, .int x4), (5, .int x5)]) hx hb dX12_array_80 hl (by decide) rfl (fun ls hl => ?_)
  refine lv_iload hx hb dX12_array_82 (lv_at hl 0 rfl) ?_
  refine lv_if_ne (tgt := 99) hx hb dX12_array_84 (by decide) (fun c_1 => ?_) (fun c_1 => ?_)
  · have hm := (if_neg c_1).symm.trans hm
    exact mw_array_99 fu C hret x1 x2 x3 x4 x5 z0 F G hm hw (lv_sub hl [1, 2, 3, 4, 5, 6, 0] rfl)
  · have hm := (if_pos c_1).symm.trans hm
    exact mw_array_87 fu C hret x1 x2 x3 x4 x5 z0 F G hm hw (lv_sub hl [1, 2, 3, 4, 5, 6, 0] rfl)
theorem mw_array_79 (fu : Nat) {res : Int32 × PF × PG} (C : mMC p R s m args c A v RX12 cX12_array 12 306 18131) (hret : ∀ (H1 : Heap) (locs1 : List Loc) (ls1 : Array Slot) (pc : Nat), mMW s A v a res.2.1 res.2.2 H1 locs1 → narrow .boolean (.int res.1) = .int res.1 → decode cX12_array pc = .ok (.ireturn, 1) → W p l e R s m args below meth c H1 locs1 0 0 Q (F0 m pc ls1 [.int res.1])) (x1 : Int32) (x2 : Int32) (x3 : Int32) (x4 : Int32) (x5 : Int32) (F : PF) (G : PG) (hm : mb_array_79 fu x1 x2 x3 x4 x5 F G = some res) {H : Heap} {locs : List Loc} (hw : mMW s A v a F G H locs) {ls : Array Slot} (hl : lv_has ls 12 [(0, .ref (a 212)), (1, .int x1), (2, .int x2), (3, .int x3), (4, .int x4), (5, .int x5)]) : W p l e R s m args below meth c H locs 0 0 Q (F0 m 79 ls []) := by
  have hx := C.1
  have hb := C.2.1
  unfold mb_array_79 at hm
  refine lv_iconst (v := 0) hx hb dX12_array_79 (by decide) ?_
  exact mw_array_80 fu C hret x1 x2 x3 x4 x5 0 F G hm hw (lv_sub hl [0, 1, 2, 3, 4, 5] rfl)
theorem mw_array_75 (fu : Nat) {res : Int32 × PF × PG} (C : mMC p R s m args c A v RX12 cX12_array 12 306 18131) (hret : ∀ (H1 : Heap) (locs1 : List Loc) (ls1 : Array Slot) (pc : Nat), mMW s A v a res.2.1 res.2.2 H1 locs1 → narrow .boolean (.int res.1) = .int res.1 → decode cX12_array pc = .ok (.ireturn, 1) → W p l e R s m args below meth c H1 locs1 0 0 Q (F0 m pc ls1 [.int res.1])) (x1 : Int32) (x2 : Int32) (x3 : Int32) (x4 : Int32) (x5 : Int32) (F : PF) (G : PG) (hm : mb_array_75 fu x1 x2 x3 x4 x5 F G = some res) {H : Heap} {locs : List Loc} (hw : mMW s A v a F G H locs) {ls : Array Slot} (hl : lv_has ls 12 [(0, .ref (a 212)), (1, .int x1), (2, .int x2), (3, .int x3), (4, .int x4), (5, .int x5)]) : W p l e R s m args below meth c H locs 0 0 Q (F0 m 75 ls []) := by
  have hx := C.1
  have hb := C.2.1
  unfold mb_array_75 at hm
  refine lv_iconst (v := 1) hx hb dX12_array_75 (by decide) ?_
  refine lv_goto (tgt := 80) hx hb dX12_array_76 (by decide) ?_
  exact mw_array_80 fu C hret x1 x2 x3 x4 x5 1 F G hm hw (lv_sub hl [0, 1, 2, 3, 4, 5] rfl)
theorem mw_array_60 (fu : Nat) {res : Int32 × PF × PG} (C : mMC p R s m args c A v RX12 cX12_array 12 306 18131) (hret : ∀ (H1 : Heap) (locs1 : List Loc) (ls1 : Array Slot) (pc : Nat), mMW s A v a res.2.1 res.2.2 H1 locs1 → narrow .boolean (.int res.1) = .int res.1 → decode cX12_array pc = .ok (.ireturn, 1) → W p l e R s m args below meth c H1 locs1 0 0 Q (F0 m pc ls1 [.int res.1])) (x1 : Int32) (x2 : Int32) (x3 : Int32) (x4 : Int32) (z0 : Int32) (F : PF) (G : PG) (hm : mb_array_60 fu x1 x2 x3 x4 z0 F G = some res) {H : Heap} {locs : List Loc} (hw : mMW s A v a F G H locs) {ls : Array Slot} (hl : lv_has ls 12 [(0, .ref (a 212)), (1, .int x1), (2, .int x2), (3, .int x3), (4, .int x4)]) : W p l e R s m args below meth c H locs 0 0 Q (F0 m 60 ls [.int z0]) := by
  have hx := C.1
  have hb := C.2.1
  unfold mb_array_60 at hm
  refine lv_istore (lv' := [(5, .int z0), (0, .ref (a 212)), (1, .int x1), (2, .int x2), (3, .int x3), (4, .int x4)]) hx hb dX12_array_60 hl (by decide) rfl (fun ls hl => ?_)
  refine lv_aload_n hx hb dX12_array_62 rfl (lv_at hl 1 rfl) ?_
  refine mg_X12_288 C hw dX12_array_63 ?_
  refine lv_iload hx hb dX12_array_66 (lv_at hl 0 rfl) ?_
  refine lv_iadd hx hb dX12_array_68 ?_
  refine lv_sipush (v := 2000) hx hb dX12_array_69 (by decide) ?_
  refine lv_icmp_gt (tgt := 79) hx hb dX12_array_72 (by decide) (fun c_1 => ?_) (fun c_1 => ?_)
  · have hm := (if_pos c_1).symm.trans hm
    exact mw_array_79 fu C hret x1 x2 x3 x4 z0 F G hm hw (lv_sub hl [1, 2, 3, 4, 5, 0] rfl)
  · have hm := (if_neg c_1).symm.trans hm
    exact mw_array_75 fu C hret x1 x2 x3 x4 z0 F G hm hw (lv_sub hl [1, 2, 3, 4, 5, 0] rfl)
theorem mw_array_59 (fu : Nat) {res : Int32 × PF × PG} (C : mMC p R s m args c A v RX12 cX12_array 12 306 18131) (hret : ∀ (H1 : Heap) (locs1 : List Loc) (ls1 : Array Slot) (pc : Nat), mMW s A v a res.2.1 res.2.2 H1 locs1 → narrow .boolean (.int res.1) = .int res.1 → decode cX12_array pc = .ok (.ireturn, 1) → W p l e R s m args below meth c H1 locs1 0 0 Q (F0 m pc ls1 [.int res.1])) (x1 : Int32) (x2 : Int32) (x3 : Int32) (x4 : Int32) (F : PF) (G : PG) (hm : mb_array_59 fu x1 x2 x3 x4 F G = some res) {H : Heap} {locs : List Loc} (hw : mMW s A v a F G H locs) {ls : Array Slot} (hl : lv_has ls 12 [(0, .ref (a 212)), (1, .int x1), (2, .int x2), (3, .int x3), (4, .int x4)]) : W p l e R s m args below meth c H locs 0 0 Q (F0 m 59 ls []) := by
  have hx := C.1
  have hb := C.2.1
  unfold mb_array_59 at hm
  refine lv_iload_n hx hb dX12_array_59 rfl (lv_at hl 3 rfl) ?_
  exact mw_array_60 fu C hret x1 x2 x3 x4 x3 F G hm hw (lv_sub hl [0, 1, 2, 3, 4] rfl)
theorem mw_array_51 (fu : Nat) {res : Int32 × PF × PG} (C : mMC p R s m args c A v RX12 cX12_array 12 306 18131) (hret : ∀ (H1 : Heap) (locs1 : List Loc) (ls1 : Array Slot) (pc : Nat), mMW s A v a res.2.1 res.2.2 H1 locs1 → narrow .boolean (.int res.1) = .int res.1 → decode cX12_array pc = .ok (.ireturn, 1) → W p l e R s m args below meth c H1 locs1 0 0 Q (F0 m pc ls1 [.int res.1])) (x1 : Int32) (x2 : Int32) (x3 : Int32) (x4 : Int32) (F : PF) (G : PG) (hm : mb_array_51 fu x1 x2 x3 x4 F G = some res) {H : Heap} {locs : List Loc} (hw : mMW s A v a F G H locs) {ls : Array Slot} (hl : lv_has ls 12 [(0, .ref (a 212)), (1, .int x1), (2, .int x2), (3, .int x3), (4, .int x4)]) : W p l e R s m args below meth c H locs 0 0 Q (F0 m 51 ls []) := by
  have hx := C.1
  have hb := C.2.1
  unfold mb_array_51 at hm
  refine lv_iload_n hx hb dX12_array_51 rfl (lv_at hl 3 rfl) ?_
  refine lv_iconst (v := 3) hx hb dX12_array_52 (by decide) ?_
  refine lv_iadd hx hb dX12_array_53 ?_
  refine lv_iconst (v := 4) hx hb dX12_array_54 (by decide) ?_
  refine lv_idiv hx hb dX12_array_55 (by decide) ?_
  refine lv_goto (tgt := 60) hx hb dX12_array_56 (by decide) ?_
  exact mw_array_60 fu C hret x1 x2 x3 x4 ((x3 + (3 : Int32)) / (4 : Int32)) F G hm hw (lv_sub hl [0, 1, 2, 3, 4] rfl)
theorem mw_array_47 (fu : Nat) {res : Int32 × PF × PG} (C : mMC p R s m args c A v RX12 cX12_array 12 306 18131) (hret : ∀ (H1 : Heap) (locs1 : List Loc) (ls1 : Array Slot) (pc : Nat), mMW s A v a res.2.1 res.2.2 H1 locs1 → narrow .boolean (.int res.1) = .int res.1 → decode cX12_array pc = .ok (.ireturn, 1) → W p l e R s m args below meth c H1 locs1 0 0 Q (F0 m pc ls1 [.int res.1])) (x1 : Int32) (x2 : Int32) (x3 : Int32) (x4 : Int32) (F : PF) (G : PG) (hm : mb_array_47 fu x1 x2 x3 x4 F G = some res) {H : Heap} {locs : List Loc} (hw : mMW s A v a F G H locs) {ls : Array Slot} (hl : lv_has ls 12 [(0, .ref (a 212)), (1, .int x1), (2, .int x2), (3, .int x3), (4, .int x4)]) : W p l e R s m args below meth c H locs 0 0 Q (F0 m 47 ls []) := by
  have hx := C.1
  have hb := C.2.1
  unfold mb_array_47 at hm
  refine lv_iload_n hx hb dX12_array_47 rfl (lv_at hl 2 rfl) ?_
  refine lv_if_eq (tgt := 59) hx hb dX12_array_48 (by decide) (fun c_1 => ?_) (fun c_1 => ?_)
  · have hm := (if_pos c_1).symm.trans hm
    exact mw_array_59 fu C hret x1 x2 x3 x4 F G hm hw (lv_sub hl [0, 1, 2, 3, 4] rfl)
  · have hm := (if_neg c_1).symm.trans hm
    exact mw_array_51 fu C hret x1 x2 x3 x4 F G hm hw (lv_sub hl [0, 1, 2, 3, 4] rfl)
theorem mw_array_43 (fu : Nat) {res : Int32 × PF × PG} (C : mMC p R s m args c A v RX12 cX12_array 12 306 18131) (hret : ∀ (H1 : Heap) (locs1 : List Loc) (ls1 : Array Slot) (pc : Nat), mMW s A v a res.2.1 res.2.2 H1 locs1 → narrow .boolean (.int res.1) = .int res.1 → decode cX12_array pc = .ok (.ireturn, 1) → W p l e R s m args below meth c H1 locs1 0 0 Q (F0 m pc ls1 [.int res.1])) (x1 : Int32) (x2 : Int32) (x3 : Int32) (x4 : Int32) (F : PF) (G : PG) (hm : mb_array_43 fu x1 x2 x3 x4 F G = some res) {H : Heap} {locs : List Loc} (hw : mMW s A v a F G H locs) {ls : Array Slot} (hl : lv_has ls 12 [(0, .ref (a 212)), (1, .int x1), (2, .int x2), (3, .int x3), (4, .int x4)]) : W p l e R s m args below meth c H locs 0 0 Q (F0 m 43 ls []) := by
  have hx := C.1
  have hb := C.2.1
  unfold mb_array_43 at hm
  refine lv_iconst (v := 0) hx hb dX12_array_43 (by decide) ?_
  refine lv_goto (tgt := 60) hx hb dX12_array_44 (by decide) ?_
  exact mw_array_60 fu C hret x1 x2 x3 x4 0 F G hm hw (lv_sub hl [0, 1, 2, 3, 4] rfl)
theorem mw_array_32 (fu : Nat) {res : Int32 × PF × PG} (C : mMC p R s m args c A v RX12 cX12_array 12 306 18131) (hret : ∀ (H1 : Heap) (locs1 : List Loc) (ls1 : Array Slot) (pc : Nat), mMW s A v a res.2.1 res.2.2 H1 locs1 → narrow .boolean (.int res.1) = .int res.1 → decode cX12_array pc = .ok (.ireturn, 1) → W p l e R s m args below meth c H1 locs1 0 0 Q (F0 m pc ls1 [.int res.1])) (x1 : Int32) (x2 : Int32) (x3 : Int32) (F : PF) (G : PG) (hm : mb_array_32 fu x1 x2 x3 F G = some res) {H : Heap} {locs : List Loc} (hw : mMW s A v a F G H locs) {ls : Array Slot} (hl : lv_has ls 12 [(0, .ref (a 212)), (1, .int x1), (2, .int x2), (3, .int x3)]) : W p l e R s m args below meth c H locs 0 0 Q (F0 m 32 ls []) := by
  have hx := C.1
  have hb := C.2.1
  unfold mb_array_32 at hm
  refine lv_aload_n hx hb dX12_array_32 rfl (lv_at hl 0 rfl) ?_
  refine mg_X12_291 C hw dX12_array_33 ?_
  refine lv_istore (lv' := [(4, .int (F 37)), (0, .ref (a 212)), (1, .int x1), (2, .int x2), (3, .int x3)]) hx hb dX12_array_36 hl (by decide) rfl (fun ls hl => ?_)
  refine lv_iload_n hx hb dX12_array_38 rfl (lv_at hl 4 rfl) ?_
  refine lv_iconst (v := (-1)) hx hb dX12_array_39 (by decide) ?_
  refine lv_icmp_ne (tgt := 47) hx hb dX12_array_40 (by decide) (fun c_1 => ?_) (fun c_1 => ?_)
  · have hm := (if_neg c_1).symm.trans hm
    exact mw_array_47 fu C hret x1 x2 x3 (F 37) F G hm hw (lv_sub hl [1, 2, 3, 4, 0] rfl)
  · have hm := (if_pos c_1).symm.trans hm
    exact mw_array_43 fu C hret x1 x2 x3 (F 37) F G hm hw (lv_sub hl [1, 2, 3, 4, 0] rfl)
theorem mw_array_30 (fu : Nat) {res : Int32 × PF × PG} (C : mMC p R s m args c A v RX12 cX12_array 12 306 18131) (hret : ∀ (H1 : Heap) (locs1 : List Loc) (ls1 : Array Slot) (pc : Nat), mMW s A v a res.2.1 res.2.2 H1 locs1 → narrow .boolean (.int res.1) = .int res.1 → decode cX12_array pc = .ok (.ireturn, 1) → W p l e R s m args below meth c H1 locs1 0 0 Q (F0 m pc ls1 [.int res.1])) (F : PF) (G : PG) (hm : mb_array_30 fu F G = some res) {H : Heap} {locs : List Loc} (hw : mMW s A v a F G H locs) {ls : Array Slot} (hl : lv_has ls 12 []) : W p l e R s m args below meth c H locs 0 0 Q (F0 m 30 ls []) := by
  have hx := C.1
  have hb := C.2.1
  unfold mb_array_30 at hm
  refine lv_iconst (v := 0) hx hb dX12_array_30 (by decide) ?_
  obtain rfl := Option.some.inj hm
  exact hret _ _ _ _ hw (b01_nar (v := 0) (Or.inl rfl)) dX12_array_31
theorem mw_array_27 (fu : Nat) {res : Int32 × PF × PG} (C : mMC p R s m args c A v RX12 cX12_array 12 306 18131) (hret : ∀ (H1 : Heap) (locs1 : List Loc) (ls1 : Array Slot) (pc : Nat), mMW s A v a res.2.1 res.2.2 H1 locs1 → narrow .boolean (.int res.1) = .int res.1 → decode cX12_array pc = .ok (.ireturn, 1) → W p l e R s m args below meth c H1 locs1 0 0 Q (F0 m pc ls1 [.int res.1])) (x1 : Int32) (x2 : Int32) (x3 : Int32) (z0 : Int32) (F : PF) (G : PG) (hm : mb_array_27 fu x1 x2 x3 z0 F G = some res) {H : Heap} {locs : List Loc} (hw : mMW s A v a F G H locs) {ls : Array Slot} (hl : lv_has ls 12 [(0, .ref (a 212)), (1, .int x1), (2, .int x2), (3, .int x3)]) : W p l e R s m args below meth c H locs 0 0 Q (F0 m 27 ls [.int z0]) := by
  have hx := C.1
  have hb := C.2.1
  unfold mb_array_27 at hm
  refine lv_if_ne (tgt := 32) hx hb dX12_array_27 (by decide) (fun c_1 => ?_) (fun c_1 => ?_)
  · have hm := (if_neg c_1).symm.trans hm
    exact mw_array_32 fu C hret x1 x2 x3 F G hm hw (lv_sub hl [0, 1, 2, 3] rfl)
  · have hm := (if_pos c_1).symm.trans hm
    exact mw_array_30 fu C hret F G hm hw (lv_sub hl [] rfl)
theorem mw_array_20 (fu : Nat) {res : Int32 × PF × PG} (C : mMC p R s m args c A v RX12 cX12_array 12 306 18131) (hret : ∀ (H1 : Heap) (locs1 : List Loc) (ls1 : Array Slot) (pc : Nat), mMW s A v a res.2.1 res.2.2 H1 locs1 → narrow .boolean (.int res.1) = .int res.1 → decode cX12_array pc = .ok (.ireturn, 1) → W p l e R s m args below meth c H1 locs1 0 0 Q (F0 m pc ls1 [.int res.1])) (x1 : Int32) (x2 : Int32) (z0 : Int32) (F : PF) (G : PG) (hm : mb_array_20 fu x1 x2 z0 F G = some res) {H : Heap} {locs : List Loc} (hw : mMW s A v a F G H locs) {ls : Array Slot} (hl : lv_has ls 12 [(0, .ref (a 212)), (1, .int x1), (2, .int x2)]) : W p l e R s m args below meth c H locs 0 0 Q (F0 m 20 ls [.int z0]) := by
  have hx := C.1
  have hb := C.2.1
  unfold mb_array_20 at hm
  refine lv_istore_n (lv' := [(3, .int z0), (0, .ref (a 212)), (1, .int x1), (2, .int x2)]) hx hb dX12_array_20 rfl hl (by decide) rfl (fun ls hl => ?_)
  refine lv_aload_n hx hb dX12_array_21 rfl (lv_at hl 1 rfl) ?_
  refine lv_bipush (v := 25) hx hb dX12_array_22 (by decide) ?_
  obtain ⟨⟨r1, F1, G1⟩, hc, hm⟩ := bind_elim hm
  refine mcallI (n := 1) (As := [.int 25]) (rest := []) C hw (mk_closeSign l v a _ fu 25 F G r1 F1 G1 hc) (mrecv_X12 C hw) mm_248 mm_249 mm_250 mm_27 mm_251 (by decide +kernel) rfl (by omega) (by omega) hl.1 rfl (Nat.le_of_ble_eq_true rfl) dX12_array_24 (fun H locs hw => ?_)
  exact mw_array_27 fu C hret x1 x2 z0 r1 F1 G1 hm hw (lv_sub hl [1, 2, 3, 0] rfl)
theorem mw_array_16 (fu : Nat) {res : Int32 × PF × PG} (C : mMC p R s m args c A v RX12 cX12_array 12 306 18131) (hret : ∀ (H1 : Heap) (locs1 : List Loc) (ls1 : Array Slot) (pc : Nat), mMW s A v a res.2.1 res.2.2 H1 locs1 → narrow .boolean (.int res.1) = .int res.1 → decode cX12_array pc = .ok (.ireturn, 1) → W p l e R s m args below meth c H1 locs1 0 0 Q (F0 m pc ls1 [.int res.1])) (x1 : Int32) (x2 : Int32) (F : PF) (G : PG) (hm : mb_array_16 fu x1 x2 F G = some res) {H : Heap} {locs : List Loc} (hw : mMW s A v a F G H locs) {ls : Array Slot} (hl : lv_has ls 12 [(0, .ref (a 212)), (1, .int x1), (2, .int x2)]) : W p l e R s m args below meth c H locs 0 0 Q (F0 m 16 ls []) := by
  have hx := C.1
  have hb := C.2.1
  unfold mb_array_16 at hm
  refine lv_aload_n hx hb dX12_array_16 rfl (lv_at hl 0 rfl) ?_
  obtain ⟨⟨r1, F1, G1⟩, hc, hm⟩ := bind_elim hm
  refine mcallI (n := 0) (As := []) (rest := []) C hw (mk_sizeHere l v a _ fu F G r1 F1 G1 hc) (mrecv_X12 C hw) mm_365 mm_366 mm_367 mm_27 mm_368 (by decide +kernel) rfl (by omega) (by omega) hl.1 rfl (Nat.le_of_ble_eq_true rfl) dX12_array_17 (fun H locs hw => ?_)
  exact mw_array_20 fu C hret x1 x2 r1 F1 G1 hm hw (lv_sub hl [0, 1, 2] rfl)
theorem mw_array_14 (fu : Nat) {res : Int32 × PF × PG} (C : mMC p R s m args c A v RX12 cX12_array 12 306 18131) (hret : ∀ (H1 : Heap) (locs1 : List Loc) (ls1 : Array Slot) (pc : Nat), mMW s A v a res.2.1 res.2.2 H1 locs1 → narrow .boolean (.int res.1) = .int res.1 → decode cX12_array pc = .ok (.ireturn, 1) → W p l e R s m args below meth c H1 locs1 0 0 Q (F0 m pc ls1 [.int res.1])) (F : PF) (G : PG) (hm : mb_array_14 fu F G = some res) {H : Heap} {locs : List Loc} (hw : mMW s A v a F G H locs) {ls : Array Slot} (hl : lv_has ls 12 []) : W p l e R s m args below meth c H locs 0 0 Q (F0 m 14 ls []) := by
  have hx := C.1
  have hb := C.2.1
  unfold mb_array_14 at hm
  refine lv_iconst (v := 0) hx hb dX12_array_14 (by decide) ?_
  obtain rfl := Option.some.inj hm
  exact hret _ _ _ _ hw (b01_nar (v := 0) (Or.inl rfl)) dX12_array_15
theorem mw_array_11 (fu : Nat) {res : Int32 × PF × PG} (C : mMC p R s m args c A v RX12 cX12_array 12 306 18131) (hret : ∀ (H1 : Heap) (locs1 : List Loc) (ls1 : Array Slot) (pc : Nat), mMW s A v a res.2.1 res.2.2 H1 locs1 → narrow .boolean (.int res.1) = .int res.1 → decode cX12_array pc = .ok (.ireturn, 1) → W p l e R s m args below meth c H1 locs1 0 0 Q (F0 m pc ls1 [.int res.1])) (x1 : Int32) (x2 : Int32) (z0 : Int32) (F : PF) (G : PG) (hm : mb_array_11 fu x1 x2 z0 F G = some res) {H : Heap} {locs : List Loc} (hw : mMW s A v a F G H locs) {ls : Array Slot} (hl : lv_has ls 12 [(0, .ref (a 212)), (1, .int x1), (2, .int x2)]) : W p l e R s m args below meth c H locs 0 0 Q (F0 m 11 ls [.int z0]) := by
  have hx := C.1
  have hb := C.2.1
  unfold mb_array_11 at hm
  refine lv_if_ne (tgt := 16) hx hb dX12_array_11 (by decide) (fun c_1 => ?_) (fun c_1 => ?_)
  · have hm := (if_neg c_1).symm.trans hm
    exact mw_array_16 fu C hret x1 x2 F G hm hw (lv_sub hl [0, 1, 2] rfl)
  · have hm := (if_pos c_1).symm.trans hm
    exact mw_array_14 fu C hret F G hm hw (lv_sub hl [] rfl)
theorem mw_array_5 (fu : Nat) {res : Int32 × PF × PG} (C : mMC p R s m args c A v RX12 cX12_array 12 306 18131) (hret : ∀ (H1 : Heap) (locs1 : List Loc) (ls1 : Array Slot) (pc : Nat), mMW s A v a res.2.1 res.2.2 H1 locs1 → narrow .boolean (.int res.1) = .int res.1 → decode cX12_array pc = .ok (.ireturn, 1) → W p l e R s m args below meth c H1 locs1 0 0 Q (F0 m pc ls1 [.int res.1])) (x1 : Int32) (x2 : Int32) (F : PF) (G : PG) (hm : mb_array_5 fu x1 x2 F G = some res) {H : Heap} {locs : List Loc} (hw : mMW s A v a F G H locs) {ls : Array Slot} (hl : lv_has ls 12 [(0, .ref (a 212)), (1, .int x1), (2, .int x2)]) : W p l e R s m args below meth c H locs 0 0 Q (F0 m 5 ls []) := by
  have hx := C.1
  have hb := C.2.1
  unfold mb_array_5 at hm
  refine lv_aload_n hx hb dX12_array_5 rfl (lv_at hl 0 rfl) ?_
  refine lv_bipush (v := 24) hx hb dX12_array_6 (by decide) ?_
  obtain ⟨⟨r1, F1, G1⟩, hc, hm⟩ := bind_elim hm
  refine mcallI (n := 1) (As := [.int 24]) (rest := []) C hw (mk_openSign l v a _ fu 24 F G r1 F1 G1 hc) (mrecv_X12 C hw) mm_241 mm_242 mm_243 mm_27 mm_244 (by decide +kernel) rfl (by omega) (by omega) hl.1 rfl (Nat.le_of_ble_eq_true rfl) dX12_array_8 (fun H locs hw => ?_)
  exact mw_array_11 fu C hret x1 x2 r1 F1 G1 hm hw (lv_sub hl [0, 1, 2] rfl)
theorem mw_array_0 (fu : Nat) {res : Int32 × PF × PG} (C : mMC p R s m args c A v RX12 cX12_array 12 306 18131) (hret : ∀ (H1 : Heap) (locs1 : List Loc) (ls1 : Array Slot) (pc : Nat), mMW s A v a res.2.1 res.2.2 H1 locs1 → narrow .boolean (.int res.1) = .int res.1 → decode cX12_array pc = .ok (.ireturn, 1) → W p l e R s m args below meth c H1 locs1 0 0 Q (F0 m pc ls1 [.int res.1])) (x1 : Int32) (x2 : Int32) (F : PF) (G : PG) (hm : mb_array_0 fu x1 x2 F G = some res) {H : Heap} {locs : List Loc} (hw : mMW s A v a F G H locs) {ls : Array Slot} (hl : lv_has ls 12 [(0, .ref (a 212)), (1, .int x1), (2, .int x2)]) : W p l e R s m args below meth c H locs 0 0 Q (F0 m 0 ls []) := by
  have hx := C.1
  have hb := C.2.1
  unfold mb_array_0 at hm
  refine lv_aload_n hx hb dX12_array_0 rfl (lv_at hl 0 rfl) ?_
  refine lv_iload_n hx hb dX12_array_1 rfl (lv_at hl 1 rfl) ?_
  obtain ⟨⟨r1, F1, G1⟩, hc, hm⟩ := bind_elim hm
  refine mcallV (n := 1) (As := [.int x1]) (rest := []) C hw (mk_twice l v a _ fu x1 F G r1 F1 G1 hc) (mrecv_X12 C hw) mm_310 mm_311 mm_312 mm_27 mm_313 (by decide +kernel) rfl (by omega) (by omega) hl.1 rfl (Nat.le_of_ble_eq_true rfl) dX12_array_2 (fun H locs hw => ?_)
  exact mw_array_5 fu C hret x1 x2 F1 G1 hm hw (lv_sub hl [0, 1, 2] rfl)
theorem mk_array (l : Launch) (v : EV) (a : Nat → Nat) (sz : Nat) (fu : Nat) (x1 : Int32) (x2 : Int32) (F : PF) (G : PG) (r : Int32) (F1 : PF) (G1 : PG) (hm : mf_array fu x1 x2 F G = some (r, F1, G1)) : mMI l yX12_array cX12_array 12 (some .boolean) 306 18131 v a sz [.ref (a 212), .int x1, .int x2] F G r F1 G1 := mMI.of (ty := .boolean) (by decide) rfl (Nat.le_of_ble_eq_true rfl) (fun p e R s m args below meth c Q A H locs ls C hw hl hret => mw_array_0 fu (res := (r, F1, G1)) C hret x1 x2 F G hm hw hl)
end MB
