section MB
variable {p : Program} {l : Launch} {e : Env} {R : Room} {s : State} {m : MethodId} {args : Array Value} {below : List Frame} {meth : Method} {c : Code} {H : Heap} {locs : List Loc} {Q : State → Prop} {A : Nat → Prop} {v : EV} {a : Nat → Nat} {own : String} {cc : ByteArray} {nL fr lo : Nat}
def mb_read_283 (fu : Nat) (F : PF) (G : PG) : PR := some (0, F, G)
def mb_read_278 (fu : Nat) (F : PF) (G : PG) : PR := mb_read_283 fu (fup F 73 (1 : Int32)) G
def mb_read_265 (fu : Nat) (F : PF) (G : PG) : PR := some ((((16 : Int32) * (F 48)) + (F 47)), F, G)
def mb_read_258 (fu : Nat) (F : PF) (G : PG) : PR := if (F 47) ≤ (0 : Int32) then mb_read_278 fu F G else mb_read_265 fu F G
def mb_read_248 (fu : Nat) (F : PF) (G : PG) : PR := (mf_note fu 12 (F 3) F G).bind (fun q => mb_read_258 fu q.2.1 q.2.2)
def mb_read_240 (fu : Nat) (F : PF) (G : PG) : PR := if (F 74) = (-1 : Int32) then mb_read_248 fu F G else mb_read_258 fu F G
def mb_read_234 (fu : Nat) (ag_127 : Int32 → PF → PG → PR) (x1 : Int32) (F : PF) (G : PG) : PR := ag_127 (x1 + (-1)) F G
def mb_read_217 (fu : Nat) (ag_127 : Int32 → PF → PG → PR) (x1 : Int32) (F : PF) (G : PG) : PR := if ixb x1 500 = true then (if ixb (G 32 x1.toNatClampNeg) 4002 = true then ((mf_note fu 12 (G 6 (G 32 x1.toNatClampNeg).toNatClampNeg) F G).bind (fun q => mb_read_234 fu ag_127 x1 q.2.1 q.2.2)) else none) else none
def mb_read_207 (fu : Nat) (ag_127 : Int32 → PF → PG → PR) (x1 : Int32) (F : PF) (G : PG) : PR := if ixb x1 500 = true then (if (G 32 x1.toNatClampNeg) = (-1 : Int32) then mb_read_234 fu ag_127 x1 F G else mb_read_217 fu ag_127 x1 F G) else none
def mb_read_202 (fu : Nat) (ag_127 : Int32 → PF → PG → PR) (x1 : Int32) (F : PF) (G : PG) : PR := mb_read_207 fu ag_127 x1 (fup F 74 x1) G
def mb_read_199 (fu : Nat) (ag_127 : Int32 → PF → PG → PR) (x1 : Int32) (F : PF) (G : PG) : PR := mb_read_234 fu ag_127 x1 F G
def mb_read_194 (fu : Nat) (ag_127 : Int32 → PF → PG → PR) (x1 : Int32) (z0 : Int32) (F : PF) (G : PG) : PR := if z0 = (110 : Int32) then mb_read_202 fu ag_127 x1 F G else mb_read_199 fu ag_127 x1 F G
def mb_read_187 (fu : Nat) (ag_127 : Int32 → PF → PG → PR) (x1 : Int32) (x2 : Int32) (F : PF) (G : PG) : PR := (mf_at fu (x2 + (3 : Int32)) F G).bind (fun q => mb_read_194 fu ag_127 x1 q.1 q.2.1 q.2.2)
def mb_read_182 (fu : Nat) (ag_127 : Int32 → PF → PG → PR) (x1 : Int32) (x2 : Int32) (z0 : Int32) (F : PF) (G : PG) : PR := if z0 = (105 : Int32) then mb_read_187 fu ag_127 x1 x2 F G else mb_read_234 fu ag_127 x1 F G
def mb_read_175 (fu : Nat) (ag_127 : Int32 → PF → PG → PR) (x1 : Int32) (x2 : Int32) (F : PF) (G : PG) : PR := (mf_at fu (x2 + (2 : Int32)) F G).bind (fun q => mb_read_182 fu ag_127 x1 x2 q.1 q.2.1 q.2.2)
def mb_read_170 (fu : Nat) (ag_127 : Int32 → PF → PG → PR) (x1 : Int32) (x2 : Int32) (z0 : Int32) (F : PF) (G : PG) : PR := if z0 = (97 : Int32) then mb_read_175 fu ag_127 x1 x2 F G else mb_read_234 fu ag_127 x1 F G
def mb_read_163 (fu : Nat) (ag_127 : Int32 → PF → PG → PR) (x1 : Int32) (x2 : Int32) (F : PF) (G : PG) : PR := (mf_at fu (x2 + (1 : Int32)) F G).bind (fun q => mb_read_170 fu ag_127 x1 x2 q.1 q.2.1 q.2.2)
def mb_read_158 (fu : Nat) (ag_127 : Int32 → PF → PG → PR) (x1 : Int32) (x2 : Int32) (z0 : Int32) (F : PF) (G : PG) : PR := if z0 = (109 : Int32) then mb_read_163 fu ag_127 x1 x2 F G else mb_read_234 fu ag_127 x1 F G
def mb_read_153 (fu : Nat) (ag_127 : Int32 → PF → PG → PR) (x1 : Int32) (x2 : Int32) (F : PF) (G : PG) : PR := (mf_at fu x2 F G).bind (fun q => mb_read_158 fu ag_127 x1 x2 q.1 q.2.1 q.2.2)
def mb_read_131 (fu : Nat) (ag_127 : Int32 → PF → PG → PR) (x1 : Int32) (F : PF) (G : PG) : PR := if ixb x1 500 = true then (if ixb x1 500 = true then (if ixb (G 25 x1.toNatClampNeg) 2100 = true then (if (G 10 (G 25 x1.toNatClampNeg).toNatClampNeg) = (4 : Int32) then mb_read_153 fu ag_127 x1 (G 26 x1.toNatClampNeg) F G else mb_read_234 fu ag_127 x1 F G) else none) else none) else none
def mb_read_127 (fu : Nat) (ag_127 : Int32 → PF → PG → PR) (x1 : Int32) (F : PF) (G : PG) : PR := if x1 < (0 : Int32) then mb_read_240 fu F G else mb_read_131 fu ag_127 x1 F G
def ml_read_127 (fu : Nat) : Nat → Int32 → PF → PG → PR
  | 0 => fun _ _ _ => none
  | n + 1 => fun x1 F G => mb_read_127 fu (ml_read_127 fu n) x1 F G
def mb_read_120 (fu : Nat) (F : PF) (G : PG) : PR := ml_read_127 fu fu ((F 24) - (1 : Int32)) F G
def mb_read_114 (fu : Nat) (z0 : Int32) (F : PF) (G : PG) : PR := mb_read_120 fu (fup F 74 (-1 : Int32)) G
def mb_read_110 (fu : Nat) (F : PF) (G : PG) : PR := (mf_texts fu F G).bind (fun q => mb_read_114 fu q.1 q.2.1 q.2.2)
def mb_read_105 (fu : Nat) (F : PF) (G : PG) : PR := mb_read_110 fu (fup F 46 (1 : Int32)) G
def mb_read_92 (fu : Nat) (F : PF) (G : PG) : PR := some ((((16 : Int32) * (F 45)) + (F 44)), F, G)
def mb_read_89 (fu : Nat) (z0 : Int32) (F : PF) (G : PG) : PR := if z0 = (0 : Int32) then mb_read_92 fu F G else mb_read_105 fu F G
def mb_read_85 (fu : Nat) (F : PF) (G : PG) : PR := (mf_texts fu F G).bind (fun q => mb_read_89 fu q.1 q.2.1 q.2.2)
def mb_read_80 (fu : Nat) (F : PF) (G : PG) : PR := mb_read_85 fu (fup F 46 (0 : Int32)) G
def mb_read_76 (fu : Nat) (F : PF) (G : PG) : PR := (mf_cut fu F G).bind (fun q => mb_read_80 fu q.2.1 q.2.2)
def mb_read_71 (fu : Nat) (F : PF) (G : PG) : PR := mb_read_76 fu (fup F 54 (0 : Int32)) G
def mb_read_66 (fu : Nat) (F : PF) (G : PG) : PR := mb_read_71 fu (fup F 47 (0 : Int32)) G
def mb_read_61 (fu : Nat) (F : PF) (G : PG) : PR := mb_read_66 fu (fup F 44 (0 : Int32)) G
def mb_read_56 (fu : Nat) (F : PF) (G : PG) : PR := mb_read_61 fu (fup F 79 (0 : Int32)) G
def mb_read_51 (fu : Nat) (F : PF) (G : PG) : PR := mb_read_56 fu (fup F 80 (0 : Int32)) G
def mb_read_46 (fu : Nat) (F : PF) (G : PG) : PR := mb_read_51 fu (fup F 75 (0 : Int32)) G
def mb_read_41 (fu : Nat) (F : PF) (G : PG) : PR := mb_read_46 fu (fup F 73 (0 : Int32)) G
def mb_read_36 (fu : Nat) (F : PF) (G : PG) : PR := mb_read_41 fu (fup F 2 (0 : Int32)) G
def mb_read_30 (fu : Nat) (ag_10 : Int32 → PF → PG → PR) (x1 : Int32) (F : PF) (G : PG) : PR := ag_10 (x1 + 1) F G
def mb_read_18 (fu : Nat) (ag_10 : Int32 → PF → PG → PR) (x1 : Int32) (F : PF) (G : PG) : PR := if ixb x1 4000 = true then (if ixb x1 4000 = true then (mb_read_30 fu ag_10 x1 F (gup G 1 x1.toNatClampNeg (G 0 x1.toNatClampNeg))) else none) else none
def mb_read_10 (fu : Nat) (ag_10 : Int32 → PF → PG → PR) (x1 : Int32) (F : PF) (G : PG) : PR := if (F 3) ≤ x1 then mb_read_36 fu F G else mb_read_18 fu ag_10 x1 F G
def ml_read_10 (fu : Nat) : Nat → Int32 → PF → PG → PR
  | 0 => fun _ _ _ => none
  | n + 1 => fun x1 F G => mb_read_10 fu (ml_read_10 fu n) x1 F G
def mb_read_8 (fu : Nat) (F : PF) (G : PG) : PR := ml_read_10 fu fu 0 F G
def mb_read_0 (fu : Nat) (F : PF) (G : PG) : PR := mb_read_8 fu (fup F 3 (F 2)) G
def mf_read (fu : Nat) (F : PF) (G : PG) : PR := mb_read_0 fu F G
theorem mw_read_283 (fu : Nat) {res : Int32 × PF × PG} (C : mMC p R s m args c A v RX12 cX12_read 3 611 36251) (hret : ∀ (H1 : Heap) (locs1 : List Loc) (ls1 : Array Slot) (pc : Nat), mMW s A v a res.2.1 res.2.2 H1 locs1 → narrow .int (.int res.1) = .int res.1 → decode cX12_read pc = .ok (.ireturn, 1) → W p l e R s m args below meth c H1 locs1 0 0 Q (F0 m pc ls1 [.int res.1])) (F : PF) (G : PG) (hm : mb_read_283 fu F G = some res) {H : Heap} {locs : List Loc} (hw : mMW s A v a F G H locs) {ls : Array Slot} (hl : lv_has ls 3 []) : W p l e R s m args below meth c H locs 0 0 Q (F0 m 283 ls []) := by
  have hx := C.1
  have hb := C.2.1
  unfold mb_read_283 at hm
  refine lv_iconst (v := 0) hx hb dX12_read_283 (by decide) ?_
  obtain rfl := Option.some.inj hm
  exact hret _ _ _ _ hw rfl dX12_read_284
theorem mw_read_278 (fu : Nat) {res : Int32 × PF × PG} (C : mMC p R s m args c A v RX12 cX12_read 3 611 36251) (hret : ∀ (H1 : Heap) (locs1 : List Loc) (ls1 : Array Slot) (pc : Nat), mMW s A v a res.2.1 res.2.2 H1 locs1 → narrow .int (.int res.1) = .int res.1 → decode cX12_read pc = .ok (.ireturn, 1) → W p l e R s m args below meth c H1 locs1 0 0 Q (F0 m pc ls1 [.int res.1])) (F : PF) (G : PG) (hm : mb_read_278 fu F G = some res) {H : Heap} {locs : List Loc} (hw : mMW s A v a F G H locs) {ls : Array Slot} (hl : lv_has ls 3 [(0, .ref (a 212))]) : W p l e R s m args below meth c H locs 0 0 Q (F0 m 278 ls []) := by
  have hx := C.1
  have hb := C.2.1
  unfold mb_read_278 at hm
  refine lv_aload_n hx hb dX12_read_278 rfl (lv_at hl 0 rfl) ?_
  refine lv_iconst (v := 1) hx hb dX12_read_279 (by decide) ?_
  refine mp_X12_509 C hw (by decide) dX12_read_280 (fun H locs hw => ?_)
  exact mw_read_283 fu C hret (fup F 73 (1 : Int32)) G hm hw (lv_sub hl [] rfl)
theorem mw_read_265 (fu : Nat) {res : Int32 × PF × PG} (C : mMC p R s m args c A v RX12 cX12_read 3 611 36251) (hret : ∀ (H1 : Heap) (locs1 : List Loc) (ls1 : Array Slot) (pc : Nat), mMW s A v a res.2.1 res.2.2 H1 locs1 → narrow .int (.int res.1) = .int res.1 → decode cX12_read pc = .ok (.ireturn, 1) → W p l e R s m args below meth c H1 locs1 0 0 Q (F0 m pc ls1 [.int res.1])) (F : PF) (G : PG) (hm : mb_read_265 fu F G = some res) {H : Heap} {locs : List Loc} (hw : mMW s A v a F G H locs) {ls : Array Slot} (hl : lv_has ls 3 [(0, .ref (a 212))]) : W p l e R s m args below meth c H locs 0 0 Q (F0 m 265 ls []) := by
  have hx := C.1
  have hb := C.2.1
  unfold mb_read_265 at hm
  refine lv_bipush (v := 16) hx hb dX12_read_265 (by decide) ?_
  refine lv_aload_n hx hb dX12_read_267 rfl (lv_at hl 0 rfl) ?_
  refine mg_X12_251 C hw dX12_read_268 ?_
  refine lv_imul hx hb dX12_read_271 ?_
  refine lv_aload_n hx hb dX12_read_272 rfl (lv_at hl 0 rfl) ?_
  refine mg_X12_248 C hw dX12_read_273 ?_
  refine lv_iadd hx hb dX12_read_276 ?_
  obtain rfl := Option.some.inj hm
  exact hret _ _ _ _ hw rfl dX12_read_277
theorem mw_read_258 (fu : Nat) {res : Int32 × PF × PG} (C : mMC p R s m args c A v RX12 cX12_read 3 611 36251) (hret : ∀ (H1 : Heap) (locs1 : List Loc) (ls1 : Array Slot) (pc : Nat), mMW s A v a res.2.1 res.2.2 H1 locs1 → narrow .int (.int res.1) = .int res.1 → decode cX12_read pc = .ok (.ireturn, 1) → W p l e R s m args below meth c H1 locs1 0 0 Q (F0 m pc ls1 [.int res.1])) (F : PF) (G : PG) (hm : mb_read_258 fu F G = some res) {H : Heap} {locs : List Loc} (hw : mMW s A v a F G H locs) {ls : Array Slot} (hl : lv_has ls 3 [(0, .ref (a 212))]) : W p l e R s m args below meth c H locs 0 0 Q (F0 m 258 ls []) := by
  have hx := C.1
  have hb := C.2.1
  unfold mb_read_258 at hm
  refine lv_aload_n hx hb dX12_read_258 rfl (lv_at hl 0 rfl) ?_
  refine mg_X12_248 C hw dX12_read_259 ?_
  refine lv_if_le (tgt := 278) hx hb dX12_read_262 (by decide) (fun c_1 => ?_) (fun c_1 => ?_)
  · have hm := (if_pos c_1).symm.trans hm
    exact mw_read_278 fu C hret F G hm hw (lv_sub hl [0] rfl)
  · have hm := (if_neg c_1).symm.trans hm
    exact mw_read_265 fu C hret F G hm hw (lv_sub hl [0] rfl)
theorem mw_read_248 (fu : Nat) {res : Int32 × PF × PG} (C : mMC p R s m args c A v RX12 cX12_read 3 611 36251) (hret : ∀ (H1 : Heap) (locs1 : List Loc) (ls1 : Array Slot) (pc : Nat), mMW s A v a res.2.1 res.2.2 H1 locs1 → narrow .int (.int res.1) = .int res.1 → decode cX12_read pc = .ok (.ireturn, 1) → W p l e R s m args below meth c H1 locs1 0 0 Q (F0 m pc ls1 [.int res.1])) (F : PF) (G : PG) (hm : mb_read_248 fu F G = some res) {H : Heap} {locs : List Loc} (hw : mMW s A v a F G H locs) {ls : Array Slot} (hl : lv_has ls 3 [(0, .ref (a 212))]) : W p l e R s m args below meth c H locs 0 0 Q (F0 m 248 ls []) := by
  have hx := C.1
  have hb := C.2.1
  unfold mb_read_248 at hm
  refine lv_aload_n hx hb dX12_read_248 rfl (lv_at hl 0 rfl) ?_
  refine lv_bipush (v := 12) hx hb dX12_read_249 (by decide) ?_
  refine lv_aload_n hx hb dX12_read_251 rfl (lv_at hl 0 rfl) ?_
  refine mg_X12_157 C hw dX12_read_252 ?_
  obtain ⟨⟨r1, F1, G1⟩, hc, hm⟩ := bind_elim hm
  refine mcallV (n := 2) (As := [.int 12, .int (F 3)]) (rest := []) C hw (mk_note l v a _ fu 12 (F 3) F G r1 F1 G1 hc) (mrecv_X12 C hw) mm_220 mm_221 mm_222 mm_27 mm_223 (by decide +kernel) rfl (by omega) (by omega) hl.1 rfl (Nat.le_of_ble_eq_true rfl) dX12_read_255 (fun H locs hw => ?_)
  exact mw_read_258 fu C hret F1 G1 hm hw (lv_sub hl [0] rfl)
theorem mw_read_240 (fu : Nat) {res : Int32 × PF × PG} (C : mMC p R s m args c A v RX12 cX12_read 3 611 36251) (hret : ∀ (H1 : Heap) (locs1 : List Loc) (ls1 : Array Slot) (pc : Nat), mMW s A v a res.2.1 res.2.2 H1 locs1 → narrow .int (.int res.1) = .int res.1 → decode cX12_read pc = .ok (.ireturn, 1) → W p l e R s m args below meth c H1 locs1 0 0 Q (F0 m pc ls1 [.int res.1])) (F : PF) (G : PG) (hm : mb_read_240 fu F G = some res) {H : Heap} {locs : List Loc} (hw : mMW s A v a F G H locs) {ls : Array Slot} (hl : lv_has ls 3 [(0, .ref (a 212))]) : W p l e R s m args below meth c H locs 0 0 Q (F0 m 240 ls []) := by
  have hx := C.1
  have hb := C.2.1
  unfold mb_read_240 at hm
  refine lv_aload_n hx hb dX12_read_240 rfl (lv_at hl 0 rfl) ?_
  refine mg_X12_527 C hw dX12_read_241 ?_
  refine lv_iconst (v := (-1)) hx hb dX12_read_244 (by decide) ?_
  refine lv_icmp_ne (tgt := 258) hx hb dX12_read_245 (by decide) (fun c_1 => ?_) (fun c_1 => ?_)
  · have hm := (if_neg c_1).symm.trans hm
    exact mw_read_258 fu C hret F G hm hw (lv_sub hl [0] rfl)
  · have hm := (if_pos c_1).symm.trans hm
    exact mw_read_248 fu C hret F G hm hw (lv_sub hl [0] rfl)
theorem mw_read_234 (fu : Nat) {res : Int32 × PF × PG} (C : mMC p R s m args c A v RX12 cX12_read 3 611 36251) (hret : ∀ (H1 : Heap) (locs1 : List Loc) (ls1 : Array Slot) (pc : Nat), mMW s A v a res.2.1 res.2.2 H1 locs1 → narrow .int (.int res.1) = .int res.1 → decode cX12_read pc = .ok (.ireturn, 1) → W p l e R s m args below meth c H1 locs1 0 0 Q (F0 m pc ls1 [.int res.1])) (ag_127 : Int32 → PF → PG → PR) (hag_127 : ∀ (x1 : Int32) (F : PF) (G : PG), ag_127 x1 F G = some res → ∀ (H : Heap) (locs : List Loc) (ls : Array Slot), mMW s A v a F G H locs → lv_has ls 3 [(0, .ref (a 212)), (1, .int x1)] → W p l e R s m args below meth c H locs 0 0 Q (F0 m 127 ls [])) (x1 : Int32) (F : PF) (G : PG) (hm : mb_read_234 fu ag_127 x1 F G = some res) {H : Heap} {locs : List Loc} (hw : mMW s A v a F G H locs) {ls : Array Slot} (hl : lv_has ls 3 [(0, .ref (a 212)), (1, .int x1)]) : W p l e R s m args below meth c H locs 0 0 Q (F0 m 234 ls []) := by
  have hx := C.1
  have hb := C.2.1
  unfold mb_read_234 at hm
  refine lv_iinc (v := (x1 + (-1))) (lv' := [(1, .int (x1 + (-1))), (0, .ref (a 212))]) hx hb dX12_read_234 hl (k := 1) rfl (by rfl) (by decide) rfl (fun ls hl => ?_)
  refine lv_goto (tgt := 127) hx hb dX12_read_237 (by decide) ?_
  exact hag_127 (x1 + (-1)) F G hm _ _ _ hw (lv_sub hl [1, 0] rfl)
theorem mw_read_217 (fu : Nat) {res : Int32 × PF × PG} (C : mMC p R s m args c A v RX12 cX12_read 3 611 36251) (hret : ∀ (H1 : Heap) (locs1 : List Loc) (ls1 : Array Slot) (pc : Nat), mMW s A v a res.2.1 res.2.2 H1 locs1 → narrow .int (.int res.1) = .int res.1 → decode cX12_read pc = .ok (.ireturn, 1) → W p l e R s m args below meth c H1 locs1 0 0 Q (F0 m pc ls1 [.int res.1])) (ag_127 : Int32 → PF → PG → PR) (hag_127 : ∀ (x1 : Int32) (F : PF) (G : PG), ag_127 x1 F G = some res → ∀ (H : Heap) (locs : List Loc) (ls : Array Slot), mMW s A v a F G H locs → lv_has ls 3 [(0, .ref (a 212)), (1, .int x1)] → W p l e R s m args below meth c H locs 0 0 Q (F0 m 127 ls [])) (x1 : Int32) (F : PF) (G : PG) (hm : mb_read_217 fu ag_127 x1 F G = some res) {H : Heap} {locs : List Loc} (hw : mMW s A v a F G H locs) {ls : Array Slot} (hl : lv_has ls 3 [(0, .ref (a 212)), (1, .int x1)]) : W p l e R s m args below meth c H locs 0 0 Q (F0 m 217 ls []) := by
  have hx := C.1
  have hb := C.2.1
  unfold mb_read_217 at hm
  refine lv_aload_n hx hb dX12_read_217 rfl (lv_at hl 0 rfl) ?_
  refine lv_bipush (v := 12) hx hb dX12_read_218 (by decide) ?_
  refine lv_aload_n hx hb dX12_read_220 rfl (lv_at hl 0 rfl) ?_
  refine mg_X12_22 C hw dX12_read_221 ?_
  refine lv_aload_n hx hb dX12_read_224 rfl (lv_at hl 0 rfl) ?_
  refine mg_X12_83 C hw dX12_read_225 ?_
  refine lv_iload_n hx hb dX12_read_228 rfl (lv_at hl 1 rfl) ?_
  obtain ⟨hi, hm⟩ := ix_elim hm
  refine mal_32 C hw hi dX12_read_229 ?_
  obtain ⟨hi, hm⟩ := ix_elim hm
  refine mal_6 C hw hi dX12_read_230 ?_
  obtain ⟨⟨r1, F1, G1⟩, hc, hm⟩ := bind_elim hm
  refine mcallV (n := 2) (As := [.int 12, .int (G 6 (G 32 x1.toNatClampNeg).toNatClampNeg)]) (rest := []) C hw (mk_note l v a _ fu 12 (G 6 (G 32 x1.toNatClampNeg).toNatClampNeg) F G r1 F1 G1 hc) (mrecv_X12 C hw) mm_220 mm_221 mm_222 mm_27 mm_223 (by decide +kernel) rfl (by omega) (by omega) hl.1 rfl (Nat.le_of_ble_eq_true rfl) dX12_read_231 (fun H locs hw => ?_)
  exact mw_read_234 fu C hret ag_127 hag_127 x1 F1 G1 hm hw (lv_sub hl [0, 1] rfl)
theorem mw_read_207 (fu : Nat) {res : Int32 × PF × PG} (C : mMC p R s m args c A v RX12 cX12_read 3 611 36251) (hret : ∀ (H1 : Heap) (locs1 : List Loc) (ls1 : Array Slot) (pc : Nat), mMW s A v a res.2.1 res.2.2 H1 locs1 → narrow .int (.int res.1) = .int res.1 → decode cX12_read pc = .ok (.ireturn, 1) → W p l e R s m args below meth c H1 locs1 0 0 Q (F0 m pc ls1 [.int res.1])) (ag_127 : Int32 → PF → PG → PR) (hag_127 : ∀ (x1 : Int32) (F : PF) (G : PG), ag_127 x1 F G = some res → ∀ (H : Heap) (locs : List Loc) (ls : Array Slot), mMW s A v a F G H locs → lv_has ls 3 [(0, .ref (a 212)), (1, .int x1)] → W p l e R s m args below meth c H locs 0 0 Q (F0 m 127 ls [])) (x1 : Int32) (F : PF) (G : PG) (hm : mb_read_207 fu ag_127 x1 F G = some res) {H : Heap} {locs : List Loc} (hw : mMW s A v a F G H locs) {ls : Array Slot} (hl : lv_has ls 3 [(0, .ref (a 212)), (1, .int x1)]) : W p l e R s m args below meth c H locs 0 0 Q (F0 m 207 ls []) := by
  have hx := C.1
  have hb := C.2.1
  unfold mb_read_207 at hm
  refine lv_aload_n hx hb dX12_read_207 rfl (lv_at hl 0 rfl) ?_
  refine mg_X12_83 C hw dX12_read_208 ?_
  refine lv_iload_n hx hb dX12_read_211 rfl (lv_at hl 1 rfl) ?_
  obtain ⟨hi, hm⟩ := ix_elim hm
  refine mal_32 C hw hi dX12_read_212 ?_
  refine lv_iconst (v := (-1)) hx hb dX12_read_213 (by decide) ?_
  refine lv_icmp_eq (tgt := 234) hx hb dX12_read_214 (by decide) (fun c_1 => ?_) (fun c_1 => ?_)
  · have hm := (if_pos c_1).symm.trans hm
    exact mw_read_234 fu C hret ag_127 hag_127 x1 F G hm hw (lv_sub hl [0, 1] rfl)
  · have hm := (if_neg c_1).symm.trans hm
    exact mw_read_217 fu C hret ag_127 hag_127 x1 F G hm hw (lv_sub hl [0, 1] rfl)
theorem mw_read_202 (fu : Nat) {res : Int32 × PF × PG} (C : mMC p R s m args c A v RX12 cX12_read 3 611 36251) (hret : ∀ (H1 : Heap) (locs1 : List Loc) (ls1 : Array Slot) (pc : Nat), mMW s A v a res.2.1 res.2.2 H1 locs1 → narrow .int (.int res.1) = .int res.1 → decode cX12_read pc = .ok (.ireturn, 1) → W p l e R s m args below meth c H1 locs1 0 0 Q (F0 m pc ls1 [.int res.1])) (ag_127 : Int32 → PF → PG → PR) (hag_127 : ∀ (x1 : Int32) (F : PF) (G : PG), ag_127 x1 F G = some res → ∀ (H : Heap) (locs : List Loc) (ls : Array Slot), mMW s A v a F G H locs → lv_has ls 3 [(0, .ref (a 212)), (1, .int x1)] → W p l e R s m args below meth c H locs 0 0 Q (F0 m 127 ls [])) (x1 : Int32) (F : PF) (G : PG) (hm : mb_read_202 fu ag_127 x1 F G = some res) {H : Heap} {locs : List Loc} (hw : mMW s A v a F G H locs) {ls : Array Slot} (hl : lv_has ls 3 [(0, .ref (a 212)), (1, .int x1)]) : W p l e R s m args below meth c H locs 0 0 Q (F0 m 202 ls []) := by
  have hx := C.1
  have hb := C.2.1
  unfold mb_read_202 at hm
  refine lv_aload_n hx hb dX12_read_202 rfl (lv_at hl 0 rfl) ?_
  refine lv_iload_n hx hb dX12_read_203 rfl (lv_at hl 1 rfl) ?_
  refine mp_X12_527 C hw dX12_read_204 (fun H locs hw => ?_)
  exact mw_read_207 fu C hret ag_127 hag_127 x1 (fup F 74 x1) G hm hw (lv_sub hl [0, 1] rfl)
theorem mw_read_199 (fu : Nat) {res : Int32 × PF × PG} (C : mMC p R s m args c A v RX12 cX12_read 3 611 36251) (hret : ∀ (H1 : Heap) (locs1 : List Loc) (ls1 : Array Slot) (pc : Nat), mMW s A v a res.2.1 res.2.2 H1 locs1 → narrow .int (.int res.1) = .int res.1 → decode cX12_read pc = .ok (.ireturn, 1) → W p l e R s m args below meth c H1 locs1 0 0 Q (F0 m pc ls1 [.int res.1])) (ag_127 : Int32 → PF → PG → PR) (hag_127 : ∀ (x1 : Int32) (F : PF) (G : PG), ag_127 x1 F G = some res → ∀ (H : Heap) (locs : List Loc) (ls : Array Slot), mMW s A v a F G H locs → lv_has ls 3 [(0, .ref (a 212)), (1, .int x1)] → W p l e R s m args below meth c H locs 0 0 Q (F0 m 127 ls [])) (x1 : Int32) (F : PF) (G : PG) (hm : mb_read_199 fu ag_127 x1 F G = some res) {H : Heap} {locs : List Loc} (hw : mMW s A v a F G H locs) {ls : Array Slot} (hl : lv_has ls 3 [(0, .ref (a 212)), (1, .int x1)]) : W p l e R s m args below meth c H locs 0 0 Q (F0 m 199 ls []) := by
  have hx := C.1
  have hb := C.2.1
  unfold mb_read_199 at hm
  refine lv_goto (tgt := 234) hx hb dX12_read_199 (by decide) ?_
  exact mw_read_234 fu C hret ag_127 hag_127 x1 F G hm hw (lv_sub hl [0, 1] rfl)
theorem mw_read_194 (fu : Nat) {res : Int32 × PF × PG} (C : mMC p R s m args c A v RX12 cX12_read 3 611 36251) (hret : ∀ (H1 : Heap) (locs1 : List Loc) (ls1 : Array Slot) (pc : Nat), mMW s A v a res.2.1 res.2.2 H1 locs1 → narrow .int (.int res.1) = .int res.1 → decode cX12_read pc = .ok (.ireturn, 1) → W p l e R s m args below meth c H1 locs1 0 0 Q (F0 m pc ls1 [.int res.1])) (ag_127 : Int32 → PF → PG → PR) (hag_127 : ∀ (x1 : Int32) (F : PF) (G : PG), ag_127 x1 F G = some res → ∀ (H : Heap) (locs : List Loc) (ls : Array Slot), mMW s A v a F G H locs → lv_has ls 3 [(0, .ref (a 212)), (1, .int x1)] → W p l e R s m args below meth c H locs 0 0 Q (F0 m 127 ls [])) (x1 : Int32) (z0 : Int32) (F : PF) (G : PG) (hm : mb_read_194 fu ag_127 x1 z0 F G = some res) {H : Heap} {locs : List Loc} (hw : mMW s A v a F G H locs) {ls : Array Slot} (hl : lv_has ls 3 [(0, .ref (a 212)), (1, .int x1)]) : W p l e R s m args below meth c H locs 0 0 Q (F0 m 194 ls [.int z0]) := by
  have hx := C.1
  have hb := C.2.1
  unfold mb_read_194 at hm
  refine lv_bipush (v := 110) hx hb dX12_read_194 (by decide) ?_
  refine lv_icmp_eq (tgt := 202) hx hb dX12_read_196 (by decide) (fun c_1 => ?_) (fun c_1 => ?_)
  · have hm := (if_pos c_1).symm.trans hm
    exact mw_read_202 fu C hret ag_127 hag_127 x1 F G hm hw (lv_sub hl [0, 1] rfl)
  · have hm := (if_neg c_1).symm.trans hm
    exact mw_read_199 fu C hret ag_127 hag_127 x1 F G hm hw (lv_sub hl [0, 1] rfl)
theorem mw_read_187 (fu : Nat) {res : Int32 × PF × PG} (C : mMC p R s m args c A v RX12 cX12_read 3 611 36251) (hret : ∀ (H1 : Heap) (locs1 : List Loc) (ls1 : Array Slot) (pc : Nat), mMW s A v a res.2.1 res.2.2 H1 locs1 → narrow .int (.int res.1) = .int res.1 → decode cX12_read pc = .ok (.ireturn, 1) → W p l e R s m args below meth c H1 locs1 0 0 Q (F0 m pc ls1 [.int res.1])) (ag_127 : Int32 → PF → PG → PR) (hag_127 : ∀ (x1 : Int32) (F : PF) (G : PG), ag_127 x1 F G = some res → ∀ (H : Heap) (locs : List Loc) (ls : Array Slot), mMW s A v a F G H locs → lv_has ls 3 [(0, .ref (a 212)), (1, .int x1)] → W p l e R s m args below meth c H locs 0 0 Q (F0 m 127 ls [])) (x1 : Int32) (x2 : Int32) (F : PF) (G : PG) (hm : mb_read_187 fu ag_127 x1 x2 F G = some res) {H : Heap} {locs : List Loc} (hw : mMW s A v a F G H locs) {ls : Array Slot} (hl : lv_has ls 3 [(0, .ref (a 212)), (1, .int x1), (2, .int x2)]) : W p l e R s m args below meth c H locs 0 0 Q (F0 m 187 ls []) := by
  have hx := C.1
  have hb := C.2.1
  unfold mb_read_187 at hm
  refine lv_aload_n hx hb dX12_read_187 rfl (lv_at hl 0 rfl) ?_
  refine lv_iload_n hx hb dX12_read_188 rfl (lv_at hl 2 rfl) ?_
  refine lv_iconst (v := 3) hx hb dX12_read_189 (by decide) ?_
  refine lv_iadd hx hb dX12_read_190 ?_
  obtain ⟨⟨r1, F1, G1⟩, hc, hm⟩ := bind_elim hm
  refine mcallI (n := 1) (As := [.int (x2 + (3 : Int32))]) (rest := []) C hw (mk_at l v a _ fu (x2 + (3 : Int32)) F G r1 F1 G1 hc) (mrecv_X12 C hw) mm_38 mm_39 mm_40 mm_27 mm_41 (by decide +kernel) rfl (by omega) (by omega) hl.1 rfl (Nat.le_of_ble_eq_true rfl) dX12_read_191 (fun H locs hw => ?_)
  exact mw_read_194 fu C hret ag_127 hag_127 x1 r1 F1 G1 hm hw (lv_sub hl [0, 1] rfl)
theorem mw_read_182 (fu : Nat) {res : Int32 × PF × PG} (C : mMC p R s m args c A v RX12 cX12_read 3 611 36251) (hret : ∀ (H1 : Heap) (locs1 : List Loc) (ls1 : Array Slot) (pc : Nat), mMW s A v a res.2.1 res.2.2 H1 locs1 → narrow .int (.int res.1) = .int res.1 → decode cX12_read pc = .ok (.ireturn, 1) → W p l e R s m args below meth c H1 locs1 0 0 Q (F0 m pc ls1 [.int res.1])) (ag_127 : Int32 → PF → PG → PR) (hag_127 : ∀ (x1 : Int32) (F : PF) (G : PG), ag_127 x1 F G = some res → ∀ (H : Heap) (locs : List Loc) (ls : Array Slot), mMW s A v a F G H locs → lv_has ls 3 [(0, .ref (a 212)), (1, .int x1)] → W p l e R s m args below meth c H locs 0 0 Q (F0 m 127 ls [])) (x1 : Int32) (x2 : Int32) (z0 : Int32) (F : PF) (G : PG) (hm : mb_read_182 fu ag_127 x1 x2 z0 F G = some res) {H : Heap} {locs : List Loc} (hw : mMW s A v a F G H locs) {ls : Array Slot} (hl : lv_has ls 3 [(0, .ref (a 212)), (1, .int x1), (2, .int x2)]) : W p l e R s m args below meth c H locs 0 0 Q (F0 m 182 ls [.int z0]) := by
  have hx := C.1
  have hb := C.2.1
  unfold mb_read_182 at hm
  refine lv_bipush (v := 105) hx hb dX12_read_182 (by decide) ?_
  refine lv_icmp_ne (tgt := 234) hx hb dX12_read_184 (by decide) (fun c_1 => ?_) (fun c_1 => ?_)
  · have hm := (if_neg c_1).symm.trans hm
    exact mw_read_234 fu C hret ag_127 hag_127 x1 F G hm hw (lv_sub hl [0, 1] rfl)
  · have hm := (if_pos c_1).symm.trans hm
    exact mw_read_187 fu C hret ag_127 hag_127 x1 x2 F G hm hw (lv_sub hl [0, 1, 2] rfl)
theorem mw_read_175 (fu : Nat) {res : Int32 × PF × PG} (C : mMC p R s m args c A v RX12 cX12_read 3 611 36251) (hret : ∀ (H1 : Heap) (locs1 : List Loc) (ls1 : Array Slot) (pc : Nat), mMW s A v a res.2.1 res.2.2 H1 locs1 → narrow .int (.int res.1) = .int res.1 → decode cX12_read pc = .ok (.ireturn, 1) → W p l e R s m args below meth c H1 locs1 0 0 Q (F0 m pc ls1 [.int res.1])) (ag_127 : Int32 → PF → PG → PR) (hag_127 : ∀ (x1 : Int32) (F : PF) (G : PG), ag_127 x1 F G = some res → ∀ (H : Heap) (locs : List Loc) (ls : Array Slot), mMW s A v a F G H locs → lv_has ls 3 [(0, .ref (a 212)), (1, .int x1)] → W p l e R s m args below meth c H locs 0 0 Q (F0 m 127 ls [])) (x1 : Int32) (x2 : Int32) (F : PF) (G : PG) (hm : mb_read_175 fu ag_127 x1 x2 F G = some res) {H : Heap} {locs : List Loc} (hw : mMW s A v a F G H locs) {ls : Array Slot} (hl : lv_has ls 3 [(0, .ref (a 212)), (1, .int x1), (2, .int x2)]) : W p l e R s m args below meth c H locs 0 0 Q (F0 m 175 ls []) := by
  have hx := C.1
  have hb := C.2.1
  unfold mb_read_175 at hm
  refine lv_aload_n hx hb dX12_read_175 rfl (lv_at hl 0 rfl) ?_
  refine lv_iload_n hx hb dX12_read_176 rfl (lv_at hl 2 rfl) ?_
  refine lv_iconst (v := 2) hx hb dX12_read_177 (by decide) ?_
  refine lv_iadd hx hb dX12_read_178 ?_
  obtain ⟨⟨r1, F1, G1⟩, hc, hm⟩ := bind_elim hm
  refine mcallI (n := 1) (As := [.int (x2 + (2 : Int32))]) (rest := []) C hw (mk_at l v a _ fu (x2 + (2 : Int32)) F G r1 F1 G1 hc) (mrecv_X12 C hw) mm_38 mm_39 mm_40 mm_27 mm_41 (by decide +kernel) rfl (by omega) (by omega) hl.1 rfl (Nat.le_of_ble_eq_true rfl) dX12_read_179 (fun H locs hw => ?_)
  exact mw_read_182 fu C hret ag_127 hag_127 x1 x2 r1 F1 G1 hm hw (lv_sub hl [0, 1, 2] rfl)
theorem mw_read_170 (fu : Nat) {res : Int32 × PF × PG} (C : mMC p R s m args c A v RX12 cX12_read 3 611 36251) (hret : ∀ (H1 : Heap) (locs1 : List Loc) (ls1 : Array Slot) (pc : Nat), mMW s A v a res.2.1 res.2.2 H1 locs1 → narrow .int (.int res.1) = .int res.1 → decode cX12_read pc = .ok (.ireturn, 1) → W p l e R s m args below meth c H1 locs1 0 0 Q (F0 m pc ls1 [.int res.1])) (ag_127 : Int32 → PF → PG → PR) (hag_127 : ∀ (x1 : Int32) (F : PF) (G : PG), ag_127 x1 F G = some res → ∀ (H : Heap) (locs : List Loc) (ls : Array Slot), mMW s A v a F G H locs → lv_has ls 3 [(0, .ref (a 212)), (1, .int x1)] → W p l e R s m args below meth c H locs 0 0 Q (F0 m 127 ls [])) (x1 : Int32) (x2 : Int32) (z0 : Int32) (F : PF) (G : PG) (hm : mb_read_170 fu ag_127 x1 x2 z0 F G = some res) {H : Heap} {locs : List Loc} (hw : mMW s A v a F G H locs) {ls : Array Slot} (hl : lv_has ls 3 [(0, .ref (a 212)), (1, .int x1), (2, .int x2)]) : W p l e R s m args below meth c H locs 0 0 Q (F0 m 170 ls [.int z0]) := by
  have hx := C.1
  have hb := C.2.1
  unfold mb_read_170 at hm
  refine lv_bipush (v := 97) hx hb dX12_read_170 (by decide) ?_
  refine lv_icmp_ne (tgt := 234) hx hb dX12_read_172 (by decide) (fun c_1 => ?_) (fun c_1 => ?_)
  · have hm := (if_neg c_1).symm.trans hm
    exact mw_read_234 fu C hret ag_127 hag_127 x1 F G hm hw (lv_sub hl [0, 1] rfl)
  · have hm := (if_pos c_1).symm.trans hm
    exact mw_read_175 fu C hret ag_127 hag_127 x1 x2 F G hm hw (lv_sub hl [0, 1, 2] rfl)
theorem mw_read_163 (fu : Nat) {res : Int32 × PF × PG} (C : mMC p R s m args c A v RX12 cX12_read 3 611 36251) (hret : ∀ (H1 : Heap) (locs1 : List Loc) (ls1 : Array Slot) (pc : Nat), mMW s A v a res.2.1 res.2.2 H1 locs1 → narrow .int (.int res.1) = .int res.1 → decode cX12_read pc = .ok (.ireturn, 1) → W p l e R s m args below meth c H1 locs1 0 0 Q (F0 m pc ls1 [.int res.1])) (ag_127 : Int32 → PF → PG → PR) (hag_127 : ∀ (x1 : Int32) (F : PF) (G : PG), ag_127 x1 F G = some res → ∀ (H : Heap) (locs : List Loc) (ls : Array Slot), mMW s A v a F G H locs → lv_has ls 3 [(0, .ref (a 212)), (1, .int x1)] → W p l e R s m args below meth c H locs 0 0 Q (F0 m 127 ls [])) (x1 : Int32) (x2 : Int32) (F : PF) (G : PG) (hm : mb_read_163 fu ag_127 x1 x2 F G = some res) {H : Heap} {locs : List Loc} (hw : mMW s A v a F G H locs) {ls : Array Slot} (hl : lv_has ls 3 [(0, .ref (a 212)), (1, .int x1), (2, .int x2)]) : W p l e R s m args below meth c H locs 0 0 Q (F0 m 163 ls []) := by
  have hx := C.1
  have hb := C.2.1
  unfold mb_read_163 at hm
  refine lv_aload_n hx hb dX12_read_163 rfl (lv_at hl 0 rfl) ?_
  refine lv_iload_n hx hb dX12_read_164 rfl (lv_at hl 2 rfl) ?_
  refine lv_iconst (v := 1) hx hb dX12_read_165 (by decide) ?_
  refine lv_iadd hx hb dX12_read_166 ?_
  obtain ⟨⟨r1, F1, G1⟩, hc, hm⟩ := bind_elim hm
  refine mcallI (n := 1) (As := [.int (x2 + (1 : Int32))]) (rest := []) C hw (mk_at l v a _ fu (x2 + (1 : Int32)) F G r1 F1 G1 hc) (mrecv_X12 C hw) mm_38 mm_39 mm_40 mm_27 mm_41 (by decide +kernel) rfl (by omega) (by omega) hl.1 rfl (Nat.le_of_ble_eq_true rfl) dX12_read_167 (fun H locs hw => ?_)
  exact mw_read_170 fu C hret ag_127 hag_127 x1 x2 r1 F1 G1 hm hw (lv_sub hl [0, 1, 2] rfl)
theorem mw_read_158 (fu : Nat) {res : Int32 × PF × PG} (C : mMC p R s m args c A v RX12 cX12_read 3 611 36251) (hret : ∀ (H1 : Heap) (locs1 : List Loc) (ls1 : Array Slot) (pc : Nat), mMW s A v a res.2.1 res.2.2 H1 locs1 → narrow .int (.int res.1) = .int res.1 → decode cX12_read pc = .ok (.ireturn, 1) → W p l e R s m args below meth c H1 locs1 0 0 Q (F0 m pc ls1 [.int res.1])) (ag_127 : Int32 → PF → PG → PR) (hag_127 : ∀ (x1 : Int32) (F : PF) (G : PG), ag_127 x1 F G = some res → ∀ (H : Heap) (locs : List Loc) (ls : Array Slot), mMW s A v a F G H locs → lv_has ls 3 [(0, .ref (a 212)), (1, .int x1)] → W p l e R s m args below meth c H locs 0 0 Q (F0 m 127 ls [])) (x1 : Int32) (x2 : Int32) (z0 : Int32) (F : PF) (G : PG) (hm : mb_read_158 fu ag_127 x1 x2 z0 F G = some res) {H : Heap} {locs : List Loc} (hw : mMW s A v a F G H locs) {ls : Array Slot} (hl : lv_has ls 3 [(0, .ref (a 212)), (1, .int x1), (2, .int x2)]) : W p l e R s m args below meth c H locs 0 0 Q (F0 m 158 ls [.int z0]) := by
  have hx := C.1
  have hb := C.2.1
  unfold mb_read_158 at hm
  refine lv_bipush (v := 109) hx hb dX12_read_158 (by decide) ?_
  refine lv_icmp_ne (tgt := 234) hx hb dX12_read_160 (by decide) (fun c_1 => ?_) (fun c_1 => ?_)
  · have hm := (if_neg c_1).symm.trans hm
    exact mw_read_234 fu C hret ag_127 hag_127 x1 F G hm hw (lv_sub hl [0, 1] rfl)
  · have hm := (if_pos c_1).symm.trans hm
    exact mw_read_163 fu C hret ag_127 hag_127 x1 x2 F G hm hw (lv_sub hl [0, 1, 2] rfl)
theorem mw_read_153 (fu : Nat) {res : Int32 × PF × PG} (C : mMC p R s m args c A v RX12 cX12_read 3 611 36251) (hret : ∀ (H1 : Heap) (locs1 : List Loc) (ls1 : Array Slot) (pc : Nat), mMW s A v a res.2.1 res.2.2 H1 locs1 → narrow .int (.int res.1) = .int res.1 → decode cX12_read pc = .ok (.ireturn, 1) → W p l e R s m args below meth c H1 locs1 0 0 Q (F0 m pc ls1 [.int res.1])) (ag_127 : Int32 → PF → PG → PR) (hag_127 : ∀ (x1 : Int32) (F : PF) (G : PG), ag_127 x1 F G = some res → ∀ (H : Heap) (locs : List Loc) (ls : Array Slot), mMW s A v a F G H locs → lv_has ls 3 [(0, .ref (a 212)), (1, .int x1)] → W p l e R s m args below meth c H locs 0 0 Q (F0 m 127 ls [])) (x1 : Int32) (x2 : Int32) (F : PF) (G : PG) (hm : mb_read_153 fu ag_127 x1 x2 F G = some res) {H : Heap} {locs : List Loc} (hw : mMW s A v a F G H locs) {ls : Array Slot} (hl : lv_has ls 3 [(0, .ref (a 212)), (1, .int x1), (2, .int x2)]) : W p l e R s m args below meth c H locs 0 0 Q (F0 m 153 ls []) := by
  have hx := C.1
  have hb := C.2.1
  unfold mb_read_153 at hm
  refine lv_aload_n hx hb dX12_read_153 rfl (lv_at hl 0 rfl) ?_
  refine lv_iload_n hx hb dX12_read_154 rfl (lv_at hl 2 rfl) ?_
  obtain ⟨⟨r1, F1, G1⟩, hc, hm⟩ := bind_elim hm
  refine mcallI (n := 1) (As := [.int x2]) (rest := []) C hw (mk_at l v a _ fu x2 F G r1 F1 G1 hc) (mrecv_X12 C hw) mm_38 mm_39 mm_40 mm_27 mm_41 (by decide +kernel) rfl (by omega) (by omega) hl.1 rfl (Nat.le_of_ble_eq_true rfl) dX12_read_155 (fun H locs hw => ?_)
  exact mw_read_158 fu C hret ag_127 hag_127 x1 x2 r1 F1 G1 hm hw (lv_sub hl [0, 1, 2] rfl)
theorem mw_read_131 (fu : Nat) {res : Int32 × PF × PG} (C : mMC p R s m args c A v RX12 cX12_read 3 611 36251) (hret : ∀ (H1 : Heap) (locs1 : List Loc) (ls1 : Array Slot) (pc : Nat), mMW s A v a res.2.1 res.2.2 H1 locs1 → narrow .int (.int res.1) = .int res.1 → decode cX12_read pc = .ok (.ireturn, 1) → W p l e R s m args below meth c H1 locs1 0 0 Q (F0 m pc ls1 [.int res.1])) (ag_127 : Int32 → PF → PG → PR) (hag_127 : ∀ (x1 : Int32) (F : PF) (G : PG), ag_127 x1 F G = some res → ∀ (H : Heap) (locs : List Loc) (ls : Array Slot), mMW s A v a F G H locs → lv_has ls 3 [(0, .ref (a 212)), (1, .int x1)] → W p l e R s m args below meth c H locs 0 0 Q (F0 m 127 ls [])) (x1 : Int32) (F : PF) (G : PG) (hm : mb_read_131 fu ag_127 x1 F G = some res) {H : Heap} {locs : List Loc} (hw : mMW s A v a F G H locs) {ls : Array Slot} (hl : lv_has ls 3 [(0, .ref (a 212)), (1, .int x1)]) : W p l e R s m args below meth c H locs 0 0 Q (F0 m 131 ls []) := by
  have hx := C.1
  have hb := C.2.1
  unfold mb_read_131 at hm
  refine lv_aload_n hx hb dX12_read_131 rfl (lv_at hl 0 rfl) ?_
  refine mg_X12_65 C hw dX12_read_132 ?_
  refine lv_iload_n hx hb dX12_read_135 rfl (lv_at hl 1 rfl) ?_
  obtain ⟨hi, hm⟩ := ix_elim hm
  refine mal_26 C hw hi dX12_read_136 ?_
  refine lv_istore_n (lv' := [(2, .int (G 26 x1.toNatClampNeg)), (0, .ref (a 212)), (1, .int x1)]) hx hb dX12_read_137 rfl hl (by decide) rfl (fun ls hl => ?_)
  refine lv_aload_n hx hb dX12_read_138 rfl (lv_at hl 1 rfl) ?_
  refine mg_X12_28 C hw dX12_read_139 ?_
  refine lv_aload_n hx hb dX12_read_142 rfl (lv_at hl 1 rfl) ?_
  refine mg_X12_62 C hw dX12_read_143 ?_
  refine lv_iload_n hx hb dX12_read_146 rfl (lv_at hl 2 rfl) ?_
  obtain ⟨hi, hm⟩ := ix_elim hm
  refine mal_25 C hw hi dX12_read_147 ?_
  obtain ⟨hi, hm⟩ := ix_elim hm
  refine mal_10 C hw hi dX12_read_148 ?_
  refine lv_iconst (v := 4) hx hb dX12_read_149 (by decide) ?_
  refine lv_icmp_ne (tgt := 234) hx hb dX12_read_150 (by decide) (fun c_1 => ?_) (fun c_1 => ?_)
  · have hm := (if_neg c_1).symm.trans hm
    exact mw_read_234 fu C hret ag_127 hag_127 x1 F G hm hw (lv_sub hl [1, 2] rfl)
  · have hm := (if_pos c_1).symm.trans hm
    exact mw_read_153 fu C hret ag_127 hag_127 x1 (G 26 x1.toNatClampNeg) F G hm hw (lv_sub hl [1, 2, 0] rfl)
theorem mw_read_127 (fu : Nat) {res : Int32 × PF × PG} (C : mMC p R s m args c A v RX12 cX12_read 3 611 36251) (hret : ∀ (H1 : Heap) (locs1 : List Loc) (ls1 : Array Slot) (pc : Nat), mMW s A v a res.2.1 res.2.2 H1 locs1 → narrow .int (.int res.1) = .int res.1 → decode cX12_read pc = .ok (.ireturn, 1) → W p l e R s m args below meth c H1 locs1 0 0 Q (F0 m pc ls1 [.int res.1])) (ag_127 : Int32 → PF → PG → PR) (hag_127 : ∀ (x1 : Int32) (F : PF) (G : PG), ag_127 x1 F G = some res → ∀ (H : Heap) (locs : List Loc) (ls : Array Slot), mMW s A v a F G H locs → lv_has ls 3 [(0, .ref (a 212)), (1, .int x1)] → W p l e R s m args below meth c H locs 0 0 Q (F0 m 127 ls [])) (x1 : Int32) (F : PF) (G : PG) (hm : mb_read_127 fu ag_127 x1 F G = some res) {H : Heap} {locs : List Loc} (hw : mMW s A v a F G H locs) {ls : Array Slot} (hl : lv_has ls 3 [(0, .ref (a 212)), (1, .int x1)]) : W p l e R s m args below meth c H locs 0 0 Q (F0 m 127 ls []) := by
  have hx := C.1
  have hb := C.2.1
  unfold mb_read_127 at hm
  refine lv_iload_n hx hb dX12_read_127 rfl (lv_at hl 1 rfl) ?_
  refine lv_if_lt (tgt := 240) hx hb dX12_read_128 (by decide) (fun c_1 => ?_) (fun c_1 => ?_)
  · have hm := (if_pos c_1).symm.trans hm
    exact mw_read_240 fu C hret F G hm hw (lv_sub hl [0] rfl)
  · have hm := (if_neg c_1).symm.trans hm
    exact mw_read_131 fu C hret ag_127 hag_127 x1 F G hm hw (lv_sub hl [0, 1] rfl)
theorem mwl_read_127 (fu : Nat) {res : Int32 × PF × PG} (C : mMC p R s m args c A v RX12 cX12_read 3 611 36251) (hret : ∀ (H1 : Heap) (locs1 : List Loc) (ls1 : Array Slot) (pc : Nat), mMW s A v a res.2.1 res.2.2 H1 locs1 → narrow .int (.int res.1) = .int res.1 → decode cX12_read pc = .ok (.ireturn, 1) → W p l e R s m args below meth c H1 locs1 0 0 Q (F0 m pc ls1 [.int res.1])) : ∀ (n : Nat) (x1 : Int32) (F : PF) (G : PG) (hm : ml_read_127 fu n x1 F G = some res) {H : Heap} {locs : List Loc} (hw : mMW s A v a F G H locs) {ls : Array Slot} (hl : lv_has ls 3 [(0, .ref (a 212)), (1, .int x1)]), W p l e R s m args below meth c H locs 0 0 Q (F0 m 127 ls []) := by
  intro n
  induction n with
  | zero =>
    intro x1 F G hm
    exact no_elim (show (none : PR) = some res from hm)
  | succ n ih =>
    intro x1 F G hm H locs hw ls hl
    exact mw_read_127 fu C hret (ml_read_127 fu n) (fun x1 F G hm H locs ls hw hl => ih x1 F G hm hw hl) x1 F G hm hw hl
theorem mw_read_120 (fu : Nat) {res : Int32 × PF × PG} (C : mMC p R s m args c A v RX12 cX12_read 3 611 36251) (hret : ∀ (H1 : Heap) (locs1 : List Loc) (ls1 : Array Slot) (pc : Nat), mMW s A v a res.2.1 res.2.2 H1 locs1 → narrow .int (.int res.1) = .int res.1 → decode cX12_read pc = .ok (.ireturn, 1) → W p l e R s m args below meth c H1 locs1 0 0 Q (F0 m pc ls1 [.int res.1])) (F : PF) (G : PG) (hm : mb_read_120 fu F G = some res) {H : Heap} {locs : List Loc} (hw : mMW s A v a F G H locs) {ls : Array Slot} (hl : lv_has ls 3 [(0, .ref (a 212))]) : W p l e R s m args below meth c H locs 0 0 Q (F0 m 120 ls []) := by
  have hx := C.1
  have hb := C.2.1
  unfold mb_read_120 at hm
  refine lv_aload_n hx hb dX12_read_120 rfl (lv_at hl 0 rfl) ?_
  refine mg_X12_297 C hw dX12_read_121 ?_
  refine lv_iconst (v := 1) hx hb dX12_read_124 (by decide) ?_
  refine lv_isub hx hb dX12_read_125 ?_
  refine lv_istore_n (lv' := [(1, .int ((F 24) - (1 : Int32))), (0, .ref (a 212))]) hx hb dX12_read_126 rfl hl (by decide) rfl (fun ls hl => ?_)
  exact mwl_read_127 fu C hret fu ((F 24) - (1 : Int32)) F G hm hw (lv_sub hl [1, 0] rfl)
theorem mw_read_114 (fu : Nat) {res : Int32 × PF × PG} (C : mMC p R s m args c A v RX12 cX12_read 3 611 36251) (hret : ∀ (H1 : Heap) (locs1 : List Loc) (ls1 : Array Slot) (pc : Nat), mMW s A v a res.2.1 res.2.2 H1 locs1 → narrow .int (.int res.1) = .int res.1 → decode cX12_read pc = .ok (.ireturn, 1) → W p l e R s m args below meth c H1 locs1 0 0 Q (F0 m pc ls1 [.int res.1])) (z0 : Int32) (F : PF) (G : PG) (hm : mb_read_114 fu z0 F G = some res) {H : Heap} {locs : List Loc} (hw : mMW s A v a F G H locs) {ls : Array Slot} (hl : lv_has ls 3 [(0, .ref (a 212))]) : W p l e R s m args below meth c H locs 0 0 Q (F0 m 114 ls [.int z0]) := by
  have hx := C.1
  have hb := C.2.1
  unfold mb_read_114 at hm
  refine lv_pop hx hb dX12_read_114 rfl ?_
  refine lv_aload_n hx hb dX12_read_115 rfl (lv_at hl 0 rfl) ?_
  refine lv_iconst (v := (-1)) hx hb dX12_read_116 (by decide) ?_
  refine mp_X12_527 C hw dX12_read_117 (fun H locs hw => ?_)
  exact mw_read_120 fu C hret (fup F 74 (-1 : Int32)) G hm hw (lv_sub hl [0] rfl)
theorem mw_read_110 (fu : Nat) {res : Int32 × PF × PG} (C : mMC p R s m args c A v RX12 cX12_read 3 611 36251) (hret : ∀ (H1 : Heap) (locs1 : List Loc) (ls1 : Array Slot) (pc : Nat), mMW s A v a res.2.1 res.2.2 H1 locs1 → narrow .int (.int res.1) = .int res.1 → decode cX12_read pc = .ok (.ireturn, 1) → W p l e R s m args below meth c H1 locs1 0 0 Q (F0 m pc ls1 [.int res.1])) (F : PF) (G : PG) (hm : mb_read_110 fu F G = some res) {H : Heap} {locs : List Loc} (hw : mMW s A v a F G H locs) {ls : Array Slot} (hl : lv_has ls 3 [(0, .ref (a 212))]) : W p l e R s m args below meth c H locs 0 0 Q (F0 m 110 ls []) := by
  have hx := C.1
  have hb := C.2.1
  unfold mb_read_110 at hm
  refine lv_aload_n hx hb dX12_read_110 rfl (lv_at hl 0 rfl) ?_
  obtain ⟨⟨r1, F1, G1⟩, hc, hm⟩ := bind_elim hm
  refine mcallI (n := 0) (As := []) (rest := []) C hw (mk_texts l v a _ fu F G r1 F1 G1 hc) (mrecv_X12 C hw) mm_133 mm_134 mm_135 mm_27 mm_136 (by decide +kernel) rfl (by omega) (by omega) hl.1 rfl (Nat.le_of_ble_eq_true rfl) dX12_read_111 (fun H locs hw => ?_)
  exact mw_read_114 fu C hret r1 F1 G1 hm hw (lv_sub hl [0] rfl)
theorem mw_read_105 (fu : Nat) {res : Int32 × PF × PG} (C : mMC p R s m args c A v RX12 cX12_read 3 611 36251) (hret : ∀ (H1 : Heap) (locs1 : List Loc) (ls1 : Array Slot) (pc : Nat), mMW s A v a res.2.1 res.2.2 H1 locs1 → narrow .int (.int res.1) = .int res.1 → decode cX12_read pc = .ok (.ireturn, 1) → W p l e R s m args below meth c H1 locs1 0 0 Q (F0 m pc ls1 [.int res.1])) (F : PF) (G : PG) (hm : mb_read_105 fu F G = some res) {H : Heap} {locs : List Loc} (hw : mMW s A v a F G H locs) {ls : Array Slot} (hl : lv_has ls 3 [(0, .ref (a 212))]) : W p l e R s m args below meth c H locs 0 0 Q (F0 m 105 ls []) := by
  have hx := C.1
  have hb := C.2.1
  unfold mb_read_105 at hm
  refine lv_aload_n hx hb dX12_read_105 rfl (lv_at hl 0 rfl) ?_
  refine lv_iconst (v := 1) hx hb dX12_read_106 (by decide) ?_
  refine mp_X12_245 C hw dX12_read_107 (fun H locs hw => ?_)
  exact mw_read_110 fu C hret (fup F 46 (1 : Int32)) G hm hw (lv_sub hl [0] rfl)
theorem mw_read_92 (fu : Nat) {res : Int32 × PF × PG} (C : mMC p R s m args c A v RX12 cX12_read 3 611 36251) (hret : ∀ (H1 : Heap) (locs1 : List Loc) (ls1 : Array Slot) (pc : Nat), mMW s A v a res.2.1 res.2.2 H1 locs1 → narrow .int (.int res.1) = .int res.1 → decode cX12_read pc = .ok (.ireturn, 1) → W p l e R s m args below meth c H1 locs1 0 0 Q (F0 m pc ls1 [.int res.1])) (F : PF) (G : PG) (hm : mb_read_92 fu F G = some res) {H : Heap} {locs : List Loc} (hw : mMW s A v a F G H locs) {ls : Array Slot} (hl : lv_has ls 3 [(0, .ref (a 212))]) : W p l e R s m args below meth c H locs 0 0 Q (F0 m 92 ls []) := by
  have hx := C.1
  have hb := C.2.1
  unfold mb_read_92 at hm
  refine lv_bipush (v := 16) hx hb dX12_read_92 (by decide) ?_
  refine lv_aload_n hx hb dX12_read_94 rfl (lv_at hl 0 rfl) ?_
  refine mg_X12_236 C hw dX12_read_95 ?_
  refine lv_imul hx hb dX12_read_98 ?_
  refine lv_aload_n hx hb dX12_read_99 rfl (lv_at hl 0 rfl) ?_
  refine mg_X12_230 C hw dX12_read_100 ?_
  refine lv_iadd hx hb dX12_read_103 ?_
  obtain rfl := Option.some.inj hm
  exact hret _ _ _ _ hw rfl dX12_read_104
theorem mw_read_89 (fu : Nat) {res : Int32 × PF × PG} (C : mMC p R s m args c A v RX12 cX12_read 3 611 36251) (hret : ∀ (H1 : Heap) (locs1 : List Loc) (ls1 : Array Slot) (pc : Nat), mMW s A v a res.2.1 res.2.2 H1 locs1 → narrow .int (.int res.1) = .int res.1 → decode cX12_read pc = .ok (.ireturn, 1) → W p l e R s m args below meth c H1 locs1 0 0 Q (F0 m pc ls1 [.int res.1])) (z0 : Int32) (F : PF) (G : PG) (hm : mb_read_89 fu z0 F G = some res) {H : Heap} {locs : List Loc} (hw : mMW s A v a F G H locs) {ls : Array Slot} (hl : lv_has ls 3 [(0, .ref (a 212))]) : W p l e R s m args below meth c H locs 0 0 Q (F0 m 89 ls [.int z0]) := by
  have hx := C.1
  have hb := C.2.1
  unfold mb_read_89 at hm
  refine lv_if_ne (tgt := 105) hx hb dX12_read_89 (by decide) (fun c_1 => ?_) (fun c_1 => ?_)
  · have hm := (if_neg c_1).symm.trans hm
    exact mw_read_105 fu C hret F G hm hw (lv_sub hl [0] rfl)
  · have hm := (if_pos c_1).symm.trans hm
    exact mw_read_92 fu C hret F G hm hw (lv_sub hl [0] rfl)
theorem mw_read_85 (fu : Nat) {res : Int32 × PF × PG} (C : mMC p R s m args c A v RX12 cX12_read 3 611 36251) (hret : ∀ (H1 : Heap) (locs1 : List Loc) (ls1 : Array Slot) (pc : Nat), mMW s A v a res.2.1 res.2.2 H1 locs1 → narrow .int (.int res.1) = .int res.1 → decode cX12_read pc = .ok (.ireturn, 1) → W p l e R s m args below meth c H1 locs1 0 0 Q (F0 m pc ls1 [.int res.1])) (F : PF) (G : PG) (hm : mb_read_85 fu F G = some res) {H : Heap} {locs : List Loc} (hw : mMW s A v a F G H locs) {ls : Array Slot} (hl : lv_has ls 3 [(0, .ref (a 212))]) : W p l e R s m args below meth c H locs 0 0 Q (F0 m 85 ls []) := by
  have hx := C.1
  have hb := C.2.1
  unfold mb_read_85 at hm
  refine lv_aload_n hx hb dX12_read_85 rfl (lv_at hl 0 rfl) ?_
  obtain ⟨⟨r1, F1, G1⟩, hc, hm⟩ := bind_elim hm
  refine mcallI (n := 0) (As := []) (rest := []) C hw (mk_texts l v a _ fu F G r1 F1 G1 hc) (mrecv_X12 C hw) mm_133 mm_134 mm_135 mm_27 mm_136 (by decide +kernel) rfl (by omega) (by omega) hl.1 rfl (Nat.le_of_ble_eq_true rfl) dX12_read_86 (fun H locs hw => ?_)
  exact mw_read_89 fu C hret r1 F1 G1 hm hw (lv_sub hl [0] rfl)
theorem mw_read_80 (fu : Nat) {res : Int32 × PF × PG} (C : mMC p R s m args c A v RX12 cX12_read 3 611 36251) (hret : ∀ (H1 : Heap) (locs1 : List Loc) (ls1 : Array Slot) (pc : Nat), mMW s A v a res.2.1 res.2.2 H1 locs1 → narrow .int (.int res.1) = .int res.1 → decode cX12_read pc = .ok (.ireturn, 1) → W p l e R s m args below meth c H1 locs1 0 0 Q (F0 m pc ls1 [.int res.1])) (F : PF) (G : PG) (hm : mb_read_80 fu F G = some res) {H : Heap} {locs : List Loc} (hw : mMW s A v a F G H locs) {ls : Array Slot} (hl : lv_has ls 3 [(0, .ref (a 212))]) : W p l e R s m args below meth c H locs 0 0 Q (F0 m 80 ls []) := by
  have hx := C.1
  have hb := C.2.1
  unfold mb_read_80 at hm
  refine lv_aload_n hx hb dX12_read_80 rfl (lv_at hl 0 rfl) ?_
  refine lv_iconst (v := 0) hx hb dX12_read_81 (by decide) ?_
  refine mp_X12_245 C hw dX12_read_82 (fun H locs hw => ?_)
  exact mw_read_85 fu C hret (fup F 46 (0 : Int32)) G hm hw (lv_sub hl [0] rfl)
theorem mw_read_76 (fu : Nat) {res : Int32 × PF × PG} (C : mMC p R s m args c A v RX12 cX12_read 3 611 36251) (hret : ∀ (H1 : Heap) (locs1 : List Loc) (ls1 : Array Slot) (pc : Nat), mMW s A v a res.2.1 res.2.2 H1 locs1 → narrow .int (.int res.1) = .int res.1 → decode cX12_read pc = .ok (.ireturn, 1) → W p l e R s m args below meth c H1 locs1 0 0 Q (F0 m pc ls1 [.int res.1])) (F : PF) (G : PG) (hm : mb_read_76 fu F G = some res) {H : Heap} {locs : List Loc} (hw : mMW s A v a F G H locs) {ls : Array Slot} (hl : lv_has ls 3 [(0, .ref (a 212))]) : W p l e R s m args below meth c H locs 0 0 Q (F0 m 76 ls []) := by
  have hx := C.1
  have hb := C.2.1
  unfold mb_read_76 at hm
  refine lv_aload_n hx hb dX12_read_76 rfl (lv_at hl 0 rfl) ?_
  obtain ⟨⟨r1, F1, G1⟩, hc, hm⟩ := bind_elim hm
  refine mcallV (n := 0) (As := []) (rest := []) C hw (mk_cut l v a _ fu F G r1 F1 G1 hc) (mrecv_X12 C hw) mm_24 mm_25 mm_26 mm_27 mm_28 (by decide +kernel) rfl (by omega) (by omega) hl.1 rfl (Nat.le_of_ble_eq_true rfl) dX12_read_77 (fun H locs hw => ?_)
  exact mw_read_80 fu C hret F1 G1 hm hw (lv_sub hl [0] rfl)
theorem mw_read_71 (fu : Nat) {res : Int32 × PF × PG} (C : mMC p R s m args c A v RX12 cX12_read 3 611 36251) (hret : ∀ (H1 : Heap) (locs1 : List Loc) (ls1 : Array Slot) (pc : Nat), mMW s A v a res.2.1 res.2.2 H1 locs1 → narrow .int (.int res.1) = .int res.1 → decode cX12_read pc = .ok (.ireturn, 1) → W p l e R s m args below meth c H1 locs1 0 0 Q (F0 m pc ls1 [.int res.1])) (F : PF) (G : PG) (hm : mb_read_71 fu F G = some res) {H : Heap} {locs : List Loc} (hw : mMW s A v a F G H locs) {ls : Array Slot} (hl : lv_has ls 3 [(0, .ref (a 212))]) : W p l e R s m args below meth c H locs 0 0 Q (F0 m 71 ls []) := by
  have hx := C.1
  have hb := C.2.1
  unfold mb_read_71 at hm
  refine lv_aload_n hx hb dX12_read_71 rfl (lv_at hl 0 rfl) ?_
  refine lv_iconst (v := 0) hx hb dX12_read_72 (by decide) ?_
  refine mp_X12_365 C hw (by decide) dX12_read_73 (fun H locs hw => ?_)
  exact mw_read_76 fu C hret (fup F 54 (0 : Int32)) G hm hw (lv_sub hl [0] rfl)
theorem mw_read_66 (fu : Nat) {res : Int32 × PF × PG} (C : mMC p R s m args c A v RX12 cX12_read 3 611 36251) (hret : ∀ (H1 : Heap) (locs1 : List Loc) (ls1 : Array Slot) (pc : Nat), mMW s A v a res.2.1 res.2.2 H1 locs1 → narrow .int (.int res.1) = .int res.1 → decode cX12_read pc = .ok (.ireturn, 1) → W p l e R s m args below meth c H1 locs1 0 0 Q (F0 m pc ls1 [.int res.1])) (F : PF) (G : PG) (hm : mb_read_66 fu F G = some res) {H : Heap} {locs : List Loc} (hw : mMW s A v a F G H locs) {ls : Array Slot} (hl : lv_has ls 3 [(0, .ref (a 212))]) : W p l e R s m args below meth c H locs 0 0 Q (F0 m 66 ls []) := by
  have hx := C.1
  have hb := C.2.1
  unfold mb_read_66 at hm
  refine lv_aload_n hx hb dX12_read_66 rfl (lv_at hl 0 rfl) ?_
  refine lv_iconst (v := 0) hx hb dX12_read_67 (by decide) ?_
  refine mp_X12_248 C hw dX12_read_68 (fun H locs hw => ?_)
  exact mw_read_71 fu C hret (fup F 47 (0 : Int32)) G hm hw (lv_sub hl [0] rfl)
theorem mw_read_61 (fu : Nat) {res : Int32 × PF × PG} (C : mMC p R s m args c A v RX12 cX12_read 3 611 36251) (hret : ∀ (H1 : Heap) (locs1 : List Loc) (ls1 : Array Slot) (pc : Nat), mMW s A v a res.2.1 res.2.2 H1 locs1 → narrow .int (.int res.1) = .int res.1 → decode cX12_read pc = .ok (.ireturn, 1) → W p l e R s m args below meth c H1 locs1 0 0 Q (F0 m pc ls1 [.int res.1])) (F : PF) (G : PG) (hm : mb_read_61 fu F G = some res) {H : Heap} {locs : List Loc} (hw : mMW s A v a F G H locs) {ls : Array Slot} (hl : lv_has ls 3 [(0, .ref (a 212))]) : W p l e R s m args below meth c H locs 0 0 Q (F0 m 61 ls []) := by
  have hx := C.1
  have hb := C.2.1
  unfold mb_read_61 at hm
  refine lv_aload_n hx hb dX12_read_61 rfl (lv_at hl 0 rfl) ?_
  refine lv_iconst (v := 0) hx hb dX12_read_62 (by decide) ?_
  refine mp_X12_230 C hw dX12_read_63 (fun H locs hw => ?_)
  exact mw_read_66 fu C hret (fup F 44 (0 : Int32)) G hm hw (lv_sub hl [0] rfl)
theorem mw_read_56 (fu : Nat) {res : Int32 × PF × PG} (C : mMC p R s m args c A v RX12 cX12_read 3 611 36251) (hret : ∀ (H1 : Heap) (locs1 : List Loc) (ls1 : Array Slot) (pc : Nat), mMW s A v a res.2.1 res.2.2 H1 locs1 → narrow .int (.int res.1) = .int res.1 → decode cX12_read pc = .ok (.ireturn, 1) → W p l e R s m args below meth c H1 locs1 0 0 Q (F0 m pc ls1 [.int res.1])) (F : PF) (G : PG) (hm : mb_read_56 fu F G = some res) {H : Heap} {locs : List Loc} (hw : mMW s A v a F G H locs) {ls : Array Slot} (hl : lv_has ls 3 [(0, .ref (a 212))]) : W p l e R s m args below meth c H locs 0 0 Q (F0 m 56 ls []) := by
  have hx := C.1
  have hb := C.2.1
  unfold mb_read_56 at hm
  refine lv_aload_n hx hb dX12_read_56 rfl (lv_at hl 0 rfl) ?_
  refine lv_iconst (v := 0) hx hb dX12_read_57 (by decide) ?_
  refine mp_X12_518 C hw dX12_read_58 (fun H locs hw => ?_)
  exact mw_read_61 fu C hret (fup F 79 (0 : Int32)) G hm hw (lv_sub hl [0] rfl)
theorem mw_read_51 (fu : Nat) {res : Int32 × PF × PG} (C : mMC p R s m args c A v RX12 cX12_read 3 611 36251) (hret : ∀ (H1 : Heap) (locs1 : List Loc) (ls1 : Array Slot) (pc : Nat), mMW s A v a res.2.1 res.2.2 H1 locs1 → narrow .int (.int res.1) = .int res.1 → decode cX12_read pc = .ok (.ireturn, 1) → W p l e R s m args below meth c H1 locs1 0 0 Q (F0 m pc ls1 [.int res.1])) (F : PF) (G : PG) (hm : mb_read_51 fu F G = some res) {H : Heap} {locs : List Loc} (hw : mMW s A v a F G H locs) {ls : Array Slot} (hl : lv_has ls 3 [(0, .ref (a 212))]) : W p l e R s m args below meth c H locs 0 0 Q (F0 m 51 ls []) := by
  have hx := C.1
  have hb := C.2.1
  unfold mb_read_51 at hm
  refine lv_aload_n hx hb dX12_read_51 rfl (lv_at hl 0 rfl) ?_
  refine lv_iconst (v := 0) hx hb dX12_read_52 (by decide) ?_
  refine mp_X12_515 C hw dX12_read_53 (fun H locs hw => ?_)
  exact mw_read_56 fu C hret (fup F 80 (0 : Int32)) G hm hw (lv_sub hl [0] rfl)
theorem mw_read_46 (fu : Nat) {res : Int32 × PF × PG} (C : mMC p R s m args c A v RX12 cX12_read 3 611 36251) (hret : ∀ (H1 : Heap) (locs1 : List Loc) (ls1 : Array Slot) (pc : Nat), mMW s A v a res.2.1 res.2.2 H1 locs1 → narrow .int (.int res.1) = .int res.1 → decode cX12_read pc = .ok (.ireturn, 1) → W p l e R s m args below meth c H1 locs1 0 0 Q (F0 m pc ls1 [.int res.1])) (F : PF) (G : PG) (hm : mb_read_46 fu F G = some res) {H : Heap} {locs : List Loc} (hw : mMW s A v a F G H locs) {ls : Array Slot} (hl : lv_has ls 3 [(0, .ref (a 212))]) : W p l e R s m args below meth c H locs 0 0 Q (F0 m 46 ls []) := by
  have hx := C.1
  have hb := C.2.1
  unfold mb_read_46 at hm
  refine lv_aload_n hx hb dX12_read_46 rfl (lv_at hl 0 rfl) ?_
  refine lv_iconst (v := 0) hx hb dX12_read_47 (by decide) ?_
  refine mp_X12_512 C hw dX12_read_48 (fun H locs hw => ?_)
  exact mw_read_51 fu C hret (fup F 75 (0 : Int32)) G hm hw (lv_sub hl [0] rfl)
theorem mw_read_41 (fu : Nat) {res : Int32 × PF × PG} (C : mMC p R s m args c A v RX12 cX12_read 3 611 36251) (hret : ∀ (H1 : Heap) (locs1 : List Loc) (ls1 : Array Slot) (pc : Nat), mMW s A v a res.2.1 res.2.2 H1 locs1 → narrow .int (.int res.1) = .int res.1 → decode cX12_read pc = .ok (.ireturn, 1) → W p l e R s m args below meth c H1 locs1 0 0 Q (F0 m pc ls1 [.int res.1])) (F : PF) (G : PG) (hm : mb_read_41 fu F G = some res) {H : Heap} {locs : List Loc} (hw : mMW s A v a F G H locs) {ls : Array Slot} (hl : lv_has ls 3 [(0, .ref (a 212))]) : W p l e R s m args below meth c H locs 0 0 Q (F0 m 41 ls []) := by
  have hx := C.1
  have hb := C.2.1
  unfold mb_read_41 at hm
  refine lv_aload_n hx hb dX12_read_41 rfl (lv_at hl 0 rfl) ?_
  refine lv_iconst (v := 0) hx hb dX12_read_42 (by decide) ?_
  refine mp_X12_509 C hw (by decide) dX12_read_43 (fun H locs hw => ?_)
  exact mw_read_46 fu C hret (fup F 73 (0 : Int32)) G hm hw (lv_sub hl [0] rfl)
theorem mw_read_36 (fu : Nat) {res : Int32 × PF × PG} (C : mMC p R s m args c A v RX12 cX12_read 3 611 36251) (hret : ∀ (H1 : Heap) (locs1 : List Loc) (ls1 : Array Slot) (pc : Nat), mMW s A v a res.2.1 res.2.2 H1 locs1 → narrow .int (.int res.1) = .int res.1 → decode cX12_read pc = .ok (.ireturn, 1) → W p l e R s m args below meth c H1 locs1 0 0 Q (F0 m pc ls1 [.int res.1])) (F : PF) (G : PG) (hm : mb_read_36 fu F G = some res) {H : Heap} {locs : List Loc} (hw : mMW s A v a F G H locs) {ls : Array Slot} (hl : lv_has ls 3 [(0, .ref (a 212))]) : W p l e R s m args below meth c H locs 0 0 Q (F0 m 36 ls []) := by
  have hx := C.1
  have hb := C.2.1
  unfold mb_read_36 at hm
  refine lv_aload_n hx hb dX12_read_36 rfl (lv_at hl 0 rfl) ?_
  refine lv_iconst (v := 0) hx hb dX12_read_37 (by decide) ?_
  refine mp_X12_153 C hw dX12_read_38 (fun H locs hw => ?_)
  exact mw_read_41 fu C hret (fup F 2 (0 : Int32)) G hm hw (lv_sub hl [0] rfl)
theorem mw_read_30 (fu : Nat) {res : Int32 × PF × PG} (C : mMC p R s m args c A v RX12 cX12_read 3 611 36251) (hret : ∀ (H1 : Heap) (locs1 : List Loc) (ls1 : Array Slot) (pc : Nat), mMW s A v a res.2.1 res.2.2 H1 locs1 → narrow .int (.int res.1) = .int res.1 → decode cX12_read pc = .ok (.ireturn, 1) → W p l e R s m args below meth c H1 locs1 0 0 Q (F0 m pc ls1 [.int res.1])) (ag_10 : Int32 → PF → PG → PR) (hag_10 : ∀ (x1 : Int32) (F : PF) (G : PG), ag_10 x1 F G = some res → ∀ (H : Heap) (locs : List Loc) (ls : Array Slot), mMW s A v a F G H locs → lv_has ls 3 [(0, .ref (a 212)), (1, .int x1)] → W p l e R s m args below meth c H locs 0 0 Q (F0 m 10 ls [])) (x1 : Int32) (F : PF) (G : PG) (hm : mb_read_30 fu ag_10 x1 F G = some res) {H : Heap} {locs : List Loc} (hw : mMW s A v a F G H locs) {ls : Array Slot} (hl : lv_has ls 3 [(0, .ref (a 212)), (1, .int x1)]) : W p l e R s m args below meth c H locs 0 0 Q (F0 m 30 ls []) := by
  have hx := C.1
  have hb := C.2.1
  unfold mb_read_30 at hm
  refine lv_iinc (v := (x1 + 1)) (lv' := [(1, .int (x1 + 1)), (0, .ref (a 212))]) hx hb dX12_read_30 hl (k := 1) rfl (by rfl) (by decide) rfl (fun ls hl => ?_)
  refine lv_goto (tgt := 10) hx hb dX12_read_33 (by decide) ?_
  exact hag_10 (x1 + 1) F G hm _ _ _ hw (lv_sub hl [1, 0] rfl)
theorem mw_read_18 (fu : Nat) {res : Int32 × PF × PG} (C : mMC p R s m args c A v RX12 cX12_read 3 611 36251) (hret : ∀ (H1 : Heap) (locs1 : List Loc) (ls1 : Array Slot) (pc : Nat), mMW s A v a res.2.1 res.2.2 H1 locs1 → narrow .int (.int res.1) = .int res.1 → decode cX12_read pc = .ok (.ireturn, 1) → W p l e R s m args below meth c H1 locs1 0 0 Q (F0 m pc ls1 [.int res.1])) (ag_10 : Int32 → PF → PG → PR) (hag_10 : ∀ (x1 : Int32) (F : PF) (G : PG), ag_10 x1 F G = some res → ∀ (H : Heap) (locs : List Loc) (ls : Array Slot), mMW s A v a F G H locs → lv_has ls 3 [(0, .ref (a 212)), (1, .int x1)] → W p l e R s m args below meth c H locs 0 0 Q (F0 m 10 ls [])) (x1 : Int32) (F : PF) (G : PG) (hm : mb_read_18 fu ag_10 x1 F G = some res) {H : Heap} {locs : List Loc} (hw : mMW s A v a F G H locs) {ls : Array Slot} (hl : lv_has ls 3 [(0, .ref (a 212)), (1, .int x1)]) : W p l e R s m args below meth c H locs 0 0 Q (F0 m 18 ls []) := by
  have hx := C.1
  have hb := C.2.1
  unfold mb_read_18 at hm
  refine lv_aload_n hx hb dX12_read_18 rfl (lv_at hl 0 rfl) ?_
  refine mg_X12_13 C hw dX12_read_19 ?_
  refine lv_iload_n hx hb dX12_read_22 rfl (lv_at hl 1 rfl) ?_
  refine lv_aload_n hx hb dX12_read_23 rfl (lv_at hl 0 rfl) ?_
  refine mg_X12_9 C hw dX12_read_24 ?_
  refine lv_iload_n hx hb dX12_read_27 rfl (lv_at hl 1 rfl) ?_
  obtain ⟨hi, hm⟩ := ix_elim hm
  refine mal_0 C hw hi dX12_read_28 ?_
  obtain ⟨hi, hm⟩ := ix_elim hm
  refine mas_1 C hw hi dX12_read_29 (fun H locs hw => ?_)
  exact mw_read_30 fu C hret ag_10 hag_10 x1 F (gup G 1 x1.toNatClampNeg (G 0 x1.toNatClampNeg)) hm hw (lv_sub hl [0, 1] rfl)
theorem mw_read_10 (fu : Nat) {res : Int32 × PF × PG} (C : mMC p R s m args c A v RX12 cX12_read 3 611 36251) (hret : ∀ (H1 : Heap) (locs1 : List Loc) (ls1 : Array Slot) (pc : Nat), mMW s A v a res.2.1 res.2.2 H1 locs1 → narrow .int (.int res.1) = .int res.1 → decode cX12_read pc = .ok (.ireturn, 1) → W p l e R s m args below meth c H1 locs1 0 0 Q (F0 m pc ls1 [.int res.1])) (ag_10 : Int32 → PF → PG → PR) (hag_10 : ∀ (x1 : Int32) (F : PF) (G : PG), ag_10 x1 F G = some res → ∀ (H : Heap) (locs : List Loc) (ls : Array Slot), mMW s A v a F G H locs → lv_has ls 3 [(0, .ref (a 212)), (1, .int x1)] → W p l e R s m args below meth c H locs 0 0 Q (F0 m 10 ls [])) (x1 : Int32) (F : PF) (G : PG) (hm : mb_read_10 fu ag_10 x1 F G = some res) {H : Heap} {locs : List Loc} (hw : mMW s A v a F G H locs) {ls : Array Slot} (hl : lv_has ls 3 [(0, .ref (a 212)), (1, .int x1)]) : W p l e R s m args below meth c H locs 0 0 Q (F0 m 10 ls []) := by
  have hx := C.1
  have hb := C.2.1
  unfold mb_read_10 at hm
  refine lv_iload_n hx hb dX12_read_10 rfl (lv_at hl 1 rfl) ?_
  refine lv_aload_n hx hb dX12_read_11 rfl (lv_at hl 0 rfl) ?_
  refine mg_X12_157 C hw dX12_read_12 ?_
  refine lv_icmp_ge (tgt := 36) hx hb dX12_read_15 (by decide) (fun c_1 => ?_) (fun c_1 => ?_)
  · have hm := (if_pos c_1).symm.trans hm
    exact mw_read_36 fu C hret F G hm hw (lv_sub hl [0] rfl)
  · have hm := (if_neg c_1).symm.trans hm
    exact mw_read_18 fu C hret ag_10 hag_10 x1 F G hm hw (lv_sub hl [0, 1] rfl)
theorem mwl_read_10 (fu : Nat) {res : Int32 × PF × PG} (C : mMC p R s m args c A v RX12 cX12_read 3 611 36251) (hret : ∀ (H1 : Heap) (locs1 : List Loc) (ls1 : Array Slot) (pc : Nat), mMW s A v a res.2.1 res.2.2 H1 locs1 → narrow .int (.int res.1) = .int res.1 → decode cX12_read pc = .ok (.ireturn, 1) → W p l e R s m args below meth c H1 locs1 0 0 Q (F0 m pc ls1 [.int res.1])) : ∀ (n : Nat) (x1 : Int32) (F : PF) (G : PG) (hm : ml_read_10 fu n x1 F G = some res) {H : Heap} {locs : List Loc} (hw : mMW s A v a F G H locs) {ls : Array Slot} (hl : lv_has ls 3 [(0, .ref (a 212)), (1, .int x1)]), W p l e R s m args below meth c H locs 0 0 Q (F0 m 10 ls []) := by
  intro n
  induction n with
  | zero =>
    intro x1 F G hm
    exact no_elim (show (none : PR) = some res from hm)
  | succ n ih =>
    intro x1 F G hm H locs hw ls hl
    exact mw_read_10 fu C hret (ml_read_10 fu n) (fun x1 F G hm H locs ls hw hl => ih x1 F G hm hw hl) x1 F G hm hw hl
theorem mw_read_8 (fu : Nat) {res : Int32 × PF × PG} (C : mMC p R s m args c A v RX12 cX12_read 3 611 36251) (hret : ∀ (H1 : Heap) (locs1 : List Loc) (ls1 : Array Slot) (pc : Nat), mMW s A v a res.2.1 res.2.2 H1 locs1 → narrow .int (.int res.1) = .int res.1 → decode cX12_read pc = .ok (.ireturn, 1) → W p l e R s m args below meth c H1 locs1 0 0 Q (F0 m pc ls1 [.int res.1])) (F : PF) (G : PG) (hm : mb_read_8 fu F G = some res) {H : Heap} {locs : List Loc} (hw : mMW s A v a F G H locs) {ls : Array Slot} (hl : lv_has ls 3 [(0, .ref (a 212))]) : W p l e R s m args below meth c H locs 0 0 Q (F0 m 8 ls []) := by
  have hx := C.1
  have hb := C.2.1
  unfold mb_read_8 at hm
  refine lv_iconst (v := 0) hx hb dX12_read_8 (by decide) ?_
  refine lv_istore_n (lv' := [(1, .int 0), (0, .ref (a 212))]) hx hb dX12_read_9 rfl hl (by decide) rfl (fun ls hl => ?_)
  exact mwl_read_10 fu C hret fu 0 F G hm hw (lv_sub hl [1, 0] rfl)
theorem mw_read_0 (fu : Nat) {res : Int32 × PF × PG} (C : mMC p R s m args c A v RX12 cX12_read 3 611 36251) (hret : ∀ (H1 : Heap) (locs1 : List Loc) (ls1 : Array Slot) (pc : Nat), mMW s A v a res.2.1 res.2.2 H1 locs1 → narrow .int (.int res.1) = .int res.1 → decode cX12_read pc = .ok (.ireturn, 1) → W p l e R s m args below meth c H1 locs1 0 0 Q (F0 m pc ls1 [.int res.1])) (F : PF) (G : PG) (hm : mb_read_0 fu F G = some res) {H : Heap} {locs : List Loc} (hw : mMW s A v a F G H locs) {ls : Array Slot} (hl : lv_has ls 3 [(0, .ref (a 212))]) : W p l e R s m args below meth c H locs 0 0 Q (F0 m 0 ls []) := by
  have hx := C.1
  have hb := C.2.1
  unfold mb_read_0 at hm
  refine lv_aload_n hx hb dX12_read_0 rfl (lv_at hl 0 rfl) ?_
  refine lv_aload_n hx hb dX12_read_1 rfl (lv_at hl 0 rfl) ?_
  refine mg_X12_153 C hw dX12_read_2 ?_
  refine mp_X12_157 C hw dX12_read_5 (fun H locs hw => ?_)
  exact mw_read_8 fu C hret (fup F 3 (F 2)) G hm hw (lv_sub hl [0] rfl)
theorem mk_read (l : Launch) (v : EV) (a : Nat → Nat) (sz : Nat) (fu : Nat) (F : PF) (G : PG) (r : Int32) (F1 : PF) (G1 : PG) (hm : mf_read fu F G = some (r, F1, G1)) : mMI l yX12_read cX12_read 3 (some .int) 611 36251 v a sz [.ref (a 212)] F G r F1 G1 := mMI.of (ty := .int) (by decide) rfl (Nat.le_of_ble_eq_true rfl) (fun p e R s m args below meth c Q A H locs ls C hw hl hret => mw_read_0 fu (res := (r, F1, G1)) C hret F G hm hw hl)
def mb_look_49 (fu : Nat) (F : PF) (G : PG) : PR := some ((-1), F, G)
def mb_look_107 (fu : Nat) (z0 : Int32) (F : PF) (G : PG) : PR := some (z0, F, G)
def mb_look_106 (fu : Nat) (F : PF) (G : PG) : PR := mb_look_107 fu 1 F G
def mb_look_102 (fu : Nat) (F : PF) (G : PG) : PR := mb_look_107 fu 0 F G
def mb_look_93 (fu : Nat) (x2 : Int32) (F : PF) (G : PG) : PR := if ixb x2 500 = true then (if (G 33 x2.toNatClampNeg) = (0 : Int32) then mb_look_106 fu F G else mb_look_102 fu F G) else none
def mb_look_84 (fu : Nat) (x2 : Int32) (F : PF) (G : PG) : PR := if ixb x2 500 = true then (mb_look_107 fu (G 28 x2.toNatClampNeg) F G) else none
def mb_look_79 (fu : Nat) (x1 : Int32) (x2 : Int32) (F : PF) (G : PG) : PR := if x1 = (4 : Int32) then mb_look_84 fu x2 F G else mb_look_93 fu x2 F G
def mb_look_70 (fu : Nat) (x2 : Int32) (F : PF) (G : PG) : PR := if ixb x2 500 = true then (mb_look_107 fu (G 27 x2.toNatClampNeg) F G) else none
def mb_look_65 (fu : Nat) (x1 : Int32) (x2 : Int32) (F : PF) (G : PG) : PR := if x1 = (3 : Int32) then mb_look_70 fu x2 F G else mb_look_79 fu x1 x2 F G
def mb_look_56 (fu : Nat) (x2 : Int32) (F : PF) (G : PG) : PR := if ixb x2 500 = true then (mb_look_107 fu (G 26 x2.toNatClampNeg) F G) else none
def mb_look_51 (fu : Nat) (x1 : Int32) (x2 : Int32) (F : PF) (G : PG) : PR := if x1 = (2 : Int32) then mb_look_56 fu x2 F G else mb_look_65 fu x1 x2 F G
def mb_look_41 (fu : Nat) (x1 : Int32) (x2 : Int32) (F : PF) (G : PG) : PR := if x2 < (F 24) then mb_look_51 fu x1 x2 F G else mb_look_49 fu F G
def mb_look_37 (fu : Nat) (x1 : Int32) (x2 : Int32) (F : PF) (G : PG) : PR := if x2 < (0 : Int32) then mb_look_49 fu F G else mb_look_41 fu x1 x2 F G
def mb_look_32 (fu : Nat) (x1 : Int32) (x2 : Int32) (F : PF) (G : PG) : PR := if (5 : Int32) < x1 then mb_look_49 fu F G else mb_look_37 fu x1 x2 F G
def mb_look_28 (fu : Nat) (x1 : Int32) (x2 : Int32) (F : PF) (G : PG) : PR := if x1 < (0 : Int32) then mb_look_49 fu F G else mb_look_32 fu x1 x2 F G
def mb_look_23 (fu : Nat) (F : PF) (G : PG) : PR := some ((F 36), F, G)
def mb_look_18 (fu : Nat) (x1 : Int32) (x2 : Int32) (F : PF) (G : PG) : PR := if x1 = (1 : Int32) then mb_look_23 fu F G else mb_look_28 fu x1 x2 F G
def mb_look_13 (fu : Nat) (F : PF) (G : PG) : PR := some ((F 24), F, G)
def mb_look_9 (fu : Nat) (x1 : Int32) (x2 : Int32) (F : PF) (G : PG) : PR := if x1 = (0 : Int32) then mb_look_13 fu F G else mb_look_18 fu x1 x2 F G
def mb_look_7 (fu : Nat) (F : PF) (G : PG) : PR := some ((-1), F, G)
def mb_look_0 (fu : Nat) (x1 : Int32) (x2 : Int32) (F : PF) (G : PG) : PR := if (F 73) = (0 : Int32) then mb_look_7 fu F G else mb_look_9 fu x1 x2 F G
def mf_look (fu : Nat) (x1 : Int32) (x2 : Int32) (F : PF) (G : PG) : PR := mb_look_0 fu x1 x2 F G
theorem mw_look_49 (fu : Nat) {res : Int32 × PF × PG} (C : mMC p R s m args c A v RX12 cX12_look 3 0 0) (hret : ∀ (H1 : Heap) (locs1 : List Loc) (ls1 : Array Slot) (pc : Nat), mMW s A v a res.2.1 res.2.2 H1 locs1 → narrow .int (.int res.1) = .int res.1 → decode cX12_look pc = .ok (.ireturn, 1) → W p l e R s m args below meth c H1 locs1 0 0 Q (F0 m pc ls1 [.int res.1])) (F : PF) (G : PG) (hm : mb_look_49 fu F G = some res) {H : Heap} {locs : List Loc} (hw : mMW s A v a F G H locs) {ls : Array Slot} (hl : lv_has ls 3 []) : W p l e R s m args below meth c H locs 0 0 Q (F0 m 49 ls []) := by
  have hx := C.1
  have hb := C.2.1
  unfold mb_look_49 at hm
  refine lv_iconst (v := (-1)) hx hb dX12_look_49 (by decide) ?_
  obtain rfl := Option.some.inj hm
  exact hret _ _ _ _ hw rfl dX12_look_50
theorem mw_look_107 (fu : Nat) {res : Int32 × PF × PG} (C : mMC p R s m args c A v RX12 cX12_look 3 0 0) (hret : ∀ (H1 : Heap) (locs1 : List Loc) (ls1 : Array Slot) (pc : Nat), mMW s A v a res.2.1 res.2.2 H1 locs1 → narrow .int (.int res.1) = .int res.1 → decode cX12_look pc = .ok (.ireturn, 1) → W p l e R s m args below meth c H1 locs1 0 0 Q (F0 m pc ls1 [.int res.1])) (z0 : Int32) (F : PF) (G : PG) (hm : mb_look_107 fu z0 F G = some res) {H : Heap} {locs : List Loc} (hw : mMW s A v a F G H locs) {ls : Array Slot} (hl : lv_has ls 3 []) : W p l e R s m args below meth c H locs 0 0 Q (F0 m 107 ls [.int z0]) := by
  have hx := C.1
  have hb := C.2.1
  unfold mb_look_107 at hm
  obtain rfl := Option.some.inj hm
  exact hret _ _ _ _ hw rfl dX12_look_107
theorem mw_look_106 (fu : Nat) {res : Int32 × PF × PG} (C : mMC p R s m args c A v RX12 cX12_look 3 0 0) (hret : ∀ (H1 : Heap) (locs1 : List Loc) (ls1 : Array Slot) (pc : Nat), mMW s A v a res.2.1 res.2.2 H1 locs1 → narrow .int (.int res.1) = .int res.1 → decode cX12_look pc = .ok (.ireturn, 1) → W p l e R s m args below meth c H1 locs1 0 0 Q (F0 m pc ls1 [.int res.1])) (F : PF) (G : PG) (hm : mb_look_106 fu F G = some res) {H : Heap} {locs : List Loc} (hw : mMW s A v a F G H locs) {ls : Array Slot} (hl : lv_has ls 3 []) : W p l e R s m args below meth c H locs 0 0 Q (F0 m 106 ls []) := by
  have hx := C.1
  have hb := C.2.1
  unfold mb_look_106 at hm
  refine lv_iconst (v := 1) hx hb dX12_look_106 (by decide) ?_
  exact mw_look_107 fu C hret 1 F G hm hw (lv_sub hl [] rfl)
theorem mw_look_102 (fu : Nat) {res : Int32 × PF × PG} (C : mMC p R s m args c A v RX12 cX12_look 3 0 0) (hret : ∀ (H1 : Heap) (locs1 : List Loc) (ls1 : Array Slot) (pc : Nat), mMW s A v a res.2.1 res.2.2 H1 locs1 → narrow .int (.int res.1) = .int res.1 → decode cX12_look pc = .ok (.ireturn, 1) → W p l e R s m args below meth c H1 locs1 0 0 Q (F0 m pc ls1 [.int res.1])) (F : PF) (G : PG) (hm : mb_look_102 fu F G = some res) {H : Heap} {locs : List Loc} (hw : mMW s A v a F G H locs) {ls : Array Slot} (hl : lv_has ls 3 []) : W p l e R s m args below meth c H locs 0 0 Q (F0 m 102 ls []) := by
  have hx := C.1
  have hb := C.2.1
  unfold mb_look_102 at hm
  refine lv_iconst (v := 0) hx hb dX12_look_102 (by decide) ?_
  refine lv_goto (tgt := 107) hx hb dX12_look_103 (by decide) ?_
  exact mw_look_107 fu C hret 0 F G hm hw (lv_sub hl [] rfl)
theorem mw_look_93 (fu : Nat) {res : Int32 × PF × PG} (C : mMC p R s m args c A v RX12 cX12_look 3 0 0) (hret : ∀ (H1 : Heap) (locs1 : List Loc) (ls1 : Array Slot) (pc : Nat), mMW s A v a res.2.1 res.2.2 H1 locs1 → narrow .int (.int res.1) = .int res.1 → decode cX12_look pc = .ok (.ireturn, 1) → W p l e R s m args below meth c H1 locs1 0 0 Q (F0 m pc ls1 [.int res.1])) (x2 : Int32) (F : PF) (G : PG) (hm : mb_look_93 fu x2 F G = some res) {H : Heap} {locs : List Loc} (hw : mMW s A v a F G H locs) {ls : Array Slot} (hl : lv_has ls 3 [(0, .ref (a 212)), (2, .int x2)]) : W p l e R s m args below meth c H locs 0 0 Q (F0 m 93 ls []) := by
  have hx := C.1
  have hb := C.2.1
  unfold mb_look_93 at hm
  refine lv_aload_n hx hb dX12_look_93 rfl (lv_at hl 0 rfl) ?_
  refine mg_X12_86 C hw dX12_look_94 ?_
  refine lv_iload_n hx hb dX12_look_97 rfl (lv_at hl 1 rfl) ?_
  obtain ⟨hi, hm⟩ := ix_elim hm
  refine mal_33 C hw hi dX12_look_98 ?_
  refine lv_if_eq (tgt := 106) hx hb dX12_look_99 (by decide) (fun c_1 => ?_) (fun c_1 => ?_)
  · have hm := (if_pos c_1).symm.trans hm
    exact mw_look_106 fu C hret F G hm hw (lv_sub hl [] rfl)
  · have hm := (if_neg c_1).symm.trans hm
    exact mw_look_102 fu C hret F G hm hw (lv_sub hl [] rfl)
theorem mw_look_84 (fu : Nat) {res : Int32 × PF × PG} (C : mMC p R s m args c A v RX12 cX12_look 3 0 0) (hret : ∀ (H1 : Heap) (locs1 : List Loc) (ls1 : Array Slot) (pc : Nat), mMW s A v a res.2.1 res.2.2 H1 locs1 → narrow .int (.int res.1) = .int res.1 → decode cX12_look pc = .ok (.ireturn, 1) → W p l e R s m args below meth c H1 locs1 0 0 Q (F0 m pc ls1 [.int res.1])) (x2 : Int32) (F : PF) (G : PG) (hm : mb_look_84 fu x2 F G = some res) {H : Heap} {locs : List Loc} (hw : mMW s A v a F G H locs) {ls : Array Slot} (hl : lv_has ls 3 [(0, .ref (a 212)), (2, .int x2)]) : W p l e R s m args below meth c H locs 0 0 Q (F0 m 84 ls []) := by
  have hx := C.1
  have hb := C.2.1
  unfold mb_look_84 at hm
  refine lv_aload_n hx hb dX12_look_84 rfl (lv_at hl 0 rfl) ?_
  refine mg_X12_71 C hw dX12_look_85 ?_
  refine lv_iload_n hx hb dX12_look_88 rfl (lv_at hl 1 rfl) ?_
  obtain ⟨hi, hm⟩ := ix_elim hm
  refine mal_28 C hw hi dX12_look_89 ?_
  refine lv_goto (tgt := 107) hx hb dX12_look_90 (by decide) ?_
  exact mw_look_107 fu C hret (G 28 x2.toNatClampNeg) F G hm hw (lv_sub hl [] rfl)
theorem mw_look_79 (fu : Nat) {res : Int32 × PF × PG} (C : mMC p R s m args c A v RX12 cX12_look 3 0 0) (hret : ∀ (H1 : Heap) (locs1 : List Loc) (ls1 : Array Slot) (pc : Nat), mMW s A v a res.2.1 res.2.2 H1 locs1 → narrow .int (.int res.1) = .int res.1 → decode cX12_look pc = .ok (.ireturn, 1) → W p l e R s m args below meth c H1 locs1 0 0 Q (F0 m pc ls1 [.int res.1])) (x1 : Int32) (x2 : Int32) (F : PF) (G : PG) (hm : mb_look_79 fu x1 x2 F G = some res) {H : Heap} {locs : List Loc} (hw : mMW s A v a F G H locs) {ls : Array Slot} (hl : lv_has ls 3 [(0, .ref (a 212)), (1, .int x1), (2, .int x2)]) : W p l e R s m args below meth c H locs 0 0 Q (F0 m 79 ls []) := by
  have hx := C.1
  have hb := C.2.1
  unfold mb_look_79 at hm
  refine lv_iload_n hx hb dX12_look_79 rfl (lv_at hl 1 rfl) ?_
  refine lv_iconst (v := 4) hx hb dX12_look_80 (by decide) ?_
  refine lv_icmp_ne (tgt := 93) hx hb dX12_look_81 (by decide) (fun c_1 => ?_) (fun c_1 => ?_)
  · have hm := (if_neg c_1).symm.trans hm
    exact mw_look_93 fu C hret x2 F G hm hw (lv_sub hl [0, 2] rfl)
  · have hm := (if_pos c_1).symm.trans hm
    exact mw_look_84 fu C hret x2 F G hm hw (lv_sub hl [0, 2] rfl)
theorem mw_look_70 (fu : Nat) {res : Int32 × PF × PG} (C : mMC p R s m args c A v RX12 cX12_look 3 0 0) (hret : ∀ (H1 : Heap) (locs1 : List Loc) (ls1 : Array Slot) (pc : Nat), mMW s A v a res.2.1 res.2.2 H1 locs1 → narrow .int (.int res.1) = .int res.1 → decode cX12_look pc = .ok (.ireturn, 1) → W p l e R s m args below meth c H1 locs1 0 0 Q (F0 m pc ls1 [.int res.1])) (x2 : Int32) (F : PF) (G : PG) (hm : mb_look_70 fu x2 F G = some res) {H : Heap} {locs : List Loc} (hw : mMW s A v a F G H locs) {ls : Array Slot} (hl : lv_has ls 3 [(0, .ref (a 212)), (2, .int x2)]) : W p l e R s m args below meth c H locs 0 0 Q (F0 m 70 ls []) := by
  have hx := C.1
  have hb := C.2.1
  unfold mb_look_70 at hm
  refine lv_aload_n hx hb dX12_look_70 rfl (lv_at hl 0 rfl) ?_
  refine mg_X12_68 C hw dX12_look_71 ?_
  refine lv_iload_n hx hb dX12_look_74 rfl (lv_at hl 1 rfl) ?_
  obtain ⟨hi, hm⟩ := ix_elim hm
  refine mal_27 C hw hi dX12_look_75 ?_
  refine lv_goto (tgt := 107) hx hb dX12_look_76 (by decide) ?_
  exact mw_look_107 fu C hret (G 27 x2.toNatClampNeg) F G hm hw (lv_sub hl [] rfl)
theorem mw_look_65 (fu : Nat) {res : Int32 × PF × PG} (C : mMC p R s m args c A v RX12 cX12_look 3 0 0) (hret : ∀ (H1 : Heap) (locs1 : List Loc) (ls1 : Array Slot) (pc : Nat), mMW s A v a res.2.1 res.2.2 H1 locs1 → narrow .int (.int res.1) = .int res.1 → decode cX12_look pc = .ok (.ireturn, 1) → W p l e R s m args below meth c H1 locs1 0 0 Q (F0 m pc ls1 [.int res.1])) (x1 : Int32) (x2 : Int32) (F : PF) (G : PG) (hm : mb_look_65 fu x1 x2 F G = some res) {H : Heap} {locs : List Loc} (hw : mMW s A v a F G H locs) {ls : Array Slot} (hl : lv_has ls 3 [(0, .ref (a 212)), (1, .int x1), (2, .int x2)]) : W p l e R s m args below meth c H locs 0 0 Q (F0 m 65 ls []) := by
  have hx := C.1
  have hb := C.2.1
  unfold mb_look_65 at hm
  refine lv_iload_n hx hb dX12_look_65 rfl (lv_at hl 1 rfl) ?_
  refine lv_iconst (v := 3) hx hb dX12_look_66 (by decide) ?_
  refine lv_icmp_ne (tgt := 79) hx hb dX12_look_67 (by decide) (fun c_1 => ?_) (fun c_1 => ?_)
  · have hm := (if_neg c_1).symm.trans hm
    exact mw_look_79 fu C hret x1 x2 F G hm hw (lv_sub hl [0, 1, 2] rfl)
  · have hm := (if_pos c_1).symm.trans hm
    exact mw_look_70 fu C hret x2 F G hm hw (lv_sub hl [0, 2] rfl)
theorem mw_look_56 (fu : Nat) {res : Int32 × PF × PG} (C : mMC p R s m args c A v RX12 cX12_look 3 0 0) (hret : ∀ (H1 : Heap) (locs1 : List Loc) (ls1 : Array Slot) (pc : Nat), mMW s A v a res.2.1 res.2.2 H1 locs1 → narrow .int (.int res.1) = .int res.1 → decode cX12_look pc = .ok (.ireturn, 1) → W p l e R s m args below meth c H1 locs1 0 0 Q (F0 m pc ls1 [.int res.1])) (x2 : Int32) (F : PF) (G : PG) (hm : mb_look_56 fu x2 F G = some res) {H : Heap} {locs : List Loc} (hw : mMW s A v a F G H locs) {ls : Array Slot} (hl : lv_has ls 3 [(0, .ref (a 212)), (2, .int x2)]) : W p l e R s m args below meth c H locs 0 0 Q (F0 m 56 ls []) := by
  have hx := C.1
  have hb := C.2.1
  unfold mb_look_56 at hm
  refine lv_aload_n hx hb dX12_look_56 rfl (lv_at hl 0 rfl) ?_
  refine mg_X12_65 C hw dX12_look_57 ?_
  refine lv_iload_n hx hb dX12_look_60 rfl (lv_at hl 1 rfl) ?_
  obtain ⟨hi, hm⟩ := ix_elim hm
  refine mal_26 C hw hi dX12_look_61 ?_
  refine lv_goto (tgt := 107) hx hb dX12_look_62 (by decide) ?_
  exact mw_look_107 fu C hret (G 26 x2.toNatClampNeg) F G hm hw (lv_sub hl [] rfl)
theorem mw_look_51 (fu : Nat) {res : Int32 × PF × PG} (C : mMC p R s m args c A v RX12 cX12_look 3 0 0) (hret : ∀ (H1 : Heap) (locs1 : List Loc) (ls1 : Array Slot) (pc : Nat), mMW s A v a res.2.1 res.2.2 H1 locs1 → narrow .int (.int res.1) = .int res.1 → decode cX12_look pc = .ok (.ireturn, 1) → W p l e R s m args below meth c H1 locs1 0 0 Q (F0 m pc ls1 [.int res.1])) (x1 : Int32) (x2 : Int32) (F : PF) (G : PG) (hm : mb_look_51 fu x1 x2 F G = some res) {H : Heap} {locs : List Loc} (hw : mMW s A v a F G H locs) {ls : Array Slot} (hl : lv_has ls 3 [(0, .ref (a 212)), (1, .int x1), (2, .int x2)]) : W p l e R s m args below meth c H locs 0 0 Q (F0 m 51 ls []) := by
  have hx := C.1
  have hb := C.2.1
  unfold mb_look_51 at hm
  refine lv_iload_n hx hb dX12_look_51 rfl (lv_at hl 1 rfl) ?_
  refine lv_iconst (v := 2) hx hb dX12_look_52 (by decide) ?_
  refine lv_icmp_ne (tgt := 65) hx hb dX12_look_53 (by decide) (fun c_1 => ?_) (fun c_1 => ?_)
  · have hm := (if_neg c_1).symm.trans hm
    exact mw_look_65 fu C hret x1 x2 F G hm hw (lv_sub hl [0, 1, 2] rfl)
  · have hm := (if_pos c_1).symm.trans hm
    exact mw_look_56 fu C hret x2 F G hm hw (lv_sub hl [0, 2] rfl)
theorem mw_look_41 (fu : Nat) {res : Int32 × PF × PG} (C : mMC p R s m args c A v RX12 cX12_look 3 0 0) (hret : ∀ (H1 : Heap) (locs1 : List Loc) (ls1 : Array Slot) (pc : Nat), mMW s A v a res.2.1 res.2.2 H1 locs1 → narrow .int (.int res.1) = .int res.1 → decode cX12_look pc = .ok (.ireturn, 1) → W p l e R s m args below meth c H1 locs1 0 0 Q (F0 m pc ls1 [.int res.1])) (x1 : Int32) (x2 : Int32) (F : PF) (G : PG) (hm : mb_look_41 fu x1 x2 F G = some res) {H : Heap} {locs : List Loc} (hw : mMW s A v a F G H locs) {ls : Array Slot} (hl : lv_has ls 3 [(0, .ref (a 212)), (1, .int x1), (2, .int x2)]) : W p l e R s m args below meth c H locs 0 0 Q (F0 m 41 ls []) := by
  have hx := C.1
  have hb := C.2.1
  unfold mb_look_41 at hm
  refine lv_iload_n hx hb dX12_look_41 rfl (lv_at hl 2 rfl) ?_
  refine lv_aload_n hx hb dX12_look_42 rfl (lv_at hl 0 rfl) ?_
  refine mg_X12_297 C hw dX12_look_43 ?_
  refine lv_icmp_lt (tgt := 51) hx hb dX12_look_46 (by decide) (fun c_1 => ?_) (fun c_1 => ?_)
  · have hm := (if_pos c_1).symm.trans hm
    exact mw_look_51 fu C hret x1 x2 F G hm hw (lv_sub hl [0, 1, 2] rfl)
  · have hm := (if_neg c_1).symm.trans hm
    exact mw_look_49 fu C hret F G hm hw (lv_sub hl [] rfl)
theorem mw_look_37 (fu : Nat) {res : Int32 × PF × PG} (C : mMC p R s m args c A v RX12 cX12_look 3 0 0) (hret : ∀ (H1 : Heap) (locs1 : List Loc) (ls1 : Array Slot) (pc : Nat), mMW s A v a res.2.1 res.2.2 H1 locs1 → narrow .int (.int res.1) = .int res.1 → decode cX12_look pc = .ok (.ireturn, 1) → W p l e R s m args below meth c H1 locs1 0 0 Q (F0 m pc ls1 [.int res.1])) (x1 : Int32) (x2 : Int32) (F : PF) (G : PG) (hm : mb_look_37 fu x1 x2 F G = some res) {H : Heap} {locs : List Loc} (hw : mMW s A v a F G H locs) {ls : Array Slot} (hl : lv_has ls 3 [(0, .ref (a 212)), (1, .int x1), (2, .int x2)]) : W p l e R s m args below meth c H locs 0 0 Q (F0 m 37 ls []) := by
  have hx := C.1
  have hb := C.2.1
  unfold mb_look_37 at hm
  refine lv_iload_n hx hb dX12_look_37 rfl (lv_at hl 2 rfl) ?_
  refine lv_if_lt (tgt := 49) hx hb dX12_look_38 (by decide) (fun c_1 => ?_) (fun c_1 => ?_)
  · have hm := (if_pos c_1).symm.trans hm
    exact mw_look_49 fu C hret F G hm hw (lv_sub hl [] rfl)
  · have hm := (if_neg c_1).symm.trans hm
    exact mw_look_41 fu C hret x1 x2 F G hm hw (lv_sub hl [0, 1, 2] rfl)
theorem mw_look_32 (fu : Nat) {res : Int32 × PF × PG} (C : mMC p R s m args c A v RX12 cX12_look 3 0 0) (hret : ∀ (H1 : Heap) (locs1 : List Loc) (ls1 : Array Slot) (pc : Nat), mMW s A v a res.2.1 res.2.2 H1 locs1 → narrow .int (.int res.1) = .int res.1 → decode cX12_look pc = .ok (.ireturn, 1) → W p l e R s m args below meth c H1 locs1 0 0 Q (F0 m pc ls1 [.int res.1])) (x1 : Int32) (x2 : Int32) (F : PF) (G : PG) (hm : mb_look_32 fu x1 x2 F G = some res) {H : Heap} {locs : List Loc} (hw : mMW s A v a F G H locs) {ls : Array Slot} (hl : lv_has ls 3 [(0, .ref (a 212)), (1, .int x1), (2, .int x2)]) : W p l e R s m args below meth c H locs 0 0 Q (F0 m 32 ls []) := by
  have hx := C.1
  have hb := C.2.1
  unfold mb_look_32 at hm
  refine lv_iload_n hx hb dX12_look_32 rfl (lv_at hl 1 rfl) ?_
  refine lv_iconst (v := 5) hx hb dX12_look_33 (by decide) ?_
  refine lv_icmp_gt (tgt := 49) hx hb dX12_look_34 (by decide) (fun c_1 => ?_) (fun c_1 => ?_)
  · have hm := (if_pos c_1).symm.trans hm
    exact mw_look_49 fu C hret F G hm hw (lv_sub hl [] rfl)
  · have hm := (if_neg c_1).symm.trans hm
    exact mw_look_37 fu C hret x1 x2 F G hm hw (lv_sub hl [0, 1, 2] rfl)
theorem mw_look_28 (fu : Nat) {res : Int32 × PF × PG} (C : mMC p R s m args c A v RX12 cX12_look 3 0 0) (hret : ∀ (H1 : Heap) (locs1 : List Loc) (ls1 : Array Slot) (pc : Nat), mMW s A v a res.2.1 res.2.2 H1 locs1 → narrow .int (.int res.1) = .int res.1 → decode cX12_look pc = .ok (.ireturn, 1) → W p l e R s m args below meth c H1 locs1 0 0 Q (F0 m pc ls1 [.int res.1])) (x1 : Int32) (x2 : Int32) (F : PF) (G : PG) (hm : mb_look_28 fu x1 x2 F G = some res) {H : Heap} {locs : List Loc} (hw : mMW s A v a F G H locs) {ls : Array Slot} (hl : lv_has ls 3 [(0, .ref (a 212)), (1, .int x1), (2, .int x2)]) : W p l e R s m args below meth c H locs 0 0 Q (F0 m 28 ls []) := by
  have hx := C.1
  have hb := C.2.1
  unfold mb_look_28 at hm
  refine lv_iload_n hx hb dX12_look_28 rfl (lv_at hl 1 rfl) ?_
  refine lv_if_lt (tgt := 49) hx hb dX12_look_29 (by decide) (fun c_1 => ?_) (fun c_1 => ?_)
  · have hm := (if_pos c_1).symm.trans hm
    exact mw_look_49 fu C hret F G hm hw (lv_sub hl [] rfl)
  · have hm := (if_neg c_1).symm.trans hm
    exact mw_look_32 fu C hret x1 x2 F G hm hw (lv_sub hl [0, 1, 2] rfl)
theorem mw_look_23 (fu : Nat) {res : Int32 × PF × PG} (C : mMC p R s m args c A v RX12 cX12_look 3 0 0) (hret : ∀ (H1 : Heap) (locs1 : List Loc) (ls1 : Array Slot) (pc : Nat), mMW s A v a res.2.1 res.2.2 H1 locs1 → narrow .int (.int res.1) = .int res.1 → decode cX12_look pc = .ok (.ireturn, 1) → W p l e R s m args below meth c H1 locs1 0 0 Q (F0 m pc ls1 [.int res.1])) (F : PF) (G : PG) (hm : mb_look_23 fu F G = some res) {H : Heap} {locs : List Loc} (hw : mMW s A v a F G H locs) {ls : Array Slot} (hl : lv_has ls 3 [(0, .ref (a 212))]) : W p l e R s m args below meth c H locs 0 0 Q (F0 m 23 ls []) := by
  have hx := C.1
  have hb := C.2.1
  unfold mb_look_23 at hm
  refine lv_aload_n hx hb dX12_look_23 rfl (lv_at hl 0 rfl) ?_
  refine mg_X12_288 C hw dX12_look_24 ?_
  obtain rfl := Option.some.inj hm
  exact hret _ _ _ _ hw rfl dX12_look_27
theorem mw_look_18 (fu : Nat) {res : Int32 × PF × PG} (C : mMC p R s m args c A v RX12 cX12_look 3 0 0) (hret : ∀ (H1 : Heap) (locs1 : List Loc) (ls1 : Array Slot) (pc : Nat), mMW s A v a res.2.1 res.2.2 H1 locs1 → narrow .int (.int res.1) = .int res.1 → decode cX12_look pc = .ok (.ireturn, 1) → W p l e R s m args below meth c H1 locs1 0 0 Q (F0 m pc ls1 [.int res.1])) (x1 : Int32) (x2 : Int32) (F : PF) (G : PG) (hm : mb_look_18 fu x1 x2 F G = some res) {H : Heap} {locs : List Loc} (hw : mMW s A v a F G H locs) {ls : Array Slot} (hl : lv_has ls 3 [(0, .ref (a 212)), (1, .int x1), (2, .int x2)]) : W p l e R s m args below meth c H locs 0 0 Q (F0 m 18 ls []) := by
  have hx := C.1
  have hb := C.2.1
  unfold mb_look_18 at hm
  refine lv_iload_n hx hb dX12_look_18 rfl (lv_at hl 1 rfl) ?_
  refine lv_iconst (v := 1) hx hb dX12_look_19 (by decide) ?_
  refine lv_icmp_ne (tgt := 28) hx hb dX12_look_20 (by decide) (fun c_1 => ?_) (fun c_1 => ?_)
  · have hm := (if_neg c_1).symm.trans hm
    exact mw_look_28 fu C hret x1 x2 F G hm hw (lv_sub hl [0, 1, 2] rfl)
  · have hm := (if_pos c_1).symm.trans hm
    exact mw_look_23 fu C hret F G hm hw (lv_sub hl [0] rfl)
theorem mw_look_13 (fu : Nat) {res : Int32 × PF × PG} (C : mMC p R s m args c A v RX12 cX12_look 3 0 0) (hret : ∀ (H1 : Heap) (locs1 : List Loc) (ls1 : Array Slot) (pc : Nat), mMW s A v a res.2.1 res.2.2 H1 locs1 → narrow .int (.int res.1) = .int res.1 → decode cX12_look pc = .ok (.ireturn, 1) → W p l e R s m args below meth c H1 locs1 0 0 Q (F0 m pc ls1 [.int res.1])) (F : PF) (G : PG) (hm : mb_look_13 fu F G = some res) {H : Heap} {locs : List Loc} (hw : mMW s A v a F G H locs) {ls : Array Slot} (hl : lv_has ls 3 [(0, .ref (a 212))]) : W p l e R s m args below meth c H locs 0 0 Q (F0 m 13 ls []) := by
  have hx := C.1
  have hb := C.2.1
  unfold mb_look_13 at hm
  refine lv_aload_n hx hb dX12_look_13 rfl (lv_at hl 0 rfl) ?_
  refine mg_X12_297 C hw dX12_look_14 ?_
  obtain rfl := Option.some.inj hm
  exact hret _ _ _ _ hw rfl dX12_look_17
theorem mw_look_9 (fu : Nat) {res : Int32 × PF × PG} (C : mMC p R s m args c A v RX12 cX12_look 3 0 0) (hret : ∀ (H1 : Heap) (locs1 : List Loc) (ls1 : Array Slot) (pc : Nat), mMW s A v a res.2.1 res.2.2 H1 locs1 → narrow .int (.int res.1) = .int res.1 → decode cX12_look pc = .ok (.ireturn, 1) → W p l e R s m args below meth c H1 locs1 0 0 Q (F0 m pc ls1 [.int res.1])) (x1 : Int32) (x2 : Int32) (F : PF) (G : PG) (hm : mb_look_9 fu x1 x2 F G = some res) {H : Heap} {locs : List Loc} (hw : mMW s A v a F G H locs) {ls : Array Slot} (hl : lv_has ls 3 [(0, .ref (a 212)), (1, .int x1), (2, .int x2)]) : W p l e R s m args below meth c H locs 0 0 Q (F0 m 9 ls []) := by
  have hx := C.1
  have hb := C.2.1
  unfold mb_look_9 at hm
  refine lv_iload_n hx hb dX12_look_9 rfl (lv_at hl 1 rfl) ?_
  refine lv_if_ne (tgt := 18) hx hb dX12_look_10 (by decide) (fun c_1 => ?_) (fun c_1 => ?_)
  · have hm := (if_neg c_1).symm.trans hm
    exact mw_look_18 fu C hret x1 x2 F G hm hw (lv_sub hl [0, 1, 2] rfl)
  · have hm := (if_pos c_1).symm.trans hm
    exact mw_look_13 fu C hret F G hm hw (lv_sub hl [0] rfl)
theorem mw_look_7 (fu : Nat) {res : Int32 × PF × PG} (C : mMC p R s m args c A v RX12 cX12_look 3 0 0) (hret : ∀ (H1 : Heap) (locs1 : List Loc) (ls1 : Array Slot) (pc : Nat), mMW s A v a res.2.1 res.2.2 H1 locs1 → narrow .int (.int res.1) = .int res.1 → decode cX12_look pc = .ok (.ireturn, 1) → W p l e R s m args below meth c H1 locs1 0 0 Q (F0 m pc ls1 [.int res.1])) (F : PF) (G : PG) (hm : mb_look_7 fu F G = some res) {H : Heap} {locs : List Loc} (hw : mMW s A v a F G H locs) {ls : Array Slot} (hl : lv_has ls 3 []) : W p l e R s m args below meth c H locs 0 0 Q (F0 m 7 ls []) := by
  have hx := C.1
  have hb := C.2.1
  unfold mb_look_7 at hm
  refine lv_iconst (v := (-1)) hx hb dX12_look_7 (by decide) ?_
  obtain rfl := Option.some.inj hm
  exact hret _ _ _ _ hw rfl dX12_look_8
theorem mw_look_0 (fu : Nat) {res : Int32 × PF × PG} (C : mMC p R s m args c A v RX12 cX12_look 3 0 0) (hret : ∀ (H1 : Heap) (locs1 : List Loc) (ls1 : Array Slot) (pc : Nat), mMW s A v a res.2.1 res.2.2 H1 locs1 → narrow .int (.int res.1) = .int res.1 → decode cX12_look pc = .ok (.ireturn, 1) → W p l e R s m args below meth c H1 locs1 0 0 Q (F0 m pc ls1 [.int res.1])) (x1 : Int32) (x2 : Int32) (F : PF) (G : PG) (hm : mb_look_0 fu x1 x2 F G = some res) {H : Heap} {locs : List Loc} (hw : mMW s A v a F G H locs) {ls : Array Slot} (hl : lv_has ls 3 [(0, .ref (a 212)), (1, .int x1), (2, .int x2)]) : W p l e R s m args below meth c H locs 0 0 Q (F0 m 0 ls []) := by
  have hx := C.1
  have hb := C.2.1
  unfold mb_look_0 at hm
  refine lv_aload_n hx hb dX12_look_0 rfl (lv_at hl 0 rfl) ?_
  refine mg_X12_509 C hw dX12_look_1 ?_
  refine lv_if_ne (tgt := 9) hx hb dX12_look_4 (by decide) (fun c_1 => ?_) (fun c_1 => ?_)
  · have hm := (if_neg c_1).symm.trans hm
    exact mw_look_9 fu C hret x1 x2 F G hm hw (lv_sub hl [0, 1, 2] rfl)
  · have hm := (if_pos c_1).symm.trans hm
    exact mw_look_7 fu C hret F G hm hw (lv_sub hl [] rfl)
theorem mk_look (l : Launch) (v : EV) (a : Nat → Nat) (sz : Nat) (fu : Nat) (x1 : Int32) (x2 : Int32) (F : PF) (G : PG) (r : Int32) (F1 : PF) (G1 : PG) (hm : mf_look fu x1 x2 F G = some (r, F1, G1)) : mMI l yX12_look cX12_look 3 (some .int) 0 0 v a sz [.ref (a 212), .int x1, .int x2] F G r F1 G1 := mMI.of (ty := .int) (by decide) rfl (Nat.le_of_ble_eq_true rfl) (fun p e R s m args below meth c Q A H locs ls C hw hl hret => mw_look_0 fu (res := (r, F1, G1)) C hret x1 x2 F G hm hw hl)
def mb_give_17 (fu : Nat) (F : PF) (G : PG) : PR := some ((-1), F, G)
def mb_give_39 (fu : Nat) (F : PF) (G : PG) : PR := some ((F 80), F, G)
def mb_give_29 (fu : Nat) (F : PF) (G : PG) : PR := mb_give_39 fu (fup F 80 ((F 80) + (1 : Int32))) G
def mb_give_19 (fu : Nat) (x1 : Int32) (F : PF) (G : PG) : PR := if ixb (F 80) 500 = true then (mb_give_29 fu F (gup G 88 (F 80).toNatClampNeg x1)) else none
def mb_give_7 (fu : Nat) (x1 : Int32) (F : PF) (G : PG) : PR := if (F 80) = (500 : Int32) then mb_give_17 fu F G else mb_give_19 fu x1 F G
def mb_give_0 (fu : Nat) (x1 : Int32) (F : PF) (G : PG) : PR := if (F 73) = (0 : Int32) then mb_give_17 fu F G else mb_give_7 fu x1 F G
def mf_give (fu : Nat) (x1 : Int32) (F : PF) (G : PG) : PR := mb_give_0 fu x1 F G
theorem mw_give_17 (fu : Nat) {res : Int32 × PF × PG} (C : mMC p R s m args c A v RX12 cX12_give 2 0 0) (hret : ∀ (H1 : Heap) (locs1 : List Loc) (ls1 : Array Slot) (pc : Nat), mMW s A v a res.2.1 res.2.2 H1 locs1 → narrow .int (.int res.1) = .int res.1 → decode cX12_give pc = .ok (.ireturn, 1) → W p l e R s m args below meth c H1 locs1 0 0 Q (F0 m pc ls1 [.int res.1])) (F : PF) (G : PG) (hm : mb_give_17 fu F G = some res) {H : Heap} {locs : List Loc} (hw : mMW s A v a F G H locs) {ls : Array Slot} (hl : lv_has ls 2 []) : W p l e R s m args below meth c H locs 0 0 Q (F0 m 17 ls []) := by
  have hx := C.1
  have hb := C.2.1
  unfold mb_give_17 at hm
  refine lv_iconst (v := (-1)) hx hb dX12_give_17 (by decide) ?_
  obtain rfl := Option.some.inj hm
  exact hret _ _ _ _ hw rfl dX12_give_18
theorem mw_give_39 (fu : Nat) {res : Int32 × PF × PG} (C : mMC p R s m args c A v RX12 cX12_give 2 0 0) (hret : ∀ (H1 : Heap) (locs1 : List Loc) (ls1 : Array Slot) (pc : Nat), mMW s A v a res.2.1 res.2.2 H1 locs1 → narrow .int (.int res.1) = .int res.1 → decode cX12_give pc = .ok (.ireturn, 1) → W p l e R s m args below meth c H1 locs1 0 0 Q (F0 m pc ls1 [.int res.1])) (F : PF) (G : PG) (hm : mb_give_39 fu F G = some res) {H : Heap} {locs : List Loc} (hw : mMW s A v a F G H locs) {ls : Array Slot} (hl : lv_has ls 2 [(0, .ref (a 212))]) : W p l e R s m args below meth c H locs 0 0 Q (F0 m 39 ls []) := by
  have hx := C.1
  have hb := C.2.1
  unfold mb_give_39 at hm
  refine lv_aload_n hx hb dX12_give_39 rfl (lv_at hl 0 rfl) ?_
  refine mg_X12_515 C hw dX12_give_40 ?_
  obtain rfl := Option.some.inj hm
  exact hret _ _ _ _ hw rfl dX12_give_43
theorem mw_give_29 (fu : Nat) {res : Int32 × PF × PG} (C : mMC p R s m args c A v RX12 cX12_give 2 0 0) (hret : ∀ (H1 : Heap) (locs1 : List Loc) (ls1 : Array Slot) (pc : Nat), mMW s A v a res.2.1 res.2.2 H1 locs1 → narrow .int (.int res.1) = .int res.1 → decode cX12_give pc = .ok (.ireturn, 1) → W p l e R s m args below meth c H1 locs1 0 0 Q (F0 m pc ls1 [.int res.1])) (F : PF) (G : PG) (hm : mb_give_29 fu F G = some res) {H : Heap} {locs : List Loc} (hw : mMW s A v a F G H locs) {ls : Array Slot} (hl : lv_has ls 2 [(0, .ref (a 212))]) : W p l e R s m args below meth c H locs 0 0 Q (F0 m 29 ls []) := by
  have hx := C.1
  have hb := C.2.1
  unfold mb_give_29 at hm
  refine lv_aload_n hx hb dX12_give_29 rfl (lv_at hl 0 rfl) ?_
  refine lv_dup hx hb dX12_give_30 rfl ?_
  refine mg_X12_515 C hw dX12_give_31 ?_
  refine lv_iconst (v := 1) hx hb dX12_give_34 (by decide) ?_
  refine lv_iadd hx hb dX12_give_35 ?_
  refine mp_X12_515 C hw dX12_give_36 (fun H locs hw => ?_)
  exact mw_give_39 fu C hret (fup F 80 ((F 80) + (1 : Int32))) G hm hw (lv_sub hl [0] rfl)
theorem mw_give_19 (fu : Nat) {res : Int32 × PF × PG} (C : mMC p R s m args c A v RX12 cX12_give 2 0 0) (hret : ∀ (H1 : Heap) (locs1 : List Loc) (ls1 : Array Slot) (pc : Nat), mMW s A v a res.2.1 res.2.2 H1 locs1 → narrow .int (.int res.1) = .int res.1 → decode cX12_give pc = .ok (.ireturn, 1) → W p l e R s m args below meth c H1 locs1 0 0 Q (F0 m pc ls1 [.int res.1])) (x1 : Int32) (F : PF) (G : PG) (hm : mb_give_19 fu x1 F G = some res) {H : Heap} {locs : List Loc} (hw : mMW s A v a F G H locs) {ls : Array Slot} (hl : lv_has ls 2 [(0, .ref (a 212)), (1, .int x1)]) : W p l e R s m args below meth c H locs 0 0 Q (F0 m 19 ls []) := by
  have hx := C.1
  have hb := C.2.1
  unfold mb_give_19 at hm
  refine lv_aload_n hx hb dX12_give_19 rfl (lv_at hl 0 rfl) ?_
  refine mg_X12_129 C hw dX12_give_20 ?_
  refine lv_aload_n hx hb dX12_give_23 rfl (lv_at hl 0 rfl) ?_
  refine mg_X12_515 C hw dX12_give_24 ?_
  refine lv_iload_n hx hb dX12_give_27 rfl (lv_at hl 1 rfl) ?_
  obtain ⟨hi, hm⟩ := ix_elim hm
  refine mas_88 C hw hi dX12_give_28 (fun H locs hw => ?_)
  exact mw_give_29 fu C hret F (gup G 88 (F 80).toNatClampNeg x1) hm hw (lv_sub hl [0] rfl)
theorem mw_give_7 (fu : Nat) {res : Int32 × PF × PG} (C : mMC p R s m args c A v RX12 cX12_give 2 0 0) (hret : ∀ (H1 : Heap) (locs1 : List Loc) (ls1 : Array Slot) (pc : Nat), mMW s A v a res.2.1 res.2.2 H1 locs1 → narrow .int (.int res.1) = .int res.1 → decode cX12_give pc = .ok (.ireturn, 1) → W p l e R s m args below meth c H1 locs1 0 0 Q (F0 m pc ls1 [.int res.1])) (x1 : Int32) (F : PF) (G : PG) (hm : mb_give_7 fu x1 F G = some res) {H : Heap} {locs : List Loc} (hw : mMW s A v a F G H locs) {ls : Array Slot} (hl : lv_has ls 2 [(0, .ref (a 212)), (1, .int x1)]) : W p l e R s m args below meth c H locs 0 0 Q (F0 m 7 ls []) := by
  have hx := C.1
  have hb := C.2.1
  unfold mb_give_7 at hm
  refine lv_aload_n hx hb dX12_give_7 rfl (lv_at hl 0 rfl) ?_
  refine mg_X12_515 C hw dX12_give_8 ?_
  refine lv_sipush (v := 500) hx hb dX12_give_11 (by decide) ?_
  refine lv_icmp_ne (tgt := 19) hx hb dX12_give_14 (by decide) (fun c_1 => ?_) (fun c_1 => ?_)
  · have hm := (if_neg c_1).symm.trans hm
    exact mw_give_19 fu C hret x1 F G hm hw (lv_sub hl [0, 1] rfl)
  · have hm := (if_pos c_1).symm.trans hm
    exact mw_give_17 fu C hret F G hm hw (lv_sub hl [] rfl)
theorem mw_give_0 (fu : Nat) {res : Int32 × PF × PG} (C : mMC p R s m args c A v RX12 cX12_give 2 0 0) (hret : ∀ (H1 : Heap) (locs1 : List Loc) (ls1 : Array Slot) (pc : Nat), mMW s A v a res.2.1 res.2.2 H1 locs1 → narrow .int (.int res.1) = .int res.1 → decode cX12_give pc = .ok (.ireturn, 1) → W p l e R s m args below meth c H1 locs1 0 0 Q (F0 m pc ls1 [.int res.1])) (x1 : Int32) (F : PF) (G : PG) (hm : mb_give_0 fu x1 F G = some res) {H : Heap} {locs : List Loc} (hw : mMW s A v a F G H locs) {ls : Array Slot} (hl : lv_has ls 2 [(0, .ref (a 212)), (1, .int x1)]) : W p l e R s m args below meth c H locs 0 0 Q (F0 m 0 ls []) := by
  have hx := C.1
  have hb := C.2.1
  unfold mb_give_0 at hm
  refine lv_aload_n hx hb dX12_give_0 rfl (lv_at hl 0 rfl) ?_
  refine mg_X12_509 C hw dX12_give_1 ?_
  refine lv_if_eq (tgt := 17) hx hb dX12_give_4 (by decide) (fun c_1 => ?_) (fun c_1 => ?_)
  · have hm := (if_pos c_1).symm.trans hm
    exact mw_give_17 fu C hret F G hm hw (lv_sub hl [] rfl)
  · have hm := (if_neg c_1).symm.trans hm
    exact mw_give_7 fu C hret x1 F G hm hw (lv_sub hl [0, 1] rfl)
theorem mk_give (l : Launch) (v : EV) (a : Nat → Nat) (sz : Nat) (fu : Nat) (x1 : Int32) (F : PF) (G : PG) (r : Int32) (F1 : PF) (G1 : PG) (hm : mf_give fu x1 F G = some (r, F1, G1)) : mMI l yX12_give cX12_give 2 (some .int) 0 0 v a sz [.ref (a 212), .int x1] F G r F1 G1 := mMI.of (ty := .int) (by decide) rfl (Nat.le_of_ble_eq_true rfl) (fun p e R s m args below meth c Q A H locs ls C hw hl hret => mw_give_0 fu (res := (r, F1, G1)) C hret x1 F G hm hw hl)
def mb_begin_19 (fu : Nat) (F : PF) (G : PG) : PR := some (0, F, G)
def mb_begin_94 (fu : Nat) (F : PF) (G : PG) : PR := some (1, F, G)
def mb_begin_88 (fu : Nat) (ag_68 : Int32 → PF → PG → PR) (x2 : Int32) (F : PF) (G : PG) : PR := ag_68 (x2 + 1) F G
def mb_begin_76 (fu : Nat) (ag_68 : Int32 → PF → PG → PR) (x2 : Int32) (F : PF) (G : PG) : PR := if ixb x2 8008 = true then (if ixb x2 20000 = true then (mb_begin_88 fu ag_68 x2 F (gup G 90 x2.toNatClampNeg (G 41 x2.toNatClampNeg))) else none) else none
def mb_begin_68 (fu : Nat) (ag_68 : Int32 → PF → PG → PR) (x2 : Int32) (F : PF) (G : PG) : PR := if (F 37) ≤ x2 then mb_begin_94 fu F G else mb_begin_76 fu ag_68 x2 F G
def ml_begin_68 (fu : Nat) : Nat → Int32 → PF → PG → PR
  | 0 => fun _ _ _ => none
  | n + 1 => fun x2 F G => mb_begin_68 fu (ml_begin_68 fu n) x2 F G
def mb_begin_66 (fu : Nat) (F : PF) (G : PG) : PR := ml_begin_68 fu fu 0 F G
def mb_begin_61 (fu : Nat) (F : PF) (G : PG) : PR := mb_begin_66 fu (fup F 72 (0 : Int32)) G
def mb_begin_56 (fu : Nat) (F : PF) (G : PG) : PR := mb_begin_61 fu (fup F 83 (0 : Int32)) G
def mb_begin_51 (fu : Nat) (F : PF) (G : PG) : PR := mb_begin_56 fu (fup F 82 (-1 : Int32)) G
def mb_begin_46 (fu : Nat) (F : PF) (G : PG) : PR := mb_begin_51 fu (fup F 81 (0 : Int32)) G
def mb_begin_41 (fu : Nat) (F : PF) (G : PG) : PR := mb_begin_46 fu (fup F 79 (0 : Int32)) G
def mb_begin_36 (fu : Nat) (F : PF) (G : PG) : PR := mb_begin_41 fu (fup F 77 (0 : Int32)) G
def mb_begin_31 (fu : Nat) (F : PF) (G : PG) : PR := mb_begin_36 fu (fup F 85 (0 : Int32)) G
def mb_begin_26 (fu : Nat) (F : PF) (G : PG) : PR := mb_begin_31 fu (fup F 75 (1 : Int32)) G
def mb_begin_21 (fu : Nat) (x1 : Int32) (F : PF) (G : PG) : PR := mb_begin_26 fu (fup F 84 x1) G
def mb_begin_12 (fu : Nat) (x1 : Int32) (F : PF) (G : PG) : PR := if x1 ≤ (2000 : Int32) then mb_begin_21 fu x1 F G else mb_begin_19 fu F G
def mb_begin_7 (fu : Nat) (x1 : Int32) (F : PF) (G : PG) : PR := if x1 < (4 : Int32) then mb_begin_19 fu F G else mb_begin_12 fu x1 F G
def mb_begin_0 (fu : Nat) (x1 : Int32) (F : PF) (G : PG) : PR := if (F 73) = (0 : Int32) then mb_begin_19 fu F G else mb_begin_7 fu x1 F G
def mf_begin (fu : Nat) (x1 : Int32) (F : PF) (G : PG) : PR := mb_begin_0 fu x1 F G
theorem mw_begin_19 (fu : Nat) {res : Int32 × PF × PG} (C : mMC p R s m args c A v RX12 cX12_begin 3 0 0) (hret : ∀ (H1 : Heap) (locs1 : List Loc) (ls1 : Array Slot) (pc : Nat), mMW s A v a res.2.1 res.2.2 H1 locs1 → narrow .boolean (.int res.1) = .int res.1 → decode cX12_begin pc = .ok (.ireturn, 1) → W p l e R s m args below meth c H1 locs1 0 0 Q (F0 m pc ls1 [.int res.1])) (F : PF) (G : PG) (hm : mb_begin_19 fu F G = some res) {H : Heap} {locs : List Loc} (hw : mMW s A v a F G H locs) {ls : Array Slot} (hl : lv_has ls 3 []) : W p l e R s m args below meth c H locs 0 0 Q (F0 m 19 ls []) := by
  have hx := C.1
  have hb := C.2.1
  unfold mb_begin_19 at hm
  refine lv_iconst (v := 0) hx hb dX12_begin_19 (by decide) ?_
  obtain rfl := Option.some.inj hm
  exact hret _ _ _ _ hw (b01_nar (v := 0) (Or.inl rfl)) dX12_begin_20
theorem mw_begin_94 (fu : Nat) {res : Int32 × PF × PG} (C : mMC p R s m args c A v RX12 cX12_begin 3 0 0) (hret : ∀ (H1 : Heap) (locs1 : List Loc) (ls1 : Array Slot) (pc : Nat), mMW s A v a res.2.1 res.2.2 H1 locs1 → narrow .boolean (.int res.1) = .int res.1 → decode cX12_begin pc = .ok (.ireturn, 1) → W p l e R s m args below meth c H1 locs1 0 0 Q (F0 m pc ls1 [.int res.1])) (F : PF) (G : PG) (hm : mb_begin_94 fu F G = some res) {H : Heap} {locs : List Loc} (hw : mMW s A v a F G H locs) {ls : Array Slot} (hl : lv_has ls 3 []) : W p l e R s m args below meth c H locs 0 0 Q (F0 m 94 ls []) := by
  have hx := C.1
  have hb := C.2.1
  unfold mb_begin_94 at hm
  refine lv_iconst (v := 1) hx hb dX12_begin_94 (by decide) ?_
  obtain rfl := Option.some.inj hm
  exact hret _ _ _ _ hw (b01_nar (v := 1) (Or.inr rfl)) dX12_begin_95
theorem mw_begin_88 (fu : Nat) {res : Int32 × PF × PG} (C : mMC p R s m args c A v RX12 cX12_begin 3 0 0) (hret : ∀ (H1 : Heap) (locs1 : List Loc) (ls1 : Array Slot) (pc : Nat), mMW s A v a res.2.1 res.2.2 H1 locs1 → narrow .boolean (.int res.1) = .int res.1 → decode cX12_begin pc = .ok (.ireturn, 1) → W p l e R s m args below meth c H1 locs1 0 0 Q (F0 m pc ls1 [.int res.1])) (ag_68 : Int32 → PF → PG → PR) (hag_68 : ∀ (x2 : Int32) (F : PF) (G : PG), ag_68 x2 F G = some res → ∀ (H : Heap) (locs : List Loc) (ls : Array Slot), mMW s A v a F G H locs → lv_has ls 3 [(0, .ref (a 212)), (2, .int x2)] → W p l e R s m args below meth c H locs 0 0 Q (F0 m 68 ls [])) (x2 : Int32) (F : PF) (G : PG) (hm : mb_begin_88 fu ag_68 x2 F G = some res) {H : Heap} {locs : List Loc} (hw : mMW s A v a F G H locs) {ls : Array Slot} (hl : lv_has ls 3 [(0, .ref (a 212)), (2, .int x2)]) : W p l e R s m args below meth c H locs 0 0 Q (F0 m 88 ls []) := by
  have hx := C.1
  have hb := C.2.1
  unfold mb_begin_88 at hm
  refine lv_iinc (v := (x2 + 1)) (lv' := [(2, .int (x2 + 1)), (0, .ref (a 212))]) hx hb dX12_begin_88 hl (k := 1) rfl (by rfl) (by decide) rfl (fun ls hl => ?_)
  refine lv_goto (tgt := 68) hx hb dX12_begin_91 (by decide) ?_
  exact hag_68 (x2 + 1) F G hm _ _ _ hw (lv_sub hl [1, 0] rfl)
theorem mw_begin_76 (fu : Nat) {res : Int32 × PF × PG} (C : mMC p R s m args c A v RX12 cX12_begin 3 0 0) (hret : ∀ (H1 : Heap) (locs1 : List Loc) (ls1 : Array Slot) (pc : Nat), mMW s A v a res.2.1 res.2.2 H1 locs1 → narrow .boolean (.int res.1) = .int res.1 → decode cX12_begin pc = .ok (.ireturn, 1) → W p l e R s m args below meth c H1 locs1 0 0 Q (F0 m pc ls1 [.int res.1])) (ag_68 : Int32 → PF → PG → PR) (hag_68 : ∀ (x2 : Int32) (F : PF) (G : PG), ag_68 x2 F G = some res → ∀ (H : Heap) (locs : List Loc) (ls : Array Slot), mMW s A v a F G H locs → lv_has ls 3 [(0, .ref (a 212)), (2, .int x2)] → W p l e R s m args below meth c H locs 0 0 Q (F0 m 68 ls [])) (x2 : Int32) (F : PF) (G : PG) (hm : mb_begin_76 fu ag_68 x2 F G = some res) {H : Heap} {locs : List Loc} (hw : mMW s A v a F G H locs) {ls : Array Slot} (hl : lv_has ls 3 [(0, .ref (a 212)), (2, .int x2)]) : W p l e R s m args below meth c H locs 0 0 Q (F0 m 76 ls []) := by
  have hx := C.1
  have hb := C.2.1
  unfold mb_begin_76 at hm
  refine lv_aload_n hx hb dX12_begin_76 rfl (lv_at hl 0 rfl) ?_
  refine mg_X12_135 C hw dX12_begin_77 ?_
  refine lv_iload_n hx hb dX12_begin_80 rfl (lv_at hl 1 rfl) ?_
  refine lv_aload_n hx hb dX12_begin_81 rfl (lv_at hl 0 rfl) ?_
  refine mg_X12_101 C hw dX12_begin_82 ?_
  refine lv_iload_n hx hb dX12_begin_85 rfl (lv_at hl 1 rfl) ?_
  obtain ⟨hi, hm⟩ := ix_elim hm
  refine mal_41 C hw hi dX12_begin_86 ?_
  obtain ⟨hi, hm⟩ := ix_elim hm
  refine mas_90 C hw hi dX12_begin_87 (fun H locs hw => ?_)
  exact mw_begin_88 fu C hret ag_68 hag_68 x2 F (gup G 90 x2.toNatClampNeg (G 41 x2.toNatClampNeg)) hm hw (lv_sub hl [0, 1] rfl)
theorem mw_begin_68 (fu : Nat) {res : Int32 × PF × PG} (C : mMC p R s m args c A v RX12 cX12_begin 3 0 0) (hret : ∀ (H1 : Heap) (locs1 : List Loc) (ls1 : Array Slot) (pc : Nat), mMW s A v a res.2.1 res.2.2 H1 locs1 → narrow .boolean (.int res.1) = .int res.1 → decode cX12_begin pc = .ok (.ireturn, 1) → W p l e R s m args below meth c H1 locs1 0 0 Q (F0 m pc ls1 [.int res.1])) (ag_68 : Int32 → PF → PG → PR) (hag_68 : ∀ (x2 : Int32) (F : PF) (G : PG), ag_68 x2 F G = some res → ∀ (H : Heap) (locs : List Loc) (ls : Array Slot), mMW s A v a F G H locs → lv_has ls 3 [(0, .ref (a 212)), (2, .int x2)] → W p l e R s m args below meth c H locs 0 0 Q (F0 m 68 ls [])) (x2 : Int32) (F : PF) (G : PG) (hm : mb_begin_68 fu ag_68 x2 F G = some res) {H : Heap} {locs : List Loc} (hw : mMW s A v a F G H locs) {ls : Array Slot} (hl : lv_has ls 3 [(0, .ref (a 212)), (2, .int x2)]) : W p l e R s m args below meth c H locs 0 0 Q (F0 m 68 ls []) := by
  have hx := C.1
  have hb := C.2.1
  unfold mb_begin_68 at hm
  refine lv_iload_n hx hb dX12_begin_68 rfl (lv_at hl 1 rfl) ?_
  refine lv_aload_n hx hb dX12_begin_69 rfl (lv_at hl 0 rfl) ?_
  refine mg_X12_291 C hw dX12_begin_70 ?_
  refine lv_icmp_ge (tgt := 94) hx hb dX12_begin_73 (by decide) (fun c_1 => ?_) (fun c_1 => ?_)
  · have hm := (if_pos c_1).symm.trans hm
    exact mw_begin_94 fu C hret F G hm hw (lv_sub hl [] rfl)
  · have hm := (if_neg c_1).symm.trans hm
    exact mw_begin_76 fu C hret ag_68 hag_68 x2 F G hm hw (lv_sub hl [0, 1] rfl)
theorem mwl_begin_68 (fu : Nat) {res : Int32 × PF × PG} (C : mMC p R s m args c A v RX12 cX12_begin 3 0 0) (hret : ∀ (H1 : Heap) (locs1 : List Loc) (ls1 : Array Slot) (pc : Nat), mMW s A v a res.2.1 res.2.2 H1 locs1 → narrow .boolean (.int res.1) = .int res.1 → decode cX12_begin pc = .ok (.ireturn, 1) → W p l e R s m args below meth c H1 locs1 0 0 Q (F0 m pc ls1 [.int res.1])) : ∀ (n : Nat) (x2 : Int32) (F : PF) (G : PG) (hm : ml_begin_68 fu n x2 F G = some res) {H : Heap} {locs : List Loc} (hw : mMW s A v a F G H locs) {ls : Array Slot} (hl : lv_has ls 3 [(0, .ref (a 212)), (2, .int x2)]), W p l e R s m args below meth c H locs 0 0 Q (F0 m 68 ls []) := by
  intro n
  induction n with
  | zero =>
    intro x2 F G hm
    exact no_elim (show (none : PR) = some res from hm)
  | succ n ih =>
    intro x2 F G hm H locs hw ls hl
    exact mw_begin_68 fu C hret (ml_begin_68 fu n) (fun x2 F G hm H locs ls hw hl => ih x2 F G hm hw hl) x2 F G hm hw hl
theorem mw_begin_66 (fu : Nat) {res : Int32 × PF × PG} (C : mMC p R s m args c A v RX12 cX12_begin 3 0 0) (hret : ∀ (H1 : Heap) (locs1 : List Loc) (ls1 : Array Slot) (pc : Nat), mMW s A v a res.2.1 res.2.2 H1 locs1 → narrow .boolean (.int res.1) = .int res.1 → decode cX12_begin pc = .ok (.ireturn, 1) → W p l e R s m args below meth c H1 locs1 0 0 Q (F0 m pc ls1 [.int res.1])) (F : PF) (G : PG) (hm : mb_begin_66 fu F G = some res) {H : Heap} {locs : List Loc} (hw : mMW s A v a F G H locs) {ls : Array Slot} (hl : lv_has ls 3 [(0, .ref (a 212))]) : W p l e R s m args below meth c H locs 0 0 Q (F0 m 66 ls []) := by
  have hx := C.1
  have hb := C.2.1
  unfold mb_begin_66 at hm
  refine lv_iconst (v := 0) hx hb dX12_begin_66 (by decide) ?_
  refine lv_istore_n (lv' := [(2, .int 0), (0, .ref (a 212))]) hx hb dX12_begin_67 rfl hl (by decide) rfl (fun ls hl => ?_)
  exact mwl_begin_68 fu C hret fu 0 F G hm hw (lv_sub hl [1, 0] rfl)
theorem mw_begin_61 (fu : Nat) {res : Int32 × PF × PG} (C : mMC p R s m args c A v RX12 cX12_begin 3 0 0) (hret : ∀ (H1 : Heap) (locs1 : List Loc) (ls1 : Array Slot) (pc : Nat), mMW s A v a res.2.1 res.2.2 H1 locs1 → narrow .boolean (.int res.1) = .int res.1 → decode cX12_begin pc = .ok (.ireturn, 1) → W p l e R s m args below meth c H1 locs1 0 0 Q (F0 m pc ls1 [.int res.1])) (F : PF) (G : PG) (hm : mb_begin_61 fu F G = some res) {H : Heap} {locs : List Loc} (hw : mMW s A v a F G H locs) {ls : Array Slot} (hl : lv_has ls 3 [(0, .ref (a 212))]) : W p l e R s m args below meth c H locs 0 0 Q (F0 m 61 ls []) := by
  have hx := C.1
  have hb := C.2.1
  unfold mb_begin_61 at hm
  refine lv_aload_n hx hb dX12_begin_61 rfl (lv_at hl 0 rfl) ?_
  refine lv_iconst (v := 0) hx hb dX12_begin_62 (by decide) ?_
  refine mp_X12_497 C hw dX12_begin_63 (fun H locs hw => ?_)
  exact mw_begin_66 fu C hret (fup F 72 (0 : Int32)) G hm hw (lv_sub hl [0] rfl)
theorem mw_begin_56 (fu : Nat) {res : Int32 × PF × PG} (C : mMC p R s m args c A v RX12 cX12_begin 3 0 0) (hret : ∀ (H1 : Heap) (locs1 : List Loc) (ls1 : Array Slot) (pc : Nat), mMW s A v a res.2.1 res.2.2 H1 locs1 → narrow .boolean (.int res.1) = .int res.1 → decode cX12_begin pc = .ok (.ireturn, 1) → W p l e R s m args below meth c H1 locs1 0 0 Q (F0 m pc ls1 [.int res.1])) (F : PF) (G : PG) (hm : mb_begin_56 fu F G = some res) {H : Heap} {locs : List Loc} (hw : mMW s A v a F G H locs) {ls : Array Slot} (hl : lv_has ls 3 [(0, .ref (a 212))]) : W p l e R s m args below meth c H locs 0 0 Q (F0 m 56 ls []) := by
  have hx := C.1
  have hb := C.2.1
  unfold mb_begin_56 at hm
  refine lv_aload_n hx hb dX12_begin_56 rfl (lv_at hl 0 rfl) ?_
  refine lv_iconst (v := 0) hx hb dX12_begin_57 (by decide) ?_
  refine mp_X12_544 C hw dX12_begin_58 (fun H locs hw => ?_)
  exact mw_begin_61 fu C hret (fup F 83 (0 : Int32)) G hm hw (lv_sub hl [0] rfl)
theorem mw_begin_51 (fu : Nat) {res : Int32 × PF × PG} (C : mMC p R s m args c A v RX12 cX12_begin 3 0 0) (hret : ∀ (H1 : Heap) (locs1 : List Loc) (ls1 : Array Slot) (pc : Nat), mMW s A v a res.2.1 res.2.2 H1 locs1 → narrow .boolean (.int res.1) = .int res.1 → decode cX12_begin pc = .ok (.ireturn, 1) → W p l e R s m args below meth c H1 locs1 0 0 Q (F0 m pc ls1 [.int res.1])) (F : PF) (G : PG) (hm : mb_begin_51 fu F G = some res) {H : Heap} {locs : List Loc} (hw : mMW s A v a F G H locs) {ls : Array Slot} (hl : lv_has ls 3 [(0, .ref (a 212))]) : W p l e R s m args below meth c H locs 0 0 Q (F0 m 51 ls []) := by
  have hx := C.1
  have hb := C.2.1
  unfold mb_begin_51 at hm
  refine lv_aload_n hx hb dX12_begin_51 rfl (lv_at hl 0 rfl) ?_
  refine lv_iconst (v := (-1)) hx hb dX12_begin_52 (by decide) ?_
  refine mp_X12_541 C hw dX12_begin_53 (fun H locs hw => ?_)
  exact mw_begin_56 fu C hret (fup F 82 (-1 : Int32)) G hm hw (lv_sub hl [0] rfl)
theorem mw_begin_46 (fu : Nat) {res : Int32 × PF × PG} (C : mMC p R s m args c A v RX12 cX12_begin 3 0 0) (hret : ∀ (H1 : Heap) (locs1 : List Loc) (ls1 : Array Slot) (pc : Nat), mMW s A v a res.2.1 res.2.2 H1 locs1 → narrow .boolean (.int res.1) = .int res.1 → decode cX12_begin pc = .ok (.ireturn, 1) → W p l e R s m args below meth c H1 locs1 0 0 Q (F0 m pc ls1 [.int res.1])) (F : PF) (G : PG) (hm : mb_begin_46 fu F G = some res) {H : Heap} {locs : List Loc} (hw : mMW s A v a F G H locs) {ls : Array Slot} (hl : lv_has ls 3 [(0, .ref (a 212))]) : W p l e R s m args below meth c H locs 0 0 Q (F0 m 46 ls []) := by
  have hx := C.1
  have hb := C.2.1
  unfold mb_begin_46 at hm
  refine lv_aload_n hx hb dX12_begin_46 rfl (lv_at hl 0 rfl) ?_
  refine lv_iconst (v := 0) hx hb dX12_begin_47 (by decide) ?_
  refine mp_X12_539 C hw dX12_begin_48 (fun H locs hw => ?_)
  exact mw_begin_51 fu C hret (fup F 81 (0 : Int32)) G hm hw (lv_sub hl [0] rfl)
theorem mw_begin_41 (fu : Nat) {res : Int32 × PF × PG} (C : mMC p R s m args c A v RX12 cX12_begin 3 0 0) (hret : ∀ (H1 : Heap) (locs1 : List Loc) (ls1 : Array Slot) (pc : Nat), mMW s A v a res.2.1 res.2.2 H1 locs1 → narrow .boolean (.int res.1) = .int res.1 → decode cX12_begin pc = .ok (.ireturn, 1) → W p l e R s m args below meth c H1 locs1 0 0 Q (F0 m pc ls1 [.int res.1])) (F : PF) (G : PG) (hm : mb_begin_41 fu F G = some res) {H : Heap} {locs : List Loc} (hw : mMW s A v a F G H locs) {ls : Array Slot} (hl : lv_has ls 3 [(0, .ref (a 212))]) : W p l e R s m args below meth c H locs 0 0 Q (F0 m 41 ls []) := by
  have hx := C.1
  have hb := C.2.1
  unfold mb_begin_41 at hm
  refine lv_aload_n hx hb dX12_begin_41 rfl (lv_at hl 0 rfl) ?_
  refine lv_iconst (v := 0) hx hb dX12_begin_42 (by decide) ?_
  refine mp_X12_518 C hw dX12_begin_43 (fun H locs hw => ?_)
  exact mw_begin_46 fu C hret (fup F 79 (0 : Int32)) G hm hw (lv_sub hl [0] rfl)
theorem mw_begin_36 (fu : Nat) {res : Int32 × PF × PG} (C : mMC p R s m args c A v RX12 cX12_begin 3 0 0) (hret : ∀ (H1 : Heap) (locs1 : List Loc) (ls1 : Array Slot) (pc : Nat), mMW s A v a res.2.1 res.2.2 H1 locs1 → narrow .boolean (.int res.1) = .int res.1 → decode cX12_begin pc = .ok (.ireturn, 1) → W p l e R s m args below meth c H1 locs1 0 0 Q (F0 m pc ls1 [.int res.1])) (F : PF) (G : PG) (hm : mb_begin_36 fu F G = some res) {H : Heap} {locs : List Loc} (hw : mMW s A v a F G H locs) {ls : Array Slot} (hl : lv_has ls 3 [(0, .ref (a 212))]) : W p l e R s m args below meth c H locs 0 0 Q (F0 m 36 ls []) := by
  have hx := C.1
  have hb := C.2.1
  unfold mb_begin_36 at hm
  refine lv_aload_n hx hb dX12_begin_36 rfl (lv_at hl 0 rfl) ?_
  refine lv_iconst (v := 0) hx hb dX12_begin_37 (by decide) ?_
  refine mp_X12_536 C hw dX12_begin_38 (fun H locs hw => ?_)
  exact mw_begin_41 fu C hret (fup F 77 (0 : Int32)) G hm hw (lv_sub hl [0] rfl)
theorem mw_begin_31 (fu : Nat) {res : Int32 × PF × PG} (C : mMC p R s m args c A v RX12 cX12_begin 3 0 0) (hret : ∀ (H1 : Heap) (locs1 : List Loc) (ls1 : Array Slot) (pc : Nat), mMW s A v a res.2.1 res.2.2 H1 locs1 → narrow .boolean (.int res.1) = .int res.1 → decode cX12_begin pc = .ok (.ireturn, 1) → W p l e R s m args below meth c H1 locs1 0 0 Q (F0 m pc ls1 [.int res.1])) (F : PF) (G : PG) (hm : mb_begin_31 fu F G = some res) {H : Heap} {locs : List Loc} (hw : mMW s A v a F G H locs) {ls : Array Slot} (hl : lv_has ls 3 [(0, .ref (a 212))]) : W p l e R s m args below meth c H locs 0 0 Q (F0 m 31 ls []) := by
  have hx := C.1
  have hb := C.2.1
  unfold mb_begin_31 at hm
  refine lv_aload_n hx hb dX12_begin_31 rfl (lv_at hl 0 rfl) ?_
  refine lv_iconst (v := 0) hx hb dX12_begin_32 (by decide) ?_
  refine mp_X12_533 C hw dX12_begin_33 (fun H locs hw => ?_)
  exact mw_begin_36 fu C hret (fup F 85 (0 : Int32)) G hm hw (lv_sub hl [0] rfl)
theorem mw_begin_26 (fu : Nat) {res : Int32 × PF × PG} (C : mMC p R s m args c A v RX12 cX12_begin 3 0 0) (hret : ∀ (H1 : Heap) (locs1 : List Loc) (ls1 : Array Slot) (pc : Nat), mMW s A v a res.2.1 res.2.2 H1 locs1 → narrow .boolean (.int res.1) = .int res.1 → decode cX12_begin pc = .ok (.ireturn, 1) → W p l e R s m args below meth c H1 locs1 0 0 Q (F0 m pc ls1 [.int res.1])) (F : PF) (G : PG) (hm : mb_begin_26 fu F G = some res) {H : Heap} {locs : List Loc} (hw : mMW s A v a F G H locs) {ls : Array Slot} (hl : lv_has ls 3 [(0, .ref (a 212))]) : W p l e R s m args below meth c H locs 0 0 Q (F0 m 26 ls []) := by
  have hx := C.1
  have hb := C.2.1
  unfold mb_begin_26 at hm
  refine lv_aload_n hx hb dX12_begin_26 rfl (lv_at hl 0 rfl) ?_
  refine lv_iconst (v := 1) hx hb dX12_begin_27 (by decide) ?_
  refine mp_X12_512 C hw dX12_begin_28 (fun H locs hw => ?_)
  exact mw_begin_31 fu C hret (fup F 75 (1 : Int32)) G hm hw (lv_sub hl [0] rfl)
theorem mw_begin_21 (fu : Nat) {res : Int32 × PF × PG} (C : mMC p R s m args c A v RX12 cX12_begin 3 0 0) (hret : ∀ (H1 : Heap) (locs1 : List Loc) (ls1 : Array Slot) (pc : Nat), mMW s A v a res.2.1 res.2.2 H1 locs1 → narrow .boolean (.int res.1) = .int res.1 → decode cX12_begin pc = .ok (.ireturn, 1) → W p l e R s m args below meth c H1 locs1 0 0 Q (F0 m pc ls1 [.int res.1])) (x1 : Int32) (F : PF) (G : PG) (hm : mb_begin_21 fu x1 F G = some res) {H : Heap} {locs : List Loc} (hw : mMW s A v a F G H locs) {ls : Array Slot} (hl : lv_has ls 3 [(0, .ref (a 212)), (1, .int x1)]) : W p l e R s m args below meth c H locs 0 0 Q (F0 m 21 ls []) := by
  have hx := C.1
  have hb := C.2.1
  unfold mb_begin_21 at hm
  refine lv_aload_n hx hb dX12_begin_21 rfl (lv_at hl 0 rfl) ?_
  refine lv_iload_n hx hb dX12_begin_22 rfl (lv_at hl 1 rfl) ?_
  refine mp_X12_530 C hw dX12_begin_23 (fun H locs hw => ?_)
  exact mw_begin_26 fu C hret (fup F 84 x1) G hm hw (lv_sub hl [0] rfl)
theorem mw_begin_12 (fu : Nat) {res : Int32 × PF × PG} (C : mMC p R s m args c A v RX12 cX12_begin 3 0 0) (hret : ∀ (H1 : Heap) (locs1 : List Loc) (ls1 : Array Slot) (pc : Nat), mMW s A v a res.2.1 res.2.2 H1 locs1 → narrow .boolean (.int res.1) = .int res.1 → decode cX12_begin pc = .ok (.ireturn, 1) → W p l e R s m args below meth c H1 locs1 0 0 Q (F0 m pc ls1 [.int res.1])) (x1 : Int32) (F : PF) (G : PG) (hm : mb_begin_12 fu x1 F G = some res) {H : Heap} {locs : List Loc} (hw : mMW s A v a F G H locs) {ls : Array Slot} (hl : lv_has ls 3 [(0, .ref (a 212)), (1, .int x1)]) : W p l e R s m args below meth c H locs 0 0 Q (F0 m 12 ls []) := by
  have hx := C.1
  have hb := C.2.1
  unfold mb_begin_12 at hm
  refine lv_iload_n hx hb dX12_begin_12 rfl (lv_at hl 1 rfl) ?_
  refine lv_sipush (v := 2000) hx hb dX12_begin_13 (by decide) ?_
  refine lv_icmp_le (tgt := 21) hx hb dX12_begin_16 (by decide) (fun c_1 => ?_) (fun c_1 => ?_)
  · have hm := (if_pos c_1).symm.trans hm
    exact mw_begin_21 fu C hret x1 F G hm hw (lv_sub hl [0, 1] rfl)
  · have hm := (if_neg c_1).symm.trans hm
    exact mw_begin_19 fu C hret F G hm hw (lv_sub hl [] rfl)
theorem mw_begin_7 (fu : Nat) {res : Int32 × PF × PG} (C : mMC p R s m args c A v RX12 cX12_begin 3 0 0) (hret : ∀ (H1 : Heap) (locs1 : List Loc) (ls1 : Array Slot) (pc : Nat), mMW s A v a res.2.1 res.2.2 H1 locs1 → narrow .boolean (.int res.1) = .int res.1 → decode cX12_begin pc = .ok (.ireturn, 1) → W p l e R s m args below meth c H1 locs1 0 0 Q (F0 m pc ls1 [.int res.1])) (x1 : Int32) (F : PF) (G : PG) (hm : mb_begin_7 fu x1 F G = some res) {H : Heap} {locs : List Loc} (hw : mMW s A v a F G H locs) {ls : Array Slot} (hl : lv_has ls 3 [(0, .ref (a 212)), (1, .int x1)]) : W p l e R s m args below meth c H locs 0 0 Q (F0 m 7 ls []) := by
  have hx := C.1
  have hb := C.2.1
  unfold mb_begin_7 at hm
  refine lv_iload_n hx hb dX12_begin_7 rfl (lv_at hl 1 rfl) ?_
  refine lv_iconst (v := 4) hx hb dX12_begin_8 (by decide) ?_
  refine lv_icmp_lt (tgt := 19) hx hb dX12_begin_9 (by decide) (fun c_1 => ?_) (fun c_1 => ?_)
  · have hm := (if_pos c_1).symm.trans hm
    exact mw_begin_19 fu C hret F G hm hw (lv_sub hl [] rfl)
  · have hm := (if_neg c_1).symm.trans hm
    exact mw_begin_12 fu C hret x1 F G hm hw (lv_sub hl [0, 1] rfl)
theorem mw_begin_0 (fu : Nat) {res : Int32 × PF × PG} (C : mMC p R s m args c A v RX12 cX12_begin 3 0 0) (hret : ∀ (H1 : Heap) (locs1 : List Loc) (ls1 : Array Slot) (pc : Nat), mMW s A v a res.2.1 res.2.2 H1 locs1 → narrow .boolean (.int res.1) = .int res.1 → decode cX12_begin pc = .ok (.ireturn, 1) → W p l e R s m args below meth c H1 locs1 0 0 Q (F0 m pc ls1 [.int res.1])) (x1 : Int32) (F : PF) (G : PG) (hm : mb_begin_0 fu x1 F G = some res) {H : Heap} {locs : List Loc} (hw : mMW s A v a F G H locs) {ls : Array Slot} (hl : lv_has ls 3 [(0, .ref (a 212)), (1, .int x1)]) : W p l e R s m args below meth c H locs 0 0 Q (F0 m 0 ls []) := by
  have hx := C.1
  have hb := C.2.1
  unfold mb_begin_0 at hm
  refine lv_aload_n hx hb dX12_begin_0 rfl (lv_at hl 0 rfl) ?_
  refine mg_X12_509 C hw dX12_begin_1 ?_
  refine lv_if_eq (tgt := 19) hx hb dX12_begin_4 (by decide) (fun c_1 => ?_) (fun c_1 => ?_)
  · have hm := (if_pos c_1).symm.trans hm
    exact mw_begin_19 fu C hret F G hm hw (lv_sub hl [] rfl)
  · have hm := (if_neg c_1).symm.trans hm
    exact mw_begin_7 fu C hret x1 F G hm hw (lv_sub hl [0, 1] rfl)
theorem mk_begin (l : Launch) (v : EV) (a : Nat → Nat) (sz : Nat) (fu : Nat) (x1 : Int32) (F : PF) (G : PG) (r : Int32) (F1 : PF) (G1 : PG) (hm : mf_begin fu x1 F G = some (r, F1, G1)) : mMI l yX12_begin cX12_begin 3 (some .boolean) 0 0 v a sz [.ref (a 212), .int x1] F G r F1 G1 := mMI.of (ty := .boolean) (by decide) rfl (Nat.le_of_ble_eq_true rfl) (fun p e R s m args below meth c Q A H locs ls C hw hl hret => mw_begin_0 fu (res := (r, F1, G1)) C hret x1 F G hm hw hl)
def mb_calls_250 (fu : Nat) (F : PF) (G : PG) : PR := some (1, F, G)
def mb_calls_240 (fu : Nat) (x1 : Int32) (F : PF) (G : PG) : PR := if ixb x1 500 = true then (mb_calls_250 fu (fup F 76 (G 30 x1.toNatClampNeg)) G) else none
def mb_calls_227 (fu : Nat) (x1 : Int32) (x4 : Int32) (F : PF) (G : PG) : PR := if ixb x1 500 = true then (mb_calls_240 fu x1 (fup F 87 (x4 + (G 29 x1.toNatClampNeg))) G) else none
def mb_calls_221 (fu : Nat) (x1 : Int32) (x4 : Int32) (F : PF) (G : PG) : PR := mb_calls_227 fu x1 x4 (fup F 86 x4) G
def mb_calls_211 (fu : Nat) (x1 : Int32) (x4 : Int32) (F : PF) (G : PG) : PR := mb_calls_221 fu x1 x4 (fup F 85 ((F 85) + (1 : Int32))) G
def mb_calls_200 (fu : Nat) (x1 : Int32) (x4 : Int32) (F : PF) (G : PG) : PR := if ixb (F 85) 520 = true then (mb_calls_211 fu x1 x4 F (gup G 93 (F 85).toNatClampNeg x4)) else none
def mb_calls_190 (fu : Nat) (x1 : Int32) (x3 : Int32) (x4 : Int32) (F : PF) (G : PG) : PR := if ixb (F 85) 520 = true then (mb_calls_200 fu x1 x4 F (gup G 92 (F 85).toNatClampNeg x3)) else none
def mb_calls_180 (fu : Nat) (x1 : Int32) (x3 : Int32) (x4 : Int32) (F : PF) (G : PG) : PR := if ixb (F 85) 520 = true then (mb_calls_190 fu x1 x3 x4 F (gup G 91 (F 85).toNatClampNeg x1)) else none
def mb_calls_174 (fu : Nat) (ag_130 : Int32 → Int32 → Int32 → Int32 → Int32 → PF → PG → PR) (x1 : Int32) (x3 : Int32) (x4 : Int32) (x5 : Int32) (x6 : Int32) (F : PF) (G : PG) : PR := ag_130 x1 x3 x4 x5 (x6 + 1) F G
def mb_calls_173 (fu : Nat) (ag_130 : Int32 → Int32 → Int32 → Int32 → Int32 → PF → PG → PR) (x1 : Int32) (x3 : Int32) (x4 : Int32) (x5 : Int32) (x6 : Int32) (z0 : Int32) (z1 : Int32) (F : PF) (G : PG) : PR := if ixb z1 20000 = true then (mb_calls_174 fu ag_130 x1 x3 x4 x5 x6 F (gup G 90 z1.toNatClampNeg z0)) else none
def mb_calls_172 (fu : Nat) (ag_130 : Int32 → Int32 → Int32 → Int32 → Int32 → PF → PG → PR) (x1 : Int32) (x3 : Int32) (x4 : Int32) (x5 : Int32) (x6 : Int32) (z0 : Int32) (F : PF) (G : PG) : PR := mb_calls_173 fu ag_130 x1 x3 x4 x5 x6 0 z0 F G
def mb_calls_157 (fu : Nat) (ag_130 : Int32 → Int32 → Int32 → Int32 → Int32 → PF → PG → PR) (x1 : Int32) (x3 : Int32) (x4 : Int32) (x5 : Int32) (x6 : Int32) (z0 : Int32) (F : PF) (G : PG) : PR := if ixb ((F 72) + x6) 280000 = true then (mb_calls_173 fu ag_130 x1 x3 x4 x5 x6 (G 71 ((F 72) + x6).toNatClampNeg) z0 F G) else none
def mb_calls_141 (fu : Nat) (ag_130 : Int32 → Int32 → Int32 → Int32 → Int32 → PF → PG → PR) (x1 : Int32) (x3 : Int32) (x4 : Int32) (x5 : Int32) (x6 : Int32) (F : PF) (G : PG) : PR := if x5 ≤ x6 then mb_calls_172 fu ag_130 x1 x3 x4 x5 x6 (x4 + x6) F G else mb_calls_157 fu ag_130 x1 x3 x4 x5 x6 (x4 + x6) F G
def mb_calls_130 (fu : Nat) (ag_130 : Int32 → Int32 → Int32 → Int32 → Int32 → PF → PG → PR) (x1 : Int32) (x3 : Int32) (x4 : Int32) (x5 : Int32) (x6 : Int32) (F : PF) (G : PG) : PR := if ixb x1 500 = true then (if (G 29 x1.toNatClampNeg) ≤ x6 then mb_calls_180 fu x1 x3 x4 F G else mb_calls_141 fu ag_130 x1 x3 x4 x5 x6 F G) else none
def ml_calls_130 (fu : Nat) : Nat → Int32 → Int32 → Int32 → Int32 → Int32 → PF → PG → PR
  | 0 => fun _ _ _ _ _ _ _ => none
  | n + 1 => fun x1 x3 x4 x5 x6 F G => mb_calls_130 fu (ml_calls_130 fu n) x1 x3 x4 x5 x6 F G
def mb_calls_127 (fu : Nat) (x1 : Int32) (x3 : Int32) (x4 : Int32) (x5 : Int32) (F : PF) (G : PG) : PR := ml_calls_130 fu fu x1 x3 x4 x5 0 F G
def mb_calls_116 (fu : Nat) (x1 : Int32) (x3 : Int32) (x4 : Int32) (x5 : Int32) (F : PF) (G : PG) : PR := mb_calls_127 fu x1 x3 x4 x5 (fup F 72 ((F 72) - x5)) G
def mb_calls_107 (fu : Nat) (ag_72 : Int32 → Int32 → Int32 → Int32 → Int32 → PF → PG → PR) (x1 : Int32) (x3 : Int32) (x4 : Int32) (x6 : Int32) (z0 : Int32) (z1 : Int32) (F : PF) (G : PG) : PR := ag_72 x1 x3 x4 (z1 + z0) (x6 + 1) F G
def mb_calls_106 (fu : Nat) (ag_72 : Int32 → Int32 → Int32 → Int32 → Int32 → PF → PG → PR) (x1 : Int32) (x3 : Int32) (x4 : Int32) (x6 : Int32) (z0 : Int32) (F : PF) (G : PG) : PR := mb_calls_107 fu ag_72 x1 x3 x4 x6 2 z0 F G
def mb_calls_102 (fu : Nat) (ag_72 : Int32 → Int32 → Int32 → Int32 → Int32 → PF → PG → PR) (x1 : Int32) (x3 : Int32) (x4 : Int32) (x6 : Int32) (z0 : Int32) (F : PF) (G : PG) : PR := mb_calls_107 fu ag_72 x1 x3 x4 x6 1 z0 F G
def mb_calls_83 (fu : Nat) (ag_72 : Int32 → Int32 → Int32 → Int32 → Int32 → PF → PG → PR) (x1 : Int32) (x3 : Int32) (x4 : Int32) (x5 : Int32) (x6 : Int32) (F : PF) (G : PG) : PR := if ixb x1 500 = true then (if ixb ((G 31 x1.toNatClampNeg) + x6) 900 = true then (if (G 34 ((G 31 x1.toNatClampNeg) + x6).toNatClampNeg) = (0 : Int32) then mb_calls_102 fu ag_72 x1 x3 x4 x6 x5 F G else mb_calls_106 fu ag_72 x1 x3 x4 x6 x5 F G) else none) else none
def mb_calls_72 (fu : Nat) (ag_72 : Int32 → Int32 → Int32 → Int32 → Int32 → PF → PG → PR) (x1 : Int32) (x3 : Int32) (x4 : Int32) (x5 : Int32) (x6 : Int32) (F : PF) (G : PG) : PR := if ixb x1 500 = true then (if (G 27 x1.toNatClampNeg) ≤ x6 then mb_calls_116 fu x1 x3 x4 x5 F G else mb_calls_83 fu ag_72 x1 x3 x4 x5 x6 F G) else none
def ml_calls_72 (fu : Nat) : Nat → Int32 → Int32 → Int32 → Int32 → Int32 → PF → PG → PR
  | 0 => fun _ _ _ _ _ _ _ => none
  | n + 1 => fun x1 x3 x4 x5 x6 F G => mb_calls_72 fu (ml_calls_72 fu n) x1 x3 x4 x5 x6 F G
def mb_calls_64 (fu : Nat) (x1 : Int32) (x3 : Int32) (z0 : Int32) (F : PF) (G : PG) : PR := ml_calls_72 fu fu x1 x3 z0 0 0 F G
def mb_calls_60 (fu : Nat) (x1 : Int32) (x3 : Int32) (F : PF) (G : PG) : PR := mb_calls_64 fu x1 x3 (F 87) F G
def mb_calls_53 (fu : Nat) (x1 : Int32) (x3 : Int32) (F : PF) (G : PG) : PR := mb_calls_64 fu x1 x3 (F 37) F G
def mb_calls_46 (fu : Nat) (x1 : Int32) (x3 : Int32) (F : PF) (G : PG) : PR := if (F 85) = (0 : Int32) then mb_calls_53 fu x1 x3 F G else mb_calls_60 fu x1 x3 F G
def mb_calls_31 (fu : Nat) (x1 : Int32) (x3 : Int32) (F : PF) (G : PG) : PR := if ixb x1 500 = true then (mb_calls_46 fu x1 x3 (fup F 83 ((F 83) + (G 28 x1.toNatClampNeg))) G) else none
def mb_calls_29 (fu : Nat) (F : PF) (G : PG) : PR := some (0, F, G)
def mb_calls_24 (fu : Nat) (x2 : Int32) (F : PF) (G : PG) : PR := mb_calls_29 fu (fup F 82 x2) G
def mb_calls_18 (fu : Nat) (x2 : Int32) (F : PF) (G : PG) : PR := mb_calls_24 fu x2 (fup F 75 (6 : Int32)) G
def mb_calls_0 (fu : Nat) (x1 : Int32) (x2 : Int32) (x3 : Int32) (F : PF) (G : PG) : PR := if ixb x1 500 = true then (if ((F 83) + (G 28 x1.toNatClampNeg)) ≤ (F 84) then mb_calls_31 fu x1 x3 F G else mb_calls_18 fu x2 F G) else none
def mf_calls (fu : Nat) (x1 : Int32) (x2 : Int32) (x3 : Int32) (F : PF) (G : PG) : PR := mb_calls_0 fu x1 x2 x3 F G
theorem mw_calls_250 (fu : Nat) {res : Int32 × PF × PG} (C : mMC p R s m args c A v RX12 cX12_calls 7 0 0) (hret : ∀ (H1 : Heap) (locs1 : List Loc) (ls1 : Array Slot) (pc : Nat), mMW s A v a res.2.1 res.2.2 H1 locs1 → narrow .boolean (.int res.1) = .int res.1 → decode cX12_calls pc = .ok (.ireturn, 1) → W p l e R s m args below meth c H1 locs1 0 0 Q (F0 m pc ls1 [.int res.1])) (F : PF) (G : PG) (hm : mb_calls_250 fu F G = some res) {H : Heap} {locs : List Loc} (hw : mMW s A v a F G H locs) {ls : Array Slot} (hl : lv_has ls 7 []) : W p l e R s m args below meth c H locs 0 0 Q (F0 m 250 ls []) := by
  have hx := C.1
  have hb := C.2.1
  unfold mb_calls_250 at hm
  refine lv_iconst (v := 1) hx hb dX12_calls_250 (by decide) ?_
  obtain rfl := Option.some.inj hm
  exact hret _ _ _ _ hw (b01_nar (v := 1) (Or.inr rfl)) dX12_calls_251
theorem mw_calls_240 (fu : Nat) {res : Int32 × PF × PG} (C : mMC p R s m args c A v RX12 cX12_calls 7 0 0) (hret : ∀ (H1 : Heap) (locs1 : List Loc) (ls1 : Array Slot) (pc : Nat), mMW s A v a res.2.1 res.2.2 H1 locs1 → narrow .boolean (.int res.1) = .int res.1 → decode cX12_calls pc = .ok (.ireturn, 1) → W p l e R s m args below meth c H1 locs1 0 0 Q (F0 m pc ls1 [.int res.1])) (x1 : Int32) (F : PF) (G : PG) (hm : mb_calls_240 fu x1 F G = some res) {H : Heap} {locs : List Loc} (hw : mMW s A v a F G H locs) {ls : Array Slot} (hl : lv_has ls 7 [(0, .ref (a 212)), (1, .int x1)]) : W p l e R s m args below meth c H locs 0 0 Q (F0 m 240 ls []) := by
  have hx := C.1
  have hb := C.2.1
  unfold mb_calls_240 at hm
  refine lv_aload_n hx hb dX12_calls_240 rfl (lv_at hl 0 rfl) ?_
  refine lv_aload_n hx hb dX12_calls_241 rfl (lv_at hl 0 rfl) ?_
  refine mg_X12_77 C hw dX12_calls_242 ?_
  refine lv_iload_n hx hb dX12_calls_245 rfl (lv_at hl 1 rfl) ?_
  obtain ⟨hi, hm⟩ := ix_elim hm
  refine mal_30 C hw hi dX12_calls_246 ?_
  refine mp_X12_553 C hw dX12_calls_247 (fun H locs hw => ?_)
  exact mw_calls_250 fu C hret (fup F 76 (G 30 x1.toNatClampNeg)) G hm hw (lv_sub hl [] rfl)
theorem mw_calls_227 (fu : Nat) {res : Int32 × PF × PG} (C : mMC p R s m args c A v RX12 cX12_calls 7 0 0) (hret : ∀ (H1 : Heap) (locs1 : List Loc) (ls1 : Array Slot) (pc : Nat), mMW s A v a res.2.1 res.2.2 H1 locs1 → narrow .boolean (.int res.1) = .int res.1 → decode cX12_calls pc = .ok (.ireturn, 1) → W p l e R s m args below meth c H1 locs1 0 0 Q (F0 m pc ls1 [.int res.1])) (x1 : Int32) (x4 : Int32) (F : PF) (G : PG) (hm : mb_calls_227 fu x1 x4 F G = some res) {H : Heap} {locs : List Loc} (hw : mMW s A v a F G H locs) {ls : Array Slot} (hl : lv_has ls 7 [(0, .ref (a 212)), (1, .int x1), (4, .int x4)]) : W p l e R s m args below meth c H locs 0 0 Q (F0 m 227 ls []) := by
  have hx := C.1
  have hb := C.2.1
  unfold mb_calls_227 at hm
  refine lv_aload_n hx hb dX12_calls_227 rfl (lv_at hl 0 rfl) ?_
  refine lv_iload hx hb dX12_calls_228 (lv_at hl 2 rfl) ?_
  refine lv_aload_n hx hb dX12_calls_230 rfl (lv_at hl 0 rfl) ?_
  refine mg_X12_74 C hw dX12_calls_231 ?_
  refine lv_iload_n hx hb dX12_calls_234 rfl (lv_at hl 1 rfl) ?_
  obtain ⟨hi, hm⟩ := ix_elim hm
  refine mal_29 C hw hi dX12_calls_235 ?_
  refine lv_iadd hx hb dX12_calls_236 ?_
  refine mp_X12_547 C hw dX12_calls_237 (fun H locs hw => ?_)
  exact mw_calls_240 fu C hret x1 (fup F 87 (x4 + (G 29 x1.toNatClampNeg))) G hm hw (lv_sub hl [0, 1] rfl)
theorem mw_calls_221 (fu : Nat) {res : Int32 × PF × PG} (C : mMC p R s m args c A v RX12 cX12_calls 7 0 0) (hret : ∀ (H1 : Heap) (locs1 : List Loc) (ls1 : Array Slot) (pc : Nat), mMW s A v a res.2.1 res.2.2 H1 locs1 → narrow .boolean (.int res.1) = .int res.1 → decode cX12_calls pc = .ok (.ireturn, 1) → W p l e R s m args below meth c H1 locs1 0 0 Q (F0 m pc ls1 [.int res.1])) (x1 : Int32) (x4 : Int32) (F : PF) (G : PG) (hm : mb_calls_221 fu x1 x4 F G = some res) {H : Heap} {locs : List Loc} (hw : mMW s A v a F G H locs) {ls : Array Slot} (hl : lv_has ls 7 [(0, .ref (a 212)), (1, .int x1), (4, .int x4)]) : W p l e R s m args below meth c H locs 0 0 Q (F0 m 221 ls []) := by
  have hx := C.1
  have hb := C.2.1
  unfold mb_calls_221 at hm
  refine lv_aload_n hx hb dX12_calls_221 rfl (lv_at hl 0 rfl) ?_
  refine lv_iload hx hb dX12_calls_222 (lv_at hl 2 rfl) ?_
  refine mp_X12_550 C hw dX12_calls_224 (fun H locs hw => ?_)
  exact mw_calls_227 fu C hret x1 x4 (fup F 86 x4) G hm hw (lv_sub hl [0, 1, 2] rfl)
theorem mw_calls_211 (fu : Nat) {res : Int32 × PF × PG} (C : mMC p R s m args c A v RX12 cX12_calls 7 0 0) (hret : ∀ (H1 : Heap) (locs1 : List Loc) (ls1 : Array Slot) (pc : Nat), mMW s A v a res.2.1 res.2.2 H1 locs1 → narrow .boolean (.int res.1) = .int res.1 → decode cX12_calls pc = .ok (.ireturn, 1) → W p l e R s m args below meth c H1 locs1 0 0 Q (F0 m pc ls1 [.int res.1])) (x1 : Int32) (x4 : Int32) (F : PF) (G : PG) (hm : mb_calls_211 fu x1 x4 F G = some res) {H : Heap} {locs : List Loc} (hw : mMW s A v a F G H locs) {ls : Array Slot} (hl : lv_has ls 7 [(0, .ref (a 212)), (1, .int x1), (4, .int x4)]) : W p l e R s m args below meth c H locs 0 0 Q (F0 m 211 ls []) := by
  have hx := C.1
  have hb := C.2.1
  unfold mb_calls_211 at hm
  refine lv_aload_n hx hb dX12_calls_211 rfl (lv_at hl 0 rfl) ?_
  refine lv_dup hx hb dX12_calls_212 rfl ?_
  refine mg_X12_533 C hw dX12_calls_213 ?_
  refine lv_iconst (v := 1) hx hb dX12_calls_216 (by decide) ?_
  refine lv_iadd hx hb dX12_calls_217 ?_
  refine mp_X12_533 C hw dX12_calls_218 (fun H locs hw => ?_)
  exact mw_calls_221 fu C hret x1 x4 (fup F 85 ((F 85) + (1 : Int32))) G hm hw (lv_sub hl [0, 1, 2] rfl)
theorem mw_calls_200 (fu : Nat) {res : Int32 × PF × PG} (C : mMC p R s m args c A v RX12 cX12_calls 7 0 0) (hret : ∀ (H1 : Heap) (locs1 : List Loc) (ls1 : Array Slot) (pc : Nat), mMW s A v a res.2.1 res.2.2 H1 locs1 → narrow .boolean (.int res.1) = .int res.1 → decode cX12_calls pc = .ok (.ireturn, 1) → W p l e R s m args below meth c H1 locs1 0 0 Q (F0 m pc ls1 [.int res.1])) (x1 : Int32) (x4 : Int32) (F : PF) (G : PG) (hm : mb_calls_200 fu x1 x4 F G = some res) {H : Heap} {locs : List Loc} (hw : mMW s A v a F G H locs) {ls : Array Slot} (hl : lv_has ls 7 [(0, .ref (a 212)), (1, .int x1), (4, .int x4)]) : W p l e R s m args below meth c H locs 0 0 Q (F0 m 200 ls []) := by
  have hx := C.1
  have hb := C.2.1
  unfold mb_calls_200 at hm
  refine lv_aload_n hx hb dX12_calls_200 rfl (lv_at hl 0 rfl) ?_
  refine mg_X12_144 C hw dX12_calls_201 ?_
  refine lv_aload_n hx hb dX12_calls_204 rfl (lv_at hl 0 rfl) ?_
  refine mg_X12_533 C hw dX12_calls_205 ?_
  refine lv_iload hx hb dX12_calls_208 (lv_at hl 2 rfl) ?_
  obtain ⟨hi, hm⟩ := ix_elim hm
  refine mas_93 C hw hi dX12_calls_210 (fun H locs hw => ?_)
  exact mw_calls_211 fu C hret x1 x4 F (gup G 93 (F 85).toNatClampNeg x4) hm hw (lv_sub hl [0, 1, 2] rfl)
theorem mw_calls_190 (fu : Nat) {res : Int32 × PF × PG} (C : mMC p R s m args c A v RX12 cX12_calls 7 0 0) (hret : ∀ (H1 : Heap) (locs1 : List Loc) (ls1 : Array Slot) (pc : Nat), mMW s A v a res.2.1 res.2.2 H1 locs1 → narrow .boolean (.int res.1) = .int res.1 → decode cX12_calls pc = .ok (.ireturn, 1) → W p l e R s m args below meth c H1 locs1 0 0 Q (F0 m pc ls1 [.int res.1])) (x1 : Int32) (x3 : Int32) (x4 : Int32) (F : PF) (G : PG) (hm : mb_calls_190 fu x1 x3 x4 F G = some res) {H : Heap} {locs : List Loc} (hw : mMW s A v a F G H locs) {ls : Array Slot} (hl : lv_has ls 7 [(0, .ref (a 212)), (1, .int x1), (3, .int x3), (4, .int x4)]) : W p l e R s m args below meth c H locs 0 0 Q (F0 m 190 ls []) := by
  have hx := C.1
  have hb := C.2.1
  unfold mb_calls_190 at hm
  refine lv_aload_n hx hb dX12_calls_190 rfl (lv_at hl 0 rfl) ?_
  refine mg_X12_141 C hw dX12_calls_191 ?_
  refine lv_aload_n hx hb dX12_calls_194 rfl (lv_at hl 0 rfl) ?_
  refine mg_X12_533 C hw dX12_calls_195 ?_
  refine lv_iload_n hx hb dX12_calls_198 rfl (lv_at hl 2 rfl) ?_
  obtain ⟨hi, hm⟩ := ix_elim hm
  refine mas_92 C hw hi dX12_calls_199 (fun H locs hw => ?_)
  exact mw_calls_200 fu C hret x1 x4 F (gup G 92 (F 85).toNatClampNeg x3) hm hw (lv_sub hl [0, 1, 3] rfl)
theorem mw_calls_180 (fu : Nat) {res : Int32 × PF × PG} (C : mMC p R s m args c A v RX12 cX12_calls 7 0 0) (hret : ∀ (H1 : Heap) (locs1 : List Loc) (ls1 : Array Slot) (pc : Nat), mMW s A v a res.2.1 res.2.2 H1 locs1 → narrow .boolean (.int res.1) = .int res.1 → decode cX12_calls pc = .ok (.ireturn, 1) → W p l e R s m args below meth c H1 locs1 0 0 Q (F0 m pc ls1 [.int res.1])) (x1 : Int32) (x3 : Int32) (x4 : Int32) (F : PF) (G : PG) (hm : mb_calls_180 fu x1 x3 x4 F G = some res) {H : Heap} {locs : List Loc} (hw : mMW s A v a F G H locs) {ls : Array Slot} (hl : lv_has ls 7 [(0, .ref (a 212)), (1, .int x1), (3, .int x3), (4, .int x4)]) : W p l e R s m args below meth c H locs 0 0 Q (F0 m 180 ls []) := by
  have hx := C.1
  have hb := C.2.1
  unfold mb_calls_180 at hm
  refine lv_aload_n hx hb dX12_calls_180 rfl (lv_at hl 0 rfl) ?_
  refine mg_X12_138 C hw dX12_calls_181 ?_
  refine lv_aload_n hx hb dX12_calls_184 rfl (lv_at hl 0 rfl) ?_
  refine mg_X12_533 C hw dX12_calls_185 ?_
  refine lv_iload_n hx hb dX12_calls_188 rfl (lv_at hl 1 rfl) ?_
  obtain ⟨hi, hm⟩ := ix_elim hm
  refine mas_91 C hw hi dX12_calls_189 (fun H locs hw => ?_)
  exact mw_calls_190 fu C hret x1 x3 x4 F (gup G 91 (F 85).toNatClampNeg x1) hm hw (lv_sub hl [0, 1, 2, 3] rfl)
theorem mw_calls_174 (fu : Nat) {res : Int32 × PF × PG} (C : mMC p R s m args c A v RX12 cX12_calls 7 0 0) (hret : ∀ (H1 : Heap) (locs1 : List Loc) (ls1 : Array Slot) (pc : Nat), mMW s A v a res.2.1 res.2.2 H1 locs1 → narrow .boolean (.int res.1) = .int res.1 → decode cX12_calls pc = .ok (.ireturn, 1) → W p l e R s m args below meth c H1 locs1 0 0 Q (F0 m pc ls1 [.int res.1])) (ag_130 : Int32 → Int32 → Int32 → Int32 → Int32 → PF → PG → PR) (hag_130 : ∀ (x1 : Int32) (x3 : Int32) (x4 : Int32) (x5 : Int32) (x6 : Int32) (F : PF) (G : PG), ag_130 x1 x3 x4 x5 x6 F G = some res → ∀ (H : Heap) (locs : List Loc) (ls : Array Slot), mMW s A v a F G H locs → lv_has ls 7 [(0, .ref (a 212)), (1, .int x1), (3, .int x3), (4, .int x4), (5, .int x5), (6, .int x6)] → W p l e R s m args below meth c H locs 0 0 Q (F0 m 130 ls [])) (x1 : Int32) (x3 : Int32) (x4 : Int32) (x5 : Int32) (x6 : Int32) (F : PF) (G : PG) (hm : mb_calls_174 fu ag_130 x1 x3 x4 x5 x6 F G = some res) {H : Heap} {locs : List Loc} (hw : mMW s A v a F G H locs) {ls : Array Slot} (hl : lv_has ls 7 [(0, .ref (a 212)), (1, .int x1), (3, .int x3), (4, .int x4), (5, .int x5), (6, .int x6)]) : W p l e R s m args below meth c H locs 0 0 Q (F0 m 174 ls []) := by
  have hx := C.1
  have hb := C.2.1
  unfold mb_calls_174 at hm
  refine lv_iinc (v := (x6 + 1)) (lv' := [(6, .int (x6 + 1)), (0, .ref (a 212)), (1, .int x1), (3, .int x3), (4, .int x4), (5, .int x5)]) hx hb dX12_calls_174 hl (k := 5) rfl (by rfl) (by decide) rfl (fun ls hl => ?_)
  refine lv_goto (tgt := 130) hx hb dX12_calls_177 (by decide) ?_
  exact hag_130 x1 x3 x4 x5 (x6 + 1) F G hm _ _ _ hw (lv_sub hl [1, 2, 3, 4, 5, 0] rfl)
theorem mw_calls_173 (fu : Nat) {res : Int32 × PF × PG} (C : mMC p R s m args c A v RX12 cX12_calls 7 0 0) (hret : ∀ (H1 : Heap) (locs1 : List Loc) (ls1 : Array Slot) (pc : Nat), mMW s A v a res.2.1 res.2.2 H1 locs1 → narrow .boolean (.int res.1) = .int res.1 → decode cX12_calls pc = .ok (.ireturn, 1) → W p l e R s m args below meth c H1 locs1 0 0 Q (F0 m pc ls1 [.int res.1])) (ag_130 : Int32 → Int32 → Int32 → Int32 → Int32 → PF → PG → PR) (hag_130 : ∀ (x1 : Int32) (x3 : Int32) (x4 : Int32) (x5 : Int32) (x6 : Int32) (F : PF) (G : PG), ag_130 x1 x3 x4 x5 x6 F G = some res → ∀ (H : Heap) (locs : List Loc) (ls : Array Slot), mMW s A v a F G H locs → lv_has ls 7 [(0, .ref (a 212)), (1, .int x1), (3, .int x3), (4, .int x4), (5, .int x5), (6, .int x6)] → W p l e R s m args below meth c H locs 0 0 Q (F0 m 130 ls [])) (x1 : Int32) (x3 : Int32) (x4 : Int32) (x5 : Int32) (x6 : Int32) (z0 : Int32) (z1 : Int32) (F : PF) (G : PG) (hm : mb_calls_173 fu ag_130 x1 x3 x4 x5 x6 z0 z1 F G = some res) {H : Heap} {locs : List Loc} (hw : mMW s A v a F G H locs) {ls : Array Slot} (hl : lv_has ls 7 [(0, .ref (a 212)), (1, .int x1), (3, .int x3), (4, .int x4), (5, .int x5), (6, .int x6)]) : W p l e R s m args below meth c H locs 0 0 Q (F0 m 173 ls [.int z0, .int z1, .ref (a 90)]) := by
  have hx := C.1
  have hb := C.2.1
  unfold mb_calls_173 at hm
  obtain ⟨hi, hm⟩ := ix_elim hm
  refine mas_90 C hw hi dX12_calls_173 (fun H locs hw => ?_)
  exact mw_calls_174 fu C hret ag_130 hag_130 x1 x3 x4 x5 x6 F (gup G 90 z1.toNatClampNeg z0) hm hw (lv_sub hl [0, 1, 2, 3, 4, 5] rfl)
theorem mw_calls_172 (fu : Nat) {res : Int32 × PF × PG} (C : mMC p R s m args c A v RX12 cX12_calls 7 0 0) (hret : ∀ (H1 : Heap) (locs1 : List Loc) (ls1 : Array Slot) (pc : Nat), mMW s A v a res.2.1 res.2.2 H1 locs1 → narrow .boolean (.int res.1) = .int res.1 → decode cX12_calls pc = .ok (.ireturn, 1) → W p l e R s m args below meth c H1 locs1 0 0 Q (F0 m pc ls1 [.int res.1])) (ag_130 : Int32 → Int32 → Int32 → Int32 → Int32 → PF → PG → PR) (hag_130 : ∀ (x1 : Int32) (x3 : Int32) (x4 : Int32) (x5 : Int32) (x6 : Int32) (F : PF) (G : PG), ag_130 x1 x3 x4 x5 x6 F G = some res → ∀ (H : Heap) (locs : List Loc) (ls : Array Slot), mMW s A v a F G H locs → lv_has ls 7 [(0, .ref (a 212)), (1, .int x1), (3, .int x3), (4, .int x4), (5, .int x5), (6, .int x6)] → W p l e R s m args below meth c H locs 0 0 Q (F0 m 130 ls [])) (x1 : Int32) (x3 : Int32) (x4 : Int32) (x5 : Int32) (x6 : Int32) (z0 : Int32) (F : PF) (G : PG) (hm : mb_calls_172 fu ag_130 x1 x3 x4 x5 x6 z0 F G = some res) {H : Heap} {locs : List Loc} (hw : mMW s A v a F G H locs) {ls : Array Slot} (hl : lv_has ls 7 [(0, .ref (a 212)), (1, .int x1), (3, .int x3), (4, .int x4), (5, .int x5), (6, .int x6)]) : W p l e R s m args below meth c H locs 0 0 Q (F0 m 172 ls [.int z0, .ref (a 90)]) := by
  have hx := C.1
  have hb := C.2.1
  unfold mb_calls_172 at hm
  refine lv_iconst (v := 0) hx hb dX12_calls_172 (by decide) ?_
  exact mw_calls_173 fu C hret ag_130 hag_130 x1 x3 x4 x5 x6 0 z0 F G hm hw (lv_sub hl [0, 1, 2, 3, 4, 5] rfl)
theorem mw_calls_157 (fu : Nat) {res : Int32 × PF × PG} (C : mMC p R s m args c A v RX12 cX12_calls 7 0 0) (hret : ∀ (H1 : Heap) (locs1 : List Loc) (ls1 : Array Slot) (pc : Nat), mMW s A v a res.2.1 res.2.2 H1 locs1 → narrow .boolean (.int res.1) = .int res.1 → decode cX12_calls pc = .ok (.ireturn, 1) → W p l e R s m args below meth c H1 locs1 0 0 Q (F0 m pc ls1 [.int res.1])) (ag_130 : Int32 → Int32 → Int32 → Int32 → Int32 → PF → PG → PR) (hag_130 : ∀ (x1 : Int32) (x3 : Int32) (x4 : Int32) (x5 : Int32) (x6 : Int32) (F : PF) (G : PG), ag_130 x1 x3 x4 x5 x6 F G = some res → ∀ (H : Heap) (locs : List Loc) (ls : Array Slot), mMW s A v a F G H locs → lv_has ls 7 [(0, .ref (a 212)), (1, .int x1), (3, .int x3), (4, .int x4), (5, .int x5), (6, .int x6)] → W p l e R s m args below meth c H locs 0 0 Q (F0 m 130 ls [])) (x1 : Int32) (x3 : Int32) (x4 : Int32) (x5 : Int32) (x6 : Int32) (z0 : Int32) (F : PF) (G : PG) (hm : mb_calls_157 fu ag_130 x1 x3 x4 x5 x6 z0 F G = some res) {H : Heap} {locs : List Loc} (hw : mMW s A v a F G H locs) {ls : Array Slot} (hl : lv_has ls 7 [(0, .ref (a 212)), (1, .int x1), (3, .int x3), (4, .int x4), (5, .int x5), (6, .int x6)]) : W p l e R s m args below meth c H locs 0 0 Q (F0 m 157 ls [.int z0, .ref (a 90)]) := by
  have hx := C.1
  have hb := C.2.1
  unfold mb_calls_157 at hm
  refine lv_aload_n hx hb dX12_calls_157 rfl (lv_at hl 0 rfl) ?_
  refine mg_X12_126 C hw dX12_calls_158 ?_
  refine lv_aload_n hx hb dX12_calls_161 rfl (lv_at hl 0 rfl) ?_
  refine mg_X12_497 C hw dX12_calls_162 ?_
  refine lv_iload hx hb dX12_calls_165 (lv_at hl 5 rfl) ?_
  refine lv_iadd hx hb dX12_calls_167 ?_
  obtain ⟨hi, hm⟩ := ix_elim hm
  refine mal_71 C hw hi dX12_calls_168 ?_
  refine lv_goto (tgt := 173) hx hb dX12_calls_169 (by decide) ?_
  exact mw_calls_173 fu C hret ag_130 hag_130 x1 x3 x4 x5 x6 (G 71 ((F 72) + x6).toNatClampNeg) z0 F G hm hw (lv_sub hl [0, 1, 2, 3, 4, 5] rfl)
theorem mw_calls_141 (fu : Nat) {res : Int32 × PF × PG} (C : mMC p R s m args c A v RX12 cX12_calls 7 0 0) (hret : ∀ (H1 : Heap) (locs1 : List Loc) (ls1 : Array Slot) (pc : Nat), mMW s A v a res.2.1 res.2.2 H1 locs1 → narrow .boolean (.int res.1) = .int res.1 → decode cX12_calls pc = .ok (.ireturn, 1) → W p l e R s m args below meth c H1 locs1 0 0 Q (F0 m pc ls1 [.int res.1])) (ag_130 : Int32 → Int32 → Int32 → Int32 → Int32 → PF → PG → PR) (hag_130 : ∀ (x1 : Int32) (x3 : Int32) (x4 : Int32) (x5 : Int32) (x6 : Int32) (F : PF) (G : PG), ag_130 x1 x3 x4 x5 x6 F G = some res → ∀ (H : Heap) (locs : List Loc) (ls : Array Slot), mMW s A v a F G H locs → lv_has ls 7 [(0, .ref (a 212)), (1, .int x1), (3, .int x3), (4, .int x4), (5, .int x5), (6, .int x6)] → W p l e R s m args below meth c H locs 0 0 Q (F0 m 130 ls [])) (x1 : Int32) (x3 : Int32) (x4 : Int32) (x5 : Int32) (x6 : Int32) (F : PF) (G : PG) (hm : mb_calls_141 fu ag_130 x1 x3 x4 x5 x6 F G = some res) {H : Heap} {locs : List Loc} (hw : mMW s A v a F G H locs) {ls : Array Slot} (hl : lv_has ls 7 [(0, .ref (a 212)), (1, .int x1), (3, .int x3), (4, .int x4), (5, .int x5), (6, .int x6)]) : W p l e R s m args below meth c H locs 0 0 Q (F0 m 141 ls []) := by
  have hx := C.1
  have hb := C.2.1
  unfold mb_calls_141 at hm
  refine lv_aload_n hx hb dX12_calls_141 rfl (lv_at hl 0 rfl) ?_
  refine mg_X12_135 C hw dX12_calls_142 ?_
  refine lv_iload hx hb dX12_calls_145 (lv_at hl 3 rfl) ?_
  refine lv_iload hx hb dX12_calls_147 (lv_at hl 5 rfl) ?_
  refine lv_iadd hx hb dX12_calls_149 ?_
  refine lv_iload hx hb dX12_calls_150 (lv_at hl 5 rfl) ?_
  refine lv_iload hx hb dX12_calls_152 (lv_at hl 4 rfl) ?_
  refine lv_icmp_ge (tgt := 172) hx hb dX12_calls_154 (by decide) (fun c_1 => ?_) (fun c_1 => ?_)
  · have hm := (if_pos c_1).symm.trans hm
    exact mw_calls_172 fu C hret ag_130 hag_130 x1 x3 x4 x5 x6 (x4 + x6) F G hm hw (lv_sub hl [0, 1, 2, 3, 4, 5] rfl)
  · have hm := (if_neg c_1).symm.trans hm
    exact mw_calls_157 fu C hret ag_130 hag_130 x1 x3 x4 x5 x6 (x4 + x6) F G hm hw (lv_sub hl [0, 1, 2, 3, 4, 5] rfl)
theorem mw_calls_130 (fu : Nat) {res : Int32 × PF × PG} (C : mMC p R s m args c A v RX12 cX12_calls 7 0 0) (hret : ∀ (H1 : Heap) (locs1 : List Loc) (ls1 : Array Slot) (pc : Nat), mMW s A v a res.2.1 res.2.2 H1 locs1 → narrow .boolean (.int res.1) = .int res.1 → decode cX12_calls pc = .ok (.ireturn, 1) → W p l e R s m args below meth c H1 locs1 0 0 Q (F0 m pc ls1 [.int res.1])) (ag_130 : Int32 → Int32 → Int32 → Int32 → Int32 → PF → PG → PR) (hag_130 : ∀ (x1 : Int32) (x3 : Int32) (x4 : Int32) (x5 : Int32) (x6 : Int32) (F : PF) (G : PG), ag_130 x1 x3 x4 x5 x6 F G = some res → ∀ (H : Heap) (locs : List Loc) (ls : Array Slot), mMW s A v a F G H locs → lv_has ls 7 [(0, .ref (a 212)), (1, .int x1), (3, .int x3), (4, .int x4), (5, .int x5), (6, .int x6)] → W p l e R s m args below meth c H locs 0 0 Q (F0 m 130 ls [])) (x1 : Int32) (x3 : Int32) (x4 : Int32) (x5 : Int32) (x6 : Int32) (F : PF) (G : PG) (hm : mb_calls_130 fu ag_130 x1 x3 x4 x5 x6 F G = some res) {H : Heap} {locs : List Loc} (hw : mMW s A v a F G H locs) {ls : Array Slot} (hl : lv_has ls 7 [(0, .ref (a 212)), (1, .int x1), (3, .int x3), (4, .int x4), (5, .int x5), (6, .int x6)]) : W p l e R s m args below meth c H locs 0 0 Q (F0 m 130 ls []) := by
  have hx := C.1
  have hb := C.2.1
  unfold mb_calls_130 at hm
  refine lv_iload hx hb dX12_calls_130 (lv_at hl 5 rfl) ?_
  refine lv_aload_n hx hb dX12_calls_132 rfl (lv_at hl 0 rfl) ?_
  refine mg_X12_74 C hw dX12_calls_133 ?_
  refine lv_iload_n hx hb dX12_calls_136 rfl (lv_at hl 1 rfl) ?_
  obtain ⟨hi, hm⟩ := ix_elim hm
  refine mal_29 C hw hi dX12_calls_137 ?_
  refine lv_icmp_ge (tgt := 180) hx hb dX12_calls_138 (by decide) (fun c_1 => ?_) (fun c_1 => ?_)
  · have hm := (if_pos c_1).symm.trans hm
    exact mw_calls_180 fu C hret x1 x3 x4 F G hm hw (lv_sub hl [0, 1, 2, 3] rfl)
  · have hm := (if_neg c_1).symm.trans hm
    exact mw_calls_141 fu C hret ag_130 hag_130 x1 x3 x4 x5 x6 F G hm hw (lv_sub hl [0, 1, 2, 3, 4, 5] rfl)
theorem mwl_calls_130 (fu : Nat) {res : Int32 × PF × PG} (C : mMC p R s m args c A v RX12 cX12_calls 7 0 0) (hret : ∀ (H1 : Heap) (locs1 : List Loc) (ls1 : Array Slot) (pc : Nat), mMW s A v a res.2.1 res.2.2 H1 locs1 → narrow .boolean (.int res.1) = .int res.1 → decode cX12_calls pc = .ok (.ireturn, 1) → W p l e R s m args below meth c H1 locs1 0 0 Q (F0 m pc ls1 [.int res.1])) : ∀ (n : Nat) (x1 : Int32) (x3 : Int32) (x4 : Int32) (x5 : Int32) (x6 : Int32) (F : PF) (G : PG) (hm : ml_calls_130 fu n x1 x3 x4 x5 x6 F G = some res) {H : Heap} {locs : List Loc} (hw : mMW s A v a F G H locs) {ls : Array Slot} (hl : lv_has ls 7 [(0, .ref (a 212)), (1, .int x1), (3, .int x3), (4, .int x4), (5, .int x5), (6, .int x6)]), W p l e R s m args below meth c H locs 0 0 Q (F0 m 130 ls []) := by
  intro n
  induction n with
  | zero =>
    intro x1 x3 x4 x5 x6 F G hm
    exact no_elim (show (none : PR) = some res from hm)
  | succ n ih =>
    intro x1 x3 x4 x5 x6 F G hm H locs hw ls hl
    exact mw_calls_130 fu C hret (ml_calls_130 fu n) (fun x1 x3 x4 x5 x6 F G hm H locs ls hw hl => ih x1 x3 x4 x5 x6 F G hm hw hl) x1 x3 x4 x5 x6 F G hm hw hl
theorem mw_calls_127 (fu : Nat) {res : Int32 × PF × PG} (C : mMC p R s m args c A v RX12 cX12_calls 7 0 0) (hret : ∀ (H1 : Heap) (locs1 : List Loc) (ls1 : Array Slot) (pc : Nat), mMW s A v a res.2.1 res.2.2 H1 locs1 → narrow .boolean (.int res.1) = .int res.1 → decode cX12_calls pc = .ok (.ireturn, 1) → W p l e R s m args below meth c H1 locs1 0 0 Q (F0 m pc ls1 [.int res.1])) (x1 : Int32) (x3 : Int32) (x4 : Int32) (x5 : Int32) (F : PF) (G : PG) (hm : mb_calls_127 fu x1 x3 x4 x5 F G = some res) {H : Heap} {locs : List Loc} (hw : mMW s A v a F G H locs) {ls : Array Slot} (hl : lv_has ls 7 [(0, .ref (a 212)), (1, .int x1), (3, .int x3), (4, .int x4), (5, .int x5)]) : W p l e R s m args below meth c H locs 0 0 Q (F0 m 127 ls []) := by
  have hx := C.1
  have hb := C.2.1
  unfold mb_calls_127 at hm
  refine lv_iconst (v := 0) hx hb dX12_calls_127 (by decide) ?_
  refine lv_istore (lv' := [(6, .int 0), (0, .ref (a 212)), (1, .int x1), (3, .int x3), (4, .int x4), (5, .int x5)]) hx hb dX12_calls_128 hl (by decide) rfl (fun ls hl => ?_)
  exact mwl_calls_130 fu C hret fu x1 x3 x4 x5 0 F G hm hw (lv_sub hl [1, 2, 3, 4, 5, 0] rfl)
theorem mw_calls_116 (fu : Nat) {res : Int32 × PF × PG} (C : mMC p R s m args c A v RX12 cX12_calls 7 0 0) (hret : ∀ (H1 : Heap) (locs1 : List Loc) (ls1 : Array Slot) (pc : Nat), mMW s A v a res.2.1 res.2.2 H1 locs1 → narrow .boolean (.int res.1) = .int res.1 → decode cX12_calls pc = .ok (.ireturn, 1) → W p l e R s m args below meth c H1 locs1 0 0 Q (F0 m pc ls1 [.int res.1])) (x1 : Int32) (x3 : Int32) (x4 : Int32) (x5 : Int32) (F : PF) (G : PG) (hm : mb_calls_116 fu x1 x3 x4 x5 F G = some res) {H : Heap} {locs : List Loc} (hw : mMW s A v a F G H locs) {ls : Array Slot} (hl : lv_has ls 7 [(0, .ref (a 212)), (1, .int x1), (3, .int x3), (4, .int x4), (5, .int x5)]) : W p l e R s m args below meth c H locs 0 0 Q (F0 m 116 ls []) := by
  have hx := C.1
  have hb := C.2.1
  unfold mb_calls_116 at hm
  refine lv_aload_n hx hb dX12_calls_116 rfl (lv_at hl 0 rfl) ?_
  refine lv_dup hx hb dX12_calls_117 rfl ?_
  refine mg_X12_497 C hw dX12_calls_118 ?_
  refine lv_iload hx hb dX12_calls_121 (lv_at hl 4 rfl) ?_
  refine lv_isub hx hb dX12_calls_123 ?_
  refine mp_X12_497 C hw dX12_calls_124 (fun H locs hw => ?_)
  exact mw_calls_127 fu C hret x1 x3 x4 x5 (fup F 72 ((F 72) - x5)) G hm hw (lv_sub hl [0, 1, 2, 3, 4] rfl)
theorem mw_calls_107 (fu : Nat) {res : Int32 × PF × PG} (C : mMC p R s m args c A v RX12 cX12_calls 7 0 0) (hret : ∀ (H1 : Heap) (locs1 : List Loc) (ls1 : Array Slot) (pc : Nat), mMW s A v a res.2.1 res.2.2 H1 locs1 → narrow .boolean (.int res.1) = .int res.1 → decode cX12_calls pc = .ok (.ireturn, 1) → W p l e R s m args below meth c H1 locs1 0 0 Q (F0 m pc ls1 [.int res.1])) (ag_72 : Int32 → Int32 → Int32 → Int32 → Int32 → PF → PG → PR) (hag_72 : ∀ (x1 : Int32) (x3 : Int32) (x4 : Int32) (x5 : Int32) (x6 : Int32) (F : PF) (G : PG), ag_72 x1 x3 x4 x5 x6 F G = some res → ∀ (H : Heap) (locs : List Loc) (ls : Array Slot), mMW s A v a F G H locs → lv_has ls 7 [(0, .ref (a 212)), (1, .int x1), (3, .int x3), (4, .int x4), (5, .int x5), (6, .int x6)] → W p l e R s m args below meth c H locs 0 0 Q (F0 m 72 ls [])) (x1 : Int32) (x3 : Int32) (x4 : Int32) (x6 : Int32) (z0 : Int32) (z1 : Int32) (F : PF) (G : PG) (hm : mb_calls_107 fu ag_72 x1 x3 x4 x6 z0 z1 F G = some res) {H : Heap} {locs : List Loc} (hw : mMW s A v a F G H locs) {ls : Array Slot} (hl : lv_has ls 7 [(0, .ref (a 212)), (1, .int x1), (3, .int x3), (4, .int x4), (6, .int x6)]) : W p l e R s m args below meth c H locs 0 0 Q (F0 m 107 ls [.int z0, .int z1]) := by
  have hx := C.1
  have hb := C.2.1
  unfold mb_calls_107 at hm
  refine lv_iadd hx hb dX12_calls_107 ?_
  refine lv_istore (lv' := [(5, .int (z1 + z0)), (0, .ref (a 212)), (1, .int x1), (3, .int x3), (4, .int x4), (6, .int x6)]) hx hb dX12_calls_108 hl (by decide) rfl (fun ls hl => ?_)
  refine lv_iinc (v := (x6 + 1)) (lv' := [(6, .int (x6 + 1)), (5, .int (z1 + z0)), (0, .ref (a 212)), (1, .int x1), (3, .int x3), (4, .int x4)]) hx hb dX12_calls_110 hl (k := 5) rfl (by rfl) (by decide) rfl (fun ls hl => ?_)
  refine lv_goto (tgt := 72) hx hb dX12_calls_113 (by decide) ?_
  exact hag_72 x1 x3 x4 (z1 + z0) (x6 + 1) F G hm _ _ _ hw (lv_sub hl [2, 3, 4, 5, 1, 0] rfl)
theorem mw_calls_106 (fu : Nat) {res : Int32 × PF × PG} (C : mMC p R s m args c A v RX12 cX12_calls 7 0 0) (hret : ∀ (H1 : Heap) (locs1 : List Loc) (ls1 : Array Slot) (pc : Nat), mMW s A v a res.2.1 res.2.2 H1 locs1 → narrow .boolean (.int res.1) = .int res.1 → decode cX12_calls pc = .ok (.ireturn, 1) → W p l e R s m args below meth c H1 locs1 0 0 Q (F0 m pc ls1 [.int res.1])) (ag_72 : Int32 → Int32 → Int32 → Int32 → Int32 → PF → PG → PR) (hag_72 : ∀ (x1 : Int32) (x3 : Int32) (x4 : Int32) (x5 : Int32) (x6 : Int32) (F : PF) (G : PG), ag_72 x1 x3 x4 x5 x6 F G = some res → ∀ (H : Heap) (locs : List Loc) (ls : Array Slot), mMW s A v a F G H locs → lv_has ls 7 [(0, .ref (a 212)), (1, .int x1), (3, .int x3), (4, .int x4), (5, .int x5), (6, .int x6)] → W p l e R s m args below meth c H locs 0 0 Q (F0 m 72 ls [])) (x1 : Int32) (x3 : Int32) (x4 : Int32) (x6 : Int32) (z0 : Int32) (F : PF) (G : PG) (hm : mb_calls_106 fu ag_72 x1 x3 x4 x6 z0 F G = some res) {H : Heap} {locs : List Loc} (hw : mMW s A v a F G H locs) {ls : Array Slot} (hl : lv_has ls 7 [(0, .ref (a 212)), (1, .int x1), (3, .int x3), (4, .int x4), (6, .int x6)]) : W p l e R s m args below meth c H locs 0 0 Q (F0 m 106 ls [.int z0]) := by
  have hx := C.1
  have hb := C.2.1
  unfold mb_calls_106 at hm
  refine lv_iconst (v := 2) hx hb dX12_calls_106 (by decide) ?_
  exact mw_calls_107 fu C hret ag_72 hag_72 x1 x3 x4 x6 2 z0 F G hm hw (lv_sub hl [0, 1, 2, 3, 4] rfl)
theorem mw_calls_102 (fu : Nat) {res : Int32 × PF × PG} (C : mMC p R s m args c A v RX12 cX12_calls 7 0 0) (hret : ∀ (H1 : Heap) (locs1 : List Loc) (ls1 : Array Slot) (pc : Nat), mMW s A v a res.2.1 res.2.2 H1 locs1 → narrow .boolean (.int res.1) = .int res.1 → decode cX12_calls pc = .ok (.ireturn, 1) → W p l e R s m args below meth c H1 locs1 0 0 Q (F0 m pc ls1 [.int res.1])) (ag_72 : Int32 → Int32 → Int32 → Int32 → Int32 → PF → PG → PR) (hag_72 : ∀ (x1 : Int32) (x3 : Int32) (x4 : Int32) (x5 : Int32) (x6 : Int32) (F : PF) (G : PG), ag_72 x1 x3 x4 x5 x6 F G = some res → ∀ (H : Heap) (locs : List Loc) (ls : Array Slot), mMW s A v a F G H locs → lv_has ls 7 [(0, .ref (a 212)), (1, .int x1), (3, .int x3), (4, .int x4), (5, .int x5), (6, .int x6)] → W p l e R s m args below meth c H locs 0 0 Q (F0 m 72 ls [])) (x1 : Int32) (x3 : Int32) (x4 : Int32) (x6 : Int32) (z0 : Int32) (F : PF) (G : PG) (hm : mb_calls_102 fu ag_72 x1 x3 x4 x6 z0 F G = some res) {H : Heap} {locs : List Loc} (hw : mMW s A v a F G H locs) {ls : Array Slot} (hl : lv_has ls 7 [(0, .ref (a 212)), (1, .int x1), (3, .int x3), (4, .int x4), (6, .int x6)]) : W p l e R s m args below meth c H locs 0 0 Q (F0 m 102 ls [.int z0]) := by
  have hx := C.1
  have hb := C.2.1
  unfold mb_calls_102 at hm
  refine lv_iconst (v := 1) hx hb dX12_calls_102 (by decide) ?_
  refine lv_goto (tgt := 107) hx hb dX12_calls_103 (by decide) ?_
  exact mw_calls_107 fu C hret ag_72 hag_72 x1 x3 x4 x6 1 z0 F G hm hw (lv_sub hl [0, 1, 2, 3, 4] rfl)
theorem mw_calls_83 (fu : Nat) {res : Int32 × PF × PG} (C : mMC p R s m args c A v RX12 cX12_calls 7 0 0) (hret : ∀ (H1 : Heap) (locs1 : List Loc) (ls1 : Array Slot) (pc : Nat), mMW s A v a res.2.1 res.2.2 H1 locs1 → narrow .boolean (.int res.1) = .int res.1 → decode cX12_calls pc = .ok (.ireturn, 1) → W p l e R s m args below meth c H1 locs1 0 0 Q (F0 m pc ls1 [.int res.1])) (ag_72 : Int32 → Int32 → Int32 → Int32 → Int32 → PF → PG → PR) (hag_72 : ∀ (x1 : Int32) (x3 : Int32) (x4 : Int32) (x5 : Int32) (x6 : Int32) (F : PF) (G : PG), ag_72 x1 x3 x4 x5 x6 F G = some res → ∀ (H : Heap) (locs : List Loc) (ls : Array Slot), mMW s A v a F G H locs → lv_has ls 7 [(0, .ref (a 212)), (1, .int x1), (3, .int x3), (4, .int x4), (5, .int x5), (6, .int x6)] → W p l e R s m args below meth c H locs 0 0 Q (F0 m 72 ls [])) (x1 : Int32) (x3 : Int32) (x4 : Int32) (x5 : Int32) (x6 : Int32) (F : PF) (G : PG) (hm : mb_calls_83 fu ag_72 x1 x3 x4 x5 x6 F G = some res) {H : Heap} {locs : List Loc} (hw : mMW s A v a F G H locs) {ls : Array Slot} (hl : lv_has ls 7 [(0, .ref (a 212)), (1, .int x1), (3, .int x3), (4, .int x4), (5, .int x5), (6, .int x6)]) : W p l e R s m args below meth c H locs 0 0 Q (F0 m 83 ls []) := by
  have hx := C.1
  have hb := C.2.1
  unfold mb_calls_83 at hm
  refine lv_iload hx hb dX12_calls_83 (lv_at hl 4 rfl) ?_
  refine lv_aload_n hx hb dX12_calls_85 rfl (lv_at hl 0 rfl) ?_
  refine mg_X12_89 C hw dX12_calls_86 ?_
  refine lv_aload_n hx hb dX12_calls_89 rfl (lv_at hl 0 rfl) ?_
  refine mg_X12_80 C hw dX12_calls_90 ?_
  refine lv_iload_n hx hb dX12_calls_93 rfl (lv_at hl 1 rfl) ?_
  obtain ⟨hi, hm⟩ := ix_elim hm
  refine mal_31 C hw hi dX12_calls_94 ?_
  refine lv_iload hx hb dX12_calls_95 (lv_at hl 5 rfl) ?_
  refine lv_iadd hx hb dX12_calls_97 ?_
  obtain ⟨hi, hm⟩ := ix_elim hm
  refine mal_34 C hw hi dX12_calls_98 ?_
  refine lv_if_ne (tgt := 106) hx hb dX12_calls_99 (by decide) (fun c_1 => ?_) (fun c_1 => ?_)
  · have hm := (if_neg c_1).symm.trans hm
    exact mw_calls_106 fu C hret ag_72 hag_72 x1 x3 x4 x6 x5 F G hm hw (lv_sub hl [0, 1, 2, 3, 5] rfl)
  · have hm := (if_pos c_1).symm.trans hm
    exact mw_calls_102 fu C hret ag_72 hag_72 x1 x3 x4 x6 x5 F G hm hw (lv_sub hl [0, 1, 2, 3, 5] rfl)
theorem mw_calls_72 (fu : Nat) {res : Int32 × PF × PG} (C : mMC p R s m args c A v RX12 cX12_calls 7 0 0) (hret : ∀ (H1 : Heap) (locs1 : List Loc) (ls1 : Array Slot) (pc : Nat), mMW s A v a res.2.1 res.2.2 H1 locs1 → narrow .boolean (.int res.1) = .int res.1 → decode cX12_calls pc = .ok (.ireturn, 1) → W p l e R s m args below meth c H1 locs1 0 0 Q (F0 m pc ls1 [.int res.1])) (ag_72 : Int32 → Int32 → Int32 → Int32 → Int32 → PF → PG → PR) (hag_72 : ∀ (x1 : Int32) (x3 : Int32) (x4 : Int32) (x5 : Int32) (x6 : Int32) (F : PF) (G : PG), ag_72 x1 x3 x4 x5 x6 F G = some res → ∀ (H : Heap) (locs : List Loc) (ls : Array Slot), mMW s A v a F G H locs → lv_has ls 7 [(0, .ref (a 212)), (1, .int x1), (3, .int x3), (4, .int x4), (5, .int x5), (6, .int x6)] → W p l e R s m args below meth c H locs 0 0 Q (F0 m 72 ls [])) (x1 : Int32) (x3 : Int32) (x4 : Int32) (x5 : Int32) (x6 : Int32) (F : PF) (G : PG) (hm : mb_calls_72 fu ag_72 x1 x3 x4 x5 x6 F G = some res) {H : Heap} {locs : List Loc} (hw : mMW s A v a F G H locs) {ls : Array Slot} (hl : lv_has ls 7 [(0, .ref (a 212)), (1, .int x1), (3, .int x3), (4, .int x4), (5, .int x5), (6, .int x6)]) : W p l e R s m args below meth c H locs 0 0 Q (F0 m 72 ls []) := by
  have hx := C.1
  have hb := C.2.1
  unfold mb_calls_72 at hm
  refine lv_iload hx hb dX12_calls_72 (lv_at hl 5 rfl) ?_
  refine lv_aload_n hx hb dX12_calls_74 rfl (lv_at hl 0 rfl) ?_
  refine mg_X12_68 C hw dX12_calls_75 ?_
  refine lv_iload_n hx hb dX12_calls_78 rfl (lv_at hl 1 rfl) ?_
  obtain ⟨hi, hm⟩ := ix_elim hm
  refine mal_27 C hw hi dX12_calls_79 ?_
  refine lv_icmp_ge (tgt := 116) hx hb dX12_calls_80 (by decide) (fun c_1 => ?_) (fun c_1 => ?_)
  · have hm := (if_pos c_1).symm.trans hm
    exact mw_calls_116 fu C hret x1 x3 x4 x5 F G hm hw (lv_sub hl [0, 1, 2, 3, 4] rfl)
  · have hm := (if_neg c_1).symm.trans hm
    exact mw_calls_83 fu C hret ag_72 hag_72 x1 x3 x4 x5 x6 F G hm hw (lv_sub hl [0, 1, 2, 3, 4, 5] rfl)
theorem mwl_calls_72 (fu : Nat) {res : Int32 × PF × PG} (C : mMC p R s m args c A v RX12 cX12_calls 7 0 0) (hret : ∀ (H1 : Heap) (locs1 : List Loc) (ls1 : Array Slot) (pc : Nat), mMW s A v a res.2.1 res.2.2 H1 locs1 → narrow .boolean (.int res.1) = .int res.1 → decode cX12_calls pc = .ok (.ireturn, 1) → W p l e R s m args below meth c H1 locs1 0 0 Q (F0 m pc ls1 [.int res.1])) : ∀ (n : Nat) (x1 : Int32) (x3 : Int32) (x4 : Int32) (x5 : Int32) (x6 : Int32) (F : PF) (G : PG) (hm : ml_calls_72 fu n x1 x3 x4 x5 x6 F G = some res) {H : Heap} {locs : List Loc} (hw : mMW s A v a F G H locs) {ls : Array Slot} (hl : lv_has ls 7 [(0, .ref (a 212)), (1, .int x1), (3, .int x3), (4, .int x4), (5, .int x5), (6, .int x6)]), W p l e R s m args below meth c H locs 0 0 Q (F0 m 72 ls []) := by
  intro n
  induction n with
  | zero =>
    intro x1 x3 x4 x5 x6 F G hm
    exact no_elim (show (none : PR) = some res from hm)
  | succ n ih =>
    intro x1 x3 x4 x5 x6 F G hm H locs hw ls hl
    exact mw_calls_72 fu C hret (ml_calls_72 fu n) (fun x1 x3 x4 x5 x6 F G hm H locs ls hw hl => ih x1 x3 x4 x5 x6 F G hm hw hl) x1 x3 x4 x5 x6 F G hm hw hl
theorem mw_calls_64 (fu : Nat) {res : Int32 × PF × PG} (C : mMC p R s m args c A v RX12 cX12_calls 7 0 0) (hret : ∀ (H1 : Heap) (locs1 : List Loc) (ls1 : Array Slot) (pc : Nat), mMW s A v a res.2.1 res.2.2 H1 locs1 → narrow .boolean (.int res.1) = .int res.1 → decode cX12_calls pc = .ok (.ireturn, 1) → W p l e R s m args below meth c H1 locs1 0 0 Q (F0 m pc ls1 [.int res.1])) (x1 : Int32) (x3 : Int32) (z0 : Int32) (F : PF) (G : PG) (hm : mb_calls_64 fu x1 x3 z0 F G = some res) {H : Heap} {locs : List Loc} (hw : mMW s A v a F G H locs) {ls : Array Slot} (hl : lv_has ls 7 [(0, .ref (a 212)), (1, .int x1), (3, .int x3)]) : W p l e R s m args below meth c H locs 0 0 Q (F0 m 64 ls [.int z0]) := by
  have hx := C.1
  have hb := C.2.1
  unfold mb_calls_64 at hm
  refine lv_istore (lv' := [(4, .int z0), (0, .ref (a 212)), (1, .int x1), (3, .int x3)]) hx hb dX12_calls_64 hl (by decide) rfl (fun ls hl => ?_)
  refine lv_iconst (v := 0) hx hb dX12_calls_66 (by decide) ?_
  refine lv_istore (lv' := [(5, .int 0), (4, .int z0), (0, .ref (a 212)), (1, .int x1), (3, .int x3)]) hx hb dX12_calls_67 hl (by decide) rfl (fun ls hl => ?_)
  refine lv_iconst (v := 0) hx hb dX12_calls_69 (by decide) ?_
  refine lv_istore (lv' := [(6, .int 0), (5, .int 0), (4, .int z0), (0, .ref (a 212)), (1, .int x1), (3, .int x3)]) hx hb dX12_calls_70 hl (by decide) rfl (fun ls hl => ?_)
  exact mwl_calls_72 fu C hret fu x1 x3 z0 0 0 F G hm hw (lv_sub hl [3, 4, 5, 2, 1, 0] rfl)
theorem mw_calls_60 (fu : Nat) {res : Int32 × PF × PG} (C : mMC p R s m args c A v RX12 cX12_calls 7 0 0) (hret : ∀ (H1 : Heap) (locs1 : List Loc) (ls1 : Array Slot) (pc : Nat), mMW s A v a res.2.1 res.2.2 H1 locs1 → narrow .boolean (.int res.1) = .int res.1 → decode cX12_calls pc = .ok (.ireturn, 1) → W p l e R s m args below meth c H1 locs1 0 0 Q (F0 m pc ls1 [.int res.1])) (x1 : Int32) (x3 : Int32) (F : PF) (G : PG) (hm : mb_calls_60 fu x1 x3 F G = some res) {H : Heap} {locs : List Loc} (hw : mMW s A v a F G H locs) {ls : Array Slot} (hl : lv_has ls 7 [(0, .ref (a 212)), (1, .int x1), (3, .int x3)]) : W p l e R s m args below meth c H locs 0 0 Q (F0 m 60 ls []) := by
  have hx := C.1
  have hb := C.2.1
  unfold mb_calls_60 at hm
  refine lv_aload_n hx hb dX12_calls_60 rfl (lv_at hl 0 rfl) ?_
  refine mg_X12_547 C hw dX12_calls_61 ?_
  exact mw_calls_64 fu C hret x1 x3 (F 87) F G hm hw (lv_sub hl [0, 1, 2] rfl)
theorem mw_calls_53 (fu : Nat) {res : Int32 × PF × PG} (C : mMC p R s m args c A v RX12 cX12_calls 7 0 0) (hret : ∀ (H1 : Heap) (locs1 : List Loc) (ls1 : Array Slot) (pc : Nat), mMW s A v a res.2.1 res.2.2 H1 locs1 → narrow .boolean (.int res.1) = .int res.1 → decode cX12_calls pc = .ok (.ireturn, 1) → W p l e R s m args below meth c H1 locs1 0 0 Q (F0 m pc ls1 [.int res.1])) (x1 : Int32) (x3 : Int32) (F : PF) (G : PG) (hm : mb_calls_53 fu x1 x3 F G = some res) {H : Heap} {locs : List Loc} (hw : mMW s A v a F G H locs) {ls : Array Slot} (hl : lv_has ls 7 [(0, .ref (a 212)), (1, .int x1), (3, .int x3)]) : W p l e R s m args below meth c H locs 0 0 Q (F0 m 53 ls []) := by
  have hx := C.1
  have hb := C.2.1
  unfold mb_calls_53 at hm
  refine lv_aload_n hx hb dX12_calls_53 rfl (lv_at hl 0 rfl) ?_
  refine mg_X12_291 C hw dX12_calls_54 ?_
  refine lv_goto (tgt := 64) hx hb dX12_calls_57 (by decide) ?_
  exact mw_calls_64 fu C hret x1 x3 (F 37) F G hm hw (lv_sub hl [0, 1, 2] rfl)
theorem mw_calls_46 (fu : Nat) {res : Int32 × PF × PG} (C : mMC p R s m args c A v RX12 cX12_calls 7 0 0) (hret : ∀ (H1 : Heap) (locs1 : List Loc) (ls1 : Array Slot) (pc : Nat), mMW s A v a res.2.1 res.2.2 H1 locs1 → narrow .boolean (.int res.1) = .int res.1 → decode cX12_calls pc = .ok (.ireturn, 1) → W p l e R s m args below meth c H1 locs1 0 0 Q (F0 m pc ls1 [.int res.1])) (x1 : Int32) (x3 : Int32) (F : PF) (G : PG) (hm : mb_calls_46 fu x1 x3 F G = some res) {H : Heap} {locs : List Loc} (hw : mMW s A v a F G H locs) {ls : Array Slot} (hl : lv_has ls 7 [(0, .ref (a 212)), (1, .int x1), (3, .int x3)]) : W p l e R s m args below meth c H locs 0 0 Q (F0 m 46 ls []) := by
  have hx := C.1
  have hb := C.2.1
  unfold mb_calls_46 at hm
  refine lv_aload_n hx hb dX12_calls_46 rfl (lv_at hl 0 rfl) ?_
  refine mg_X12_533 C hw dX12_calls_47 ?_
  refine lv_if_ne (tgt := 60) hx hb dX12_calls_50 (by decide) (fun c_1 => ?_) (fun c_1 => ?_)
  · have hm := (if_neg c_1).symm.trans hm
    exact mw_calls_60 fu C hret x1 x3 F G hm hw (lv_sub hl [0, 1, 2] rfl)
  · have hm := (if_pos c_1).symm.trans hm
    exact mw_calls_53 fu C hret x1 x3 F G hm hw (lv_sub hl [0, 1, 2] rfl)
theorem mw_calls_31 (fu : Nat) {res : Int32 × PF × PG} (C : mMC p R s m args c A v RX12 cX12_calls 7 0 0) (hret : ∀ (H1 : Heap) (locs1 : List Loc) (ls1 : Array Slot) (pc : Nat), mMW s A v a res.2.1 res.2.2 H1 locs1 → narrow .boolean (.int res.1) = .int res.1 → decode cX12_calls pc = .ok (.ireturn, 1) → W p l e R s m args below meth c H1 locs1 0 0 Q (F0 m pc ls1 [.int res.1])) (x1 : Int32) (x3 : Int32) (F : PF) (G : PG) (hm : mb_calls_31 fu x1 x3 F G = some res) {H : Heap} {locs : List Loc} (hw : mMW s A v a F G H locs) {ls : Array Slot} (hl : lv_has ls 7 [(0, .ref (a 212)), (1, .int x1), (3, .int x3)]) : W p l e R s m args below meth c H locs 0 0 Q (F0 m 31 ls []) := by
  have hx := C.1
  have hb := C.2.1
  unfold mb_calls_31 at hm
  refine lv_aload_n hx hb dX12_calls_31 rfl (lv_at hl 0 rfl) ?_
  refine lv_dup hx hb dX12_calls_32 rfl ?_
  refine mg_X12_544 C hw dX12_calls_33 ?_
  refine lv_aload_n hx hb dX12_calls_36 rfl (lv_at hl 0 rfl) ?_
  refine mg_X12_71 C hw dX12_calls_37 ?_
  refine lv_iload_n hx hb dX12_calls_40 rfl (lv_at hl 1 rfl) ?_
  obtain ⟨hi, hm⟩ := ix_elim hm
  refine mal_28 C hw hi dX12_calls_41 ?_
  refine lv_iadd hx hb dX12_calls_42 ?_
  refine mp_X12_544 C hw dX12_calls_43 (fun H locs hw => ?_)
  exact mw_calls_46 fu C hret x1 x3 (fup F 83 ((F 83) + (G 28 x1.toNatClampNeg))) G hm hw (lv_sub hl [0, 1, 2] rfl)
theorem mw_calls_29 (fu : Nat) {res : Int32 × PF × PG} (C : mMC p R s m args c A v RX12 cX12_calls 7 0 0) (hret : ∀ (H1 : Heap) (locs1 : List Loc) (ls1 : Array Slot) (pc : Nat), mMW s A v a res.2.1 res.2.2 H1 locs1 → narrow .boolean (.int res.1) = .int res.1 → decode cX12_calls pc = .ok (.ireturn, 1) → W p l e R s m args below meth c H1 locs1 0 0 Q (F0 m pc ls1 [.int res.1])) (F : PF) (G : PG) (hm : mb_calls_29 fu F G = some res) {H : Heap} {locs : List Loc} (hw : mMW s A v a F G H locs) {ls : Array Slot} (hl : lv_has ls 7 []) : W p l e R s m args below meth c H locs 0 0 Q (F0 m 29 ls []) := by
  have hx := C.1
  have hb := C.2.1
  unfold mb_calls_29 at hm
  refine lv_iconst (v := 0) hx hb dX12_calls_29 (by decide) ?_
  obtain rfl := Option.some.inj hm
  exact hret _ _ _ _ hw (b01_nar (v := 0) (Or.inl rfl)) dX12_calls_30
theorem mw_calls_24 (fu : Nat) {res : Int32 × PF × PG} (C : mMC p R s m args c A v RX12 cX12_calls 7 0 0) (hret : ∀ (H1 : Heap) (locs1 : List Loc) (ls1 : Array Slot) (pc : Nat), mMW s A v a res.2.1 res.2.2 H1 locs1 → narrow .boolean (.int res.1) = .int res.1 → decode cX12_calls pc = .ok (.ireturn, 1) → W p l e R s m args below meth c H1 locs1 0 0 Q (F0 m pc ls1 [.int res.1])) (x2 : Int32) (F : PF) (G : PG) (hm : mb_calls_24 fu x2 F G = some res) {H : Heap} {locs : List Loc} (hw : mMW s A v a F G H locs) {ls : Array Slot} (hl : lv_has ls 7 [(0, .ref (a 212)), (2, .int x2)]) : W p l e R s m args below meth c H locs 0 0 Q (F0 m 24 ls []) := by
  have hx := C.1
  have hb := C.2.1
  unfold mb_calls_24 at hm
  refine lv_aload_n hx hb dX12_calls_24 rfl (lv_at hl 0 rfl) ?_
  refine lv_iload_n hx hb dX12_calls_25 rfl (lv_at hl 1 rfl) ?_
  refine mp_X12_541 C hw dX12_calls_26 (fun H locs hw => ?_)
  exact mw_calls_29 fu C hret (fup F 82 x2) G hm hw (lv_sub hl [] rfl)
theorem mw_calls_18 (fu : Nat) {res : Int32 × PF × PG} (C : mMC p R s m args c A v RX12 cX12_calls 7 0 0) (hret : ∀ (H1 : Heap) (locs1 : List Loc) (ls1 : Array Slot) (pc : Nat), mMW s A v a res.2.1 res.2.2 H1 locs1 → narrow .boolean (.int res.1) = .int res.1 → decode cX12_calls pc = .ok (.ireturn, 1) → W p l e R s m args below meth c H1 locs1 0 0 Q (F0 m pc ls1 [.int res.1])) (x2 : Int32) (F : PF) (G : PG) (hm : mb_calls_18 fu x2 F G = some res) {H : Heap} {locs : List Loc} (hw : mMW s A v a F G H locs) {ls : Array Slot} (hl : lv_has ls 7 [(0, .ref (a 212)), (2, .int x2)]) : W p l e R s m args below meth c H locs 0 0 Q (F0 m 18 ls []) := by
  have hx := C.1
  have hb := C.2.1
  unfold mb_calls_18 at hm
  refine lv_aload_n hx hb dX12_calls_18 rfl (lv_at hl 0 rfl) ?_
  refine lv_bipush (v := 6) hx hb dX12_calls_19 (by decide) ?_
  refine mp_X12_512 C hw dX12_calls_21 (fun H locs hw => ?_)
  exact mw_calls_24 fu C hret x2 (fup F 75 (6 : Int32)) G hm hw (lv_sub hl [0, 1] rfl)
theorem mw_calls_0 (fu : Nat) {res : Int32 × PF × PG} (C : mMC p R s m args c A v RX12 cX12_calls 7 0 0) (hret : ∀ (H1 : Heap) (locs1 : List Loc) (ls1 : Array Slot) (pc : Nat), mMW s A v a res.2.1 res.2.2 H1 locs1 → narrow .boolean (.int res.1) = .int res.1 → decode cX12_calls pc = .ok (.ireturn, 1) → W p l e R s m args below meth c H1 locs1 0 0 Q (F0 m pc ls1 [.int res.1])) (x1 : Int32) (x2 : Int32) (x3 : Int32) (F : PF) (G : PG) (hm : mb_calls_0 fu x1 x2 x3 F G = some res) {H : Heap} {locs : List Loc} (hw : mMW s A v a F G H locs) {ls : Array Slot} (hl : lv_has ls 7 [(0, .ref (a 212)), (1, .int x1), (2, .int x2), (3, .int x3)]) : W p l e R s m args below meth c H locs 0 0 Q (F0 m 0 ls []) := by
  have hx := C.1
  have hb := C.2.1
  unfold mb_calls_0 at hm
  refine lv_aload_n hx hb dX12_calls_0 rfl (lv_at hl 0 rfl) ?_
  refine mg_X12_544 C hw dX12_calls_1 ?_
  refine lv_aload_n hx hb dX12_calls_4 rfl (lv_at hl 0 rfl) ?_
  refine mg_X12_71 C hw dX12_calls_5 ?_
  refine lv_iload_n hx hb dX12_calls_8 rfl (lv_at hl 1 rfl) ?_
  obtain ⟨hi, hm⟩ := ix_elim hm
  refine mal_28 C hw hi dX12_calls_9 ?_
  refine lv_iadd hx hb dX12_calls_10 ?_
  refine lv_aload_n hx hb dX12_calls_11 rfl (lv_at hl 0 rfl) ?_
  refine mg_X12_530 C hw dX12_calls_12 ?_
  refine lv_icmp_le (tgt := 31) hx hb dX12_calls_15 (by decide) (fun c_1 => ?_) (fun c_1 => ?_)
  · have hm := (if_pos c_1).symm.trans hm
    exact mw_calls_31 fu C hret x1 x3 F G hm hw (lv_sub hl [0, 1, 3] rfl)
  · have hm := (if_neg c_1).symm.trans hm
    exact mw_calls_18 fu C hret x2 F G hm hw (lv_sub hl [0, 2] rfl)
theorem mk_calls (l : Launch) (v : EV) (a : Nat → Nat) (sz : Nat) (fu : Nat) (x1 : Int32) (x2 : Int32) (x3 : Int32) (F : PF) (G : PG) (r : Int32) (F1 : PF) (G1 : PG) (hm : mf_calls fu x1 x2 x3 F G = some (r, F1, G1)) : mMI l yX12_calls cX12_calls 7 (some .boolean) 0 0 v a sz [.ref (a 212), .int x1, .int x2, .int x3] F G r F1 G1 := mMI.of (ty := .boolean) (by decide) rfl (Nat.le_of_ble_eq_true rfl) (fun p e R s m args below meth c Q A H locs ls C hw hl hret => mw_calls_0 fu (res := (r, F1, G1)) C hret x1 x2 x3 F G hm hw hl)
def mb_returnsHere_152 (fu : Nat) (F : PF) (G : PG) : PR := some (0, F, G)
def mb_returnsHere_142 (fu : Nat) (F : PF) (G : PG) : PR := mb_returnsHere_152 fu (fup F 72 ((F 72) + (1 : Int32))) G
def mb_returnsHere_132 (fu : Nat) (x1 : Int32) (F : PF) (G : PG) : PR := if ixb (F 72) 280000 = true then (mb_returnsHere_142 fu F (gup G 71 (F 72).toNatClampNeg x1)) else none
def mb_returnsHere_119 (fu : Nat) (x1 : Int32) (F : PF) (G : PG) : PR := if ixb (F 85) 520 = true then (mb_returnsHere_132 fu x1 (fup F 76 (G 92 (F 85).toNatClampNeg)) G) else none
def mb_returnsHere_104 (fu : Nat) (x1 : Int32) (F : PF) (G : PG) : PR := if ixb ((F 85) - (1 : Int32)) 520 = true then (mb_returnsHere_119 fu x1 (fup F 86 (G 93 ((F 85) - (1 : Int32)).toNatClampNeg)) G) else none
def mb_returnsHere_91 (fu : Nat) (x1 : Int32) (F : PF) (G : PG) : PR := if ixb (F 85) 520 = true then (mb_returnsHere_104 fu x1 (fup F 87 (G 93 (F 85).toNatClampNeg)) G) else none
def mb_returnsHere_76 (fu : Nat) (x1 : Int32) (x2 : Int32) (F : PF) (G : PG) : PR := if ixb x2 500 = true then (mb_returnsHere_91 fu x1 (fup F 83 ((F 83) - (G 28 x2.toNatClampNeg))) G) else none
def mb_returnsHere_75 (fu : Nat) (F : PF) (G : PG) : PR := some (0, F, G)
def mb_returnsHere_70 (fu : Nat) (F : PF) (G : PG) : PR := mb_returnsHere_75 fu (fup F 83 (0 : Int32)) G
def mb_returnsHere_67 (fu : Nat) (z0 : Int32) (F : PF) (G : PG) : PR := mb_returnsHere_70 fu (fup F 81 z0) G
def mb_returnsHere_66 (fu : Nat) (x1 : Int32) (F : PF) (G : PG) : PR := mb_returnsHere_67 fu x1 F G
def mb_returnsHere_62 (fu : Nat) (F : PF) (G : PG) : PR := mb_returnsHere_67 fu 0 F G
def mb_returnsHere_52 (fu : Nat) (x1 : Int32) (x2 : Int32) (F : PF) (G : PG) : PR := if ixb x2 500 = true then (if (G 33 x2.toNatClampNeg) = (0 : Int32) then mb_returnsHere_66 fu x1 F G else mb_returnsHere_62 fu F G) else none
def mb_returnsHere_47 (fu : Nat) (x1 : Int32) (x2 : Int32) (F : PF) (G : PG) : PR := mb_returnsHere_52 fu x1 x2 (fup F 75 (3 : Int32)) G
def mb_returnsHere_30 (fu : Nat) (x1 : Int32) (F : PF) (G : PG) : PR := if ixb (F 85) 520 = true then (if (F 85) = (0 : Int32) then mb_returnsHere_47 fu x1 (G 91 (F 85).toNatClampNeg) F G else mb_returnsHere_76 fu x1 (G 91 (F 85).toNatClampNeg) F G) else none
def mb_returnsHere_10 (fu : Nat) (F : PF) (G : PG) : PR := if ixb (F 72) 280000 = true then (mb_returnsHere_30 fu (G 71 (F 72).toNatClampNeg) (fup F 85 ((F 85) - (1 : Int32))) G) else none
def mb_returnsHere_0 (fu : Nat) (F : PF) (G : PG) : PR := mb_returnsHere_10 fu (fup F 72 ((F 72) - (1 : Int32))) G
def mf_returnsHere (fu : Nat) (F : PF) (G : PG) : PR := mb_returnsHere_0 fu F G
theorem mw_returnsHere_152 (fu : Nat) {res : Int32 × PF × PG} (C : mMC p R s m args c A v RX12 cX12_returnsHere 3 0 0) (hret : ∀ (H1 : Heap) (locs1 : List Loc) (ls1 : Array Slot) (pc : Nat), mMW s A v a res.2.1 res.2.2 H1 locs1 → decode cX12_returnsHere pc = .ok (.return_, 1) → W p l e R s m args below meth c H1 locs1 0 0 Q (F0 m pc ls1 [])) (F : PF) (G : PG) (hm : mb_returnsHere_152 fu F G = some res) {H : Heap} {locs : List Loc} (hw : mMW s A v a F G H locs) {ls : Array Slot} (hl : lv_has ls 3 []) : W p l e R s m args below meth c H locs 0 0 Q (F0 m 152 ls []) := by
  have hx := C.1
  have hb := C.2.1
  unfold mb_returnsHere_152 at hm
  obtain rfl := Option.some.inj hm
  exact hret _ _ _ _ hw dX12_returnsHere_152
theorem mw_returnsHere_142 (fu : Nat) {res : Int32 × PF × PG} (C : mMC p R s m args c A v RX12 cX12_returnsHere 3 0 0) (hret : ∀ (H1 : Heap) (locs1 : List Loc) (ls1 : Array Slot) (pc : Nat), mMW s A v a res.2.1 res.2.2 H1 locs1 → decode cX12_returnsHere pc = .ok (.return_, 1) → W p l e R s m args below meth c H1 locs1 0 0 Q (F0 m pc ls1 [])) (F : PF) (G : PG) (hm : mb_returnsHere_142 fu F G = some res) {H : Heap} {locs : List Loc} (hw : mMW s A v a F G H locs) {ls : Array Slot} (hl : lv_has ls 3 [(0, .ref (a 212))]) : W p l e R s m args below meth c H locs 0 0 Q (F0 m 142 ls []) := by
  have hx := C.1
  have hb := C.2.1
  unfold mb_returnsHere_142 at hm
  refine lv_aload_n hx hb dX12_returnsHere_142 rfl (lv_at hl 0 rfl) ?_
  refine lv_dup hx hb dX12_returnsHere_143 rfl ?_
  refine mg_X12_497 C hw dX12_returnsHere_144 ?_
  refine lv_iconst (v := 1) hx hb dX12_returnsHere_147 (by decide) ?_
  refine lv_iadd hx hb dX12_returnsHere_148 ?_
  refine mp_X12_497 C hw dX12_returnsHere_149 (fun H locs hw => ?_)
  exact mw_returnsHere_152 fu C hret (fup F 72 ((F 72) + (1 : Int32))) G hm hw (lv_sub hl [] rfl)
theorem mw_returnsHere_132 (fu : Nat) {res : Int32 × PF × PG} (C : mMC p R s m args c A v RX12 cX12_returnsHere 3 0 0) (hret : ∀ (H1 : Heap) (locs1 : List Loc) (ls1 : Array Slot) (pc : Nat), mMW s A v a res.2.1 res.2.2 H1 locs1 → decode cX12_returnsHere pc = .ok (.return_, 1) → W p l e R s m args below meth c H1 locs1 0 0 Q (F0 m pc ls1 [])) (x1 : Int32) (F : PF) (G : PG) (hm : mb_returnsHere_132 fu x1 F G = some res) {H : Heap} {locs : List Loc} (hw : mMW s A v a F G H locs) {ls : Array Slot} (hl : lv_has ls 3 [(0, .ref (a 212)), (1, .int x1)]) : W p l e R s m args below meth c H locs 0 0 Q (F0 m 132 ls []) := by
  have hx := C.1
  have hb := C.2.1
  unfold mb_returnsHere_132 at hm
  refine lv_aload_n hx hb dX12_returnsHere_132 rfl (lv_at hl 0 rfl) ?_
  refine mg_X12_126 C hw dX12_returnsHere_133 ?_
  refine lv_aload_n hx hb dX12_returnsHere_136 rfl (lv_at hl 0 rfl) ?_
  refine mg_X12_497 C hw dX12_returnsHere_137 ?_
  refine lv_iload_n hx hb dX12_returnsHere_140 rfl (lv_at hl 1 rfl) ?_
  obtain ⟨hi, hm⟩ := ix_elim hm
  refine mas_71 C hw hi dX12_returnsHere_141 (fun H locs hw => ?_)
  exact mw_returnsHere_142 fu C hret F (gup G 71 (F 72).toNatClampNeg x1) hm hw (lv_sub hl [0] rfl)
theorem mw_returnsHere_119 (fu : Nat) {res : Int32 × PF × PG} (C : mMC p R s m args c A v RX12 cX12_returnsHere 3 0 0) (hret : ∀ (H1 : Heap) (locs1 : List Loc) (ls1 : Array Slot) (pc : Nat), mMW s A v a res.2.1 res.2.2 H1 locs1 → decode cX12_returnsHere pc = .ok (.return_, 1) → W p l e R s m args below meth c H1 locs1 0 0 Q (F0 m pc ls1 [])) (x1 : Int32) (F : PF) (G : PG) (hm : mb_returnsHere_119 fu x1 F G = some res) {H : Heap} {locs : List Loc} (hw : mMW s A v a F G H locs) {ls : Array Slot} (hl : lv_has ls 3 [(0, .ref (a 212)), (1, .int x1)]) : W p l e R s m args below meth c H locs 0 0 Q (F0 m 119 ls []) := by
  have hx := C.1
  have hb := C.2.1
  unfold mb_returnsHere_119 at hm
  refine lv_aload_n hx hb dX12_returnsHere_119 rfl (lv_at hl 0 rfl) ?_
  refine lv_aload_n hx hb dX12_returnsHere_120 rfl (lv_at hl 0 rfl) ?_
  refine mg_X12_141 C hw dX12_returnsHere_121 ?_
  refine lv_aload_n hx hb dX12_returnsHere_124 rfl (lv_at hl 0 rfl) ?_
  refine mg_X12_533 C hw dX12_returnsHere_125 ?_
  obtain ⟨hi, hm⟩ := ix_elim hm
  refine mal_92 C hw hi dX12_returnsHere_128 ?_
  refine mp_X12_553 C hw dX12_returnsHere_129 (fun H locs hw => ?_)
  exact mw_returnsHere_132 fu C hret x1 (fup F 76 (G 92 (F 85).toNatClampNeg)) G hm hw (lv_sub hl [0, 1] rfl)
theorem mw_returnsHere_104 (fu : Nat) {res : Int32 × PF × PG} (C : mMC p R s m args c A v RX12 cX12_returnsHere 3 0 0) (hret : ∀ (H1 : Heap) (locs1 : List Loc) (ls1 : Array Slot) (pc : Nat), mMW s A v a res.2.1 res.2.2 H1 locs1 → decode cX12_returnsHere pc = .ok (.return_, 1) → W p l e R s m args below meth c H1 locs1 0 0 Q (F0 m pc ls1 [])) (x1 : Int32) (F : PF) (G : PG) (hm : mb_returnsHere_104 fu x1 F G = some res) {H : Heap} {locs : List Loc} (hw : mMW s A v a F G H locs) {ls : Array Slot} (hl : lv_has ls 3 [(0, .ref (a 212)), (1, .int x1)]) : W p l e R s m args below meth c H locs 0 0 Q (F0 m 104 ls []) := by
  have hx := C.1
  have hb := C.2.1
  unfold mb_returnsHere_104 at hm
  refine lv_aload_n hx hb dX12_returnsHere_104 rfl (lv_at hl 0 rfl) ?_
  refine lv_aload_n hx hb dX12_returnsHere_105 rfl (lv_at hl 0 rfl) ?_
  refine mg_X12_144 C hw dX12_returnsHere_106 ?_
  refine lv_aload_n hx hb dX12_returnsHere_109 rfl (lv_at hl 0 rfl) ?_
  refine mg_X12_533 C hw dX12_returnsHere_110 ?_
  refine lv_iconst (v := 1) hx hb dX12_returnsHere_113 (by decide) ?_
  refine lv_isub hx hb dX12_returnsHere_114 ?_
  obtain ⟨hi, hm⟩ := ix_elim hm
  refine mal_93 C hw hi dX12_returnsHere_115 ?_
  refine mp_X12_550 C hw dX12_returnsHere_116 (fun H locs hw => ?_)
  exact mw_returnsHere_119 fu C hret x1 (fup F 86 (G 93 ((F 85) - (1 : Int32)).toNatClampNeg)) G hm hw (lv_sub hl [0, 1] rfl)
theorem mw_returnsHere_91 (fu : Nat) {res : Int32 × PF × PG} (C : mMC p R s m args c A v RX12 cX12_returnsHere 3 0 0) (hret : ∀ (H1 : Heap) (locs1 : List Loc) (ls1 : Array Slot) (pc : Nat), mMW s A v a res.2.1 res.2.2 H1 locs1 → decode cX12_returnsHere pc = .ok (.return_, 1) → W p l e R s m args below meth c H1 locs1 0 0 Q (F0 m pc ls1 [])) (x1 : Int32) (F : PF) (G : PG) (hm : mb_returnsHere_91 fu x1 F G = some res) {H : Heap} {locs : List Loc} (hw : mMW s A v a F G H locs) {ls : Array Slot} (hl : lv_has ls 3 [(0, .ref (a 212)), (1, .int x1)]) : W p l e R s m args below meth c H locs 0 0 Q (F0 m 91 ls []) := by
  have hx := C.1
  have hb := C.2.1
  unfold mb_returnsHere_91 at hm
  refine lv_aload_n hx hb dX12_returnsHere_91 rfl (lv_at hl 0 rfl) ?_
  refine lv_aload_n hx hb dX12_returnsHere_92 rfl (lv_at hl 0 rfl) ?_
  refine mg_X12_144 C hw dX12_returnsHere_93 ?_
  refine lv_aload_n hx hb dX12_returnsHere_96 rfl (lv_at hl 0 rfl) ?_
  refine mg_X12_533 C hw dX12_returnsHere_97 ?_
  obtain ⟨hi, hm⟩ := ix_elim hm
  refine mal_93 C hw hi dX12_returnsHere_100 ?_
  refine mp_X12_547 C hw dX12_returnsHere_101 (fun H locs hw => ?_)
  exact mw_returnsHere_104 fu C hret x1 (fup F 87 (G 93 (F 85).toNatClampNeg)) G hm hw (lv_sub hl [0, 1] rfl)
theorem mw_returnsHere_76 (fu : Nat) {res : Int32 × PF × PG} (C : mMC p R s m args c A v RX12 cX12_returnsHere 3 0 0) (hret : ∀ (H1 : Heap) (locs1 : List Loc) (ls1 : Array Slot) (pc : Nat), mMW s A v a res.2.1 res.2.2 H1 locs1 → decode cX12_returnsHere pc = .ok (.return_, 1) → W p l e R s m args below meth c H1 locs1 0 0 Q (F0 m pc ls1 [])) (x1 : Int32) (x2 : Int32) (F : PF) (G : PG) (hm : mb_returnsHere_76 fu x1 x2 F G = some res) {H : Heap} {locs : List Loc} (hw : mMW s A v a F G H locs) {ls : Array Slot} (hl : lv_has ls 3 [(0, .ref (a 212)), (1, .int x1), (2, .int x2)]) : W p l e R s m args below meth c H locs 0 0 Q (F0 m 76 ls []) := by
  have hx := C.1
  have hb := C.2.1
  unfold mb_returnsHere_76 at hm
  refine lv_aload_n hx hb dX12_returnsHere_76 rfl (lv_at hl 0 rfl) ?_
  refine lv_dup hx hb dX12_returnsHere_77 rfl ?_
  refine mg_X12_544 C hw dX12_returnsHere_78 ?_
  refine lv_aload_n hx hb dX12_returnsHere_81 rfl (lv_at hl 0 rfl) ?_
  refine mg_X12_71 C hw dX12_returnsHere_82 ?_
  refine lv_iload_n hx hb dX12_returnsHere_85 rfl (lv_at hl 2 rfl) ?_
  obtain ⟨hi, hm⟩ := ix_elim hm
  refine mal_28 C hw hi dX12_returnsHere_86 ?_
  refine lv_isub hx hb dX12_returnsHere_87 ?_
  refine mp_X12_544 C hw dX12_returnsHere_88 (fun H locs hw => ?_)
  exact mw_returnsHere_91 fu C hret x1 (fup F 83 ((F 83) - (G 28 x2.toNatClampNeg))) G hm hw (lv_sub hl [0, 1] rfl)
theorem mw_returnsHere_75 (fu : Nat) {res : Int32 × PF × PG} (C : mMC p R s m args c A v RX12 cX12_returnsHere 3 0 0) (hret : ∀ (H1 : Heap) (locs1 : List Loc) (ls1 : Array Slot) (pc : Nat), mMW s A v a res.2.1 res.2.2 H1 locs1 → decode cX12_returnsHere pc = .ok (.return_, 1) → W p l e R s m args below meth c H1 locs1 0 0 Q (F0 m pc ls1 [])) (F : PF) (G : PG) (hm : mb_returnsHere_75 fu F G = some res) {H : Heap} {locs : List Loc} (hw : mMW s A v a F G H locs) {ls : Array Slot} (hl : lv_has ls 3 []) : W p l e R s m args below meth c H locs 0 0 Q (F0 m 75 ls []) := by
  have hx := C.1
  have hb := C.2.1
  unfold mb_returnsHere_75 at hm
  obtain rfl := Option.some.inj hm
  exact hret _ _ _ _ hw dX12_returnsHere_75
theorem mw_returnsHere_70 (fu : Nat) {res : Int32 × PF × PG} (C : mMC p R s m args c A v RX12 cX12_returnsHere 3 0 0) (hret : ∀ (H1 : Heap) (locs1 : List Loc) (ls1 : Array Slot) (pc : Nat), mMW s A v a res.2.1 res.2.2 H1 locs1 → decode cX12_returnsHere pc = .ok (.return_, 1) → W p l e R s m args below meth c H1 locs1 0 0 Q (F0 m pc ls1 [])) (F : PF) (G : PG) (hm : mb_returnsHere_70 fu F G = some res) {H : Heap} {locs : List Loc} (hw : mMW s A v a F G H locs) {ls : Array Slot} (hl : lv_has ls 3 [(0, .ref (a 212))]) : W p l e R s m args below meth c H locs 0 0 Q (F0 m 70 ls []) := by
  have hx := C.1
  have hb := C.2.1
  unfold mb_returnsHere_70 at hm
  refine lv_aload_n hx hb dX12_returnsHere_70 rfl (lv_at hl 0 rfl) ?_
  refine lv_iconst (v := 0) hx hb dX12_returnsHere_71 (by decide) ?_
  refine mp_X12_544 C hw dX12_returnsHere_72 (fun H locs hw => ?_)
  exact mw_returnsHere_75 fu C hret (fup F 83 (0 : Int32)) G hm hw (lv_sub hl [] rfl)
theorem mw_returnsHere_67 (fu : Nat) {res : Int32 × PF × PG} (C : mMC p R s m args c A v RX12 cX12_returnsHere 3 0 0) (hret : ∀ (H1 : Heap) (locs1 : List Loc) (ls1 : Array Slot) (pc : Nat), mMW s A v a res.2.1 res.2.2 H1 locs1 → decode cX12_returnsHere pc = .ok (.return_, 1) → W p l e R s m args below meth c H1 locs1 0 0 Q (F0 m pc ls1 [])) (z0 : Int32) (F : PF) (G : PG) (hm : mb_returnsHere_67 fu z0 F G = some res) {H : Heap} {locs : List Loc} (hw : mMW s A v a F G H locs) {ls : Array Slot} (hl : lv_has ls 3 [(0, .ref (a 212))]) : W p l e R s m args below meth c H locs 0 0 Q (F0 m 67 ls [.int z0, .ref (a 212)]) := by
  have hx := C.1
  have hb := C.2.1
  unfold mb_returnsHere_67 at hm
  refine mp_X12_539 C hw dX12_returnsHere_67 (fun H locs hw => ?_)
  exact mw_returnsHere_70 fu C hret (fup F 81 z0) G hm hw (lv_sub hl [0] rfl)
theorem mw_returnsHere_66 (fu : Nat) {res : Int32 × PF × PG} (C : mMC p R s m args c A v RX12 cX12_returnsHere 3 0 0) (hret : ∀ (H1 : Heap) (locs1 : List Loc) (ls1 : Array Slot) (pc : Nat), mMW s A v a res.2.1 res.2.2 H1 locs1 → decode cX12_returnsHere pc = .ok (.return_, 1) → W p l e R s m args below meth c H1 locs1 0 0 Q (F0 m pc ls1 [])) (x1 : Int32) (F : PF) (G : PG) (hm : mb_returnsHere_66 fu x1 F G = some res) {H : Heap} {locs : List Loc} (hw : mMW s A v a F G H locs) {ls : Array Slot} (hl : lv_has ls 3 [(0, .ref (a 212)), (1, .int x1)]) : W p l e R s m args below meth c H locs 0 0 Q (F0 m 66 ls [.ref (a 212)]) := by
  have hx := C.1
  have hb := C.2.1
  unfold mb_returnsHere_66 at hm
  refine lv_iload_n hx hb dX12_returnsHere_66 rfl (lv_at hl 1 rfl) ?_
  exact mw_returnsHere_67 fu C hret x1 F G hm hw (lv_sub hl [0] rfl)
theorem mw_returnsHere_62 (fu : Nat) {res : Int32 × PF × PG} (C : mMC p R s m args c A v RX12 cX12_returnsHere 3 0 0) (hret : ∀ (H1 : Heap) (locs1 : List Loc) (ls1 : Array Slot) (pc : Nat), mMW s A v a res.2.1 res.2.2 H1 locs1 → decode cX12_returnsHere pc = .ok (.return_, 1) → W p l e R s m args below meth c H1 locs1 0 0 Q (F0 m pc ls1 [])) (F : PF) (G : PG) (hm : mb_returnsHere_62 fu F G = some res) {H : Heap} {locs : List Loc} (hw : mMW s A v a F G H locs) {ls : Array Slot} (hl : lv_has ls 3 [(0, .ref (a 212))]) : W p l e R s m args below meth c H locs 0 0 Q (F0 m 62 ls [.ref (a 212)]) := by
  have hx := C.1
  have hb := C.2.1
  unfold mb_returnsHere_62 at hm
  refine lv_iconst (v := 0) hx hb dX12_returnsHere_62 (by decide) ?_
  refine lv_goto (tgt := 67) hx hb dX12_returnsHere_63 (by decide) ?_
  exact mw_returnsHere_67 fu C hret 0 F G hm hw (lv_sub hl [0] rfl)
theorem mw_returnsHere_52 (fu : Nat) {res : Int32 × PF × PG} (C : mMC p R s m args c A v RX12 cX12_returnsHere 3 0 0) (hret : ∀ (H1 : Heap) (locs1 : List Loc) (ls1 : Array Slot) (pc : Nat), mMW s A v a res.2.1 res.2.2 H1 locs1 → decode cX12_returnsHere pc = .ok (.return_, 1) → W p l e R s m args below meth c H1 locs1 0 0 Q (F0 m pc ls1 [])) (x1 : Int32) (x2 : Int32) (F : PF) (G : PG) (hm : mb_returnsHere_52 fu x1 x2 F G = some res) {H : Heap} {locs : List Loc} (hw : mMW s A v a F G H locs) {ls : Array Slot} (hl : lv_has ls 3 [(0, .ref (a 212)), (1, .int x1), (2, .int x2)]) : W p l e R s m args below meth c H locs 0 0 Q (F0 m 52 ls []) := by
  have hx := C.1
  have hb := C.2.1
  unfold mb_returnsHere_52 at hm
  refine lv_aload_n hx hb dX12_returnsHere_52 rfl (lv_at hl 0 rfl) ?_
  refine lv_aload_n hx hb dX12_returnsHere_53 rfl (lv_at hl 0 rfl) ?_
  refine mg_X12_86 C hw dX12_returnsHere_54 ?_
  refine lv_iload_n hx hb dX12_returnsHere_57 rfl (lv_at hl 2 rfl) ?_
  obtain ⟨hi, hm⟩ := ix_elim hm
  refine mal_33 C hw hi dX12_returnsHere_58 ?_
  refine lv_if_eq (tgt := 66) hx hb dX12_returnsHere_59 (by decide) (fun c_1 => ?_) (fun c_1 => ?_)
  · have hm := (if_pos c_1).symm.trans hm
    exact mw_returnsHere_66 fu C hret x1 F G hm hw (lv_sub hl [0, 1] rfl)
  · have hm := (if_neg c_1).symm.trans hm
    exact mw_returnsHere_62 fu C hret F G hm hw (lv_sub hl [0] rfl)
theorem mw_returnsHere_47 (fu : Nat) {res : Int32 × PF × PG} (C : mMC p R s m args c A v RX12 cX12_returnsHere 3 0 0) (hret : ∀ (H1 : Heap) (locs1 : List Loc) (ls1 : Array Slot) (pc : Nat), mMW s A v a res.2.1 res.2.2 H1 locs1 → decode cX12_returnsHere pc = .ok (.return_, 1) → W p l e R s m args below meth c H1 locs1 0 0 Q (F0 m pc ls1 [])) (x1 : Int32) (x2 : Int32) (F : PF) (G : PG) (hm : mb_returnsHere_47 fu x1 x2 F G = some res) {H : Heap} {locs : List Loc} (hw : mMW s A v a F G H locs) {ls : Array Slot} (hl : lv_has ls 3 [(0, .ref (a 212)), (1, .int x1), (2, .int x2)]) : W p l e R s m args below meth c H locs 0 0 Q (F0 m 47 ls []) := by
  have hx := C.1
  have hb := C.2.1
  unfold mb_returnsHere_47 at hm
  refine lv_aload_n hx hb dX12_returnsHere_47 rfl (lv_at hl 0 rfl) ?_
  refine lv_iconst (v := 3) hx hb dX12_returnsHere_48 (by decide) ?_
  refine mp_X12_512 C hw dX12_returnsHere_49 (fun H locs hw => ?_)
  exact mw_returnsHere_52 fu C hret x1 x2 (fup F 75 (3 : Int32)) G hm hw (lv_sub hl [0, 1, 2] rfl)
theorem mw_returnsHere_30 (fu : Nat) {res : Int32 × PF × PG} (C : mMC p R s m args c A v RX12 cX12_returnsHere 3 0 0) (hret : ∀ (H1 : Heap) (locs1 : List Loc) (ls1 : Array Slot) (pc : Nat), mMW s A v a res.2.1 res.2.2 H1 locs1 → decode cX12_returnsHere pc = .ok (.return_, 1) → W p l e R s m args below meth c H1 locs1 0 0 Q (F0 m pc ls1 [])) (x1 : Int32) (F : PF) (G : PG) (hm : mb_returnsHere_30 fu x1 F G = some res) {H : Heap} {locs : List Loc} (hw : mMW s A v a F G H locs) {ls : Array Slot} (hl : lv_has ls 3 [(0, .ref (a 212)), (1, .int x1)]) : W p l e R s m args below meth c H locs 0 0 Q (F0 m 30 ls []) := by
  have hx := C.1
  have hb := C.2.1
  unfold mb_returnsHere_30 at hm
  refine lv_aload_n hx hb dX12_returnsHere_30 rfl (lv_at hl 0 rfl) ?_
  refine mg_X12_138 C hw dX12_returnsHere_31 ?_
  refine lv_aload_n hx hb dX12_returnsHere_34 rfl (lv_at hl 0 rfl) ?_
  refine mg_X12_533 C hw dX12_returnsHere_35 ?_
  obtain ⟨hi, hm⟩ := ix_elim hm
  refine mal_91 C hw hi dX12_returnsHere_38 ?_
  refine lv_istore_n (lv' := [(2, .int (G 91 (F 85).toNatClampNeg)), (0, .ref (a 212)), (1, .int x1)]) hx hb dX12_returnsHere_39 rfl hl (by decide) rfl (fun ls hl => ?_)
  refine lv_aload_n hx hb dX12_returnsHere_40 rfl (lv_at hl 1 rfl) ?_
  refine mg_X12_533 C hw dX12_returnsHere_41 ?_
  refine lv_if_ne (tgt := 76) hx hb dX12_returnsHere_44 (by decide) (fun c_1 => ?_) (fun c_1 => ?_)
  · have hm := (if_neg c_1).symm.trans hm
    exact mw_returnsHere_76 fu C hret x1 (G 91 (F 85).toNatClampNeg) F G hm hw (lv_sub hl [1, 2, 0] rfl)
  · have hm := (if_pos c_1).symm.trans hm
    exact mw_returnsHere_47 fu C hret x1 (G 91 (F 85).toNatClampNeg) F G hm hw (lv_sub hl [1, 2, 0] rfl)
theorem mw_returnsHere_10 (fu : Nat) {res : Int32 × PF × PG} (C : mMC p R s m args c A v RX12 cX12_returnsHere 3 0 0) (hret : ∀ (H1 : Heap) (locs1 : List Loc) (ls1 : Array Slot) (pc : Nat), mMW s A v a res.2.1 res.2.2 H1 locs1 → decode cX12_returnsHere pc = .ok (.return_, 1) → W p l e R s m args below meth c H1 locs1 0 0 Q (F0 m pc ls1 [])) (F : PF) (G : PG) (hm : mb_returnsHere_10 fu F G = some res) {H : Heap} {locs : List Loc} (hw : mMW s A v a F G H locs) {ls : Array Slot} (hl : lv_has ls 3 [(0, .ref (a 212))]) : W p l e R s m args below meth c H locs 0 0 Q (F0 m 10 ls []) := by
  have hx := C.1
  have hb := C.2.1
  unfold mb_returnsHere_10 at hm
  refine lv_aload_n hx hb dX12_returnsHere_10 rfl (lv_at hl 0 rfl) ?_
  refine mg_X12_126 C hw dX12_returnsHere_11 ?_
  refine lv_aload_n hx hb dX12_returnsHere_14 rfl (lv_at hl 0 rfl) ?_
  refine mg_X12_497 C hw dX12_returnsHere_15 ?_
  obtain ⟨hi, hm⟩ := ix_elim hm
  refine mal_71 C hw hi dX12_returnsHere_18 ?_
  refine lv_istore_n (lv' := [(1, .int (G 71 (F 72).toNatClampNeg)), (0, .ref (a 212))]) hx hb dX12_returnsHere_19 rfl hl (by decide) rfl (fun ls hl => ?_)
  refine lv_aload_n hx hb dX12_returnsHere_20 rfl (lv_at hl 1 rfl) ?_
  refine lv_dup hx hb dX12_returnsHere_21 rfl ?_
  refine mg_X12_533 C hw dX12_returnsHere_22 ?_
  refine lv_iconst (v := 1) hx hb dX12_returnsHere_25 (by decide) ?_
  refine lv_isub hx hb dX12_returnsHere_26 ?_
  refine mp_X12_533 C hw dX12_returnsHere_27 (fun H locs hw => ?_)
  exact mw_returnsHere_30 fu C hret (G 71 (F 72).toNatClampNeg) (fup F 85 ((F 85) - (1 : Int32))) G hm hw (lv_sub hl [1, 0] rfl)
theorem mw_returnsHere_0 (fu : Nat) {res : Int32 × PF × PG} (C : mMC p R s m args c A v RX12 cX12_returnsHere 3 0 0) (hret : ∀ (H1 : Heap) (locs1 : List Loc) (ls1 : Array Slot) (pc : Nat), mMW s A v a res.2.1 res.2.2 H1 locs1 → decode cX12_returnsHere pc = .ok (.return_, 1) → W p l e R s m args below meth c H1 locs1 0 0 Q (F0 m pc ls1 [])) (F : PF) (G : PG) (hm : mb_returnsHere_0 fu F G = some res) {H : Heap} {locs : List Loc} (hw : mMW s A v a F G H locs) {ls : Array Slot} (hl : lv_has ls 3 [(0, .ref (a 212))]) : W p l e R s m args below meth c H locs 0 0 Q (F0 m 0 ls []) := by
  have hx := C.1
  have hb := C.2.1
  unfold mb_returnsHere_0 at hm
  refine lv_aload_n hx hb dX12_returnsHere_0 rfl (lv_at hl 0 rfl) ?_
  refine lv_dup hx hb dX12_returnsHere_1 rfl ?_
  refine mg_X12_497 C hw dX12_returnsHere_2 ?_
  refine lv_iconst (v := 1) hx hb dX12_returnsHere_5 (by decide) ?_
  refine lv_isub hx hb dX12_returnsHere_6 ?_
  refine mp_X12_497 C hw dX12_returnsHere_7 (fun H locs hw => ?_)
  exact mw_returnsHere_10 fu C hret (fup F 72 ((F 72) - (1 : Int32))) G hm hw (lv_sub hl [0] rfl)
theorem mk_returnsHere (l : Launch) (v : EV) (a : Nat → Nat) (sz : Nat) (fu : Nat) (F : PF) (G : PG) (r : Int32) (F1 : PF) (G1 : PG) (hm : mf_returnsHere fu F G = some (r, F1, G1)) : mMV l yX12_returnsHere cX12_returnsHere 3 0 0 v a sz [.ref (a 212)] F G F1 G1 := mMV.of (by decide) (Nat.le_of_ble_eq_true rfl) (fun p e R s m args below meth c Q A H locs ls C hw hl hret => mw_returnsHere_0 fu (res := (r, F1, G1)) C hret F G hm hw hl)
def mb_works_890 (fu : Nat) (F : PF) (G : PG) : PR := some (1, F, G)
def mb_works_880 (fu : Nat) (F : PF) (G : PG) : PR := mb_works_890 fu (fup F 76 ((F 76) + (1 : Int32))) G
def mb_works_179 (fu : Nat) (F : PF) (G : PG) : PR := mb_works_880 fu F G
def mb_works_169 (fu : Nat) (F : PF) (G : PG) : PR := mb_works_179 fu (fup F 72 ((F 72) + (1 : Int32))) G
def mb_works_167 (fu : Nat) (z0 : Int32) (z2 : Int32) (F : PF) (G : PG) : PR := if ixb z0 20000 = true then (if ixb z2 280000 = true then (mb_works_169 fu F (gup G 71 z2.toNatClampNeg (G 90 z0.toNatClampNeg))) else none) else none
def mb_works_166 (fu : Nat) (x1 : Int32) (z1 : Int32) (F : PF) (G : PG) : PR := mb_works_167 fu x1 z1 F G
def mb_works_157 (fu : Nat) (x1 : Int32) (z1 : Int32) (F : PF) (G : PG) : PR := mb_works_167 fu ((F 86) + x1) z1 F G
def mb_works_132 (fu : Nat) (x1 : Int32) (F : PF) (G : PG) : PR := if ixb (F 76) 9000 = true then (if (G 56 (F 76).toNatClampNeg) = (1 : Int32) then mb_works_157 fu x1 (F 72) F G else mb_works_166 fu x1 (F 72) F G) else none
def mb_works_229 (fu : Nat) (F : PF) (G : PG) : PR := mb_works_880 fu F G
def mb_works_219 (fu : Nat) (z0 : Int32) (F : PF) (G : PG) : PR := if ixb (F 72) 280000 = true then (if ixb z0 20000 = true then (mb_works_229 fu F (gup G 90 z0.toNatClampNeg (G 71 (F 72).toNatClampNeg))) else none) else none
def mb_works_218 (fu : Nat) (x1 : Int32) (F : PF) (G : PG) : PR := mb_works_219 fu x1 F G
def mb_works_209 (fu : Nat) (x1 : Int32) (F : PF) (G : PG) : PR := mb_works_219 fu ((F 86) + x1) F G
def mb_works_192 (fu : Nat) (x1 : Int32) (F : PF) (G : PG) : PR := if ixb (F 76) 9000 = true then (if (G 56 (F 76).toNatClampNeg) = (2 : Int32) then mb_works_209 fu x1 F G else mb_works_218 fu x1 F G) else none
def mb_works_182 (fu : Nat) (x1 : Int32) (F : PF) (G : PG) : PR := mb_works_192 fu x1 (fup F 72 ((F 72) - (1 : Int32))) G
def mb_works_326 (fu : Nat) (F : PF) (G : PG) : PR := mb_works_880 fu F G
def mb_works_316 (fu : Nat) (F : PF) (G : PG) : PR := mb_works_326 fu (fup F 72 ((F 72) + (2 : Int32))) G
def mb_works_315 (fu : Nat) (z0 : Int32) (z1 : Int32) (F : PF) (G : PG) : PR := if ixb z1 280000 = true then (mb_works_316 fu F (gup G 71 z1.toNatClampNeg z0)) else none
def mb_works_314 (fu : Nat) (x2 : Int32) (z0 : Int32) (F : PF) (G : PG) : PR := mb_works_315 fu x2 z0 F G
def mb_works_298 (fu : Nat) (x1 : Int32) (z0 : Int32) (F : PF) (G : PG) : PR := if ixb (((F 86) + x1) + (1 : Int32)) 20000 = true then (mb_works_315 fu (G 90 (((F 86) + x1) + (1 : Int32)).toNatClampNeg) z0 F G) else none
def mb_works_283 (fu : Nat) (x1 : Int32) (x2 : Int32) (F : PF) (G : PG) : PR := if x2 = (-1 : Int32) then mb_works_298 fu x1 ((F 72) + (1 : Int32)) F G else mb_works_314 fu x2 ((F 72) + (1 : Int32)) F G
def mb_works_282 (fu : Nat) (x1 : Int32) (x2 : Int32) (z0 : Int32) (z1 : Int32) (F : PF) (G : PG) : PR := if ixb z1 280000 = true then (mb_works_283 fu x1 x2 F (gup G 71 z1.toNatClampNeg z0)) else none
def mb_works_281 (fu : Nat) (x1 : Int32) (x2 : Int32) (z0 : Int32) (F : PF) (G : PG) : PR := mb_works_282 fu x1 x2 x1 z0 F G
def mb_works_272 (fu : Nat) (x1 : Int32) (x2 : Int32) (z0 : Int32) (F : PF) (G : PG) : PR := mb_works_282 fu x1 x2 ((F 86) + x1) z0 F G
def mb_works_259 (fu : Nat) (x1 : Int32) (x2 : Int32) (z0 : Int32) (F : PF) (G : PG) : PR := if ixb (F 76) 9000 = true then (if (G 59 (F 76).toNatClampNeg) = (1 : Int32) then mb_works_272 fu x1 x2 z0 F G else mb_works_281 fu x1 x2 z0 F G) else none
def mb_works_245 (fu : Nat) (x1 : Int32) (x2 : Int32) (z0 : Int32) (F : PF) (G : PG) : PR := if ixb ((F 86) + x1) 20000 = true then (mb_works_282 fu x1 x2 (G 90 ((F 86) + x1).toNatClampNeg) z0 F G) else none
def mb_works_232 (fu : Nat) (x1 : Int32) (x2 : Int32) (F : PF) (G : PG) : PR := if x2 = (-1 : Int32) then mb_works_245 fu x1 x2 (F 72) F G else mb_works_259 fu x1 x2 (F 72) F G
def mb_works_442 (fu : Nat) (F : PF) (G : PG) : PR := some (0, F, G)
def mb_works_427 (fu : Nat) (F : PF) (G : PG) : PR := if ixb (F 76) 9000 = true then (mb_works_442 fu (fup F 82 ((G 59 (F 76).toNatClampNeg) >>> ((1 : Int32) &&& 31))) G) else none
def mb_works_422 (fu : Nat) (F : PF) (G : PG) : PR := mb_works_427 fu (fup F 75 (5 : Int32)) G
def mb_works_460 (fu : Nat) (F : PF) (G : PG) : PR := mb_works_880 fu F G
def mb_works_444 (fu : Nat) (x4 : Int32) (x5 : Int32) (F : PF) (G : PG) : PR := if ixb ((F 72) - (1 : Int32)) 280000 = true then (mb_works_460 fu F (gup G 71 ((F 72) - (1 : Int32)).toNatClampNeg (x4 + x5))) else none
def mb_works_416 (fu : Nat) (x3 : Int32) (x4 : Int32) (x5 : Int32) (F : PF) (G : PG) : PR := if x5 < x3 then mb_works_444 fu x4 x5 F G else mb_works_422 fu F G
def mb_works_396 (fu : Nat) (x3 : Int32) (z0 : Int32) (F : PF) (G : PG) : PR := if ixb ((F 72) - (1 : Int32)) 280000 = true then (if (G 71 ((F 72) - (1 : Int32)).toNatClampNeg) < (0 : Int32) then mb_works_422 fu F G else mb_works_416 fu x3 z0 (G 71 ((F 72) - (1 : Int32)).toNatClampNeg) F G) else none
def mb_works_395 (fu : Nat) (x1 : Int32) (x3 : Int32) (F : PF) (G : PG) : PR := mb_works_396 fu x3 x1 F G
def mb_works_386 (fu : Nat) (x1 : Int32) (x3 : Int32) (F : PF) (G : PG) : PR := mb_works_396 fu x3 ((F 86) + x1) F G
def mb_works_371 (fu : Nat) (x1 : Int32) (x3 : Int32) (F : PF) (G : PG) : PR := if ixb (F 76) 9000 = true then (if ((G 59 (F 76).toNatClampNeg) &&& (1 : Int32)) = (1 : Int32) then mb_works_386 fu x1 x3 F G else mb_works_395 fu x1 x3 F G) else none
def mb_works_357 (fu : Nat) (x1 : Int32) (x3 : Int32) (F : PF) (G : PG) : PR := if ixb ((F 86) + x1) 20000 = true then (mb_works_396 fu x3 (G 90 ((F 86) + x1).toNatClampNeg) F G) else none
def mb_works_351 (fu : Nat) (x1 : Int32) (x2 : Int32) (z0 : Int32) (F : PF) (G : PG) : PR := if x2 = (-1 : Int32) then mb_works_357 fu x1 z0 F G else mb_works_371 fu x1 z0 F G
def mb_works_350 (fu : Nat) (x1 : Int32) (x2 : Int32) (F : PF) (G : PG) : PR := mb_works_351 fu x1 x2 x2 F G
def mb_works_334 (fu : Nat) (x1 : Int32) (x2 : Int32) (F : PF) (G : PG) : PR := if ixb (((F 86) + x1) + (1 : Int32)) 20000 = true then (mb_works_351 fu x1 x2 (G 90 (((F 86) + x1) + (1 : Int32)).toNatClampNeg) F G) else none
def mb_works_329 (fu : Nat) (x1 : Int32) (x2 : Int32) (F : PF) (G : PG) : PR := if x2 = (-1 : Int32) then mb_works_334 fu x1 x2 F G else mb_works_350 fu x1 x2 F G
def mb_works_490 (fu : Nat) (F : PF) (G : PG) : PR := mb_works_880 fu F G
def mb_works_463 (fu : Nat) (F : PF) (G : PG) : PR := if ixb ((F 72) - (1 : Int32)) 280000 = true then (if ixb (G 71 ((F 72) - (1 : Int32)).toNatClampNeg) 20000 = true then (if ixb ((F 72) - (1 : Int32)) 280000 = true then (mb_works_490 fu F (gup G 71 ((F 72) - (1 : Int32)).toNatClampNeg (G 90 (G 71 ((F 72) - (1 : Int32)).toNatClampNeg).toNatClampNeg))) else none) else none) else none
def mb_works_551 (fu : Nat) (F : PF) (G : PG) : PR := mb_works_880 fu F G
def mb_works_550 (fu : Nat) (z0 : Int32) (z1 : Int32) (F : PF) (G : PG) : PR := if ixb z1 20000 = true then (mb_works_551 fu F (gup G 90 z1.toNatClampNeg z0)) else none
def mb_works_539 (fu : Nat) (z0 : Int32) (F : PF) (G : PG) : PR := if ixb ((F 72) + (1 : Int32)) 280000 = true then (mb_works_550 fu (G 71 ((F 72) + (1 : Int32)).toNatClampNeg) z0 F G) else none
def mb_works_521 (fu : Nat) (z0 : Int32) (F : PF) (G : PG) : PR := if ixb ((F 72) + (1 : Int32)) 280000 = true then (mb_works_550 fu ((G 71 ((F 72) + (1 : Int32)).toNatClampNeg) &&& (255 : Int32)) z0 F G) else none
def mb_works_503 (fu : Nat) (x1 : Int32) (F : PF) (G : PG) : PR := if ixb (F 72) 280000 = true then (if x1 = (1 : Int32) then mb_works_521 fu (G 71 (F 72).toNatClampNeg) F G else mb_works_539 fu (G 71 (F 72).toNatClampNeg) F G) else none
def mb_works_493 (fu : Nat) (x1 : Int32) (F : PF) (G : PG) : PR := mb_works_503 fu x1 (fup F 72 ((F 72) - (2 : Int32))) G
def mb_works_584 (fu : Nat) (F : PF) (G : PG) : PR := mb_works_880 fu F G
def mb_works_574 (fu : Nat) (F : PF) (G : PG) : PR := mb_works_584 fu (fup F 72 ((F 72) + (1 : Int32))) G
def mb_works_554 (fu : Nat) (F : PF) (G : PG) : PR := if ixb ((F 72) - (1 : Int32)) 280000 = true then (if ixb (F 72) 280000 = true then (mb_works_574 fu F (gup G 71 (F 72).toNatClampNeg (G 71 ((F 72) - (1 : Int32)).toNatClampNeg))) else none) else none
def mb_works_616 (fu : Nat) (F : PF) (G : PG) : PR := mb_works_880 fu F G
def mb_works_606 (fu : Nat) (F : PF) (G : PG) : PR := mb_works_616 fu (fup F 77 ((F 77) + (1 : Int32))) G
def mb_works_596 (fu : Nat) (F : PF) (G : PG) : PR := mb_works_606 fu (fup F 78 ((F 78) - (1 : Int32))) G
def mb_works_594 (fu : Nat) (F : PF) (G : PG) : PR := some (0, F, G)
def mb_works_587 (fu : Nat) (F : PF) (G : PG) : PR := if (F 78) = (0 : Int32) then mb_works_594 fu F G else mb_works_596 fu F G
def mb_works_631 (fu : Nat) (z0 : Int32) (F : PF) (G : PG) : PR := if b01 z0 = true then (some (z0, F, G)) else none
def mb_works_619 (fu : Nat) (x1 : Int32) (x2 : Int32) (F : PF) (G : PG) : PR := (mf_calls fu x1 x2 ((F 76) + (1 : Int32)) F G).bind (fun q => mb_works_631 fu q.1 q.2.1 q.2.2)
def mb_works_649 (fu : Nat) (z0 : Int32) (F : PF) (G : PG) : PR := if b01 z0 = true then (some (z0, F, G)) else none
def mb_works_648 (fu : Nat) (F : PF) (G : PG) : PR := mb_works_649 fu 0 F G
def mb_works_644 (fu : Nat) (F : PF) (G : PG) : PR := mb_works_649 fu 1 F G
def mb_works_636 (fu : Nat) (F : PF) (G : PG) : PR := if (F 75) = (1 : Int32) then mb_works_644 fu F G else mb_works_648 fu F G
def mb_works_632 (fu : Nat) (F : PF) (G : PG) : PR := (mf_returnsHere fu F G).bind (fun q => mb_works_636 fu q.2.1 q.2.2)
def mb_works_660 (fu : Nat) (F : PF) (G : PG) : PR := mb_works_880 fu F G
def mb_works_650 (fu : Nat) (F : PF) (G : PG) : PR := mb_works_660 fu (fup F 72 ((F 72) - (1 : Int32))) G
def mb_works_721 (fu : Nat) (F : PF) (G : PG) : PR := mb_works_880 fu F G
def mb_works_711 (fu : Nat) (F : PF) (G : PG) : PR := mb_works_721 fu (fup F 79 ((F 79) + (1 : Int32))) G
def mb_works_701 (fu : Nat) (F : PF) (G : PG) : PR := if (2147483647 : Int32) ≤ (F 79) then mb_works_880 fu F G else mb_works_711 fu F G
def mb_works_683 (fu : Nat) (F : PF) (G : PG) : PR := if ixb (F 72) 280000 = true then (if ixb (F 79) 2000 = true then (mb_works_701 fu F (gup G 89 (F 79).toNatClampNeg (G 71 (F 72).toNatClampNeg))) else none) else none
def mb_works_673 (fu : Nat) (F : PF) (G : PG) : PR := if (2000 : Int32) ≤ (F 79) then mb_works_701 fu F G else mb_works_683 fu F G
def mb_works_663 (fu : Nat) (F : PF) (G : PG) : PR := mb_works_673 fu (fup F 72 ((F 72) - (1 : Int32))) G
def mb_works_752 (fu : Nat) (F : PF) (G : PG) : PR := some (0, F, G)
def mb_works_739 (fu : Nat) (F : PF) (G : PG) : PR := if ixb (F 72) 280000 = true then (mb_works_752 fu (fup F 81 (G 71 (F 72).toNatClampNeg)) G) else none
def mb_works_734 (fu : Nat) (F : PF) (G : PG) : PR := mb_works_739 fu (fup F 75 (4 : Int32)) G
def mb_works_724 (fu : Nat) (F : PF) (G : PG) : PR := mb_works_734 fu (fup F 72 ((F 72) - (1 : Int32))) G
def mb_works_833 (fu : Nat) (F : PF) (G : PG) : PR := mb_works_880 fu F G
def mb_works_827 (fu : Nat) (ag_805 : Int32 → PF → PG → PR) (x3 : Int32) (F : PF) (G : PG) : PR := ag_805 (x3 + 1) F G
def mb_works_813 (fu : Nat) (ag_805 : Int32 → PF → PG → PR) (x3 : Int32) (F : PF) (G : PG) : PR := if ixb (x3 + (1 : Int32)) 500 = true then (if ixb x3 500 = true then (mb_works_827 fu ag_805 x3 F (gup G 88 x3.toNatClampNeg (G 88 (x3 + (1 : Int32)).toNatClampNeg))) else none) else none
def mb_works_805 (fu : Nat) (ag_805 : Int32 → PF → PG → PR) (x3 : Int32) (F : PF) (G : PG) : PR := if (F 80) ≤ x3 then mb_works_833 fu F G else mb_works_813 fu ag_805 x3 F G
def ml_works_805 (fu : Nat) : Nat → Int32 → PF → PG → PR
  | 0 => fun _ _ _ => none
  | n + 1 => fun x3 F G => mb_works_805 fu (ml_works_805 fu n) x3 F G
def mb_works_803 (fu : Nat) (F : PF) (G : PG) : PR := ml_works_805 fu fu 0 F G
def mb_works_793 (fu : Nat) (F : PF) (G : PG) : PR := mb_works_803 fu (fup F 80 ((F 80) - (1 : Int32))) G
def mb_works_783 (fu : Nat) (F : PF) (G : PG) : PR := mb_works_793 fu (fup F 72 ((F 72) + (1 : Int32))) G
def mb_works_768 (fu : Nat) (F : PF) (G : PG) : PR := if ixb (0 : Int32) 500 = true then (if ixb (F 72) 280000 = true then (mb_works_783 fu F (gup G 71 (F 72).toNatClampNeg (G 88 (0 : Int32).toNatClampNeg))) else none) else none
def mb_works_766 (fu : Nat) (F : PF) (G : PG) : PR := some (0, F, G)
def mb_works_761 (fu : Nat) (F : PF) (G : PG) : PR := mb_works_766 fu (fup F 75 (2 : Int32)) G
def mb_works_754 (fu : Nat) (F : PF) (G : PG) : PR := if (F 80) = (0 : Int32) then mb_works_761 fu F G else mb_works_768 fu F G
def mb_works_863 (fu : Nat) (F : PF) (G : PG) : PR := mb_works_880 fu F G
def mb_works_857 (fu : Nat) (ag_838 : Int32 → Int32 → Int32 → PF → PG → PR) (x1 : Int32) (x2 : Int32) (x3 : Int32) (F : PF) (G : PG) : PR := ag_838 x1 x2 (x3 + 1) F G
def mb_works_843 (fu : Nat) (ag_838 : Int32 → Int32 → Int32 → PF → PG → PR) (x1 : Int32) (x2 : Int32) (x3 : Int32) (F : PF) (G : PG) : PR := if ixb (((F 86) + x1) + x3) 20000 = true then (mb_works_857 fu ag_838 x1 x2 x3 F (gup G 90 (((F 86) + x1) + x3).toNatClampNeg (0 : Int32))) else none
def mb_works_838 (fu : Nat) (ag_838 : Int32 → Int32 → Int32 → PF → PG → PR) (x1 : Int32) (x2 : Int32) (x3 : Int32) (F : PF) (G : PG) : PR := if x2 ≤ x3 then mb_works_863 fu F G else mb_works_843 fu ag_838 x1 x2 x3 F G
def ml_works_838 (fu : Nat) : Nat → Int32 → Int32 → Int32 → PF → PG → PR
  | 0 => fun _ _ _ _ _ => none
  | n + 1 => fun x1 x2 x3 F G => mb_works_838 fu (ml_works_838 fu n) x1 x2 x3 F G
def mb_works_836 (fu : Nat) (x1 : Int32) (x2 : Int32) (F : PF) (G : PG) : PR := ml_works_838 fu fu x1 x2 0 F G
def mb_works_878 (fu : Nat) (F : PF) (G : PG) : PR := some (1, F, G)
def mb_works_875 (fu : Nat) (z0 : Int32) (F : PF) (G : PG) : PR := mb_works_878 fu (fup F 76 z0) G
def mb_works_866 (fu : Nat) (F : PF) (G : PG) : PR := (mf_plainly fu (F 76) F G).bind (fun q => mb_works_875 fu q.1 q.2.1 q.2.2)
def mb_works_0 (fu : Nat) (F : PF) (G : PG) : PR := if ixb (F 76) 9000 = true then (if ixb (F 76) 9000 = true then (if ixb (F 76) 9000 = true then (if (G 56 (F 76).toNatClampNeg).toInt < 1 ∨ 22 < (G 56 (F 76).toNatClampNeg).toInt then mb_works_866 fu F G else if (G 56 (F 76).toNatClampNeg) = 1 then mb_works_132 fu (G 57 (F 76).toNatClampNeg) F G else if (G 56 (F 76).toNatClampNeg) = 2 then mb_works_182 fu (G 57 (F 76).toNatClampNeg) F G else if (G 56 (F 76).toNatClampNeg) = 3 then mb_works_132 fu (G 57 (F 76).toNatClampNeg) F G else if (G 56 (F 76).toNatClampNeg) = 4 then mb_works_182 fu (G 57 (F 76).toNatClampNeg) F G else if (G 56 (F 76).toNatClampNeg) = 5 then mb_works_232 fu (G 57 (F 76).toNatClampNeg) (G 58 (F 76).toNatClampNeg) F G else if (G 56 (F 76).toNatClampNeg) = 6 then mb_works_329 fu (G 57 (F 76).toNatClampNeg) (G 58 (F 76).toNatClampNeg) F G else if (G 56 (F 76).toNatClampNeg) = 7 then mb_works_463 fu F G else if (G 56 (F 76).toNatClampNeg) = 8 then mb_works_493 fu (G 57 (F 76).toNatClampNeg) F G else if (G 56 (F 76).toNatClampNeg) = 9 then mb_works_554 fu F G else if (G 56 (F 76).toNatClampNeg) = 10 then mb_works_866 fu F G else if (G 56 (F 76).toNatClampNeg) = 11 then mb_works_866 fu F G else if (G 56 (F 76).toNatClampNeg) = 12 then mb_works_866 fu F G else if (G 56 (F 76).toNatClampNeg) = 13 then mb_works_866 fu F G else if (G 56 (F 76).toNatClampNeg) = 14 then mb_works_866 fu F G else if (G 56 (F 76).toNatClampNeg) = 15 then mb_works_587 fu F G else if (G 56 (F 76).toNatClampNeg) = 16 then mb_works_619 fu (G 57 (F 76).toNatClampNeg) (G 58 (F 76).toNatClampNeg) F G else if (G 56 (F 76).toNatClampNeg) = 17 then mb_works_632 fu F G else if (G 56 (F 76).toNatClampNeg) = 18 then mb_works_650 fu F G else if (G 56 (F 76).toNatClampNeg) = 19 then mb_works_663 fu F G else if (G 56 (F 76).toNatClampNeg) = 20 then mb_works_724 fu F G else if (G 56 (F 76).toNatClampNeg) = 21 then mb_works_754 fu F G else mb_works_836 fu (G 57 (F 76).toNatClampNeg) (G 58 (F 76).toNatClampNeg) F G) else none) else none) else none
def mf_works (fu : Nat) (F : PF) (G : PG) : PR := mb_works_0 fu F G
theorem mw_works_890 (fu : Nat) {res : Int32 × PF × PG} (C : mMC p R s m args c A v RX12 cX12_works 6 3 65) (hret : ∀ (H1 : Heap) (locs1 : List Loc) (ls1 : Array Slot) (pc : Nat), mMW s A v a res.2.1 res.2.2 H1 locs1 → narrow .boolean (.int res.1) = .int res.1 → decode cX12_works pc = .ok (.ireturn, 1) → W p l e R s m args below meth c H1 locs1 0 0 Q (F0 m pc ls1 [.int res.1])) (F : PF) (G : PG) (hm : mb_works_890 fu F G = some res) {H : Heap} {locs : List Loc} (hw : mMW s A v a F G H locs) {ls : Array Slot} (hl : lv_has ls 6 []) : W p l e R s m args below meth c H locs 0 0 Q (F0 m 890 ls []) := by
  have hx := C.1
  have hb := C.2.1
  unfold mb_works_890 at hm
  refine lv_iconst (v := 1) hx hb dX12_works_890 (by decide) ?_
  obtain rfl := Option.some.inj hm
  exact hret _ _ _ _ hw (b01_nar (v := 1) (Or.inr rfl)) dX12_works_891
theorem mw_works_880 (fu : Nat) {res : Int32 × PF × PG} (C : mMC p R s m args c A v RX12 cX12_works 6 3 65) (hret : ∀ (H1 : Heap) (locs1 : List Loc) (ls1 : Array Slot) (pc : Nat), mMW s A v a res.2.1 res.2.2 H1 locs1 → narrow .boolean (.int res.1) = .int res.1 → decode cX12_works pc = .ok (.ireturn, 1) → W p l e R s m args below meth c H1 locs1 0 0 Q (F0 m pc ls1 [.int res.1])) (F : PF) (G : PG) (hm : mb_works_880 fu F G = some res) {H : Heap} {locs : List Loc} (hw : mMW s A v a F G H locs) {ls : Array Slot} (hl : lv_has ls 6 [(0, .ref (a 212))]) : W p l e R s m args below meth c H locs 0 0 Q (F0 m 880 ls []) := by
  have hx := C.1
  have hb := C.2.1
  unfold mb_works_880 at hm
  refine lv_aload_n hx hb dX12_works_880 rfl (lv_at hl 0 rfl) ?_
  refine lv_dup hx hb dX12_works_881 rfl ?_
  refine mg_X12_553 C hw dX12_works_882 ?_
  refine lv_iconst (v := 1) hx hb dX12_works_885 (by decide) ?_
  refine lv_iadd hx hb dX12_works_886 ?_
  refine mp_X12_553 C hw dX12_works_887 (fun H locs hw => ?_)
  exact mw_works_890 fu C hret (fup F 76 ((F 76) + (1 : Int32))) G hm hw (lv_sub hl [] rfl)
theorem mw_works_179 (fu : Nat) {res : Int32 × PF × PG} (C : mMC p R s m args c A v RX12 cX12_works 6 3 65) (hret : ∀ (H1 : Heap) (locs1 : List Loc) (ls1 : Array Slot) (pc : Nat), mMW s A v a res.2.1 res.2.2 H1 locs1 → narrow .boolean (.int res.1) = .int res.1 → decode cX12_works pc = .ok (.ireturn, 1) → W p l e R s m args below meth c H1 locs1 0 0 Q (F0 m pc ls1 [.int res.1])) (F : PF) (G : PG) (hm : mb_works_179 fu F G = some res) {H : Heap} {locs : List Loc} (hw : mMW s A v a F G H locs) {ls : Array Slot} (hl : lv_has ls 6 [(0, .ref (a 212))]) : W p l e R s m args below meth c H locs 0 0 Q (F0 m 179 ls []) := by
  have hx := C.1
  have hb := C.2.1
  unfold mb_works_179 at hm
  refine lv_goto (tgt := 880) hx hb dX12_works_179 (by decide) ?_
  exact mw_works_880 fu C hret F G hm hw (lv_sub hl [0] rfl)
theorem mw_works_169 (fu : Nat) {res : Int32 × PF × PG} (C : mMC p R s m args c A v RX12 cX12_works 6 3 65) (hret : ∀ (H1 : Heap) (locs1 : List Loc) (ls1 : Array Slot) (pc : Nat), mMW s A v a res.2.1 res.2.2 H1 locs1 → narrow .boolean (.int res.1) = .int res.1 → decode cX12_works pc = .ok (.ireturn, 1) → W p l e R s m args below meth c H1 locs1 0 0 Q (F0 m pc ls1 [.int res.1])) (F : PF) (G : PG) (hm : mb_works_169 fu F G = some res) {H : Heap} {locs : List Loc} (hw : mMW s A v a F G H locs) {ls : Array Slot} (hl : lv_has ls 6 [(0, .ref (a 212))]) : W p l e R s m args below meth c H locs 0 0 Q (F0 m 169 ls []) := by
  have hx := C.1
  have hb := C.2.1
  unfold mb_works_169 at hm
  refine lv_aload_n hx hb dX12_works_169 rfl (lv_at hl 0 rfl) ?_
  refine lv_dup hx hb dX12_works_170 rfl ?_
  refine mg_X12_497 C hw dX12_works_171 ?_
  refine lv_iconst (v := 1) hx hb dX12_works_174 (by decide) ?_
  refine lv_iadd hx hb dX12_works_175 ?_
  refine mp_X12_497 C hw dX12_works_176 (fun H locs hw => ?_)
  exact mw_works_179 fu C hret (fup F 72 ((F 72) + (1 : Int32))) G hm hw (lv_sub hl [0] rfl)
theorem mw_works_167 (fu : Nat) {res : Int32 × PF × PG} (C : mMC p R s m args c A v RX12 cX12_works 6 3 65) (hret : ∀ (H1 : Heap) (locs1 : List Loc) (ls1 : Array Slot) (pc : Nat), mMW s A v a res.2.1 res.2.2 H1 locs1 → narrow .boolean (.int res.1) = .int res.1 → decode cX12_works pc = .ok (.ireturn, 1) → W p l e R s m args below meth c H1 locs1 0 0 Q (F0 m pc ls1 [.int res.1])) (z0 : Int32) (z2 : Int32) (F : PF) (G : PG) (hm : mb_works_167 fu z0 z2 F G = some res) {H : Heap} {locs : List Loc} (hw : mMW s A v a F G H locs) {ls : Array Slot} (hl : lv_has ls 6 [(0, .ref (a 212))]) : W p l e R s m args below meth c H locs 0 0 Q (F0 m 167 ls [.int z0, .ref (a 90), .int z2, .ref (a 71)]) := by
  have hx := C.1
  have hb := C.2.1
  unfold mb_works_167 at hm
  obtain ⟨hi, hm⟩ := ix_elim hm
  refine mal_90 C hw hi dX12_works_167 ?_
  obtain ⟨hi, hm⟩ := ix_elim hm
  refine mas_71 C hw hi dX12_works_168 (fun H locs hw => ?_)
  exact mw_works_169 fu C hret F (gup G 71 z2.toNatClampNeg (G 90 z0.toNatClampNeg)) hm hw (lv_sub hl [0] rfl)
theorem mw_works_166 (fu : Nat) {res : Int32 × PF × PG} (C : mMC p R s m args c A v RX12 cX12_works 6 3 65) (hret : ∀ (H1 : Heap) (locs1 : List Loc) (ls1 : Array Slot) (pc : Nat), mMW s A v a res.2.1 res.2.2 H1 locs1 → narrow .boolean (.int res.1) = .int res.1 → decode cX12_works pc = .ok (.ireturn, 1) → W p l e R s m args below meth c H1 locs1 0 0 Q (F0 m pc ls1 [.int res.1])) (x1 : Int32) (z1 : Int32) (F : PF) (G : PG) (hm : mb_works_166 fu x1 z1 F G = some res) {H : Heap} {locs : List Loc} (hw : mMW s A v a F G H locs) {ls : Array Slot} (hl : lv_has ls 6 [(0, .ref (a 212)), (1, .int x1)]) : W p l e R s m args below meth c H locs 0 0 Q (F0 m 166 ls [.ref (a 90), .int z1, .ref (a 71)]) := by
  have hx := C.1
  have hb := C.2.1
  unfold mb_works_166 at hm
  refine lv_iload_n hx hb dX12_works_166 rfl (lv_at hl 1 rfl) ?_
  exact mw_works_167 fu C hret x1 z1 F G hm hw (lv_sub hl [0] rfl)
theorem mw_works_157 (fu : Nat) {res : Int32 × PF × PG} (C : mMC p R s m args c A v RX12 cX12_works 6 3 65) (hret : ∀ (H1 : Heap) (locs1 : List Loc) (ls1 : Array Slot) (pc : Nat), mMW s A v a res.2.1 res.2.2 H1 locs1 → narrow .boolean (.int res.1) = .int res.1 → decode cX12_works pc = .ok (.ireturn, 1) → W p l e R s m args below meth c H1 locs1 0 0 Q (F0 m pc ls1 [.int res.1])) (x1 : Int32) (z1 : Int32) (F : PF) (G : PG) (hm : mb_works_157 fu x1 z1 F G = some res) {H : Heap} {locs : List Loc} (hw : mMW s A v a F G H locs) {ls : Array Slot} (hl : lv_has ls 6 [(0, .ref (a 212)), (1, .int x1)]) : W p l e R s m args below meth c H locs 0 0 Q (F0 m 157 ls [.ref (a 90), .int z1, .ref (a 71)]) := by
  have hx := C.1
  have hb := C.2.1
  unfold mb_works_157 at hm
  refine lv_aload_n hx hb dX12_works_157 rfl (lv_at hl 0 rfl) ?_
  refine mg_X12_550 C hw dX12_works_158 ?_
  refine lv_iload_n hx hb dX12_works_161 rfl (lv_at hl 1 rfl) ?_
  refine lv_iadd hx hb dX12_works_162 ?_
  refine lv_goto (tgt := 167) hx hb dX12_works_163 (by decide) ?_
  exact mw_works_167 fu C hret ((F 86) + x1) z1 F G hm hw (lv_sub hl [0] rfl)
theorem mw_works_132 (fu : Nat) {res : Int32 × PF × PG} (C : mMC p R s m args c A v RX12 cX12_works 6 3 65) (hret : ∀ (H1 : Heap) (locs1 : List Loc) (ls1 : Array Slot) (pc : Nat), mMW s A v a res.2.1 res.2.2 H1 locs1 → narrow .boolean (.int res.1) = .int res.1 → decode cX12_works pc = .ok (.ireturn, 1) → W p l e R s m args below meth c H1 locs1 0 0 Q (F0 m pc ls1 [.int res.1])) (x1 : Int32) (F : PF) (G : PG) (hm : mb_works_132 fu x1 F G = some res) {H : Heap} {locs : List Loc} (hw : mMW s A v a F G H locs) {ls : Array Slot} (hl : lv_has ls 6 [(0, .ref (a 212)), (1, .int x1)]) : W p l e R s m args below meth c H locs 0 0 Q (F0 m 132 ls []) := by
  have hx := C.1
  have hb := C.2.1
  unfold mb_works_132 at hm
  refine lv_aload_n hx hb dX12_works_132 rfl (lv_at hl 0 rfl) ?_
  refine mg_X12_126 C hw dX12_works_133 ?_
  refine lv_aload_n hx hb dX12_works_136 rfl (lv_at hl 0 rfl) ?_
  refine mg_X12_497 C hw dX12_works_137 ?_
  refine lv_aload_n hx hb dX12_works_140 rfl (lv_at hl 0 rfl) ?_
  refine mg_X12_135 C hw dX12_works_141 ?_
  refine lv_aload_n hx hb dX12_works_144 rfl (lv_at hl 0 rfl) ?_
  refine mg_X12_104 C hw dX12_works_145 ?_
  refine lv_aload_n hx hb dX12_works_148 rfl (lv_at hl 0 rfl) ?_
  refine mg_X12_553 C hw dX12_works_149 ?_
  obtain ⟨hi, hm⟩ := ix_elim hm
  refine mal_56 C hw hi dX12_works_152 ?_
  refine lv_iconst (v := 1) hx hb dX12_works_153 (by decide) ?_
  refine lv_icmp_ne (tgt := 166) hx hb dX12_works_154 (by decide) (fun c_1 => ?_) (fun c_1 => ?_)
  · have hm := (if_neg c_1).symm.trans hm
    exact mw_works_166 fu C hret x1 (F 72) F G hm hw (lv_sub hl [0, 1] rfl)
  · have hm := (if_pos c_1).symm.trans hm
    exact mw_works_157 fu C hret x1 (F 72) F G hm hw (lv_sub hl [0, 1] rfl)
theorem mw_works_229 (fu : Nat) {res : Int32 × PF × PG} (C : mMC p R s m args c A v RX12 cX12_works 6 3 65) (hret : ∀ (H1 : Heap) (locs1 : List Loc) (ls1 : Array Slot) (pc : Nat), mMW s A v a res.2.1 res.2.2 H1 locs1 → narrow .boolean (.int res.1) = .int res.1 → decode cX12_works pc = .ok (.ireturn, 1) → W p l e R s m args below meth c H1 locs1 0 0 Q (F0 m pc ls1 [.int res.1])) (F : PF) (G : PG) (hm : mb_works_229 fu F G = some res) {H : Heap} {locs : List Loc} (hw : mMW s A v a F G H locs) {ls : Array Slot} (hl : lv_has ls 6 [(0, .ref (a 212))]) : W p l e R s m args below meth c H locs 0 0 Q (F0 m 229 ls []) := by
  have hx := C.1
  have hb := C.2.1
  unfold mb_works_229 at hm
  refine lv_goto (tgt := 880) hx hb dX12_works_229 (by decide) ?_
  exact mw_works_880 fu C hret F G hm hw (lv_sub hl [0] rfl)
theorem mw_works_219 (fu : Nat) {res : Int32 × PF × PG} (C : mMC p R s m args c A v RX12 cX12_works 6 3 65) (hret : ∀ (H1 : Heap) (locs1 : List Loc) (ls1 : Array Slot) (pc : Nat), mMW s A v a res.2.1 res.2.2 H1 locs1 → narrow .boolean (.int res.1) = .int res.1 → decode cX12_works pc = .ok (.ireturn, 1) → W p l e R s m args below meth c H1 locs1 0 0 Q (F0 m pc ls1 [.int res.1])) (z0 : Int32) (F : PF) (G : PG) (hm : mb_works_219 fu z0 F G = some res) {H : Heap} {locs : List Loc} (hw : mMW s A v a F G H locs) {ls : Array Slot} (hl : lv_has ls 6 [(0, .ref (a 212))]) : W p l e R s m args below meth c H locs 0 0 Q (F0 m 219 ls [.int z0, .ref (a 90)]) := by
  have hx := C.1
  have hb := C.2.1
  unfold mb_works_219 at hm
  refine lv_aload_n hx hb dX12_works_219 rfl (lv_at hl 0 rfl) ?_
  refine mg_X12_126 C hw dX12_works_220 ?_
  refine lv_aload_n hx hb dX12_works_223 rfl (lv_at hl 0 rfl) ?_
  refine mg_X12_497 C hw dX12_works_224 ?_
  obtain ⟨hi, hm⟩ := ix_elim hm
  refine mal_71 C hw hi dX12_works_227 ?_
  obtain ⟨hi, hm⟩ := ix_elim hm
  refine mas_90 C hw hi dX12_works_228 (fun H locs hw => ?_)
  exact mw_works_229 fu C hret F (gup G 90 z0.toNatClampNeg (G 71 (F 72).toNatClampNeg)) hm hw (lv_sub hl [0] rfl)
theorem mw_works_218 (fu : Nat) {res : Int32 × PF × PG} (C : mMC p R s m args c A v RX12 cX12_works 6 3 65) (hret : ∀ (H1 : Heap) (locs1 : List Loc) (ls1 : Array Slot) (pc : Nat), mMW s A v a res.2.1 res.2.2 H1 locs1 → narrow .boolean (.int res.1) = .int res.1 → decode cX12_works pc = .ok (.ireturn, 1) → W p l e R s m args below meth c H1 locs1 0 0 Q (F0 m pc ls1 [.int res.1])) (x1 : Int32) (F : PF) (G : PG) (hm : mb_works_218 fu x1 F G = some res) {H : Heap} {locs : List Loc} (hw : mMW s A v a F G H locs) {ls : Array Slot} (hl : lv_has ls 6 [(0, .ref (a 212)), (1, .int x1)]) : W p l e R s m args below meth c H locs 0 0 Q (F0 m 218 ls [.ref (a 90)]) := by
  have hx := C.1
  have hb := C.2.1
  unfold mb_works_218 at hm
  refine lv_iload_n hx hb dX12_works_218 rfl (lv_at hl 1 rfl) ?_
  exact mw_works_219 fu C hret x1 F G hm hw (lv_sub hl [0] rfl)
theorem mw_works_209 (fu : Nat) {res : Int32 × PF × PG} (C : mMC p R s m args c A v RX12 cX12_works 6 3 65) (hret : ∀ (H1 : Heap) (locs1 : List Loc) (ls1 : Array Slot) (pc : Nat), mMW s A v a res.2.1 res.2.2 H1 locs1 → narrow .boolean (.int res.1) = .int res.1 → decode cX12_works pc = .ok (.ireturn, 1) → W p l e R s m args below meth c H1 locs1 0 0 Q (F0 m pc ls1 [.int res.1])) (x1 : Int32) (F : PF) (G : PG) (hm : mb_works_209 fu x1 F G = some res) {H : Heap} {locs : List Loc} (hw : mMW s A v a F G H locs) {ls : Array Slot} (hl : lv_has ls 6 [(0, .ref (a 212)), (1, .int x1)]) : W p l e R s m args below meth c H locs 0 0 Q (F0 m 209 ls [.ref (a 90)]) := by
  have hx := C.1
  have hb := C.2.1
  unfold mb_works_209 at hm
  refine lv_aload_n hx hb dX12_works_209 rfl (lv_at hl 0 rfl) ?_
  refine mg_X12_550 C hw dX12_works_210 ?_
  refine lv_iload_n hx hb dX12_works_213 rfl (lv_at hl 1 rfl) ?_
  refine lv_iadd hx hb dX12_works_214 ?_
  refine lv_goto (tgt := 219) hx hb dX12_works_215 (by decide) ?_
  exact mw_works_219 fu C hret ((F 86) + x1) F G hm hw (lv_sub hl [0] rfl)
theorem mw_works_192 (fu : Nat) {res : Int32 × PF × PG} (C : mMC p R s m args c A v RX12 cX12_works 6 3 65) (hret : ∀ (H1 : Heap) (locs1 : List Loc) (ls1 : Array Slot) (pc : Nat), mMW s A v a res.2.1 res.2.2 H1 locs1 → narrow .boolean (.int res.1) = .int res.1 → decode cX12_works pc = .ok (.ireturn, 1) → W p l e R s m args below meth c H1 locs1 0 0 Q (F0 m pc ls1 [.int res.1])) (x1 : Int32) (F : PF) (G : PG) (hm : mb_works_192 fu x1 F G = some res) {H : Heap} {locs : List Loc} (hw : mMW s A v a F G H locs) {ls : Array Slot} (hl : lv_has ls 6 [(0, .ref (a 212)), (1, .int x1)]) : W p l e R s m args below meth c H locs 0 0 Q (F0 m 192 ls []) := by
  have hx := C.1
  have hb := C.2.1
  unfold mb_works_192 at hm
  refine lv_aload_n hx hb dX12_works_192 rfl (lv_at hl 0 rfl) ?_
  refine mg_X12_135 C hw dX12_works_193 ?_
  refine lv_aload_n hx hb dX12_works_196 rfl (lv_at hl 0 rfl) ?_
  refine mg_X12_104 C hw dX12_works_197 ?_
  refine lv_aload_n hx hb dX12_works_200 rfl (lv_at hl 0 rfl) ?_
  refine mg_X12_553 C hw dX12_works_201 ?_
  obtain ⟨hi, hm⟩ := ix_elim hm
  refine mal_56 C hw hi dX12_works_204 ?_
  refine lv_iconst (v := 2) hx hb dX12_works_205 (by decide) ?_
  refine lv_icmp_ne (tgt := 218) hx hb dX12_works_206 (by decide) (fun c_1 => ?_) (fun c_1 => ?_)
  · have hm := (if_neg c_1).symm.trans hm
    exact mw_works_218 fu C hret x1 F G hm hw (lv_sub hl [0, 1] rfl)
  · have hm := (if_pos c_1).symm.trans hm
    exact mw_works_209 fu C hret x1 F G hm hw (lv_sub hl [0, 1] rfl)
theorem mw_works_182 (fu : Nat) {res : Int32 × PF × PG} (C : mMC p R s m args c A v RX12 cX12_works 6 3 65) (hret : ∀ (H1 : Heap) (locs1 : List Loc) (ls1 : Array Slot) (pc : Nat), mMW s A v a res.2.1 res.2.2 H1 locs1 → narrow .boolean (.int res.1) = .int res.1 → decode cX12_works pc = .ok (.ireturn, 1) → W p l e R s m args below meth c H1 locs1 0 0 Q (F0 m pc ls1 [.int res.1])) (x1 : Int32) (F : PF) (G : PG) (hm : mb_works_182 fu x1 F G = some res) {H : Heap} {locs : List Loc} (hw : mMW s A v a F G H locs) {ls : Array Slot} (hl : lv_has ls 6 [(0, .ref (a 212)), (1, .int x1)]) : W p l e R s m args below meth c H locs 0 0 Q (F0 m 182 ls []) := by
  have hx := C.1
  have hb := C.2.1
  unfold mb_works_182 at hm
  refine lv_aload_n hx hb dX12_works_182 rfl (lv_at hl 0 rfl) ?_
  refine lv_dup hx hb dX12_works_183 rfl ?_
  refine mg_X12_497 C hw dX12_works_184 ?_
  refine lv_iconst (v := 1) hx hb dX12_works_187 (by decide) ?_
  refine lv_isub hx hb dX12_works_188 ?_
  refine mp_X12_497 C hw dX12_works_189 (fun H locs hw => ?_)
  exact mw_works_192 fu C hret x1 (fup F 72 ((F 72) - (1 : Int32))) G hm hw (lv_sub hl [0, 1] rfl)
theorem mw_works_326 (fu : Nat) {res : Int32 × PF × PG} (C : mMC p R s m args c A v RX12 cX12_works 6 3 65) (hret : ∀ (H1 : Heap) (locs1 : List Loc) (ls1 : Array Slot) (pc : Nat), mMW s A v a res.2.1 res.2.2 H1 locs1 → narrow .boolean (.int res.1) = .int res.1 → decode cX12_works pc = .ok (.ireturn, 1) → W p l e R s m args below meth c H1 locs1 0 0 Q (F0 m pc ls1 [.int res.1])) (F : PF) (G : PG) (hm : mb_works_326 fu F G = some res) {H : Heap} {locs : List Loc} (hw : mMW s A v a F G H locs) {ls : Array Slot} (hl : lv_has ls 6 [(0, .ref (a 212))]) : W p l e R s m args below meth c H locs 0 0 Q (F0 m 326 ls []) := by
  have hx := C.1
  have hb := C.2.1
  unfold mb_works_326 at hm
  refine lv_goto (tgt := 880) hx hb dX12_works_326 (by decide) ?_
  exact mw_works_880 fu C hret F G hm hw (lv_sub hl [0] rfl)
theorem mw_works_316 (fu : Nat) {res : Int32 × PF × PG} (C : mMC p R s m args c A v RX12 cX12_works 6 3 65) (hret : ∀ (H1 : Heap) (locs1 : List Loc) (ls1 : Array Slot) (pc : Nat), mMW s A v a res.2.1 res.2.2 H1 locs1 → narrow .boolean (.int res.1) = .int res.1 → decode cX12_works pc = .ok (.ireturn, 1) → W p l e R s m args below meth c H1 locs1 0 0 Q (F0 m pc ls1 [.int res.1])) (F : PF) (G : PG) (hm : mb_works_316 fu F G = some res) {H : Heap} {locs : List Loc} (hw : mMW s A v a F G H locs) {ls : Array Slot} (hl : lv_has ls 6 [(0, .ref (a 212))]) : W p l e R s m args below meth c H locs 0 0 Q (F0 m 316 ls []) := by
  have hx := C.1
  have hb := C.2.1
  unfold mb_works_316 at hm
  refine lv_aload_n hx hb dX12_works_316 rfl (lv_at hl 0 rfl) ?_
  refine lv_dup hx hb dX12_works_317 rfl ?_
  refine mg_X12_497 C hw dX12_works_318 ?_
  refine lv_iconst (v := 2) hx hb dX12_works_321 (by decide) ?_
  refine lv_iadd hx hb dX12_works_322 ?_
  refine mp_X12_497 C hw dX12_works_323 (fun H locs hw => ?_)
  exact mw_works_326 fu C hret (fup F 72 ((F 72) + (2 : Int32))) G hm hw (lv_sub hl [0] rfl)
theorem mw_works_315 (fu : Nat) {res : Int32 × PF × PG} (C : mMC p R s m args c A v RX12 cX12_works 6 3 65) (hret : ∀ (H1 : Heap) (locs1 : List Loc) (ls1 : Array Slot) (pc : Nat), mMW s A v a res.2.1 res.2.2 H1 locs1 → narrow .boolean (.int res.1) = .int res.1 → decode cX12_works pc = .ok (.ireturn, 1) → W p l e R s m args below meth c H1 locs1 0 0 Q (F0 m pc ls1 [.int res.1])) (z0 : Int32) (z1 : Int32) (F : PF) (G : PG) (hm : mb_works_315 fu z0 z1 F G = some res) {H : Heap} {locs : List Loc} (hw : mMW s A v a F G H locs) {ls : Array Slot} (hl : lv_has ls 6 [(0, .ref (a 212))]) : W p l e R s m args below meth c H locs 0 0 Q (F0 m 315 ls [.int z0, .int z1, .ref (a 71)]) := by
  have hx := C.1
  have hb := C.2.1
  unfold mb_works_315 at hm
  obtain ⟨hi, hm⟩ := ix_elim hm
  refine mas_71 C hw hi dX12_works_315 (fun H locs hw => ?_)
  exact mw_works_316 fu C hret F (gup G 71 z1.toNatClampNeg z0) hm hw (lv_sub hl [0] rfl)
theorem mw_works_314 (fu : Nat) {res : Int32 × PF × PG} (C : mMC p R s m args c A v RX12 cX12_works 6 3 65) (hret : ∀ (H1 : Heap) (locs1 : List Loc) (ls1 : Array Slot) (pc : Nat), mMW s A v a res.2.1 res.2.2 H1 locs1 → narrow .boolean (.int res.1) = .int res.1 → decode cX12_works pc = .ok (.ireturn, 1) → W p l e R s m args below meth c H1 locs1 0 0 Q (F0 m pc ls1 [.int res.1])) (x2 : Int32) (z0 : Int32) (F : PF) (G : PG) (hm : mb_works_314 fu x2 z0 F G = some res) {H : Heap} {locs : List Loc} (hw : mMW s A v a F G H locs) {ls : Array Slot} (hl : lv_has ls 6 [(0, .ref (a 212)), (2, .int x2)]) : W p l e R s m args below meth c H locs 0 0 Q (F0 m 314 ls [.int z0, .ref (a 71)]) := by
  have hx := C.1
  have hb := C.2.1
  unfold mb_works_314 at hm
  refine lv_iload_n hx hb dX12_works_314 rfl (lv_at hl 1 rfl) ?_
  exact mw_works_315 fu C hret x2 z0 F G hm hw (lv_sub hl [0] rfl)
theorem mw_works_298 (fu : Nat) {res : Int32 × PF × PG} (C : mMC p R s m args c A v RX12 cX12_works 6 3 65) (hret : ∀ (H1 : Heap) (locs1 : List Loc) (ls1 : Array Slot) (pc : Nat), mMW s A v a res.2.1 res.2.2 H1 locs1 → narrow .boolean (.int res.1) = .int res.1 → decode cX12_works pc = .ok (.ireturn, 1) → W p l e R s m args below meth c H1 locs1 0 0 Q (F0 m pc ls1 [.int res.1])) (x1 : Int32) (z0 : Int32) (F : PF) (G : PG) (hm : mb_works_298 fu x1 z0 F G = some res) {H : Heap} {locs : List Loc} (hw : mMW s A v a F G H locs) {ls : Array Slot} (hl : lv_has ls 6 [(0, .ref (a 212)), (1, .int x1)]) : W p l e R s m args below meth c H locs 0 0 Q (F0 m 298 ls [.int z0, .ref (a 71)]) := by
  have hx := C.1
  have hb := C.2.1
  unfold mb_works_298 at hm
  refine lv_aload_n hx hb dX12_works_298 rfl (lv_at hl 0 rfl) ?_
  refine mg_X12_135 C hw dX12_works_299 ?_
  refine lv_aload_n hx hb dX12_works_302 rfl (lv_at hl 0 rfl) ?_
  refine mg_X12_550 C hw dX12_works_303 ?_
  refine lv_iload_n hx hb dX12_works_306 rfl (lv_at hl 1 rfl) ?_
  refine lv_iadd hx hb dX12_works_307 ?_
  refine lv_iconst (v := 1) hx hb dX12_works_308 (by decide) ?_
  refine lv_iadd hx hb dX12_works_309 ?_
  obtain ⟨hi, hm⟩ := ix_elim hm
  refine mal_90 C hw hi dX12_works_310 ?_
  refine lv_goto (tgt := 315) hx hb dX12_works_311 (by decide) ?_
  exact mw_works_315 fu C hret (G 90 (((F 86) + x1) + (1 : Int32)).toNatClampNeg) z0 F G hm hw (lv_sub hl [0] rfl)
theorem mw_works_283 (fu : Nat) {res : Int32 × PF × PG} (C : mMC p R s m args c A v RX12 cX12_works 6 3 65) (hret : ∀ (H1 : Heap) (locs1 : List Loc) (ls1 : Array Slot) (pc : Nat), mMW s A v a res.2.1 res.2.2 H1 locs1 → narrow .boolean (.int res.1) = .int res.1 → decode cX12_works pc = .ok (.ireturn, 1) → W p l e R s m args below meth c H1 locs1 0 0 Q (F0 m pc ls1 [.int res.1])) (x1 : Int32) (x2 : Int32) (F : PF) (G : PG) (hm : mb_works_283 fu x1 x2 F G = some res) {H : Heap} {locs : List Loc} (hw : mMW s A v a F G H locs) {ls : Array Slot} (hl : lv_has ls 6 [(0, .ref (a 212)), (1, .int x1), (2, .int x2)]) : W p l e R s m args below meth c H locs 0 0 Q (F0 m 283 ls []) := by
  have hx := C.1
  have hb := C.2.1
  unfold mb_works_283 at hm
  refine lv_aload_n hx hb dX12_works_283 rfl (lv_at hl 0 rfl) ?_
  refine mg_X12_126 C hw dX12_works_284 ?_
  refine lv_aload_n hx hb dX12_works_287 rfl (lv_at hl 0 rfl) ?_
  refine mg_X12_497 C hw dX12_works_288 ?_
  refine lv_iconst (v := 1) hx hb dX12_works_291 (by decide) ?_
  refine lv_iadd hx hb dX12_works_292 ?_
  refine lv_iload_n hx hb dX12_works_293 rfl (lv_at hl 2 rfl) ?_
  refine lv_iconst (v := (-1)) hx hb dX12_works_294 (by decide) ?_
  refine lv_icmp_ne (tgt := 314) hx hb dX12_works_295 (by decide) (fun c_1 => ?_) (fun c_1 => ?_)
  · have hm := (if_neg c_1).symm.trans hm
    exact mw_works_314 fu C hret x2 ((F 72) + (1 : Int32)) F G hm hw (lv_sub hl [0, 2] rfl)
  · have hm := (if_pos c_1).symm.trans hm
    exact mw_works_298 fu C hret x1 ((F 72) + (1 : Int32)) F G hm hw (lv_sub hl [0, 1] rfl)
theorem mw_works_282 (fu : Nat) {res : Int32 × PF × PG} (C : mMC p R s m args c A v RX12 cX12_works 6 3 65) (hret : ∀ (H1 : Heap) (locs1 : List Loc) (ls1 : Array Slot) (pc : Nat), mMW s A v a res.2.1 res.2.2 H1 locs1 → narrow .boolean (.int res.1) = .int res.1 → decode cX12_works pc = .ok (.ireturn, 1) → W p l e R s m args below meth c H1 locs1 0 0 Q (F0 m pc ls1 [.int res.1])) (x1 : Int32) (x2 : Int32) (z0 : Int32) (z1 : Int32) (F : PF) (G : PG) (hm : mb_works_282 fu x1 x2 z0 z1 F G = some res) {H : Heap} {locs : List Loc} (hw : mMW s A v a F G H locs) {ls : Array Slot} (hl : lv_has ls 6 [(0, .ref (a 212)), (1, .int x1), (2, .int x2)]) : W p l e R s m args below meth c H locs 0 0 Q (F0 m 282 ls [.int z0, .int z1, .ref (a 71)]) := by
  have hx := C.1
  have hb := C.2.1
  unfold mb_works_282 at hm
  obtain ⟨hi, hm⟩ := ix_elim hm
  refine mas_71 C hw hi dX12_works_282 (fun H locs hw => ?_)
  exact mw_works_283 fu C hret x1 x2 F (gup G 71 z1.toNatClampNeg z0) hm hw (lv_sub hl [0, 1, 2] rfl)
theorem mw_works_281 (fu : Nat) {res : Int32 × PF × PG} (C : mMC p R s m args c A v RX12 cX12_works 6 3 65) (hret : ∀ (H1 : Heap) (locs1 : List Loc) (ls1 : Array Slot) (pc : Nat), mMW s A v a res.2.1 res.2.2 H1 locs1 → narrow .boolean (.int res.1) = .int res.1 → decode cX12_works pc = .ok (.ireturn, 1) → W p l e R s m args below meth c H1 locs1 0 0 Q (F0 m pc ls1 [.int res.1])) (x1 : Int32) (x2 : Int32) (z0 : Int32) (F : PF) (G : PG) (hm : mb_works_281 fu x1 x2 z0 F G = some res) {H : Heap} {locs : List Loc} (hw : mMW s A v a F G H locs) {ls : Array Slot} (hl : lv_has ls 6 [(0, .ref (a 212)), (1, .int x1), (2, .int x2)]) : W p l e R s m args below meth c H locs 0 0 Q (F0 m 281 ls [.int z0, .ref (a 71)]) := by
  have hx := C.1
  have hb := C.2.1
  unfold mb_works_281 at hm
  refine lv_iload_n hx hb dX12_works_281 rfl (lv_at hl 1 rfl) ?_
  exact mw_works_282 fu C hret x1 x2 x1 z0 F G hm hw (lv_sub hl [0, 1, 2] rfl)
theorem mw_works_272 (fu : Nat) {res : Int32 × PF × PG} (C : mMC p R s m args c A v RX12 cX12_works 6 3 65) (hret : ∀ (H1 : Heap) (locs1 : List Loc) (ls1 : Array Slot) (pc : Nat), mMW s A v a res.2.1 res.2.2 H1 locs1 → narrow .boolean (.int res.1) = .int res.1 → decode cX12_works pc = .ok (.ireturn, 1) → W p l e R s m args below meth c H1 locs1 0 0 Q (F0 m pc ls1 [.int res.1])) (x1 : Int32) (x2 : Int32) (z0 : Int32) (F : PF) (G : PG) (hm : mb_works_272 fu x1 x2 z0 F G = some res) {H : Heap} {locs : List Loc} (hw : mMW s A v a F G H locs) {ls : Array Slot} (hl : lv_has ls 6 [(0, .ref (a 212)), (1, .int x1), (2, .int x2)]) : W p l e R s m args below meth c H locs 0 0 Q (F0 m 272 ls [.int z0, .ref (a 71)]) := by
  have hx := C.1
  have hb := C.2.1
  unfold mb_works_272 at hm
  refine lv_aload_n hx hb dX12_works_272 rfl (lv_at hl 0 rfl) ?_
  refine mg_X12_550 C hw dX12_works_273 ?_
  refine lv_iload_n hx hb dX12_works_276 rfl (lv_at hl 1 rfl) ?_
  refine lv_iadd hx hb dX12_works_277 ?_
  refine lv_goto (tgt := 282) hx hb dX12_works_278 (by decide) ?_
  exact mw_works_282 fu C hret x1 x2 ((F 86) + x1) z0 F G hm hw (lv_sub hl [0, 1, 2] rfl)
theorem mw_works_259 (fu : Nat) {res : Int32 × PF × PG} (C : mMC p R s m args c A v RX12 cX12_works 6 3 65) (hret : ∀ (H1 : Heap) (locs1 : List Loc) (ls1 : Array Slot) (pc : Nat), mMW s A v a res.2.1 res.2.2 H1 locs1 → narrow .boolean (.int res.1) = .int res.1 → decode cX12_works pc = .ok (.ireturn, 1) → W p l e R s m args below meth c H1 locs1 0 0 Q (F0 m pc ls1 [.int res.1])) (x1 : Int32) (x2 : Int32) (z0 : Int32) (F : PF) (G : PG) (hm : mb_works_259 fu x1 x2 z0 F G = some res) {H : Heap} {locs : List Loc} (hw : mMW s A v a F G H locs) {ls : Array Slot} (hl : lv_has ls 6 [(0, .ref (a 212)), (1, .int x1), (2, .int x2)]) : W p l e R s m args below meth c H locs 0 0 Q (F0 m 259 ls [.int z0, .ref (a 71)]) := by
  have hx := C.1
  have hb := C.2.1
  unfold mb_works_259 at hm
  refine lv_aload_n hx hb dX12_works_259 rfl (lv_at hl 0 rfl) ?_
  refine mg_X12_113 C hw dX12_works_260 ?_
  refine lv_aload_n hx hb dX12_works_263 rfl (lv_at hl 0 rfl) ?_
  refine mg_X12_553 C hw dX12_works_264 ?_
  obtain ⟨hi, hm⟩ := ix_elim hm
  refine mal_59 C hw hi dX12_works_267 ?_
  refine lv_iconst (v := 1) hx hb dX12_works_268 (by decide) ?_
  refine lv_icmp_ne (tgt := 281) hx hb dX12_works_269 (by decide) (fun c_1 => ?_) (fun c_1 => ?_)
  · have hm := (if_neg c_1).symm.trans hm
    exact mw_works_281 fu C hret x1 x2 z0 F G hm hw (lv_sub hl [0, 1, 2] rfl)
  · have hm := (if_pos c_1).symm.trans hm
    exact mw_works_272 fu C hret x1 x2 z0 F G hm hw (lv_sub hl [0, 1, 2] rfl)
theorem mw_works_245 (fu : Nat) {res : Int32 × PF × PG} (C : mMC p R s m args c A v RX12 cX12_works 6 3 65) (hret : ∀ (H1 : Heap) (locs1 : List Loc) (ls1 : Array Slot) (pc : Nat), mMW s A v a res.2.1 res.2.2 H1 locs1 → narrow .boolean (.int res.1) = .int res.1 → decode cX12_works pc = .ok (.ireturn, 1) → W p l e R s m args below meth c H1 locs1 0 0 Q (F0 m pc ls1 [.int res.1])) (x1 : Int32) (x2 : Int32) (z0 : Int32) (F : PF) (G : PG) (hm : mb_works_245 fu x1 x2 z0 F G = some res) {H : Heap} {locs : List Loc} (hw : mMW s A v a F G H locs) {ls : Array Slot} (hl : lv_has ls 6 [(0, .ref (a 212)), (1, .int x1), (2, .int x2)]) : W p l e R s m args below meth c H locs 0 0 Q (F0 m 245 ls [.int z0, .ref (a 71)]) := by
  have hx := C.1
  have hb := C.2.1
  unfold mb_works_245 at hm
  refine lv_aload_n hx hb dX12_works_245 rfl (lv_at hl 0 rfl) ?_
  refine mg_X12_135 C hw dX12_works_246 ?_
  refine lv_aload_n hx hb dX12_works_249 rfl (lv_at hl 0 rfl) ?_
  refine mg_X12_550 C hw dX12_works_250 ?_
  refine lv_iload_n hx hb dX12_works_253 rfl (lv_at hl 1 rfl) ?_
  refine lv_iadd hx hb dX12_works_254 ?_
  obtain ⟨hi, hm⟩ := ix_elim hm
  refine mal_90 C hw hi dX12_works_255 ?_
  refine lv_goto (tgt := 282) hx hb dX12_works_256 (by decide) ?_
  exact mw_works_282 fu C hret x1 x2 (G 90 ((F 86) + x1).toNatClampNeg) z0 F G hm hw (lv_sub hl [0, 1, 2] rfl)
theorem mw_works_232 (fu : Nat) {res : Int32 × PF × PG} (C : mMC p R s m args c A v RX12 cX12_works 6 3 65) (hret : ∀ (H1 : Heap) (locs1 : List Loc) (ls1 : Array Slot) (pc : Nat), mMW s A v a res.2.1 res.2.2 H1 locs1 → narrow .boolean (.int res.1) = .int res.1 → decode cX12_works pc = .ok (.ireturn, 1) → W p l e R s m args below meth c H1 locs1 0 0 Q (F0 m pc ls1 [.int res.1])) (x1 : Int32) (x2 : Int32) (F : PF) (G : PG) (hm : mb_works_232 fu x1 x2 F G = some res) {H : Heap} {locs : List Loc} (hw : mMW s A v a F G H locs) {ls : Array Slot} (hl : lv_has ls 6 [(0, .ref (a 212)), (1, .int x1), (2, .int x2)]) : W p l e R s m args below meth c H locs 0 0 Q (F0 m 232 ls []) := by
  have hx := C.1
  have hb := C.2.1
  unfold mb_works_232 at hm
  refine lv_aload_n hx hb dX12_works_232 rfl (lv_at hl 0 rfl) ?_
  refine mg_X12_126 C hw dX12_works_233 ?_
  refine lv_aload_n hx hb dX12_works_236 rfl (lv_at hl 0 rfl) ?_
  refine mg_X12_497 C hw dX12_works_237 ?_
  refine lv_iload_n hx hb dX12_works_240 rfl (lv_at hl 2 rfl) ?_
  refine lv_iconst (v := (-1)) hx hb dX12_works_241 (by decide) ?_
  refine lv_icmp_ne (tgt := 259) hx hb dX12_works_242 (by decide) (fun c_1 => ?_) (fun c_1 => ?_)
  · have hm := (if_neg c_1).symm.trans hm
    exact mw_works_259 fu C hret x1 x2 (F 72) F G hm hw (lv_sub hl [0, 1, 2] rfl)
  · have hm := (if_pos c_1).symm.trans hm
    exact mw_works_245 fu C hret x1 x2 (F 72) F G hm hw (lv_sub hl [0, 1, 2] rfl)
theorem mw_works_442 (fu : Nat) {res : Int32 × PF × PG} (C : mMC p R s m args c A v RX12 cX12_works 6 3 65) (hret : ∀ (H1 : Heap) (locs1 : List Loc) (ls1 : Array Slot) (pc : Nat), mMW s A v a res.2.1 res.2.2 H1 locs1 → narrow .boolean (.int res.1) = .int res.1 → decode cX12_works pc = .ok (.ireturn, 1) → W p l e R s m args below meth c H1 locs1 0 0 Q (F0 m pc ls1 [.int res.1])) (F : PF) (G : PG) (hm : mb_works_442 fu F G = some res) {H : Heap} {locs : List Loc} (hw : mMW s A v a F G H locs) {ls : Array Slot} (hl : lv_has ls 6 []) : W p l e R s m args below meth c H locs 0 0 Q (F0 m 442 ls []) := by
  have hx := C.1
  have hb := C.2.1
  unfold mb_works_442 at hm
  refine lv_iconst (v := 0) hx hb dX12_works_442 (by decide) ?_
  obtain rfl := Option.some.inj hm
  exact hret _ _ _ _ hw (b01_nar (v := 0) (Or.inl rfl)) dX12_works_443
theorem mw_works_427 (fu : Nat) {res : Int32 × PF × PG} (C : mMC p R s m args c A v RX12 cX12_works 6 3 65) (hret : ∀ (H1 : Heap) (locs1 : List Loc) (ls1 : Array Slot) (pc : Nat), mMW s A v a res.2.1 res.2.2 H1 locs1 → narrow .boolean (.int res.1) = .int res.1 → decode cX12_works pc = .ok (.ireturn, 1) → W p l e R s m args below meth c H1 locs1 0 0 Q (F0 m pc ls1 [.int res.1])) (F : PF) (G : PG) (hm : mb_works_427 fu F G = some res) {H : Heap} {locs : List Loc} (hw : mMW s A v a F G H locs) {ls : Array Slot} (hl : lv_has ls 6 [(0, .ref (a 212))]) : W p l e R s m args below meth c H locs 0 0 Q (F0 m 427 ls []) := by
  have hx := C.1
  have hb := C.2.1
  unfold mb_works_427 at hm
  refine lv_aload_n hx hb dX12_works_427 rfl (lv_at hl 0 rfl) ?_
  refine lv_aload_n hx hb dX12_works_428 rfl (lv_at hl 0 rfl) ?_
  refine mg_X12_113 C hw dX12_works_429 ?_
  refine lv_aload_n hx hb dX12_works_432 rfl (lv_at hl 0 rfl) ?_
  refine mg_X12_553 C hw dX12_works_433 ?_
  obtain ⟨hi, hm⟩ := ix_elim hm
  refine mal_59 C hw hi dX12_works_436 ?_
  refine lv_iconst (v := 1) hx hb dX12_works_437 (by decide) ?_
  refine lv_ishr hx hb dX12_works_438 ?_
  refine mp_X12_541 C hw dX12_works_439 (fun H locs hw => ?_)
  exact mw_works_442 fu C hret (fup F 82 ((G 59 (F 76).toNatClampNeg) >>> ((1 : Int32) &&& 31))) G hm hw (lv_sub hl [] rfl)
theorem mw_works_422 (fu : Nat) {res : Int32 × PF × PG} (C : mMC p R s m args c A v RX12 cX12_works 6 3 65) (hret : ∀ (H1 : Heap) (locs1 : List Loc) (ls1 : Array Slot) (pc : Nat), mMW s A v a res.2.1 res.2.2 H1 locs1 → narrow .boolean (.int res.1) = .int res.1 → decode cX12_works pc = .ok (.ireturn, 1) → W p l e R s m args below meth c H1 locs1 0 0 Q (F0 m pc ls1 [.int res.1])) (F : PF) (G : PG) (hm : mb_works_422 fu F G = some res) {H : Heap} {locs : List Loc} (hw : mMW s A v a F G H locs) {ls : Array Slot} (hl : lv_has ls 6 [(0, .ref (a 212))]) : W p l e R s m args below meth c H locs 0 0 Q (F0 m 422 ls []) := by
  have hx := C.1
  have hb := C.2.1
  unfold mb_works_422 at hm
  refine lv_aload_n hx hb dX12_works_422 rfl (lv_at hl 0 rfl) ?_
  refine lv_iconst (v := 5) hx hb dX12_works_423 (by decide) ?_
  refine mp_X12_512 C hw dX12_works_424 (fun H locs hw => ?_)
  exact mw_works_427 fu C hret (fup F 75 (5 : Int32)) G hm hw (lv_sub hl [0] rfl)
theorem mw_works_460 (fu : Nat) {res : Int32 × PF × PG} (C : mMC p R s m args c A v RX12 cX12_works 6 3 65) (hret : ∀ (H1 : Heap) (locs1 : List Loc) (ls1 : Array Slot) (pc : Nat), mMW s A v a res.2.1 res.2.2 H1 locs1 → narrow .boolean (.int res.1) = .int res.1 → decode cX12_works pc = .ok (.ireturn, 1) → W p l e R s m args below meth c H1 locs1 0 0 Q (F0 m pc ls1 [.int res.1])) (F : PF) (G : PG) (hm : mb_works_460 fu F G = some res) {H : Heap} {locs : List Loc} (hw : mMW s A v a F G H locs) {ls : Array Slot} (hl : lv_has ls 6 [(0, .ref (a 212))]) : W p l e R s m args below meth c H locs 0 0 Q (F0 m 460 ls []) := by
  have hx := C.1
  have hb := C.2.1
  unfold mb_works_460 at hm
  refine lv_goto (tgt := 880) hx hb dX12_works_460 (by decide) ?_
  exact mw_works_880 fu C hret F G hm hw (lv_sub hl [0] rfl)
theorem mw_works_444 (fu : Nat) {res : Int32 × PF × PG} (C : mMC p R s m args c A v RX12 cX12_works 6 3 65) (hret : ∀ (H1 : Heap) (locs1 : List Loc) (ls1 : Array Slot) (pc : Nat), mMW s A v a res.2.1 res.2.2 H1 locs1 → narrow .boolean (.int res.1) = .int res.1 → decode cX12_works pc = .ok (.ireturn, 1) → W p l e R s m args below meth c H1 locs1 0 0 Q (F0 m pc ls1 [.int res.1])) (x4 : Int32) (x5 : Int32) (F : PF) (G : PG) (hm : mb_works_444 fu x4 x5 F G = some res) {H : Heap} {locs : List Loc} (hw : mMW s A v a F G H locs) {ls : Array Slot} (hl : lv_has ls 6 [(0, .ref (a 212)), (4, .int x4), (5, .int x5)]) : W p l e R s m args below meth c H locs 0 0 Q (F0 m 444 ls []) := by
  have hx := C.1
  have hb := C.2.1
  unfold mb_works_444 at hm
  refine lv_aload_n hx hb dX12_works_444 rfl (lv_at hl 0 rfl) ?_
  refine mg_X12_126 C hw dX12_works_445 ?_
  refine lv_aload_n hx hb dX12_works_448 rfl (lv_at hl 0 rfl) ?_
  refine mg_X12_497 C hw dX12_works_449 ?_
  refine lv_iconst (v := 1) hx hb dX12_works_452 (by decide) ?_
  refine lv_isub hx hb dX12_works_453 ?_
  refine lv_iload hx hb dX12_works_454 (lv_at hl 1 rfl) ?_
  refine lv_iload hx hb dX12_works_456 (lv_at hl 2 rfl) ?_
  refine lv_iadd hx hb dX12_works_458 ?_
  obtain ⟨hi, hm⟩ := ix_elim hm
  refine mas_71 C hw hi dX12_works_459 (fun H locs hw => ?_)
  exact mw_works_460 fu C hret F (gup G 71 ((F 72) - (1 : Int32)).toNatClampNeg (x4 + x5)) hm hw (lv_sub hl [0] rfl)
theorem mw_works_416 (fu : Nat) {res : Int32 × PF × PG} (C : mMC p R s m args c A v RX12 cX12_works 6 3 65) (hret : ∀ (H1 : Heap) (locs1 : List Loc) (ls1 : Array Slot) (pc : Nat), mMW s A v a res.2.1 res.2.2 H1 locs1 → narrow .boolean (.int res.1) = .int res.1 → decode cX12_works pc = .ok (.ireturn, 1) → W p l e R s m args below meth c H1 locs1 0 0 Q (F0 m pc ls1 [.int res.1])) (x3 : Int32) (x4 : Int32) (x5 : Int32) (F : PF) (G : PG) (hm : mb_works_416 fu x3 x4 x5 F G = some res) {H : Heap} {locs : List Loc} (hw : mMW s A v a F G H locs) {ls : Array Slot} (hl : lv_has ls 6 [(0, .ref (a 212)), (3, .int x3), (4, .int x4), (5, .int x5)]) : W p l e R s m args below meth c H locs 0 0 Q (F0 m 416 ls []) := by
  have hx := C.1
  have hb := C.2.1
  unfold mb_works_416 at hm
  refine lv_iload hx hb dX12_works_416 (lv_at hl 3 rfl) ?_
  refine lv_iload_n hx hb dX12_works_418 rfl (lv_at hl 1 rfl) ?_
  refine lv_icmp_lt (tgt := 444) hx hb dX12_works_419 (by decide) (fun c_1 => ?_) (fun c_1 => ?_)
  · have hm := (if_pos c_1).symm.trans hm
    exact mw_works_444 fu C hret x4 x5 F G hm hw (lv_sub hl [0, 2, 3] rfl)
  · have hm := (if_neg c_1).symm.trans hm
    exact mw_works_422 fu C hret F G hm hw (lv_sub hl [0] rfl)
theorem mw_works_396 (fu : Nat) {res : Int32 × PF × PG} (C : mMC p R s m args c A v RX12 cX12_works 6 3 65) (hret : ∀ (H1 : Heap) (locs1 : List Loc) (ls1 : Array Slot) (pc : Nat), mMW s A v a res.2.1 res.2.2 H1 locs1 → narrow .boolean (.int res.1) = .int res.1 → decode cX12_works pc = .ok (.ireturn, 1) → W p l e R s m args below meth c H1 locs1 0 0 Q (F0 m pc ls1 [.int res.1])) (x3 : Int32) (z0 : Int32) (F : PF) (G : PG) (hm : mb_works_396 fu x3 z0 F G = some res) {H : Heap} {locs : List Loc} (hw : mMW s A v a F G H locs) {ls : Array Slot} (hl : lv_has ls 6 [(0, .ref (a 212)), (3, .int x3)]) : W p l e R s m args below meth c H locs 0 0 Q (F0 m 396 ls [.int z0]) := by
  have hx := C.1
  have hb := C.2.1
  unfold mb_works_396 at hm
  refine lv_istore (lv' := [(4, .int z0), (0, .ref (a 212)), (3, .int x3)]) hx hb dX12_works_396 hl (by decide) rfl (fun ls hl => ?_)
  refine lv_aload_n hx hb dX12_works_398 rfl (lv_at hl 1 rfl) ?_
  refine mg_X12_126 C hw dX12_works_399 ?_
  refine lv_aload_n hx hb dX12_works_402 rfl (lv_at hl 1 rfl) ?_
  refine mg_X12_497 C hw dX12_works_403 ?_
  refine lv_iconst (v := 1) hx hb dX12_works_406 (by decide) ?_
  refine lv_isub hx hb dX12_works_407 ?_
  obtain ⟨hi, hm⟩ := ix_elim hm
  refine mal_71 C hw hi dX12_works_408 ?_
  refine lv_istore (lv' := [(5, .int (G 71 ((F 72) - (1 : Int32)).toNatClampNeg)), (4, .int z0), (0, .ref (a 212)), (3, .int x3)]) hx hb dX12_works_409 hl (by decide) rfl (fun ls hl => ?_)
  refine lv_iload hx hb dX12_works_411 (lv_at hl 0 rfl) ?_
  refine lv_if_lt (tgt := 422) hx hb dX12_works_413 (by decide) (fun c_1 => ?_) (fun c_1 => ?_)
  · have hm := (if_pos c_1).symm.trans hm
    exact mw_works_422 fu C hret F G hm hw (lv_sub hl [2] rfl)
  · have hm := (if_neg c_1).symm.trans hm
    exact mw_works_416 fu C hret x3 z0 (G 71 ((F 72) - (1 : Int32)).toNatClampNeg) F G hm hw (lv_sub hl [2, 3, 1, 0] rfl)
theorem mw_works_395 (fu : Nat) {res : Int32 × PF × PG} (C : mMC p R s m args c A v RX12 cX12_works 6 3 65) (hret : ∀ (H1 : Heap) (locs1 : List Loc) (ls1 : Array Slot) (pc : Nat), mMW s A v a res.2.1 res.2.2 H1 locs1 → narrow .boolean (.int res.1) = .int res.1 → decode cX12_works pc = .ok (.ireturn, 1) → W p l e R s m args below meth c H1 locs1 0 0 Q (F0 m pc ls1 [.int res.1])) (x1 : Int32) (x3 : Int32) (F : PF) (G : PG) (hm : mb_works_395 fu x1 x3 F G = some res) {H : Heap} {locs : List Loc} (hw : mMW s A v a F G H locs) {ls : Array Slot} (hl : lv_has ls 6 [(0, .ref (a 212)), (1, .int x1), (3, .int x3)]) : W p l e R s m args below meth c H locs 0 0 Q (F0 m 395 ls []) := by
  have hx := C.1
  have hb := C.2.1
  unfold mb_works_395 at hm
  refine lv_iload_n hx hb dX12_works_395 rfl (lv_at hl 1 rfl) ?_
  exact mw_works_396 fu C hret x3 x1 F G hm hw (lv_sub hl [0, 2] rfl)
theorem mw_works_386 (fu : Nat) {res : Int32 × PF × PG} (C : mMC p R s m args c A v RX12 cX12_works 6 3 65) (hret : ∀ (H1 : Heap) (locs1 : List Loc) (ls1 : Array Slot) (pc : Nat), mMW s A v a res.2.1 res.2.2 H1 locs1 → narrow .boolean (.int res.1) = .int res.1 → decode cX12_works pc = .ok (.ireturn, 1) → W p l e R s m args below meth c H1 locs1 0 0 Q (F0 m pc ls1 [.int res.1])) (x1 : Int32) (x3 : Int32) (F : PF) (G : PG) (hm : mb_works_386 fu x1 x3 F G = some res) {H : Heap} {locs : List Loc} (hw : mMW s A v a F G H locs) {ls : Array Slot} (hl : lv_has ls 6 [(0, .ref (a 212)), (1, .int x1), (3, .int x3)]) : W p l e R s m args below meth c H locs 0 0 Q (F0 m 386 ls []) := by
  have hx := C.1
  have hb := C.2.1
  unfold mb_works_386 at hm
  refine lv_aload_n hx hb dX12_works_386 rfl (lv_at hl 0 rfl) ?_
  refine mg_X12_550 C hw dX12_works_387 ?_
  refine lv_iload_n hx hb dX12_works_390 rfl (lv_at hl 1 rfl) ?_
  refine lv_iadd hx hb dX12_works_391 ?_
  refine lv_goto (tgt := 396) hx hb dX12_works_392 (by decide) ?_
  exact mw_works_396 fu C hret x3 ((F 86) + x1) F G hm hw (lv_sub hl [0, 2] rfl)
theorem mw_works_371 (fu : Nat) {res : Int32 × PF × PG} (C : mMC p R s m args c A v RX12 cX12_works 6 3 65) (hret : ∀ (H1 : Heap) (locs1 : List Loc) (ls1 : Array Slot) (pc : Nat), mMW s A v a res.2.1 res.2.2 H1 locs1 → narrow .boolean (.int res.1) = .int res.1 → decode cX12_works pc = .ok (.ireturn, 1) → W p l e R s m args below meth c H1 locs1 0 0 Q (F0 m pc ls1 [.int res.1])) (x1 : Int32) (x3 : Int32) (F : PF) (G : PG) (hm : mb_works_371 fu x1 x3 F G = some res) {H : Heap} {locs : List Loc} (hw : mMW s A v a F G H locs) {ls : Array Slot} (hl : lv_has ls 6 [(0, .ref (a 212)), (1, .int x1), (3, .int x3)]) : W p l e R s m args below meth c H locs 0 0 Q (F0 m 371 ls []) := by
  have hx := C.1
  have hb := C.2.1
  unfold mb_works_371 at hm
  refine lv_aload_n hx hb dX12_works_371 rfl (lv_at hl 0 rfl) ?_
  refine mg_X12_113 C hw dX12_works_372 ?_
  refine lv_aload_n hx hb dX12_works_375 rfl (lv_at hl 0 rfl) ?_
  refine mg_X12_553 C hw dX12_works_376 ?_
  obtain ⟨hi, hm⟩ := ix_elim hm
  refine mal_59 C hw hi dX12_works_379 ?_
  refine lv_iconst (v := 1) hx hb dX12_works_380 (by decide) ?_
  refine lv_iand hx hb dX12_works_381 ?_
  refine lv_iconst (v := 1) hx hb dX12_works_382 (by decide) ?_
  refine lv_icmp_ne (tgt := 395) hx hb dX12_works_383 (by decide) (fun c_1 => ?_) (fun c_1 => ?_)
  · have hm := (if_neg c_1).symm.trans hm
    exact mw_works_395 fu C hret x1 x3 F G hm hw (lv_sub hl [0, 1, 2] rfl)
  · have hm := (if_pos c_1).symm.trans hm
    exact mw_works_386 fu C hret x1 x3 F G hm hw (lv_sub hl [0, 1, 2] rfl)
theorem mw_works_357 (fu : Nat) {res : Int32 × PF × PG} (C : mMC p R s m args c A v RX12 cX12_works 6 3 65) (hret : ∀ (H1 : Heap) (locs1 : List Loc) (ls1 : Array Slot) (pc : Nat), mMW s A v a res.2.1 res.2.2 H1 locs1 → narrow .boolean (.int res.1) = .int res.1 → decode cX12_works pc = .ok (.ireturn, 1) → W p l e R s m args below meth c H1 locs1 0 0 Q (F0 m pc ls1 [.int res.1])) (x1 : Int32) (x3 : Int32) (F : PF) (G : PG) (hm : mb_works_357 fu x1 x3 F G = some res) {H : Heap} {locs : List Loc} (hw : mMW s A v a F G H locs) {ls : Array Slot} (hl : lv_has ls 6 [(0, .ref (a 212)), (1, .int x1), (3, .int x3)]) : W p l e R s m args below meth c H locs 0 0 Q (F0 m 357 ls []) := by
  have hx := C.1
  have hb := C.2.1
  unfold mb_works_357 at hm
  refine lv_aload_n hx hb dX12_works_357 rfl (lv_at hl 0 rfl) ?_
  refine mg_X12_135 C hw dX12_works_358 ?_
  refine lv_aload_n hx hb dX12_works_361 rfl (lv_at hl 0 rfl) ?_
  refine mg_X12_550 C hw dX12_works_362 ?_
  refine lv_iload_n hx hb dX12_works_365 rfl (lv_at hl 1 rfl) ?_
  refine lv_iadd hx hb dX12_works_366 ?_
  obtain ⟨hi, hm⟩ := ix_elim hm
  refine mal_90 C hw hi dX12_works_367 ?_
  refine lv_goto (tgt := 396) hx hb dX12_works_368 (by decide) ?_
  exact mw_works_396 fu C hret x3 (G 90 ((F 86) + x1).toNatClampNeg) F G hm hw (lv_sub hl [0, 2] rfl)
theorem mw_works_351 (fu : Nat) {res : Int32 × PF × PG} (C : mMC p R s m args c A v RX12 cX12_works 6 3 65) (hret : ∀ (H1 : Heap) (locs1 : List Loc) (ls1 : Array Slot) (pc : Nat), mMW s A v a res.2.1 res.2.2 H1 locs1 → narrow .boolean (.int res.1) = .int res.1 → decode cX12_works pc = .ok (.ireturn, 1) → W p l e R s m args below meth c H1 locs1 0 0 Q (F0 m pc ls1 [.int res.1])) (x1 : Int32) (x2 : Int32) (z0 : Int32) (F : PF) (G : PG) (hm : mb_works_351 fu x1 x2 z0 F G = some res) {H : Heap} {locs : List Loc} (hw : mMW s A v a F G H locs) {ls : Array Slot} (hl : lv_has ls 6 [(0, .ref (a 212)), (1, .int x1), (2, .int x2)]) : W p l e R s m args below meth c H locs 0 0 Q (F0 m 351 ls [.int z0]) := by
  have hx := C.1
  have hb := C.2.1
  unfold mb_works_351 at hm
  refine lv_istore_n (lv' := [(3, .int z0), (0, .ref (a 212)), (1, .int x1), (2, .int x2)]) hx hb dX12_works_351 rfl hl (by decide) rfl (fun ls hl => ?_)
  refine lv_iload_n hx hb dX12_works_352 rfl (lv_at hl 3 rfl) ?_
  refine lv_iconst (v := (-1)) hx hb dX12_works_353 (by decide) ?_
  refine lv_icmp_ne (tgt := 371) hx hb dX12_works_354 (by decide) (fun c_1 => ?_) (fun c_1 => ?_)
  · have hm := (if_neg c_1).symm.trans hm
    exact mw_works_371 fu C hret x1 z0 F G hm hw (lv_sub hl [1, 2, 0] rfl)
  · have hm := (if_pos c_1).symm.trans hm
    exact mw_works_357 fu C hret x1 z0 F G hm hw (lv_sub hl [1, 2, 0] rfl)
theorem mw_works_350 (fu : Nat) {res : Int32 × PF × PG} (C : mMC p R s m args c A v RX12 cX12_works 6 3 65) (hret : ∀ (H1 : Heap) (locs1 : List Loc) (ls1 : Array Slot) (pc : Nat), mMW s A v a res.2.1 res.2.2 H1 locs1 → narrow .boolean (.int res.1) = .int res.1 → decode cX12_works pc = .ok (.ireturn, 1) → W p l e R s m args below meth c H1 locs1 0 0 Q (F0 m pc ls1 [.int res.1])) (x1 : Int32) (x2 : Int32) (F : PF) (G : PG) (hm : mb_works_350 fu x1 x2 F G = some res) {H : Heap} {locs : List Loc} (hw : mMW s A v a F G H locs) {ls : Array Slot} (hl : lv_has ls 6 [(0, .ref (a 212)), (1, .int x1), (2, .int x2)]) : W p l e R s m args below meth c H locs 0 0 Q (F0 m 350 ls []) := by
  have hx := C.1
  have hb := C.2.1
  unfold mb_works_350 at hm
  refine lv_iload_n hx hb dX12_works_350 rfl (lv_at hl 2 rfl) ?_
  exact mw_works_351 fu C hret x1 x2 x2 F G hm hw (lv_sub hl [0, 1, 2] rfl)
theorem mw_works_334 (fu : Nat) {res : Int32 × PF × PG} (C : mMC p R s m args c A v RX12 cX12_works 6 3 65) (hret : ∀ (H1 : Heap) (locs1 : List Loc) (ls1 : Array Slot) (pc : Nat), mMW s A v a res.2.1 res.2.2 H1 locs1 → narrow .boolean (.int res.1) = .int res.1 → decode cX12_works pc = .ok (.ireturn, 1) → W p l e R s m args below meth c H1 locs1 0 0 Q (F0 m pc ls1 [.int res.1])) (x1 : Int32) (x2 : Int32) (F : PF) (G : PG) (hm : mb_works_334 fu x1 x2 F G = some res) {H : Heap} {locs : List Loc} (hw : mMW s A v a F G H locs) {ls : Array Slot} (hl : lv_has ls 6 [(0, .ref (a 212)), (1, .int x1), (2, .int x2)]) : W p l e R s m args below meth c H locs 0 0 Q (F0 m 334 ls []) := by
  have hx := C.1
  have hb := C.2.1
  unfold mb_works_334 at hm
  refine lv_aload_n hx hb dX12_works_334 rfl (lv_at hl 0 rfl) ?_
  refine mg_X12_135 C hw dX12_works_335 ?_
  refine lv_aload_n hx hb dX12_works_338 rfl (lv_at hl 0 rfl) ?_
  refine mg_X12_550 C hw dX12_works_339 ?_
  refine lv_iload_n hx hb dX12_works_342 rfl (lv_at hl 1 rfl) ?_
  refine lv_iadd hx hb dX12_works_343 ?_
  refine lv_iconst (v := 1) hx hb dX12_works_344 (by decide) ?_
  refine lv_iadd hx hb dX12_works_345 ?_
  obtain ⟨hi, hm⟩ := ix_elim hm
  refine mal_90 C hw hi dX12_works_346 ?_
  refine lv_goto (tgt := 351) hx hb dX12_works_347 (by decide) ?_
  exact mw_works_351 fu C hret x1 x2 (G 90 (((F 86) + x1) + (1 : Int32)).toNatClampNeg) F G hm hw (lv_sub hl [0, 1, 2] rfl)
theorem mw_works_329 (fu : Nat) {res : Int32 × PF × PG} (C : mMC p R s m args c A v RX12 cX12_works 6 3 65) (hret : ∀ (H1 : Heap) (locs1 : List Loc) (ls1 : Array Slot) (pc : Nat), mMW s A v a res.2.1 res.2.2 H1 locs1 → narrow .boolean (.int res.1) = .int res.1 → decode cX12_works pc = .ok (.ireturn, 1) → W p l e R s m args below meth c H1 locs1 0 0 Q (F0 m pc ls1 [.int res.1])) (x1 : Int32) (x2 : Int32) (F : PF) (G : PG) (hm : mb_works_329 fu x1 x2 F G = some res) {H : Heap} {locs : List Loc} (hw : mMW s A v a F G H locs) {ls : Array Slot} (hl : lv_has ls 6 [(0, .ref (a 212)), (1, .int x1), (2, .int x2)]) : W p l e R s m args below meth c H locs 0 0 Q (F0 m 329 ls []) := by
  have hx := C.1
  have hb := C.2.1
  unfold mb_works_329 at hm
  refine lv_iload_n hx hb dX12_works_329 rfl (lv_at hl 2 rfl) ?_
  refine lv_iconst (v := (-1)) hx hb dX12_works_330 (by decide) ?_
  refine lv_icmp_ne (tgt := 350) hx hb dX12_works_331 (by decide) (fun c_1 => ?_) (fun c_1 => ?_)
  · have hm := (if_neg c_1).symm.trans hm
    exact mw_works_350 fu C hret x1 x2 F G hm hw (lv_sub hl [0, 1, 2] rfl)
  · have hm := (if_pos c_1).symm.trans hm
    exact mw_works_334 fu C hret x1 x2 F G hm hw (lv_sub hl [0, 1, 2] rfl)
theorem mw_works_490 (fu : Nat) {res : Int32 × PF × PG} (C : mMC p R s m args c A v RX12 cX12_works 6 3 65) (hret : ∀ (H1 : Heap) (locs1 : List Loc) (ls1 : Array Slot) (pc : Nat), mMW s A v a res.2.1 res.2.2 H1 locs1 → narrow .boolean (.int res.1) = .int res.1 → decode cX12_works pc = .ok (.ireturn, 1) → W p l e R s m args below meth c H1 locs1 0 0 Q (F0 m pc ls1 [.int res.1])) (F : PF) (G : PG) (hm : mb_works_490 fu F G = some res) {H : Heap} {locs : List Loc} (hw : mMW s A v a F G H locs) {ls : Array Slot} (hl : lv_has ls 6 [(0, .ref (a 212))]) : W p l e R s m args below meth c H locs 0 0 Q (F0 m 490 ls []) := by
  have hx := C.1
  have hb := C.2.1
  unfold mb_works_490 at hm
  refine lv_goto (tgt := 880) hx hb dX12_works_490 (by decide) ?_
  exact mw_works_880 fu C hret F G hm hw (lv_sub hl [0] rfl)
theorem mw_works_463 (fu : Nat) {res : Int32 × PF × PG} (C : mMC p R s m args c A v RX12 cX12_works 6 3 65) (hret : ∀ (H1 : Heap) (locs1 : List Loc) (ls1 : Array Slot) (pc : Nat), mMW s A v a res.2.1 res.2.2 H1 locs1 → narrow .boolean (.int res.1) = .int res.1 → decode cX12_works pc = .ok (.ireturn, 1) → W p l e R s m args below meth c H1 locs1 0 0 Q (F0 m pc ls1 [.int res.1])) (F : PF) (G : PG) (hm : mb_works_463 fu F G = some res) {H : Heap} {locs : List Loc} (hw : mMW s A v a F G H locs) {ls : Array Slot} (hl : lv_has ls 6 [(0, .ref (a 212))]) : W p l e R s m args below meth c H locs 0 0 Q (F0 m 463 ls []) := by
  have hx := C.1
  have hb := C.2.1
  unfold mb_works_463 at hm
  refine lv_aload_n hx hb dX12_works_463 rfl (lv_at hl 0 rfl) ?_
  refine mg_X12_126 C hw dX12_works_464 ?_
  refine lv_aload_n hx hb dX12_works_467 rfl (lv_at hl 0 rfl) ?_
  refine mg_X12_497 C hw dX12_works_468 ?_
  refine lv_iconst (v := 1) hx hb dX12_works_471 (by decide) ?_
  refine lv_isub hx hb dX12_works_472 ?_
  refine lv_aload_n hx hb dX12_works_473 rfl (lv_at hl 0 rfl) ?_
  refine mg_X12_135 C hw dX12_works_474 ?_
  refine lv_aload_n hx hb dX12_works_477 rfl (lv_at hl 0 rfl) ?_
  refine mg_X12_126 C hw dX12_works_478 ?_
  refine lv_aload_n hx hb dX12_works_481 rfl (lv_at hl 0 rfl) ?_
  refine mg_X12_497 C hw dX12_works_482 ?_
  refine lv_iconst (v := 1) hx hb dX12_works_485 (by decide) ?_
  refine lv_isub hx hb dX12_works_486 ?_
  obtain ⟨hi, hm⟩ := ix_elim hm
  refine mal_71 C hw hi dX12_works_487 ?_
  obtain ⟨hi, hm⟩ := ix_elim hm
  refine mal_90 C hw hi dX12_works_488 ?_
  obtain ⟨hi, hm⟩ := ix_elim hm
  refine mas_71 C hw hi dX12_works_489 (fun H locs hw => ?_)
  exact mw_works_490 fu C hret F (gup G 71 ((F 72) - (1 : Int32)).toNatClampNeg (G 90 (G 71 ((F 72) - (1 : Int32)).toNatClampNeg).toNatClampNeg)) hm hw (lv_sub hl [0] rfl)
theorem mw_works_551 (fu : Nat) {res : Int32 × PF × PG} (C : mMC p R s m args c A v RX12 cX12_works 6 3 65) (hret : ∀ (H1 : Heap) (locs1 : List Loc) (ls1 : Array Slot) (pc : Nat), mMW s A v a res.2.1 res.2.2 H1 locs1 → narrow .boolean (.int res.1) = .int res.1 → decode cX12_works pc = .ok (.ireturn, 1) → W p l e R s m args below meth c H1 locs1 0 0 Q (F0 m pc ls1 [.int res.1])) (F : PF) (G : PG) (hm : mb_works_551 fu F G = some res) {H : Heap} {locs : List Loc} (hw : mMW s A v a F G H locs) {ls : Array Slot} (hl : lv_has ls 6 [(0, .ref (a 212))]) : W p l e R s m args below meth c H locs 0 0 Q (F0 m 551 ls []) := by
  have hx := C.1
  have hb := C.2.1
  unfold mb_works_551 at hm
  refine lv_goto (tgt := 880) hx hb dX12_works_551 (by decide) ?_
  exact mw_works_880 fu C hret F G hm hw (lv_sub hl [0] rfl)
theorem mw_works_550 (fu : Nat) {res : Int32 × PF × PG} (C : mMC p R s m args c A v RX12 cX12_works 6 3 65) (hret : ∀ (H1 : Heap) (locs1 : List Loc) (ls1 : Array Slot) (pc : Nat), mMW s A v a res.2.1 res.2.2 H1 locs1 → narrow .boolean (.int res.1) = .int res.1 → decode cX12_works pc = .ok (.ireturn, 1) → W p l e R s m args below meth c H1 locs1 0 0 Q (F0 m pc ls1 [.int res.1])) (z0 : Int32) (z1 : Int32) (F : PF) (G : PG) (hm : mb_works_550 fu z0 z1 F G = some res) {H : Heap} {locs : List Loc} (hw : mMW s A v a F G H locs) {ls : Array Slot} (hl : lv_has ls 6 [(0, .ref (a 212))]) : W p l e R s m args below meth c H locs 0 0 Q (F0 m 550 ls [.int z0, .int z1, .ref (a 90)]) := by
  have hx := C.1
  have hb := C.2.1
  unfold mb_works_550 at hm
  obtain ⟨hi, hm⟩ := ix_elim hm
  refine mas_90 C hw hi dX12_works_550 (fun H locs hw => ?_)
  exact mw_works_551 fu C hret F (gup G 90 z1.toNatClampNeg z0) hm hw (lv_sub hl [0] rfl)
theorem mw_works_539 (fu : Nat) {res : Int32 × PF × PG} (C : mMC p R s m args c A v RX12 cX12_works 6 3 65) (hret : ∀ (H1 : Heap) (locs1 : List Loc) (ls1 : Array Slot) (pc : Nat), mMW s A v a res.2.1 res.2.2 H1 locs1 → narrow .boolean (.int res.1) = .int res.1 → decode cX12_works pc = .ok (.ireturn, 1) → W p l e R s m args below meth c H1 locs1 0 0 Q (F0 m pc ls1 [.int res.1])) (z0 : Int32) (F : PF) (G : PG) (hm : mb_works_539 fu z0 F G = some res) {H : Heap} {locs : List Loc} (hw : mMW s A v a F G H locs) {ls : Array Slot} (hl : lv_has ls 6 [(0, .ref (a 212))]) : W p l e R s m args below meth c H locs 0 0 Q (F0 m 539 ls [.int z0, .ref (a 90)]) := by
  have hx := C.1
  have hb := C.2.1
  unfold mb_works_539 at hm
  refine lv_aload_n hx hb dX12_works_539 rfl (lv_at hl 0 rfl) ?_
  refine mg_X12_126 C hw dX12_works_540 ?_
  refine lv_aload_n hx hb dX12_works_543 rfl (lv_at hl 0 rfl) ?_
  refine mg_X12_497 C hw dX12_works_544 ?_
  refine lv_iconst (v := 1) hx hb dX12_works_547 (by decide) ?_
  refine lv_iadd hx hb dX12_works_548 ?_
  obtain ⟨hi, hm⟩ := ix_elim hm
  refine mal_71 C hw hi dX12_works_549 ?_
  exact mw_works_550 fu C hret (G 71 ((F 72) + (1 : Int32)).toNatClampNeg) z0 F G hm hw (lv_sub hl [0] rfl)
theorem mw_works_521 (fu : Nat) {res : Int32 × PF × PG} (C : mMC p R s m args c A v RX12 cX12_works 6 3 65) (hret : ∀ (H1 : Heap) (locs1 : List Loc) (ls1 : Array Slot) (pc : Nat), mMW s A v a res.2.1 res.2.2 H1 locs1 → narrow .boolean (.int res.1) = .int res.1 → decode cX12_works pc = .ok (.ireturn, 1) → W p l e R s m args below meth c H1 locs1 0 0 Q (F0 m pc ls1 [.int res.1])) (z0 : Int32) (F : PF) (G : PG) (hm : mb_works_521 fu z0 F G = some res) {H : Heap} {locs : List Loc} (hw : mMW s A v a F G H locs) {ls : Array Slot} (hl : lv_has ls 6 [(0, .ref (a 212))]) : W p l e R s m args below meth c H locs 0 0 Q (F0 m 521 ls [.int z0, .ref (a 90)]) := by
  have hx := C.1
  have hb := C.2.1
  unfold mb_works_521 at hm
  refine lv_aload_n hx hb dX12_works_521 rfl (lv_at hl 0 rfl) ?_
  refine mg_X12_126 C hw dX12_works_522 ?_
  refine lv_aload_n hx hb dX12_works_525 rfl (lv_at hl 0 rfl) ?_
  refine mg_X12_497 C hw dX12_works_526 ?_
  refine lv_iconst (v := 1) hx hb dX12_works_529 (by decide) ?_
  refine lv_iadd hx hb dX12_works_530 ?_
  obtain ⟨hi, hm⟩ := ix_elim hm
  refine mal_71 C hw hi dX12_works_531 ?_
  refine lv_sipush (v := 255) hx hb dX12_works_532 (by decide) ?_
  refine lv_iand hx hb dX12_works_535 ?_
  refine lv_goto (tgt := 550) hx hb dX12_works_536 (by decide) ?_
  exact mw_works_550 fu C hret ((G 71 ((F 72) + (1 : Int32)).toNatClampNeg) &&& (255 : Int32)) z0 F G hm hw (lv_sub hl [0] rfl)
theorem mw_works_503 (fu : Nat) {res : Int32 × PF × PG} (C : mMC p R s m args c A v RX12 cX12_works 6 3 65) (hret : ∀ (H1 : Heap) (locs1 : List Loc) (ls1 : Array Slot) (pc : Nat), mMW s A v a res.2.1 res.2.2 H1 locs1 → narrow .boolean (.int res.1) = .int res.1 → decode cX12_works pc = .ok (.ireturn, 1) → W p l e R s m args below meth c H1 locs1 0 0 Q (F0 m pc ls1 [.int res.1])) (x1 : Int32) (F : PF) (G : PG) (hm : mb_works_503 fu x1 F G = some res) {H : Heap} {locs : List Loc} (hw : mMW s A v a F G H locs) {ls : Array Slot} (hl : lv_has ls 6 [(0, .ref (a 212)), (1, .int x1)]) : W p l e R s m args below meth c H locs 0 0 Q (F0 m 503 ls []) := by
  have hx := C.1
  have hb := C.2.1
  unfold mb_works_503 at hm
  refine lv_aload_n hx hb dX12_works_503 rfl (lv_at hl 0 rfl) ?_
  refine mg_X12_135 C hw dX12_works_504 ?_
  refine lv_aload_n hx hb dX12_works_507 rfl (lv_at hl 0 rfl) ?_
  refine mg_X12_126 C hw dX12_works_508 ?_
  refine lv_aload_n hx hb dX12_works_511 rfl (lv_at hl 0 rfl) ?_
  refine mg_X12_497 C hw dX12_works_512 ?_
  obtain ⟨hi, hm⟩ := ix_elim hm
  refine mal_71 C hw hi dX12_works_515 ?_
  refine lv_iload_n hx hb dX12_works_516 rfl (lv_at hl 1 rfl) ?_
  refine lv_iconst (v := 1) hx hb dX12_works_517 (by decide) ?_
  refine lv_icmp_ne (tgt := 539) hx hb dX12_works_518 (by decide) (fun c_1 => ?_) (fun c_1 => ?_)
  · have hm := (if_neg c_1).symm.trans hm
    exact mw_works_539 fu C hret (G 71 (F 72).toNatClampNeg) F G hm hw (lv_sub hl [0] rfl)
  · have hm := (if_pos c_1).symm.trans hm
    exact mw_works_521 fu C hret (G 71 (F 72).toNatClampNeg) F G hm hw (lv_sub hl [0] rfl)
theorem mw_works_493 (fu : Nat) {res : Int32 × PF × PG} (C : mMC p R s m args c A v RX12 cX12_works 6 3 65) (hret : ∀ (H1 : Heap) (locs1 : List Loc) (ls1 : Array Slot) (pc : Nat), mMW s A v a res.2.1 res.2.2 H1 locs1 → narrow .boolean (.int res.1) = .int res.1 → decode cX12_works pc = .ok (.ireturn, 1) → W p l e R s m args below meth c H1 locs1 0 0 Q (F0 m pc ls1 [.int res.1])) (x1 : Int32) (F : PF) (G : PG) (hm : mb_works_493 fu x1 F G = some res) {H : Heap} {locs : List Loc} (hw : mMW s A v a F G H locs) {ls : Array Slot} (hl : lv_has ls 6 [(0, .ref (a 212)), (1, .int x1)]) : W p l e R s m args below meth c H locs 0 0 Q (F0 m 493 ls []) := by
  have hx := C.1
  have hb := C.2.1
  unfold mb_works_493 at hm
  refine lv_aload_n hx hb dX12_works_493 rfl (lv_at hl 0 rfl) ?_
  refine lv_dup hx hb dX12_works_494 rfl ?_
  refine mg_X12_497 C hw dX12_works_495 ?_
  refine lv_iconst (v := 2) hx hb dX12_works_498 (by decide) ?_
  refine lv_isub hx hb dX12_works_499 ?_
  refine mp_X12_497 C hw dX12_works_500 (fun H locs hw => ?_)
  exact mw_works_503 fu C hret x1 (fup F 72 ((F 72) - (2 : Int32))) G hm hw (lv_sub hl [0, 1] rfl)
theorem mw_works_584 (fu : Nat) {res : Int32 × PF × PG} (C : mMC p R s m args c A v RX12 cX12_works 6 3 65) (hret : ∀ (H1 : Heap) (locs1 : List Loc) (ls1 : Array Slot) (pc : Nat), mMW s A v a res.2.1 res.2.2 H1 locs1 → narrow .boolean (.int res.1) = .int res.1 → decode cX12_works pc = .ok (.ireturn, 1) → W p l e R s m args below meth c H1 locs1 0 0 Q (F0 m pc ls1 [.int res.1])) (F : PF) (G : PG) (hm : mb_works_584 fu F G = some res) {H : Heap} {locs : List Loc} (hw : mMW s A v a F G H locs) {ls : Array Slot} (hl : lv_has ls 6 [(0, .ref (a 212))]) : W p l e R s m args below meth c H locs 0 0 Q (F0 m 584 ls []) := by
  have hx := C.1
  have hb := C.2.1
  unfold mb_works_584 at hm
  refine lv_goto (tgt := 880) hx hb dX12_works_584 (by decide) ?_
  exact mw_works_880 fu C hret F G hm hw (lv_sub hl [0] rfl)
theorem mw_works_574 (fu : Nat) {res : Int32 × PF × PG} (C : mMC p R s m args c A v RX12 cX12_works 6 3 65) (hret : ∀ (H1 : Heap) (locs1 : List Loc) (ls1 : Array Slot) (pc : Nat), mMW s A v a res.2.1 res.2.2 H1 locs1 → narrow .boolean (.int res.1) = .int res.1 → decode cX12_works pc = .ok (.ireturn, 1) → W p l e R s m args below meth c H1 locs1 0 0 Q (F0 m pc ls1 [.int res.1])) (F : PF) (G : PG) (hm : mb_works_574 fu F G = some res) {H : Heap} {locs : List Loc} (hw : mMW s A v a F G H locs) {ls : Array Slot} (hl : lv_has ls 6 [(0, .ref (a 212))]) : W p l e R s m args below meth c H locs 0 0 Q (F0 m 574 ls []) := by
  have hx := C.1
  have hb := C.2.1
  unfold mb_works_574 at hm
  refine lv_aload_n hx hb dX12_works_574 rfl (lv_at hl 0 rfl) ?_
  refine lv_dup hx hb dX12_works_575 rfl ?_
  refine mg_X12_497 C hw dX12_works_576 ?_
  refine lv_iconst (v := 1) hx hb dX12_works_579 (by decide) ?_
  refine lv_iadd hx hb dX12_works_580 ?_
  refine mp_X12_497 C hw dX12_works_581 (fun H locs hw => ?_)
  exact mw_works_584 fu C hret (fup F 72 ((F 72) + (1 : Int32))) G hm hw (lv_sub hl [0] rfl)
theorem mw_works_554 (fu : Nat) {res : Int32 × PF × PG} (C : mMC p R s m args c A v RX12 cX12_works 6 3 65) (hret : ∀ (H1 : Heap) (locs1 : List Loc) (ls1 : Array Slot) (pc : Nat), mMW s A v a res.2.1 res.2.2 H1 locs1 → narrow .boolean (.int res.1) = .int res.1 → decode cX12_works pc = .ok (.ireturn, 1) → W p l e R s m args below meth c H1 locs1 0 0 Q (F0 m pc ls1 [.int res.1])) (F : PF) (G : PG) (hm : mb_works_554 fu F G = some res) {H : Heap} {locs : List Loc} (hw : mMW s A v a F G H locs) {ls : Array Slot} (hl : lv_has ls 6 [(0, .ref (a 212))]) : W p l e R s m args below meth c H locs 0 0 Q (F0 m 554 ls []) := by
  have hx := C.1
  have hb := C.2.1
  unfold mb_works_554 at hm
  refine lv_aload_n hx hb dX12_works_554 rfl (lv_at hl 0 rfl) ?_
  refine mg_X12_126 C hw dX12_works_555 ?_
  refine lv_aload_n hx hb dX12_works_558 rfl (lv_at hl 0 rfl) ?_
  refine mg_X12_497 C hw dX12_works_559 ?_
  refine lv_aload_n hx hb dX12_works_562 rfl (lv_at hl 0 rfl) ?_
  refine mg_X12_126 C hw dX12_works_563 ?_
  refine lv_aload_n hx hb dX12_works_566 rfl (lv_at hl 0 rfl) ?_
  refine mg_X12_497 C hw dX12_works_567 ?_
  refine lv_iconst (v := 1) hx hb dX12_works_570 (by decide) ?_
  refine lv_isub hx hb dX12_works_571 ?_
  obtain ⟨hi, hm⟩ := ix_elim hm
  refine mal_71 C hw hi dX12_works_572 ?_
  obtain ⟨hi, hm⟩ := ix_elim hm
  refine mas_71 C hw hi dX12_works_573 (fun H locs hw => ?_)
  exact mw_works_574 fu C hret F (gup G 71 (F 72).toNatClampNeg (G 71 ((F 72) - (1 : Int32)).toNatClampNeg)) hm hw (lv_sub hl [0] rfl)
theorem mw_works_616 (fu : Nat) {res : Int32 × PF × PG} (C : mMC p R s m args c A v RX12 cX12_works 6 3 65) (hret : ∀ (H1 : Heap) (locs1 : List Loc) (ls1 : Array Slot) (pc : Nat), mMW s A v a res.2.1 res.2.2 H1 locs1 → narrow .boolean (.int res.1) = .int res.1 → decode cX12_works pc = .ok (.ireturn, 1) → W p l e R s m args below meth c H1 locs1 0 0 Q (F0 m pc ls1 [.int res.1])) (F : PF) (G : PG) (hm : mb_works_616 fu F G = some res) {H : Heap} {locs : List Loc} (hw : mMW s A v a F G H locs) {ls : Array Slot} (hl : lv_has ls 6 [(0, .ref (a 212))]) : W p l e R s m args below meth c H locs 0 0 Q (F0 m 616 ls []) := by
  have hx := C.1
  have hb := C.2.1
  unfold mb_works_616 at hm
  refine lv_goto (tgt := 880) hx hb dX12_works_616 (by decide) ?_
  exact mw_works_880 fu C hret F G hm hw (lv_sub hl [0] rfl)
theorem mw_works_606 (fu : Nat) {res : Int32 × PF × PG} (C : mMC p R s m args c A v RX12 cX12_works 6 3 65) (hret : ∀ (H1 : Heap) (locs1 : List Loc) (ls1 : Array Slot) (pc : Nat), mMW s A v a res.2.1 res.2.2 H1 locs1 → narrow .boolean (.int res.1) = .int res.1 → decode cX12_works pc = .ok (.ireturn, 1) → W p l e R s m args below meth c H1 locs1 0 0 Q (F0 m pc ls1 [.int res.1])) (F : PF) (G : PG) (hm : mb_works_606 fu F G = some res) {H : Heap} {locs : List Loc} (hw : mMW s A v a F G H locs) {ls : Array Slot} (hl : lv_has ls 6 [(0, .ref (a 212))]) : W p l e R s m args below meth c H locs 0 0 Q (F0 m 606 ls []) := by
  have hx := C.1
  have hb := C.2.1
  unfold mb_works_606 at hm
  refine lv_aload_n hx hb dX12_works_606 rfl (lv_at hl 0 rfl) ?_
  refine lv_dup hx hb dX12_works_607 rfl ?_
  refine mg_X12_536 C hw dX12_works_608 ?_
  refine lv_iconst (v := 1) hx hb dX12_works_611 (by decide) ?_
  refine lv_iadd hx hb dX12_works_612 ?_
  refine mp_X12_536 C hw dX12_works_613 (fun H locs hw => ?_)
  exact mw_works_616 fu C hret (fup F 77 ((F 77) + (1 : Int32))) G hm hw (lv_sub hl [0] rfl)
theorem mw_works_596 (fu : Nat) {res : Int32 × PF × PG} (C : mMC p R s m args c A v RX12 cX12_works 6 3 65) (hret : ∀ (H1 : Heap) (locs1 : List Loc) (ls1 : Array Slot) (pc : Nat), mMW s A v a res.2.1 res.2.2 H1 locs1 → narrow .boolean (.int res.1) = .int res.1 → decode cX12_works pc = .ok (.ireturn, 1) → W p l e R s m args below meth c H1 locs1 0 0 Q (F0 m pc ls1 [.int res.1])) (F : PF) (G : PG) (hm : mb_works_596 fu F G = some res) {H : Heap} {locs : List Loc} (hw : mMW s A v a F G H locs) {ls : Array Slot} (hl : lv_has ls 6 [(0, .ref (a 212))]) : W p l e R s m args below meth c H locs 0 0 Q (F0 m 596 ls []) := by
  have hx := C.1
  have hb := C.2.1
  unfold mb_works_596 at hm
  refine lv_aload_n hx hb dX12_works_596 rfl (lv_at hl 0 rfl) ?_
  refine lv_dup hx hb dX12_works_597 rfl ?_
  refine mg_X12_556 C hw dX12_works_598 ?_
  refine lv_iconst (v := 1) hx hb dX12_works_601 (by decide) ?_
  refine lv_isub hx hb dX12_works_602 ?_
  refine mp_X12_556 C hw dX12_works_603 (fun H locs hw => ?_)
  exact mw_works_606 fu C hret (fup F 78 ((F 78) - (1 : Int32))) G hm hw (lv_sub hl [0] rfl)
theorem mw_works_594 (fu : Nat) {res : Int32 × PF × PG} (C : mMC p R s m args c A v RX12 cX12_works 6 3 65) (hret : ∀ (H1 : Heap) (locs1 : List Loc) (ls1 : Array Slot) (pc : Nat), mMW s A v a res.2.1 res.2.2 H1 locs1 → narrow .boolean (.int res.1) = .int res.1 → decode cX12_works pc = .ok (.ireturn, 1) → W p l e R s m args below meth c H1 locs1 0 0 Q (F0 m pc ls1 [.int res.1])) (F : PF) (G : PG) (hm : mb_works_594 fu F G = some res) {H : Heap} {locs : List Loc} (hw : mMW s A v a F G H locs) {ls : Array Slot} (hl : lv_has ls 6 []) : W p l e R s m args below meth c H locs 0 0 Q (F0 m 594 ls []) := by
  have hx := C.1
  have hb := C.2.1
  unfold mb_works_594 at hm
  refine lv_iconst (v := 0) hx hb dX12_works_594 (by decide) ?_
  obtain rfl := Option.some.inj hm
  exact hret _ _ _ _ hw (b01_nar (v := 0) (Or.inl rfl)) dX12_works_595
theorem mw_works_587 (fu : Nat) {res : Int32 × PF × PG} (C : mMC p R s m args c A v RX12 cX12_works 6 3 65) (hret : ∀ (H1 : Heap) (locs1 : List Loc) (ls1 : Array Slot) (pc : Nat), mMW s A v a res.2.1 res.2.2 H1 locs1 → narrow .boolean (.int res.1) = .int res.1 → decode cX12_works pc = .ok (.ireturn, 1) → W p l e R s m args below meth c H1 locs1 0 0 Q (F0 m pc ls1 [.int res.1])) (F : PF) (G : PG) (hm : mb_works_587 fu F G = some res) {H : Heap} {locs : List Loc} (hw : mMW s A v a F G H locs) {ls : Array Slot} (hl : lv_has ls 6 [(0, .ref (a 212))]) : W p l e R s m args below meth c H locs 0 0 Q (F0 m 587 ls []) := by
  have hx := C.1
  have hb := C.2.1
  unfold mb_works_587 at hm
  refine lv_aload_n hx hb dX12_works_587 rfl (lv_at hl 0 rfl) ?_
  refine mg_X12_556 C hw dX12_works_588 ?_
  refine lv_if_ne (tgt := 596) hx hb dX12_works_591 (by decide) (fun c_1 => ?_) (fun c_1 => ?_)
  · have hm := (if_neg c_1).symm.trans hm
    exact mw_works_596 fu C hret F G hm hw (lv_sub hl [0] rfl)
  · have hm := (if_pos c_1).symm.trans hm
    exact mw_works_594 fu C hret F G hm hw (lv_sub hl [] rfl)
theorem mw_works_631 (fu : Nat) {res : Int32 × PF × PG} (C : mMC p R s m args c A v RX12 cX12_works 6 3 65) (hret : ∀ (H1 : Heap) (locs1 : List Loc) (ls1 : Array Slot) (pc : Nat), mMW s A v a res.2.1 res.2.2 H1 locs1 → narrow .boolean (.int res.1) = .int res.1 → decode cX12_works pc = .ok (.ireturn, 1) → W p l e R s m args below meth c H1 locs1 0 0 Q (F0 m pc ls1 [.int res.1])) (z0 : Int32) (F : PF) (G : PG) (hm : mb_works_631 fu z0 F G = some res) {H : Heap} {locs : List Loc} (hw : mMW s A v a F G H locs) {ls : Array Slot} (hl : lv_has ls 6 []) : W p l e R s m args below meth c H locs 0 0 Q (F0 m 631 ls [.int z0]) := by
  have hx := C.1
  have hb := C.2.1
  unfold mb_works_631 at hm
  obtain ⟨hz, hm⟩ := b01_elim hm
  obtain rfl := Option.some.inj hm
  exact hret _ _ _ _ hw (b01_nar hz) dX12_works_631
theorem mw_works_619 (fu : Nat) {res : Int32 × PF × PG} (C : mMC p R s m args c A v RX12 cX12_works 6 3 65) (hret : ∀ (H1 : Heap) (locs1 : List Loc) (ls1 : Array Slot) (pc : Nat), mMW s A v a res.2.1 res.2.2 H1 locs1 → narrow .boolean (.int res.1) = .int res.1 → decode cX12_works pc = .ok (.ireturn, 1) → W p l e R s m args below meth c H1 locs1 0 0 Q (F0 m pc ls1 [.int res.1])) (x1 : Int32) (x2 : Int32) (F : PF) (G : PG) (hm : mb_works_619 fu x1 x2 F G = some res) {H : Heap} {locs : List Loc} (hw : mMW s A v a F G H locs) {ls : Array Slot} (hl : lv_has ls 6 [(0, .ref (a 212)), (1, .int x1), (2, .int x2)]) : W p l e R s m args below meth c H locs 0 0 Q (F0 m 619 ls []) := by
  have hx := C.1
  have hb := C.2.1
  unfold mb_works_619 at hm
  refine lv_aload_n hx hb dX12_works_619 rfl (lv_at hl 0 rfl) ?_
  refine lv_iload_n hx hb dX12_works_620 rfl (lv_at hl 1 rfl) ?_
  refine lv_iload_n hx hb dX12_works_621 rfl (lv_at hl 2 rfl) ?_
  refine lv_aload_n hx hb dX12_works_622 rfl (lv_at hl 0 rfl) ?_
  refine mg_X12_553 C hw dX12_works_623 ?_
  refine lv_iconst (v := 1) hx hb dX12_works_626 (by decide) ?_
  refine lv_iadd hx hb dX12_works_627 ?_
  obtain ⟨⟨r1, F1, G1⟩, hc, hm⟩ := bind_elim hm
  refine mcallI (n := 3) (As := [.int x1, .int x2, .int ((F 76) + (1 : Int32))]) (rest := []) C hw (mk_calls l v a _ fu x1 x2 ((F 76) + (1 : Int32)) F G r1 F1 G1 hc) (mrecv_X12 C hw) mm_431 mm_432 mm_433 mm_27 mm_434 (by decide +kernel) rfl (by omega) (by omega) hl.1 rfl (Nat.le_of_ble_eq_true rfl) dX12_works_628 (fun H locs hw => ?_)
  exact mw_works_631 fu C hret r1 F1 G1 hm hw (lv_sub hl [] rfl)
theorem mw_works_649 (fu : Nat) {res : Int32 × PF × PG} (C : mMC p R s m args c A v RX12 cX12_works 6 3 65) (hret : ∀ (H1 : Heap) (locs1 : List Loc) (ls1 : Array Slot) (pc : Nat), mMW s A v a res.2.1 res.2.2 H1 locs1 → narrow .boolean (.int res.1) = .int res.1 → decode cX12_works pc = .ok (.ireturn, 1) → W p l e R s m args below meth c H1 locs1 0 0 Q (F0 m pc ls1 [.int res.1])) (z0 : Int32) (F : PF) (G : PG) (hm : mb_works_649 fu z0 F G = some res) {H : Heap} {locs : List Loc} (hw : mMW s A v a F G H locs) {ls : Array Slot} (hl : lv_has ls 6 []) : W p l e R s m args below meth c H locs 0 0 Q (F0 m 649 ls [.int z0]) := by
  have hx := C.1
  have hb := C.2.1
  unfold mb_works_649 at hm
  obtain ⟨hz, hm⟩ := b01_elim hm
  obtain rfl := Option.some.inj hm
  exact hret _ _ _ _ hw (b01_nar hz) dX12_works_649
theorem mw_works_648 (fu : Nat) {res : Int32 × PF × PG} (C : mMC p R s m args c A v RX12 cX12_works 6 3 65) (hret : ∀ (H1 : Heap) (locs1 : List Loc) (ls1 : Array Slot) (pc : Nat), mMW s A v a res.2.1 res.2.2 H1 locs1 → narrow .boolean (.int res.1) = .int res.1 → decode cX12_works pc = .ok (.ireturn, 1) → W p l e R s m args below meth c H1 locs1 0 0 Q (F0 m pc ls1 [.int res.1])) (F : PF) (G : PG) (hm : mb_works_648 fu F G = some res) {H : Heap} {locs : List Loc} (hw : mMW s A v a F G H locs) {ls : Array Slot} (hl : lv_has ls 6 []) : W p l e R s m args below meth c H locs 0 0 Q (F0 m 648 ls []) := by
  have hx := C.1
  have hb := C.2.1
  unfold mb_works_648 at hm
  refine lv_iconst (v := 0) hx hb dX12_works_648 (by decide) ?_
  exact mw_works_649 fu C hret 0 F G hm hw (lv_sub hl [] rfl)
theorem mw_works_644 (fu : Nat) {res : Int32 × PF × PG} (C : mMC p R s m args c A v RX12 cX12_works 6 3 65) (hret : ∀ (H1 : Heap) (locs1 : List Loc) (ls1 : Array Slot) (pc : Nat), mMW s A v a res.2.1 res.2.2 H1 locs1 → narrow .boolean (.int res.1) = .int res.1 → decode cX12_works pc = .ok (.ireturn, 1) → W p l e R s m args below meth c H1 locs1 0 0 Q (F0 m pc ls1 [.int res.1])) (F : PF) (G : PG) (hm : mb_works_644 fu F G = some res) {H : Heap} {locs : List Loc} (hw : mMW s A v a F G H locs) {ls : Array Slot} (hl : lv_has ls 6 []) : W p l e R s m args below meth c H locs 0 0 Q (F0 m 644 ls []) := by
  have hx := C.1
  have hb := C.2.1
  unfold mb_works_644 at hm
  refine lv_iconst (v := 1) hx hb dX12_works_644 (by decide) ?_
  refine lv_goto (tgt := 649) hx hb dX12_works_645 (by decide) ?_
  exact mw_works_649 fu C hret 1 F G hm hw (lv_sub hl [] rfl)
theorem mw_works_636 (fu : Nat) {res : Int32 × PF × PG} (C : mMC p R s m args c A v RX12 cX12_works 6 3 65) (hret : ∀ (H1 : Heap) (locs1 : List Loc) (ls1 : Array Slot) (pc : Nat), mMW s A v a res.2.1 res.2.2 H1 locs1 → narrow .boolean (.int res.1) = .int res.1 → decode cX12_works pc = .ok (.ireturn, 1) → W p l e R s m args below meth c H1 locs1 0 0 Q (F0 m pc ls1 [.int res.1])) (F : PF) (G : PG) (hm : mb_works_636 fu F G = some res) {H : Heap} {locs : List Loc} (hw : mMW s A v a F G H locs) {ls : Array Slot} (hl : lv_has ls 6 [(0, .ref (a 212))]) : W p l e R s m args below meth c H locs 0 0 Q (F0 m 636 ls []) := by
  have hx := C.1
  have hb := C.2.1
  unfold mb_works_636 at hm
  refine lv_aload_n hx hb dX12_works_636 rfl (lv_at hl 0 rfl) ?_
  refine mg_X12_512 C hw dX12_works_637 ?_
  refine lv_iconst (v := 1) hx hb dX12_works_640 (by decide) ?_
  refine lv_icmp_ne (tgt := 648) hx hb dX12_works_641 (by decide) (fun c_1 => ?_) (fun c_1 => ?_)
  · have hm := (if_neg c_1).symm.trans hm
    exact mw_works_648 fu C hret F G hm hw (lv_sub hl [] rfl)
  · have hm := (if_pos c_1).symm.trans hm
    exact mw_works_644 fu C hret F G hm hw (lv_sub hl [] rfl)
theorem mw_works_632 (fu : Nat) {res : Int32 × PF × PG} (C : mMC p R s m args c A v RX12 cX12_works 6 3 65) (hret : ∀ (H1 : Heap) (locs1 : List Loc) (ls1 : Array Slot) (pc : Nat), mMW s A v a res.2.1 res.2.2 H1 locs1 → narrow .boolean (.int res.1) = .int res.1 → decode cX12_works pc = .ok (.ireturn, 1) → W p l e R s m args below meth c H1 locs1 0 0 Q (F0 m pc ls1 [.int res.1])) (F : PF) (G : PG) (hm : mb_works_632 fu F G = some res) {H : Heap} {locs : List Loc} (hw : mMW s A v a F G H locs) {ls : Array Slot} (hl : lv_has ls 6 [(0, .ref (a 212))]) : W p l e R s m args below meth c H locs 0 0 Q (F0 m 632 ls []) := by
  have hx := C.1
  have hb := C.2.1
  unfold mb_works_632 at hm
  refine lv_aload_n hx hb dX12_works_632 rfl (lv_at hl 0 rfl) ?_
  obtain ⟨⟨r1, F1, G1⟩, hc, hm⟩ := bind_elim hm
  refine mcallV (n := 0) (As := []) (rest := []) C hw (mk_returnsHere l v a _ fu F G r1 F1 G1 hc) (mrecv_X12 C hw) mm_447 mm_448 mm_449 mm_27 mm_450 (by decide +kernel) rfl (by omega) (by omega) hl.1 rfl (Nat.le_of_ble_eq_true rfl) dX12_works_633 (fun H locs hw => ?_)
  exact mw_works_636 fu C hret F1 G1 hm hw (lv_sub hl [0] rfl)
theorem mw_works_660 (fu : Nat) {res : Int32 × PF × PG} (C : mMC p R s m args c A v RX12 cX12_works 6 3 65) (hret : ∀ (H1 : Heap) (locs1 : List Loc) (ls1 : Array Slot) (pc : Nat), mMW s A v a res.2.1 res.2.2 H1 locs1 → narrow .boolean (.int res.1) = .int res.1 → decode cX12_works pc = .ok (.ireturn, 1) → W p l e R s m args below meth c H1 locs1 0 0 Q (F0 m pc ls1 [.int res.1])) (F : PF) (G : PG) (hm : mb_works_660 fu F G = some res) {H : Heap} {locs : List Loc} (hw : mMW s A v a F G H locs) {ls : Array Slot} (hl : lv_has ls 6 [(0, .ref (a 212))]) : W p l e R s m args below meth c H locs 0 0 Q (F0 m 660 ls []) := by
  have hx := C.1
  have hb := C.2.1
  unfold mb_works_660 at hm
  refine lv_goto (tgt := 880) hx hb dX12_works_660 (by decide) ?_
  exact mw_works_880 fu C hret F G hm hw (lv_sub hl [0] rfl)
theorem mw_works_650 (fu : Nat) {res : Int32 × PF × PG} (C : mMC p R s m args c A v RX12 cX12_works 6 3 65) (hret : ∀ (H1 : Heap) (locs1 : List Loc) (ls1 : Array Slot) (pc : Nat), mMW s A v a res.2.1 res.2.2 H1 locs1 → narrow .boolean (.int res.1) = .int res.1 → decode cX12_works pc = .ok (.ireturn, 1) → W p l e R s m args below meth c H1 locs1 0 0 Q (F0 m pc ls1 [.int res.1])) (F : PF) (G : PG) (hm : mb_works_650 fu F G = some res) {H : Heap} {locs : List Loc} (hw : mMW s A v a F G H locs) {ls : Array Slot} (hl : lv_has ls 6 [(0, .ref (a 212))]) : W p l e R s m args below meth c H locs 0 0 Q (F0 m 650 ls []) := by
  have hx := C.1
  have hb := C.2.1
  unfold mb_works_650 at hm
  refine lv_aload_n hx hb dX12_works_650 rfl (lv_at hl 0 rfl) ?_
  refine lv_dup hx hb dX12_works_651 rfl ?_
  refine mg_X12_497 C hw dX12_works_652 ?_
  refine lv_iconst (v := 1) hx hb dX12_works_655 (by decide) ?_
  refine lv_isub hx hb dX12_works_656 ?_
  refine mp_X12_497 C hw dX12_works_657 (fun H locs hw => ?_)
  exact mw_works_660 fu C hret (fup F 72 ((F 72) - (1 : Int32))) G hm hw (lv_sub hl [0] rfl)
theorem mw_works_721 (fu : Nat) {res : Int32 × PF × PG} (C : mMC p R s m args c A v RX12 cX12_works 6 3 65) (hret : ∀ (H1 : Heap) (locs1 : List Loc) (ls1 : Array Slot) (pc : Nat), mMW s A v a res.2.1 res.2.2 H1 locs1 → narrow .boolean (.int res.1) = .int res.1 → decode cX12_works pc = .ok (.ireturn, 1) → W p l e R s m args below meth c H1 locs1 0 0 Q (F0 m pc ls1 [.int res.1])) (F : PF) (G : PG) (hm : mb_works_721 fu F G = some res) {H : Heap} {locs : List Loc} (hw : mMW s A v a F G H locs) {ls : Array Slot} (hl : lv_has ls 6 [(0, .ref (a 212))]) : W p l e R s m args below meth c H locs 0 0 Q (F0 m 721 ls []) := by
  have hx := C.1
  have hb := C.2.1
  unfold mb_works_721 at hm
  refine lv_goto (tgt := 880) hx hb dX12_works_721 (by decide) ?_
  exact mw_works_880 fu C hret F G hm hw (lv_sub hl [0] rfl)
theorem mw_works_711 (fu : Nat) {res : Int32 × PF × PG} (C : mMC p R s m args c A v RX12 cX12_works 6 3 65) (hret : ∀ (H1 : Heap) (locs1 : List Loc) (ls1 : Array Slot) (pc : Nat), mMW s A v a res.2.1 res.2.2 H1 locs1 → narrow .boolean (.int res.1) = .int res.1 → decode cX12_works pc = .ok (.ireturn, 1) → W p l e R s m args below meth c H1 locs1 0 0 Q (F0 m pc ls1 [.int res.1])) (F : PF) (G : PG) (hm : mb_works_711 fu F G = some res) {H : Heap} {locs : List Loc} (hw : mMW s A v a F G H locs) {ls : Array Slot} (hl : lv_has ls 6 [(0, .ref (a 212))]) : W p l e R s m args below meth c H locs 0 0 Q (F0 m 711 ls []) := by
  have hx := C.1
  have hb := C.2.1
  unfold mb_works_711 at hm
  refine lv_aload_n hx hb dX12_works_711 rfl (lv_at hl 0 rfl) ?_
  refine lv_dup hx hb dX12_works_712 rfl ?_
  refine mg_X12_518 C hw dX12_works_713 ?_
  refine lv_iconst (v := 1) hx hb dX12_works_716 (by decide) ?_
  refine lv_iadd hx hb dX12_works_717 ?_
  refine mp_X12_518 C hw dX12_works_718 (fun H locs hw => ?_)
  exact mw_works_721 fu C hret (fup F 79 ((F 79) + (1 : Int32))) G hm hw (lv_sub hl [0] rfl)
theorem mw_works_701 (fu : Nat) {res : Int32 × PF × PG} (C : mMC p R s m args c A v RX12 cX12_works 6 3 65) (hret : ∀ (H1 : Heap) (locs1 : List Loc) (ls1 : Array Slot) (pc : Nat), mMW s A v a res.2.1 res.2.2 H1 locs1 → narrow .boolean (.int res.1) = .int res.1 → decode cX12_works pc = .ok (.ireturn, 1) → W p l e R s m args below meth c H1 locs1 0 0 Q (F0 m pc ls1 [.int res.1])) (F : PF) (G : PG) (hm : mb_works_701 fu F G = some res) {H : Heap} {locs : List Loc} (hw : mMW s A v a F G H locs) {ls : Array Slot} (hl : lv_has ls 6 [(0, .ref (a 212))]) : W p l e R s m args below meth c H locs 0 0 Q (F0 m 701 ls []) := by
  have hx := C.1
  have hb := C.2.1
  unfold mb_works_701 at hm
  refine lv_aload_n hx hb dX12_works_701 rfl (lv_at hl 0 rfl) ?_
  refine mg_X12_518 C hw dX12_works_702 ?_
  refine lv_ldcw (v := 2147483647) hx hb C.2.2.2.1 (C.2.2.2.2.1 _ mm_446) dX12_works_705 ?_
  refine lv_icmp_ge (tgt := 880) hx hb dX12_works_708 (by decide) (fun c_1 => ?_) (fun c_1 => ?_)
  · have hm := (if_pos c_1).symm.trans hm
    exact mw_works_880 fu C hret F G hm hw (lv_sub hl [0] rfl)
  · have hm := (if_neg c_1).symm.trans hm
    exact mw_works_711 fu C hret F G hm hw (lv_sub hl [0] rfl)
theorem mw_works_683 (fu : Nat) {res : Int32 × PF × PG} (C : mMC p R s m args c A v RX12 cX12_works 6 3 65) (hret : ∀ (H1 : Heap) (locs1 : List Loc) (ls1 : Array Slot) (pc : Nat), mMW s A v a res.2.1 res.2.2 H1 locs1 → narrow .boolean (.int res.1) = .int res.1 → decode cX12_works pc = .ok (.ireturn, 1) → W p l e R s m args below meth c H1 locs1 0 0 Q (F0 m pc ls1 [.int res.1])) (F : PF) (G : PG) (hm : mb_works_683 fu F G = some res) {H : Heap} {locs : List Loc} (hw : mMW s A v a F G H locs) {ls : Array Slot} (hl : lv_has ls 6 [(0, .ref (a 212))]) : W p l e R s m args below meth c H locs 0 0 Q (F0 m 683 ls []) := by
  have hx := C.1
  have hb := C.2.1
  unfold mb_works_683 at hm
  refine lv_aload_n hx hb dX12_works_683 rfl (lv_at hl 0 rfl) ?_
  refine mg_X12_132 C hw dX12_works_684 ?_
  refine lv_aload_n hx hb dX12_works_687 rfl (lv_at hl 0 rfl) ?_
  refine mg_X12_518 C hw dX12_works_688 ?_
  refine lv_aload_n hx hb dX12_works_691 rfl (lv_at hl 0 rfl) ?_
  refine mg_X12_126 C hw dX12_works_692 ?_
  refine lv_aload_n hx hb dX12_works_695 rfl (lv_at hl 0 rfl) ?_
  refine mg_X12_497 C hw dX12_works_696 ?_
  obtain ⟨hi, hm⟩ := ix_elim hm
  refine mal_71 C hw hi dX12_works_699 ?_
  obtain ⟨hi, hm⟩ := ix_elim hm
  refine mas_89 C hw hi dX12_works_700 (fun H locs hw => ?_)
  exact mw_works_701 fu C hret F (gup G 89 (F 79).toNatClampNeg (G 71 (F 72).toNatClampNeg)) hm hw (lv_sub hl [0] rfl)
theorem mw_works_673 (fu : Nat) {res : Int32 × PF × PG} (C : mMC p R s m args c A v RX12 cX12_works 6 3 65) (hret : ∀ (H1 : Heap) (locs1 : List Loc) (ls1 : Array Slot) (pc : Nat), mMW s A v a res.2.1 res.2.2 H1 locs1 → narrow .boolean (.int res.1) = .int res.1 → decode cX12_works pc = .ok (.ireturn, 1) → W p l e R s m args below meth c H1 locs1 0 0 Q (F0 m pc ls1 [.int res.1])) (F : PF) (G : PG) (hm : mb_works_673 fu F G = some res) {H : Heap} {locs : List Loc} (hw : mMW s A v a F G H locs) {ls : Array Slot} (hl : lv_has ls 6 [(0, .ref (a 212))]) : W p l e R s m args below meth c H locs 0 0 Q (F0 m 673 ls []) := by
  have hx := C.1
  have hb := C.2.1
  unfold mb_works_673 at hm
  refine lv_aload_n hx hb dX12_works_673 rfl (lv_at hl 0 rfl) ?_
  refine mg_X12_518 C hw dX12_works_674 ?_
  refine lv_sipush (v := 2000) hx hb dX12_works_677 (by decide) ?_
  refine lv_icmp_ge (tgt := 701) hx hb dX12_works_680 (by decide) (fun c_1 => ?_) (fun c_1 => ?_)
  · have hm := (if_pos c_1).symm.trans hm
    exact mw_works_701 fu C hret F G hm hw (lv_sub hl [0] rfl)
  · have hm := (if_neg c_1).symm.trans hm
    exact mw_works_683 fu C hret F G hm hw (lv_sub hl [0] rfl)
theorem mw_works_663 (fu : Nat) {res : Int32 × PF × PG} (C : mMC p R s m args c A v RX12 cX12_works 6 3 65) (hret : ∀ (H1 : Heap) (locs1 : List Loc) (ls1 : Array Slot) (pc : Nat), mMW s A v a res.2.1 res.2.2 H1 locs1 → narrow .boolean (.int res.1) = .int res.1 → decode cX12_works pc = .ok (.ireturn, 1) → W p l e R s m args below meth c H1 locs1 0 0 Q (F0 m pc ls1 [.int res.1])) (F : PF) (G : PG) (hm : mb_works_663 fu F G = some res) {H : Heap} {locs : List Loc} (hw : mMW s A v a F G H locs) {ls : Array Slot} (hl : lv_has ls 6 [(0, .ref (a 212))]) : W p l e R s m args below meth c H locs 0 0 Q (F0 m 663 ls []) := by
  have hx := C.1
  have hb := C.2.1
  unfold mb_works_663 at hm
  refine lv_aload_n hx hb dX12_works_663 rfl (lv_at hl 0 rfl) ?_
  refine lv_dup hx hb dX12_works_664 rfl ?_
  refine mg_X12_497 C hw dX12_works_665 ?_
  refine lv_iconst (v := 1) hx hb dX12_works_668 (by decide) ?_
  refine lv_isub hx hb dX12_works_669 ?_
  refine mp_X12_497 C hw dX12_works_670 (fun H locs hw => ?_)
  exact mw_works_673 fu C hret (fup F 72 ((F 72) - (1 : Int32))) G hm hw (lv_sub hl [0] rfl)
theorem mw_works_752 (fu : Nat) {res : Int32 × PF × PG} (C : mMC p R s m args c A v RX12 cX12_works 6 3 65) (hret : ∀ (H1 : Heap) (locs1 : List Loc) (ls1 : Array Slot) (pc : Nat), mMW s A v a res.2.1 res.2.2 H1 locs1 → narrow .boolean (.int res.1) = .int res.1 → decode cX12_works pc = .ok (.ireturn, 1) → W p l e R s m args below meth c H1 locs1 0 0 Q (F0 m pc ls1 [.int res.1])) (F : PF) (G : PG) (hm : mb_works_752 fu F G = some res) {H : Heap} {locs : List Loc} (hw : mMW s A v a F G H locs) {ls : Array Slot} (hl : lv_has ls 6 []) : W p l e R s m args below meth c H locs 0 0 Q (F0 m 752 ls []) := by
  have hx := C.1
  have hb := C.2.1
  unfold mb_works_752 at hm
  refine lv_iconst (v := 0) hx hb dX12_works_752 (by decide) ?_
  obtain rfl := Option.some.inj hm
  exact hret _ _ _ _ hw (b01_nar (v := 0) (Or.inl rfl)) dX12_works_753
theorem mw_works_739 (fu : Nat) {res : Int32 × PF × PG} (C : mMC p R s m args c A v RX12 cX12_works 6 3 65) (hret : ∀ (H1 : Heap) (locs1 : List Loc) (ls1 : Array Slot) (pc : Nat), mMW s A v a res.2.1 res.2.2 H1 locs1 → narrow .boolean (.int res.1) = .int res.1 → decode cX12_works pc = .ok (.ireturn, 1) → W p l e R s m args below meth c H1 locs1 0 0 Q (F0 m pc ls1 [.int res.1])) (F : PF) (G : PG) (hm : mb_works_739 fu F G = some res) {H : Heap} {locs : List Loc} (hw : mMW s A v a F G H locs) {ls : Array Slot} (hl : lv_has ls 6 [(0, .ref (a 212))]) : W p l e R s m args below meth c H locs 0 0 Q (F0 m 739 ls []) := by
  have hx := C.1
  have hb := C.2.1
  unfold mb_works_739 at hm
  refine lv_aload_n hx hb dX12_works_739 rfl (lv_at hl 0 rfl) ?_
  refine lv_aload_n hx hb dX12_works_740 rfl (lv_at hl 0 rfl) ?_
  refine mg_X12_126 C hw dX12_works_741 ?_
  refine lv_aload_n hx hb dX12_works_744 rfl (lv_at hl 0 rfl) ?_
  refine mg_X12_497 C hw dX12_works_745 ?_
  obtain ⟨hi, hm⟩ := ix_elim hm
  refine mal_71 C hw hi dX12_works_748 ?_
  refine mp_X12_539 C hw dX12_works_749 (fun H locs hw => ?_)
  exact mw_works_752 fu C hret (fup F 81 (G 71 (F 72).toNatClampNeg)) G hm hw (lv_sub hl [] rfl)
theorem mw_works_734 (fu : Nat) {res : Int32 × PF × PG} (C : mMC p R s m args c A v RX12 cX12_works 6 3 65) (hret : ∀ (H1 : Heap) (locs1 : List Loc) (ls1 : Array Slot) (pc : Nat), mMW s A v a res.2.1 res.2.2 H1 locs1 → narrow .boolean (.int res.1) = .int res.1 → decode cX12_works pc = .ok (.ireturn, 1) → W p l e R s m args below meth c H1 locs1 0 0 Q (F0 m pc ls1 [.int res.1])) (F : PF) (G : PG) (hm : mb_works_734 fu F G = some res) {H : Heap} {locs : List Loc} (hw : mMW s A v a F G H locs) {ls : Array Slot} (hl : lv_has ls 6 [(0, .ref (a 212))]) : W p l e R s m args below meth c H locs 0 0 Q (F0 m 734 ls []) := by
  have hx := C.1
  have hb := C.2.1
  unfold mb_works_734 at hm
  refine lv_aload_n hx hb dX12_works_734 rfl (lv_at hl 0 rfl) ?_
  refine lv_iconst (v := 4) hx hb dX12_works_735 (by decide) ?_
  refine mp_X12_512 C hw dX12_works_736 (fun H locs hw => ?_)
  exact mw_works_739 fu C hret (fup F 75 (4 : Int32)) G hm hw (lv_sub hl [0] rfl)
theorem mw_works_724 (fu : Nat) {res : Int32 × PF × PG} (C : mMC p R s m args c A v RX12 cX12_works 6 3 65) (hret : ∀ (H1 : Heap) (locs1 : List Loc) (ls1 : Array Slot) (pc : Nat), mMW s A v a res.2.1 res.2.2 H1 locs1 → narrow .boolean (.int res.1) = .int res.1 → decode cX12_works pc = .ok (.ireturn, 1) → W p l e R s m args below meth c H1 locs1 0 0 Q (F0 m pc ls1 [.int res.1])) (F : PF) (G : PG) (hm : mb_works_724 fu F G = some res) {H : Heap} {locs : List Loc} (hw : mMW s A v a F G H locs) {ls : Array Slot} (hl : lv_has ls 6 [(0, .ref (a 212))]) : W p l e R s m args below meth c H locs 0 0 Q (F0 m 724 ls []) := by
  have hx := C.1
  have hb := C.2.1
  unfold mb_works_724 at hm
  refine lv_aload_n hx hb dX12_works_724 rfl (lv_at hl 0 rfl) ?_
  refine lv_dup hx hb dX12_works_725 rfl ?_
  refine mg_X12_497 C hw dX12_works_726 ?_
  refine lv_iconst (v := 1) hx hb dX12_works_729 (by decide) ?_
  refine lv_isub hx hb dX12_works_730 ?_
  refine mp_X12_497 C hw dX12_works_731 (fun H locs hw => ?_)
  exact mw_works_734 fu C hret (fup F 72 ((F 72) - (1 : Int32))) G hm hw (lv_sub hl [0] rfl)
theorem mw_works_833 (fu : Nat) {res : Int32 × PF × PG} (C : mMC p R s m args c A v RX12 cX12_works 6 3 65) (hret : ∀ (H1 : Heap) (locs1 : List Loc) (ls1 : Array Slot) (pc : Nat), mMW s A v a res.2.1 res.2.2 H1 locs1 → narrow .boolean (.int res.1) = .int res.1 → decode cX12_works pc = .ok (.ireturn, 1) → W p l e R s m args below meth c H1 locs1 0 0 Q (F0 m pc ls1 [.int res.1])) (F : PF) (G : PG) (hm : mb_works_833 fu F G = some res) {H : Heap} {locs : List Loc} (hw : mMW s A v a F G H locs) {ls : Array Slot} (hl : lv_has ls 6 [(0, .ref (a 212))]) : W p l e R s m args below meth c H locs 0 0 Q (F0 m 833 ls []) := by
  have hx := C.1
  have hb := C.2.1
  unfold mb_works_833 at hm
  refine lv_goto (tgt := 880) hx hb dX12_works_833 (by decide) ?_
  exact mw_works_880 fu C hret F G hm hw (lv_sub hl [0] rfl)
theorem mw_works_827 (fu : Nat) {res : Int32 × PF × PG} (C : mMC p R s m args c A v RX12 cX12_works 6 3 65) (hret : ∀ (H1 : Heap) (locs1 : List Loc) (ls1 : Array Slot) (pc : Nat), mMW s A v a res.2.1 res.2.2 H1 locs1 → narrow .boolean (.int res.1) = .int res.1 → decode cX12_works pc = .ok (.ireturn, 1) → W p l e R s m args below meth c H1 locs1 0 0 Q (F0 m pc ls1 [.int res.1])) (ag_805 : Int32 → PF → PG → PR) (hag_805 : ∀ (x3 : Int32) (F : PF) (G : PG), ag_805 x3 F G = some res → ∀ (H : Heap) (locs : List Loc) (ls : Array Slot), mMW s A v a F G H locs → lv_has ls 6 [(0, .ref (a 212)), (3, .int x3)] → W p l e R s m args below meth c H locs 0 0 Q (F0 m 805 ls [])) (x3 : Int32) (F : PF) (G : PG) (hm : mb_works_827 fu ag_805 x3 F G = some res) {H : Heap} {locs : List Loc} (hw : mMW s A v a F G H locs) {ls : Array Slot} (hl : lv_has ls 6 [(0, .ref (a 212)), (3, .int x3)]) : W p l e R s m args below meth c H locs 0 0 Q (F0 m 827 ls []) := by
  have hx := C.1
  have hb := C.2.1
  unfold mb_works_827 at hm
  refine lv_iinc (v := (x3 + 1)) (lv' := [(3, .int (x3 + 1)), (0, .ref (a 212))]) hx hb dX12_works_827 hl (k := 1) rfl (by rfl) (by decide) rfl (fun ls hl => ?_)
  refine lv_goto (tgt := 805) hx hb dX12_works_830 (by decide) ?_
  exact hag_805 (x3 + 1) F G hm _ _ _ hw (lv_sub hl [1, 0] rfl)
theorem mw_works_813 (fu : Nat) {res : Int32 × PF × PG} (C : mMC p R s m args c A v RX12 cX12_works 6 3 65) (hret : ∀ (H1 : Heap) (locs1 : List Loc) (ls1 : Array Slot) (pc : Nat), mMW s A v a res.2.1 res.2.2 H1 locs1 → narrow .boolean (.int res.1) = .int res.1 → decode cX12_works pc = .ok (.ireturn, 1) → W p l e R s m args below meth c H1 locs1 0 0 Q (F0 m pc ls1 [.int res.1])) (ag_805 : Int32 → PF → PG → PR) (hag_805 : ∀ (x3 : Int32) (F : PF) (G : PG), ag_805 x3 F G = some res → ∀ (H : Heap) (locs : List Loc) (ls : Array Slot), mMW s A v a F G H locs → lv_has ls 6 [(0, .ref (a 212)), (3, .int x3)] → W p l e R s m args below meth c H locs 0 0 Q (F0 m 805 ls [])) (x3 : Int32) (F : PF) (G : PG) (hm : mb_works_813 fu ag_805 x3 F G = some res) {H : Heap} {locs : List Loc} (hw : mMW s A v a F G H locs) {ls : Array Slot} (hl : lv_has ls 6 [(0, .ref (a 212)), (3, .int x3)]) : W p l e R s m args below meth c H locs 0 0 Q (F0 m 813 ls []) := by
  have hx := C.1
  have hb := C.2.1
  unfold mb_works_813 at hm
  refine lv_aload_n hx hb dX12_works_813 rfl (lv_at hl 0 rfl) ?_
  refine mg_X12_129 C hw dX12_works_814 ?_
  refine lv_iload_n hx hb dX12_works_817 rfl (lv_at hl 1 rfl) ?_
  refine lv_aload_n hx hb dX12_works_818 rfl (lv_at hl 0 rfl) ?_
  refine mg_X12_129 C hw dX12_works_819 ?_
  refine lv_iload_n hx hb dX12_works_822 rfl (lv_at hl 1 rfl) ?_
  refine lv_iconst (v := 1) hx hb dX12_works_823 (by decide) ?_
  refine lv_iadd hx hb dX12_works_824 ?_
  obtain ⟨hi, hm⟩ := ix_elim hm
  refine mal_88 C hw hi dX12_works_825 ?_
  obtain ⟨hi, hm⟩ := ix_elim hm
  refine mas_88 C hw hi dX12_works_826 (fun H locs hw => ?_)
  exact mw_works_827 fu C hret ag_805 hag_805 x3 F (gup G 88 x3.toNatClampNeg (G 88 (x3 + (1 : Int32)).toNatClampNeg)) hm hw (lv_sub hl [0, 1] rfl)
theorem mw_works_805 (fu : Nat) {res : Int32 × PF × PG} (C : mMC p R s m args c A v RX12 cX12_works 6 3 65) (hret : ∀ (H1 : Heap) (locs1 : List Loc) (ls1 : Array Slot) (pc : Nat), mMW s A v a res.2.1 res.2.2 H1 locs1 → narrow .boolean (.int res.1) = .int res.1 → decode cX12_works pc = .ok (.ireturn, 1) → W p l e R s m args below meth c H1 locs1 0 0 Q (F0 m pc ls1 [.int res.1])) (ag_805 : Int32 → PF → PG → PR) (hag_805 : ∀ (x3 : Int32) (F : PF) (G : PG), ag_805 x3 F G = some res → ∀ (H : Heap) (locs : List Loc) (ls : Array Slot), mMW s A v a F G H locs → lv_has ls 6 [(0, .ref (a 212)), (3, .int x3)] → W p l e R s m args below meth c H locs 0 0 Q (F0 m 805 ls [])) (x3 : Int32) (F : PF) (G : PG) (hm : mb_works_805 fu ag_805 x3 F G = some res) {H : Heap} {locs : List Loc} (hw : mMW s A v a F G H locs) {ls : Array Slot} (hl : lv_has ls 6 [(0, .ref (a 212)), (3, .int x3)]) : W p l e R s m args below meth c H locs 0 0 Q (F0 m 805 ls []) := by
  have hx := C.1
  have hb := C.2.1
  unfold mb_works_805 at hm
  refine lv_iload_n hx hb dX12_works_805 rfl (lv_at hl 1 rfl) ?_
  refine lv_aload_n hx hb dX12_works_806 rfl (lv_at hl 0 rfl) ?_
  refine mg_X12_515 C hw dX12_works_807 ?_
  refine lv_icmp_ge (tgt := 833) hx hb dX12_works_810 (by decide) (fun c_1 => ?_) (fun c_1 => ?_)
  · have hm := (if_pos c_1).symm.trans hm
    exact mw_works_833 fu C hret F G hm hw (lv_sub hl [0] rfl)
  · have hm := (if_neg c_1).symm.trans hm
    exact mw_works_813 fu C hret ag_805 hag_805 x3 F G hm hw (lv_sub hl [0, 1] rfl)
theorem mwl_works_805 (fu : Nat) {res : Int32 × PF × PG} (C : mMC p R s m args c A v RX12 cX12_works 6 3 65) (hret : ∀ (H1 : Heap) (locs1 : List Loc) (ls1 : Array Slot) (pc : Nat), mMW s A v a res.2.1 res.2.2 H1 locs1 → narrow .boolean (.int res.1) = .int res.1 → decode cX12_works pc = .ok (.ireturn, 1) → W p l e R s m args below meth c H1 locs1 0 0 Q (F0 m pc ls1 [.int res.1])) : ∀ (n : Nat) (x3 : Int32) (F : PF) (G : PG) (hm : ml_works_805 fu n x3 F G = some res) {H : Heap} {locs : List Loc} (hw : mMW s A v a F G H locs) {ls : Array Slot} (hl : lv_has ls 6 [(0, .ref (a 212)), (3, .int x3)]), W p l e R s m args below meth c H locs 0 0 Q (F0 m 805 ls []) := by
  intro n
  induction n with
  | zero =>
    intro x3 F G hm
    exact no_elim (show (none : PR) = some res from hm)
  | succ n ih =>
    intro x3 F G hm H locs hw ls hl
    exact mw_works_805 fu C hret (ml_works_805 fu n) (fun x3 F G hm H locs ls hw hl => ih x3 F G hm hw hl) x3 F G hm hw hl
theorem mw_works_803 (fu : Nat) {res : Int32 × PF × PG} (C : mMC p R s m args c A v RX12 cX12_works 6 3 65) (hret : ∀ (H1 : Heap) (locs1 : List Loc) (ls1 : Array Slot) (pc : Nat), mMW s A v a res.2.1 res.2.2 H1 locs1 → narrow .boolean (.int res.1) = .int res.1 → decode cX12_works pc = .ok (.ireturn, 1) → W p l e R s m args below meth c H1 locs1 0 0 Q (F0 m pc ls1 [.int res.1])) (F : PF) (G : PG) (hm : mb_works_803 fu F G = some res) {H : Heap} {locs : List Loc} (hw : mMW s A v a F G H locs) {ls : Array Slot} (hl : lv_has ls 6 [(0, .ref (a 212))]) : W p l e R s m args below meth c H locs 0 0 Q (F0 m 803 ls []) := by
  have hx := C.1
  have hb := C.2.1
  unfold mb_works_803 at hm
  refine lv_iconst (v := 0) hx hb dX12_works_803 (by decide) ?_
  refine lv_istore_n (lv' := [(3, .int 0), (0, .ref (a 212))]) hx hb dX12_works_804 rfl hl (by decide) rfl (fun ls hl => ?_)
  exact mwl_works_805 fu C hret fu 0 F G hm hw (lv_sub hl [1, 0] rfl)
theorem mw_works_793 (fu : Nat) {res : Int32 × PF × PG} (C : mMC p R s m args c A v RX12 cX12_works 6 3 65) (hret : ∀ (H1 : Heap) (locs1 : List Loc) (ls1 : Array Slot) (pc : Nat), mMW s A v a res.2.1 res.2.2 H1 locs1 → narrow .boolean (.int res.1) = .int res.1 → decode cX12_works pc = .ok (.ireturn, 1) → W p l e R s m args below meth c H1 locs1 0 0 Q (F0 m pc ls1 [.int res.1])) (F : PF) (G : PG) (hm : mb_works_793 fu F G = some res) {H : Heap} {locs : List Loc} (hw : mMW s A v a F G H locs) {ls : Array Slot} (hl : lv_has ls 6 [(0, .ref (a 212))]) : W p l e R s m args below meth c H locs 0 0 Q (F0 m 793 ls []) := by
  have hx := C.1
  have hb := C.2.1
  unfold mb_works_793 at hm
  refine lv_aload_n hx hb dX12_works_793 rfl (lv_at hl 0 rfl) ?_
  refine lv_dup hx hb dX12_works_794 rfl ?_
  refine mg_X12_515 C hw dX12_works_795 ?_
  refine lv_iconst (v := 1) hx hb dX12_works_798 (by decide) ?_
  refine lv_isub hx hb dX12_works_799 ?_
  refine mp_X12_515 C hw dX12_works_800 (fun H locs hw => ?_)
  exact mw_works_803 fu C hret (fup F 80 ((F 80) - (1 : Int32))) G hm hw (lv_sub hl [0] rfl)
theorem mw_works_783 (fu : Nat) {res : Int32 × PF × PG} (C : mMC p R s m args c A v RX12 cX12_works 6 3 65) (hret : ∀ (H1 : Heap) (locs1 : List Loc) (ls1 : Array Slot) (pc : Nat), mMW s A v a res.2.1 res.2.2 H1 locs1 → narrow .boolean (.int res.1) = .int res.1 → decode cX12_works pc = .ok (.ireturn, 1) → W p l e R s m args below meth c H1 locs1 0 0 Q (F0 m pc ls1 [.int res.1])) (F : PF) (G : PG) (hm : mb_works_783 fu F G = some res) {H : Heap} {locs : List Loc} (hw : mMW s A v a F G H locs) {ls : Array Slot} (hl : lv_has ls 6 [(0, .ref (a 212))]) : W p l e R s m args below meth c H locs 0 0 Q (F0 m 783 ls []) := by
  have hx := C.1
  have hb := C.2.1
  unfold mb_works_783 at hm
  refine lv_aload_n hx hb dX12_works_783 rfl (lv_at hl 0 rfl) ?_
  refine lv_dup hx hb dX12_works_784 rfl ?_
  refine mg_X12_497 C hw dX12_works_785 ?_
  refine lv_iconst (v := 1) hx hb dX12_works_788 (by decide) ?_
  refine lv_iadd hx hb dX12_works_789 ?_
  refine mp_X12_497 C hw dX12_works_790 (fun H locs hw => ?_)
  exact mw_works_793 fu C hret (fup F 72 ((F 72) + (1 : Int32))) G hm hw (lv_sub hl [0] rfl)
theorem mw_works_768 (fu : Nat) {res : Int32 × PF × PG} (C : mMC p R s m args c A v RX12 cX12_works 6 3 65) (hret : ∀ (H1 : Heap) (locs1 : List Loc) (ls1 : Array Slot) (pc : Nat), mMW s A v a res.2.1 res.2.2 H1 locs1 → narrow .boolean (.int res.1) = .int res.1 → decode cX12_works pc = .ok (.ireturn, 1) → W p l e R s m args below meth c H1 locs1 0 0 Q (F0 m pc ls1 [.int res.1])) (F : PF) (G : PG) (hm : mb_works_768 fu F G = some res) {H : Heap} {locs : List Loc} (hw : mMW s A v a F G H locs) {ls : Array Slot} (hl : lv_has ls 6 [(0, .ref (a 212))]) : W p l e R s m args below meth c H locs 0 0 Q (F0 m 768 ls []) := by
  have hx := C.1
  have hb := C.2.1
  unfold mb_works_768 at hm
  refine lv_aload_n hx hb dX12_works_768 rfl (lv_at hl 0 rfl) ?_
  refine mg_X12_126 C hw dX12_works_769 ?_
  refine lv_aload_n hx hb dX12_works_772 rfl (lv_at hl 0 rfl) ?_
  refine mg_X12_497 C hw dX12_works_773 ?_
  refine lv_aload_n hx hb dX12_works_776 rfl (lv_at hl 0 rfl) ?_
  refine mg_X12_129 C hw dX12_works_777 ?_
  refine lv_iconst (v := 0) hx hb dX12_works_780 (by decide) ?_
  obtain ⟨hi, hm⟩ := ix_elim hm
  refine mal_88 C hw hi dX12_works_781 ?_
  obtain ⟨hi, hm⟩ := ix_elim hm
  refine mas_71 C hw hi dX12_works_782 (fun H locs hw => ?_)
  exact mw_works_783 fu C hret F (gup G 71 (F 72).toNatClampNeg (G 88 (0 : Int32).toNatClampNeg)) hm hw (lv_sub hl [0] rfl)
theorem mw_works_766 (fu : Nat) {res : Int32 × PF × PG} (C : mMC p R s m args c A v RX12 cX12_works 6 3 65) (hret : ∀ (H1 : Heap) (locs1 : List Loc) (ls1 : Array Slot) (pc : Nat), mMW s A v a res.2.1 res.2.2 H1 locs1 → narrow .boolean (.int res.1) = .int res.1 → decode cX12_works pc = .ok (.ireturn, 1) → W p l e R s m args below meth c H1 locs1 0 0 Q (F0 m pc ls1 [.int res.1])) (F : PF) (G : PG) (hm : mb_works_766 fu F G = some res) {H : Heap} {locs : List Loc} (hw : mMW s A v a F G H locs) {ls : Array Slot} (hl : lv_has ls 6 []) : W p l e R s m args below meth c H locs 0 0 Q (F0 m 766 ls []) := by
  have hx := C.1
  have hb := C.2.1
  unfold mb_works_766 at hm
  refine lv_iconst (v := 0) hx hb dX12_works_766 (by decide) ?_
  obtain rfl := Option.some.inj hm
  exact hret _ _ _ _ hw (b01_nar (v := 0) (Or.inl rfl)) dX12_works_767
theorem mw_works_761 (fu : Nat) {res : Int32 × PF × PG} (C : mMC p R s m args c A v RX12 cX12_works 6 3 65) (hret : ∀ (H1 : Heap) (locs1 : List Loc) (ls1 : Array Slot) (pc : Nat), mMW s A v a res.2.1 res.2.2 H1 locs1 → narrow .boolean (.int res.1) = .int res.1 → decode cX12_works pc = .ok (.ireturn, 1) → W p l e R s m args below meth c H1 locs1 0 0 Q (F0 m pc ls1 [.int res.1])) (F : PF) (G : PG) (hm : mb_works_761 fu F G = some res) {H : Heap} {locs : List Loc} (hw : mMW s A v a F G H locs) {ls : Array Slot} (hl : lv_has ls 6 [(0, .ref (a 212))]) : W p l e R s m args below meth c H locs 0 0 Q (F0 m 761 ls []) := by
  have hx := C.1
  have hb := C.2.1
  unfold mb_works_761 at hm
  refine lv_aload_n hx hb dX12_works_761 rfl (lv_at hl 0 rfl) ?_
  refine lv_iconst (v := 2) hx hb dX12_works_762 (by decide) ?_
  refine mp_X12_512 C hw dX12_works_763 (fun H locs hw => ?_)
  exact mw_works_766 fu C hret (fup F 75 (2 : Int32)) G hm hw (lv_sub hl [] rfl)
theorem mw_works_754 (fu : Nat) {res : Int32 × PF × PG} (C : mMC p R s m args c A v RX12 cX12_works 6 3 65) (hret : ∀ (H1 : Heap) (locs1 : List Loc) (ls1 : Array Slot) (pc : Nat), mMW s A v a res.2.1 res.2.2 H1 locs1 → narrow .boolean (.int res.1) = .int res.1 → decode cX12_works pc = .ok (.ireturn, 1) → W p l e R s m args below meth c H1 locs1 0 0 Q (F0 m pc ls1 [.int res.1])) (F : PF) (G : PG) (hm : mb_works_754 fu F G = some res) {H : Heap} {locs : List Loc} (hw : mMW s A v a F G H locs) {ls : Array Slot} (hl : lv_has ls 6 [(0, .ref (a 212))]) : W p l e R s m args below meth c H locs 0 0 Q (F0 m 754 ls []) := by
  have hx := C.1
  have hb := C.2.1
  unfold mb_works_754 at hm
  refine lv_aload_n hx hb dX12_works_754 rfl (lv_at hl 0 rfl) ?_
  refine mg_X12_515 C hw dX12_works_755 ?_
  refine lv_if_ne (tgt := 768) hx hb dX12_works_758 (by decide) (fun c_1 => ?_) (fun c_1 => ?_)
  · have hm := (if_neg c_1).symm.trans hm
    exact mw_works_768 fu C hret F G hm hw (lv_sub hl [0] rfl)
  · have hm := (if_pos c_1).symm.trans hm
    exact mw_works_761 fu C hret F G hm hw (lv_sub hl [0] rfl)
theorem mw_works_863 (fu : Nat) {res : Int32 × PF × PG} (C : mMC p R s m args c A v RX12 cX12_works 6 3 65) (hret : ∀ (H1 : Heap) (locs1 : List Loc) (ls1 : Array Slot) (pc : Nat), mMW s A v a res.2.1 res.2.2 H1 locs1 → narrow .boolean (.int res.1) = .int res.1 → decode cX12_works pc = .ok (.ireturn, 1) → W p l e R s m args below meth c H1 locs1 0 0 Q (F0 m pc ls1 [.int res.1])) (F : PF) (G : PG) (hm : mb_works_863 fu F G = some res) {H : Heap} {locs : List Loc} (hw : mMW s A v a F G H locs) {ls : Array Slot} (hl : lv_has ls 6 [(0, .ref (a 212))]) : W p l e R s m args below meth c H locs 0 0 Q (F0 m 863 ls []) := by
  have hx := C.1
  have hb := C.2.1
  unfold mb_works_863 at hm
  refine lv_goto (tgt := 880) hx hb dX12_works_863 (by decide) ?_
  exact mw_works_880 fu C hret F G hm hw (lv_sub hl [0] rfl)
theorem mw_works_857 (fu : Nat) {res : Int32 × PF × PG} (C : mMC p R s m args c A v RX12 cX12_works 6 3 65) (hret : ∀ (H1 : Heap) (locs1 : List Loc) (ls1 : Array Slot) (pc : Nat), mMW s A v a res.2.1 res.2.2 H1 locs1 → narrow .boolean (.int res.1) = .int res.1 → decode cX12_works pc = .ok (.ireturn, 1) → W p l e R s m args below meth c H1 locs1 0 0 Q (F0 m pc ls1 [.int res.1])) (ag_838 : Int32 → Int32 → Int32 → PF → PG → PR) (hag_838 : ∀ (x1 : Int32) (x2 : Int32) (x3 : Int32) (F : PF) (G : PG), ag_838 x1 x2 x3 F G = some res → ∀ (H : Heap) (locs : List Loc) (ls : Array Slot), mMW s A v a F G H locs → lv_has ls 6 [(0, .ref (a 212)), (1, .int x1), (2, .int x2), (3, .int x3)] → W p l e R s m args below meth c H locs 0 0 Q (F0 m 838 ls [])) (x1 : Int32) (x2 : Int32) (x3 : Int32) (F : PF) (G : PG) (hm : mb_works_857 fu ag_838 x1 x2 x3 F G = some res) {H : Heap} {locs : List Loc} (hw : mMW s A v a F G H locs) {ls : Array Slot} (hl : lv_has ls 6 [(0, .ref (a 212)), (1, .int x1), (2, .int x2), (3, .int x3)]) : W p l e R s m args below meth c H locs 0 0 Q (F0 m 857 ls []) := by
  have hx := C.1
  have hb := C.2.1
  unfold mb_works_857 at hm
  refine lv_iinc (v := (x3 + 1)) (lv' := [(3, .int (x3 + 1)), (0, .ref (a 212)), (1, .int x1), (2, .int x2)]) hx hb dX12_works_857 hl (k := 3) rfl (by rfl) (by decide) rfl (fun ls hl => ?_)
  refine lv_goto (tgt := 838) hx hb dX12_works_860 (by decide) ?_
  exact hag_838 x1 x2 (x3 + 1) F G hm _ _ _ hw (lv_sub hl [1, 2, 3, 0] rfl)
theorem mw_works_843 (fu : Nat) {res : Int32 × PF × PG} (C : mMC p R s m args c A v RX12 cX12_works 6 3 65) (hret : ∀ (H1 : Heap) (locs1 : List Loc) (ls1 : Array Slot) (pc : Nat), mMW s A v a res.2.1 res.2.2 H1 locs1 → narrow .boolean (.int res.1) = .int res.1 → decode cX12_works pc = .ok (.ireturn, 1) → W p l e R s m args below meth c H1 locs1 0 0 Q (F0 m pc ls1 [.int res.1])) (ag_838 : Int32 → Int32 → Int32 → PF → PG → PR) (hag_838 : ∀ (x1 : Int32) (x2 : Int32) (x3 : Int32) (F : PF) (G : PG), ag_838 x1 x2 x3 F G = some res → ∀ (H : Heap) (locs : List Loc) (ls : Array Slot), mMW s A v a F G H locs → lv_has ls 6 [(0, .ref (a 212)), (1, .int x1), (2, .int x2), (3, .int x3)] → W p l e R s m args below meth c H locs 0 0 Q (F0 m 838 ls [])) (x1 : Int32) (x2 : Int32) (x3 : Int32) (F : PF) (G : PG) (hm : mb_works_843 fu ag_838 x1 x2 x3 F G = some res) {H : Heap} {locs : List Loc} (hw : mMW s A v a F G H locs) {ls : Array Slot} (hl : lv_has ls 6 [(0, .ref (a 212)), (1, .int x1), (2, .int x2), (3, .int x3)]) : W p l e R s m args below meth c H locs 0 0 Q (F0 m 843 ls []) := by
  have hx := C.1
  have hb := C.2.1
  unfold mb_works_843 at hm
  refine lv_aload_n hx hb dX12_works_843 rfl (lv_at hl 0 rfl) ?_
  refine mg_X12_135 C hw dX12_works_844 ?_
  refine lv_aload_n hx hb dX12_works_847 rfl (lv_at hl 0 rfl) ?_
  refine mg_X12_550 C hw dX12_works_848 ?_
  refine lv_iload_n hx hb dX12_works_851 rfl (lv_at hl 1 rfl) ?_
  refine lv_iadd hx hb dX12_works_852 ?_
  refine lv_iload_n hx hb dX12_works_853 rfl (lv_at hl 3 rfl) ?_
  refine lv_iadd hx hb dX12_works_854 ?_
  refine lv_iconst (v := 0) hx hb dX12_works_855 (by decide) ?_
  obtain ⟨hi, hm⟩ := ix_elim hm
  refine mas_90 C hw hi dX12_works_856 (fun H locs hw => ?_)
  exact mw_works_857 fu C hret ag_838 hag_838 x1 x2 x3 F (gup G 90 (((F 86) + x1) + x3).toNatClampNeg (0 : Int32)) hm hw (lv_sub hl [0, 1, 2, 3] rfl)
theorem mw_works_838 (fu : Nat) {res : Int32 × PF × PG} (C : mMC p R s m args c A v RX12 cX12_works 6 3 65) (hret : ∀ (H1 : Heap) (locs1 : List Loc) (ls1 : Array Slot) (pc : Nat), mMW s A v a res.2.1 res.2.2 H1 locs1 → narrow .boolean (.int res.1) = .int res.1 → decode cX12_works pc = .ok (.ireturn, 1) → W p l e R s m args below meth c H1 locs1 0 0 Q (F0 m pc ls1 [.int res.1])) (ag_838 : Int32 → Int32 → Int32 → PF → PG → PR) (hag_838 : ∀ (x1 : Int32) (x2 : Int32) (x3 : Int32) (F : PF) (G : PG), ag_838 x1 x2 x3 F G = some res → ∀ (H : Heap) (locs : List Loc) (ls : Array Slot), mMW s A v a F G H locs → lv_has ls 6 [(0, .ref (a 212)), (1, .int x1), (2, .int x2), (3, .int x3)] → W p l e R s m args below meth c H locs 0 0 Q (F0 m 838 ls [])) (x1 : Int32) (x2 : Int32) (x3 : Int32) (F : PF) (G : PG) (hm : mb_works_838 fu ag_838 x1 x2 x3 F G = some res) {H : Heap} {locs : List Loc} (hw : mMW s A v a F G H locs) {ls : Array Slot} (hl : lv_has ls 6 [(0, .ref (a 212)), (1, .int x1), (2, .int x2), (3, .int x3)]) : W p l e R s m args below meth c H locs 0 0 Q (F0 m 838 ls []) := by
  have hx := C.1
  have hb := C.2.1
  unfold mb_works_838 at hm
  refine lv_iload_n hx hb dX12_works_838 rfl (lv_at hl 3 rfl) ?_
  refine lv_iload_n hx hb dX12_works_839 rfl (lv_at hl 2 rfl) ?_
  refine lv_icmp_ge (tgt := 863) hx hb dX12_works_840 (by decide) (fun c_1 => ?_) (fun c_1 => ?_)
  · have hm := (if_pos c_1).symm.trans hm
    exact mw_works_863 fu C hret F G hm hw (lv_sub hl [0] rfl)
  · have hm := (if_neg c_1).symm.trans hm
    exact mw_works_843 fu C hret ag_838 hag_838 x1 x2 x3 F G hm hw (lv_sub hl [0, 1, 2, 3] rfl)
theorem mwl_works_838 (fu : Nat) {res : Int32 × PF × PG} (C : mMC p R s m args c A v RX12 cX12_works 6 3 65) (hret : ∀ (H1 : Heap) (locs1 : List Loc) (ls1 : Array Slot) (pc : Nat), mMW s A v a res.2.1 res.2.2 H1 locs1 → narrow .boolean (.int res.1) = .int res.1 → decode cX12_works pc = .ok (.ireturn, 1) → W p l e R s m args below meth c H1 locs1 0 0 Q (F0 m pc ls1 [.int res.1])) : ∀ (n : Nat) (x1 : Int32) (x2 : Int32) (x3 : Int32) (F : PF) (G : PG) (hm : ml_works_838 fu n x1 x2 x3 F G = some res) {H : Heap} {locs : List Loc} (hw : mMW s A v a F G H locs) {ls : Array Slot} (hl : lv_has ls 6 [(0, .ref (a 212)), (1, .int x1), (2, .int x2), (3, .int x3)]), W p l e R s m args below meth c H locs 0 0 Q (F0 m 838 ls []) := by
  intro n
  induction n with
  | zero =>
    intro x1 x2 x3 F G hm
    exact no_elim (show (none : PR) = some res from hm)
  | succ n ih =>
    intro x1 x2 x3 F G hm H locs hw ls hl
    exact mw_works_838 fu C hret (ml_works_838 fu n) (fun x1 x2 x3 F G hm H locs ls hw hl => ih x1 x2 x3 F G hm hw hl) x1 x2 x3 F G hm hw hl
theorem mw_works_836 (fu : Nat) {res : Int32 × PF × PG} (C : mMC p R s m args c A v RX12 cX12_works 6 3 65) (hret : ∀ (H1 : Heap) (locs1 : List Loc) (ls1 : Array Slot) (pc : Nat), mMW s A v a res.2.1 res.2.2 H1 locs1 → narrow .boolean (.int res.1) = .int res.1 → decode cX12_works pc = .ok (.ireturn, 1) → W p l e R s m args below meth c H1 locs1 0 0 Q (F0 m pc ls1 [.int res.1])) (x1 : Int32) (x2 : Int32) (F : PF) (G : PG) (hm : mb_works_836 fu x1 x2 F G = some res) {H : Heap} {locs : List Loc} (hw : mMW s A v a F G H locs) {ls : Array Slot} (hl : lv_has ls 6 [(0, .ref (a 212)), (1, .int x1), (2, .int x2)]) : W p l e R s m args below meth c H locs 0 0 Q (F0 m 836 ls []) := by
  have hx := C.1
  have hb := C.2.1
  unfold mb_works_836 at hm
  refine lv_iconst (v := 0) hx hb dX12_works_836 (by decide) ?_
  refine lv_istore_n (lv' := [(3, .int 0), (0, .ref (a 212)), (1, .int x1), (2, .int x2)]) hx hb dX12_works_837 rfl hl (by decide) rfl (fun ls hl => ?_)
  exact mwl_works_838 fu C hret fu x1 x2 0 F G hm hw (lv_sub hl [1, 2, 3, 0] rfl)
theorem mw_works_878 (fu : Nat) {res : Int32 × PF × PG} (C : mMC p R s m args c A v RX12 cX12_works 6 3 65) (hret : ∀ (H1 : Heap) (locs1 : List Loc) (ls1 : Array Slot) (pc : Nat), mMW s A v a res.2.1 res.2.2 H1 locs1 → narrow .boolean (.int res.1) = .int res.1 → decode cX12_works pc = .ok (.ireturn, 1) → W p l e R s m args below meth c H1 locs1 0 0 Q (F0 m pc ls1 [.int res.1])) (F : PF) (G : PG) (hm : mb_works_878 fu F G = some res) {H : Heap} {locs : List Loc} (hw : mMW s A v a F G H locs) {ls : Array Slot} (hl : lv_has ls 6 []) : W p l e R s m args below meth c H locs 0 0 Q (F0 m 878 ls []) := by
  have hx := C.1
  have hb := C.2.1
  unfold mb_works_878 at hm
  refine lv_iconst (v := 1) hx hb dX12_works_878 (by decide) ?_
  obtain rfl := Option.some.inj hm
  exact hret _ _ _ _ hw (b01_nar (v := 1) (Or.inr rfl)) dX12_works_879
theorem mw_works_875 (fu : Nat) {res : Int32 × PF × PG} (C : mMC p R s m args c A v RX12 cX12_works 6 3 65) (hret : ∀ (H1 : Heap) (locs1 : List Loc) (ls1 : Array Slot) (pc : Nat), mMW s A v a res.2.1 res.2.2 H1 locs1 → narrow .boolean (.int res.1) = .int res.1 → decode cX12_works pc = .ok (.ireturn, 1) → W p l e R s m args below meth c H1 locs1 0 0 Q (F0 m pc ls1 [.int res.1])) (z0 : Int32) (F : PF) (G : PG) (hm : mb_works_875 fu z0 F G = some res) {H : Heap} {locs : List Loc} (hw : mMW s A v a F G H locs) {ls : Array Slot} (hl : lv_has ls 6 []) : W p l e R s m args below meth c H locs 0 0 Q (F0 m 875 ls [.int z0, .ref (a 212)]) := by
  have hx := C.1
  have hb := C.2.1
  unfold mb_works_875 at hm
  refine mp_X12_553 C hw dX12_works_875 (fun H locs hw => ?_)
  exact mw_works_878 fu C hret (fup F 76 z0) G hm hw (lv_sub hl [] rfl)
theorem mw_works_866 (fu : Nat) {res : Int32 × PF × PG} (C : mMC p R s m args c A v RX12 cX12_works 6 3 65) (hret : ∀ (H1 : Heap) (locs1 : List Loc) (ls1 : Array Slot) (pc : Nat), mMW s A v a res.2.1 res.2.2 H1 locs1 → narrow .boolean (.int res.1) = .int res.1 → decode cX12_works pc = .ok (.ireturn, 1) → W p l e R s m args below meth c H1 locs1 0 0 Q (F0 m pc ls1 [.int res.1])) (F : PF) (G : PG) (hm : mb_works_866 fu F G = some res) {H : Heap} {locs : List Loc} (hw : mMW s A v a F G H locs) {ls : Array Slot} (hl : lv_has ls 6 [(0, .ref (a 212))]) : W p l e R s m args below meth c H locs 0 0 Q (F0 m 866 ls []) := by
  have hx := C.1
  have hb := C.2.1
  unfold mb_works_866 at hm
  refine lv_aload_n hx hb dX12_works_866 rfl (lv_at hl 0 rfl) ?_
  refine lv_aload_n hx hb dX12_works_867 rfl (lv_at hl 0 rfl) ?_
  refine lv_aload_n hx hb dX12_works_868 rfl (lv_at hl 0 rfl) ?_
  refine mg_X12_553 C hw dX12_works_869 ?_
  obtain ⟨⟨r1, F1, G1⟩, hc, hm⟩ := bind_elim hm
  refine mcallI (n := 1) (As := [.int (F 76)]) (rest := [.ref (a 212)]) C hw (mk_plainly l v a _ fu (F 76) F G r1 F1 G1 hc) (mrecv_X12 C hw) mm_293 mm_294 mm_295 mm_27 mm_296 (by decide +kernel) rfl (by omega) (by omega) hl.1 rfl (Nat.le_of_ble_eq_true rfl) dX12_works_872 (fun H locs hw => ?_)
  exact mw_works_875 fu C hret r1 F1 G1 hm hw (lv_sub hl [] rfl)
theorem mw_works_0 (fu : Nat) {res : Int32 × PF × PG} (C : mMC p R s m args c A v RX12 cX12_works 6 3 65) (hret : ∀ (H1 : Heap) (locs1 : List Loc) (ls1 : Array Slot) (pc : Nat), mMW s A v a res.2.1 res.2.2 H1 locs1 → narrow .boolean (.int res.1) = .int res.1 → decode cX12_works pc = .ok (.ireturn, 1) → W p l e R s m args below meth c H1 locs1 0 0 Q (F0 m pc ls1 [.int res.1])) (F : PF) (G : PG) (hm : mb_works_0 fu F G = some res) {H : Heap} {locs : List Loc} (hw : mMW s A v a F G H locs) {ls : Array Slot} (hl : lv_has ls 6 [(0, .ref (a 212))]) : W p l e R s m args below meth c H locs 0 0 Q (F0 m 0 ls []) := by
  have hx := C.1
  have hb := C.2.1
  unfold mb_works_0 at hm
  refine lv_aload_n hx hb dX12_works_0 rfl (lv_at hl 0 rfl) ?_
  refine mg_X12_107 C hw dX12_works_1 ?_
  refine lv_aload_n hx hb dX12_works_4 rfl (lv_at hl 0 rfl) ?_
  refine mg_X12_553 C hw dX12_works_5 ?_
  obtain ⟨hi, hm⟩ := ix_elim hm
  refine mal_57 C hw hi dX12_works_8 ?_
  refine lv_istore_n (lv' := [(1, .int (G 57 (F 76).toNatClampNeg)), (0, .ref (a 212))]) hx hb dX12_works_9 rfl hl (by decide) rfl (fun ls hl => ?_)
  refine lv_aload_n hx hb dX12_works_10 rfl (lv_at hl 1 rfl) ?_
  refine mg_X12_110 C hw dX12_works_11 ?_
  refine lv_aload_n hx hb dX12_works_14 rfl (lv_at hl 1 rfl) ?_
  refine mg_X12_553 C hw dX12_works_15 ?_
  obtain ⟨hi, hm⟩ := ix_elim hm
  refine mal_58 C hw hi dX12_works_18 ?_
  refine lv_istore_n (lv' := [(2, .int (G 58 (F 76).toNatClampNeg)), (1, .int (G 57 (F 76).toNatClampNeg)), (0, .ref (a 212))]) hx hb dX12_works_19 rfl hl (by decide) rfl (fun ls hl => ?_)
  refine lv_aload_n hx hb dX12_works_20 rfl (lv_at hl 2 rfl) ?_
  refine mg_X12_104 C hw dX12_works_21 ?_
  refine lv_aload_n hx hb dX12_works_24 rfl (lv_at hl 2 rfl) ?_
  refine mg_X12_553 C hw dX12_works_25 ?_
  obtain ⟨hi, hm⟩ := ix_elim hm
  refine mal_56 C hw hi dX12_works_28 ?_
  by_cases c_0 : (G 56 (F 76).toNatClampNeg).toInt < 1 ∨ 22 < (G 56 (F 76).toNatClampNeg).toInt
  · have hm := (if_pos c_0).symm.trans hm
    refine lv_tableOut (tgt := 866) hx hb dX12_works_29 c_0 (by decide) ?_
    exact mw_works_866 fu C hret F G hm hw (lv_sub hl [2] rfl)
  have hm := (if_neg c_0).symm.trans hm
  by_cases c_1 : (G 56 (F 76).toNatClampNeg) = 1
  · have hm := (if_pos c_1).symm.trans hm
    refine my_top 1 c_1 ?_
    refine lv_tableIn (off := 103) (tgt := 132) hx hb dX12_works_29 (by decide) (by decide) (by decide) (by decide) ?_
    exact mw_works_132 fu C hret (G 57 (F 76).toNatClampNeg) F G hm hw (lv_sub hl [2, 1] rfl)
  have hm := (if_neg c_1).symm.trans hm
  have n_0 := c_1
  clear c_1
  by_cases c_1 : (G 56 (F 76).toNatClampNeg) = 2
  · have hm := (if_pos c_1).symm.trans hm
    refine my_top 2 c_1 ?_
    refine lv_tableIn (off := 153) (tgt := 182) hx hb dX12_works_29 (by decide) (by decide) (by decide) (by decide) ?_
    exact mw_works_182 fu C hret (G 57 (F 76).toNatClampNeg) F G hm hw (lv_sub hl [2, 1] rfl)
  have hm := (if_neg c_1).symm.trans hm
  have n_1 := c_1
  clear c_1
  by_cases c_1 : (G 56 (F 76).toNatClampNeg) = 3
  · have hm := (if_pos c_1).symm.trans hm
    refine my_top 3 c_1 ?_
    refine lv_tableIn (off := 103) (tgt := 132) hx hb dX12_works_29 (by decide) (by decide) (by decide) (by decide) ?_
    exact mw_works_132 fu C hret (G 57 (F 76).toNatClampNeg) F G hm hw (lv_sub hl [2, 1] rfl)
  have hm := (if_neg c_1).symm.trans hm
  have n_2 := c_1
  clear c_1
  by_cases c_1 : (G 56 (F 76).toNatClampNeg) = 4
  · have hm := (if_pos c_1).symm.trans hm
    refine my_top 4 c_1 ?_
    refine lv_tableIn (off := 153) (tgt := 182) hx hb dX12_works_29 (by decide) (by decide) (by decide) (by decide) ?_
    exact mw_works_182 fu C hret (G 57 (F 76).toNatClampNeg) F G hm hw (lv_sub hl [2, 1] rfl)
  have hm := (if_neg c_1).symm.trans hm
  have n_3 := c_1
  clear c_1
  by_cases c_1 : (G 56 (F 76).toNatClampNeg) = 5
  · have hm := (if_pos c_1).symm.trans hm
    refine my_top 5 c_1 ?_
    refine lv_tableIn (off := 203) (tgt := 232) hx hb dX12_works_29 (by decide) (by decide) (by decide) (by decide) ?_
    exact mw_works_232 fu C hret (G 57 (F 76).toNatClampNeg) (G 58 (F 76).toNatClampNeg) F G hm hw (lv_sub hl [2, 1, 0] rfl)
  have hm := (if_neg c_1).symm.trans hm
  have n_4 := c_1
  clear c_1
  by_cases c_1 : (G 56 (F 76).toNatClampNeg) = 6
  · have hm := (if_pos c_1).symm.trans hm
    refine my_top 6 c_1 ?_
    refine lv_tableIn (off := 300) (tgt := 329) hx hb dX12_works_29 (by decide) (by decide) (by decide) (by decide) ?_
    exact mw_works_329 fu C hret (G 57 (F 76).toNatClampNeg) (G 58 (F 76).toNatClampNeg) F G hm hw (lv_sub hl [2, 1, 0] rfl)
  have hm := (if_neg c_1).symm.trans hm
  have n_5 := c_1
  clear c_1
  by_cases c_1 : (G 56 (F 76).toNatClampNeg) = 7
  · have hm := (if_pos c_1).symm.trans hm
    refine my_top 7 c_1 ?_
    refine lv_tableIn (off := 434) (tgt := 463) hx hb dX12_works_29 (by decide) (by decide) (by decide) (by decide) ?_
    exact mw_works_463 fu C hret F G hm hw (lv_sub hl [2] rfl)
  have hm := (if_neg c_1).symm.trans hm
  have n_6 := c_1
  clear c_1
  by_cases c_1 : (G 56 (F 76).toNatClampNeg) = 8
  · have hm := (if_pos c_1).symm.trans hm
    refine my_top 8 c_1 ?_
    refine lv_tableIn (off := 464) (tgt := 493) hx hb dX12_works_29 (by decide) (by decide) (by decide) (by decide) ?_
    exact mw_works_493 fu C hret (G 57 (F 76).toNatClampNeg) F G hm hw (lv_sub hl [2, 1] rfl)
  have hm := (if_neg c_1).symm.trans hm
  have n_7 := c_1
  clear c_1
  by_cases c_1 : (G 56 (F 76).toNatClampNeg) = 9
  · have hm := (if_pos c_1).symm.trans hm
    refine my_top 9 c_1 ?_
    refine lv_tableIn (off := 525) (tgt := 554) hx hb dX12_works_29 (by decide) (by decide) (by decide) (by decide) ?_
    exact mw_works_554 fu C hret F G hm hw (lv_sub hl [2] rfl)
  have hm := (if_neg c_1).symm.trans hm
  have n_8 := c_1
  clear c_1
  by_cases c_1 : (G 56 (F 76).toNatClampNeg) = 10
  · have hm := (if_pos c_1).symm.trans hm
    refine my_top 10 c_1 ?_
    refine lv_tableIn (off := 837) (tgt := 866) hx hb dX12_works_29 (by decide) (by decide) (by decide) (by decide) ?_
    exact mw_works_866 fu C hret F G hm hw (lv_sub hl [2] rfl)
  have hm := (if_neg c_1).symm.trans hm
  have n_9 := c_1
  clear c_1
  by_cases c_1 : (G 56 (F 76).toNatClampNeg) = 11
  · have hm := (if_pos c_1).symm.trans hm
    refine my_top 11 c_1 ?_
    refine lv_tableIn (off := 837) (tgt := 866) hx hb dX12_works_29 (by decide) (by decide) (by decide) (by decide) ?_
    exact mw_works_866 fu C hret F G hm hw (lv_sub hl [2] rfl)
  have hm := (if_neg c_1).symm.trans hm
  have n_10 := c_1
  clear c_1
  by_cases c_1 : (G 56 (F 76).toNatClampNeg) = 12
  · have hm := (if_pos c_1).symm.trans hm
    refine my_top 12 c_1 ?_
    refine lv_tableIn (off := 837) (tgt := 866) hx hb dX12_works_29 (by decide) (by decide) (by decide) (by decide) ?_
    exact mw_works_866 fu C hret F G hm hw (lv_sub hl [2] rfl)
  have hm := (if_neg c_1).symm.trans hm
  have n_11 := c_1
  clear c_1
  by_cases c_1 : (G 56 (F 76).toNatClampNeg) = 13
  · have hm := (if_pos c_1).symm.trans hm
    refine my_top 13 c_1 ?_
    refine lv_tableIn (off := 837) (tgt := 866) hx hb dX12_works_29 (by decide) (by decide) (by decide) (by decide) ?_
    exact mw_works_866 fu C hret F G hm hw (lv_sub hl [2] rfl)
  have hm := (if_neg c_1).symm.trans hm
  have n_12 := c_1
  clear c_1
  by_cases c_1 : (G 56 (F 76).toNatClampNeg) = 14
  · have hm := (if_pos c_1).symm.trans hm
    refine my_top 14 c_1 ?_
    refine lv_tableIn (off := 837) (tgt := 866) hx hb dX12_works_29 (by decide) (by decide) (by decide) (by decide) ?_
    exact mw_works_866 fu C hret F G hm hw (lv_sub hl [2] rfl)
  have hm := (if_neg c_1).symm.trans hm
  have n_13 := c_1
  clear c_1
  by_cases c_1 : (G 56 (F 76).toNatClampNeg) = 15
  · have hm := (if_pos c_1).symm.trans hm
    refine my_top 15 c_1 ?_
    refine lv_tableIn (off := 558) (tgt := 587) hx hb dX12_works_29 (by decide) (by decide) (by decide) (by decide) ?_
    exact mw_works_587 fu C hret F G hm hw (lv_sub hl [2] rfl)
  have hm := (if_neg c_1).symm.trans hm
  have n_14 := c_1
  clear c_1
  by_cases c_1 : (G 56 (F 76).toNatClampNeg) = 16
  · have hm := (if_pos c_1).symm.trans hm
    refine my_top 16 c_1 ?_
    refine lv_tableIn (off := 590) (tgt := 619) hx hb dX12_works_29 (by decide) (by decide) (by decide) (by decide) ?_
    exact mw_works_619 fu C hret (G 57 (F 76).toNatClampNeg) (G 58 (F 76).toNatClampNeg) F G hm hw (lv_sub hl [2, 1, 0] rfl)
  have hm := (if_neg c_1).symm.trans hm
  have n_15 := c_1
  clear c_1
  by_cases c_1 : (G 56 (F 76).toNatClampNeg) = 17
  · have hm := (if_pos c_1).symm.trans hm
    refine my_top 17 c_1 ?_
    refine lv_tableIn (off := 603) (tgt := 632) hx hb dX12_works_29 (by decide) (by decide) (by decide) (by decide) ?_
    exact mw_works_632 fu C hret F G hm hw (lv_sub hl [2] rfl)
  have hm := (if_neg c_1).symm.trans hm
  have n_16 := c_1
  clear c_1
  by_cases c_1 : (G 56 (F 76).toNatClampNeg) = 18
  · have hm := (if_pos c_1).symm.trans hm
    refine my_top 18 c_1 ?_
    refine lv_tableIn (off := 621) (tgt := 650) hx hb dX12_works_29 (by decide) (by decide) (by decide) (by decide) ?_
    exact mw_works_650 fu C hret F G hm hw (lv_sub hl [2] rfl)
  have hm := (if_neg c_1).symm.trans hm
  have n_17 := c_1
  clear c_1
  by_cases c_1 : (G 56 (F 76).toNatClampNeg) = 19
  · have hm := (if_pos c_1).symm.trans hm
    refine my_top 19 c_1 ?_
    refine lv_tableIn (off := 634) (tgt := 663) hx hb dX12_works_29 (by decide) (by decide) (by decide) (by decide) ?_
    exact mw_works_663 fu C hret F G hm hw (lv_sub hl [2] rfl)
  have hm := (if_neg c_1).symm.trans hm
  have n_18 := c_1
  clear c_1
  by_cases c_1 : (G 56 (F 76).toNatClampNeg) = 20
  · have hm := (if_pos c_1).symm.trans hm
    refine my_top 20 c_1 ?_
    refine lv_tableIn (off := 695) (tgt := 724) hx hb dX12_works_29 (by decide) (by decide) (by decide) (by decide) ?_
    exact mw_works_724 fu C hret F G hm hw (lv_sub hl [2] rfl)
  have hm := (if_neg c_1).symm.trans hm
  have n_19 := c_1
  clear c_1
  by_cases c_1 : (G 56 (F 76).toNatClampNeg) = 21
  · have hm := (if_pos c_1).symm.trans hm
    refine my_top 21 c_1 ?_
    refine lv_tableIn (off := 725) (tgt := 754) hx hb dX12_works_29 (by decide) (by decide) (by decide) (by decide) ?_
    exact mw_works_754 fu C hret F G hm hw (lv_sub hl [2] rfl)
  have hm := (if_neg c_1).symm.trans hm
  have n_20 := c_1
  clear c_1
  have c_1 : (G 56 (F 76).toNatClampNeg) = 22 := my_last (l := 1) (k := 21) c_0 (by decide) (fun j hj => match j, hj with | 0, _ => fun h9 => n_0 (Int32.toInt_inj.mp (h9.trans (by decide))) | 1, _ => fun h9 => n_1 (Int32.toInt_inj.mp (h9.trans (by decide))) | 2, _ => fun h9 => n_2 (Int32.toInt_inj.mp (h9.trans (by decide))) | 3, _ => fun h9 => n_3 (Int32.toInt_inj.mp (h9.trans (by decide))) | 4, _ => fun h9 => n_4 (Int32.toInt_inj.mp (h9.trans (by decide))) | 5, _ => fun h9 => n_5 (Int32.toInt_inj.mp (h9.trans (by decide))) | 6, _ => fun h9 => n_6 (Int32.toInt_inj.mp (h9.trans (by decide))) | 7, _ => fun h9 => n_7 (Int32.toInt_inj.mp (h9.trans (by decide))) | 8, _ => fun h9 => n_8 (Int32.toInt_inj.mp (h9.trans (by decide))) | 9, _ => fun h9 => n_9 (Int32.toInt_inj.mp (h9.trans (by decide))) | 10, _ => fun h9 => n_10 (Int32.toInt_inj.mp (h9.trans (by decide))) | 11, _ => fun h9 => n_11 (Int32.toInt_inj.mp (h9.trans (by decide))) | 12, _ => fun h9 => n_12 (Int32.toInt_inj.mp (h9.trans (by decide))) | 13, _ => fun h9 => n_13 (Int32.toInt_inj.mp (h9.trans (by decide))) | 14, _ => fun h9 => n_14 (Int32.toInt_inj.mp (h9.trans (by decide))) | 15, _ => fun h9 => n_15 (Int32.toInt_inj.mp (h9.trans (by decide))) | 16, _ => fun h9 => n_16 (Int32.toInt_inj.mp (h9.trans (by decide))) | 17, _ => fun h9 => n_17 (Int32.toInt_inj.mp (h9.trans (by decide))) | 18, _ => fun h9 => n_18 (Int32.toInt_inj.mp (h9.trans (by decide))) | 19, _ => fun h9 => n_19 (Int32.toInt_inj.mp (h9.trans (by decide))) | 20, _ => fun h9 => n_20 (Int32.toInt_inj.mp (h9.trans (by decide))) | q + 21, h => absurd h (by omega)) (by decide)
  refine my_top 22 c_1 ?_
  refine lv_tableIn (off := 807) (tgt := 836) hx hb dX12_works_29 (by decide) (by decide) (by decide) (by decide) ?_
  exact mw_works_836 fu C hret (G 57 (F 76).toNatClampNeg) (G 58 (F 76).toNatClampNeg) F G hm hw (lv_sub hl [2, 1, 0] rfl)
theorem mk_works (l : Launch) (v : EV) (a : Nat → Nat) (sz : Nat) (fu : Nat) (F : PF) (G : PG) (r : Int32) (F1 : PF) (G1 : PG) (hm : mf_works fu F G = some (r, F1, G1)) : mMI l yX12_works cX12_works 6 (some .boolean) 3 65 v a sz [.ref (a 212)] F G r F1 G1 := mMI.of (ty := .boolean) (by decide) rfl (Nat.le_of_ble_eq_true rfl) (fun p e R s m args below meth c Q A H locs ls C hw hl hret => mw_works_0 fu (res := (r, F1, G1)) C hret F G hm hw hl)
def mb_run_18 (fu : Nat) (F : PF) (G : PG) : PR := some ((-1), F, G)
def mb_run_97 (fu : Nat) (F : PF) (G : PG) : PR := some ((F 75), F, G)
def mb_run_93 (fu : Nat) (ag_77 : Int32 → PF → PG → PR) (z0 : Int32) (F : PF) (G : PG) : PR := ag_77 z0 F G
def mb_run_89 (fu : Nat) (ag_77 : Int32 → PF → PG → PR) (F : PF) (G : PG) : PR := (mf_works fu F G).bind (fun q => mb_run_93 fu ag_77 q.1 q.2.1 q.2.2)
def mb_run_81 (fu : Nat) (ag_77 : Int32 → PF → PG → PR) (F : PF) (G : PG) : PR := if (F 75) = (1 : Int32) then mb_run_89 fu ag_77 F G else mb_run_97 fu F G
def mb_run_77 (fu : Nat) (ag_77 : Int32 → PF → PG → PR) (x2 : Int32) (F : PF) (G : PG) : PR := if x2 = (0 : Int32) then mb_run_97 fu F G else mb_run_81 fu ag_77 F G
def ml_run_77 (fu : Nat) : Nat → Int32 → PF → PG → PR
  | 0 => fun _ _ _ => none
  | n + 1 => fun x2 F G => mb_run_77 fu (ml_run_77 fu n) x2 F G
def mb_run_76 (fu : Nat) (z0 : Int32) (F : PF) (G : PG) : PR := ml_run_77 fu fu z0 F G
def mb_run_71 (fu : Nat) (F : PF) (G : PG) : PR := mb_run_76 fu 1 F G
def mb_run_75 (fu : Nat) (F : PF) (G : PG) : PR := mb_run_76 fu 0 F G
def mb_run_68 (fu : Nat) (z0 : Int32) (F : PF) (G : PG) : PR := if z0 = (0 : Int32) then mb_run_75 fu F G else mb_run_71 fu F G
def mb_run_50 (fu : Nat) (F : PF) (G : PG) : PR := if ixb (F 74) 500 = true then ((mf_calls fu (F 74) (G 26 (F 74).toNatClampNeg) 0 F G).bind (fun q => mb_run_68 fu q.1 q.2.1 q.2.2)) else none
def mb_run_43 (fu : Nat) (F : PF) (G : PG) : PR := if (0 : Int32) < (F 85) then mb_run_71 fu F G else mb_run_50 fu F G
def mb_run_38 (fu : Nat) (F : PF) (G : PG) : PR := mb_run_43 fu (fup F 75 (1 : Int32)) G
def mb_run_33 (fu : Nat) (x1 : Int32) (F : PF) (G : PG) : PR := mb_run_38 fu (fup F 78 x1) G
def mb_run_28 (fu : Nat) (F : PF) (G : PG) : PR := some ((F 75), F, G)
def mb_run_20 (fu : Nat) (x1 : Int32) (F : PF) (G : PG) : PR := if (F 75) ≤ (2 : Int32) then mb_run_33 fu x1 F G else mb_run_28 fu F G
def mb_run_11 (fu : Nat) (x1 : Int32) (F : PF) (G : PG) : PR := if (F 75) = (0 : Int32) then mb_run_18 fu F G else mb_run_20 fu x1 F G
def mb_run_4 (fu : Nat) (x1 : Int32) (F : PF) (G : PG) : PR := if (1000 : Int32) < x1 then mb_run_18 fu F G else mb_run_11 fu x1 F G
def mb_run_0 (fu : Nat) (x1 : Int32) (F : PF) (G : PG) : PR := if x1 < (0 : Int32) then mb_run_18 fu F G else mb_run_4 fu x1 F G
def mf_run (fu : Nat) (x1 : Int32) (F : PF) (G : PG) : PR := mb_run_0 fu x1 F G
theorem mw_run_18 (fu : Nat) {res : Int32 × PF × PG} (C : mMC p R s m args c A v RX12 cX12_run 3 4 90) (hret : ∀ (H1 : Heap) (locs1 : List Loc) (ls1 : Array Slot) (pc : Nat), mMW s A v a res.2.1 res.2.2 H1 locs1 → narrow .int (.int res.1) = .int res.1 → decode cX12_run pc = .ok (.ireturn, 1) → W p l e R s m args below meth c H1 locs1 0 0 Q (F0 m pc ls1 [.int res.1])) (F : PF) (G : PG) (hm : mb_run_18 fu F G = some res) {H : Heap} {locs : List Loc} (hw : mMW s A v a F G H locs) {ls : Array Slot} (hl : lv_has ls 3 []) : W p l e R s m args below meth c H locs 0 0 Q (F0 m 18 ls []) := by
  have hx := C.1
  have hb := C.2.1
  unfold mb_run_18 at hm
  refine lv_iconst (v := (-1)) hx hb dX12_run_18 (by decide) ?_
  obtain rfl := Option.some.inj hm
  exact hret _ _ _ _ hw rfl dX12_run_19
theorem mw_run_97 (fu : Nat) {res : Int32 × PF × PG} (C : mMC p R s m args c A v RX12 cX12_run 3 4 90) (hret : ∀ (H1 : Heap) (locs1 : List Loc) (ls1 : Array Slot) (pc : Nat), mMW s A v a res.2.1 res.2.2 H1 locs1 → narrow .int (.int res.1) = .int res.1 → decode cX12_run pc = .ok (.ireturn, 1) → W p l e R s m args below meth c H1 locs1 0 0 Q (F0 m pc ls1 [.int res.1])) (F : PF) (G : PG) (hm : mb_run_97 fu F G = some res) {H : Heap} {locs : List Loc} (hw : mMW s A v a F G H locs) {ls : Array Slot} (hl : lv_has ls 3 [(0, .ref (a 212))]) : W p l e R s m args below meth c H locs 0 0 Q (F0 m 97 ls []) := by
  have hx := C.1
  have hb := C.2.1
  unfold mb_run_97 at hm
  refine lv_aload_n hx hb dX12_run_97 rfl (lv_at hl 0 rfl) ?_
  refine mg_X12_512 C hw dX12_run_98 ?_
  obtain rfl := Option.some.inj hm
  exact hret _ _ _ _ hw rfl dX12_run_101
theorem mw_run_93 (fu : Nat) {res : Int32 × PF × PG} (C : mMC p R s m args c A v RX12 cX12_run 3 4 90) (hret : ∀ (H1 : Heap) (locs1 : List Loc) (ls1 : Array Slot) (pc : Nat), mMW s A v a res.2.1 res.2.2 H1 locs1 → narrow .int (.int res.1) = .int res.1 → decode cX12_run pc = .ok (.ireturn, 1) → W p l e R s m args below meth c H1 locs1 0 0 Q (F0 m pc ls1 [.int res.1])) (ag_77 : Int32 → PF → PG → PR) (hag_77 : ∀ (x2 : Int32) (F : PF) (G : PG), ag_77 x2 F G = some res → ∀ (H : Heap) (locs : List Loc) (ls : Array Slot), mMW s A v a F G H locs → lv_has ls 3 [(0, .ref (a 212)), (2, .int x2)] → W p l e R s m args below meth c H locs 0 0 Q (F0 m 77 ls [])) (z0 : Int32) (F : PF) (G : PG) (hm : mb_run_93 fu ag_77 z0 F G = some res) {H : Heap} {locs : List Loc} (hw : mMW s A v a F G H locs) {ls : Array Slot} (hl : lv_has ls 3 [(0, .ref (a 212))]) : W p l e R s m args below meth c H locs 0 0 Q (F0 m 93 ls [.int z0]) := by
  have hx := C.1
  have hb := C.2.1
  unfold mb_run_93 at hm
  refine lv_istore_n (lv' := [(2, .int z0), (0, .ref (a 212))]) hx hb dX12_run_93 rfl hl (by decide) rfl (fun ls hl => ?_)
  refine lv_goto (tgt := 77) hx hb dX12_run_94 (by decide) ?_
  exact hag_77 z0 F G hm _ _ _ hw (lv_sub hl [1, 0] rfl)
theorem mw_run_89 (fu : Nat) {res : Int32 × PF × PG} (C : mMC p R s m args c A v RX12 cX12_run 3 4 90) (hret : ∀ (H1 : Heap) (locs1 : List Loc) (ls1 : Array Slot) (pc : Nat), mMW s A v a res.2.1 res.2.2 H1 locs1 → narrow .int (.int res.1) = .int res.1 → decode cX12_run pc = .ok (.ireturn, 1) → W p l e R s m args below meth c H1 locs1 0 0 Q (F0 m pc ls1 [.int res.1])) (ag_77 : Int32 → PF → PG → PR) (hag_77 : ∀ (x2 : Int32) (F : PF) (G : PG), ag_77 x2 F G = some res → ∀ (H : Heap) (locs : List Loc) (ls : Array Slot), mMW s A v a F G H locs → lv_has ls 3 [(0, .ref (a 212)), (2, .int x2)] → W p l e R s m args below meth c H locs 0 0 Q (F0 m 77 ls [])) (F : PF) (G : PG) (hm : mb_run_89 fu ag_77 F G = some res) {H : Heap} {locs : List Loc} (hw : mMW s A v a F G H locs) {ls : Array Slot} (hl : lv_has ls 3 [(0, .ref (a 212))]) : W p l e R s m args below meth c H locs 0 0 Q (F0 m 89 ls []) := by
  have hx := C.1
  have hb := C.2.1
  unfold mb_run_89 at hm
  refine lv_aload_n hx hb dX12_run_89 rfl (lv_at hl 0 rfl) ?_
  obtain ⟨⟨r1, F1, G1⟩, hc, hm⟩ := bind_elim hm
  refine mcallI (n := 0) (As := []) (rest := []) C hw (mk_works l v a _ fu F G r1 F1 G1 hc) (mrecv_X12 C hw) mm_441 mm_442 mm_443 mm_27 mm_444 (by decide +kernel) rfl (by omega) (by omega) hl.1 rfl (Nat.le_of_ble_eq_true rfl) dX12_run_90 (fun H locs hw => ?_)
  exact mw_run_93 fu C hret ag_77 hag_77 r1 F1 G1 hm hw (lv_sub hl [0] rfl)
theorem mw_run_81 (fu : Nat) {res : Int32 × PF × PG} (C : mMC p R s m args c A v RX12 cX12_run 3 4 90) (hret : ∀ (H1 : Heap) (locs1 : List Loc) (ls1 : Array Slot) (pc : Nat), mMW s A v a res.2.1 res.2.2 H1 locs1 → narrow .int (.int res.1) = .int res.1 → decode cX12_run pc = .ok (.ireturn, 1) → W p l e R s m args below meth c H1 locs1 0 0 Q (F0 m pc ls1 [.int res.1])) (ag_77 : Int32 → PF → PG → PR) (hag_77 : ∀ (x2 : Int32) (F : PF) (G : PG), ag_77 x2 F G = some res → ∀ (H : Heap) (locs : List Loc) (ls : Array Slot), mMW s A v a F G H locs → lv_has ls 3 [(0, .ref (a 212)), (2, .int x2)] → W p l e R s m args below meth c H locs 0 0 Q (F0 m 77 ls [])) (F : PF) (G : PG) (hm : mb_run_81 fu ag_77 F G = some res) {H : Heap} {locs : List Loc} (hw : mMW s A v a F G H locs) {ls : Array Slot} (hl : lv_has ls 3 [(0, .ref (a 212))]) : W p l e R s m args below meth c H locs 0 0 Q (F0 m 81 ls []) := by
  have hx := C.1
  have hb := C.2.1
  unfold mb_run_81 at hm
  refine lv_aload_n hx hb dX12_run_81 rfl (lv_at hl 0 rfl) ?_
  refine mg_X12_512 C hw dX12_run_82 ?_
  refine lv_iconst (v := 1) hx hb dX12_run_85 (by decide) ?_
  refine lv_icmp_ne (tgt := 97) hx hb dX12_run_86 (by decide) (fun c_1 => ?_) (fun c_1 => ?_)
  · have hm := (if_neg c_1).symm.trans hm
    exact mw_run_97 fu C hret F G hm hw (lv_sub hl [0] rfl)
  · have hm := (if_pos c_1).symm.trans hm
    exact mw_run_89 fu C hret ag_77 hag_77 F G hm hw (lv_sub hl [0] rfl)
theorem mw_run_77 (fu : Nat) {res : Int32 × PF × PG} (C : mMC p R s m args c A v RX12 cX12_run 3 4 90) (hret : ∀ (H1 : Heap) (locs1 : List Loc) (ls1 : Array Slot) (pc : Nat), mMW s A v a res.2.1 res.2.2 H1 locs1 → narrow .int (.int res.1) = .int res.1 → decode cX12_run pc = .ok (.ireturn, 1) → W p l e R s m args below meth c H1 locs1 0 0 Q (F0 m pc ls1 [.int res.1])) (ag_77 : Int32 → PF → PG → PR) (hag_77 : ∀ (x2 : Int32) (F : PF) (G : PG), ag_77 x2 F G = some res → ∀ (H : Heap) (locs : List Loc) (ls : Array Slot), mMW s A v a F G H locs → lv_has ls 3 [(0, .ref (a 212)), (2, .int x2)] → W p l e R s m args below meth c H locs 0 0 Q (F0 m 77 ls [])) (x2 : Int32) (F : PF) (G : PG) (hm : mb_run_77 fu ag_77 x2 F G = some res) {H : Heap} {locs : List Loc} (hw : mMW s A v a F G H locs) {ls : Array Slot} (hl : lv_has ls 3 [(0, .ref (a 212)), (2, .int x2)]) : W p l e R s m args below meth c H locs 0 0 Q (F0 m 77 ls []) := by
  have hx := C.1
  have hb := C.2.1
  unfold mb_run_77 at hm
  refine lv_iload_n hx hb dX12_run_77 rfl (lv_at hl 1 rfl) ?_
  refine lv_if_eq (tgt := 97) hx hb dX12_run_78 (by decide) (fun c_1 => ?_) (fun c_1 => ?_)
  · have hm := (if_pos c_1).symm.trans hm
    exact mw_run_97 fu C hret F G hm hw (lv_sub hl [0] rfl)
  · have hm := (if_neg c_1).symm.trans hm
    exact mw_run_81 fu C hret ag_77 hag_77 F G hm hw (lv_sub hl [0] rfl)
theorem mwl_run_77 (fu : Nat) {res : Int32 × PF × PG} (C : mMC p R s m args c A v RX12 cX12_run 3 4 90) (hret : ∀ (H1 : Heap) (locs1 : List Loc) (ls1 : Array Slot) (pc : Nat), mMW s A v a res.2.1 res.2.2 H1 locs1 → narrow .int (.int res.1) = .int res.1 → decode cX12_run pc = .ok (.ireturn, 1) → W p l e R s m args below meth c H1 locs1 0 0 Q (F0 m pc ls1 [.int res.1])) : ∀ (n : Nat) (x2 : Int32) (F : PF) (G : PG) (hm : ml_run_77 fu n x2 F G = some res) {H : Heap} {locs : List Loc} (hw : mMW s A v a F G H locs) {ls : Array Slot} (hl : lv_has ls 3 [(0, .ref (a 212)), (2, .int x2)]), W p l e R s m args below meth c H locs 0 0 Q (F0 m 77 ls []) := by
  intro n
  induction n with
  | zero =>
    intro x2 F G hm
    exact no_elim (show (none : PR) = some res from hm)
  | succ n ih =>
    intro x2 F G hm H locs hw ls hl
    exact mw_run_77 fu C hret (ml_run_77 fu n) (fun x2 F G hm H locs ls hw hl => ih x2 F G hm hw hl) x2 F G hm hw hl
theorem mw_run_76 (fu : Nat) {res : Int32 × PF × PG} (C : mMC p R s m args c A v RX12 cX12_run 3 4 90) (hret : ∀ (H1 : Heap) (locs1 : List Loc) (ls1 : Array Slot) (pc : Nat), mMW s A v a res.2.1 res.2.2 H1 locs1 → narrow .int (.int res.1) = .int res.1 → decode cX12_run pc = .ok (.ireturn, 1) → W p l e R s m args below meth c H1 locs1 0 0 Q (F0 m pc ls1 [.int res.1])) (z0 : Int32) (F : PF) (G : PG) (hm : mb_run_76 fu z0 F G = some res) {H : Heap} {locs : List Loc} (hw : mMW s A v a F G H locs) {ls : Array Slot} (hl : lv_has ls 3 [(0, .ref (a 212))]) : W p l e R s m args below meth c H locs 0 0 Q (F0 m 76 ls [.int z0]) := by
  have hx := C.1
  have hb := C.2.1
  unfold mb_run_76 at hm
  refine lv_istore_n (lv' := [(2, .int z0), (0, .ref (a 212))]) hx hb dX12_run_76 rfl hl (by decide) rfl (fun ls hl => ?_)
  exact mwl_run_77 fu C hret fu z0 F G hm hw (lv_sub hl [1, 0] rfl)
theorem mw_run_71 (fu : Nat) {res : Int32 × PF × PG} (C : mMC p R s m args c A v RX12 cX12_run 3 4 90) (hret : ∀ (H1 : Heap) (locs1 : List Loc) (ls1 : Array Slot) (pc : Nat), mMW s A v a res.2.1 res.2.2 H1 locs1 → narrow .int (.int res.1) = .int res.1 → decode cX12_run pc = .ok (.ireturn, 1) → W p l e R s m args below meth c H1 locs1 0 0 Q (F0 m pc ls1 [.int res.1])) (F : PF) (G : PG) (hm : mb_run_71 fu F G = some res) {H : Heap} {locs : List Loc} (hw : mMW s A v a F G H locs) {ls : Array Slot} (hl : lv_has ls 3 [(0, .ref (a 212))]) : W p l e R s m args below meth c H locs 0 0 Q (F0 m 71 ls []) := by
  have hx := C.1
  have hb := C.2.1
  unfold mb_run_71 at hm
  refine lv_iconst (v := 1) hx hb dX12_run_71 (by decide) ?_
  refine lv_goto (tgt := 76) hx hb dX12_run_72 (by decide) ?_
  exact mw_run_76 fu C hret 1 F G hm hw (lv_sub hl [0] rfl)
theorem mw_run_75 (fu : Nat) {res : Int32 × PF × PG} (C : mMC p R s m args c A v RX12 cX12_run 3 4 90) (hret : ∀ (H1 : Heap) (locs1 : List Loc) (ls1 : Array Slot) (pc : Nat), mMW s A v a res.2.1 res.2.2 H1 locs1 → narrow .int (.int res.1) = .int res.1 → decode cX12_run pc = .ok (.ireturn, 1) → W p l e R s m args below meth c H1 locs1 0 0 Q (F0 m pc ls1 [.int res.1])) (F : PF) (G : PG) (hm : mb_run_75 fu F G = some res) {H : Heap} {locs : List Loc} (hw : mMW s A v a F G H locs) {ls : Array Slot} (hl : lv_has ls 3 [(0, .ref (a 212))]) : W p l e R s m args below meth c H locs 0 0 Q (F0 m 75 ls []) := by
  have hx := C.1
  have hb := C.2.1
  unfold mb_run_75 at hm
  refine lv_iconst (v := 0) hx hb dX12_run_75 (by decide) ?_
  exact mw_run_76 fu C hret 0 F G hm hw (lv_sub hl [0] rfl)
theorem mw_run_68 (fu : Nat) {res : Int32 × PF × PG} (C : mMC p R s m args c A v RX12 cX12_run 3 4 90) (hret : ∀ (H1 : Heap) (locs1 : List Loc) (ls1 : Array Slot) (pc : Nat), mMW s A v a res.2.1 res.2.2 H1 locs1 → narrow .int (.int res.1) = .int res.1 → decode cX12_run pc = .ok (.ireturn, 1) → W p l e R s m args below meth c H1 locs1 0 0 Q (F0 m pc ls1 [.int res.1])) (z0 : Int32) (F : PF) (G : PG) (hm : mb_run_68 fu z0 F G = some res) {H : Heap} {locs : List Loc} (hw : mMW s A v a F G H locs) {ls : Array Slot} (hl : lv_has ls 3 [(0, .ref (a 212))]) : W p l e R s m args below meth c H locs 0 0 Q (F0 m 68 ls [.int z0]) := by
  have hx := C.1
  have hb := C.2.1
  unfold mb_run_68 at hm
  refine lv_if_eq (tgt := 75) hx hb dX12_run_68 (by decide) (fun c_1 => ?_) (fun c_1 => ?_)
  · have hm := (if_pos c_1).symm.trans hm
    exact mw_run_75 fu C hret F G hm hw (lv_sub hl [0] rfl)
  · have hm := (if_neg c_1).symm.trans hm
    exact mw_run_71 fu C hret F G hm hw (lv_sub hl [0] rfl)
theorem mw_run_50 (fu : Nat) {res : Int32 × PF × PG} (C : mMC p R s m args c A v RX12 cX12_run 3 4 90) (hret : ∀ (H1 : Heap) (locs1 : List Loc) (ls1 : Array Slot) (pc : Nat), mMW s A v a res.2.1 res.2.2 H1 locs1 → narrow .int (.int res.1) = .int res.1 → decode cX12_run pc = .ok (.ireturn, 1) → W p l e R s m args below meth c H1 locs1 0 0 Q (F0 m pc ls1 [.int res.1])) (F : PF) (G : PG) (hm : mb_run_50 fu F G = some res) {H : Heap} {locs : List Loc} (hw : mMW s A v a F G H locs) {ls : Array Slot} (hl : lv_has ls 3 [(0, .ref (a 212))]) : W p l e R s m args below meth c H locs 0 0 Q (F0 m 50 ls []) := by
  have hx := C.1
  have hb := C.2.1
  unfold mb_run_50 at hm
  refine lv_aload_n hx hb dX12_run_50 rfl (lv_at hl 0 rfl) ?_
  refine lv_aload_n hx hb dX12_run_51 rfl (lv_at hl 0 rfl) ?_
  refine mg_X12_527 C hw dX12_run_52 ?_
  refine lv_aload_n hx hb dX12_run_55 rfl (lv_at hl 0 rfl) ?_
  refine mg_X12_65 C hw dX12_run_56 ?_
  refine lv_aload_n hx hb dX12_run_59 rfl (lv_at hl 0 rfl) ?_
  refine mg_X12_527 C hw dX12_run_60 ?_
  obtain ⟨hi, hm⟩ := ix_elim hm
  refine mal_26 C hw hi dX12_run_63 ?_
  refine lv_iconst (v := 0) hx hb dX12_run_64 (by decide) ?_
  obtain ⟨⟨r1, F1, G1⟩, hc, hm⟩ := bind_elim hm
  refine mcallI (n := 3) (As := [.int (F 74), .int (G 26 (F 74).toNatClampNeg), .int 0]) (rest := []) C hw (mk_calls l v a _ fu (F 74) (G 26 (F 74).toNatClampNeg) 0 F G r1 F1 G1 hc) (mrecv_X12 C hw) mm_431 mm_432 mm_433 mm_27 mm_434 (by decide +kernel) rfl (by omega) (by omega) hl.1 rfl (Nat.le_of_ble_eq_true rfl) dX12_run_65 (fun H locs hw => ?_)
  exact mw_run_68 fu C hret r1 F1 G1 hm hw (lv_sub hl [0] rfl)
theorem mw_run_43 (fu : Nat) {res : Int32 × PF × PG} (C : mMC p R s m args c A v RX12 cX12_run 3 4 90) (hret : ∀ (H1 : Heap) (locs1 : List Loc) (ls1 : Array Slot) (pc : Nat), mMW s A v a res.2.1 res.2.2 H1 locs1 → narrow .int (.int res.1) = .int res.1 → decode cX12_run pc = .ok (.ireturn, 1) → W p l e R s m args below meth c H1 locs1 0 0 Q (F0 m pc ls1 [.int res.1])) (F : PF) (G : PG) (hm : mb_run_43 fu F G = some res) {H : Heap} {locs : List Loc} (hw : mMW s A v a F G H locs) {ls : Array Slot} (hl : lv_has ls 3 [(0, .ref (a 212))]) : W p l e R s m args below meth c H locs 0 0 Q (F0 m 43 ls []) := by
  have hx := C.1
  have hb := C.2.1
  unfold mb_run_43 at hm
  refine lv_aload_n hx hb dX12_run_43 rfl (lv_at hl 0 rfl) ?_
  refine mg_X12_533 C hw dX12_run_44 ?_
  refine lv_if_gt (tgt := 71) hx hb dX12_run_47 (by decide) (fun c_1 => ?_) (fun c_1 => ?_)
  · have hm := (if_pos c_1).symm.trans hm
    exact mw_run_71 fu C hret F G hm hw (lv_sub hl [0] rfl)
  · have hm := (if_neg c_1).symm.trans hm
    exact mw_run_50 fu C hret F G hm hw (lv_sub hl [0] rfl)
theorem mw_run_38 (fu : Nat) {res : Int32 × PF × PG} (C : mMC p R s m args c A v RX12 cX12_run 3 4 90) (hret : ∀ (H1 : Heap) (locs1 : List Loc) (ls1 : Array Slot) (pc : Nat), mMW s A v a res.2.1 res.2.2 H1 locs1 → narrow .int (.int res.1) = .int res.1 → decode cX12_run pc = .ok (.ireturn, 1) → W p l e R s m args below meth c H1 locs1 0 0 Q (F0 m pc ls1 [.int res.1])) (F : PF) (G : PG) (hm : mb_run_38 fu F G = some res) {H : Heap} {locs : List Loc} (hw : mMW s A v a F G H locs) {ls : Array Slot} (hl : lv_has ls 3 [(0, .ref (a 212))]) : W p l e R s m args below meth c H locs 0 0 Q (F0 m 38 ls []) := by
  have hx := C.1
  have hb := C.2.1
  unfold mb_run_38 at hm
  refine lv_aload_n hx hb dX12_run_38 rfl (lv_at hl 0 rfl) ?_
  refine lv_iconst (v := 1) hx hb dX12_run_39 (by decide) ?_
  refine mp_X12_512 C hw dX12_run_40 (fun H locs hw => ?_)
  exact mw_run_43 fu C hret (fup F 75 (1 : Int32)) G hm hw (lv_sub hl [0] rfl)
theorem mw_run_33 (fu : Nat) {res : Int32 × PF × PG} (C : mMC p R s m args c A v RX12 cX12_run 3 4 90) (hret : ∀ (H1 : Heap) (locs1 : List Loc) (ls1 : Array Slot) (pc : Nat), mMW s A v a res.2.1 res.2.2 H1 locs1 → narrow .int (.int res.1) = .int res.1 → decode cX12_run pc = .ok (.ireturn, 1) → W p l e R s m args below meth c H1 locs1 0 0 Q (F0 m pc ls1 [.int res.1])) (x1 : Int32) (F : PF) (G : PG) (hm : mb_run_33 fu x1 F G = some res) {H : Heap} {locs : List Loc} (hw : mMW s A v a F G H locs) {ls : Array Slot} (hl : lv_has ls 3 [(0, .ref (a 212)), (1, .int x1)]) : W p l e R s m args below meth c H locs 0 0 Q (F0 m 33 ls []) := by
  have hx := C.1
  have hb := C.2.1
  unfold mb_run_33 at hm
  refine lv_aload_n hx hb dX12_run_33 rfl (lv_at hl 0 rfl) ?_
  refine lv_iload_n hx hb dX12_run_34 rfl (lv_at hl 1 rfl) ?_
  refine mp_X12_556 C hw dX12_run_35 (fun H locs hw => ?_)
  exact mw_run_38 fu C hret (fup F 78 x1) G hm hw (lv_sub hl [0] rfl)
theorem mw_run_28 (fu : Nat) {res : Int32 × PF × PG} (C : mMC p R s m args c A v RX12 cX12_run 3 4 90) (hret : ∀ (H1 : Heap) (locs1 : List Loc) (ls1 : Array Slot) (pc : Nat), mMW s A v a res.2.1 res.2.2 H1 locs1 → narrow .int (.int res.1) = .int res.1 → decode cX12_run pc = .ok (.ireturn, 1) → W p l e R s m args below meth c H1 locs1 0 0 Q (F0 m pc ls1 [.int res.1])) (F : PF) (G : PG) (hm : mb_run_28 fu F G = some res) {H : Heap} {locs : List Loc} (hw : mMW s A v a F G H locs) {ls : Array Slot} (hl : lv_has ls 3 [(0, .ref (a 212))]) : W p l e R s m args below meth c H locs 0 0 Q (F0 m 28 ls []) := by
  have hx := C.1
  have hb := C.2.1
  unfold mb_run_28 at hm
  refine lv_aload_n hx hb dX12_run_28 rfl (lv_at hl 0 rfl) ?_
  refine mg_X12_512 C hw dX12_run_29 ?_
  obtain rfl := Option.some.inj hm
  exact hret _ _ _ _ hw rfl dX12_run_32
theorem mw_run_20 (fu : Nat) {res : Int32 × PF × PG} (C : mMC p R s m args c A v RX12 cX12_run 3 4 90) (hret : ∀ (H1 : Heap) (locs1 : List Loc) (ls1 : Array Slot) (pc : Nat), mMW s A v a res.2.1 res.2.2 H1 locs1 → narrow .int (.int res.1) = .int res.1 → decode cX12_run pc = .ok (.ireturn, 1) → W p l e R s m args below meth c H1 locs1 0 0 Q (F0 m pc ls1 [.int res.1])) (x1 : Int32) (F : PF) (G : PG) (hm : mb_run_20 fu x1 F G = some res) {H : Heap} {locs : List Loc} (hw : mMW s A v a F G H locs) {ls : Array Slot} (hl : lv_has ls 3 [(0, .ref (a 212)), (1, .int x1)]) : W p l e R s m args below meth c H locs 0 0 Q (F0 m 20 ls []) := by
  have hx := C.1
  have hb := C.2.1
  unfold mb_run_20 at hm
  refine lv_aload_n hx hb dX12_run_20 rfl (lv_at hl 0 rfl) ?_
  refine mg_X12_512 C hw dX12_run_21 ?_
  refine lv_iconst (v := 2) hx hb dX12_run_24 (by decide) ?_
  refine lv_icmp_le (tgt := 33) hx hb dX12_run_25 (by decide) (fun c_1 => ?_) (fun c_1 => ?_)
  · have hm := (if_pos c_1).symm.trans hm
    exact mw_run_33 fu C hret x1 F G hm hw (lv_sub hl [0, 1] rfl)
  · have hm := (if_neg c_1).symm.trans hm
    exact mw_run_28 fu C hret F G hm hw (lv_sub hl [0] rfl)
theorem mw_run_11 (fu : Nat) {res : Int32 × PF × PG} (C : mMC p R s m args c A v RX12 cX12_run 3 4 90) (hret : ∀ (H1 : Heap) (locs1 : List Loc) (ls1 : Array Slot) (pc : Nat), mMW s A v a res.2.1 res.2.2 H1 locs1 → narrow .int (.int res.1) = .int res.1 → decode cX12_run pc = .ok (.ireturn, 1) → W p l e R s m args below meth c H1 locs1 0 0 Q (F0 m pc ls1 [.int res.1])) (x1 : Int32) (F : PF) (G : PG) (hm : mb_run_11 fu x1 F G = some res) {H : Heap} {locs : List Loc} (hw : mMW s A v a F G H locs) {ls : Array Slot} (hl : lv_has ls 3 [(0, .ref (a 212)), (1, .int x1)]) : W p l e R s m args below meth c H locs 0 0 Q (F0 m 11 ls []) := by
  have hx := C.1
  have hb := C.2.1
  unfold mb_run_11 at hm
  refine lv_aload_n hx hb dX12_run_11 rfl (lv_at hl 0 rfl) ?_
  refine mg_X12_512 C hw dX12_run_12 ?_
  refine lv_if_ne (tgt := 20) hx hb dX12_run_15 (by decide) (fun c_1 => ?_) (fun c_1 => ?_)
  · have hm := (if_neg c_1).symm.trans hm
    exact mw_run_20 fu C hret x1 F G hm hw (lv_sub hl [0, 1] rfl)
  · have hm := (if_pos c_1).symm.trans hm
    exact mw_run_18 fu C hret F G hm hw (lv_sub hl [] rfl)
theorem mw_run_4 (fu : Nat) {res : Int32 × PF × PG} (C : mMC p R s m args c A v RX12 cX12_run 3 4 90) (hret : ∀ (H1 : Heap) (locs1 : List Loc) (ls1 : Array Slot) (pc : Nat), mMW s A v a res.2.1 res.2.2 H1 locs1 → narrow .int (.int res.1) = .int res.1 → decode cX12_run pc = .ok (.ireturn, 1) → W p l e R s m args below meth c H1 locs1 0 0 Q (F0 m pc ls1 [.int res.1])) (x1 : Int32) (F : PF) (G : PG) (hm : mb_run_4 fu x1 F G = some res) {H : Heap} {locs : List Loc} (hw : mMW s A v a F G H locs) {ls : Array Slot} (hl : lv_has ls 3 [(0, .ref (a 212)), (1, .int x1)]) : W p l e R s m args below meth c H locs 0 0 Q (F0 m 4 ls []) := by
  have hx := C.1
  have hb := C.2.1
  unfold mb_run_4 at hm
  refine lv_iload_n hx hb dX12_run_4 rfl (lv_at hl 1 rfl) ?_
  refine lv_sipush (v := 1000) hx hb dX12_run_5 (by decide) ?_
  refine lv_icmp_gt (tgt := 18) hx hb dX12_run_8 (by decide) (fun c_1 => ?_) (fun c_1 => ?_)
  · have hm := (if_pos c_1).symm.trans hm
    exact mw_run_18 fu C hret F G hm hw (lv_sub hl [] rfl)
  · have hm := (if_neg c_1).symm.trans hm
    exact mw_run_11 fu C hret x1 F G hm hw (lv_sub hl [0, 1] rfl)
theorem mw_run_0 (fu : Nat) {res : Int32 × PF × PG} (C : mMC p R s m args c A v RX12 cX12_run 3 4 90) (hret : ∀ (H1 : Heap) (locs1 : List Loc) (ls1 : Array Slot) (pc : Nat), mMW s A v a res.2.1 res.2.2 H1 locs1 → narrow .int (.int res.1) = .int res.1 → decode cX12_run pc = .ok (.ireturn, 1) → W p l e R s m args below meth c H1 locs1 0 0 Q (F0 m pc ls1 [.int res.1])) (x1 : Int32) (F : PF) (G : PG) (hm : mb_run_0 fu x1 F G = some res) {H : Heap} {locs : List Loc} (hw : mMW s A v a F G H locs) {ls : Array Slot} (hl : lv_has ls 3 [(0, .ref (a 212)), (1, .int x1)]) : W p l e R s m args below meth c H locs 0 0 Q (F0 m 0 ls []) := by
  have hx := C.1
  have hb := C.2.1
  unfold mb_run_0 at hm
  refine lv_iload_n hx hb dX12_run_0 rfl (lv_at hl 1 rfl) ?_
  refine lv_if_lt (tgt := 18) hx hb dX12_run_1 (by decide) (fun c_1 => ?_) (fun c_1 => ?_)
  · have hm := (if_pos c_1).symm.trans hm
    exact mw_run_18 fu C hret F G hm hw (lv_sub hl [] rfl)
  · have hm := (if_neg c_1).symm.trans hm
    exact mw_run_4 fu C hret x1 F G hm hw (lv_sub hl [0, 1] rfl)
theorem mk_run (l : Launch) (v : EV) (a : Nat → Nat) (sz : Nat) (fu : Nat) (x1 : Int32) (F : PF) (G : PG) (r : Int32) (F1 : PF) (G1 : PG) (hm : mf_run fu x1 F G = some (r, F1, G1)) : mMI l yX12_run cX12_run 3 (some .int) 4 90 v a sz [.ref (a 212), .int x1] F G r F1 G1 := mMI.of (ty := .int) (by decide) rfl (Nat.le_of_ble_eq_true rfl) (fun p e R s m args below meth c Q A H locs ls C hw hl hret => mw_run_0 fu (res := (r, F1, G1)) C hret x1 F G hm hw hl)
def mb_output_29 (fu : Nat) (z0 : Int32) (F : PF) (G : PG) : PR := some (z0, F, G)
def mb_output_19 (fu : Nat) (F : PF) (G : PG) : PR := mb_output_29 fu 0 F G
def mb_output_23 (fu : Nat) (x1 : Int32) (F : PF) (G : PG) : PR := if ixb x1 2000 = true then (mb_output_29 fu (G 89 x1.toNatClampNeg) F G) else none
def mb_output_12 (fu : Nat) (x1 : Int32) (F : PF) (G : PG) : PR := if x1 < (2000 : Int32) then mb_output_23 fu x1 F G else mb_output_19 fu F G
def mb_output_4 (fu : Nat) (x1 : Int32) (F : PF) (G : PG) : PR := if (F 79) ≤ x1 then mb_output_19 fu F G else mb_output_12 fu x1 F G
def mb_output_0 (fu : Nat) (x1 : Int32) (F : PF) (G : PG) : PR := if x1 < (0 : Int32) then mb_output_19 fu F G else mb_output_4 fu x1 F G
def mf_output (fu : Nat) (x1 : Int32) (F : PF) (G : PG) : PR := mb_output_0 fu x1 F G
theorem mw_output_29 (fu : Nat) {res : Int32 × PF × PG} (C : mMC p R s m args c A v RX12 cX12_output 2 0 0) (hret : ∀ (H1 : Heap) (locs1 : List Loc) (ls1 : Array Slot) (pc : Nat), mMW s A v a res.2.1 res.2.2 H1 locs1 → narrow .int (.int res.1) = .int res.1 → decode cX12_output pc = .ok (.ireturn, 1) → W p l e R s m args below meth c H1 locs1 0 0 Q (F0 m pc ls1 [.int res.1])) (z0 : Int32) (F : PF) (G : PG) (hm : mb_output_29 fu z0 F G = some res) {H : Heap} {locs : List Loc} (hw : mMW s A v a F G H locs) {ls : Array Slot} (hl : lv_has ls 2 []) : W p l e R s m args below meth c H locs 0 0 Q (F0 m 29 ls [.int z0]) := by
  have hx := C.1
  have hb := C.2.1
  unfold mb_output_29 at hm
  obtain rfl := Option.some.inj hm
  exact hret _ _ _ _ hw rfl dX12_output_29
theorem mw_output_19 (fu : Nat) {res : Int32 × PF × PG} (C : mMC p R s m args c A v RX12 cX12_output 2 0 0) (hret : ∀ (H1 : Heap) (locs1 : List Loc) (ls1 : Array Slot) (pc : Nat), mMW s A v a res.2.1 res.2.2 H1 locs1 → narrow .int (.int res.1) = .int res.1 → decode cX12_output pc = .ok (.ireturn, 1) → W p l e R s m args below meth c H1 locs1 0 0 Q (F0 m pc ls1 [.int res.1])) (F : PF) (G : PG) (hm : mb_output_19 fu F G = some res) {H : Heap} {locs : List Loc} (hw : mMW s A v a F G H locs) {ls : Array Slot} (hl : lv_has ls 2 []) : W p l e R s m args below meth c H locs 0 0 Q (F0 m 19 ls []) := by
  have hx := C.1
  have hb := C.2.1
  unfold mb_output_19 at hm
  refine lv_iconst (v := 0) hx hb dX12_output_19 (by decide) ?_
  refine lv_goto (tgt := 29) hx hb dX12_output_20 (by decide) ?_
  exact mw_output_29 fu C hret 0 F G hm hw (lv_sub hl [] rfl)
theorem mw_output_23 (fu : Nat) {res : Int32 × PF × PG} (C : mMC p R s m args c A v RX12 cX12_output 2 0 0) (hret : ∀ (H1 : Heap) (locs1 : List Loc) (ls1 : Array Slot) (pc : Nat), mMW s A v a res.2.1 res.2.2 H1 locs1 → narrow .int (.int res.1) = .int res.1 → decode cX12_output pc = .ok (.ireturn, 1) → W p l e R s m args below meth c H1 locs1 0 0 Q (F0 m pc ls1 [.int res.1])) (x1 : Int32) (F : PF) (G : PG) (hm : mb_output_23 fu x1 F G = some res) {H : Heap} {locs : List Loc} (hw : mMW s A v a F G H locs) {ls : Array Slot} (hl : lv_has ls 2 [(0, .ref (a 212)), (1, .int x1)]) : W p l e R s m args below meth c H locs 0 0 Q (F0 m 23 ls []) := by
  have hx := C.1
  have hb := C.2.1
  unfold mb_output_23 at hm
  refine lv_aload_n hx hb dX12_output_23 rfl (lv_at hl 0 rfl) ?_
  refine mg_X12_132 C hw dX12_output_24 ?_
  refine lv_iload_n hx hb dX12_output_27 rfl (lv_at hl 1 rfl) ?_
  obtain ⟨hi, hm⟩ := ix_elim hm
  refine mal_89 C hw hi dX12_output_28 ?_
  exact mw_output_29 fu C hret (G 89 x1.toNatClampNeg) F G hm hw (lv_sub hl [] rfl)
theorem mw_output_12 (fu : Nat) {res : Int32 × PF × PG} (C : mMC p R s m args c A v RX12 cX12_output 2 0 0) (hret : ∀ (H1 : Heap) (locs1 : List Loc) (ls1 : Array Slot) (pc : Nat), mMW s A v a res.2.1 res.2.2 H1 locs1 → narrow .int (.int res.1) = .int res.1 → decode cX12_output pc = .ok (.ireturn, 1) → W p l e R s m args below meth c H1 locs1 0 0 Q (F0 m pc ls1 [.int res.1])) (x1 : Int32) (F : PF) (G : PG) (hm : mb_output_12 fu x1 F G = some res) {H : Heap} {locs : List Loc} (hw : mMW s A v a F G H locs) {ls : Array Slot} (hl : lv_has ls 2 [(0, .ref (a 212)), (1, .int x1)]) : W p l e R s m args below meth c H locs 0 0 Q (F0 m 12 ls []) := by
  have hx := C.1
  have hb := C.2.1
  unfold mb_output_12 at hm
  refine lv_iload_n hx hb dX12_output_12 rfl (lv_at hl 1 rfl) ?_
  refine lv_sipush (v := 2000) hx hb dX12_output_13 (by decide) ?_
  refine lv_icmp_lt (tgt := 23) hx hb dX12_output_16 (by decide) (fun c_1 => ?_) (fun c_1 => ?_)
  · have hm := (if_pos c_1).symm.trans hm
    exact mw_output_23 fu C hret x1 F G hm hw (lv_sub hl [0, 1] rfl)
  · have hm := (if_neg c_1).symm.trans hm
    exact mw_output_19 fu C hret F G hm hw (lv_sub hl [] rfl)
theorem mw_output_4 (fu : Nat) {res : Int32 × PF × PG} (C : mMC p R s m args c A v RX12 cX12_output 2 0 0) (hret : ∀ (H1 : Heap) (locs1 : List Loc) (ls1 : Array Slot) (pc : Nat), mMW s A v a res.2.1 res.2.2 H1 locs1 → narrow .int (.int res.1) = .int res.1 → decode cX12_output pc = .ok (.ireturn, 1) → W p l e R s m args below meth c H1 locs1 0 0 Q (F0 m pc ls1 [.int res.1])) (x1 : Int32) (F : PF) (G : PG) (hm : mb_output_4 fu x1 F G = some res) {H : Heap} {locs : List Loc} (hw : mMW s A v a F G H locs) {ls : Array Slot} (hl : lv_has ls 2 [(0, .ref (a 212)), (1, .int x1)]) : W p l e R s m args below meth c H locs 0 0 Q (F0 m 4 ls []) := by
  have hx := C.1
  have hb := C.2.1
  unfold mb_output_4 at hm
  refine lv_iload_n hx hb dX12_output_4 rfl (lv_at hl 1 rfl) ?_
  refine lv_aload_n hx hb dX12_output_5 rfl (lv_at hl 0 rfl) ?_
  refine mg_X12_518 C hw dX12_output_6 ?_
  refine lv_icmp_ge (tgt := 19) hx hb dX12_output_9 (by decide) (fun c_1 => ?_) (fun c_1 => ?_)
  · have hm := (if_pos c_1).symm.trans hm
    exact mw_output_19 fu C hret F G hm hw (lv_sub hl [] rfl)
  · have hm := (if_neg c_1).symm.trans hm
    exact mw_output_12 fu C hret x1 F G hm hw (lv_sub hl [0, 1] rfl)
theorem mw_output_0 (fu : Nat) {res : Int32 × PF × PG} (C : mMC p R s m args c A v RX12 cX12_output 2 0 0) (hret : ∀ (H1 : Heap) (locs1 : List Loc) (ls1 : Array Slot) (pc : Nat), mMW s A v a res.2.1 res.2.2 H1 locs1 → narrow .int (.int res.1) = .int res.1 → decode cX12_output pc = .ok (.ireturn, 1) → W p l e R s m args below meth c H1 locs1 0 0 Q (F0 m pc ls1 [.int res.1])) (x1 : Int32) (F : PF) (G : PG) (hm : mb_output_0 fu x1 F G = some res) {H : Heap} {locs : List Loc} (hw : mMW s A v a F G H locs) {ls : Array Slot} (hl : lv_has ls 2 [(0, .ref (a 212)), (1, .int x1)]) : W p l e R s m args below meth c H locs 0 0 Q (F0 m 0 ls []) := by
  have hx := C.1
  have hb := C.2.1
  unfold mb_output_0 at hm
  refine lv_iload_n hx hb dX12_output_0 rfl (lv_at hl 1 rfl) ?_
  refine lv_if_lt (tgt := 19) hx hb dX12_output_1 (by decide) (fun c_1 => ?_) (fun c_1 => ?_)
  · have hm := (if_pos c_1).symm.trans hm
    exact mw_output_19 fu C hret F G hm hw (lv_sub hl [] rfl)
  · have hm := (if_neg c_1).symm.trans hm
    exact mw_output_4 fu C hret x1 F G hm hw (lv_sub hl [0, 1] rfl)
theorem mk_output (l : Launch) (v : EV) (a : Nat → Nat) (sz : Nat) (fu : Nat) (x1 : Int32) (F : PF) (G : PG) (r : Int32) (F1 : PF) (G1 : PG) (hm : mf_output fu x1 F G = some (r, F1, G1)) : mMI l yX12_output cX12_output 2 (some .int) 0 0 v a sz [.ref (a 212), .int x1] F G r F1 G1 := mMI.of (ty := .int) (by decide) rfl (Nat.le_of_ble_eq_true rfl) (fun p e R s m args below meth c Q A H locs ls C hw hl hret => mw_output_0 fu (res := (r, F1, G1)) C hret x1 F G hm hw hl)
def mb_world_48 (fu : Nat) (F : PF) (G : PG) : PR := some ((F 75), F, G)
def mb_world_68 (fu : Nat) (z0 : Int32) (F : PF) (G : PG) : PR := some (z0, F, G)
def mb_world_64 (fu : Nat) (F : PF) (G : PG) : PR := mb_world_68 fu (F 77) F G
def mb_world_60 (fu : Nat) (F : PF) (G : PG) : PR := mb_world_68 fu 0 F G
def mb_world_53 (fu : Nat) (F : PF) (G : PG) : PR := if (F 75) = (0 : Int32) then mb_world_60 fu F G else mb_world_64 fu F G
def mb_world_69 (fu : Nat) (F : PF) (G : PG) : PR := some ((F 79), F, G)
def mb_world_74 (fu : Nat) (F : PF) (G : PG) : PR := some ((F 80), F, G)
def mb_world_103 (fu : Nat) (z0 : Int32) (F : PF) (G : PG) : PR := some (z0, F, G)
def mb_world_95 (fu : Nat) (F : PF) (G : PG) : PR := mb_world_103 fu (F 81) F G
def mb_world_102 (fu : Nat) (F : PF) (G : PG) : PR := mb_world_103 fu 0 F G
def mb_world_87 (fu : Nat) (F : PF) (G : PG) : PR := if (F 75) = (4 : Int32) then mb_world_95 fu F G else mb_world_102 fu F G
def mb_world_79 (fu : Nat) (F : PF) (G : PG) : PR := if (F 75) = (3 : Int32) then mb_world_95 fu F G else mb_world_87 fu F G
def mb_world_129 (fu : Nat) (z0 : Int32) (F : PF) (G : PG) : PR := some (z0, F, G)
def mb_world_121 (fu : Nat) (F : PF) (G : PG) : PR := mb_world_129 fu (F 82) F G
def mb_world_128 (fu : Nat) (F : PF) (G : PG) : PR := mb_world_129 fu (-1) F G
def mb_world_112 (fu : Nat) (F : PF) (G : PG) : PR := if (F 75) = (6 : Int32) then mb_world_121 fu F G else mb_world_128 fu F G
def mb_world_104 (fu : Nat) (F : PF) (G : PG) : PR := if (F 75) = (5 : Int32) then mb_world_121 fu F G else mb_world_112 fu F G
def mb_world_145 (fu : Nat) (z0 : Int32) (F : PF) (G : PG) : PR := some (z0, F, G)
def mb_world_141 (fu : Nat) (F : PF) (G : PG) : PR := mb_world_145 fu (F 83) F G
def mb_world_137 (fu : Nat) (F : PF) (G : PG) : PR := mb_world_145 fu 0 F G
def mb_world_130 (fu : Nat) (F : PF) (G : PG) : PR := if (F 75) = (0 : Int32) then mb_world_137 fu F G else mb_world_141 fu F G
def mb_world_161 (fu : Nat) (z0 : Int32) (F : PF) (G : PG) : PR := some (z0, F, G)
def mb_world_157 (fu : Nat) (F : PF) (G : PG) : PR := mb_world_161 fu (F 84) F G
def mb_world_153 (fu : Nat) (F : PF) (G : PG) : PR := mb_world_161 fu 0 F G
def mb_world_146 (fu : Nat) (F : PF) (G : PG) : PR := if (F 75) = (0 : Int32) then mb_world_153 fu F G else mb_world_157 fu F G
def mb_world_162 (fu : Nat) (F : PF) (G : PG) : PR := some ((-1), F, G)
def mb_world_0 (fu : Nat) (x1 : Int32) (F : PF) (G : PG) : PR := if x1.toInt < 0 ∨ 7 < x1.toInt then mb_world_162 fu F G else if x1 = 0 then mb_world_48 fu F G else if x1 = 1 then mb_world_53 fu F G else if x1 = 2 then mb_world_69 fu F G else if x1 = 3 then mb_world_74 fu F G else if x1 = 4 then mb_world_79 fu F G else if x1 = 5 then mb_world_104 fu F G else if x1 = 6 then mb_world_130 fu F G else mb_world_146 fu F G
def mf_world (fu : Nat) (x1 : Int32) (F : PF) (G : PG) : PR := mb_world_0 fu x1 F G
theorem mw_world_48 (fu : Nat) {res : Int32 × PF × PG} (C : mMC p R s m args c A v RX12 cX12_world 2 0 0) (hret : ∀ (H1 : Heap) (locs1 : List Loc) (ls1 : Array Slot) (pc : Nat), mMW s A v a res.2.1 res.2.2 H1 locs1 → narrow .int (.int res.1) = .int res.1 → decode cX12_world pc = .ok (.ireturn, 1) → W p l e R s m args below meth c H1 locs1 0 0 Q (F0 m pc ls1 [.int res.1])) (F : PF) (G : PG) (hm : mb_world_48 fu F G = some res) {H : Heap} {locs : List Loc} (hw : mMW s A v a F G H locs) {ls : Array Slot} (hl : lv_has ls 2 [(0, .ref (a 212))]) : W p l e R s m args below meth c H locs 0 0 Q (F0 m 48 ls []) := by
  have hx := C.1
  have hb := C.2.1
  unfold mb_world_48 at hm
  refine lv_aload_n hx hb dX12_world_48 rfl (lv_at hl 0 rfl) ?_
  refine mg_X12_512 C hw dX12_world_49 ?_
  obtain rfl := Option.some.inj hm
  exact hret _ _ _ _ hw rfl dX12_world_52
theorem mw_world_68 (fu : Nat) {res : Int32 × PF × PG} (C : mMC p R s m args c A v RX12 cX12_world 2 0 0) (hret : ∀ (H1 : Heap) (locs1 : List Loc) (ls1 : Array Slot) (pc : Nat), mMW s A v a res.2.1 res.2.2 H1 locs1 → narrow .int (.int res.1) = .int res.1 → decode cX12_world pc = .ok (.ireturn, 1) → W p l e R s m args below meth c H1 locs1 0 0 Q (F0 m pc ls1 [.int res.1])) (z0 : Int32) (F : PF) (G : PG) (hm : mb_world_68 fu z0 F G = some res) {H : Heap} {locs : List Loc} (hw : mMW s A v a F G H locs) {ls : Array Slot} (hl : lv_has ls 2 []) : W p l e R s m args below meth c H locs 0 0 Q (F0 m 68 ls [.int z0]) := by
  have hx := C.1
  have hb := C.2.1
  unfold mb_world_68 at hm
  obtain rfl := Option.some.inj hm
  exact hret _ _ _ _ hw rfl dX12_world_68
theorem mw_world_64 (fu : Nat) {res : Int32 × PF × PG} (C : mMC p R s m args c A v RX12 cX12_world 2 0 0) (hret : ∀ (H1 : Heap) (locs1 : List Loc) (ls1 : Array Slot) (pc : Nat), mMW s A v a res.2.1 res.2.2 H1 locs1 → narrow .int (.int res.1) = .int res.1 → decode cX12_world pc = .ok (.ireturn, 1) → W p l e R s m args below meth c H1 locs1 0 0 Q (F0 m pc ls1 [.int res.1])) (F : PF) (G : PG) (hm : mb_world_64 fu F G = some res) {H : Heap} {locs : List Loc} (hw : mMW s A v a F G H locs) {ls : Array Slot} (hl : lv_has ls 2 [(0, .ref (a 212))]) : W p l e R s m args below meth c H locs 0 0 Q (F0 m 64 ls []) := by
  have hx := C.1
  have hb := C.2.1
  unfold mb_world_64 at hm
  refine lv_aload_n hx hb dX12_world_64 rfl (lv_at hl 0 rfl) ?_
  refine mg_X12_536 C hw dX12_world_65 ?_
  exact mw_world_68 fu C hret (F 77) F G hm hw (lv_sub hl [] rfl)
theorem mw_world_60 (fu : Nat) {res : Int32 × PF × PG} (C : mMC p R s m args c A v RX12 cX12_world 2 0 0) (hret : ∀ (H1 : Heap) (locs1 : List Loc) (ls1 : Array Slot) (pc : Nat), mMW s A v a res.2.1 res.2.2 H1 locs1 → narrow .int (.int res.1) = .int res.1 → decode cX12_world pc = .ok (.ireturn, 1) → W p l e R s m args below meth c H1 locs1 0 0 Q (F0 m pc ls1 [.int res.1])) (F : PF) (G : PG) (hm : mb_world_60 fu F G = some res) {H : Heap} {locs : List Loc} (hw : mMW s A v a F G H locs) {ls : Array Slot} (hl : lv_has ls 2 []) : W p l e R s m args below meth c H locs 0 0 Q (F0 m 60 ls []) := by
  have hx := C.1
  have hb := C.2.1
  unfold mb_world_60 at hm
  refine lv_iconst (v := 0) hx hb dX12_world_60 (by decide) ?_
  refine lv_goto (tgt := 68) hx hb dX12_world_61 (by decide) ?_
  exact mw_world_68 fu C hret 0 F G hm hw (lv_sub hl [] rfl)
theorem mw_world_53 (fu : Nat) {res : Int32 × PF × PG} (C : mMC p R s m args c A v RX12 cX12_world 2 0 0) (hret : ∀ (H1 : Heap) (locs1 : List Loc) (ls1 : Array Slot) (pc : Nat), mMW s A v a res.2.1 res.2.2 H1 locs1 → narrow .int (.int res.1) = .int res.1 → decode cX12_world pc = .ok (.ireturn, 1) → W p l e R s m args below meth c H1 locs1 0 0 Q (F0 m pc ls1 [.int res.1])) (F : PF) (G : PG) (hm : mb_world_53 fu F G = some res) {H : Heap} {locs : List Loc} (hw : mMW s A v a F G H locs) {ls : Array Slot} (hl : lv_has ls 2 [(0, .ref (a 212))]) : W p l e R s m args below meth c H locs 0 0 Q (F0 m 53 ls []) := by
  have hx := C.1
  have hb := C.2.1
  unfold mb_world_53 at hm
  refine lv_aload_n hx hb dX12_world_53 rfl (lv_at hl 0 rfl) ?_
  refine mg_X12_512 C hw dX12_world_54 ?_
  refine lv_if_ne (tgt := 64) hx hb dX12_world_57 (by decide) (fun c_1 => ?_) (fun c_1 => ?_)
  · have hm := (if_neg c_1).symm.trans hm
    exact mw_world_64 fu C hret F G hm hw (lv_sub hl [0] rfl)
  · have hm := (if_pos c_1).symm.trans hm
    exact mw_world_60 fu C hret F G hm hw (lv_sub hl [] rfl)
theorem mw_world_69 (fu : Nat) {res : Int32 × PF × PG} (C : mMC p R s m args c A v RX12 cX12_world 2 0 0) (hret : ∀ (H1 : Heap) (locs1 : List Loc) (ls1 : Array Slot) (pc : Nat), mMW s A v a res.2.1 res.2.2 H1 locs1 → narrow .int (.int res.1) = .int res.1 → decode cX12_world pc = .ok (.ireturn, 1) → W p l e R s m args below meth c H1 locs1 0 0 Q (F0 m pc ls1 [.int res.1])) (F : PF) (G : PG) (hm : mb_world_69 fu F G = some res) {H : Heap} {locs : List Loc} (hw : mMW s A v a F G H locs) {ls : Array Slot} (hl : lv_has ls 2 [(0, .ref (a 212))]) : W p l e R s m args below meth c H locs 0 0 Q (F0 m 69 ls []) := by
  have hx := C.1
  have hb := C.2.1
  unfold mb_world_69 at hm
  refine lv_aload_n hx hb dX12_world_69 rfl (lv_at hl 0 rfl) ?_
  refine mg_X12_518 C hw dX12_world_70 ?_
  obtain rfl := Option.some.inj hm
  exact hret _ _ _ _ hw rfl dX12_world_73
theorem mw_world_74 (fu : Nat) {res : Int32 × PF × PG} (C : mMC p R s m args c A v RX12 cX12_world 2 0 0) (hret : ∀ (H1 : Heap) (locs1 : List Loc) (ls1 : Array Slot) (pc : Nat), mMW s A v a res.2.1 res.2.2 H1 locs1 → narrow .int (.int res.1) = .int res.1 → decode cX12_world pc = .ok (.ireturn, 1) → W p l e R s m args below meth c H1 locs1 0 0 Q (F0 m pc ls1 [.int res.1])) (F : PF) (G : PG) (hm : mb_world_74 fu F G = some res) {H : Heap} {locs : List Loc} (hw : mMW s A v a F G H locs) {ls : Array Slot} (hl : lv_has ls 2 [(0, .ref (a 212))]) : W p l e R s m args below meth c H locs 0 0 Q (F0 m 74 ls []) := by
  have hx := C.1
  have hb := C.2.1
  unfold mb_world_74 at hm
  refine lv_aload_n hx hb dX12_world_74 rfl (lv_at hl 0 rfl) ?_
  refine mg_X12_515 C hw dX12_world_75 ?_
  obtain rfl := Option.some.inj hm
  exact hret _ _ _ _ hw rfl dX12_world_78
theorem mw_world_103 (fu : Nat) {res : Int32 × PF × PG} (C : mMC p R s m args c A v RX12 cX12_world 2 0 0) (hret : ∀ (H1 : Heap) (locs1 : List Loc) (ls1 : Array Slot) (pc : Nat), mMW s A v a res.2.1 res.2.2 H1 locs1 → narrow .int (.int res.1) = .int res.1 → decode cX12_world pc = .ok (.ireturn, 1) → W p l e R s m args below meth c H1 locs1 0 0 Q (F0 m pc ls1 [.int res.1])) (z0 : Int32) (F : PF) (G : PG) (hm : mb_world_103 fu z0 F G = some res) {H : Heap} {locs : List Loc} (hw : mMW s A v a F G H locs) {ls : Array Slot} (hl : lv_has ls 2 []) : W p l e R s m args below meth c H locs 0 0 Q (F0 m 103 ls [.int z0]) := by
  have hx := C.1
  have hb := C.2.1
  unfold mb_world_103 at hm
  obtain rfl := Option.some.inj hm
  exact hret _ _ _ _ hw rfl dX12_world_103
theorem mw_world_95 (fu : Nat) {res : Int32 × PF × PG} (C : mMC p R s m args c A v RX12 cX12_world 2 0 0) (hret : ∀ (H1 : Heap) (locs1 : List Loc) (ls1 : Array Slot) (pc : Nat), mMW s A v a res.2.1 res.2.2 H1 locs1 → narrow .int (.int res.1) = .int res.1 → decode cX12_world pc = .ok (.ireturn, 1) → W p l e R s m args below meth c H1 locs1 0 0 Q (F0 m pc ls1 [.int res.1])) (F : PF) (G : PG) (hm : mb_world_95 fu F G = some res) {H : Heap} {locs : List Loc} (hw : mMW s A v a F G H locs) {ls : Array Slot} (hl : lv_has ls 2 [(0, .ref (a 212))]) : W p l e R s m args below meth c H locs 0 0 Q (F0 m 95 ls []) := by
  have hx := C.1
  have hb := C.2.1
  unfold mb_world_95 at hm
  refine lv_aload_n hx hb dX12_world_95 rfl (lv_at hl 0 rfl) ?_
  refine mg_X12_539 C hw dX12_world_96 ?_
  refine lv_goto (tgt := 103) hx hb dX12_world_99 (by decide) ?_
  exact mw_world_103 fu C hret (F 81) F G hm hw (lv_sub hl [] rfl)
theorem mw_world_102 (fu : Nat) {res : Int32 × PF × PG} (C : mMC p R s m args c A v RX12 cX12_world 2 0 0) (hret : ∀ (H1 : Heap) (locs1 : List Loc) (ls1 : Array Slot) (pc : Nat), mMW s A v a res.2.1 res.2.2 H1 locs1 → narrow .int (.int res.1) = .int res.1 → decode cX12_world pc = .ok (.ireturn, 1) → W p l e R s m args below meth c H1 locs1 0 0 Q (F0 m pc ls1 [.int res.1])) (F : PF) (G : PG) (hm : mb_world_102 fu F G = some res) {H : Heap} {locs : List Loc} (hw : mMW s A v a F G H locs) {ls : Array Slot} (hl : lv_has ls 2 []) : W p l e R s m args below meth c H locs 0 0 Q (F0 m 102 ls []) := by
  have hx := C.1
  have hb := C.2.1
  unfold mb_world_102 at hm
  refine lv_iconst (v := 0) hx hb dX12_world_102 (by decide) ?_
  exact mw_world_103 fu C hret 0 F G hm hw (lv_sub hl [] rfl)
theorem mw_world_87 (fu : Nat) {res : Int32 × PF × PG} (C : mMC p R s m args c A v RX12 cX12_world 2 0 0) (hret : ∀ (H1 : Heap) (locs1 : List Loc) (ls1 : Array Slot) (pc : Nat), mMW s A v a res.2.1 res.2.2 H1 locs1 → narrow .int (.int res.1) = .int res.1 → decode cX12_world pc = .ok (.ireturn, 1) → W p l e R s m args below meth c H1 locs1 0 0 Q (F0 m pc ls1 [.int res.1])) (F : PF) (G : PG) (hm : mb_world_87 fu F G = some res) {H : Heap} {locs : List Loc} (hw : mMW s A v a F G H locs) {ls : Array Slot} (hl : lv_has ls 2 [(0, .ref (a 212))]) : W p l e R s m args below meth c H locs 0 0 Q (F0 m 87 ls []) := by
  have hx := C.1
  have hb := C.2.1
  unfold mb_world_87 at hm
  refine lv_aload_n hx hb dX12_world_87 rfl (lv_at hl 0 rfl) ?_
  refine mg_X12_512 C hw dX12_world_88 ?_
  refine lv_iconst (v := 4) hx hb dX12_world_91 (by decide) ?_
  refine lv_icmp_ne (tgt := 102) hx hb dX12_world_92 (by decide) (fun c_1 => ?_) (fun c_1 => ?_)
  · have hm := (if_neg c_1).symm.trans hm
    exact mw_world_102 fu C hret F G hm hw (lv_sub hl [] rfl)
  · have hm := (if_pos c_1).symm.trans hm
    exact mw_world_95 fu C hret F G hm hw (lv_sub hl [0] rfl)
theorem mw_world_79 (fu : Nat) {res : Int32 × PF × PG} (C : mMC p R s m args c A v RX12 cX12_world 2 0 0) (hret : ∀ (H1 : Heap) (locs1 : List Loc) (ls1 : Array Slot) (pc : Nat), mMW s A v a res.2.1 res.2.2 H1 locs1 → narrow .int (.int res.1) = .int res.1 → decode cX12_world pc = .ok (.ireturn, 1) → W p l e R s m args below meth c H1 locs1 0 0 Q (F0 m pc ls1 [.int res.1])) (F : PF) (G : PG) (hm : mb_world_79 fu F G = some res) {H : Heap} {locs : List Loc} (hw : mMW s A v a F G H locs) {ls : Array Slot} (hl : lv_has ls 2 [(0, .ref (a 212))]) : W p l e R s m args below meth c H locs 0 0 Q (F0 m 79 ls []) := by
  have hx := C.1
  have hb := C.2.1
  unfold mb_world_79 at hm
  refine lv_aload_n hx hb dX12_world_79 rfl (lv_at hl 0 rfl) ?_
  refine mg_X12_512 C hw dX12_world_80 ?_
  refine lv_iconst (v := 3) hx hb dX12_world_83 (by decide) ?_
  refine lv_icmp_eq (tgt := 95) hx hb dX12_world_84 (by decide) (fun c_1 => ?_) (fun c_1 => ?_)
  · have hm := (if_pos c_1).symm.trans hm
    exact mw_world_95 fu C hret F G hm hw (lv_sub hl [0] rfl)
  · have hm := (if_neg c_1).symm.trans hm
    exact mw_world_87 fu C hret F G hm hw (lv_sub hl [0] rfl)
theorem mw_world_129 (fu : Nat) {res : Int32 × PF × PG} (C : mMC p R s m args c A v RX12 cX12_world 2 0 0) (hret : ∀ (H1 : Heap) (locs1 : List Loc) (ls1 : Array Slot) (pc : Nat), mMW s A v a res.2.1 res.2.2 H1 locs1 → narrow .int (.int res.1) = .int res.1 → decode cX12_world pc = .ok (.ireturn, 1) → W p l e R s m args below meth c H1 locs1 0 0 Q (F0 m pc ls1 [.int res.1])) (z0 : Int32) (F : PF) (G : PG) (hm : mb_world_129 fu z0 F G = some res) {H : Heap} {locs : List Loc} (hw : mMW s A v a F G H locs) {ls : Array Slot} (hl : lv_has ls 2 []) : W p l e R s m args below meth c H locs 0 0 Q (F0 m 129 ls [.int z0]) := by
  have hx := C.1
  have hb := C.2.1
  unfold mb_world_129 at hm
  obtain rfl := Option.some.inj hm
  exact hret _ _ _ _ hw rfl dX12_world_129
theorem mw_world_121 (fu : Nat) {res : Int32 × PF × PG} (C : mMC p R s m args c A v RX12 cX12_world 2 0 0) (hret : ∀ (H1 : Heap) (locs1 : List Loc) (ls1 : Array Slot) (pc : Nat), mMW s A v a res.2.1 res.2.2 H1 locs1 → narrow .int (.int res.1) = .int res.1 → decode cX12_world pc = .ok (.ireturn, 1) → W p l e R s m args below meth c H1 locs1 0 0 Q (F0 m pc ls1 [.int res.1])) (F : PF) (G : PG) (hm : mb_world_121 fu F G = some res) {H : Heap} {locs : List Loc} (hw : mMW s A v a F G H locs) {ls : Array Slot} (hl : lv_has ls 2 [(0, .ref (a 212))]) : W p l e R s m args below meth c H locs 0 0 Q (F0 m 121 ls []) := by
  have hx := C.1
  have hb := C.2.1
  unfold mb_world_121 at hm
  refine lv_aload_n hx hb dX12_world_121 rfl (lv_at hl 0 rfl) ?_
  refine mg_X12_541 C hw dX12_world_122 ?_
  refine lv_goto (tgt := 129) hx hb dX12_world_125 (by decide) ?_
  exact mw_world_129 fu C hret (F 82) F G hm hw (lv_sub hl [] rfl)
theorem mw_world_128 (fu : Nat) {res : Int32 × PF × PG} (C : mMC p R s m args c A v RX12 cX12_world 2 0 0) (hret : ∀ (H1 : Heap) (locs1 : List Loc) (ls1 : Array Slot) (pc : Nat), mMW s A v a res.2.1 res.2.2 H1 locs1 → narrow .int (.int res.1) = .int res.1 → decode cX12_world pc = .ok (.ireturn, 1) → W p l e R s m args below meth c H1 locs1 0 0 Q (F0 m pc ls1 [.int res.1])) (F : PF) (G : PG) (hm : mb_world_128 fu F G = some res) {H : Heap} {locs : List Loc} (hw : mMW s A v a F G H locs) {ls : Array Slot} (hl : lv_has ls 2 []) : W p l e R s m args below meth c H locs 0 0 Q (F0 m 128 ls []) := by
  have hx := C.1
  have hb := C.2.1
  unfold mb_world_128 at hm
  refine lv_iconst (v := (-1)) hx hb dX12_world_128 (by decide) ?_
  exact mw_world_129 fu C hret (-1) F G hm hw (lv_sub hl [] rfl)
theorem mw_world_112 (fu : Nat) {res : Int32 × PF × PG} (C : mMC p R s m args c A v RX12 cX12_world 2 0 0) (hret : ∀ (H1 : Heap) (locs1 : List Loc) (ls1 : Array Slot) (pc : Nat), mMW s A v a res.2.1 res.2.2 H1 locs1 → narrow .int (.int res.1) = .int res.1 → decode cX12_world pc = .ok (.ireturn, 1) → W p l e R s m args below meth c H1 locs1 0 0 Q (F0 m pc ls1 [.int res.1])) (F : PF) (G : PG) (hm : mb_world_112 fu F G = some res) {H : Heap} {locs : List Loc} (hw : mMW s A v a F G H locs) {ls : Array Slot} (hl : lv_has ls 2 [(0, .ref (a 212))]) : W p l e R s m args below meth c H locs 0 0 Q (F0 m 112 ls []) := by
  have hx := C.1
  have hb := C.2.1
  unfold mb_world_112 at hm
  refine lv_aload_n hx hb dX12_world_112 rfl (lv_at hl 0 rfl) ?_
  refine mg_X12_512 C hw dX12_world_113 ?_
  refine lv_bipush (v := 6) hx hb dX12_world_116 (by decide) ?_
  refine lv_icmp_ne (tgt := 128) hx hb dX12_world_118 (by decide) (fun c_1 => ?_) (fun c_1 => ?_)
  · have hm := (if_neg c_1).symm.trans hm
    exact mw_world_128 fu C hret F G hm hw (lv_sub hl [] rfl)
  · have hm := (if_pos c_1).symm.trans hm
    exact mw_world_121 fu C hret F G hm hw (lv_sub hl [0] rfl)
theorem mw_world_104 (fu : Nat) {res : Int32 × PF × PG} (C : mMC p R s m args c A v RX12 cX12_world 2 0 0) (hret : ∀ (H1 : Heap) (locs1 : List Loc) (ls1 : Array Slot) (pc : Nat), mMW s A v a res.2.1 res.2.2 H1 locs1 → narrow .int (.int res.1) = .int res.1 → decode cX12_world pc = .ok (.ireturn, 1) → W p l e R s m args below meth c H1 locs1 0 0 Q (F0 m pc ls1 [.int res.1])) (F : PF) (G : PG) (hm : mb_world_104 fu F G = some res) {H : Heap} {locs : List Loc} (hw : mMW s A v a F G H locs) {ls : Array Slot} (hl : lv_has ls 2 [(0, .ref (a 212))]) : W p l e R s m args below meth c H locs 0 0 Q (F0 m 104 ls []) := by
  have hx := C.1
  have hb := C.2.1
  unfold mb_world_104 at hm
  refine lv_aload_n hx hb dX12_world_104 rfl (lv_at hl 0 rfl) ?_
  refine mg_X12_512 C hw dX12_world_105 ?_
  refine lv_iconst (v := 5) hx hb dX12_world_108 (by decide) ?_
  refine lv_icmp_eq (tgt := 121) hx hb dX12_world_109 (by decide) (fun c_1 => ?_) (fun c_1 => ?_)
  · have hm := (if_pos c_1).symm.trans hm
    exact mw_world_121 fu C hret F G hm hw (lv_sub hl [0] rfl)
  · have hm := (if_neg c_1).symm.trans hm
    exact mw_world_112 fu C hret F G hm hw (lv_sub hl [0] rfl)
theorem mw_world_145 (fu : Nat) {res : Int32 × PF × PG} (C : mMC p R s m args c A v RX12 cX12_world 2 0 0) (hret : ∀ (H1 : Heap) (locs1 : List Loc) (ls1 : Array Slot) (pc : Nat), mMW s A v a res.2.1 res.2.2 H1 locs1 → narrow .int (.int res.1) = .int res.1 → decode cX12_world pc = .ok (.ireturn, 1) → W p l e R s m args below meth c H1 locs1 0 0 Q (F0 m pc ls1 [.int res.1])) (z0 : Int32) (F : PF) (G : PG) (hm : mb_world_145 fu z0 F G = some res) {H : Heap} {locs : List Loc} (hw : mMW s A v a F G H locs) {ls : Array Slot} (hl : lv_has ls 2 []) : W p l e R s m args below meth c H locs 0 0 Q (F0 m 145 ls [.int z0]) := by
  have hx := C.1
  have hb := C.2.1
  unfold mb_world_145 at hm
  obtain rfl := Option.some.inj hm
  exact hret _ _ _ _ hw rfl dX12_world_145
theorem mw_world_141 (fu : Nat) {res : Int32 × PF × PG} (C : mMC p R s m args c A v RX12 cX12_world 2 0 0) (hret : ∀ (H1 : Heap) (locs1 : List Loc) (ls1 : Array Slot) (pc : Nat), mMW s A v a res.2.1 res.2.2 H1 locs1 → narrow .int (.int res.1) = .int res.1 → decode cX12_world pc = .ok (.ireturn, 1) → W p l e R s m args below meth c H1 locs1 0 0 Q (F0 m pc ls1 [.int res.1])) (F : PF) (G : PG) (hm : mb_world_141 fu F G = some res) {H : Heap} {locs : List Loc} (hw : mMW s A v a F G H locs) {ls : Array Slot} (hl : lv_has ls 2 [(0, .ref (a 212))]) : W p l e R s m args below meth c H locs 0 0 Q (F0 m 141 ls []) := by
  have hx := C.1
  have hb := C.2.1
  unfold mb_world_141 at hm
  refine lv_aload_n hx hb dX12_world_141 rfl (lv_at hl 0 rfl) ?_
  refine mg_X12_544 C hw dX12_world_142 ?_
  exact mw_world_145 fu C hret (F 83) F G hm hw (lv_sub hl [] rfl)
theorem mw_world_137 (fu : Nat) {res : Int32 × PF × PG} (C : mMC p R s m args c A v RX12 cX12_world 2 0 0) (hret : ∀ (H1 : Heap) (locs1 : List Loc) (ls1 : Array Slot) (pc : Nat), mMW s A v a res.2.1 res.2.2 H1 locs1 → narrow .int (.int res.1) = .int res.1 → decode cX12_world pc = .ok (.ireturn, 1) → W p l e R s m args below meth c H1 locs1 0 0 Q (F0 m pc ls1 [.int res.1])) (F : PF) (G : PG) (hm : mb_world_137 fu F G = some res) {H : Heap} {locs : List Loc} (hw : mMW s A v a F G H locs) {ls : Array Slot} (hl : lv_has ls 2 []) : W p l e R s m args below meth c H locs 0 0 Q (F0 m 137 ls []) := by
  have hx := C.1
  have hb := C.2.1
  unfold mb_world_137 at hm
  refine lv_iconst (v := 0) hx hb dX12_world_137 (by decide) ?_
  refine lv_goto (tgt := 145) hx hb dX12_world_138 (by decide) ?_
  exact mw_world_145 fu C hret 0 F G hm hw (lv_sub hl [] rfl)
theorem mw_world_130 (fu : Nat) {res : Int32 × PF × PG} (C : mMC p R s m args c A v RX12 cX12_world 2 0 0) (hret : ∀ (H1 : Heap) (locs1 : List Loc) (ls1 : Array Slot) (pc : Nat), mMW s A v a res.2.1 res.2.2 H1 locs1 → narrow .int (.int res.1) = .int res.1 → decode cX12_world pc = .ok (.ireturn, 1) → W p l e R s m args below meth c H1 locs1 0 0 Q (F0 m pc ls1 [.int res.1])) (F : PF) (G : PG) (hm : mb_world_130 fu F G = some res) {H : Heap} {locs : List Loc} (hw : mMW s A v a F G H locs) {ls : Array Slot} (hl : lv_has ls 2 [(0, .ref (a 212))]) : W p l e R s m args below meth c H locs 0 0 Q (F0 m 130 ls []) := by
  have hx := C.1
  have hb := C.2.1
  unfold mb_world_130 at hm
  refine lv_aload_n hx hb dX12_world_130 rfl (lv_at hl 0 rfl) ?_
  refine mg_X12_512 C hw dX12_world_131 ?_
  refine lv_if_ne (tgt := 141) hx hb dX12_world_134 (by decide) (fun c_1 => ?_) (fun c_1 => ?_)
  · have hm := (if_neg c_1).symm.trans hm
    exact mw_world_141 fu C hret F G hm hw (lv_sub hl [0] rfl)
  · have hm := (if_pos c_1).symm.trans hm
    exact mw_world_137 fu C hret F G hm hw (lv_sub hl [] rfl)
theorem mw_world_161 (fu : Nat) {res : Int32 × PF × PG} (C : mMC p R s m args c A v RX12 cX12_world 2 0 0) (hret : ∀ (H1 : Heap) (locs1 : List Loc) (ls1 : Array Slot) (pc : Nat), mMW s A v a res.2.1 res.2.2 H1 locs1 → narrow .int (.int res.1) = .int res.1 → decode cX12_world pc = .ok (.ireturn, 1) → W p l e R s m args below meth c H1 locs1 0 0 Q (F0 m pc ls1 [.int res.1])) (z0 : Int32) (F : PF) (G : PG) (hm : mb_world_161 fu z0 F G = some res) {H : Heap} {locs : List Loc} (hw : mMW s A v a F G H locs) {ls : Array Slot} (hl : lv_has ls 2 []) : W p l e R s m args below meth c H locs 0 0 Q (F0 m 161 ls [.int z0]) := by
  have hx := C.1
  have hb := C.2.1
  unfold mb_world_161 at hm
  obtain rfl := Option.some.inj hm
  exact hret _ _ _ _ hw rfl dX12_world_161
theorem mw_world_157 (fu : Nat) {res : Int32 × PF × PG} (C : mMC p R s m args c A v RX12 cX12_world 2 0 0) (hret : ∀ (H1 : Heap) (locs1 : List Loc) (ls1 : Array Slot) (pc : Nat), mMW s A v a res.2.1 res.2.2 H1 locs1 → narrow .int (.int res.1) = .int res.1 → decode cX12_world pc = .ok (.ireturn, 1) → W p l e R s m args below meth c H1 locs1 0 0 Q (F0 m pc ls1 [.int res.1])) (F : PF) (G : PG) (hm : mb_world_157 fu F G = some res) {H : Heap} {locs : List Loc} (hw : mMW s A v a F G H locs) {ls : Array Slot} (hl : lv_has ls 2 [(0, .ref (a 212))]) : W p l e R s m args below meth c H locs 0 0 Q (F0 m 157 ls []) := by
  have hx := C.1
  have hb := C.2.1
  unfold mb_world_157 at hm
  refine lv_aload_n hx hb dX12_world_157 rfl (lv_at hl 0 rfl) ?_
  refine mg_X12_530 C hw dX12_world_158 ?_
  exact mw_world_161 fu C hret (F 84) F G hm hw (lv_sub hl [] rfl)
theorem mw_world_153 (fu : Nat) {res : Int32 × PF × PG} (C : mMC p R s m args c A v RX12 cX12_world 2 0 0) (hret : ∀ (H1 : Heap) (locs1 : List Loc) (ls1 : Array Slot) (pc : Nat), mMW s A v a res.2.1 res.2.2 H1 locs1 → narrow .int (.int res.1) = .int res.1 → decode cX12_world pc = .ok (.ireturn, 1) → W p l e R s m args below meth c H1 locs1 0 0 Q (F0 m pc ls1 [.int res.1])) (F : PF) (G : PG) (hm : mb_world_153 fu F G = some res) {H : Heap} {locs : List Loc} (hw : mMW s A v a F G H locs) {ls : Array Slot} (hl : lv_has ls 2 []) : W p l e R s m args below meth c H locs 0 0 Q (F0 m 153 ls []) := by
  have hx := C.1
  have hb := C.2.1
  unfold mb_world_153 at hm
  refine lv_iconst (v := 0) hx hb dX12_world_153 (by decide) ?_
  refine lv_goto (tgt := 161) hx hb dX12_world_154 (by decide) ?_
  exact mw_world_161 fu C hret 0 F G hm hw (lv_sub hl [] rfl)
theorem mw_world_146 (fu : Nat) {res : Int32 × PF × PG} (C : mMC p R s m args c A v RX12 cX12_world 2 0 0) (hret : ∀ (H1 : Heap) (locs1 : List Loc) (ls1 : Array Slot) (pc : Nat), mMW s A v a res.2.1 res.2.2 H1 locs1 → narrow .int (.int res.1) = .int res.1 → decode cX12_world pc = .ok (.ireturn, 1) → W p l e R s m args below meth c H1 locs1 0 0 Q (F0 m pc ls1 [.int res.1])) (F : PF) (G : PG) (hm : mb_world_146 fu F G = some res) {H : Heap} {locs : List Loc} (hw : mMW s A v a F G H locs) {ls : Array Slot} (hl : lv_has ls 2 [(0, .ref (a 212))]) : W p l e R s m args below meth c H locs 0 0 Q (F0 m 146 ls []) := by
  have hx := C.1
  have hb := C.2.1
  unfold mb_world_146 at hm
  refine lv_aload_n hx hb dX12_world_146 rfl (lv_at hl 0 rfl) ?_
  refine mg_X12_512 C hw dX12_world_147 ?_
  refine lv_if_ne (tgt := 157) hx hb dX12_world_150 (by decide) (fun c_1 => ?_) (fun c_1 => ?_)
  · have hm := (if_neg c_1).symm.trans hm
    exact mw_world_157 fu C hret F G hm hw (lv_sub hl [0] rfl)
  · have hm := (if_pos c_1).symm.trans hm
    exact mw_world_153 fu C hret F G hm hw (lv_sub hl [] rfl)
theorem mw_world_162 (fu : Nat) {res : Int32 × PF × PG} (C : mMC p R s m args c A v RX12 cX12_world 2 0 0) (hret : ∀ (H1 : Heap) (locs1 : List Loc) (ls1 : Array Slot) (pc : Nat), mMW s A v a res.2.1 res.2.2 H1 locs1 → narrow .int (.int res.1) = .int res.1 → decode cX12_world pc = .ok (.ireturn, 1) → W p l e R s m args below meth c H1 locs1 0 0 Q (F0 m pc ls1 [.int res.1])) (F : PF) (G : PG) (hm : mb_world_162 fu F G = some res) {H : Heap} {locs : List Loc} (hw : mMW s A v a F G H locs) {ls : Array Slot} (hl : lv_has ls 2 []) : W p l e R s m args below meth c H locs 0 0 Q (F0 m 162 ls []) := by
  have hx := C.1
  have hb := C.2.1
  unfold mb_world_162 at hm
  refine lv_iconst (v := (-1)) hx hb dX12_world_162 (by decide) ?_
  obtain rfl := Option.some.inj hm
  exact hret _ _ _ _ hw rfl dX12_world_163
theorem mw_world_0 (fu : Nat) {res : Int32 × PF × PG} (C : mMC p R s m args c A v RX12 cX12_world 2 0 0) (hret : ∀ (H1 : Heap) (locs1 : List Loc) (ls1 : Array Slot) (pc : Nat), mMW s A v a res.2.1 res.2.2 H1 locs1 → narrow .int (.int res.1) = .int res.1 → decode cX12_world pc = .ok (.ireturn, 1) → W p l e R s m args below meth c H1 locs1 0 0 Q (F0 m pc ls1 [.int res.1])) (x1 : Int32) (F : PF) (G : PG) (hm : mb_world_0 fu x1 F G = some res) {H : Heap} {locs : List Loc} (hw : mMW s A v a F G H locs) {ls : Array Slot} (hl : lv_has ls 2 [(0, .ref (a 212)), (1, .int x1)]) : W p l e R s m args below meth c H locs 0 0 Q (F0 m 0 ls []) := by
  have hx := C.1
  have hb := C.2.1
  unfold mb_world_0 at hm
  refine lv_iload_n hx hb dX12_world_0 rfl (lv_at hl 1 rfl) ?_
  by_cases c_0 : x1.toInt < 0 ∨ 7 < x1.toInt
  · have hm := (if_pos c_0).symm.trans hm
    refine lv_tableOut (tgt := 162) hx hb dX12_world_1 c_0 (by decide) ?_
    exact mw_world_162 fu C hret F G hm hw (lv_sub hl [] rfl)
  have hm := (if_neg c_0).symm.trans hm
  by_cases c_1 : x1 = 0
  · have hm := (if_pos c_1).symm.trans hm
    refine my_top 0 c_1 ?_
    refine lv_tableIn (off := 47) (tgt := 48) hx hb dX12_world_1 (by decide) (by decide) (by decide) (by decide) ?_
    exact mw_world_48 fu C hret F G hm hw (lv_sub hl [0] rfl)
  have hm := (if_neg c_1).symm.trans hm
  have n_0 := c_1
  clear c_1
  by_cases c_1 : x1 = 1
  · have hm := (if_pos c_1).symm.trans hm
    refine my_top 1 c_1 ?_
    refine lv_tableIn (off := 52) (tgt := 53) hx hb dX12_world_1 (by decide) (by decide) (by decide) (by decide) ?_
    exact mw_world_53 fu C hret F G hm hw (lv_sub hl [0] rfl)
  have hm := (if_neg c_1).symm.trans hm
  have n_1 := c_1
  clear c_1
  by_cases c_1 : x1 = 2
  · have hm := (if_pos c_1).symm.trans hm
    refine my_top 2 c_1 ?_
    refine lv_tableIn (off := 68) (tgt := 69) hx hb dX12_world_1 (by decide) (by decide) (by decide) (by decide) ?_
    exact mw_world_69 fu C hret F G hm hw (lv_sub hl [0] rfl)
  have hm := (if_neg c_1).symm.trans hm
  have n_2 := c_1
  clear c_1
  by_cases c_1 : x1 = 3
  · have hm := (if_pos c_1).symm.trans hm
    refine my_top 3 c_1 ?_
    refine lv_tableIn (off := 73) (tgt := 74) hx hb dX12_world_1 (by decide) (by decide) (by decide) (by decide) ?_
    exact mw_world_74 fu C hret F G hm hw (lv_sub hl [0] rfl)
  have hm := (if_neg c_1).symm.trans hm
  have n_3 := c_1
  clear c_1
  by_cases c_1 : x1 = 4
  · have hm := (if_pos c_1).symm.trans hm
    refine my_top 4 c_1 ?_
    refine lv_tableIn (off := 78) (tgt := 79) hx hb dX12_world_1 (by decide) (by decide) (by decide) (by decide) ?_
    exact mw_world_79 fu C hret F G hm hw (lv_sub hl [0] rfl)
  have hm := (if_neg c_1).symm.trans hm
  have n_4 := c_1
  clear c_1
  by_cases c_1 : x1 = 5
  · have hm := (if_pos c_1).symm.trans hm
    refine my_top 5 c_1 ?_
    refine lv_tableIn (off := 103) (tgt := 104) hx hb dX12_world_1 (by decide) (by decide) (by decide) (by decide) ?_
    exact mw_world_104 fu C hret F G hm hw (lv_sub hl [0] rfl)
  have hm := (if_neg c_1).symm.trans hm
  have n_5 := c_1
  clear c_1
  by_cases c_1 : x1 = 6
  · have hm := (if_pos c_1).symm.trans hm
    refine my_top 6 c_1 ?_
    refine lv_tableIn (off := 129) (tgt := 130) hx hb dX12_world_1 (by decide) (by decide) (by decide) (by decide) ?_
    exact mw_world_130 fu C hret F G hm hw (lv_sub hl [0] rfl)
  have hm := (if_neg c_1).symm.trans hm
  have n_6 := c_1
  clear c_1
  have c_1 : x1 = 7 := my_last (l := 0) (k := 7) c_0 (by decide) (fun j hj => match j, hj with | 0, _ => fun h9 => n_0 (Int32.toInt_inj.mp (h9.trans (by decide))) | 1, _ => fun h9 => n_1 (Int32.toInt_inj.mp (h9.trans (by decide))) | 2, _ => fun h9 => n_2 (Int32.toInt_inj.mp (h9.trans (by decide))) | 3, _ => fun h9 => n_3 (Int32.toInt_inj.mp (h9.trans (by decide))) | 4, _ => fun h9 => n_4 (Int32.toInt_inj.mp (h9.trans (by decide))) | 5, _ => fun h9 => n_5 (Int32.toInt_inj.mp (h9.trans (by decide))) | 6, _ => fun h9 => n_6 (Int32.toInt_inj.mp (h9.trans (by decide))) | q + 7, h => absurd h (by omega)) (by decide)
  refine my_top 7 c_1 ?_
  refine lv_tableIn (off := 145) (tgt := 146) hx hb dX12_world_1 (by decide) (by decide) (by decide) (by decide) ?_
  exact mw_world_146 fu C hret F G hm hw (lv_sub hl [0] rfl)
theorem mk_world (l : Launch) (v : EV) (a : Nat → Nat) (sz : Nat) (fu : Nat) (x1 : Int32) (F : PF) (G : PG) (r : Int32) (F1 : PF) (G1 : PG) (hm : mf_world fu x1 F G = some (r, F1, G1)) : mMI l yX12_world cX12_world 2 (some .int) 0 0 v a sz [.ref (a 212), .int x1] F G r F1 G1 := mMI.of (ty := .int) (by decide) rfl (Nat.le_of_ble_eq_true rfl) (fun p e R s m args below meth c Q A H locs ls C hw hl hret => mw_world_0 fu (res := (r, F1, G1)) C hret x1 F G hm hw hl)
def mb_global_19 (fu : Nat) (F : PF) (G : PG) : PR := some (0, F, G)
def mb_global_106 (fu : Nat) (x2 : Int32) (F : PF) (G : PG) : PR := some (x2, F, G)
def mb_global_99 (fu : Nat) (ag_32 : Int32 → Int32 → Int32 → PF → PG → PR) (x1 : Int32) (x3 : Int32) (z0 : Int32) (F : PF) (G : PG) : PR := ag_32 x1 z0 (x3 + (-1)) F G
def mb_global_97 (fu : Nat) (ag_32 : Int32 → Int32 → Int32 → PF → PG → PR) (x1 : Int32) (x3 : Int32) (x4 : Int32) (F : PF) (G : PG) : PR := mb_global_99 fu ag_32 x1 x3 x4 F G
def mb_global_83 (fu : Nat) (ag_32 : Int32 → Int32 → Int32 → PF → PG → PR) (x1 : Int32) (x2 : Int32) (x3 : Int32) (x4 : Int32) (F : PF) (G : PG) : PR := mb_global_99 fu ag_32 x1 x3 ((x2 <<< ((8 : Int32) &&& 31)) ||| (x4 &&& (255 : Int32))) F G
def mb_global_72 (fu : Nat) (ag_32 : Int32 → Int32 → Int32 → PF → PG → PR) (x1 : Int32) (x2 : Int32) (x3 : Int32) (z0 : Int32) (F : PF) (G : PG) : PR := if ixb x1 2001 = true then (if (G 40 x1.toNatClampNeg) = (0 : Int32) then mb_global_97 fu ag_32 x1 x3 z0 F G else mb_global_83 fu ag_32 x1 x2 x3 z0 F G) else none
def mb_global_59 (fu : Nat) (ag_32 : Int32 → Int32 → Int32 → PF → PG → PR) (x1 : Int32) (x2 : Int32) (x3 : Int32) (F : PF) (G : PG) : PR := if ixb x1 2001 = true then (if ixb ((G 39 x1.toNatClampNeg) + x3) 20000 = true then (mb_global_72 fu ag_32 x1 x2 x3 (G 90 ((G 39 x1.toNatClampNeg) + x3).toNatClampNeg) F G) else none) else none
def mb_global_43 (fu : Nat) (ag_32 : Int32 → Int32 → Int32 → PF → PG → PR) (x1 : Int32) (x2 : Int32) (x3 : Int32) (F : PF) (G : PG) : PR := if ixb x1 2001 = true then (if ixb ((G 39 x1.toNatClampNeg) + x3) 8008 = true then (mb_global_72 fu ag_32 x1 x2 x3 (G 41 ((G 39 x1.toNatClampNeg) + x3).toNatClampNeg) F G) else none) else none
def mb_global_36 (fu : Nat) (ag_32 : Int32 → Int32 → Int32 → PF → PG → PR) (x1 : Int32) (x2 : Int32) (x3 : Int32) (F : PF) (G : PG) : PR := if (F 75) = (0 : Int32) then mb_global_43 fu ag_32 x1 x2 x3 F G else mb_global_59 fu ag_32 x1 x2 x3 F G
def mb_global_32 (fu : Nat) (ag_32 : Int32 → Int32 → Int32 → PF → PG → PR) (x1 : Int32) (x2 : Int32) (x3 : Int32) (F : PF) (G : PG) : PR := if x3 < (0 : Int32) then mb_global_106 fu x2 F G else mb_global_36 fu ag_32 x1 x2 x3 F G
def ml_global_32 (fu : Nat) : Nat → Int32 → Int32 → Int32 → PF → PG → PR
  | 0 => fun _ _ _ _ _ => none
  | n + 1 => fun x1 x2 x3 F G => mb_global_32 fu (ml_global_32 fu n) x1 x2 x3 F G
def mb_global_21 (fu : Nat) (x1 : Int32) (F : PF) (G : PG) : PR := if ixb x1 2001 = true then (ml_global_32 fu fu x1 0 ((G 38 x1.toNatClampNeg) - (1 : Int32)) F G) else none
def mb_global_11 (fu : Nat) (x1 : Int32) (F : PF) (G : PG) : PR := if x1 < (F 36) then mb_global_21 fu x1 F G else mb_global_19 fu F G
def mb_global_7 (fu : Nat) (x1 : Int32) (F : PF) (G : PG) : PR := if x1 < (0 : Int32) then mb_global_19 fu F G else mb_global_11 fu x1 F G
def mb_global_0 (fu : Nat) (x1 : Int32) (F : PF) (G : PG) : PR := if (F 73) = (0 : Int32) then mb_global_19 fu F G else mb_global_7 fu x1 F G
def mf_global (fu : Nat) (x1 : Int32) (F : PF) (G : PG) : PR := mb_global_0 fu x1 F G
theorem mw_global_19 (fu : Nat) {res : Int32 × PF × PG} (C : mMC p R s m args c A v RX12 cX12_global 5 0 0) (hret : ∀ (H1 : Heap) (locs1 : List Loc) (ls1 : Array Slot) (pc : Nat), mMW s A v a res.2.1 res.2.2 H1 locs1 → narrow .int (.int res.1) = .int res.1 → decode cX12_global pc = .ok (.ireturn, 1) → W p l e R s m args below meth c H1 locs1 0 0 Q (F0 m pc ls1 [.int res.1])) (F : PF) (G : PG) (hm : mb_global_19 fu F G = some res) {H : Heap} {locs : List Loc} (hw : mMW s A v a F G H locs) {ls : Array Slot} (hl : lv_has ls 5 []) : W p l e R s m args below meth c H locs 0 0 Q (F0 m 19 ls []) := by
  have hx := C.1
  have hb := C.2.1
  unfold mb_global_19 at hm
  refine lv_iconst (v := 0) hx hb dX12_global_19 (by decide) ?_
  obtain rfl := Option.some.inj hm
  exact hret _ _ _ _ hw rfl dX12_global_20
theorem mw_global_106 (fu : Nat) {res : Int32 × PF × PG} (C : mMC p R s m args c A v RX12 cX12_global 5 0 0) (hret : ∀ (H1 : Heap) (locs1 : List Loc) (ls1 : Array Slot) (pc : Nat), mMW s A v a res.2.1 res.2.2 H1 locs1 → narrow .int (.int res.1) = .int res.1 → decode cX12_global pc = .ok (.ireturn, 1) → W p l e R s m args below meth c H1 locs1 0 0 Q (F0 m pc ls1 [.int res.1])) (x2 : Int32) (F : PF) (G : PG) (hm : mb_global_106 fu x2 F G = some res) {H : Heap} {locs : List Loc} (hw : mMW s A v a F G H locs) {ls : Array Slot} (hl : lv_has ls 5 [(2, .int x2)]) : W p l e R s m args below meth c H locs 0 0 Q (F0 m 106 ls []) := by
  have hx := C.1
  have hb := C.2.1
  unfold mb_global_106 at hm
  refine lv_iload_n hx hb dX12_global_106 rfl (lv_at hl 0 rfl) ?_
  obtain rfl := Option.some.inj hm
  exact hret _ _ _ _ hw rfl dX12_global_107
theorem mw_global_99 (fu : Nat) {res : Int32 × PF × PG} (C : mMC p R s m args c A v RX12 cX12_global 5 0 0) (hret : ∀ (H1 : Heap) (locs1 : List Loc) (ls1 : Array Slot) (pc : Nat), mMW s A v a res.2.1 res.2.2 H1 locs1 → narrow .int (.int res.1) = .int res.1 → decode cX12_global pc = .ok (.ireturn, 1) → W p l e R s m args below meth c H1 locs1 0 0 Q (F0 m pc ls1 [.int res.1])) (ag_32 : Int32 → Int32 → Int32 → PF → PG → PR) (hag_32 : ∀ (x1 : Int32) (x2 : Int32) (x3 : Int32) (F : PF) (G : PG), ag_32 x1 x2 x3 F G = some res → ∀ (H : Heap) (locs : List Loc) (ls : Array Slot), mMW s A v a F G H locs → lv_has ls 5 [(0, .ref (a 212)), (1, .int x1), (2, .int x2), (3, .int x3)] → W p l e R s m args below meth c H locs 0 0 Q (F0 m 32 ls [])) (x1 : Int32) (x3 : Int32) (z0 : Int32) (F : PF) (G : PG) (hm : mb_global_99 fu ag_32 x1 x3 z0 F G = some res) {H : Heap} {locs : List Loc} (hw : mMW s A v a F G H locs) {ls : Array Slot} (hl : lv_has ls 5 [(0, .ref (a 212)), (1, .int x1), (3, .int x3)]) : W p l e R s m args below meth c H locs 0 0 Q (F0 m 99 ls [.int z0]) := by
  have hx := C.1
  have hb := C.2.1
  unfold mb_global_99 at hm
  refine lv_istore_n (lv' := [(2, .int z0), (0, .ref (a 212)), (1, .int x1), (3, .int x3)]) hx hb dX12_global_99 rfl hl (by decide) rfl (fun ls hl => ?_)
  refine lv_iinc (v := (x3 + (-1))) (lv' := [(3, .int (x3 + (-1))), (2, .int z0), (0, .ref (a 212)), (1, .int x1)]) hx hb dX12_global_100 hl (k := 3) rfl (by rfl) (by decide) rfl (fun ls hl => ?_)
  refine lv_goto (tgt := 32) hx hb dX12_global_103 (by decide) ?_
  exact hag_32 x1 z0 (x3 + (-1)) F G hm _ _ _ hw (lv_sub hl [2, 3, 1, 0] rfl)
theorem mw_global_97 (fu : Nat) {res : Int32 × PF × PG} (C : mMC p R s m args c A v RX12 cX12_global 5 0 0) (hret : ∀ (H1 : Heap) (locs1 : List Loc) (ls1 : Array Slot) (pc : Nat), mMW s A v a res.2.1 res.2.2 H1 locs1 → narrow .int (.int res.1) = .int res.1 → decode cX12_global pc = .ok (.ireturn, 1) → W p l e R s m args below meth c H1 locs1 0 0 Q (F0 m pc ls1 [.int res.1])) (ag_32 : Int32 → Int32 → Int32 → PF → PG → PR) (hag_32 : ∀ (x1 : Int32) (x2 : Int32) (x3 : Int32) (F : PF) (G : PG), ag_32 x1 x2 x3 F G = some res → ∀ (H : Heap) (locs : List Loc) (ls : Array Slot), mMW s A v a F G H locs → lv_has ls 5 [(0, .ref (a 212)), (1, .int x1), (2, .int x2), (3, .int x3)] → W p l e R s m args below meth c H locs 0 0 Q (F0 m 32 ls [])) (x1 : Int32) (x3 : Int32) (x4 : Int32) (F : PF) (G : PG) (hm : mb_global_97 fu ag_32 x1 x3 x4 F G = some res) {H : Heap} {locs : List Loc} (hw : mMW s A v a F G H locs) {ls : Array Slot} (hl : lv_has ls 5 [(0, .ref (a 212)), (1, .int x1), (3, .int x3), (4, .int x4)]) : W p l e R s m args below meth c H locs 0 0 Q (F0 m 97 ls []) := by
  have hx := C.1
  have hb := C.2.1
  unfold mb_global_97 at hm
  refine lv_iload hx hb dX12_global_97 (lv_at hl 3 rfl) ?_
  exact mw_global_99 fu C hret ag_32 hag_32 x1 x3 x4 F G hm hw (lv_sub hl [0, 1, 2] rfl)
theorem mw_global_83 (fu : Nat) {res : Int32 × PF × PG} (C : mMC p R s m args c A v RX12 cX12_global 5 0 0) (hret : ∀ (H1 : Heap) (locs1 : List Loc) (ls1 : Array Slot) (pc : Nat), mMW s A v a res.2.1 res.2.2 H1 locs1 → narrow .int (.int res.1) = .int res.1 → decode cX12_global pc = .ok (.ireturn, 1) → W p l e R s m args below meth c H1 locs1 0 0 Q (F0 m pc ls1 [.int res.1])) (ag_32 : Int32 → Int32 → Int32 → PF → PG → PR) (hag_32 : ∀ (x1 : Int32) (x2 : Int32) (x3 : Int32) (F : PF) (G : PG), ag_32 x1 x2 x3 F G = some res → ∀ (H : Heap) (locs : List Loc) (ls : Array Slot), mMW s A v a F G H locs → lv_has ls 5 [(0, .ref (a 212)), (1, .int x1), (2, .int x2), (3, .int x3)] → W p l e R s m args below meth c H locs 0 0 Q (F0 m 32 ls [])) (x1 : Int32) (x2 : Int32) (x3 : Int32) (x4 : Int32) (F : PF) (G : PG) (hm : mb_global_83 fu ag_32 x1 x2 x3 x4 F G = some res) {H : Heap} {locs : List Loc} (hw : mMW s A v a F G H locs) {ls : Array Slot} (hl : lv_has ls 5 [(0, .ref (a 212)), (1, .int x1), (2, .int x2), (3, .int x3), (4, .int x4)]) : W p l e R s m args below meth c H locs 0 0 Q (F0 m 83 ls []) := by
  have hx := C.1
  have hb := C.2.1
  unfold mb_global_83 at hm
  refine lv_iload_n hx hb dX12_global_83 rfl (lv_at hl 2 rfl) ?_
  refine lv_bipush (v := 8) hx hb dX12_global_84 (by decide) ?_
  refine lv_ishl hx hb dX12_global_86 ?_
  refine lv_iload hx hb dX12_global_87 (lv_at hl 4 rfl) ?_
  refine lv_sipush (v := 255) hx hb dX12_global_89 (by decide) ?_
  refine lv_iand hx hb dX12_global_92 ?_
  refine lv_ior hx hb dX12_global_93 ?_
  refine lv_goto (tgt := 99) hx hb dX12_global_94 (by decide) ?_
  exact mw_global_99 fu C hret ag_32 hag_32 x1 x3 ((x2 <<< ((8 : Int32) &&& 31)) ||| (x4 &&& (255 : Int32))) F G hm hw (lv_sub hl [0, 1, 3] rfl)
theorem mw_global_72 (fu : Nat) {res : Int32 × PF × PG} (C : mMC p R s m args c A v RX12 cX12_global 5 0 0) (hret : ∀ (H1 : Heap) (locs1 : List Loc) (ls1 : Array Slot) (pc : Nat), mMW s A v a res.2.1 res.2.2 H1 locs1 → narrow .int (.int res.1) = .int res.1 → decode cX12_global pc = .ok (.ireturn, 1) → W p l e R s m args below meth c H1 locs1 0 0 Q (F0 m pc ls1 [.int res.1])) (ag_32 : Int32 → Int32 → Int32 → PF → PG → PR) (hag_32 : ∀ (x1 : Int32) (x2 : Int32) (x3 : Int32) (F : PF) (G : PG), ag_32 x1 x2 x3 F G = some res → ∀ (H : Heap) (locs : List Loc) (ls : Array Slot), mMW s A v a F G H locs → lv_has ls 5 [(0, .ref (a 212)), (1, .int x1), (2, .int x2), (3, .int x3)] → W p l e R s m args below meth c H locs 0 0 Q (F0 m 32 ls [])) (x1 : Int32) (x2 : Int32) (x3 : Int32) (z0 : Int32) (F : PF) (G : PG) (hm : mb_global_72 fu ag_32 x1 x2 x3 z0 F G = some res) {H : Heap} {locs : List Loc} (hw : mMW s A v a F G H locs) {ls : Array Slot} (hl : lv_has ls 5 [(0, .ref (a 212)), (1, .int x1), (2, .int x2), (3, .int x3)]) : W p l e R s m args below meth c H locs 0 0 Q (F0 m 72 ls [.int z0]) := by
  have hx := C.1
  have hb := C.2.1
  unfold mb_global_72 at hm
  refine lv_istore (lv' := [(4, .int z0), (0, .ref (a 212)), (1, .int x1), (2, .int x2), (3, .int x3)]) hx hb dX12_global_72 hl (by decide) rfl (fun ls hl => ?_)
  refine lv_aload_n hx hb dX12_global_74 rfl (lv_at hl 1 rfl) ?_
  refine mg_X12_98 C hw dX12_global_75 ?_
  refine lv_iload_n hx hb dX12_global_78 rfl (lv_at hl 2 rfl) ?_
  obtain ⟨hi, hm⟩ := ix_elim hm
  refine mal_40 C hw hi dX12_global_79 ?_
  refine lv_if_eq (tgt := 97) hx hb dX12_global_80 (by decide) (fun c_1 => ?_) (fun c_1 => ?_)
  · have hm := (if_pos c_1).symm.trans hm
    exact mw_global_97 fu C hret ag_32 hag_32 x1 x3 z0 F G hm hw (lv_sub hl [1, 2, 4, 0] rfl)
  · have hm := (if_neg c_1).symm.trans hm
    exact mw_global_83 fu C hret ag_32 hag_32 x1 x2 x3 z0 F G hm hw (lv_sub hl [1, 2, 3, 4, 0] rfl)
theorem mw_global_59 (fu : Nat) {res : Int32 × PF × PG} (C : mMC p R s m args c A v RX12 cX12_global 5 0 0) (hret : ∀ (H1 : Heap) (locs1 : List Loc) (ls1 : Array Slot) (pc : Nat), mMW s A v a res.2.1 res.2.2 H1 locs1 → narrow .int (.int res.1) = .int res.1 → decode cX12_global pc = .ok (.ireturn, 1) → W p l e R s m args below meth c H1 locs1 0 0 Q (F0 m pc ls1 [.int res.1])) (ag_32 : Int32 → Int32 → Int32 → PF → PG → PR) (hag_32 : ∀ (x1 : Int32) (x2 : Int32) (x3 : Int32) (F : PF) (G : PG), ag_32 x1 x2 x3 F G = some res → ∀ (H : Heap) (locs : List Loc) (ls : Array Slot), mMW s A v a F G H locs → lv_has ls 5 [(0, .ref (a 212)), (1, .int x1), (2, .int x2), (3, .int x3)] → W p l e R s m args below meth c H locs 0 0 Q (F0 m 32 ls [])) (x1 : Int32) (x2 : Int32) (x3 : Int32) (F : PF) (G : PG) (hm : mb_global_59 fu ag_32 x1 x2 x3 F G = some res) {H : Heap} {locs : List Loc} (hw : mMW s A v a F G H locs) {ls : Array Slot} (hl : lv_has ls 5 [(0, .ref (a 212)), (1, .int x1), (2, .int x2), (3, .int x3)]) : W p l e R s m args below meth c H locs 0 0 Q (F0 m 59 ls []) := by
  have hx := C.1
  have hb := C.2.1
  unfold mb_global_59 at hm
  refine lv_aload_n hx hb dX12_global_59 rfl (lv_at hl 0 rfl) ?_
  refine mg_X12_135 C hw dX12_global_60 ?_
  refine lv_aload_n hx hb dX12_global_63 rfl (lv_at hl 0 rfl) ?_
  refine mg_X12_95 C hw dX12_global_64 ?_
  refine lv_iload_n hx hb dX12_global_67 rfl (lv_at hl 1 rfl) ?_
  obtain ⟨hi, hm⟩ := ix_elim hm
  refine mal_39 C hw hi dX12_global_68 ?_
  refine lv_iload_n hx hb dX12_global_69 rfl (lv_at hl 3 rfl) ?_
  refine lv_iadd hx hb dX12_global_70 ?_
  obtain ⟨hi, hm⟩ := ix_elim hm
  refine mal_90 C hw hi dX12_global_71 ?_
  exact mw_global_72 fu C hret ag_32 hag_32 x1 x2 x3 (G 90 ((G 39 x1.toNatClampNeg) + x3).toNatClampNeg) F G hm hw (lv_sub hl [0, 1, 2, 3] rfl)
theorem mw_global_43 (fu : Nat) {res : Int32 × PF × PG} (C : mMC p R s m args c A v RX12 cX12_global 5 0 0) (hret : ∀ (H1 : Heap) (locs1 : List Loc) (ls1 : Array Slot) (pc : Nat), mMW s A v a res.2.1 res.2.2 H1 locs1 → narrow .int (.int res.1) = .int res.1 → decode cX12_global pc = .ok (.ireturn, 1) → W p l e R s m args below meth c H1 locs1 0 0 Q (F0 m pc ls1 [.int res.1])) (ag_32 : Int32 → Int32 → Int32 → PF → PG → PR) (hag_32 : ∀ (x1 : Int32) (x2 : Int32) (x3 : Int32) (F : PF) (G : PG), ag_32 x1 x2 x3 F G = some res → ∀ (H : Heap) (locs : List Loc) (ls : Array Slot), mMW s A v a F G H locs → lv_has ls 5 [(0, .ref (a 212)), (1, .int x1), (2, .int x2), (3, .int x3)] → W p l e R s m args below meth c H locs 0 0 Q (F0 m 32 ls [])) (x1 : Int32) (x2 : Int32) (x3 : Int32) (F : PF) (G : PG) (hm : mb_global_43 fu ag_32 x1 x2 x3 F G = some res) {H : Heap} {locs : List Loc} (hw : mMW s A v a F G H locs) {ls : Array Slot} (hl : lv_has ls 5 [(0, .ref (a 212)), (1, .int x1), (2, .int x2), (3, .int x3)]) : W p l e R s m args below meth c H locs 0 0 Q (F0 m 43 ls []) := by
  have hx := C.1
  have hb := C.2.1
  unfold mb_global_43 at hm
  refine lv_aload_n hx hb dX12_global_43 rfl (lv_at hl 0 rfl) ?_
  refine mg_X12_101 C hw dX12_global_44 ?_
  refine lv_aload_n hx hb dX12_global_47 rfl (lv_at hl 0 rfl) ?_
  refine mg_X12_95 C hw dX12_global_48 ?_
  refine lv_iload_n hx hb dX12_global_51 rfl (lv_at hl 1 rfl) ?_
  obtain ⟨hi, hm⟩ := ix_elim hm
  refine mal_39 C hw hi dX12_global_52 ?_
  refine lv_iload_n hx hb dX12_global_53 rfl (lv_at hl 3 rfl) ?_
  refine lv_iadd hx hb dX12_global_54 ?_
  obtain ⟨hi, hm⟩ := ix_elim hm
  refine mal_41 C hw hi dX12_global_55 ?_
  refine lv_goto (tgt := 72) hx hb dX12_global_56 (by decide) ?_
  exact mw_global_72 fu C hret ag_32 hag_32 x1 x2 x3 (G 41 ((G 39 x1.toNatClampNeg) + x3).toNatClampNeg) F G hm hw (lv_sub hl [0, 1, 2, 3] rfl)
theorem mw_global_36 (fu : Nat) {res : Int32 × PF × PG} (C : mMC p R s m args c A v RX12 cX12_global 5 0 0) (hret : ∀ (H1 : Heap) (locs1 : List Loc) (ls1 : Array Slot) (pc : Nat), mMW s A v a res.2.1 res.2.2 H1 locs1 → narrow .int (.int res.1) = .int res.1 → decode cX12_global pc = .ok (.ireturn, 1) → W p l e R s m args below meth c H1 locs1 0 0 Q (F0 m pc ls1 [.int res.1])) (ag_32 : Int32 → Int32 → Int32 → PF → PG → PR) (hag_32 : ∀ (x1 : Int32) (x2 : Int32) (x3 : Int32) (F : PF) (G : PG), ag_32 x1 x2 x3 F G = some res → ∀ (H : Heap) (locs : List Loc) (ls : Array Slot), mMW s A v a F G H locs → lv_has ls 5 [(0, .ref (a 212)), (1, .int x1), (2, .int x2), (3, .int x3)] → W p l e R s m args below meth c H locs 0 0 Q (F0 m 32 ls [])) (x1 : Int32) (x2 : Int32) (x3 : Int32) (F : PF) (G : PG) (hm : mb_global_36 fu ag_32 x1 x2 x3 F G = some res) {H : Heap} {locs : List Loc} (hw : mMW s A v a F G H locs) {ls : Array Slot} (hl : lv_has ls 5 [(0, .ref (a 212)), (1, .int x1), (2, .int x2), (3, .int x3)]) : W p l e R s m args below meth c H locs 0 0 Q (F0 m 36 ls []) := by
  have hx := C.1
  have hb := C.2.1
  unfold mb_global_36 at hm
  refine lv_aload_n hx hb dX12_global_36 rfl (lv_at hl 0 rfl) ?_
  refine mg_X12_512 C hw dX12_global_37 ?_
  refine lv_if_ne (tgt := 59) hx hb dX12_global_40 (by decide) (fun c_1 => ?_) (fun c_1 => ?_)
  · have hm := (if_neg c_1).symm.trans hm
    exact mw_global_59 fu C hret ag_32 hag_32 x1 x2 x3 F G hm hw (lv_sub hl [0, 1, 2, 3] rfl)
  · have hm := (if_pos c_1).symm.trans hm
    exact mw_global_43 fu C hret ag_32 hag_32 x1 x2 x3 F G hm hw (lv_sub hl [0, 1, 2, 3] rfl)
theorem mw_global_32 (fu : Nat) {res : Int32 × PF × PG} (C : mMC p R s m args c A v RX12 cX12_global 5 0 0) (hret : ∀ (H1 : Heap) (locs1 : List Loc) (ls1 : Array Slot) (pc : Nat), mMW s A v a res.2.1 res.2.2 H1 locs1 → narrow .int (.int res.1) = .int res.1 → decode cX12_global pc = .ok (.ireturn, 1) → W p l e R s m args below meth c H1 locs1 0 0 Q (F0 m pc ls1 [.int res.1])) (ag_32 : Int32 → Int32 → Int32 → PF → PG → PR) (hag_32 : ∀ (x1 : Int32) (x2 : Int32) (x3 : Int32) (F : PF) (G : PG), ag_32 x1 x2 x3 F G = some res → ∀ (H : Heap) (locs : List Loc) (ls : Array Slot), mMW s A v a F G H locs → lv_has ls 5 [(0, .ref (a 212)), (1, .int x1), (2, .int x2), (3, .int x3)] → W p l e R s m args below meth c H locs 0 0 Q (F0 m 32 ls [])) (x1 : Int32) (x2 : Int32) (x3 : Int32) (F : PF) (G : PG) (hm : mb_global_32 fu ag_32 x1 x2 x3 F G = some res) {H : Heap} {locs : List Loc} (hw : mMW s A v a F G H locs) {ls : Array Slot} (hl : lv_has ls 5 [(0, .ref (a 212)), (1, .int x1), (2, .int x2), (3, .int x3)]) : W p l e R s m args below meth c H locs 0 0 Q (F0 m 32 ls []) := by
  have hx := C.1
  have hb := C.2.1
  unfold mb_global_32 at hm
  refine lv_iload_n hx hb dX12_global_32 rfl (lv_at hl 3 rfl) ?_
  refine lv_if_lt (tgt := 106) hx hb dX12_global_33 (by decide) (fun c_1 => ?_) (fun c_1 => ?_)
  · have hm := (if_pos c_1).symm.trans hm
    exact mw_global_106 fu C hret x2 F G hm hw (lv_sub hl [2] rfl)
  · have hm := (if_neg c_1).symm.trans hm
    exact mw_global_36 fu C hret ag_32 hag_32 x1 x2 x3 F G hm hw (lv_sub hl [0, 1, 2, 3] rfl)
theorem mwl_global_32 (fu : Nat) {res : Int32 × PF × PG} (C : mMC p R s m args c A v RX12 cX12_global 5 0 0) (hret : ∀ (H1 : Heap) (locs1 : List Loc) (ls1 : Array Slot) (pc : Nat), mMW s A v a res.2.1 res.2.2 H1 locs1 → narrow .int (.int res.1) = .int res.1 → decode cX12_global pc = .ok (.ireturn, 1) → W p l e R s m args below meth c H1 locs1 0 0 Q (F0 m pc ls1 [.int res.1])) : ∀ (n : Nat) (x1 : Int32) (x2 : Int32) (x3 : Int32) (F : PF) (G : PG) (hm : ml_global_32 fu n x1 x2 x3 F G = some res) {H : Heap} {locs : List Loc} (hw : mMW s A v a F G H locs) {ls : Array Slot} (hl : lv_has ls 5 [(0, .ref (a 212)), (1, .int x1), (2, .int x2), (3, .int x3)]), W p l e R s m args below meth c H locs 0 0 Q (F0 m 32 ls []) := by
  intro n
  induction n with
  | zero =>
    intro x1 x2 x3 F G hm
    exact no_elim (show (none : PR) = some res from hm)
  | succ n ih =>
    intro x1 x2 x3 F G hm H locs hw ls hl
    exact mw_global_32 fu C hret (ml_global_32 fu n) (fun x1 x2 x3 F G hm H locs ls hw hl => ih x1 x2 x3 F G hm hw hl) x1 x2 x3 F G hm hw hl
theorem mw_global_21 (fu : Nat) {res : Int32 × PF × PG} (C : mMC p R s m args c A v RX12 cX12_global 5 0 0) (hret : ∀ (H1 : Heap) (locs1 : List Loc) (ls1 : Array Slot) (pc : Nat), mMW s A v a res.2.1 res.2.2 H1 locs1 → narrow .int (.int res.1) = .int res.1 → decode cX12_global pc = .ok (.ireturn, 1) → W p l e R s m args below meth c H1 locs1 0 0 Q (F0 m pc ls1 [.int res.1])) (x1 : Int32) (F : PF) (G : PG) (hm : mb_global_21 fu x1 F G = some res) {H : Heap} {locs : List Loc} (hw : mMW s A v a F G H locs) {ls : Array Slot} (hl : lv_has ls 5 [(0, .ref (a 212)), (1, .int x1)]) : W p l e R s m args below meth c H locs 0 0 Q (F0 m 21 ls []) := by
  have hx := C.1
  have hb := C.2.1
  unfold mb_global_21 at hm
  refine lv_iconst (v := 0) hx hb dX12_global_21 (by decide) ?_
  refine lv_istore_n (lv' := [(2, .int 0), (0, .ref (a 212)), (1, .int x1)]) hx hb dX12_global_22 rfl hl (by decide) rfl (fun ls hl => ?_)
  refine lv_aload_n hx hb dX12_global_23 rfl (lv_at hl 1 rfl) ?_
  refine mg_X12_92 C hw dX12_global_24 ?_
  refine lv_iload_n hx hb dX12_global_27 rfl (lv_at hl 2 rfl) ?_
  obtain ⟨hi, hm⟩ := ix_elim hm
  refine mal_38 C hw hi dX12_global_28 ?_
  refine lv_iconst (v := 1) hx hb dX12_global_29 (by decide) ?_
  refine lv_isub hx hb dX12_global_30 ?_
  refine lv_istore_n (lv' := [(3, .int ((G 38 x1.toNatClampNeg) - (1 : Int32))), (2, .int 0), (0, .ref (a 212)), (1, .int x1)]) hx hb dX12_global_31 rfl hl (by decide) rfl (fun ls hl => ?_)
  exact mwl_global_32 fu C hret fu x1 0 ((G 38 x1.toNatClampNeg) - (1 : Int32)) F G hm hw (lv_sub hl [2, 3, 1, 0] rfl)
theorem mw_global_11 (fu : Nat) {res : Int32 × PF × PG} (C : mMC p R s m args c A v RX12 cX12_global 5 0 0) (hret : ∀ (H1 : Heap) (locs1 : List Loc) (ls1 : Array Slot) (pc : Nat), mMW s A v a res.2.1 res.2.2 H1 locs1 → narrow .int (.int res.1) = .int res.1 → decode cX12_global pc = .ok (.ireturn, 1) → W p l e R s m args below meth c H1 locs1 0 0 Q (F0 m pc ls1 [.int res.1])) (x1 : Int32) (F : PF) (G : PG) (hm : mb_global_11 fu x1 F G = some res) {H : Heap} {locs : List Loc} (hw : mMW s A v a F G H locs) {ls : Array Slot} (hl : lv_has ls 5 [(0, .ref (a 212)), (1, .int x1)]) : W p l e R s m args below meth c H locs 0 0 Q (F0 m 11 ls []) := by
  have hx := C.1
  have hb := C.2.1
  unfold mb_global_11 at hm
  refine lv_iload_n hx hb dX12_global_11 rfl (lv_at hl 1 rfl) ?_
  refine lv_aload_n hx hb dX12_global_12 rfl (lv_at hl 0 rfl) ?_
  refine mg_X12_288 C hw dX12_global_13 ?_
  refine lv_icmp_lt (tgt := 21) hx hb dX12_global_16 (by decide) (fun c_1 => ?_) (fun c_1 => ?_)
  · have hm := (if_pos c_1).symm.trans hm
    exact mw_global_21 fu C hret x1 F G hm hw (lv_sub hl [0, 1] rfl)
  · have hm := (if_neg c_1).symm.trans hm
    exact mw_global_19 fu C hret F G hm hw (lv_sub hl [] rfl)
theorem mw_global_7 (fu : Nat) {res : Int32 × PF × PG} (C : mMC p R s m args c A v RX12 cX12_global 5 0 0) (hret : ∀ (H1 : Heap) (locs1 : List Loc) (ls1 : Array Slot) (pc : Nat), mMW s A v a res.2.1 res.2.2 H1 locs1 → narrow .int (.int res.1) = .int res.1 → decode cX12_global pc = .ok (.ireturn, 1) → W p l e R s m args below meth c H1 locs1 0 0 Q (F0 m pc ls1 [.int res.1])) (x1 : Int32) (F : PF) (G : PG) (hm : mb_global_7 fu x1 F G = some res) {H : Heap} {locs : List Loc} (hw : mMW s A v a F G H locs) {ls : Array Slot} (hl : lv_has ls 5 [(0, .ref (a 212)), (1, .int x1)]) : W p l e R s m args below meth c H locs 0 0 Q (F0 m 7 ls []) := by
  have hx := C.1
  have hb := C.2.1
  unfold mb_global_7 at hm
  refine lv_iload_n hx hb dX12_global_7 rfl (lv_at hl 1 rfl) ?_
  refine lv_if_lt (tgt := 19) hx hb dX12_global_8 (by decide) (fun c_1 => ?_) (fun c_1 => ?_)
  · have hm := (if_pos c_1).symm.trans hm
    exact mw_global_19 fu C hret F G hm hw (lv_sub hl [] rfl)
  · have hm := (if_neg c_1).symm.trans hm
    exact mw_global_11 fu C hret x1 F G hm hw (lv_sub hl [0, 1] rfl)
theorem mw_global_0 (fu : Nat) {res : Int32 × PF × PG} (C : mMC p R s m args c A v RX12 cX12_global 5 0 0) (hret : ∀ (H1 : Heap) (locs1 : List Loc) (ls1 : Array Slot) (pc : Nat), mMW s A v a res.2.1 res.2.2 H1 locs1 → narrow .int (.int res.1) = .int res.1 → decode cX12_global pc = .ok (.ireturn, 1) → W p l e R s m args below meth c H1 locs1 0 0 Q (F0 m pc ls1 [.int res.1])) (x1 : Int32) (F : PF) (G : PG) (hm : mb_global_0 fu x1 F G = some res) {H : Heap} {locs : List Loc} (hw : mMW s A v a F G H locs) {ls : Array Slot} (hl : lv_has ls 5 [(0, .ref (a 212)), (1, .int x1)]) : W p l e R s m args below meth c H locs 0 0 Q (F0 m 0 ls []) := by
  have hx := C.1
  have hb := C.2.1
  unfold mb_global_0 at hm
  refine lv_aload_n hx hb dX12_global_0 rfl (lv_at hl 0 rfl) ?_
  refine mg_X12_509 C hw dX12_global_1 ?_
  refine lv_if_eq (tgt := 19) hx hb dX12_global_4 (by decide) (fun c_1 => ?_) (fun c_1 => ?_)
  · have hm := (if_pos c_1).symm.trans hm
    exact mw_global_19 fu C hret F G hm hw (lv_sub hl [] rfl)
  · have hm := (if_neg c_1).symm.trans hm
    exact mw_global_7 fu C hret x1 F G hm hw (lv_sub hl [0, 1] rfl)
theorem mk_global (l : Launch) (v : EV) (a : Nat → Nat) (sz : Nat) (fu : Nat) (x1 : Int32) (F : PF) (G : PG) (r : Int32) (F1 : PF) (G1 : PG) (hm : mf_global fu x1 F G = some (r, F1, G1)) : mMI l yX12_global cX12_global 5 (some .int) 0 0 v a sz [.ref (a 212), .int x1] F G r F1 G1 := mMI.of (ty := .int) (by decide) rfl (Nat.le_of_ble_eq_true rfl) (fun p e R s m args below meth c Q A H locs ls C hw hl hret => mw_global_0 fu (res := (r, F1, G1)) C hret x1 F G hm hw hl)
def mb_put_17 (fu : Nat) (F : PF) (G : PG) : PR := some (0, F, G)
def mb_put_28 (fu : Nat) (F : PF) (G : PG) : PR := some (1, F, G)
def mb_put_19 (fu : Nat) (x1 : Int32) (x2 : Int32) (F : PF) (G : PG) : PR := if ixb (x1 >>> ((2 : Int32) &&& 31)) 4096 = true then (mb_put_28 fu F (gup G 94 (x1 >>> ((2 : Int32) &&& 31)).toNatClampNeg x2)) else none
def mb_put_10 (fu : Nat) (x1 : Int32) (x2 : Int32) (F : PF) (G : PG) : PR := if x1 ≤ (16380 : Int32) then mb_put_19 fu x1 x2 F G else mb_put_17 fu F G
def mb_put_6 (fu : Nat) (x1 : Int32) (x2 : Int32) (F : PF) (G : PG) : PR := if x1 < (0 : Int32) then mb_put_17 fu F G else mb_put_10 fu x1 x2 F G
def mb_put_0 (fu : Nat) (x1 : Int32) (x2 : Int32) (F : PF) (G : PG) : PR := if (x1 &&& (3 : Int32)) = (0 : Int32) then mb_put_6 fu x1 x2 F G else mb_put_17 fu F G
def mf_put (fu : Nat) (x1 : Int32) (x2 : Int32) (F : PF) (G : PG) : PR := mb_put_0 fu x1 x2 F G
theorem mw_put_17 (fu : Nat) {res : Int32 × PF × PG} (C : mMC p R s m args c A v RX12 cX12_put 3 0 0) (hret : ∀ (H1 : Heap) (locs1 : List Loc) (ls1 : Array Slot) (pc : Nat), mMW s A v a res.2.1 res.2.2 H1 locs1 → narrow .boolean (.int res.1) = .int res.1 → decode cX12_put pc = .ok (.ireturn, 1) → W p l e R s m args below meth c H1 locs1 0 0 Q (F0 m pc ls1 [.int res.1])) (F : PF) (G : PG) (hm : mb_put_17 fu F G = some res) {H : Heap} {locs : List Loc} (hw : mMW s A v a F G H locs) {ls : Array Slot} (hl : lv_has ls 3 []) : W p l e R s m args below meth c H locs 0 0 Q (F0 m 17 ls []) := by
  have hx := C.1
  have hb := C.2.1
  unfold mb_put_17 at hm
  refine lv_iconst (v := 0) hx hb dX12_put_17 (by decide) ?_
  obtain rfl := Option.some.inj hm
  exact hret _ _ _ _ hw (b01_nar (v := 0) (Or.inl rfl)) dX12_put_18
theorem mw_put_28 (fu : Nat) {res : Int32 × PF × PG} (C : mMC p R s m args c A v RX12 cX12_put 3 0 0) (hret : ∀ (H1 : Heap) (locs1 : List Loc) (ls1 : Array Slot) (pc : Nat), mMW s A v a res.2.1 res.2.2 H1 locs1 → narrow .boolean (.int res.1) = .int res.1 → decode cX12_put pc = .ok (.ireturn, 1) → W p l e R s m args below meth c H1 locs1 0 0 Q (F0 m pc ls1 [.int res.1])) (F : PF) (G : PG) (hm : mb_put_28 fu F G = some res) {H : Heap} {locs : List Loc} (hw : mMW s A v a F G H locs) {ls : Array Slot} (hl : lv_has ls 3 []) : W p l e R s m args below meth c H locs 0 0 Q (F0 m 28 ls []) := by
  have hx := C.1
  have hb := C.2.1
  unfold mb_put_28 at hm
  refine lv_iconst (v := 1) hx hb dX12_put_28 (by decide) ?_
  obtain rfl := Option.some.inj hm
  exact hret _ _ _ _ hw (b01_nar (v := 1) (Or.inr rfl)) dX12_put_29
theorem mw_put_19 (fu : Nat) {res : Int32 × PF × PG} (C : mMC p R s m args c A v RX12 cX12_put 3 0 0) (hret : ∀ (H1 : Heap) (locs1 : List Loc) (ls1 : Array Slot) (pc : Nat), mMW s A v a res.2.1 res.2.2 H1 locs1 → narrow .boolean (.int res.1) = .int res.1 → decode cX12_put pc = .ok (.ireturn, 1) → W p l e R s m args below meth c H1 locs1 0 0 Q (F0 m pc ls1 [.int res.1])) (x1 : Int32) (x2 : Int32) (F : PF) (G : PG) (hm : mb_put_19 fu x1 x2 F G = some res) {H : Heap} {locs : List Loc} (hw : mMW s A v a F G H locs) {ls : Array Slot} (hl : lv_has ls 3 [(0, .ref (a 212)), (1, .int x1), (2, .int x2)]) : W p l e R s m args below meth c H locs 0 0 Q (F0 m 19 ls []) := by
  have hx := C.1
  have hb := C.2.1
  unfold mb_put_19 at hm
  refine lv_aload_n hx hb dX12_put_19 rfl (lv_at hl 0 rfl) ?_
  refine mg_X12_147 C hw dX12_put_20 ?_
  refine lv_iload_n hx hb dX12_put_23 rfl (lv_at hl 1 rfl) ?_
  refine lv_iconst (v := 2) hx hb dX12_put_24 (by decide) ?_
  refine lv_ishr hx hb dX12_put_25 ?_
  refine lv_iload_n hx hb dX12_put_26 rfl (lv_at hl 2 rfl) ?_
  obtain ⟨hi, hm⟩ := ix_elim hm
  refine mas_94 C hw hi dX12_put_27 (fun H locs hw => ?_)
  exact mw_put_28 fu C hret F (gup G 94 (x1 >>> ((2 : Int32) &&& 31)).toNatClampNeg x2) hm hw (lv_sub hl [] rfl)
theorem mw_put_10 (fu : Nat) {res : Int32 × PF × PG} (C : mMC p R s m args c A v RX12 cX12_put 3 0 0) (hret : ∀ (H1 : Heap) (locs1 : List Loc) (ls1 : Array Slot) (pc : Nat), mMW s A v a res.2.1 res.2.2 H1 locs1 → narrow .boolean (.int res.1) = .int res.1 → decode cX12_put pc = .ok (.ireturn, 1) → W p l e R s m args below meth c H1 locs1 0 0 Q (F0 m pc ls1 [.int res.1])) (x1 : Int32) (x2 : Int32) (F : PF) (G : PG) (hm : mb_put_10 fu x1 x2 F G = some res) {H : Heap} {locs : List Loc} (hw : mMW s A v a F G H locs) {ls : Array Slot} (hl : lv_has ls 3 [(0, .ref (a 212)), (1, .int x1), (2, .int x2)]) : W p l e R s m args below meth c H locs 0 0 Q (F0 m 10 ls []) := by
  have hx := C.1
  have hb := C.2.1
  unfold mb_put_10 at hm
  refine lv_iload_n hx hb dX12_put_10 rfl (lv_at hl 1 rfl) ?_
  refine lv_sipush (v := 16380) hx hb dX12_put_11 (by decide) ?_
  refine lv_icmp_le (tgt := 19) hx hb dX12_put_14 (by decide) (fun c_1 => ?_) (fun c_1 => ?_)
  · have hm := (if_pos c_1).symm.trans hm
    exact mw_put_19 fu C hret x1 x2 F G hm hw (lv_sub hl [0, 1, 2] rfl)
  · have hm := (if_neg c_1).symm.trans hm
    exact mw_put_17 fu C hret F G hm hw (lv_sub hl [] rfl)
theorem mw_put_6 (fu : Nat) {res : Int32 × PF × PG} (C : mMC p R s m args c A v RX12 cX12_put 3 0 0) (hret : ∀ (H1 : Heap) (locs1 : List Loc) (ls1 : Array Slot) (pc : Nat), mMW s A v a res.2.1 res.2.2 H1 locs1 → narrow .boolean (.int res.1) = .int res.1 → decode cX12_put pc = .ok (.ireturn, 1) → W p l e R s m args below meth c H1 locs1 0 0 Q (F0 m pc ls1 [.int res.1])) (x1 : Int32) (x2 : Int32) (F : PF) (G : PG) (hm : mb_put_6 fu x1 x2 F G = some res) {H : Heap} {locs : List Loc} (hw : mMW s A v a F G H locs) {ls : Array Slot} (hl : lv_has ls 3 [(0, .ref (a 212)), (1, .int x1), (2, .int x2)]) : W p l e R s m args below meth c H locs 0 0 Q (F0 m 6 ls []) := by
  have hx := C.1
  have hb := C.2.1
  unfold mb_put_6 at hm
  refine lv_iload_n hx hb dX12_put_6 rfl (lv_at hl 1 rfl) ?_
  refine lv_if_lt (tgt := 17) hx hb dX12_put_7 (by decide) (fun c_1 => ?_) (fun c_1 => ?_)
  · have hm := (if_pos c_1).symm.trans hm
    exact mw_put_17 fu C hret F G hm hw (lv_sub hl [] rfl)
  · have hm := (if_neg c_1).symm.trans hm
    exact mw_put_10 fu C hret x1 x2 F G hm hw (lv_sub hl [0, 1, 2] rfl)
theorem mw_put_0 (fu : Nat) {res : Int32 × PF × PG} (C : mMC p R s m args c A v RX12 cX12_put 3 0 0) (hret : ∀ (H1 : Heap) (locs1 : List Loc) (ls1 : Array Slot) (pc : Nat), mMW s A v a res.2.1 res.2.2 H1 locs1 → narrow .boolean (.int res.1) = .int res.1 → decode cX12_put pc = .ok (.ireturn, 1) → W p l e R s m args below meth c H1 locs1 0 0 Q (F0 m pc ls1 [.int res.1])) (x1 : Int32) (x2 : Int32) (F : PF) (G : PG) (hm : mb_put_0 fu x1 x2 F G = some res) {H : Heap} {locs : List Loc} (hw : mMW s A v a F G H locs) {ls : Array Slot} (hl : lv_has ls 3 [(0, .ref (a 212)), (1, .int x1), (2, .int x2)]) : W p l e R s m args below meth c H locs 0 0 Q (F0 m 0 ls []) := by
  have hx := C.1
  have hb := C.2.1
  unfold mb_put_0 at hm
  refine lv_iload_n hx hb dX12_put_0 rfl (lv_at hl 1 rfl) ?_
  refine lv_iconst (v := 3) hx hb dX12_put_1 (by decide) ?_
  refine lv_iand hx hb dX12_put_2 ?_
  refine lv_if_ne (tgt := 17) hx hb dX12_put_3 (by decide) (fun c_1 => ?_) (fun c_1 => ?_)
  · have hm := (if_neg c_1).symm.trans hm
    exact mw_put_17 fu C hret F G hm hw (lv_sub hl [] rfl)
  · have hm := (if_pos c_1).symm.trans hm
    exact mw_put_6 fu C hret x1 x2 F G hm hw (lv_sub hl [0, 1, 2] rfl)
theorem mk_put (l : Launch) (v : EV) (a : Nat → Nat) (sz : Nat) (fu : Nat) (x1 : Int32) (x2 : Int32) (F : PF) (G : PG) (r : Int32) (F1 : PF) (G1 : PG) (hm : mf_put fu x1 x2 F G = some (r, F1, G1)) : mMI l yX12_put cX12_put 3 (some .boolean) 0 0 v a sz [.ref (a 212), .int x1, .int x2] F G r F1 G1 := mMI.of (ty := .boolean) (by decide) rfl (Nat.le_of_ble_eq_true rfl) (fun p e R s m args below meth c Q A H locs ls C hw hl hret => mw_put_0 fu (res := (r, F1, G1)) C hret x1 x2 F G hm hw hl)
def mb_set_11 (fu : Nat) (F : PF) (G : PG) : PR := some (0, F, G)
def mb_set_20 (fu : Nat) (F : PF) (G : PG) : PR := some (1, F, G)
def mb_set_13 (fu : Nat) (x1 : Int32) (x2 : Int32) (F : PF) (G : PG) : PR := if ixb x1 33 = true then (mb_set_20 fu F (gup G 95 x1.toNatClampNeg x2)) else none
def mb_set_5 (fu : Nat) (x1 : Int32) (x2 : Int32) (F : PF) (G : PG) : PR := if x1 ≤ (32 : Int32) then mb_set_13 fu x1 x2 F G else mb_set_11 fu F G
def mb_set_0 (fu : Nat) (x1 : Int32) (x2 : Int32) (F : PF) (G : PG) : PR := if x1 < (1 : Int32) then mb_set_11 fu F G else mb_set_5 fu x1 x2 F G
def mf_set (fu : Nat) (x1 : Int32) (x2 : Int32) (F : PF) (G : PG) : PR := mb_set_0 fu x1 x2 F G
theorem mw_set_11 (fu : Nat) {res : Int32 × PF × PG} (C : mMC p R s m args c A v RX12 cX12_set 3 0 0) (hret : ∀ (H1 : Heap) (locs1 : List Loc) (ls1 : Array Slot) (pc : Nat), mMW s A v a res.2.1 res.2.2 H1 locs1 → narrow .boolean (.int res.1) = .int res.1 → decode cX12_set pc = .ok (.ireturn, 1) → W p l e R s m args below meth c H1 locs1 0 0 Q (F0 m pc ls1 [.int res.1])) (F : PF) (G : PG) (hm : mb_set_11 fu F G = some res) {H : Heap} {locs : List Loc} (hw : mMW s A v a F G H locs) {ls : Array Slot} (hl : lv_has ls 3 []) : W p l e R s m args below meth c H locs 0 0 Q (F0 m 11 ls []) := by
  have hx := C.1
  have hb := C.2.1
  unfold mb_set_11 at hm
  refine lv_iconst (v := 0) hx hb dX12_set_11 (by decide) ?_
  obtain rfl := Option.some.inj hm
  exact hret _ _ _ _ hw (b01_nar (v := 0) (Or.inl rfl)) dX12_set_12
theorem mw_set_20 (fu : Nat) {res : Int32 × PF × PG} (C : mMC p R s m args c A v RX12 cX12_set 3 0 0) (hret : ∀ (H1 : Heap) (locs1 : List Loc) (ls1 : Array Slot) (pc : Nat), mMW s A v a res.2.1 res.2.2 H1 locs1 → narrow .boolean (.int res.1) = .int res.1 → decode cX12_set pc = .ok (.ireturn, 1) → W p l e R s m args below meth c H1 locs1 0 0 Q (F0 m pc ls1 [.int res.1])) (F : PF) (G : PG) (hm : mb_set_20 fu F G = some res) {H : Heap} {locs : List Loc} (hw : mMW s A v a F G H locs) {ls : Array Slot} (hl : lv_has ls 3 []) : W p l e R s m args below meth c H locs 0 0 Q (F0 m 20 ls []) := by
  have hx := C.1
  have hb := C.2.1
  unfold mb_set_20 at hm
  refine lv_iconst (v := 1) hx hb dX12_set_20 (by decide) ?_
  obtain rfl := Option.some.inj hm
  exact hret _ _ _ _ hw (b01_nar (v := 1) (Or.inr rfl)) dX12_set_21
theorem mw_set_13 (fu : Nat) {res : Int32 × PF × PG} (C : mMC p R s m args c A v RX12 cX12_set 3 0 0) (hret : ∀ (H1 : Heap) (locs1 : List Loc) (ls1 : Array Slot) (pc : Nat), mMW s A v a res.2.1 res.2.2 H1 locs1 → narrow .boolean (.int res.1) = .int res.1 → decode cX12_set pc = .ok (.ireturn, 1) → W p l e R s m args below meth c H1 locs1 0 0 Q (F0 m pc ls1 [.int res.1])) (x1 : Int32) (x2 : Int32) (F : PF) (G : PG) (hm : mb_set_13 fu x1 x2 F G = some res) {H : Heap} {locs : List Loc} (hw : mMW s A v a F G H locs) {ls : Array Slot} (hl : lv_has ls 3 [(0, .ref (a 212)), (1, .int x1), (2, .int x2)]) : W p l e R s m args below meth c H locs 0 0 Q (F0 m 13 ls []) := by
  have hx := C.1
  have hb := C.2.1
  unfold mb_set_13 at hm
  refine lv_aload_n hx hb dX12_set_13 rfl (lv_at hl 0 rfl) ?_
  refine mg_X12_150 C hw dX12_set_14 ?_
  refine lv_iload_n hx hb dX12_set_17 rfl (lv_at hl 1 rfl) ?_
  refine lv_iload_n hx hb dX12_set_18 rfl (lv_at hl 2 rfl) ?_
  obtain ⟨hi, hm⟩ := ix_elim hm
  refine mas_95 C hw hi dX12_set_19 (fun H locs hw => ?_)
  exact mw_set_20 fu C hret F (gup G 95 x1.toNatClampNeg x2) hm hw (lv_sub hl [] rfl)
theorem mw_set_5 (fu : Nat) {res : Int32 × PF × PG} (C : mMC p R s m args c A v RX12 cX12_set 3 0 0) (hret : ∀ (H1 : Heap) (locs1 : List Loc) (ls1 : Array Slot) (pc : Nat), mMW s A v a res.2.1 res.2.2 H1 locs1 → narrow .boolean (.int res.1) = .int res.1 → decode cX12_set pc = .ok (.ireturn, 1) → W p l e R s m args below meth c H1 locs1 0 0 Q (F0 m pc ls1 [.int res.1])) (x1 : Int32) (x2 : Int32) (F : PF) (G : PG) (hm : mb_set_5 fu x1 x2 F G = some res) {H : Heap} {locs : List Loc} (hw : mMW s A v a F G H locs) {ls : Array Slot} (hl : lv_has ls 3 [(0, .ref (a 212)), (1, .int x1), (2, .int x2)]) : W p l e R s m args below meth c H locs 0 0 Q (F0 m 5 ls []) := by
  have hx := C.1
  have hb := C.2.1
  unfold mb_set_5 at hm
  refine lv_iload_n hx hb dX12_set_5 rfl (lv_at hl 1 rfl) ?_
  refine lv_bipush (v := 32) hx hb dX12_set_6 (by decide) ?_
  refine lv_icmp_le (tgt := 13) hx hb dX12_set_8 (by decide) (fun c_1 => ?_) (fun c_1 => ?_)
  · have hm := (if_pos c_1).symm.trans hm
    exact mw_set_13 fu C hret x1 x2 F G hm hw (lv_sub hl [0, 1, 2] rfl)
  · have hm := (if_neg c_1).symm.trans hm
    exact mw_set_11 fu C hret F G hm hw (lv_sub hl [] rfl)
theorem mw_set_0 (fu : Nat) {res : Int32 × PF × PG} (C : mMC p R s m args c A v RX12 cX12_set 3 0 0) (hret : ∀ (H1 : Heap) (locs1 : List Loc) (ls1 : Array Slot) (pc : Nat), mMW s A v a res.2.1 res.2.2 H1 locs1 → narrow .boolean (.int res.1) = .int res.1 → decode cX12_set pc = .ok (.ireturn, 1) → W p l e R s m args below meth c H1 locs1 0 0 Q (F0 m pc ls1 [.int res.1])) (x1 : Int32) (x2 : Int32) (F : PF) (G : PG) (hm : mb_set_0 fu x1 x2 F G = some res) {H : Heap} {locs : List Loc} (hw : mMW s A v a F G H locs) {ls : Array Slot} (hl : lv_has ls 3 [(0, .ref (a 212)), (1, .int x1), (2, .int x2)]) : W p l e R s m args below meth c H locs 0 0 Q (F0 m 0 ls []) := by
  have hx := C.1
  have hb := C.2.1
  unfold mb_set_0 at hm
  refine lv_iload_n hx hb dX12_set_0 rfl (lv_at hl 1 rfl) ?_
  refine lv_iconst (v := 1) hx hb dX12_set_1 (by decide) ?_
  refine lv_icmp_lt (tgt := 11) hx hb dX12_set_2 (by decide) (fun c_1 => ?_) (fun c_1 => ?_)
  · have hm := (if_pos c_1).symm.trans hm
    exact mw_set_11 fu C hret F G hm hw (lv_sub hl [] rfl)
  · have hm := (if_neg c_1).symm.trans hm
    exact mw_set_5 fu C hret x1 x2 F G hm hw (lv_sub hl [0, 1, 2] rfl)
theorem mk_set (l : Launch) (v : EV) (a : Nat → Nat) (sz : Nat) (fu : Nat) (x1 : Int32) (x2 : Int32) (F : PF) (G : PG) (r : Int32) (F1 : PF) (G1 : PG) (hm : mf_set fu x1 x2 F G = some (r, F1, G1)) : mMI l yX12_set cX12_set 3 (some .boolean) 0 0 v a sz [.ref (a 212), .int x1, .int x2] F G r F1 G1 := mMI.of (ty := .boolean) (by decide) rfl (Nat.le_of_ble_eq_true rfl) (fun p e R s m args below meth c Q A H locs ls C hw hl hret => mw_set_0 fu (res := (r, F1, G1)) C hret x1 x2 F G hm hw hl)
def mb_board_58 (fu : Nat) (z0 : Int32) (F : PF) (G : PG) : PR := some (z0, F, G)
def mb_board_57 (fu : Nat) (F : PF) (G : PG) : PR := mb_board_58 fu (-1) F G
def mb_board_45 (fu : Nat) (x1 : Int32) (F : PF) (G : PG) : PR := if ixb (x1 - (100 : Int32)) 4096 = true then (mb_board_58 fu (G 94 (x1 - (100 : Int32)).toNatClampNeg) F G) else none
def mb_board_38 (fu : Nat) (x1 : Int32) (F : PF) (G : PG) : PR := if (4196 : Int32) ≤ x1 then mb_board_57 fu F G else mb_board_45 fu x1 F G
def mb_board_32 (fu : Nat) (x1 : Int32) (F : PF) (G : PG) : PR := if x1 < (100 : Int32) then mb_board_57 fu F G else mb_board_38 fu x1 F G
def mb_board_25 (fu : Nat) (F : PF) (G : PG) : PR := mb_board_58 fu (F 96) F G
def mb_board_19 (fu : Nat) (x1 : Int32) (F : PF) (G : PG) : PR := if x1 = (33 : Int32) then mb_board_25 fu F G else mb_board_32 fu x1 F G
def mb_board_10 (fu : Nat) (x1 : Int32) (F : PF) (G : PG) : PR := if ixb x1 33 = true then (mb_board_58 fu (G 95 x1.toNatClampNeg) F G) else none
def mb_board_4 (fu : Nat) (x1 : Int32) (F : PF) (G : PG) : PR := if (33 : Int32) ≤ x1 then mb_board_19 fu x1 F G else mb_board_10 fu x1 F G
def mb_board_0 (fu : Nat) (x1 : Int32) (F : PF) (G : PG) : PR := if x1 < (0 : Int32) then mb_board_19 fu x1 F G else mb_board_4 fu x1 F G
def mf_board (fu : Nat) (x1 : Int32) (F : PF) (G : PG) : PR := mb_board_0 fu x1 F G
theorem mw_board_58 (fu : Nat) {res : Int32 × PF × PG} (C : mMC p R s m args c A v RX12 cX12_board 2 0 0) (hret : ∀ (H1 : Heap) (locs1 : List Loc) (ls1 : Array Slot) (pc : Nat), mMW s A v a res.2.1 res.2.2 H1 locs1 → narrow .int (.int res.1) = .int res.1 → decode cX12_board pc = .ok (.ireturn, 1) → W p l e R s m args below meth c H1 locs1 0 0 Q (F0 m pc ls1 [.int res.1])) (z0 : Int32) (F : PF) (G : PG) (hm : mb_board_58 fu z0 F G = some res) {H : Heap} {locs : List Loc} (hw : mMW s A v a F G H locs) {ls : Array Slot} (hl : lv_has ls 2 []) : W p l e R s m args below meth c H locs 0 0 Q (F0 m 58 ls [.int z0]) := by
  have hx := C.1
  have hb := C.2.1
  unfold mb_board_58 at hm
  obtain rfl := Option.some.inj hm
  exact hret _ _ _ _ hw rfl dX12_board_58
theorem mw_board_57 (fu : Nat) {res : Int32 × PF × PG} (C : mMC p R s m args c A v RX12 cX12_board 2 0 0) (hret : ∀ (H1 : Heap) (locs1 : List Loc) (ls1 : Array Slot) (pc : Nat), mMW s A v a res.2.1 res.2.2 H1 locs1 → narrow .int (.int res.1) = .int res.1 → decode cX12_board pc = .ok (.ireturn, 1) → W p l e R s m args below meth c H1 locs1 0 0 Q (F0 m pc ls1 [.int res.1])) (F : PF) (G : PG) (hm : mb_board_57 fu F G = some res) {H : Heap} {locs : List Loc} (hw : mMW s A v a F G H locs) {ls : Array Slot} (hl : lv_has ls 2 []) : W p l e R s m args below meth c H locs 0 0 Q (F0 m 57 ls []) := by
  have hx := C.1
  have hb := C.2.1
  unfold mb_board_57 at hm
  refine lv_iconst (v := (-1)) hx hb dX12_board_57 (by decide) ?_
  exact mw_board_58 fu C hret (-1) F G hm hw (lv_sub hl [] rfl)
theorem mw_board_45 (fu : Nat) {res : Int32 × PF × PG} (C : mMC p R s m args c A v RX12 cX12_board 2 0 0) (hret : ∀ (H1 : Heap) (locs1 : List Loc) (ls1 : Array Slot) (pc : Nat), mMW s A v a res.2.1 res.2.2 H1 locs1 → narrow .int (.int res.1) = .int res.1 → decode cX12_board pc = .ok (.ireturn, 1) → W p l e R s m args below meth c H1 locs1 0 0 Q (F0 m pc ls1 [.int res.1])) (x1 : Int32) (F : PF) (G : PG) (hm : mb_board_45 fu x1 F G = some res) {H : Heap} {locs : List Loc} (hw : mMW s A v a F G H locs) {ls : Array Slot} (hl : lv_has ls 2 [(0, .ref (a 212)), (1, .int x1)]) : W p l e R s m args below meth c H locs 0 0 Q (F0 m 45 ls []) := by
  have hx := C.1
  have hb := C.2.1
  unfold mb_board_45 at hm
  refine lv_aload_n hx hb dX12_board_45 rfl (lv_at hl 0 rfl) ?_
  refine mg_X12_147 C hw dX12_board_46 ?_
  refine lv_iload_n hx hb dX12_board_49 rfl (lv_at hl 1 rfl) ?_
  refine lv_bipush (v := 100) hx hb dX12_board_50 (by decide) ?_
  refine lv_isub hx hb dX12_board_52 ?_
  obtain ⟨hi, hm⟩ := ix_elim hm
  refine mal_94 C hw hi dX12_board_53 ?_
  refine lv_goto (tgt := 58) hx hb dX12_board_54 (by decide) ?_
  exact mw_board_58 fu C hret (G 94 (x1 - (100 : Int32)).toNatClampNeg) F G hm hw (lv_sub hl [] rfl)
theorem mw_board_38 (fu : Nat) {res : Int32 × PF × PG} (C : mMC p R s m args c A v RX12 cX12_board 2 0 0) (hret : ∀ (H1 : Heap) (locs1 : List Loc) (ls1 : Array Slot) (pc : Nat), mMW s A v a res.2.1 res.2.2 H1 locs1 → narrow .int (.int res.1) = .int res.1 → decode cX12_board pc = .ok (.ireturn, 1) → W p l e R s m args below meth c H1 locs1 0 0 Q (F0 m pc ls1 [.int res.1])) (x1 : Int32) (F : PF) (G : PG) (hm : mb_board_38 fu x1 F G = some res) {H : Heap} {locs : List Loc} (hw : mMW s A v a F G H locs) {ls : Array Slot} (hl : lv_has ls 2 [(0, .ref (a 212)), (1, .int x1)]) : W p l e R s m args below meth c H locs 0 0 Q (F0 m 38 ls []) := by
  have hx := C.1
  have hb := C.2.1
  unfold mb_board_38 at hm
  refine lv_iload_n hx hb dX12_board_38 rfl (lv_at hl 1 rfl) ?_
  refine lv_sipush (v := 4196) hx hb dX12_board_39 (by decide) ?_
  refine lv_icmp_ge (tgt := 57) hx hb dX12_board_42 (by decide) (fun c_1 => ?_) (fun c_1 => ?_)
  · have hm := (if_pos c_1).symm.trans hm
    exact mw_board_57 fu C hret F G hm hw (lv_sub hl [] rfl)
  · have hm := (if_neg c_1).symm.trans hm
    exact mw_board_45 fu C hret x1 F G hm hw (lv_sub hl [0, 1] rfl)
theorem mw_board_32 (fu : Nat) {res : Int32 × PF × PG} (C : mMC p R s m args c A v RX12 cX12_board 2 0 0) (hret : ∀ (H1 : Heap) (locs1 : List Loc) (ls1 : Array Slot) (pc : Nat), mMW s A v a res.2.1 res.2.2 H1 locs1 → narrow .int (.int res.1) = .int res.1 → decode cX12_board pc = .ok (.ireturn, 1) → W p l e R s m args below meth c H1 locs1 0 0 Q (F0 m pc ls1 [.int res.1])) (x1 : Int32) (F : PF) (G : PG) (hm : mb_board_32 fu x1 F G = some res) {H : Heap} {locs : List Loc} (hw : mMW s A v a F G H locs) {ls : Array Slot} (hl : lv_has ls 2 [(0, .ref (a 212)), (1, .int x1)]) : W p l e R s m args below meth c H locs 0 0 Q (F0 m 32 ls []) := by
  have hx := C.1
  have hb := C.2.1
  unfold mb_board_32 at hm
  refine lv_iload_n hx hb dX12_board_32 rfl (lv_at hl 1 rfl) ?_
  refine lv_bipush (v := 100) hx hb dX12_board_33 (by decide) ?_
  refine lv_icmp_lt (tgt := 57) hx hb dX12_board_35 (by decide) (fun c_1 => ?_) (fun c_1 => ?_)
  · have hm := (if_pos c_1).symm.trans hm
    exact mw_board_57 fu C hret F G hm hw (lv_sub hl [] rfl)
  · have hm := (if_neg c_1).symm.trans hm
    exact mw_board_38 fu C hret x1 F G hm hw (lv_sub hl [0, 1] rfl)
theorem mw_board_25 (fu : Nat) {res : Int32 × PF × PG} (C : mMC p R s m args c A v RX12 cX12_board 2 0 0) (hret : ∀ (H1 : Heap) (locs1 : List Loc) (ls1 : Array Slot) (pc : Nat), mMW s A v a res.2.1 res.2.2 H1 locs1 → narrow .int (.int res.1) = .int res.1 → decode cX12_board pc = .ok (.ireturn, 1) → W p l e R s m args below meth c H1 locs1 0 0 Q (F0 m pc ls1 [.int res.1])) (F : PF) (G : PG) (hm : mb_board_25 fu F G = some res) {H : Heap} {locs : List Loc} (hw : mMW s A v a F G H locs) {ls : Array Slot} (hl : lv_has ls 2 [(0, .ref (a 212))]) : W p l e R s m args below meth c H locs 0 0 Q (F0 m 25 ls []) := by
  have hx := C.1
  have hb := C.2.1
  unfold mb_board_25 at hm
  refine lv_aload_n hx hb dX12_board_25 rfl (lv_at hl 0 rfl) ?_
  refine mg_X12_570 C hw dX12_board_26 ?_
  refine lv_goto (tgt := 58) hx hb dX12_board_29 (by decide) ?_
  exact mw_board_58 fu C hret (F 96) F G hm hw (lv_sub hl [] rfl)
theorem mw_board_19 (fu : Nat) {res : Int32 × PF × PG} (C : mMC p R s m args c A v RX12 cX12_board 2 0 0) (hret : ∀ (H1 : Heap) (locs1 : List Loc) (ls1 : Array Slot) (pc : Nat), mMW s A v a res.2.1 res.2.2 H1 locs1 → narrow .int (.int res.1) = .int res.1 → decode cX12_board pc = .ok (.ireturn, 1) → W p l e R s m args below meth c H1 locs1 0 0 Q (F0 m pc ls1 [.int res.1])) (x1 : Int32) (F : PF) (G : PG) (hm : mb_board_19 fu x1 F G = some res) {H : Heap} {locs : List Loc} (hw : mMW s A v a F G H locs) {ls : Array Slot} (hl : lv_has ls 2 [(0, .ref (a 212)), (1, .int x1)]) : W p l e R s m args below meth c H locs 0 0 Q (F0 m 19 ls []) := by
  have hx := C.1
  have hb := C.2.1
  unfold mb_board_19 at hm
  refine lv_iload_n hx hb dX12_board_19 rfl (lv_at hl 1 rfl) ?_
  refine lv_bipush (v := 33) hx hb dX12_board_20 (by decide) ?_
  refine lv_icmp_ne (tgt := 32) hx hb dX12_board_22 (by decide) (fun c_1 => ?_) (fun c_1 => ?_)
  · have hm := (if_neg c_1).symm.trans hm
    exact mw_board_32 fu C hret x1 F G hm hw (lv_sub hl [0, 1] rfl)
  · have hm := (if_pos c_1).symm.trans hm
    exact mw_board_25 fu C hret F G hm hw (lv_sub hl [0] rfl)
theorem mw_board_10 (fu : Nat) {res : Int32 × PF × PG} (C : mMC p R s m args c A v RX12 cX12_board 2 0 0) (hret : ∀ (H1 : Heap) (locs1 : List Loc) (ls1 : Array Slot) (pc : Nat), mMW s A v a res.2.1 res.2.2 H1 locs1 → narrow .int (.int res.1) = .int res.1 → decode cX12_board pc = .ok (.ireturn, 1) → W p l e R s m args below meth c H1 locs1 0 0 Q (F0 m pc ls1 [.int res.1])) (x1 : Int32) (F : PF) (G : PG) (hm : mb_board_10 fu x1 F G = some res) {H : Heap} {locs : List Loc} (hw : mMW s A v a F G H locs) {ls : Array Slot} (hl : lv_has ls 2 [(0, .ref (a 212)), (1, .int x1)]) : W p l e R s m args below meth c H locs 0 0 Q (F0 m 10 ls []) := by
  have hx := C.1
  have hb := C.2.1
  unfold mb_board_10 at hm
  refine lv_aload_n hx hb dX12_board_10 rfl (lv_at hl 0 rfl) ?_
  refine mg_X12_150 C hw dX12_board_11 ?_
  refine lv_iload_n hx hb dX12_board_14 rfl (lv_at hl 1 rfl) ?_
  obtain ⟨hi, hm⟩ := ix_elim hm
  refine mal_95 C hw hi dX12_board_15 ?_
  refine lv_goto (tgt := 58) hx hb dX12_board_16 (by decide) ?_
  exact mw_board_58 fu C hret (G 95 x1.toNatClampNeg) F G hm hw (lv_sub hl [] rfl)
theorem mw_board_4 (fu : Nat) {res : Int32 × PF × PG} (C : mMC p R s m args c A v RX12 cX12_board 2 0 0) (hret : ∀ (H1 : Heap) (locs1 : List Loc) (ls1 : Array Slot) (pc : Nat), mMW s A v a res.2.1 res.2.2 H1 locs1 → narrow .int (.int res.1) = .int res.1 → decode cX12_board pc = .ok (.ireturn, 1) → W p l e R s m args below meth c H1 locs1 0 0 Q (F0 m pc ls1 [.int res.1])) (x1 : Int32) (F : PF) (G : PG) (hm : mb_board_4 fu x1 F G = some res) {H : Heap} {locs : List Loc} (hw : mMW s A v a F G H locs) {ls : Array Slot} (hl : lv_has ls 2 [(0, .ref (a 212)), (1, .int x1)]) : W p l e R s m args below meth c H locs 0 0 Q (F0 m 4 ls []) := by
  have hx := C.1
  have hb := C.2.1
  unfold mb_board_4 at hm
  refine lv_iload_n hx hb dX12_board_4 rfl (lv_at hl 1 rfl) ?_
  refine lv_bipush (v := 33) hx hb dX12_board_5 (by decide) ?_
  refine lv_icmp_ge (tgt := 19) hx hb dX12_board_7 (by decide) (fun c_1 => ?_) (fun c_1 => ?_)
  · have hm := (if_pos c_1).symm.trans hm
    exact mw_board_19 fu C hret x1 F G hm hw (lv_sub hl [0, 1] rfl)
  · have hm := (if_neg c_1).symm.trans hm
    exact mw_board_10 fu C hret x1 F G hm hw (lv_sub hl [0, 1] rfl)
theorem mw_board_0 (fu : Nat) {res : Int32 × PF × PG} (C : mMC p R s m args c A v RX12 cX12_board 2 0 0) (hret : ∀ (H1 : Heap) (locs1 : List Loc) (ls1 : Array Slot) (pc : Nat), mMW s A v a res.2.1 res.2.2 H1 locs1 → narrow .int (.int res.1) = .int res.1 → decode cX12_board pc = .ok (.ireturn, 1) → W p l e R s m args below meth c H1 locs1 0 0 Q (F0 m pc ls1 [.int res.1])) (x1 : Int32) (F : PF) (G : PG) (hm : mb_board_0 fu x1 F G = some res) {H : Heap} {locs : List Loc} (hw : mMW s A v a F G H locs) {ls : Array Slot} (hl : lv_has ls 2 [(0, .ref (a 212)), (1, .int x1)]) : W p l e R s m args below meth c H locs 0 0 Q (F0 m 0 ls []) := by
  have hx := C.1
  have hb := C.2.1
  unfold mb_board_0 at hm
  refine lv_iload_n hx hb dX12_board_0 rfl (lv_at hl 1 rfl) ?_
  refine lv_if_lt (tgt := 19) hx hb dX12_board_1 (by decide) (fun c_1 => ?_) (fun c_1 => ?_)
  · have hm := (if_pos c_1).symm.trans hm
    exact mw_board_19 fu C hret x1 F G hm hw (lv_sub hl [0, 1] rfl)
  · have hm := (if_neg c_1).symm.trans hm
    exact mw_board_4 fu C hret x1 F G hm hw (lv_sub hl [0, 1] rfl)
theorem mk_board (l : Launch) (v : EV) (a : Nat → Nat) (sz : Nat) (fu : Nat) (x1 : Int32) (F : PF) (G : PG) (r : Int32) (F1 : PF) (G1 : PG) (hm : mf_board fu x1 F G = some (r, F1, G1)) : mMI l yX12_board cX12_board 2 (some .int) 0 0 v a sz [.ref (a 212), .int x1] F G r F1 G1 := mMI.of (ty := .int) (by decide) rfl (Nat.le_of_ble_eq_true rfl) (fun p e R s m args below meth c Q A H locs ls C hw hl hret => mw_board_0 fu (res := (r, F1, G1)) C hret x1 F G hm hw hl)
def mb_gives_11 (fu : Nat) (F : PF) (G : PG) : PR := some (0, F, G)
def mb_gives_4 (fu : Nat) (x1 : Int32) (x2 : Int32) (F : PF) (G : PG) : PR := if ixb x1 33 = true then (mb_gives_11 fu F (gup G 95 x1.toNatClampNeg x2)) else none
def mb_gives_0 (fu : Nat) (x1 : Int32) (x2 : Int32) (F : PF) (G : PG) : PR := if x1 ≤ (0 : Int32) then mb_gives_11 fu F G else mb_gives_4 fu x1 x2 F G
def mf_gives (fu : Nat) (x1 : Int32) (x2 : Int32) (F : PF) (G : PG) : PR := mb_gives_0 fu x1 x2 F G
theorem mw_gives_11 (fu : Nat) {res : Int32 × PF × PG} (C : mMC p R s m args c A v RX12 cX12_gives 3 0 0) (hret : ∀ (H1 : Heap) (locs1 : List Loc) (ls1 : Array Slot) (pc : Nat), mMW s A v a res.2.1 res.2.2 H1 locs1 → decode cX12_gives pc = .ok (.return_, 1) → W p l e R s m args below meth c H1 locs1 0 0 Q (F0 m pc ls1 [])) (F : PF) (G : PG) (hm : mb_gives_11 fu F G = some res) {H : Heap} {locs : List Loc} (hw : mMW s A v a F G H locs) {ls : Array Slot} (hl : lv_has ls 3 []) : W p l e R s m args below meth c H locs 0 0 Q (F0 m 11 ls []) := by
  have hx := C.1
  have hb := C.2.1
  unfold mb_gives_11 at hm
  obtain rfl := Option.some.inj hm
  exact hret _ _ _ _ hw dX12_gives_11
theorem mw_gives_4 (fu : Nat) {res : Int32 × PF × PG} (C : mMC p R s m args c A v RX12 cX12_gives 3 0 0) (hret : ∀ (H1 : Heap) (locs1 : List Loc) (ls1 : Array Slot) (pc : Nat), mMW s A v a res.2.1 res.2.2 H1 locs1 → decode cX12_gives pc = .ok (.return_, 1) → W p l e R s m args below meth c H1 locs1 0 0 Q (F0 m pc ls1 [])) (x1 : Int32) (x2 : Int32) (F : PF) (G : PG) (hm : mb_gives_4 fu x1 x2 F G = some res) {H : Heap} {locs : List Loc} (hw : mMW s A v a F G H locs) {ls : Array Slot} (hl : lv_has ls 3 [(0, .ref (a 212)), (1, .int x1), (2, .int x2)]) : W p l e R s m args below meth c H locs 0 0 Q (F0 m 4 ls []) := by
  have hx := C.1
  have hb := C.2.1
  unfold mb_gives_4 at hm
  refine lv_aload_n hx hb dX12_gives_4 rfl (lv_at hl 0 rfl) ?_
  refine mg_X12_150 C hw dX12_gives_5 ?_
  refine lv_iload_n hx hb dX12_gives_8 rfl (lv_at hl 1 rfl) ?_
  refine lv_iload_n hx hb dX12_gives_9 rfl (lv_at hl 2 rfl) ?_
  obtain ⟨hi, hm⟩ := ix_elim hm
  refine mas_95 C hw hi dX12_gives_10 (fun H locs hw => ?_)
  exact mw_gives_11 fu C hret F (gup G 95 x1.toNatClampNeg x2) hm hw (lv_sub hl [] rfl)
theorem mw_gives_0 (fu : Nat) {res : Int32 × PF × PG} (C : mMC p R s m args c A v RX12 cX12_gives 3 0 0) (hret : ∀ (H1 : Heap) (locs1 : List Loc) (ls1 : Array Slot) (pc : Nat), mMW s A v a res.2.1 res.2.2 H1 locs1 → decode cX12_gives pc = .ok (.return_, 1) → W p l e R s m args below meth c H1 locs1 0 0 Q (F0 m pc ls1 [])) (x1 : Int32) (x2 : Int32) (F : PF) (G : PG) (hm : mb_gives_0 fu x1 x2 F G = some res) {H : Heap} {locs : List Loc} (hw : mMW s A v a F G H locs) {ls : Array Slot} (hl : lv_has ls 3 [(0, .ref (a 212)), (1, .int x1), (2, .int x2)]) : W p l e R s m args below meth c H locs 0 0 Q (F0 m 0 ls []) := by
  have hx := C.1
  have hb := C.2.1
  unfold mb_gives_0 at hm
  refine lv_iload_n hx hb dX12_gives_0 rfl (lv_at hl 1 rfl) ?_
  refine lv_if_le (tgt := 11) hx hb dX12_gives_1 (by decide) (fun c_1 => ?_) (fun c_1 => ?_)
  · have hm := (if_pos c_1).symm.trans hm
    exact mw_gives_11 fu C hret F G hm hw (lv_sub hl [] rfl)
  · have hm := (if_neg c_1).symm.trans hm
    exact mw_gives_4 fu C hret x1 x2 F G hm hw (lv_sub hl [0, 1, 2] rfl)
theorem mk_gives (l : Launch) (v : EV) (a : Nat → Nat) (sz : Nat) (fu : Nat) (x1 : Int32) (x2 : Int32) (F : PF) (G : PG) (r : Int32) (F1 : PF) (G1 : PG) (hm : mf_gives fu x1 x2 F G = some (r, F1, G1)) : mMV l yX12_gives cX12_gives 3 0 0 v a sz [.ref (a 212), .int x1, .int x2] F G F1 G1 := mMV.of (by decide) (Nat.le_of_ble_eq_true rfl) (fun p e R s m args below meth c Q A H locs ls C hw hl hret => mw_gives_0 fu (res := (r, F1, G1)) C hret x1 x2 F G hm hw hl)
def mb_goesOn_18 (fu : Nat) (F : PF) (G : PG) : PR := some (0, F, G)
def mb_goesOn_8 (fu : Nat) (F : PF) (G : PG) : PR := mb_goesOn_18 fu (fup F 96 ((F 96) + (1 : Int32))) G
def mb_goesOn_0 (fu : Nat) (x1 : Int32) (F : PF) (G : PG) : PR := if ixb (32 : Int32) 33 = true then (mb_goesOn_8 fu F (gup G 95 (32 : Int32).toNatClampNeg x1)) else none
def mf_goesOn (fu : Nat) (x1 : Int32) (F : PF) (G : PG) : PR := mb_goesOn_0 fu x1 F G
theorem mw_goesOn_18 (fu : Nat) {res : Int32 × PF × PG} (C : mMC p R s m args c A v RX12 cX12_goesOn 2 0 0) (hret : ∀ (H1 : Heap) (locs1 : List Loc) (ls1 : Array Slot) (pc : Nat), mMW s A v a res.2.1 res.2.2 H1 locs1 → narrow .int (.int res.1) = .int res.1 → decode cX12_goesOn pc = .ok (.ireturn, 1) → W p l e R s m args below meth c H1 locs1 0 0 Q (F0 m pc ls1 [.int res.1])) (F : PF) (G : PG) (hm : mb_goesOn_18 fu F G = some res) {H : Heap} {locs : List Loc} (hw : mMW s A v a F G H locs) {ls : Array Slot} (hl : lv_has ls 2 []) : W p l e R s m args below meth c H locs 0 0 Q (F0 m 18 ls []) := by
  have hx := C.1
  have hb := C.2.1
  unfold mb_goesOn_18 at hm
  refine lv_iconst (v := 0) hx hb dX12_goesOn_18 (by decide) ?_
  obtain rfl := Option.some.inj hm
  exact hret _ _ _ _ hw rfl dX12_goesOn_19
theorem mw_goesOn_8 (fu : Nat) {res : Int32 × PF × PG} (C : mMC p R s m args c A v RX12 cX12_goesOn 2 0 0) (hret : ∀ (H1 : Heap) (locs1 : List Loc) (ls1 : Array Slot) (pc : Nat), mMW s A v a res.2.1 res.2.2 H1 locs1 → narrow .int (.int res.1) = .int res.1 → decode cX12_goesOn pc = .ok (.ireturn, 1) → W p l e R s m args below meth c H1 locs1 0 0 Q (F0 m pc ls1 [.int res.1])) (F : PF) (G : PG) (hm : mb_goesOn_8 fu F G = some res) {H : Heap} {locs : List Loc} (hw : mMW s A v a F G H locs) {ls : Array Slot} (hl : lv_has ls 2 [(0, .ref (a 212))]) : W p l e R s m args below meth c H locs 0 0 Q (F0 m 8 ls []) := by
  have hx := C.1
  have hb := C.2.1
  unfold mb_goesOn_8 at hm
  refine lv_aload_n hx hb dX12_goesOn_8 rfl (lv_at hl 0 rfl) ?_
  refine lv_dup hx hb dX12_goesOn_9 rfl ?_
  refine mg_X12_570 C hw dX12_goesOn_10 ?_
  refine lv_iconst (v := 1) hx hb dX12_goesOn_13 (by decide) ?_
  refine lv_iadd hx hb dX12_goesOn_14 ?_
  refine mp_X12_570 C hw dX12_goesOn_15 (fun H locs hw => ?_)
  exact mw_goesOn_18 fu C hret (fup F 96 ((F 96) + (1 : Int32))) G hm hw (lv_sub hl [] rfl)
theorem mw_goesOn_0 (fu : Nat) {res : Int32 × PF × PG} (C : mMC p R s m args c A v RX12 cX12_goesOn 2 0 0) (hret : ∀ (H1 : Heap) (locs1 : List Loc) (ls1 : Array Slot) (pc : Nat), mMW s A v a res.2.1 res.2.2 H1 locs1 → narrow .int (.int res.1) = .int res.1 → decode cX12_goesOn pc = .ok (.ireturn, 1) → W p l e R s m args below meth c H1 locs1 0 0 Q (F0 m pc ls1 [.int res.1])) (x1 : Int32) (F : PF) (G : PG) (hm : mb_goesOn_0 fu x1 F G = some res) {H : Heap} {locs : List Loc} (hw : mMW s A v a F G H locs) {ls : Array Slot} (hl : lv_has ls 2 [(0, .ref (a 212)), (1, .int x1)]) : W p l e R s m args below meth c H locs 0 0 Q (F0 m 0 ls []) := by
  have hx := C.1
  have hb := C.2.1
  unfold mb_goesOn_0 at hm
  refine lv_aload_n hx hb dX12_goesOn_0 rfl (lv_at hl 0 rfl) ?_
  refine mg_X12_150 C hw dX12_goesOn_1 ?_
  refine lv_bipush (v := 32) hx hb dX12_goesOn_4 (by decide) ?_
  refine lv_iload_n hx hb dX12_goesOn_6 rfl (lv_at hl 1 rfl) ?_
  obtain ⟨hi, hm⟩ := ix_elim hm
  refine mas_95 C hw hi dX12_goesOn_7 (fun H locs hw => ?_)
  exact mw_goesOn_8 fu C hret F (gup G 95 (32 : Int32).toNatClampNeg x1) hm hw (lv_sub hl [0] rfl)
theorem mk_goesOn (l : Launch) (v : EV) (a : Nat → Nat) (sz : Nat) (fu : Nat) (x1 : Int32) (F : PF) (G : PG) (r : Int32) (F1 : PF) (G1 : PG) (hm : mf_goesOn fu x1 F G = some (r, F1, G1)) : mMI l yX12_goesOn cX12_goesOn 2 (some .int) 0 0 v a sz [.ref (a 212), .int x1] F G r F1 G1 := mMI.of (ty := .int) (by decide) rfl (Nat.le_of_ble_eq_true rfl) (fun p e R s m args below meth c Q A H locs ls C hw hl hret => mw_goesOn_0 fu (res := (r, F1, G1)) C hret x1 F G hm hw hl)
def mb_jumps_21 (fu : Nat) (z0 : Int32) (F : PF) (G : PG) : PR := some (z0, F, G)
def mb_jumps_16 (fu : Nat) (x2 : Int32) (F : PF) (G : PG) : PR := (mf_goesOn fu x2 F G).bind (fun q => mb_jumps_21 fu q.1 q.2.1 q.2.2)
def mb_jumps_8 (fu : Nat) (x1 : Int32) (x2 : Int32) (x3 : Int32) (F : PF) (G : PG) : PR := (mf_gives fu x1 (x3 + (4 : Int32)) F G).bind (fun q => mb_jumps_16 fu x2 q.2.1 q.2.2)
def mb_jumps_6 (fu : Nat) (F : PF) (G : PG) : PR := some (3, F, G)
def mb_jumps_0 (fu : Nat) (x1 : Int32) (x2 : Int32) (x3 : Int32) (F : PF) (G : PG) : PR := if (x2 &&& (3 : Int32)) = (0 : Int32) then mb_jumps_8 fu x1 x2 x3 F G else mb_jumps_6 fu F G
def mf_jumps (fu : Nat) (x1 : Int32) (x2 : Int32) (x3 : Int32) (F : PF) (G : PG) : PR := mb_jumps_0 fu x1 x2 x3 F G
theorem mw_jumps_21 (fu : Nat) {res : Int32 × PF × PG} (C : mMC p R s m args c A v RX12 cX12_jumps 4 1 22) (hret : ∀ (H1 : Heap) (locs1 : List Loc) (ls1 : Array Slot) (pc : Nat), mMW s A v a res.2.1 res.2.2 H1 locs1 → narrow .int (.int res.1) = .int res.1 → decode cX12_jumps pc = .ok (.ireturn, 1) → W p l e R s m args below meth c H1 locs1 0 0 Q (F0 m pc ls1 [.int res.1])) (z0 : Int32) (F : PF) (G : PG) (hm : mb_jumps_21 fu z0 F G = some res) {H : Heap} {locs : List Loc} (hw : mMW s A v a F G H locs) {ls : Array Slot} (hl : lv_has ls 4 []) : W p l e R s m args below meth c H locs 0 0 Q (F0 m 21 ls [.int z0]) := by
  have hx := C.1
  have hb := C.2.1
  unfold mb_jumps_21 at hm
  obtain rfl := Option.some.inj hm
  exact hret _ _ _ _ hw rfl dX12_jumps_21
theorem mw_jumps_16 (fu : Nat) {res : Int32 × PF × PG} (C : mMC p R s m args c A v RX12 cX12_jumps 4 1 22) (hret : ∀ (H1 : Heap) (locs1 : List Loc) (ls1 : Array Slot) (pc : Nat), mMW s A v a res.2.1 res.2.2 H1 locs1 → narrow .int (.int res.1) = .int res.1 → decode cX12_jumps pc = .ok (.ireturn, 1) → W p l e R s m args below meth c H1 locs1 0 0 Q (F0 m pc ls1 [.int res.1])) (x2 : Int32) (F : PF) (G : PG) (hm : mb_jumps_16 fu x2 F G = some res) {H : Heap} {locs : List Loc} (hw : mMW s A v a F G H locs) {ls : Array Slot} (hl : lv_has ls 4 [(0, .ref (a 212)), (2, .int x2)]) : W p l e R s m args below meth c H locs 0 0 Q (F0 m 16 ls []) := by
  have hx := C.1
  have hb := C.2.1
  unfold mb_jumps_16 at hm
  refine lv_aload_n hx hb dX12_jumps_16 rfl (lv_at hl 0 rfl) ?_
  refine lv_iload_n hx hb dX12_jumps_17 rfl (lv_at hl 1 rfl) ?_
  obtain ⟨⟨r1, F1, G1⟩, hc, hm⟩ := bind_elim hm
  refine mcallI (n := 1) (As := [.int x2]) (rest := []) C hw (mk_goesOn l v a _ fu x2 F G r1 F1 G1 hc) (mrecv_X12 C hw) mm_474 mm_475 mm_476 mm_27 mm_477 (by decide +kernel) rfl (by omega) (by omega) hl.1 rfl (Nat.le_of_ble_eq_true rfl) dX12_jumps_18 (fun H locs hw => ?_)
  exact mw_jumps_21 fu C hret r1 F1 G1 hm hw (lv_sub hl [] rfl)
theorem mw_jumps_8 (fu : Nat) {res : Int32 × PF × PG} (C : mMC p R s m args c A v RX12 cX12_jumps 4 1 22) (hret : ∀ (H1 : Heap) (locs1 : List Loc) (ls1 : Array Slot) (pc : Nat), mMW s A v a res.2.1 res.2.2 H1 locs1 → narrow .int (.int res.1) = .int res.1 → decode cX12_jumps pc = .ok (.ireturn, 1) → W p l e R s m args below meth c H1 locs1 0 0 Q (F0 m pc ls1 [.int res.1])) (x1 : Int32) (x2 : Int32) (x3 : Int32) (F : PF) (G : PG) (hm : mb_jumps_8 fu x1 x2 x3 F G = some res) {H : Heap} {locs : List Loc} (hw : mMW s A v a F G H locs) {ls : Array Slot} (hl : lv_has ls 4 [(0, .ref (a 212)), (1, .int x1), (2, .int x2), (3, .int x3)]) : W p l e R s m args below meth c H locs 0 0 Q (F0 m 8 ls []) := by
  have hx := C.1
  have hb := C.2.1
  unfold mb_jumps_8 at hm
  refine lv_aload_n hx hb dX12_jumps_8 rfl (lv_at hl 0 rfl) ?_
  refine lv_iload_n hx hb dX12_jumps_9 rfl (lv_at hl 1 rfl) ?_
  refine lv_iload_n hx hb dX12_jumps_10 rfl (lv_at hl 3 rfl) ?_
  refine lv_iconst (v := 4) hx hb dX12_jumps_11 (by decide) ?_
  refine lv_iadd hx hb dX12_jumps_12 ?_
  obtain ⟨⟨r1, F1, G1⟩, hc, hm⟩ := bind_elim hm
  refine mcallV (n := 2) (As := [.int x1, .int (x3 + (4 : Int32))]) (rest := []) C hw (mk_gives l v a _ fu x1 (x3 + (4 : Int32)) F G r1 F1 G1 hc) (mrecv_X12 C hw) mm_470 mm_471 mm_472 mm_27 mm_473 (by decide +kernel) rfl (by omega) (by omega) hl.1 rfl (Nat.le_of_ble_eq_true rfl) dX12_jumps_13 (fun H locs hw => ?_)
  exact mw_jumps_16 fu C hret x2 F1 G1 hm hw (lv_sub hl [0, 2] rfl)
theorem mw_jumps_6 (fu : Nat) {res : Int32 × PF × PG} (C : mMC p R s m args c A v RX12 cX12_jumps 4 1 22) (hret : ∀ (H1 : Heap) (locs1 : List Loc) (ls1 : Array Slot) (pc : Nat), mMW s A v a res.2.1 res.2.2 H1 locs1 → narrow .int (.int res.1) = .int res.1 → decode cX12_jumps pc = .ok (.ireturn, 1) → W p l e R s m args below meth c H1 locs1 0 0 Q (F0 m pc ls1 [.int res.1])) (F : PF) (G : PG) (hm : mb_jumps_6 fu F G = some res) {H : Heap} {locs : List Loc} (hw : mMW s A v a F G H locs) {ls : Array Slot} (hl : lv_has ls 4 []) : W p l e R s m args below meth c H locs 0 0 Q (F0 m 6 ls []) := by
  have hx := C.1
  have hb := C.2.1
  unfold mb_jumps_6 at hm
  refine lv_iconst (v := 3) hx hb dX12_jumps_6 (by decide) ?_
  obtain rfl := Option.some.inj hm
  exact hret _ _ _ _ hw rfl dX12_jumps_7
theorem mw_jumps_0 (fu : Nat) {res : Int32 × PF × PG} (C : mMC p R s m args c A v RX12 cX12_jumps 4 1 22) (hret : ∀ (H1 : Heap) (locs1 : List Loc) (ls1 : Array Slot) (pc : Nat), mMW s A v a res.2.1 res.2.2 H1 locs1 → narrow .int (.int res.1) = .int res.1 → decode cX12_jumps pc = .ok (.ireturn, 1) → W p l e R s m args below meth c H1 locs1 0 0 Q (F0 m pc ls1 [.int res.1])) (x1 : Int32) (x2 : Int32) (x3 : Int32) (F : PF) (G : PG) (hm : mb_jumps_0 fu x1 x2 x3 F G = some res) {H : Heap} {locs : List Loc} (hw : mMW s A v a F G H locs) {ls : Array Slot} (hl : lv_has ls 4 [(0, .ref (a 212)), (1, .int x1), (2, .int x2), (3, .int x3)]) : W p l e R s m args below meth c H locs 0 0 Q (F0 m 0 ls []) := by
  have hx := C.1
  have hb := C.2.1
  unfold mb_jumps_0 at hm
  refine lv_iload_n hx hb dX12_jumps_0 rfl (lv_at hl 2 rfl) ?_
  refine lv_iconst (v := 3) hx hb dX12_jumps_1 (by decide) ?_
  refine lv_iand hx hb dX12_jumps_2 ?_
  refine lv_if_eq (tgt := 8) hx hb dX12_jumps_3 (by decide) (fun c_1 => ?_) (fun c_1 => ?_)
  · have hm := (if_pos c_1).symm.trans hm
    exact mw_jumps_8 fu C hret x1 x2 x3 F G hm hw (lv_sub hl [0, 1, 2, 3] rfl)
  · have hm := (if_neg c_1).symm.trans hm
    exact mw_jumps_6 fu C hret F G hm hw (lv_sub hl [] rfl)
theorem mk_jumps (l : Launch) (v : EV) (a : Nat → Nat) (sz : Nat) (fu : Nat) (x1 : Int32) (x2 : Int32) (x3 : Int32) (F : PF) (G : PG) (r : Int32) (F1 : PF) (G1 : PG) (hm : mf_jumps fu x1 x2 x3 F G = some (r, F1, G1)) : mMI l yX12_jumps cX12_jumps 4 (some .int) 1 22 v a sz [.ref (a 212), .int x1, .int x2, .int x3] F G r F1 G1 := mMI.of (ty := .int) (by decide) rfl (Nat.le_of_ble_eq_true rfl) (fun p e R s m args below meth c Q A H locs ls C hw hl hret => mw_jumps_0 fu (res := (r, F1, G1)) C hret x1 x2 x3 F G hm hw hl)
end MB
