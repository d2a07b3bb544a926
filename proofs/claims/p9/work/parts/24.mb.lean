section MB
variable {p : Program} {l : Launch} {e : Env} {R : Room} {s : State} {m : MethodId} {args : Array Value} {below : List Frame} {meth : Method} {c : Code} {H : Heap} {locs : List Loc} {Q : State → Prop} {A : Nat → Prop} {v : EV} {a : Nat → Nat} {own : String} {cc : ByteArray} {nL fr lo : Nat}
def mb_feed_119 (fu : Nat) (F : PF) (G : PG) : PR := some ((F 2), F, G)
def mb_feed_108 (fu : Nat) (F : PF) (G : PG) : PR := mb_feed_119 fu (fup F 2 ((F 2) + (20 : Int32))) G
def mb_feed_102 (fu : Nat) (ag_18 : Int32 → Int32 → Int32 → Int32 → Int32 → Int32 → PF → PG → PR) (x1 : Int32) (x2 : Int32) (x3 : Int32) (x4 : Int32) (x5 : Int32) (x6 : Int32) (F : PF) (G : PG) : PR := ag_18 x1 x2 x3 x4 x5 (x6 + 1) F G
def mb_feed_71 (fu : Nat) (ag_18 : Int32 → Int32 → Int32 → Int32 → Int32 → Int32 → PF → PG → PR) (x1 : Int32) (x2 : Int32) (x3 : Int32) (x4 : Int32) (x5 : Int32) (x6 : Int32) (z0 : Int32) (F : PF) (G : PG) : PR := if ixb ((F 2) + x6) 4000 = true then (mb_feed_102 fu ag_18 x1 x2 x3 x4 x5 x6 F (gup G 0 ((F 2) + x6).toNatClampNeg ((z0 >>> (((24 : Int32) - ((8 : Int32) * (x6 - x6 / (4 : Int32) * (4 : Int32)))) &&& 31)) &&& (255 : Int32)))) else none
def mb_feed_69 (fu : Nat) (ag_18 : Int32 → Int32 → Int32 → Int32 → Int32 → Int32 → PF → PG → PR) (x1 : Int32) (x2 : Int32) (x3 : Int32) (x4 : Int32) (x5 : Int32) (x6 : Int32) (F : PF) (G : PG) : PR := mb_feed_71 fu ag_18 x1 x2 x3 x4 x5 x6 x5 F G
def mb_feed_64 (fu : Nat) (ag_18 : Int32 → Int32 → Int32 → Int32 → Int32 → Int32 → PF → PG → PR) (x1 : Int32) (x2 : Int32) (x3 : Int32) (x4 : Int32) (x5 : Int32) (x6 : Int32) (F : PF) (G : PG) : PR := mb_feed_71 fu ag_18 x1 x2 x3 x4 x5 x6 x4 F G
def mb_feed_57 (fu : Nat) (ag_18 : Int32 → Int32 → Int32 → Int32 → Int32 → Int32 → PF → PG → PR) (x1 : Int32) (x2 : Int32) (x3 : Int32) (x4 : Int32) (x5 : Int32) (x6 : Int32) (F : PF) (G : PG) : PR := if (16 : Int32) ≤ x6 then mb_feed_69 fu ag_18 x1 x2 x3 x4 x5 x6 F G else mb_feed_64 fu ag_18 x1 x2 x3 x4 x5 x6 F G
def mb_feed_53 (fu : Nat) (ag_18 : Int32 → Int32 → Int32 → Int32 → Int32 → Int32 → PF → PG → PR) (x1 : Int32) (x2 : Int32) (x3 : Int32) (x4 : Int32) (x5 : Int32) (x6 : Int32) (F : PF) (G : PG) : PR := mb_feed_71 fu ag_18 x1 x2 x3 x4 x5 x6 x3 F G
def mb_feed_46 (fu : Nat) (ag_18 : Int32 → Int32 → Int32 → Int32 → Int32 → Int32 → PF → PG → PR) (x1 : Int32) (x2 : Int32) (x3 : Int32) (x4 : Int32) (x5 : Int32) (x6 : Int32) (F : PF) (G : PG) : PR := if (12 : Int32) ≤ x6 then mb_feed_57 fu ag_18 x1 x2 x3 x4 x5 x6 F G else mb_feed_53 fu ag_18 x1 x2 x3 x4 x5 x6 F G
def mb_feed_42 (fu : Nat) (ag_18 : Int32 → Int32 → Int32 → Int32 → Int32 → Int32 → PF → PG → PR) (x1 : Int32) (x2 : Int32) (x3 : Int32) (x4 : Int32) (x5 : Int32) (x6 : Int32) (F : PF) (G : PG) : PR := mb_feed_71 fu ag_18 x1 x2 x3 x4 x5 x6 x2 F G
def mb_feed_35 (fu : Nat) (ag_18 : Int32 → Int32 → Int32 → Int32 → Int32 → Int32 → PF → PG → PR) (x1 : Int32) (x2 : Int32) (x3 : Int32) (x4 : Int32) (x5 : Int32) (x6 : Int32) (F : PF) (G : PG) : PR := if (8 : Int32) ≤ x6 then mb_feed_46 fu ag_18 x1 x2 x3 x4 x5 x6 F G else mb_feed_42 fu ag_18 x1 x2 x3 x4 x5 x6 F G
def mb_feed_31 (fu : Nat) (ag_18 : Int32 → Int32 → Int32 → Int32 → Int32 → Int32 → PF → PG → PR) (x1 : Int32) (x2 : Int32) (x3 : Int32) (x4 : Int32) (x5 : Int32) (x6 : Int32) (F : PF) (G : PG) : PR := mb_feed_71 fu ag_18 x1 x2 x3 x4 x5 x6 x1 F G
def mb_feed_25 (fu : Nat) (ag_18 : Int32 → Int32 → Int32 → Int32 → Int32 → Int32 → PF → PG → PR) (x1 : Int32) (x2 : Int32) (x3 : Int32) (x4 : Int32) (x5 : Int32) (x6 : Int32) (F : PF) (G : PG) : PR := if (4 : Int32) ≤ x6 then mb_feed_35 fu ag_18 x1 x2 x3 x4 x5 x6 F G else mb_feed_31 fu ag_18 x1 x2 x3 x4 x5 x6 F G
def mb_feed_18 (fu : Nat) (ag_18 : Int32 → Int32 → Int32 → Int32 → Int32 → Int32 → PF → PG → PR) (x1 : Int32) (x2 : Int32) (x3 : Int32) (x4 : Int32) (x5 : Int32) (x6 : Int32) (F : PF) (G : PG) : PR := if (20 : Int32) ≤ x6 then mb_feed_108 fu F G else mb_feed_25 fu ag_18 x1 x2 x3 x4 x5 x6 F G
def ml_feed_18 (fu : Nat) : Nat → Int32 → Int32 → Int32 → Int32 → Int32 → Int32 → PF → PG → PR
  | 0 => fun _ _ _ _ _ _ _ _ => none
  | n + 1 => fun x1 x2 x3 x4 x5 x6 F G => mb_feed_18 fu (ml_feed_18 fu n) x1 x2 x3 x4 x5 x6 F G
def mb_feed_15 (fu : Nat) (x1 : Int32) (x2 : Int32) (x3 : Int32) (x4 : Int32) (x5 : Int32) (F : PF) (G : PG) : PR := ml_feed_18 fu fu x1 x2 x3 x4 x5 0 F G
def mb_feed_13 (fu : Nat) (F : PF) (G : PG) : PR := some ((-1), F, G)
def mb_feed_0 (fu : Nat) (x1 : Int32) (x2 : Int32) (x3 : Int32) (x4 : Int32) (x5 : Int32) (F : PF) (G : PG) : PR := if ((F 2) + (20 : Int32)) ≤ (4000 : Int32) then mb_feed_15 fu x1 x2 x3 x4 x5 F G else mb_feed_13 fu F G
def mf_feed (fu : Nat) (x1 : Int32) (x2 : Int32) (x3 : Int32) (x4 : Int32) (x5 : Int32) (F : PF) (G : PG) : PR := mb_feed_0 fu x1 x2 x3 x4 x5 F G
theorem mw_feed_119 (fu : Nat) {res : Int32 × PF × PG} (C : mMC p R s m args c A v RX12 cX12_feed 8 0 0) (hret : ∀ (H1 : Heap) (locs1 : List Loc) (ls1 : Array Slot) (pc : Nat), mMW s A v a res.2.1 res.2.2 H1 locs1 → narrow .int (.int res.1) = .int res.1 → decode cX12_feed pc = .ok (.ireturn, 1) → W p l e R s m args below meth c H1 locs1 0 0 Q (F0 m pc ls1 [.int res.1])) (F : PF) (G : PG) (hm : mb_feed_119 fu F G = some res) {H : Heap} {locs : List Loc} (hw : mMW s A v a F G H locs) {ls : Array Slot} (hl : lv_has ls 8 [(0, .ref (a 212))]) : W p l e R s m args below meth c H locs 0 0 Q (F0 m 119 ls []) := by
  have hx := C.1
  have hb := C.2.1
  unfold mb_feed_119 at hm
  refine lv_aload_n hx hb dX12_feed_119 rfl (lv_at hl 0 rfl) ?_
  refine mg_X12_153 C hw dX12_feed_120 ?_
  obtain rfl := Option.some.inj hm
  exact hret _ _ _ _ hw rfl dX12_feed_123
theorem mw_feed_108 (fu : Nat) {res : Int32 × PF × PG} (C : mMC p R s m args c A v RX12 cX12_feed 8 0 0) (hret : ∀ (H1 : Heap) (locs1 : List Loc) (ls1 : Array Slot) (pc : Nat), mMW s A v a res.2.1 res.2.2 H1 locs1 → narrow .int (.int res.1) = .int res.1 → decode cX12_feed pc = .ok (.ireturn, 1) → W p l e R s m args below meth c H1 locs1 0 0 Q (F0 m pc ls1 [.int res.1])) (F : PF) (G : PG) (hm : mb_feed_108 fu F G = some res) {H : Heap} {locs : List Loc} (hw : mMW s A v a F G H locs) {ls : Array Slot} (hl : lv_has ls 8 [(0, .ref (a 212))]) : W p l e R s m args below meth c H locs 0 0 Q (F0 m 108 ls []) := by
  have hx := C.1
  have hb := C.2.1
  unfold mb_feed_108 at hm
  refine lv_aload_n hx hb dX12_feed_108 rfl (lv_at hl 0 rfl) ?_
  refine lv_dup hx hb dX12_feed_109 rfl ?_
  refine mg_X12_153 C hw dX12_feed_110 ?_
  refine lv_bipush (v := 20) hx hb dX12_feed_113 (by decide) ?_
  refine lv_iadd hx hb dX12_feed_115 ?_
  refine mp_X12_153 C hw dX12_feed_116 (fun H locs hw => ?_)
  exact mw_feed_119 fu C hret (fup F 2 ((F 2) + (20 : Int32))) G hm hw (lv_sub hl [0] rfl)
theorem mw_feed_102 (fu : Nat) {res : Int32 × PF × PG} (C : mMC p R s m args c A v RX12 cX12_feed 8 0 0) (hret : ∀ (H1 : Heap) (locs1 : List Loc) (ls1 : Array Slot) (pc : Nat), mMW s A v a res.2.1 res.2.2 H1 locs1 → narrow .int (.int res.1) = .int res.1 → decode cX12_feed pc = .ok (.ireturn, 1) → W p l e R s m args below meth c H1 locs1 0 0 Q (F0 m pc ls1 [.int res.1])) (ag_18 : Int32 → Int32 → Int32 → Int32 → Int32 → Int32 → PF → PG → PR) (hag_18 : ∀ (x1 : Int32) (x2 : Int32) (x3 : Int32) (x4 : Int32) (x5 : Int32) (x6 : Int32) (F : PF) (G : PG), ag_18 x1 x2 x3 x4 x5 x6 F G = some res → ∀ (H : Heap) (locs : List Loc) (ls : Array Slot), mMW s A v a F G H locs → lv_has ls 8 [(0, .ref (a 212)), (1, .int x1), (2, .int x2), (3, .int x3), (4, .int x4), (5, .int x5), (6, .int x6)] → W p l e R s m args below meth c H locs 0 0 Q (F0 m 18 ls [])) (x1 : Int32) (x2 : Int32) (x3 : Int32) (x4 : Int32) (x5 : Int32) (x6 : Int32) (F : PF) (G : PG) (hm : mb_feed_102 fu ag_18 x1 x2 x3 x4 x5 x6 F G = some res) {H : Heap} {locs : List Loc} (hw : mMW s A v a F G H locs) {ls : Array Slot} (hl : lv_has ls 8 [(0, .ref (a 212)), (1, .int x1), (2, .int x2), (3, .int x3), (4, .int x4), (5, .int x5), (6, .int x6)]) : W p l e R s m args below meth c H locs 0 0 Q (F0 m 102 ls []) := by
  have hx := C.1
  have hb := C.2.1
  unfold mb_feed_102 at hm
  refine lv_iinc (v := (x6 + 1)) (lv' := [(6, .int (x6 + 1)), (0, .ref (a 212)), (1, .int x1), (2, .int x2), (3, .int x3), (4, .int x4), (5, .int x5)]) hx hb dX12_feed_102 hl (k := 6) rfl (by rfl) (by decide) rfl (fun ls hl => ?_)
  refine lv_goto (tgt := 18) hx hb dX12_feed_105 (by decide) ?_
  exact hag_18 x1 x2 x3 x4 x5 (x6 + 1) F G hm _ _ _ hw (lv_sub hl [1, 2, 3, 4, 5, 6, 0] rfl)
theorem mw_feed_71 (fu : Nat) {res : Int32 × PF × PG} (C : mMC p R s m args c A v RX12 cX12_feed 8 0 0) (hret : ∀ (H1 : Heap) (locs1 : List Loc) (ls1 : Array Slot) (pc : Nat), mMW s A v a res.2.1 res.2.2 H1 locs1 → narrow .int (.int res.1) = .int res.1 → decode cX12_feed pc = .ok (.ireturn, 1) → W p l e R s m args below meth c H1 locs1 0 0 Q (F0 m pc ls1 [.int res.1])) (ag_18 : Int32 → Int32 → Int32 → Int32 → Int32 → Int32 → PF → PG → PR) (hag_18 : ∀ (x1 : Int32) (x2 : Int32) (x3 : Int32) (x4 : Int32) (x5 : Int32) (x6 : Int32) (F : PF) (G : PG), ag_18 x1 x2 x3 x4 x5 x6 F G = some res → ∀ (H : Heap) (locs : List Loc) (ls : Array Slot), mMW s A v a F G H locs → lv_has ls 8 [(0, .ref (a 212)), (1, .int x1), (2, .int x2), (3, .int x3), (4, .int x4), (5, .int x5), (6, .int x6)] → W p l e R s m args below meth c H locs 0 0 Q (F0 m 18 ls [])) (x1 : Int32) (x2 : Int32) (x3 : Int32) (x4 : Int32) (x5 : Int32) (x6 : Int32) (z0 : Int32) (F : PF) (G : PG) (hm : mb_feed_71 fu ag_18 x1 x2 x3 x4 x5 x6 z0 F G = some res) {H : Heap} {locs : List Loc} (hw : mMW s A v a F G H locs) {ls : Array Slot} (hl : lv_has ls 8 [(0, .ref (a 212)), (1, .int x1), (2, .int x2), (3, .int x3), (4, .int x4), (5, .int x5), (6, .int x6)]) : W p l e R s m args below meth c H locs 0 0 Q (F0 m 71 ls [.int z0]) := by
  have hx := C.1
  have hb := C.2.1
  unfold mb_feed_71 at hm
  refine lv_istore (lv' := [(7, .int z0), (0, .ref (a 212)), (1, .int x1), (2, .int x2), (3, .int x3), (4, .int x4), (5, .int x5), (6, .int x6)]) hx hb dX12_feed_71 hl (by decide) rfl (fun ls hl => ?_)
  refine lv_aload_n hx hb dX12_feed_73 rfl (lv_at hl 1 rfl) ?_
  refine mg_X12_9 C hw dX12_feed_74 ?_
  refine lv_aload_n hx hb dX12_feed_77 rfl (lv_at hl 1 rfl) ?_
  refine mg_X12_153 C hw dX12_feed_78 ?_
  refine lv_iload hx hb dX12_feed_81 (lv_at hl 7 rfl) ?_
  refine lv_iadd hx hb dX12_feed_83 ?_
  refine lv_iload hx hb dX12_feed_84 (lv_at hl 0 rfl) ?_
  refine lv_bipush (v := 24) hx hb dX12_feed_86 (by decide) ?_
  refine lv_bipush (v := 8) hx hb dX12_feed_88 (by decide) ?_
  refine lv_iload hx hb dX12_feed_90 (lv_at hl 7 rfl) ?_
  refine lv_iconst (v := 4) hx hb dX12_feed_92 (by decide) ?_
  refine lv_irem hx hb dX12_feed_93 (by decide) ?_
  refine lv_imul hx hb dX12_feed_94 ?_
  refine lv_isub hx hb dX12_feed_95 ?_
  refine lv_ishr hx hb dX12_feed_96 ?_
  refine lv_sipush (v := 255) hx hb dX12_feed_97 (by decide) ?_
  refine lv_iand hx hb dX12_feed_100 ?_
  obtain ⟨hi, hm⟩ := ix_elim hm
  refine mas_0 C hw hi dX12_feed_101 (fun H locs hw => ?_)
  exact mw_feed_102 fu C hret ag_18 hag_18 x1 x2 x3 x4 x5 x6 F (gup G 0 ((F 2) + x6).toNatClampNeg ((z0 >>> (((24 : Int32) - ((8 : Int32) * (x6 - x6 / (4 : Int32) * (4 : Int32)))) &&& 31)) &&& (255 : Int32))) hm hw (lv_sub hl [1, 2, 3, 4, 5, 6, 7] rfl)
theorem mw_feed_69 (fu : Nat) {res : Int32 × PF × PG} (C : mMC p R s m args c A v RX12 cX12_feed 8 0 0) (hret : ∀ (H1 : Heap) (locs1 : List Loc) (ls1 : Array Slot) (pc : Nat), mMW s A v a res.2.1 res.2.2 H1 locs1 → narrow .int (.int res.1) = .int res.1 → decode cX12_feed pc = .ok (.ireturn, 1) → W p l e R s m args below meth c H1 locs1 0 0 Q (F0 m pc ls1 [.int res.1])) (ag_18 : Int32 → Int32 → Int32 → Int32 → Int32 → Int32 → PF → PG → PR) (hag_18 : ∀ (x1 : Int32) (x2 : Int32) (x3 : Int32) (x4 : Int32) (x5 : Int32) (x6 : Int32) (F : PF) (G : PG), ag_18 x1 x2 x3 x4 x5 x6 F G = some res → ∀ (H : Heap) (locs : List Loc) (ls : Array Slot), mMW s A v a F G H locs → lv_has ls 8 [(0, .ref (a 212)), (1, .int x1), (2, .int x2), (3, .int x3), (4, .int x4), (5, .int x5), (6, .int x6)] → W p l e R s m args below meth c H locs 0 0 Q (F0 m 18 ls [])) (x1 : Int32) (x2 : Int32) (x3 : Int32) (x4 : Int32) (x5 : Int32) (x6 : Int32) (F : PF) (G : PG) (hm : mb_feed_69 fu ag_18 x1 x2 x3 x4 x5 x6 F G = some res) {H : Heap} {locs : List Loc} (hw : mMW s A v a F G H locs) {ls : Array Slot} (hl : lv_has ls 8 [(0, .ref (a 212)), (1, .int x1), (2, .int x2), (3, .int x3), (4, .int x4), (5, .int x5), (6, .int x6)]) : W p l e R s m args below meth c H locs 0 0 Q (F0 m 69 ls []) := by
  have hx := C.1
  have hb := C.2.1
  unfold mb_feed_69 at hm
  refine lv_iload hx hb dX12_feed_69 (lv_at hl 5 rfl) ?_
  exact mw_feed_71 fu C hret ag_18 hag_18 x1 x2 x3 x4 x5 x6 x5 F G hm hw (lv_sub hl [0, 1, 2, 3, 4, 5, 6] rfl)
theorem mw_feed_64 (fu : Nat) {res : Int32 × PF × PG} (C : mMC p R s m args c A v RX12 cX12_feed 8 0 0) (hret : ∀ (H1 : Heap) (locs1 : List Loc) (ls1 : Array Slot) (pc : Nat), mMW s A v a res.2.1 res.2.2 H1 locs1 → narrow .int (.int res.1) = .int res.1 → decode cX12_feed pc = .ok (.ireturn, 1) → W p l e R s m args below meth c H1 locs1 0 0 Q (F0 m pc ls1 [.int res.1])) (ag_18 : Int32 → Int32 → Int32 → Int32 → Int32 → Int32 → PF → PG → PR) (hag_18 : ∀ (x1 : Int32) (x2 : Int32) (x3 : Int32) (x4 : Int32) (x5 : Int32) (x6 : Int32) (F : PF) (G : PG), ag_18 x1 x2 x3 x4 x5 x6 F G = some res → ∀ (H : Heap) (locs : List Loc) (ls : Array Slot), mMW s A v a F G H locs → lv_has ls 8 [(0, .ref (a 212)), (1, .int x1), (2, .int x2), (3, .int x3), (4, .int x4), (5, .int x5), (6, .int x6)] → W p l e R s m args below meth c H locs 0 0 Q (F0 m 18 ls [])) (x1 : Int32) (x2 : Int32) (x3 : Int32) (x4 : Int32) (x5 : Int32) (x6 : Int32) (F : PF) (G : PG) (hm : mb_feed_64 fu ag_18 x1 x2 x3 x4 x5 x6 F G = some res) {H : Heap} {locs : List Loc} (hw : mMW s A v a F G H locs) {ls : Array Slot} (hl : lv_has ls 8 [(0, .ref (a 212)), (1, .int x1), (2, .int x2), (3, .int x3), (4, .int x4), (5, .int x5), (6, .int x6)]) : W p l e R s m args below meth c H locs 0 0 Q (F0 m 64 ls []) := by
  have hx := C.1
  have hb := C.2.1
  unfold mb_feed_64 at hm
  refine lv_iload hx hb dX12_feed_64 (lv_at hl 4 rfl) ?_
  refine lv_goto (tgt := 71) hx hb dX12_feed_66 (by decide) ?_
  exact mw_feed_71 fu C hret ag_18 hag_18 x1 x2 x3 x4 x5 x6 x4 F G hm hw (lv_sub hl [0, 1, 2, 3, 4, 5, 6] rfl)
theorem mw_feed_57 (fu : Nat) {res : Int32 × PF × PG} (C : mMC p R s m args c A v RX12 cX12_feed 8 0 0) (hret : ∀ (H1 : Heap) (locs1 : List Loc) (ls1 : Array Slot) (pc : Nat), mMW s A v a res.2.1 res.2.2 H1 locs1 → narrow .int (.int res.1) = .int res.1 → decode cX12_feed pc = .ok (.ireturn, 1) → W p l e R s m args below meth c H1 locs1 0 0 Q (F0 m pc ls1 [.int res.1])) (ag_18 : Int32 → Int32 → Int32 → Int32 → Int32 → Int32 → PF → PG → PR) (hag_18 : ∀ (x1 : Int32) (x2 : Int32) (x3 : Int32) (x4 : Int32) (x5 : Int32) (x6 : Int32) (F : PF) (G : PG), ag_18 x1 x2 x3 x4 x5 x6 F G = some res → ∀ (H : Heap) (locs : List Loc) (ls : Array Slot), mMW s A v a F G H locs → lv_has ls 8 [(0, .ref (a 212)), (1, .int x1), (2, .int x2), (3, .int x3), (4, .int x4), (5, .int x5), (6, .int x6)] → W p l e R s m args below meth c H locs 0 0 Q (F0 m 18 ls [])) (x1 : Int32) (x2 : Int32) (x3 : Int32) (x4 : Int32) (x5 : Int32) (x6 : Int32) (F : PF) (G : PG) (hm : mb_feed_57 fu ag_18 x1 x2 x3 x4 x5 x6 F G = some res) {H : Heap} {locs : List Loc} (hw : mMW s A v a F G H locs) {ls : Array Slot} (hl : lv_has ls 8 [(0, .ref (a 212)), (1, .int x1), (2, .int x2), (3, .int x3), (4, .int x4), (5, .int x5), (6, .int x6)]) : W p l e R s m args below meth c H locs 0 0 Q (F0 m 57 ls []) := by
  have hx := C.1
  have hb := C.2.1
  unfold mb_feed_57 at hm
  refine lv_iload hx hb dX12_feed_57 (lv_at hl 6 rfl) ?_
  refine lv_bipush (v := 16) hx hb dX12_feed_59 (by decide) ?_
  refine lv_icmp_ge (tgt := 69) hx hb dX12_feed_61 (by decide) (fun c_1 => ?_) (fun c_1 => ?_)
  · have hm := (if_pos c_1).symm.trans hm
    exact mw_feed_69 fu C hret ag_18 hag_18 x1 x2 x3 x4 x5 x6 F G hm hw (lv_sub hl [0, 1, 2, 3, 4, 5, 6] rfl)
  · have hm := (if_neg c_1).symm.trans hm
    exact mw_feed_64 fu C hret ag_18 hag_18 x1 x2 x3 x4 x5 x6 F G hm hw (lv_sub hl [0, 1, 2, 3, 4, 5, 6] rfl)
theorem mw_feed_53 (fu : Nat) {res : Int32 × PF × PG} (C : mMC p R s m args c A v RX12 cX12_feed 8 0 0) (hret : ∀ (H1 : Heap) (locs1 : List Loc) (ls1 : Array Slot) (pc : Nat), mMW s A v a res.2.1 res.2.2 H1 locs1 → narrow .int (.int res.1) = .int res.1 → decode cX12_feed pc = .ok (.ireturn, 1) → W p l e R s m args below meth c H1 locs1 0 0 Q (F0 m pc ls1 [.int res.1])) (ag_18 : Int32 → Int32 → Int32 → Int32 → Int32 → Int32 → PF → PG → PR) (hag_18 : ∀ (x1 : Int32) (x2 : Int32) (x3 : Int32) (x4 : Int32) (x5 : Int32) (x6 : Int32) (F : PF) (G : PG), ag_18 x1 x2 x3 x4 x5 x6 F G = some res → ∀ (H : Heap) (locs : List Loc) (ls : Array Slot), mMW s A v a F G H locs → lv_has ls 8 [(0, .ref (a 212)), (1, .int x1), (2, .int x2), (3, .int x3), (4, .int x4), (5, .int x5), (6, .int x6)] → W p l e R s m args below meth c H locs 0 0 Q (F0 m 18 ls [])) (x1 : Int32) (x2 : Int32) (x3 : Int32) (x4 : Int32) (x5 : Int32) (x6 : Int32) (F : PF) (G : PG) (hm : mb_feed_53 fu ag_18 x1 x2 x3 x4 x5 x6 F G = some res) {H : Heap} {locs : List Loc} (hw : mMW s A v a F G H locs) {ls : Array Slot} (hl : lv_has ls 8 [(0, .ref (a 212)), (1, .int x1), (2, .int x2), (3, .int x3), (4, .int x4), (5, .int x5), (6, .int x6)]) : W p l e R s m args below meth c H locs 0 0 Q (F0 m 53 ls []) := by
  have hx := C.1
  have hb := C.2.1
  unfold mb_feed_53 at hm
  refine lv_iload_n hx hb dX12_feed_53 rfl (lv_at hl 3 rfl) ?_
  refine lv_goto (tgt := 71) hx hb dX12_feed_54 (by decide) ?_
  exact mw_feed_71 fu C hret ag_18 hag_18 x1 x2 x3 x4 x5 x6 x3 F G hm hw (lv_sub hl [0, 1, 2, 3, 4, 5, 6] rfl)
theorem mw_feed_46 (fu : Nat) {res : Int32 × PF × PG} (C : mMC p R s m args c A v RX12 cX12_feed 8 0 0) (hret : ∀ (H1 : Heap) (locs1 : List Loc) (ls1 : Array Slot) (pc : Nat), mMW s A v a res.2.1 res.2.2 H1 locs1 → narrow .int (.int res.1) = .int res.1 → decode cX12_feed pc = .ok (.ireturn, 1) → W p l e R s m args below meth c H1 locs1 0 0 Q (F0 m pc ls1 [.int res.1])) (ag_18 : Int32 → Int32 → Int32 → Int32 → Int32 → Int32 → PF → PG → PR) (hag_18 : ∀ (x1 : Int32) (x2 : Int32) (x3 : Int32) (x4 : Int32) (x5 : Int32) (x6 : Int32) (F : PF) (G : PG), ag_18 x1 x2 x3 x4 x5 x6 F G = some res → ∀ (H : Heap) (locs : List Loc) (ls : Array Slot), mMW s A v a F G H locs → lv_has ls 8 [(0, .ref (a 212)), (1, .int x1), (2, .int x2), (3, .int x3), (4, .int x4), (5, .int x5), (6, .int x6)] → W p l e R s m args below meth c H locs 0 0 Q (F0 m 18 ls [])) (x1 : Int32) (x2 : Int32) (x3 : Int32) (x4 : Int32) (x5 : Int32) (x6 : Int32) (F : PF) (G : PG) (hm : mb_feed_46 fu ag_18 x1 x2 x3 x4 x5 x6 F G = some res) {H : Heap} {locs : List Loc} (hw : mMW s A v a F G H locs) {ls : Array Slot} (hl : lv_has ls 8 [(0, .ref (a 212)), (1, .int x1), (2, .int x2), (3, .int x3), (4, .int x4), (5, .int x5), (6, .int x6)]) : W p l e R s m args below meth c H locs 0 0 Q (F0 m 46 ls []) := by
  have hx := C.1
  have hb := C.2.1
  unfold mb_feed_46 at hm
  refine lv_iload hx hb dX12_feed_46 (lv_at hl 6 rfl) ?_
  refine lv_bipush (v := 12) hx hb dX12_feed_48 (by decide) ?_
  refine lv_icmp_ge (tgt := 57) hx hb dX12_feed_50 (by decide) (fun c_1 => ?_) (fun c_1 => ?_)
  · have hm := (if_pos c_1).symm.trans hm
    exact mw_feed_57 fu C hret ag_18 hag_18 x1 x2 x3 x4 x5 x6 F G hm hw (lv_sub hl [0, 1, 2, 3, 4, 5, 6] rfl)
  · have hm := (if_neg c_1).symm.trans hm
    exact mw_feed_53 fu C hret ag_18 hag_18 x1 x2 x3 x4 x5 x6 F G hm hw (lv_sub hl [0, 1, 2, 3, 4, 5, 6] rfl)
theorem mw_feed_42 (fu : Nat) {res : Int32 × PF × PG} (C : mMC p R s m args c A v RX12 cX12_feed 8 0 0) (hret : ∀ (H1 : Heap) (locs1 : List Loc) (ls1 : Array Slot) (pc : Nat), mMW s A v a res.2.1 res.2.2 H1 locs1 → narrow .int (.int res.1) = .int res.1 → decode cX12_feed pc = .ok (.ireturn, 1) → W p l e R s m args below meth c H1 locs1 0 0 Q (F0 m pc ls1 [.int res.1])) (ag_18 : Int32 → Int32 → Int32 → Int32 → Int32 → Int32 → PF → PG → PR) (hag_18 : ∀ (x1 : Int32) (x2 : Int32) (x3 : Int32) (x4 : Int32) (x5 : Int32) (x6 : Int32) (F : PF) (G : PG), ag_18 x1 x2 x3 x4 x5 x6 F G = some res → ∀ (H : Heap) (locs : List Loc) (ls : Array Slot), mMW s A v a F G H locs → lv_has ls 8 [(0, .ref (a 212)), (1, .int x1), (2, .int x2), (3, .int x3), (4, .int x4), (5, .int x5), (6, .int x6)] → W p l e R s m args below meth c H locs 0 0 Q (F0 m 18 ls [])) (x1 : Int32) (x2 : Int32) (x3 : Int32) (x4 : Int32) (x5 : Int32) (x6 : Int32) (F : PF) (G : PG) (hm : mb_feed_42 fu ag_18 x1 x2 x3 x4 x5 x6 F G = some res) {H : Heap} {locs : List Loc} (hw : mMW s A v a F G H locs) {ls : Array Slot} (hl : lv_has ls 8 [(0, .ref (a 212)), (1, .int x1), (2, .int x2), (3, .int x3), (4, .int x4), (5, .int x5), (6, .int x6)]) : W p l e R s m args below meth c H locs 0 0 Q (F0 m 42 ls []) := by
  have hx := C.1
  have hb := C.2.1
  unfold mb_feed_42 at hm
  refine lv_iload_n hx hb dX12_feed_42 rfl (lv_at hl 2 rfl) ?_
  refine lv_goto (tgt := 71) hx hb dX12_feed_43 (by decide) ?_
  exact mw_feed_71 fu C hret ag_18 hag_18 x1 x2 x3 x4 x5 x6 x2 F G hm hw (lv_sub hl [0, 1, 2, 3, 4, 5, 6] rfl)
theorem mw_feed_35 (fu : Nat) {res : Int32 × PF × PG} (C : mMC p R s m args c A v RX12 cX12_feed 8 0 0) (hret : ∀ (H1 : Heap) (locs1 : List Loc) (ls1 : Array Slot) (pc : Nat), mMW s A v a res.2.1 res.2.2 H1 locs1 → narrow .int (.int res.1) = .int res.1 → decode cX12_feed pc = .ok (.ireturn, 1) → W p l e R s m args below meth c H1 locs1 0 0 Q (F0 m pc ls1 [.int res.1])) (ag_18 : Int32 → Int32 → Int32 → Int32 → Int32 → Int32 → PF → PG → PR) (hag_18 : ∀ (x1 : Int32) (x2 : Int32) (x3 : Int32) (x4 : Int32) (x5 : Int32) (x6 : Int32) (F : PF) (G : PG), ag_18 x1 x2 x3 x4 x5 x6 F G = some res → ∀ (H : Heap) (locs : List Loc) (ls : Array Slot), mMW s A v a F G H locs → lv_has ls 8 [(0, .ref (a 212)), (1, .int x1), (2, .int x2), (3, .int x3), (4, .int x4), (5, .int x5), (6, .int x6)] → W p l e R s m args below meth c H locs 0 0 Q (F0 m 18 ls [])) (x1 : Int32) (x2 : Int32) (x3 : Int32) (x4 : Int32) (x5 : Int32) (x6 : Int32) (F : PF) (G : PG) (hm : mb_feed_35 fu ag_18 x1 x2 x3 x4 x5 x6 F G = some res) {H : Heap} {locs : List Loc} (hw : mMW s A v a F G H locs) {ls : Array Slot} (hl : lv_has ls 8 [(0, .ref (a 212)), (1, .int x1), (2, .int x2), (3, .int x3), (4, .int x4), (5, .int x5), (6, .int x6)]) : W p l e R s m args below meth c H locs 0 0 Q (F0 m 35 ls []) := by
  have hx := C.1
  have hb := C.2.1
  unfold mb_feed_35 at hm
  refine lv_iload hx hb dX12_feed_35 (lv_at hl 6 rfl) ?_
  refine lv_bipush (v := 8) hx hb dX12_feed_37 (by decide) ?_
  refine lv_icmp_ge (tgt := 46) hx hb dX12_feed_39 (by decide) (fun c_1 => ?_) (fun c_1 => ?_)
  · have hm := (if_pos c_1).symm.trans hm
    exact mw_feed_46 fu C hret ag_18 hag_18 x1 x2 x3 x4 x5 x6 F G hm hw (lv_sub hl [0, 1, 2, 3, 4, 5, 6] rfl)
  · have hm := (if_neg c_1).symm.trans hm
    exact mw_feed_42 fu C hret ag_18 hag_18 x1 x2 x3 x4 x5 x6 F G hm hw (lv_sub hl [0, 1, 2, 3, 4, 5, 6] rfl)
theorem mw_feed_31 (fu : Nat) {res : Int32 × PF × PG} (C : mMC p R s m args c A v RX12 cX12_feed 8 0 0) (hret : ∀ (H1 : Heap) (locs1 : List Loc) (ls1 : Array Slot) (pc : Nat), mMW s A v a res.2.1 res.2.2 H1 locs1 → narrow .int (.int res.1) = .int res.1 → decode cX12_feed pc = .ok (.ireturn, 1) → W p l e R s m args below meth c H1 locs1 0 0 Q (F0 m pc ls1 [.int res.1])) (ag_18 : Int32 → Int32 → Int32 → Int32 → Int32 → Int32 → PF → PG → PR) (hag_18 : ∀ (x1 : Int32) (x2 : Int32) (x3 : Int32) (x4 : Int32) (x5 : Int32) (x6 : Int32) (F : PF) (G : PG), ag_18 x1 x2 x3 x4 x5 x6 F G = some res → ∀ (H : Heap) (locs : List Loc) (ls : Array Slot), mMW s A v a F G H locs → lv_has ls 8 [(0, .ref (a 212)), (1, .int x1), (2, .int x2), (3, .int x3), (4, .int x4), (5, .int x5), (6, .int x6)] → W p l e R s m args below meth c H locs 0 0 Q (F0 m 18 ls [])) (x1 : Int32) (x2 : Int32) (x3 : Int32) (x4 : Int32) (x5 : Int32) (x6 : Int32) (F : PF) (G : PG) (hm : mb_feed_31 fu ag_18 x1 x2 x3 x4 x5 x6 F G = some res) {H : Heap} {locs : List Loc} (hw : mMW s A v a F G H locs) {ls : Array Slot} (hl : lv_has ls 8 [(0, .ref (a 212)), (1, .int x1), (2, .int x2), (3, .int x3), (4, .int x4), (5, .int x5), (6, .int x6)]) : W p l e R s m args below meth c H locs 0 0 Q (F0 m 31 ls []) := by
  have hx := C.1
  have hb := C.2.1
  unfold mb_feed_31 at hm
  refine lv_iload_n hx hb dX12_feed_31 rfl (lv_at hl 1 rfl) ?_
  refine lv_goto (tgt := 71) hx hb dX12_feed_32 (by decide) ?_
  exact mw_feed_71 fu C hret ag_18 hag_18 x1 x2 x3 x4 x5 x6 x1 F G hm hw (lv_sub hl [0, 1, 2, 3, 4, 5, 6] rfl)
theorem mw_feed_25 (fu : Nat) {res : Int32 × PF × PG} (C : mMC p R s m args c A v RX12 cX12_feed 8 0 0) (hret : ∀ (H1 : Heap) (locs1 : List Loc) (ls1 : Array Slot) (pc : Nat), mMW s A v a res.2.1 res.2.2 H1 locs1 → narrow .int (.int res.1) = .int res.1 → decode cX12_feed pc = .ok (.ireturn, 1) → W p l e R s m args below meth c H1 locs1 0 0 Q (F0 m pc ls1 [.int res.1])) (ag_18 : Int32 → Int32 → Int32 → Int32 → Int32 → Int32 → PF → PG → PR) (hag_18 : ∀ (x1 : Int32) (x2 : Int32) (x3 : Int32) (x4 : Int32) (x5 : Int32) (x6 : Int32) (F : PF) (G : PG), ag_18 x1 x2 x3 x4 x5 x6 F G = some res → ∀ (H : Heap) (locs : List Loc) (ls : Array Slot), mMW s A v a F G H locs → lv_has ls 8 [(0, .ref (a 212)), (1, .int x1), (2, .int x2), (3, .int x3), (4, .int x4), (5, .int x5), (6, .int x6)] → W p l e R s m args below meth c H locs 0 0 Q (F0 m 18 ls [])) (x1 : Int32) (x2 : Int32) (x3 : Int32) (x4 : Int32) (x5 : Int32) (x6 : Int32) (F : PF) (G : PG) (hm : mb_feed_25 fu ag_18 x1 x2 x3 x4 x5 x6 F G = some res) {H : Heap} {locs : List Loc} (hw : mMW s A v a F G H locs) {ls : Array Slot} (hl : lv_has ls 8 [(0, .ref (a 212)), (1, .int x1), (2, .int x2), (3, .int x3), (4, .int x4), (5, .int x5), (6, .int x6)]) : W p l e R s m args below meth c H locs 0 0 Q (F0 m 25 ls []) := by
  have hx := C.1
  have hb := C.2.1
  unfold mb_feed_25 at hm
  refine lv_iload hx hb dX12_feed_25 (lv_at hl 6 rfl) ?_
  refine lv_iconst (v := 4) hx hb dX12_feed_27 (by decide) ?_
  refine lv_icmp_ge (tgt := 35) hx hb dX12_feed_28 (by decide) (fun c_1 => ?_) (fun c_1 => ?_)
  · have hm := (if_pos c_1).symm.trans hm
    exact mw_feed_35 fu C hret ag_18 hag_18 x1 x2 x3 x4 x5 x6 F G hm hw (lv_sub hl [0, 1, 2, 3, 4, 5, 6] rfl)
  · have hm := (if_neg c_1).symm.trans hm
    exact mw_feed_31 fu C hret ag_18 hag_18 x1 x2 x3 x4 x5 x6 F G hm hw (lv_sub hl [0, 1, 2, 3, 4, 5, 6] rfl)
theorem mw_feed_18 (fu : Nat) {res : Int32 × PF × PG} (C : mMC p R s m args c A v RX12 cX12_feed 8 0 0) (hret : ∀ (H1 : Heap) (locs1 : List Loc) (ls1 : Array Slot) (pc : Nat), mMW s A v a res.2.1 res.2.2 H1 locs1 → narrow .int (.int res.1) = .int res.1 → decode cX12_feed pc = .ok (.ireturn, 1) → W p l e R s m args below meth c H1 locs1 0 0 Q (F0 m pc ls1 [.int res.1])) (ag_18 : Int32 → Int32 → Int32 → Int32 → Int32 → Int32 → PF → PG → PR) (hag_18 : ∀ (x1 : Int32) (x2 : Int32) (x3 : Int32) (x4 : Int32) (x5 : Int32) (x6 : Int32) (F : PF) (G : PG), ag_18 x1 x2 x3 x4 x5 x6 F G = some res → ∀ (H : Heap) (locs : List Loc) (ls : Array Slot), mMW s A v a F G H locs → lv_has ls 8 [(0, .ref (a 212)), (1, .int x1), (2, .int x2), (3, .int x3), (4, .int x4), (5, .int x5), (6, .int x6)] → W p l e R s m args below meth c H locs 0 0 Q (F0 m 18 ls [])) (x1 : Int32) (x2 : Int32) (x3 : Int32) (x4 : Int32) (x5 : Int32) (x6 : Int32) (F : PF) (G : PG) (hm : mb_feed_18 fu ag_18 x1 x2 x3 x4 x5 x6 F G = some res) {H : Heap} {locs : List Loc} (hw : mMW s A v a F G H locs) {ls : Array Slot} (hl : lv_has ls 8 [(0, .ref (a 212)), (1, .int x1), (2, .int x2), (3, .int x3), (4, .int x4), (5, .int x5), (6, .int x6)]) : W p l e R s m args below meth c H locs 0 0 Q (F0 m 18 ls []) := by
  have hx := C.1
  have hb := C.2.1
  unfold mb_feed_18 at hm
  refine lv_iload hx hb dX12_feed_18 (lv_at hl 6 rfl) ?_
  refine lv_bipush (v := 20) hx hb dX12_feed_20 (by decide) ?_
  refine lv_icmp_ge (tgt := 108) hx hb dX12_feed_22 (by decide) (fun c_1 => ?_) (fun c_1 => ?_)
  · have hm := (if_pos c_1).symm.trans hm
    exact mw_feed_108 fu C hret F G hm hw (lv_sub hl [0] rfl)
  · have hm := (if_neg c_1).symm.trans hm
    exact mw_feed_25 fu C hret ag_18 hag_18 x1 x2 x3 x4 x5 x6 F G hm hw (lv_sub hl [0, 1, 2, 3, 4, 5, 6] rfl)
theorem mwl_feed_18 (fu : Nat) {res : Int32 × PF × PG} (C : mMC p R s m args c A v RX12 cX12_feed 8 0 0) (hret : ∀ (H1 : Heap) (locs1 : List Loc) (ls1 : Array Slot) (pc : Nat), mMW s A v a res.2.1 res.2.2 H1 locs1 → narrow .int (.int res.1) = .int res.1 → decode cX12_feed pc = .ok (.ireturn, 1) → W p l e R s m args below meth c H1 locs1 0 0 Q (F0 m pc ls1 [.int res.1])) : ∀ (n : Nat) (x1 : Int32) (x2 : Int32) (x3 : Int32) (x4 : Int32) (x5 : Int32) (x6 : Int32) (F : PF) (G : PG) (hm : ml_feed_18 fu n x1 x2 x3 x4 x5 x6 F G = some res) {H : Heap} {locs : List Loc} (hw : mMW s A v a F G H locs) {ls : Array Slot} (hl : lv_has ls 8 [(0, .ref (a 212)), (1, .int x1), (2, .int x2), (3, .int x3), (4, .int x4), (5, .int x5), (6, .int x6)]), W p l e R s m args below meth c H locs 0 0 Q (F0 m 18 ls []) := by
  intro n
  induction n with
  | zero =>
    intro x1 x2 x3 x4 x5 x6 F G hm
    exact no_elim (show (none : PR) = some res from hm)
  | succ n ih =>
    intro x1 x2 x3 x4 x5 x6 F G hm H locs hw ls hl
    exact mw_feed_18 fu C hret (ml_feed_18 fu n) (fun x1 x2 x3 x4 x5 x6 F G hm H locs ls hw hl => ih x1 x2 x3 x4 x5 x6 F G hm hw hl) x1 x2 x3 x4 x5 x6 F G hm hw hl
theorem mw_feed_15 (fu : Nat) {res : Int32 × PF × PG} (C : mMC p R s m args c A v RX12 cX12_feed 8 0 0) (hret : ∀ (H1 : Heap) (locs1 : List Loc) (ls1 : Array Slot) (pc : Nat), mMW s A v a res.2.1 res.2.2 H1 locs1 → narrow .int (.int res.1) = .int res.1 → decode cX12_feed pc = .ok (.ireturn, 1) → W p l e R s m args below meth c H1 locs1 0 0 Q (F0 m pc ls1 [.int res.1])) (x1 : Int32) (x2 : Int32) (x3 : Int32) (x4 : Int32) (x5 : Int32) (F : PF) (G : PG) (hm : mb_feed_15 fu x1 x2 x3 x4 x5 F G = some res) {H : Heap} {locs : List Loc} (hw : mMW s A v a F G H locs) {ls : Array Slot} (hl : lv_has ls 8 [(0, .ref (a 212)), (1, .int x1), (2, .int x2), (3, .int x3), (4, .int x4), (5, .int x5)]) : W p l e R s m args below meth c H locs 0 0 Q (F0 m 15 ls []) := by
  have hx := C.1
  have hb := C.2.1
  unfold mb_feed_15 at hm
  refine lv_iconst (v := 0) hx hb dX12_feed_15 (by decide) ?_
  refine lv_istore (lv' := [(6, .int 0), (0, .ref (a 212)), (1, .int x1), (2, .int x2), (3, .int x3), (4, .int x4), (5, .int x5)]) hx hb dX12_feed_16 hl (by decide) rfl (fun ls hl => ?_)
  exact mwl_feed_18 fu C hret fu x1 x2 x3 x4 x5 0 F G hm hw (lv_sub hl [1, 2, 3, 4, 5, 6, 0] rfl)
theorem mw_feed_13 (fu : Nat) {res : Int32 × PF × PG} (C : mMC p R s m args c A v RX12 cX12_feed 8 0 0) (hret : ∀ (H1 : Heap) (locs1 : List Loc) (ls1 : Array Slot) (pc : Nat), mMW s A v a res.2.1 res.2.2 H1 locs1 → narrow .int (.int res.1) = .int res.1 → decode cX12_feed pc = .ok (.ireturn, 1) → W p l e R s m args below meth c H1 locs1 0 0 Q (F0 m pc ls1 [.int res.1])) (F : PF) (G : PG) (hm : mb_feed_13 fu F G = some res) {H : Heap} {locs : List Loc} (hw : mMW s A v a F G H locs) {ls : Array Slot} (hl : lv_has ls 8 []) : W p l e R s m args below meth c H locs 0 0 Q (F0 m 13 ls []) := by
  have hx := C.1
  have hb := C.2.1
  unfold mb_feed_13 at hm
  refine lv_iconst (v := (-1)) hx hb dX12_feed_13 (by decide) ?_
  obtain rfl := Option.some.inj hm
  exact hret _ _ _ _ hw rfl dX12_feed_14
theorem mw_feed_0 (fu : Nat) {res : Int32 × PF × PG} (C : mMC p R s m args c A v RX12 cX12_feed 8 0 0) (hret : ∀ (H1 : Heap) (locs1 : List Loc) (ls1 : Array Slot) (pc : Nat), mMW s A v a res.2.1 res.2.2 H1 locs1 → narrow .int (.int res.1) = .int res.1 → decode cX12_feed pc = .ok (.ireturn, 1) → W p l e R s m args below meth c H1 locs1 0 0 Q (F0 m pc ls1 [.int res.1])) (x1 : Int32) (x2 : Int32) (x3 : Int32) (x4 : Int32) (x5 : Int32) (F : PF) (G : PG) (hm : mb_feed_0 fu x1 x2 x3 x4 x5 F G = some res) {H : Heap} {locs : List Loc} (hw : mMW s A v a F G H locs) {ls : Array Slot} (hl : lv_has ls 8 [(0, .ref (a 212)), (1, .int x1), (2, .int x2), (3, .int x3), (4, .int x4), (5, .int x5)]) : W p l e R s m args below meth c H locs 0 0 Q (F0 m 0 ls []) := by
  have hx := C.1
  have hb := C.2.1
  unfold mb_feed_0 at hm
  refine lv_aload_n hx hb dX12_feed_0 rfl (lv_at hl 0 rfl) ?_
  refine mg_X12_153 C hw dX12_feed_1 ?_
  refine lv_bipush (v := 20) hx hb dX12_feed_4 (by decide) ?_
  refine lv_iadd hx hb dX12_feed_6 ?_
  refine lv_sipush (v := 4000) hx hb dX12_feed_7 (by decide) ?_
  refine lv_icmp_le (tgt := 15) hx hb dX12_feed_10 (by decide) (fun c_1 => ?_) (fun c_1 => ?_)
  · have hm := (if_pos c_1).symm.trans hm
    exact mw_feed_15 fu C hret x1 x2 x3 x4 x5 F G hm hw (lv_sub hl [0, 1, 2, 3, 4, 5] rfl)
  · have hm := (if_neg c_1).symm.trans hm
    exact mw_feed_13 fu C hret F G hm hw (lv_sub hl [] rfl)
theorem mk_feed (l : Launch) (v : EV) (a : Nat → Nat) (sz : Nat) (fu : Nat) (x1 : Int32) (x2 : Int32) (x3 : Int32) (x4 : Int32) (x5 : Int32) (F : PF) (G : PG) (r : Int32) (F1 : PF) (G1 : PG) (hm : mf_feed fu x1 x2 x3 x4 x5 F G = some (r, F1, G1)) : mMI l yX12_feed cX12_feed 8 (some .int) 0 0 v a sz [.ref (a 212), .int x1, .int x2, .int x3, .int x4, .int x5] F G r F1 G1 := mMI.of (ty := .int) (by decide) rfl (Nat.le_of_ble_eq_true rfl) (fun p e R s m args below meth c Q A H locs ls C hw hl hret => mw_feed_0 fu (res := (r, F1, G1)) C hret x1 x2 x3 x4 x5 F G hm hw hl)
def mb_end_12 (fu : Nat) (F : PF) (G : PG) : PR := some ((-1), F, G)
def mb_end_19 (fu : Nat) (x1 : Int32) (F : PF) (G : PG) : PR := some (x1, F, G)
def mb_end_14 (fu : Nat) (x1 : Int32) (F : PF) (G : PG) : PR := mb_end_19 fu x1 (fup F 2 x1) G
def mb_end_4 (fu : Nat) (x1 : Int32) (F : PF) (G : PG) : PR := if x1 ≤ (F 2) then mb_end_14 fu x1 F G else mb_end_12 fu F G
def mb_end_0 (fu : Nat) (x1 : Int32) (F : PF) (G : PG) : PR := if x1 < (0 : Int32) then mb_end_12 fu F G else mb_end_4 fu x1 F G
def mf_end (fu : Nat) (x1 : Int32) (F : PF) (G : PG) : PR := mb_end_0 fu x1 F G
theorem mw_end_12 (fu : Nat) {res : Int32 × PF × PG} (C : mMC p R s m args c A v RX12 cX12_end 2 0 0) (hret : ∀ (H1 : Heap) (locs1 : List Loc) (ls1 : Array Slot) (pc : Nat), mMW s A v a res.2.1 res.2.2 H1 locs1 → narrow .int (.int res.1) = .int res.1 → decode cX12_end pc = .ok (.ireturn, 1) → W p l e R s m args below meth c H1 locs1 0 0 Q (F0 m pc ls1 [.int res.1])) (F : PF) (G : PG) (hm : mb_end_12 fu F G = some res) {H : Heap} {locs : List Loc} (hw : mMW s A v a F G H locs) {ls : Array Slot} (hl : lv_has ls 2 []) : W p l e R s m args below meth c H locs 0 0 Q (F0 m 12 ls []) := by
  have hx := C.1
  have hb := C.2.1
  unfold mb_end_12 at hm
  refine lv_iconst (v := (-1)) hx hb dX12_end_12 (by decide) ?_
  obtain rfl := Option.some.inj hm
  exact hret _ _ _ _ hw rfl dX12_end_13
theorem mw_end_19 (fu : Nat) {res : Int32 × PF × PG} (C : mMC p R s m args c A v RX12 cX12_end 2 0 0) (hret : ∀ (H1 : Heap) (locs1 : List Loc) (ls1 : Array Slot) (pc : Nat), mMW s A v a res.2.1 res.2.2 H1 locs1 → narrow .int (.int res.1) = .int res.1 → decode cX12_end pc = .ok (.ireturn, 1) → W p l e R s m args below meth c H1 locs1 0 0 Q (F0 m pc ls1 [.int res.1])) (x1 : Int32) (F : PF) (G : PG) (hm : mb_end_19 fu x1 F G = some res) {H : Heap} {locs : List Loc} (hw : mMW s A v a F G H locs) {ls : Array Slot} (hl : lv_has ls 2 [(1, .int x1)]) : W p l e R s m args below meth c H locs 0 0 Q (F0 m 19 ls []) := by
  have hx := C.1
  have hb := C.2.1
  unfold mb_end_19 at hm
  refine lv_iload_n hx hb dX12_end_19 rfl (lv_at hl 0 rfl) ?_
  obtain rfl := Option.some.inj hm
  exact hret _ _ _ _ hw rfl dX12_end_20
theorem mw_end_14 (fu : Nat) {res : Int32 × PF × PG} (C : mMC p R s m args c A v RX12 cX12_end 2 0 0) (hret : ∀ (H1 : Heap) (locs1 : List Loc) (ls1 : Array Slot) (pc : Nat), mMW s A v a res.2.1 res.2.2 H1 locs1 → narrow .int (.int res.1) = .int res.1 → decode cX12_end pc = .ok (.ireturn, 1) → W p l e R s m args below meth c H1 locs1 0 0 Q (F0 m pc ls1 [.int res.1])) (x1 : Int32) (F : PF) (G : PG) (hm : mb_end_14 fu x1 F G = some res) {H : Heap} {locs : List Loc} (hw : mMW s A v a F G H locs) {ls : Array Slot} (hl : lv_has ls 2 [(0, .ref (a 212)), (1, .int x1)]) : W p l e R s m args below meth c H locs 0 0 Q (F0 m 14 ls []) := by
  have hx := C.1
  have hb := C.2.1
  unfold mb_end_14 at hm
  refine lv_aload_n hx hb dX12_end_14 rfl (lv_at hl 0 rfl) ?_
  refine lv_iload_n hx hb dX12_end_15 rfl (lv_at hl 1 rfl) ?_
  refine mp_X12_153 C hw dX12_end_16 (fun H locs hw => ?_)
  exact mw_end_19 fu C hret x1 (fup F 2 x1) G hm hw (lv_sub hl [1] rfl)
theorem mw_end_4 (fu : Nat) {res : Int32 × PF × PG} (C : mMC p R s m args c A v RX12 cX12_end 2 0 0) (hret : ∀ (H1 : Heap) (locs1 : List Loc) (ls1 : Array Slot) (pc : Nat), mMW s A v a res.2.1 res.2.2 H1 locs1 → narrow .int (.int res.1) = .int res.1 → decode cX12_end pc = .ok (.ireturn, 1) → W p l e R s m args below meth c H1 locs1 0 0 Q (F0 m pc ls1 [.int res.1])) (x1 : Int32) (F : PF) (G : PG) (hm : mb_end_4 fu x1 F G = some res) {H : Heap} {locs : List Loc} (hw : mMW s A v a F G H locs) {ls : Array Slot} (hl : lv_has ls 2 [(0, .ref (a 212)), (1, .int x1)]) : W p l e R s m args below meth c H locs 0 0 Q (F0 m 4 ls []) := by
  have hx := C.1
  have hb := C.2.1
  unfold mb_end_4 at hm
  refine lv_iload_n hx hb dX12_end_4 rfl (lv_at hl 1 rfl) ?_
  refine lv_aload_n hx hb dX12_end_5 rfl (lv_at hl 0 rfl) ?_
  refine mg_X12_153 C hw dX12_end_6 ?_
  refine lv_icmp_le (tgt := 14) hx hb dX12_end_9 (by decide) (fun c_1 => ?_) (fun c_1 => ?_)
  · have hm := (if_pos c_1).symm.trans hm
    exact mw_end_14 fu C hret x1 F G hm hw (lv_sub hl [0, 1] rfl)
  · have hm := (if_neg c_1).symm.trans hm
    exact mw_end_12 fu C hret F G hm hw (lv_sub hl [] rfl)
theorem mw_end_0 (fu : Nat) {res : Int32 × PF × PG} (C : mMC p R s m args c A v RX12 cX12_end 2 0 0) (hret : ∀ (H1 : Heap) (locs1 : List Loc) (ls1 : Array Slot) (pc : Nat), mMW s A v a res.2.1 res.2.2 H1 locs1 → narrow .int (.int res.1) = .int res.1 → decode cX12_end pc = .ok (.ireturn, 1) → W p l e R s m args below meth c H1 locs1 0 0 Q (F0 m pc ls1 [.int res.1])) (x1 : Int32) (F : PF) (G : PG) (hm : mb_end_0 fu x1 F G = some res) {H : Heap} {locs : List Loc} (hw : mMW s A v a F G H locs) {ls : Array Slot} (hl : lv_has ls 2 [(0, .ref (a 212)), (1, .int x1)]) : W p l e R s m args below meth c H locs 0 0 Q (F0 m 0 ls []) := by
  have hx := C.1
  have hb := C.2.1
  unfold mb_end_0 at hm
  refine lv_iload_n hx hb dX12_end_0 rfl (lv_at hl 1 rfl) ?_
  refine lv_if_lt (tgt := 12) hx hb dX12_end_1 (by decide) (fun c_1 => ?_) (fun c_1 => ?_)
  · have hm := (if_pos c_1).symm.trans hm
    exact mw_end_12 fu C hret F G hm hw (lv_sub hl [] rfl)
  · have hm := (if_neg c_1).symm.trans hm
    exact mw_end_4 fu C hret x1 F G hm hw (lv_sub hl [0, 1] rfl)
theorem mk_end (l : Launch) (v : EV) (a : Nat → Nat) (sz : Nat) (fu : Nat) (x1 : Int32) (F : PF) (G : PG) (r : Int32) (F1 : PF) (G1 : PG) (hm : mf_end fu x1 F G = some (r, F1, G1)) : mMI l yX12_end cX12_end 2 (some .int) 0 0 v a sz [.ref (a 212), .int x1] F G r F1 G1 := mMI.of (ty := .int) (by decide) rfl (Nat.le_of_ble_eq_true rfl) (fun p e R s m args below meth c Q A H locs ls C hw hl hret => mw_end_0 fu (res := (r, F1, G1)) C hret x1 F G hm hw hl)
def mb_at_18 (fu : Nat) (z0 : Int32) (F : PF) (G : PG) : PR := some (z0, F, G)
def mb_at_17 (fu : Nat) (F : PF) (G : PG) : PR := mb_at_18 fu 0 F G
def mb_at_8 (fu : Nat) (x1 : Int32) (F : PF) (G : PG) : PR := if ixb x1 4000 = true then (mb_at_18 fu (G 1 x1.toNatClampNeg) F G) else none
def mb_at_0 (fu : Nat) (x1 : Int32) (F : PF) (G : PG) : PR := if (F 3) ≤ x1 then mb_at_17 fu F G else mb_at_8 fu x1 F G
def mf_at (fu : Nat) (x1 : Int32) (F : PF) (G : PG) : PR := mb_at_0 fu x1 F G
theorem mw_at_18 (fu : Nat) {res : Int32 × PF × PG} (C : mMC p R s m args c A v RX12 cX12_at 2 0 0) (hret : ∀ (H1 : Heap) (locs1 : List Loc) (ls1 : Array Slot) (pc : Nat), mMW s A v a res.2.1 res.2.2 H1 locs1 → narrow .int (.int res.1) = .int res.1 → decode cX12_at pc = .ok (.ireturn, 1) → W p l e R s m args below meth c H1 locs1 0 0 Q (F0 m pc ls1 [.int res.1])) (z0 : Int32) (F : PF) (G : PG) (hm : mb_at_18 fu z0 F G = some res) {H : Heap} {locs : List Loc} (hw : mMW s A v a F G H locs) {ls : Array Slot} (hl : lv_has ls 2 []) : W p l e R s m args below meth c H locs 0 0 Q (F0 m 18 ls [.int z0]) := by
  have hx := C.1
  have hb := C.2.1
  unfold mb_at_18 at hm
  obtain rfl := Option.some.inj hm
  exact hret _ _ _ _ hw rfl dX12_at_18
theorem mw_at_17 (fu : Nat) {res : Int32 × PF × PG} (C : mMC p R s m args c A v RX12 cX12_at 2 0 0) (hret : ∀ (H1 : Heap) (locs1 : List Loc) (ls1 : Array Slot) (pc : Nat), mMW s A v a res.2.1 res.2.2 H1 locs1 → narrow .int (.int res.1) = .int res.1 → decode cX12_at pc = .ok (.ireturn, 1) → W p l e R s m args below meth c H1 locs1 0 0 Q (F0 m pc ls1 [.int res.1])) (F : PF) (G : PG) (hm : mb_at_17 fu F G = some res) {H : Heap} {locs : List Loc} (hw : mMW s A v a F G H locs) {ls : Array Slot} (hl : lv_has ls 2 []) : W p l e R s m args below meth c H locs 0 0 Q (F0 m 17 ls []) := by
  have hx := C.1
  have hb := C.2.1
  unfold mb_at_17 at hm
  refine lv_iconst (v := 0) hx hb dX12_at_17 (by decide) ?_
  exact mw_at_18 fu C hret 0 F G hm hw (lv_sub hl [] rfl)
theorem mw_at_8 (fu : Nat) {res : Int32 × PF × PG} (C : mMC p R s m args c A v RX12 cX12_at 2 0 0) (hret : ∀ (H1 : Heap) (locs1 : List Loc) (ls1 : Array Slot) (pc : Nat), mMW s A v a res.2.1 res.2.2 H1 locs1 → narrow .int (.int res.1) = .int res.1 → decode cX12_at pc = .ok (.ireturn, 1) → W p l e R s m args below meth c H1 locs1 0 0 Q (F0 m pc ls1 [.int res.1])) (x1 : Int32) (F : PF) (G : PG) (hm : mb_at_8 fu x1 F G = some res) {H : Heap} {locs : List Loc} (hw : mMW s A v a F G H locs) {ls : Array Slot} (hl : lv_has ls 2 [(0, .ref (a 212)), (1, .int x1)]) : W p l e R s m args below meth c H locs 0 0 Q (F0 m 8 ls []) := by
  have hx := C.1
  have hb := C.2.1
  unfold mb_at_8 at hm
  refine lv_aload_n hx hb dX12_at_8 rfl (lv_at hl 0 rfl) ?_
  refine mg_X12_13 C hw dX12_at_9 ?_
  refine lv_iload_n hx hb dX12_at_12 rfl (lv_at hl 1 rfl) ?_
  obtain ⟨hi, hm⟩ := ix_elim hm
  refine mal_1 C hw hi dX12_at_13 ?_
  refine lv_goto (tgt := 18) hx hb dX12_at_14 (by decide) ?_
  exact mw_at_18 fu C hret (G 1 x1.toNatClampNeg) F G hm hw (lv_sub hl [] rfl)
theorem mw_at_0 (fu : Nat) {res : Int32 × PF × PG} (C : mMC p R s m args c A v RX12 cX12_at 2 0 0) (hret : ∀ (H1 : Heap) (locs1 : List Loc) (ls1 : Array Slot) (pc : Nat), mMW s A v a res.2.1 res.2.2 H1 locs1 → narrow .int (.int res.1) = .int res.1 → decode cX12_at pc = .ok (.ireturn, 1) → W p l e R s m args below meth c H1 locs1 0 0 Q (F0 m pc ls1 [.int res.1])) (x1 : Int32) (F : PF) (G : PG) (hm : mb_at_0 fu x1 F G = some res) {H : Heap} {locs : List Loc} (hw : mMW s A v a F G H locs) {ls : Array Slot} (hl : lv_has ls 2 [(0, .ref (a 212)), (1, .int x1)]) : W p l e R s m args below meth c H locs 0 0 Q (F0 m 0 ls []) := by
  have hx := C.1
  have hb := C.2.1
  unfold mb_at_0 at hm
  refine lv_iload_n hx hb dX12_at_0 rfl (lv_at hl 1 rfl) ?_
  refine lv_aload_n hx hb dX12_at_1 rfl (lv_at hl 0 rfl) ?_
  refine mg_X12_157 C hw dX12_at_2 ?_
  refine lv_icmp_ge (tgt := 17) hx hb dX12_at_5 (by decide) (fun c_1 => ?_) (fun c_1 => ?_)
  · have hm := (if_pos c_1).symm.trans hm
    exact mw_at_17 fu C hret F G hm hw (lv_sub hl [] rfl)
  · have hm := (if_neg c_1).symm.trans hm
    exact mw_at_8 fu C hret x1 F G hm hw (lv_sub hl [0, 1] rfl)
theorem mk_at (l : Launch) (v : EV) (a : Nat → Nat) (sz : Nat) (fu : Nat) (x1 : Int32) (F : PF) (G : PG) (r : Int32) (F1 : PF) (G1 : PG) (hm : mf_at fu x1 F G = some (r, F1, G1)) : mMI l yX12_at cX12_at 2 (some .int) 0 0 v a sz [.ref (a 212), .int x1] F G r F1 G1 := mMI.of (ty := .int) (by decide) rfl (Nat.le_of_ble_eq_true rfl) (fun p e R s m args below meth c Q A H locs ls C hw hl hret => mw_at_0 fu (res := (r, F1, G1)) C hret x1 F G hm hw hl)
def mb_isLetter_35 (fu : Nat) (z0 : Int32) (F : PF) (G : PG) : PR := if b01 z0 = true then (some (z0, F, G)) else none
def mb_isLetter_34 (fu : Nat) (F : PF) (G : PG) : PR := mb_isLetter_35 fu 0 F G
def mb_isLetter_30 (fu : Nat) (F : PF) (G : PG) : PR := mb_isLetter_35 fu 1 F G
def mb_isLetter_24 (fu : Nat) (x0 : Int32) (F : PF) (G : PG) : PR := if x0 = (95 : Int32) then mb_isLetter_30 fu F G else mb_isLetter_34 fu F G
def mb_isLetter_18 (fu : Nat) (x0 : Int32) (F : PF) (G : PG) : PR := if x0 ≤ (90 : Int32) then mb_isLetter_30 fu F G else mb_isLetter_24 fu x0 F G
def mb_isLetter_12 (fu : Nat) (x0 : Int32) (F : PF) (G : PG) : PR := if x0 < (65 : Int32) then mb_isLetter_24 fu x0 F G else mb_isLetter_18 fu x0 F G
def mb_isLetter_6 (fu : Nat) (x0 : Int32) (F : PF) (G : PG) : PR := if x0 ≤ (122 : Int32) then mb_isLetter_30 fu F G else mb_isLetter_12 fu x0 F G
def mb_isLetter_0 (fu : Nat) (x0 : Int32) (F : PF) (G : PG) : PR := if x0 < (97 : Int32) then mb_isLetter_12 fu x0 F G else mb_isLetter_6 fu x0 F G
def mf_isLetter (fu : Nat) (x0 : Int32) (F : PF) (G : PG) : PR := mb_isLetter_0 fu x0 F G
theorem mw_isLetter_35 (fu : Nat) {res : Int32 × PF × PG} (C : mMC p R s m args c A v RX12 cX12_isLetter 1 0 0) (hret : ∀ (H1 : Heap) (locs1 : List Loc) (ls1 : Array Slot) (pc : Nat), mMW s A v a res.2.1 res.2.2 H1 locs1 → narrow .boolean (.int res.1) = .int res.1 → decode cX12_isLetter pc = .ok (.ireturn, 1) → W p l e R s m args below meth c H1 locs1 0 0 Q (F0 m pc ls1 [.int res.1])) (z0 : Int32) (F : PF) (G : PG) (hm : mb_isLetter_35 fu z0 F G = some res) {H : Heap} {locs : List Loc} (hw : mMW s A v a F G H locs) {ls : Array Slot} (hl : lv_has ls 1 []) : W p l e R s m args below meth c H locs 0 0 Q (F0 m 35 ls [.int z0]) := by
  have hx := C.1
  have hb := C.2.1
  unfold mb_isLetter_35 at hm
  obtain ⟨hz, hm⟩ := b01_elim hm
  obtain rfl := Option.some.inj hm
  exact hret _ _ _ _ hw (b01_nar hz) dX12_isLetter_35
theorem mw_isLetter_34 (fu : Nat) {res : Int32 × PF × PG} (C : mMC p R s m args c A v RX12 cX12_isLetter 1 0 0) (hret : ∀ (H1 : Heap) (locs1 : List Loc) (ls1 : Array Slot) (pc : Nat), mMW s A v a res.2.1 res.2.2 H1 locs1 → narrow .boolean (.int res.1) = .int res.1 → decode cX12_isLetter pc = .ok (.ireturn, 1) → W p l e R s m args below meth c H1 locs1 0 0 Q (F0 m pc ls1 [.int res.1])) (F : PF) (G : PG) (hm : mb_isLetter_34 fu F G = some res) {H : Heap} {locs : List Loc} (hw : mMW s A v a F G H locs) {ls : Array Slot} (hl : lv_has ls 1 []) : W p l e R s m args below meth c H locs 0 0 Q (F0 m 34 ls []) := by
  have hx := C.1
  have hb := C.2.1
  unfold mb_isLetter_34 at hm
  refine lv_iconst (v := 0) hx hb dX12_isLetter_34 (by decide) ?_
  exact mw_isLetter_35 fu C hret 0 F G hm hw (lv_sub hl [] rfl)
theorem mw_isLetter_30 (fu : Nat) {res : Int32 × PF × PG} (C : mMC p R s m args c A v RX12 cX12_isLetter 1 0 0) (hret : ∀ (H1 : Heap) (locs1 : List Loc) (ls1 : Array Slot) (pc : Nat), mMW s A v a res.2.1 res.2.2 H1 locs1 → narrow .boolean (.int res.1) = .int res.1 → decode cX12_isLetter pc = .ok (.ireturn, 1) → W p l e R s m args below meth c H1 locs1 0 0 Q (F0 m pc ls1 [.int res.1])) (F : PF) (G : PG) (hm : mb_isLetter_30 fu F G = some res) {H : Heap} {locs : List Loc} (hw : mMW s A v a F G H locs) {ls : Array Slot} (hl : lv_has ls 1 []) : W p l e R s m args below meth c H locs 0 0 Q (F0 m 30 ls []) := by
  have hx := C.1
  have hb := C.2.1
  unfold mb_isLetter_30 at hm
  refine lv_iconst (v := 1) hx hb dX12_isLetter_30 (by decide) ?_
  refine lv_goto (tgt := 35) hx hb dX12_isLetter_31 (by decide) ?_
  exact mw_isLetter_35 fu C hret 1 F G hm hw (lv_sub hl [] rfl)
theorem mw_isLetter_24 (fu : Nat) {res : Int32 × PF × PG} (C : mMC p R s m args c A v RX12 cX12_isLetter 1 0 0) (hret : ∀ (H1 : Heap) (locs1 : List Loc) (ls1 : Array Slot) (pc : Nat), mMW s A v a res.2.1 res.2.2 H1 locs1 → narrow .boolean (.int res.1) = .int res.1 → decode cX12_isLetter pc = .ok (.ireturn, 1) → W p l e R s m args below meth c H1 locs1 0 0 Q (F0 m pc ls1 [.int res.1])) (x0 : Int32) (F : PF) (G : PG) (hm : mb_isLetter_24 fu x0 F G = some res) {H : Heap} {locs : List Loc} (hw : mMW s A v a F G H locs) {ls : Array Slot} (hl : lv_has ls 1 [(0, .int x0)]) : W p l e R s m args below meth c H locs 0 0 Q (F0 m 24 ls []) := by
  have hx := C.1
  have hb := C.2.1
  unfold mb_isLetter_24 at hm
  refine lv_iload_n hx hb dX12_isLetter_24 rfl (lv_at hl 0 rfl) ?_
  refine lv_bipush (v := 95) hx hb dX12_isLetter_25 (by decide) ?_
  refine lv_icmp_ne (tgt := 34) hx hb dX12_isLetter_27 (by decide) (fun c_1 => ?_) (fun c_1 => ?_)
  · have hm := (if_neg c_1).symm.trans hm
    exact mw_isLetter_34 fu C hret F G hm hw (lv_sub hl [] rfl)
  · have hm := (if_pos c_1).symm.trans hm
    exact mw_isLetter_30 fu C hret F G hm hw (lv_sub hl [] rfl)
theorem mw_isLetter_18 (fu : Nat) {res : Int32 × PF × PG} (C : mMC p R s m args c A v RX12 cX12_isLetter 1 0 0) (hret : ∀ (H1 : Heap) (locs1 : List Loc) (ls1 : Array Slot) (pc : Nat), mMW s A v a res.2.1 res.2.2 H1 locs1 → narrow .boolean (.int res.1) = .int res.1 → decode cX12_isLetter pc = .ok (.ireturn, 1) → W p l e R s m args below meth c H1 locs1 0 0 Q (F0 m pc ls1 [.int res.1])) (x0 : Int32) (F : PF) (G : PG) (hm : mb_isLetter_18 fu x0 F G = some res) {H : Heap} {locs : List Loc} (hw : mMW s A v a F G H locs) {ls : Array Slot} (hl : lv_has ls 1 [(0, .int x0)]) : W p l e R s m args below meth c H locs 0 0 Q (F0 m 18 ls []) := by
  have hx := C.1
  have hb := C.2.1
  unfold mb_isLetter_18 at hm
  refine lv_iload_n hx hb dX12_isLetter_18 rfl (lv_at hl 0 rfl) ?_
  refine lv_bipush (v := 90) hx hb dX12_isLetter_19 (by decide) ?_
  refine lv_icmp_le (tgt := 30) hx hb dX12_isLetter_21 (by decide) (fun c_1 => ?_) (fun c_1 => ?_)
  · have hm := (if_pos c_1).symm.trans hm
    exact mw_isLetter_30 fu C hret F G hm hw (lv_sub hl [] rfl)
  · have hm := (if_neg c_1).symm.trans hm
    exact mw_isLetter_24 fu C hret x0 F G hm hw (lv_sub hl [0] rfl)
theorem mw_isLetter_12 (fu : Nat) {res : Int32 × PF × PG} (C : mMC p R s m args c A v RX12 cX12_isLetter 1 0 0) (hret : ∀ (H1 : Heap) (locs1 : List Loc) (ls1 : Array Slot) (pc : Nat), mMW s A v a res.2.1 res.2.2 H1 locs1 → narrow .boolean (.int res.1) = .int res.1 → decode cX12_isLetter pc = .ok (.ireturn, 1) → W p l e R s m args below meth c H1 locs1 0 0 Q (F0 m pc ls1 [.int res.1])) (x0 : Int32) (F : PF) (G : PG) (hm : mb_isLetter_12 fu x0 F G = some res) {H : Heap} {locs : List Loc} (hw : mMW s A v a F G H locs) {ls : Array Slot} (hl : lv_has ls 1 [(0, .int x0)]) : W p l e R s m args below meth c H locs 0 0 Q (F0 m 12 ls []) := by
  have hx := C.1
  have hb := C.2.1
  unfold mb_isLetter_12 at hm
  refine lv_iload_n hx hb dX12_isLetter_12 rfl (lv_at hl 0 rfl) ?_
  refine lv_bipush (v := 65) hx hb dX12_isLetter_13 (by decide) ?_
  refine lv_icmp_lt (tgt := 24) hx hb dX12_isLetter_15 (by decide) (fun c_1 => ?_) (fun c_1 => ?_)
  · have hm := (if_pos c_1).symm.trans hm
    exact mw_isLetter_24 fu C hret x0 F G hm hw (lv_sub hl [0] rfl)
  · have hm := (if_neg c_1).symm.trans hm
    exact mw_isLetter_18 fu C hret x0 F G hm hw (lv_sub hl [0] rfl)
theorem mw_isLetter_6 (fu : Nat) {res : Int32 × PF × PG} (C : mMC p R s m args c A v RX12 cX12_isLetter 1 0 0) (hret : ∀ (H1 : Heap) (locs1 : List Loc) (ls1 : Array Slot) (pc : Nat), mMW s A v a res.2.1 res.2.2 H1 locs1 → narrow .boolean (.int res.1) = .int res.1 → decode cX12_isLetter pc = .ok (.ireturn, 1) → W p l e R s m args below meth c H1 locs1 0 0 Q (F0 m pc ls1 [.int res.1])) (x0 : Int32) (F : PF) (G : PG) (hm : mb_isLetter_6 fu x0 F G = some res) {H : Heap} {locs : List Loc} (hw : mMW s A v a F G H locs) {ls : Array Slot} (hl : lv_has ls 1 [(0, .int x0)]) : W p l e R s m args below meth c H locs 0 0 Q (F0 m 6 ls []) := by
  have hx := C.1
  have hb := C.2.1
  unfold mb_isLetter_6 at hm
  refine lv_iload_n hx hb dX12_isLetter_6 rfl (lv_at hl 0 rfl) ?_
  refine lv_bipush (v := 122) hx hb dX12_isLetter_7 (by decide) ?_
  refine lv_icmp_le (tgt := 30) hx hb dX12_isLetter_9 (by decide) (fun c_1 => ?_) (fun c_1 => ?_)
  · have hm := (if_pos c_1).symm.trans hm
    exact mw_isLetter_30 fu C hret F G hm hw (lv_sub hl [] rfl)
  · have hm := (if_neg c_1).symm.trans hm
    exact mw_isLetter_12 fu C hret x0 F G hm hw (lv_sub hl [0] rfl)
theorem mw_isLetter_0 (fu : Nat) {res : Int32 × PF × PG} (C : mMC p R s m args c A v RX12 cX12_isLetter 1 0 0) (hret : ∀ (H1 : Heap) (locs1 : List Loc) (ls1 : Array Slot) (pc : Nat), mMW s A v a res.2.1 res.2.2 H1 locs1 → narrow .boolean (.int res.1) = .int res.1 → decode cX12_isLetter pc = .ok (.ireturn, 1) → W p l e R s m args below meth c H1 locs1 0 0 Q (F0 m pc ls1 [.int res.1])) (x0 : Int32) (F : PF) (G : PG) (hm : mb_isLetter_0 fu x0 F G = some res) {H : Heap} {locs : List Loc} (hw : mMW s A v a F G H locs) {ls : Array Slot} (hl : lv_has ls 1 [(0, .int x0)]) : W p l e R s m args below meth c H locs 0 0 Q (F0 m 0 ls []) := by
  have hx := C.1
  have hb := C.2.1
  unfold mb_isLetter_0 at hm
  refine lv_iload_n hx hb dX12_isLetter_0 rfl (lv_at hl 0 rfl) ?_
  refine lv_bipush (v := 97) hx hb dX12_isLetter_1 (by decide) ?_
  refine lv_icmp_lt (tgt := 12) hx hb dX12_isLetter_3 (by decide) (fun c_1 => ?_) (fun c_1 => ?_)
  · have hm := (if_pos c_1).symm.trans hm
    exact mw_isLetter_12 fu C hret x0 F G hm hw (lv_sub hl [0] rfl)
  · have hm := (if_neg c_1).symm.trans hm
    exact mw_isLetter_6 fu C hret x0 F G hm hw (lv_sub hl [0] rfl)
theorem mk_isLetter (l : Launch) (v : EV) (a : Nat → Nat) (sz : Nat) (fu : Nat) (x0 : Int32) (F : PF) (G : PG) (r : Int32) (F1 : PF) (G1 : PG) (hm : mf_isLetter fu x0 F G = some (r, F1, G1)) : mMI l yX12_isLetter cX12_isLetter 1 (some .boolean) 0 0 v a sz [.int x0] F G r F1 G1 := mMI.of (ty := .boolean) (by decide) rfl (Nat.le_of_ble_eq_true rfl) (fun p e R s m args below meth c Q A H locs ls C hw hl hret => mw_isLetter_0 fu (res := (r, F1, G1)) C hret x0 F G hm hw hl)
def mb_isDigit_17 (fu : Nat) (z0 : Int32) (F : PF) (G : PG) : PR := if b01 z0 = true then (some (z0, F, G)) else none
def mb_isDigit_16 (fu : Nat) (F : PF) (G : PG) : PR := mb_isDigit_17 fu 0 F G
def mb_isDigit_12 (fu : Nat) (F : PF) (G : PG) : PR := mb_isDigit_17 fu 1 F G
def mb_isDigit_6 (fu : Nat) (x0 : Int32) (F : PF) (G : PG) : PR := if (57 : Int32) < x0 then mb_isDigit_16 fu F G else mb_isDigit_12 fu F G
def mb_isDigit_0 (fu : Nat) (x0 : Int32) (F : PF) (G : PG) : PR := if x0 < (48 : Int32) then mb_isDigit_16 fu F G else mb_isDigit_6 fu x0 F G
def mf_isDigit (fu : Nat) (x0 : Int32) (F : PF) (G : PG) : PR := mb_isDigit_0 fu x0 F G
theorem mw_isDigit_17 (fu : Nat) {res : Int32 × PF × PG} (C : mMC p R s m args c A v RX12 cX12_isDigit 1 0 0) (hret : ∀ (H1 : Heap) (locs1 : List Loc) (ls1 : Array Slot) (pc : Nat), mMW s A v a res.2.1 res.2.2 H1 locs1 → narrow .boolean (.int res.1) = .int res.1 → decode cX12_isDigit pc = .ok (.ireturn, 1) → W p l e R s m args below meth c H1 locs1 0 0 Q (F0 m pc ls1 [.int res.1])) (z0 : Int32) (F : PF) (G : PG) (hm : mb_isDigit_17 fu z0 F G = some res) {H : Heap} {locs : List Loc} (hw : mMW s A v a F G H locs) {ls : Array Slot} (hl : lv_has ls 1 []) : W p l e R s m args below meth c H locs 0 0 Q (F0 m 17 ls [.int z0]) := by
  have hx := C.1
  have hb := C.2.1
  unfold mb_isDigit_17 at hm
  obtain ⟨hz, hm⟩ := b01_elim hm
  obtain rfl := Option.some.inj hm
  exact hret _ _ _ _ hw (b01_nar hz) dX12_isDigit_17
theorem mw_isDigit_16 (fu : Nat) {res : Int32 × PF × PG} (C : mMC p R s m args c A v RX12 cX12_isDigit 1 0 0) (hret : ∀ (H1 : Heap) (locs1 : List Loc) (ls1 : Array Slot) (pc : Nat), mMW s A v a res.2.1 res.2.2 H1 locs1 → narrow .boolean (.int res.1) = .int res.1 → decode cX12_isDigit pc = .ok (.ireturn, 1) → W p l e R s m args below meth c H1 locs1 0 0 Q (F0 m pc ls1 [.int res.1])) (F : PF) (G : PG) (hm : mb_isDigit_16 fu F G = some res) {H : Heap} {locs : List Loc} (hw : mMW s A v a F G H locs) {ls : Array Slot} (hl : lv_has ls 1 []) : W p l e R s m args below meth c H locs 0 0 Q (F0 m 16 ls []) := by
  have hx := C.1
  have hb := C.2.1
  unfold mb_isDigit_16 at hm
  refine lv_iconst (v := 0) hx hb dX12_isDigit_16 (by decide) ?_
  exact mw_isDigit_17 fu C hret 0 F G hm hw (lv_sub hl [] rfl)
theorem mw_isDigit_12 (fu : Nat) {res : Int32 × PF × PG} (C : mMC p R s m args c A v RX12 cX12_isDigit 1 0 0) (hret : ∀ (H1 : Heap) (locs1 : List Loc) (ls1 : Array Slot) (pc : Nat), mMW s A v a res.2.1 res.2.2 H1 locs1 → narrow .boolean (.int res.1) = .int res.1 → decode cX12_isDigit pc = .ok (.ireturn, 1) → W p l e R s m args below meth c H1 locs1 0 0 Q (F0 m pc ls1 [.int res.1])) (F : PF) (G : PG) (hm : mb_isDigit_12 fu F G = some res) {H : Heap} {locs : List Loc} (hw : mMW s A v a F G H locs) {ls : Array Slot} (hl : lv_has ls 1 []) : W p l e R s m args below meth c H locs 0 0 Q (F0 m 12 ls []) := by
  have hx := C.1
  have hb := C.2.1
  unfold mb_isDigit_12 at hm
  refine lv_iconst (v := 1) hx hb dX12_isDigit_12 (by decide) ?_
  refine lv_goto (tgt := 17) hx hb dX12_isDigit_13 (by decide) ?_
  exact mw_isDigit_17 fu C hret 1 F G hm hw (lv_sub hl [] rfl)
theorem mw_isDigit_6 (fu : Nat) {res : Int32 × PF × PG} (C : mMC p R s m args c A v RX12 cX12_isDigit 1 0 0) (hret : ∀ (H1 : Heap) (locs1 : List Loc) (ls1 : Array Slot) (pc : Nat), mMW s A v a res.2.1 res.2.2 H1 locs1 → narrow .boolean (.int res.1) = .int res.1 → decode cX12_isDigit pc = .ok (.ireturn, 1) → W p l e R s m args below meth c H1 locs1 0 0 Q (F0 m pc ls1 [.int res.1])) (x0 : Int32) (F : PF) (G : PG) (hm : mb_isDigit_6 fu x0 F G = some res) {H : Heap} {locs : List Loc} (hw : mMW s A v a F G H locs) {ls : Array Slot} (hl : lv_has ls 1 [(0, .int x0)]) : W p l e R s m args below meth c H locs 0 0 Q (F0 m 6 ls []) := by
  have hx := C.1
  have hb := C.2.1
  unfold mb_isDigit_6 at hm
  refine lv_iload_n hx hb dX12_isDigit_6 rfl (lv_at hl 0 rfl) ?_
  refine lv_bipush (v := 57) hx hb dX12_isDigit_7 (by decide) ?_
  refine lv_icmp_gt (tgt := 16) hx hb dX12_isDigit_9 (by decide) (fun c_1 => ?_) (fun c_1 => ?_)
  · have hm := (if_pos c_1).symm.trans hm
    exact mw_isDigit_16 fu C hret F G hm hw (lv_sub hl [] rfl)
  · have hm := (if_neg c_1).symm.trans hm
    exact mw_isDigit_12 fu C hret F G hm hw (lv_sub hl [] rfl)
theorem mw_isDigit_0 (fu : Nat) {res : Int32 × PF × PG} (C : mMC p R s m args c A v RX12 cX12_isDigit 1 0 0) (hret : ∀ (H1 : Heap) (locs1 : List Loc) (ls1 : Array Slot) (pc : Nat), mMW s A v a res.2.1 res.2.2 H1 locs1 → narrow .boolean (.int res.1) = .int res.1 → decode cX12_isDigit pc = .ok (.ireturn, 1) → W p l e R s m args below meth c H1 locs1 0 0 Q (F0 m pc ls1 [.int res.1])) (x0 : Int32) (F : PF) (G : PG) (hm : mb_isDigit_0 fu x0 F G = some res) {H : Heap} {locs : List Loc} (hw : mMW s A v a F G H locs) {ls : Array Slot} (hl : lv_has ls 1 [(0, .int x0)]) : W p l e R s m args below meth c H locs 0 0 Q (F0 m 0 ls []) := by
  have hx := C.1
  have hb := C.2.1
  unfold mb_isDigit_0 at hm
  refine lv_iload_n hx hb dX12_isDigit_0 rfl (lv_at hl 0 rfl) ?_
  refine lv_bipush (v := 48) hx hb dX12_isDigit_1 (by decide) ?_
  refine lv_icmp_lt (tgt := 16) hx hb dX12_isDigit_3 (by decide) (fun c_1 => ?_) (fun c_1 => ?_)
  · have hm := (if_pos c_1).symm.trans hm
    exact mw_isDigit_16 fu C hret F G hm hw (lv_sub hl [] rfl)
  · have hm := (if_neg c_1).symm.trans hm
    exact mw_isDigit_6 fu C hret x0 F G hm hw (lv_sub hl [0] rfl)
theorem mk_isDigit (l : Launch) (v : EV) (a : Nat → Nat) (sz : Nat) (fu : Nat) (x0 : Int32) (F : PF) (G : PG) (r : Int32) (F1 : PF) (G1 : PG) (hm : mf_isDigit fu x0 F G = some (r, F1, G1)) : mMI l yX12_isDigit cX12_isDigit 1 (some .boolean) 0 0 v a sz [.int x0] F G r F1 G1 := mMI.of (ty := .boolean) (by decide) rfl (Nat.le_of_ble_eq_true rfl) (fun p e R s m args below meth c Q A H locs ls C hw hl hret => mw_isDigit_0 fu (res := (r, F1, G1)) C hret x0 F G hm hw hl)
def mb_isInner_19 (fu : Nat) (z0 : Int32) (F : PF) (G : PG) : PR := if b01 z0 = true then (some (z0, F, G)) else none
def mb_isInner_14 (fu : Nat) (F : PF) (G : PG) : PR := mb_isInner_19 fu 1 F G
def mb_isInner_18 (fu : Nat) (F : PF) (G : PG) : PR := mb_isInner_19 fu 0 F G
def mb_isInner_11 (fu : Nat) (z0 : Int32) (F : PF) (G : PG) : PR := if z0 = (0 : Int32) then mb_isInner_18 fu F G else mb_isInner_14 fu F G
def mb_isInner_7 (fu : Nat) (x0 : Int32) (F : PF) (G : PG) : PR := (mf_isDigit fu x0 F G).bind (fun q => mb_isInner_11 fu q.1 q.2.1 q.2.2)
def mb_isInner_4 (fu : Nat) (x0 : Int32) (z0 : Int32) (F : PF) (G : PG) : PR := if z0 = (0 : Int32) then mb_isInner_7 fu x0 F G else mb_isInner_14 fu F G
def mb_isInner_0 (fu : Nat) (x0 : Int32) (F : PF) (G : PG) : PR := (mf_isLetter fu x0 F G).bind (fun q => mb_isInner_4 fu x0 q.1 q.2.1 q.2.2)
def mf_isInner (fu : Nat) (x0 : Int32) (F : PF) (G : PG) : PR := mb_isInner_0 fu x0 F G
theorem mw_isInner_19 (fu : Nat) {res : Int32 × PF × PG} (C : mMC p R s m args c A v RX12 cX12_isInner 1 1 20) (hret : ∀ (H1 : Heap) (locs1 : List Loc) (ls1 : Array Slot) (pc : Nat), mMW s A v a res.2.1 res.2.2 H1 locs1 → narrow .boolean (.int res.1) = .int res.1 → decode cX12_isInner pc = .ok (.ireturn, 1) → W p l e R s m args below meth c H1 locs1 0 0 Q (F0 m pc ls1 [.int res.1])) (z0 : Int32) (F : PF) (G : PG) (hm : mb_isInner_19 fu z0 F G = some res) {H : Heap} {locs : List Loc} (hw : mMW s A v a F G H locs) {ls : Array Slot} (hl : lv_has ls 1 []) : W p l e R s m args below meth c H locs 0 0 Q (F0 m 19 ls [.int z0]) := by
  have hx := C.1
  have hb := C.2.1
  unfold mb_isInner_19 at hm
  obtain ⟨hz, hm⟩ := b01_elim hm
  obtain rfl := Option.some.inj hm
  exact hret _ _ _ _ hw (b01_nar hz) dX12_isInner_19
theorem mw_isInner_14 (fu : Nat) {res : Int32 × PF × PG} (C : mMC p R s m args c A v RX12 cX12_isInner 1 1 20) (hret : ∀ (H1 : Heap) (locs1 : List Loc) (ls1 : Array Slot) (pc : Nat), mMW s A v a res.2.1 res.2.2 H1 locs1 → narrow .boolean (.int res.1) = .int res.1 → decode cX12_isInner pc = .ok (.ireturn, 1) → W p l e R s m args below meth c H1 locs1 0 0 Q (F0 m pc ls1 [.int res.1])) (F : PF) (G : PG) (hm : mb_isInner_14 fu F G = some res) {H : Heap} {locs : List Loc} (hw : mMW s A v a F G H locs) {ls : Array Slot} (hl : lv_has ls 1 []) : W p l e R s m args below meth c H locs 0 0 Q (F0 m 14 ls []) := by
  have hx := C.1
  have hb := C.2.1
  unfold mb_isInner_14 at hm
  refine lv_iconst (v := 1) hx hb dX12_isInner_14 (by decide) ?_
  refine lv_goto (tgt := 19) hx hb dX12_isInner_15 (by decide) ?_
  exact mw_isInner_19 fu C hret 1 F G hm hw (lv_sub hl [] rfl)
theorem mw_isInner_18 (fu : Nat) {res : Int32 × PF × PG} (C : mMC p R s m args c A v RX12 cX12_isInner 1 1 20) (hret : ∀ (H1 : Heap) (locs1 : List Loc) (ls1 : Array Slot) (pc : Nat), mMW s A v a res.2.1 res.2.2 H1 locs1 → narrow .boolean (.int res.1) = .int res.1 → decode cX12_isInner pc = .ok (.ireturn, 1) → W p l e R s m args below meth c H1 locs1 0 0 Q (F0 m pc ls1 [.int res.1])) (F : PF) (G : PG) (hm : mb_isInner_18 fu F G = some res) {H : Heap} {locs : List Loc} (hw : mMW s A v a F G H locs) {ls : Array Slot} (hl : lv_has ls 1 []) : W p l e R s m args below meth c H locs 0 0 Q (F0 m 18 ls []) := by
  have hx := C.1
  have hb := C.2.1
  unfold mb_isInner_18 at hm
  refine lv_iconst (v := 0) hx hb dX12_isInner_18 (by decide) ?_
  exact mw_isInner_19 fu C hret 0 F G hm hw (lv_sub hl [] rfl)
theorem mw_isInner_11 (fu : Nat) {res : Int32 × PF × PG} (C : mMC p R s m args c A v RX12 cX12_isInner 1 1 20) (hret : ∀ (H1 : Heap) (locs1 : List Loc) (ls1 : Array Slot) (pc : Nat), mMW s A v a res.2.1 res.2.2 H1 locs1 → narrow .boolean (.int res.1) = .int res.1 → decode cX12_isInner pc = .ok (.ireturn, 1) → W p l e R s m args below meth c H1 locs1 0 0 Q (F0 m pc ls1 [.int res.1])) (z0 : Int32) (F : PF) (G : PG) (hm : mb_isInner_11 fu z0 F G = some res) {H : Heap} {locs : List Loc} (hw : mMW s A v a F G H locs) {ls : Array Slot} (hl : lv_has ls 1 []) : W p l e R s m args below meth c H locs 0 0 Q (F0 m 11 ls [.int z0]) := by
  have hx := C.1
  have hb := C.2.1
  unfold mb_isInner_11 at hm
  refine lv_if_eq (tgt := 18) hx hb dX12_isInner_11 (by decide) (fun c_1 => ?_) (fun c_1 => ?_)
  · have hm := (if_pos c_1).symm.trans hm
    exact mw_isInner_18 fu C hret F G hm hw (lv_sub hl [] rfl)
  · have hm := (if_neg c_1).symm.trans hm
    exact mw_isInner_14 fu C hret F G hm hw (lv_sub hl [] rfl)
theorem mw_isInner_7 (fu : Nat) {res : Int32 × PF × PG} (C : mMC p R s m args c A v RX12 cX12_isInner 1 1 20) (hret : ∀ (H1 : Heap) (locs1 : List Loc) (ls1 : Array Slot) (pc : Nat), mMW s A v a res.2.1 res.2.2 H1 locs1 → narrow .boolean (.int res.1) = .int res.1 → decode cX12_isInner pc = .ok (.ireturn, 1) → W p l e R s m args below meth c H1 locs1 0 0 Q (F0 m pc ls1 [.int res.1])) (x0 : Int32) (F : PF) (G : PG) (hm : mb_isInner_7 fu x0 F G = some res) {H : Heap} {locs : List Loc} (hw : mMW s A v a F G H locs) {ls : Array Slot} (hl : lv_has ls 1 [(0, .int x0)]) : W p l e R s m args below meth c H locs 0 0 Q (F0 m 7 ls []) := by
  have hx := C.1
  have hb := C.2.1
  unfold mb_isInner_7 at hm
  refine lv_iload_n hx hb dX12_isInner_7 rfl (lv_at hl 0 rfl) ?_
  obtain ⟨⟨r1, F1, G1⟩, hc, hm⟩ := bind_elim hm
  refine mcallIS (n := 1) (As := [.int x0]) (rest := []) C hw (mk_isDigit l v a _ fu x0 F G r1 F1 G1 hc) mm_56 mm_57 mm_27 mm_58 (by decide +kernel) rfl (by omega) (by omega) hl.1 rfl (Nat.le_of_ble_eq_true rfl) dX12_isInner_8 (fun H locs hw => ?_)
  exact mw_isInner_11 fu C hret r1 F1 G1 hm hw (lv_sub hl [] rfl)
theorem mw_isInner_4 (fu : Nat) {res : Int32 × PF × PG} (C : mMC p R s m args c A v RX12 cX12_isInner 1 1 20) (hret : ∀ (H1 : Heap) (locs1 : List Loc) (ls1 : Array Slot) (pc : Nat), mMW s A v a res.2.1 res.2.2 H1 locs1 → narrow .boolean (.int res.1) = .int res.1 → decode cX12_isInner pc = .ok (.ireturn, 1) → W p l e R s m args below meth c H1 locs1 0 0 Q (F0 m pc ls1 [.int res.1])) (x0 : Int32) (z0 : Int32) (F : PF) (G : PG) (hm : mb_isInner_4 fu x0 z0 F G = some res) {H : Heap} {locs : List Loc} (hw : mMW s A v a F G H locs) {ls : Array Slot} (hl : lv_has ls 1 [(0, .int x0)]) : W p l e R s m args below meth c H locs 0 0 Q (F0 m 4 ls [.int z0]) := by
  have hx := C.1
  have hb := C.2.1
  unfold mb_isInner_4 at hm
  refine lv_if_ne (tgt := 14) hx hb dX12_isInner_4 (by decide) (fun c_1 => ?_) (fun c_1 => ?_)
  · have hm := (if_neg c_1).symm.trans hm
    exact mw_isInner_14 fu C hret F G hm hw (lv_sub hl [] rfl)
  · have hm := (if_pos c_1).symm.trans hm
    exact mw_isInner_7 fu C hret x0 F G hm hw (lv_sub hl [0] rfl)
theorem mw_isInner_0 (fu : Nat) {res : Int32 × PF × PG} (C : mMC p R s m args c A v RX12 cX12_isInner 1 1 20) (hret : ∀ (H1 : Heap) (locs1 : List Loc) (ls1 : Array Slot) (pc : Nat), mMW s A v a res.2.1 res.2.2 H1 locs1 → narrow .boolean (.int res.1) = .int res.1 → decode cX12_isInner pc = .ok (.ireturn, 1) → W p l e R s m args below meth c H1 locs1 0 0 Q (F0 m pc ls1 [.int res.1])) (x0 : Int32) (F : PF) (G : PG) (hm : mb_isInner_0 fu x0 F G = some res) {H : Heap} {locs : List Loc} (hw : mMW s A v a F G H locs) {ls : Array Slot} (hl : lv_has ls 1 [(0, .int x0)]) : W p l e R s m args below meth c H locs 0 0 Q (F0 m 0 ls []) := by
  have hx := C.1
  have hb := C.2.1
  unfold mb_isInner_0 at hm
  refine lv_iload_n hx hb dX12_isInner_0 rfl (lv_at hl 0 rfl) ?_
  obtain ⟨⟨r1, F1, G1⟩, hc, hm⟩ := bind_elim hm
  refine mcallIS (n := 1) (As := [.int x0]) (rest := []) C hw (mk_isLetter l v a _ fu x0 F G r1 F1 G1 hc) mm_46 mm_47 mm_27 mm_48 (by decide +kernel) rfl (by omega) (by omega) hl.1 rfl (Nat.le_of_ble_eq_true rfl) dX12_isInner_1 (fun H locs hw => ?_)
  exact mw_isInner_4 fu C hret x0 r1 F1 G1 hm hw (lv_sub hl [0] rfl)
theorem mk_isInner (l : Launch) (v : EV) (a : Nat → Nat) (sz : Nat) (fu : Nat) (x0 : Int32) (F : PF) (G : PG) (r : Int32) (F1 : PF) (G1 : PG) (hm : mf_isInner fu x0 F G = some (r, F1, G1)) : mMI l yX12_isInner cX12_isInner 1 (some .boolean) 1 20 v a sz [.int x0] F G r F1 G1 := mMI.of (ty := .boolean) (by decide) rfl (Nat.le_of_ble_eq_true rfl) (fun p e R s m args below meth c Q A H locs ls C hw hl hret => mw_isInner_0 fu (res := (r, F1, G1)) C hret x0 F G hm hw hl)
def mb_hex_60 (fu : Nat) (z0 : Int32) (F : PF) (G : PG) : PR := some (z0, F, G)
def mb_hex_58 (fu : Nat) (F : PF) (G : PG) : PR := mb_hex_60 fu 99 F G
def mb_hex_48 (fu : Nat) (x0 : Int32) (F : PF) (G : PG) : PR := mb_hex_60 fu ((x0 - (65 : Int32)) + (10 : Int32)) F G
def mb_hex_42 (fu : Nat) (x0 : Int32) (F : PF) (G : PG) : PR := if (70 : Int32) < x0 then mb_hex_58 fu F G else mb_hex_48 fu x0 F G
def mb_hex_36 (fu : Nat) (x0 : Int32) (F : PF) (G : PG) : PR := if x0 < (65 : Int32) then mb_hex_58 fu F G else mb_hex_42 fu x0 F G
def mb_hex_26 (fu : Nat) (x0 : Int32) (F : PF) (G : PG) : PR := mb_hex_60 fu ((x0 - (97 : Int32)) + (10 : Int32)) F G
def mb_hex_20 (fu : Nat) (x0 : Int32) (F : PF) (G : PG) : PR := if (102 : Int32) < x0 then mb_hex_36 fu x0 F G else mb_hex_26 fu x0 F G
def mb_hex_14 (fu : Nat) (x0 : Int32) (F : PF) (G : PG) : PR := if x0 < (97 : Int32) then mb_hex_36 fu x0 F G else mb_hex_20 fu x0 F G
def mb_hex_7 (fu : Nat) (x0 : Int32) (F : PF) (G : PG) : PR := mb_hex_60 fu (x0 - (48 : Int32)) F G
def mb_hex_4 (fu : Nat) (x0 : Int32) (z0 : Int32) (F : PF) (G : PG) : PR := if z0 = (0 : Int32) then mb_hex_14 fu x0 F G else mb_hex_7 fu x0 F G
def mb_hex_0 (fu : Nat) (x0 : Int32) (F : PF) (G : PG) : PR := (mf_isDigit fu x0 F G).bind (fun q => mb_hex_4 fu x0 q.1 q.2.1 q.2.2)
def mf_hex (fu : Nat) (x0 : Int32) (F : PF) (G : PG) : PR := mb_hex_0 fu x0 F G
theorem mw_hex_60 (fu : Nat) {res : Int32 × PF × PG} (C : mMC p R s m args c A v RX12 cX12_hex 1 1 20) (hret : ∀ (H1 : Heap) (locs1 : List Loc) (ls1 : Array Slot) (pc : Nat), mMW s A v a res.2.1 res.2.2 H1 locs1 → narrow .int (.int res.1) = .int res.1 → decode cX12_hex pc = .ok (.ireturn, 1) → W p l e R s m args below meth c H1 locs1 0 0 Q (F0 m pc ls1 [.int res.1])) (z0 : Int32) (F : PF) (G : PG) (hm : mb_hex_60 fu z0 F G = some res) {H : Heap} {locs : List Loc} (hw : mMW s A v a F G H locs) {ls : Array Slot} (hl : lv_has ls 1 []) : W p l e R s m args below meth c H locs 0 0 Q (F0 m 60 ls [.int z0]) := by
  have hx := C.1
  have hb := C.2.1
  unfold mb_hex_60 at hm
  obtain rfl := Option.some.inj hm
  exact hret _ _ _ _ hw rfl dX12_hex_60
theorem mw_hex_58 (fu : Nat) {res : Int32 × PF × PG} (C : mMC p R s m args c A v RX12 cX12_hex 1 1 20) (hret : ∀ (H1 : Heap) (locs1 : List Loc) (ls1 : Array Slot) (pc : Nat), mMW s A v a res.2.1 res.2.2 H1 locs1 → narrow .int (.int res.1) = .int res.1 → decode cX12_hex pc = .ok (.ireturn, 1) → W p l e R s m args below meth c H1 locs1 0 0 Q (F0 m pc ls1 [.int res.1])) (F : PF) (G : PG) (hm : mb_hex_58 fu F G = some res) {H : Heap} {locs : List Loc} (hw : mMW s A v a F G H locs) {ls : Array Slot} (hl : lv_has ls 1 []) : W p l e R s m args below meth c H locs 0 0 Q (F0 m 58 ls []) := by
  have hx := C.1
  have hb := C.2.1
  unfold mb_hex_58 at hm
  refine lv_bipush (v := 99) hx hb dX12_hex_58 (by decide) ?_
  exact mw_hex_60 fu C hret 99 F G hm hw (lv_sub hl [] rfl)
theorem mw_hex_48 (fu : Nat) {res : Int32 × PF × PG} (C : mMC p R s m args c A v RX12 cX12_hex 1 1 20) (hret : ∀ (H1 : Heap) (locs1 : List Loc) (ls1 : Array Slot) (pc : Nat), mMW s A v a res.2.1 res.2.2 H1 locs1 → narrow .int (.int res.1) = .int res.1 → decode cX12_hex pc = .ok (.ireturn, 1) → W p l e R s m args below meth c H1 locs1 0 0 Q (F0 m pc ls1 [.int res.1])) (x0 : Int32) (F : PF) (G : PG) (hm : mb_hex_48 fu x0 F G = some res) {H : Heap} {locs : List Loc} (hw : mMW s A v a F G H locs) {ls : Array Slot} (hl : lv_has ls 1 [(0, .int x0)]) : W p l e R s m args below meth c H locs 0 0 Q (F0 m 48 ls []) := by
  have hx := C.1
  have hb := C.2.1
  unfold mb_hex_48 at hm
  refine lv_iload_n hx hb dX12_hex_48 rfl (lv_at hl 0 rfl) ?_
  refine lv_bipush (v := 65) hx hb dX12_hex_49 (by decide) ?_
  refine lv_isub hx hb dX12_hex_51 ?_
  refine lv_bipush (v := 10) hx hb dX12_hex_52 (by decide) ?_
  refine lv_iadd hx hb dX12_hex_54 ?_
  refine lv_goto (tgt := 60) hx hb dX12_hex_55 (by decide) ?_
  exact mw_hex_60 fu C hret ((x0 - (65 : Int32)) + (10 : Int32)) F G hm hw (lv_sub hl [] rfl)
theorem mw_hex_42 (fu : Nat) {res : Int32 × PF × PG} (C : mMC p R s m args c A v RX12 cX12_hex 1 1 20) (hret : ∀ (H1 : Heap) (locs1 : List Loc) (ls1 : Array Slot) (pc : Nat), mMW s A v a res.2.1 res.2.2 H1 locs1 → narrow .int (.int res.1) = .int res.1 → decode cX12_hex pc = .ok (.ireturn, 1) → W p l e R s m args below meth c H1 locs1 0 0 Q (F0 m pc ls1 [.int res.1])) (x0 : Int32) (F : PF) (G : PG) (hm : mb_hex_42 fu x0 F G = some res) {H : Heap} {locs : List Loc} (hw : mMW s A v a F G H locs) {ls : Array Slot} (hl : lv_has ls 1 [(0, .int x0)]) : W p l e R s m args below meth c H locs 0 0 Q (F0 m 42 ls []) := by
  have hx := C.1
  have hb := C.2.1
  unfold mb_hex_42 at hm
  refine lv_iload_n hx hb dX12_hex_42 rfl (lv_at hl 0 rfl) ?_
  refine lv_bipush (v := 70) hx hb dX12_hex_43 (by decide) ?_
  refine lv_icmp_gt (tgt := 58) hx hb dX12_hex_45 (by decide) (fun c_1 => ?_) (fun c_1 => ?_)
  · have hm := (if_pos c_1).symm.trans hm
    exact mw_hex_58 fu C hret F G hm hw (lv_sub hl [] rfl)
  · have hm := (if_neg c_1).symm.trans hm
    exact mw_hex_48 fu C hret x0 F G hm hw (lv_sub hl [0] rfl)
theorem mw_hex_36 (fu : Nat) {res : Int32 × PF × PG} (C : mMC p R s m args c A v RX12 cX12_hex 1 1 20) (hret : ∀ (H1 : Heap) (locs1 : List Loc) (ls1 : Array Slot) (pc : Nat), mMW s A v a res.2.1 res.2.2 H1 locs1 → narrow .int (.int res.1) = .int res.1 → decode cX12_hex pc = .ok (.ireturn, 1) → W p l e R s m args below meth c H1 locs1 0 0 Q (F0 m pc ls1 [.int res.1])) (x0 : Int32) (F : PF) (G : PG) (hm : mb_hex_36 fu x0 F G = some res) {H : Heap} {locs : List Loc} (hw : mMW s A v a F G H locs) {ls : Array Slot} (hl : lv_has ls 1 [(0, .int x0)]) : W p l e R s m args below meth c H locs 0 0 Q (F0 m 36 ls []) := by
  have hx := C.1
  have hb := C.2.1
  unfold mb_hex_36 at hm
  refine lv_iload_n hx hb dX12_hex_36 rfl (lv_at hl 0 rfl) ?_
  refine lv_bipush (v := 65) hx hb dX12_hex_37 (by decide) ?_
  refine lv_icmp_lt (tgt := 58) hx hb dX12_hex_39 (by decide) (fun c_1 => ?_) (fun c_1 => ?_)
  · have hm := (if_pos c_1).symm.trans hm
    exact mw_hex_58 fu C hret F G hm hw (lv_sub hl [] rfl)
  · have hm := (if_neg c_1).symm.trans hm
    exact mw_hex_42 fu C hret x0 F G hm hw (lv_sub hl [0] rfl)
theorem mw_hex_26 (fu : Nat) {res : Int32 × PF × PG} (C : mMC p R s m args c A v RX12 cX12_hex 1 1 20) (hret : ∀ (H1 : Heap) (locs1 : List Loc) (ls1 : Array Slot) (pc : Nat), mMW s A v a res.2.1 res.2.2 H1 locs1 → narrow .int (.int res.1) = .int res.1 → decode cX12_hex pc = .ok (.ireturn, 1) → W p l e R s m args below meth c H1 locs1 0 0 Q (F0 m pc ls1 [.int res.1])) (x0 : Int32) (F : PF) (G : PG) (hm : mb_hex_26 fu x0 F G = some res) {H : Heap} {locs : List Loc} (hw : mMW s A v a F G H locs) {ls : Array Slot} (hl : lv_has ls 1 [(0, .int x0)]) : W p l e R s m args below meth c H locs 0 0 Q (F0 m 26 ls []) := by
  have hx := C.1
  have hb := C.2.1
  unfold mb_hex_26 at hm
  refine lv_iload_n hx hb dX12_hex_26 rfl (lv_at hl 0 rfl) ?_
  refine lv_bipush (v := 97) hx hb dX12_hex_27 (by decide) ?_
  refine lv_isub hx hb dX12_hex_29 ?_
  refine lv_bipush (v := 10) hx hb dX12_hex_30 (by decide) ?_
  refine lv_iadd hx hb dX12_hex_32 ?_
  refine lv_goto (tgt := 60) hx hb dX12_hex_33 (by decide) ?_
  exact mw_hex_60 fu C hret ((x0 - (97 : Int32)) + (10 : Int32)) F G hm hw (lv_sub hl [] rfl)
theorem mw_hex_20 (fu : Nat) {res : Int32 × PF × PG} (C : mMC p R s m args c A v RX12 cX12_hex 1 1 20) (hret : ∀ (H1 : Heap) (locs1 : List Loc) (ls1 : Array Slot) (pc : Nat), mMW s A v a res.2.1 res.2.2 H1 locs1 → narrow .int (.int res.1) = .int res.1 → decode cX12_hex pc = .ok (.ireturn, 1) → W p l e R s m args below meth c H1 locs1 0 0 Q (F0 m pc ls1 [.int res.1])) (x0 : Int32) (F : PF) (G : PG) (hm : mb_hex_20 fu x0 F G = some res) {H : Heap} {locs : List Loc} (hw : mMW s A v a F G H locs) {ls : Array Slot} (hl : lv_has ls 1 [(0, .int x0)]) : W p l e R s m args below meth c H locs 0 0 Q (F0 m 20 ls []) := by
  have hx := C.1
  have hb := C.2.1
  unfold mb_hex_20 at hm
  refine lv_iload_n hx hb dX12_hex_20 rfl (lv_at hl 0 rfl) ?_
  refine lv_bipush (v := 102) hx hb dX12_hex_21 (by decide) ?_
  refine lv_icmp_gt (tgt := 36) hx hb dX12_hex_23 (by decide) (fun c_1 => ?_) (fun c_1 => ?_)
  · have hm := (if_pos c_1).symm.trans hm
    exact mw_hex_36 fu C hret x0 F G hm hw (lv_sub hl [0] rfl)
  · have hm := (if_neg c_1).symm.trans hm
    exact mw_hex_26 fu C hret x0 F G hm hw (lv_sub hl [0] rfl)
theorem mw_hex_14 (fu : Nat) {res : Int32 × PF × PG} (C : mMC p R s m args c A v RX12 cX12_hex 1 1 20) (hret : ∀ (H1 : Heap) (locs1 : List Loc) (ls1 : Array Slot) (pc : Nat), mMW s A v a res.2.1 res.2.2 H1 locs1 → narrow .int (.int res.1) = .int res.1 → decode cX12_hex pc = .ok (.ireturn, 1) → W p l e R s m args below meth c H1 locs1 0 0 Q (F0 m pc ls1 [.int res.1])) (x0 : Int32) (F : PF) (G : PG) (hm : mb_hex_14 fu x0 F G = some res) {H : Heap} {locs : List Loc} (hw : mMW s A v a F G H locs) {ls : Array Slot} (hl : lv_has ls 1 [(0, .int x0)]) : W p l e R s m args below meth c H locs 0 0 Q (F0 m 14 ls []) := by
  have hx := C.1
  have hb := C.2.1
  unfold mb_hex_14 at hm
  refine lv_iload_n hx hb dX12_hex_14 rfl (lv_at hl 0 rfl) ?_
  refine lv_bipush (v := 97) hx hb dX12_hex_15 (by decide) ?_
  refine lv_icmp_lt (tgt := 36) hx hb dX12_hex_17 (by decide) (fun c_1 => ?_) (fun c_1 => ?_)
  · have hm := (if_pos c_1).symm.trans hm
    exact mw_hex_36 fu C hret x0 F G hm hw (lv_sub hl [0] rfl)
  · have hm := (if_neg c_1).symm.trans hm
    exact mw_hex_20 fu C hret x0 F G hm hw (lv_sub hl [0] rfl)
theorem mw_hex_7 (fu : Nat) {res : Int32 × PF × PG} (C : mMC p R s m args c A v RX12 cX12_hex 1 1 20) (hret : ∀ (H1 : Heap) (locs1 : List Loc) (ls1 : Array Slot) (pc : Nat), mMW s A v a res.2.1 res.2.2 H1 locs1 → narrow .int (.int res.1) = .int res.1 → decode cX12_hex pc = .ok (.ireturn, 1) → W p l e R s m args below meth c H1 locs1 0 0 Q (F0 m pc ls1 [.int res.1])) (x0 : Int32) (F : PF) (G : PG) (hm : mb_hex_7 fu x0 F G = some res) {H : Heap} {locs : List Loc} (hw : mMW s A v a F G H locs) {ls : Array Slot} (hl : lv_has ls 1 [(0, .int x0)]) : W p l e R s m args below meth c H locs 0 0 Q (F0 m 7 ls []) := by
  have hx := C.1
  have hb := C.2.1
  unfold mb_hex_7 at hm
  refine lv_iload_n hx hb dX12_hex_7 rfl (lv_at hl 0 rfl) ?_
  refine lv_bipush (v := 48) hx hb dX12_hex_8 (by decide) ?_
  refine lv_isub hx hb dX12_hex_10 ?_
  refine lv_goto (tgt := 60) hx hb dX12_hex_11 (by decide) ?_
  exact mw_hex_60 fu C hret (x0 - (48 : Int32)) F G hm hw (lv_sub hl [] rfl)
theorem mw_hex_4 (fu : Nat) {res : Int32 × PF × PG} (C : mMC p R s m args c A v RX12 cX12_hex 1 1 20) (hret : ∀ (H1 : Heap) (locs1 : List Loc) (ls1 : Array Slot) (pc : Nat), mMW s A v a res.2.1 res.2.2 H1 locs1 → narrow .int (.int res.1) = .int res.1 → decode cX12_hex pc = .ok (.ireturn, 1) → W p l e R s m args below meth c H1 locs1 0 0 Q (F0 m pc ls1 [.int res.1])) (x0 : Int32) (z0 : Int32) (F : PF) (G : PG) (hm : mb_hex_4 fu x0 z0 F G = some res) {H : Heap} {locs : List Loc} (hw : mMW s A v a F G H locs) {ls : Array Slot} (hl : lv_has ls 1 [(0, .int x0)]) : W p l e R s m args below meth c H locs 0 0 Q (F0 m 4 ls [.int z0]) := by
  have hx := C.1
  have hb := C.2.1
  unfold mb_hex_4 at hm
  refine lv_if_eq (tgt := 14) hx hb dX12_hex_4 (by decide) (fun c_1 => ?_) (fun c_1 => ?_)
  · have hm := (if_pos c_1).symm.trans hm
    exact mw_hex_14 fu C hret x0 F G hm hw (lv_sub hl [0] rfl)
  · have hm := (if_neg c_1).symm.trans hm
    exact mw_hex_7 fu C hret x0 F G hm hw (lv_sub hl [0] rfl)
theorem mw_hex_0 (fu : Nat) {res : Int32 × PF × PG} (C : mMC p R s m args c A v RX12 cX12_hex 1 1 20) (hret : ∀ (H1 : Heap) (locs1 : List Loc) (ls1 : Array Slot) (pc : Nat), mMW s A v a res.2.1 res.2.2 H1 locs1 → narrow .int (.int res.1) = .int res.1 → decode cX12_hex pc = .ok (.ireturn, 1) → W p l e R s m args below meth c H1 locs1 0 0 Q (F0 m pc ls1 [.int res.1])) (x0 : Int32) (F : PF) (G : PG) (hm : mb_hex_0 fu x0 F G = some res) {H : Heap} {locs : List Loc} (hw : mMW s A v a F G H locs) {ls : Array Slot} (hl : lv_has ls 1 [(0, .int x0)]) : W p l e R s m args below meth c H locs 0 0 Q (F0 m 0 ls []) := by
  have hx := C.1
  have hb := C.2.1
  unfold mb_hex_0 at hm
  refine lv_iload_n hx hb dX12_hex_0 rfl (lv_at hl 0 rfl) ?_
  obtain ⟨⟨r1, F1, G1⟩, hc, hm⟩ := bind_elim hm
  refine mcallIS (n := 1) (As := [.int x0]) (rest := []) C hw (mk_isDigit l v a _ fu x0 F G r1 F1 G1 hc) mm_56 mm_57 mm_27 mm_58 (by decide +kernel) rfl (by omega) (by omega) hl.1 rfl (Nat.le_of_ble_eq_true rfl) dX12_hex_1 (fun H locs hw => ?_)
  exact mw_hex_4 fu C hret x0 r1 F1 G1 hm hw (lv_sub hl [0] rfl)
theorem mk_hex (l : Launch) (v : EV) (a : Nat → Nat) (sz : Nat) (fu : Nat) (x0 : Int32) (F : PF) (G : PG) (r : Int32) (F1 : PF) (G1 : PG) (hm : mf_hex fu x0 F G = some (r, F1, G1)) : mMI l yX12_hex cX12_hex 1 (some .int) 1 20 v a sz [.int x0] F G r F1 G1 := mMI.of (ty := .int) (by decide) rfl (Nat.le_of_ble_eq_true rfl) (fun p e R s m args below meth c Q A H locs ls C hw hl hret => mw_hex_0 fu (res := (r, F1, G1)) C hret x0 F G hm hw hl)
def mb_placeIn_113 (fu : Nat) (F : PF) (G : PG) : PR := some ((-1), F, G)
def mb_placeIn_104 (fu : Nat) (ag_6 : Nat → Int32 → Int32 → Int32 → Int32 → PF → PG → PR) (x1 : Nat) (x2 : Int32) (x3 : Int32) (x4 : Int32) (x5 : Int32) (F : PF) (G : PG) : PR := ag_6 x1 x2 x3 (x4 + 1) (x5 + 1) F G
def mb_placeIn_98 (fu : Nat) (ag_6 : Nat → Int32 → Int32 → Int32 → Int32 → PF → PG → PR) (ag_87 : Nat → Int32 → Int32 → Int32 → Int32 → PF → PG → PR) (x1 : Nat) (x2 : Int32) (x3 : Int32) (x4 : Int32) (x5 : Int32) (F : PF) (G : PG) : PR := ag_87 x1 x2 x3 (x4 + 1) x5 F G
def mb_placeIn_93 (fu : Nat) (ag_6 : Nat → Int32 → Int32 → Int32 → Int32 → PF → PG → PR) (ag_87 : Nat → Int32 → Int32 → Int32 → Int32 → PF → PG → PR) (x1 : Nat) (x2 : Int32) (x3 : Int32) (x4 : Int32) (x5 : Int32) (z0 : Int32) (F : PF) (G : PG) : PR := if z0 = (32 : Int32) then mb_placeIn_104 fu ag_6 x1 x2 x3 x4 x5 F G else mb_placeIn_98 fu ag_6 ag_87 x1 x2 x3 x4 x5 F G
def mb_placeIn_87 (fu : Nat) (ag_6 : Nat → Int32 → Int32 → Int32 → Int32 → PF → PG → PR) (ag_87 : Nat → Int32 → Int32 → Int32 → Int32 → PF → PG → PR) (x1 : Nat) (x2 : Int32) (x3 : Int32) (x4 : Int32) (x5 : Int32) (F : PF) (G : PG) : PR := (mf_J0_charAt_5068e fu x1 x4 F G).bind (fun q => mb_placeIn_93 fu ag_6 ag_87 x1 x2 x3 x4 x5 q.1 q.2.1 q.2.2)
def ml_placeIn_87 (fu : Nat) (ag_6 : Nat → Int32 → Int32 → Int32 → Int32 → PF → PG → PR) : Nat → Nat → Int32 → Int32 → Int32 → Int32 → PF → PG → PR
  | 0 => fun _ _ _ _ _ _ _ => none
  | n + 1 => fun x1 x2 x3 x4 x5 F G => mb_placeIn_87 fu ag_6 (ml_placeIn_87 fu ag_6 n) x1 x2 x3 x4 x5 F G
def mb_placeIn_84 (fu : Nat) (x5 : Int32) (F : PF) (G : PG) : PR := some (x5, F, G)
def mb_placeIn_79 (fu : Nat) (ag_6 : Nat → Int32 → Int32 → Int32 → Int32 → PF → PG → PR) (x1 : Nat) (x2 : Int32) (x3 : Int32) (x4 : Int32) (x5 : Int32) (z0 : Int32) (F : PF) (G : PG) : PR := if z0 = (32 : Int32) then mb_placeIn_84 fu x5 F G else ml_placeIn_87 fu ag_6 fu x1 x2 x3 x4 x5 F G
def mb_placeIn_70 (fu : Nat) (ag_6 : Nat → Int32 → Int32 → Int32 → Int32 → PF → PG → PR) (x1 : Nat) (x2 : Int32) (x3 : Int32) (x4 : Int32) (x5 : Int32) (x6 : Int32) (F : PF) (G : PG) : PR := (mf_J0_charAt_5068e fu x1 (x4 + x6) F G).bind (fun q => mb_placeIn_79 fu ag_6 x1 x2 x3 x4 x5 q.1 q.2.1 q.2.2)
def mb_placeIn_64 (fu : Nat) (ag_6 : Nat → Int32 → Int32 → Int32 → Int32 → PF → PG → PR) (x1 : Nat) (x2 : Int32) (x3 : Int32) (x4 : Int32) (x5 : Int32) (x6 : Int32) (F : PF) (G : PG) : PR := if x6 = x3 then mb_placeIn_70 fu ag_6 x1 x2 x3 x4 x5 x6 F G else ml_placeIn_87 fu ag_6 fu x1 x2 x3 x4 x5 F G
def mb_placeIn_58 (fu : Nat) (ag_6 : Nat → Int32 → Int32 → Int32 → Int32 → PF → PG → PR) (ag_18 : Nat → Int32 → Int32 → Int32 → Int32 → Int32 → PF → PG → PR) (x1 : Nat) (x2 : Int32) (x3 : Int32) (x4 : Int32) (x5 : Int32) (x6 : Int32) (F : PF) (G : PG) : PR := ag_18 x1 x2 x3 x4 x5 (x6 + 1) F G
def mb_placeIn_55 (fu : Nat) (ag_6 : Nat → Int32 → Int32 → Int32 → Int32 → PF → PG → PR) (ag_18 : Nat → Int32 → Int32 → Int32 → Int32 → Int32 → PF → PG → PR) (x1 : Nat) (x2 : Int32) (x3 : Int32) (x4 : Int32) (x5 : Int32) (x6 : Int32) (z0 : Int32) (z1 : Int32) (F : PF) (G : PG) : PR := if z1 = z0 then mb_placeIn_58 fu ag_6 ag_18 x1 x2 x3 x4 x5 x6 F G else mb_placeIn_64 fu ag_6 x1 x2 x3 x4 x5 x6 F G
def mb_placeIn_47 (fu : Nat) (ag_6 : Nat → Int32 → Int32 → Int32 → Int32 → PF → PG → PR) (ag_18 : Nat → Int32 → Int32 → Int32 → Int32 → Int32 → PF → PG → PR) (x1 : Nat) (x2 : Int32) (x3 : Int32) (x4 : Int32) (x5 : Int32) (x6 : Int32) (z0 : Int32) (F : PF) (G : PG) : PR := (mf_at fu (x2 + x6) F G).bind (fun q => mb_placeIn_55 fu ag_6 ag_18 x1 x2 x3 x4 x5 x6 q.1 z0 q.2.1 q.2.2)
def mb_placeIn_38 (fu : Nat) (ag_6 : Nat → Int32 → Int32 → Int32 → Int32 → PF → PG → PR) (ag_18 : Nat → Int32 → Int32 → Int32 → Int32 → Int32 → PF → PG → PR) (x1 : Nat) (x2 : Int32) (x3 : Int32) (x4 : Int32) (x5 : Int32) (x6 : Int32) (F : PF) (G : PG) : PR := (mf_J0_charAt_5068e fu x1 (x4 + x6) F G).bind (fun q => mb_placeIn_47 fu ag_6 ag_18 x1 x2 x3 x4 x5 x6 q.1 q.2.1 q.2.2)
def mb_placeIn_32 (fu : Nat) (ag_6 : Nat → Int32 → Int32 → Int32 → Int32 → PF → PG → PR) (ag_18 : Nat → Int32 → Int32 → Int32 → Int32 → Int32 → PF → PG → PR) (x1 : Nat) (x2 : Int32) (x3 : Int32) (x4 : Int32) (x5 : Int32) (x6 : Int32) (F : PF) (G : PG) : PR := if x3 ≤ x6 then mb_placeIn_64 fu ag_6 x1 x2 x3 x4 x5 x6 F G else mb_placeIn_38 fu ag_6 ag_18 x1 x2 x3 x4 x5 x6 F G
def mb_placeIn_27 (fu : Nat) (ag_6 : Nat → Int32 → Int32 → Int32 → Int32 → PF → PG → PR) (ag_18 : Nat → Int32 → Int32 → Int32 → Int32 → Int32 → PF → PG → PR) (x1 : Nat) (x2 : Int32) (x3 : Int32) (x4 : Int32) (x5 : Int32) (x6 : Int32) (z0 : Int32) (F : PF) (G : PG) : PR := if z0 = (32 : Int32) then mb_placeIn_64 fu ag_6 x1 x2 x3 x4 x5 x6 F G else mb_placeIn_32 fu ag_6 ag_18 x1 x2 x3 x4 x5 x6 F G
def mb_placeIn_18 (fu : Nat) (ag_6 : Nat → Int32 → Int32 → Int32 → Int32 → PF → PG → PR) (ag_18 : Nat → Int32 → Int32 → Int32 → Int32 → Int32 → PF → PG → PR) (x1 : Nat) (x2 : Int32) (x3 : Int32) (x4 : Int32) (x5 : Int32) (x6 : Int32) (F : PF) (G : PG) : PR := (mf_J0_charAt_5068e fu x1 (x4 + x6) F G).bind (fun q => mb_placeIn_27 fu ag_6 ag_18 x1 x2 x3 x4 x5 x6 q.1 q.2.1 q.2.2)
def ml_placeIn_18 (fu : Nat) (ag_6 : Nat → Int32 → Int32 → Int32 → Int32 → PF → PG → PR) : Nat → Nat → Int32 → Int32 → Int32 → Int32 → Int32 → PF → PG → PR
  | 0 => fun _ _ _ _ _ _ _ _ => none
  | n + 1 => fun x1 x2 x3 x4 x5 x6 F G => mb_placeIn_18 fu ag_6 (ml_placeIn_18 fu ag_6 n) x1 x2 x3 x4 x5 x6 F G
def mb_placeIn_15 (fu : Nat) (ag_6 : Nat → Int32 → Int32 → Int32 → Int32 → PF → PG → PR) (x1 : Nat) (x2 : Int32) (x3 : Int32) (x4 : Int32) (x5 : Int32) (F : PF) (G : PG) : PR := ml_placeIn_18 fu ag_6 fu x1 x2 x3 x4 x5 0 F G
def mb_placeIn_12 (fu : Nat) (ag_6 : Nat → Int32 → Int32 → Int32 → Int32 → PF → PG → PR) (x1 : Nat) (x2 : Int32) (x3 : Int32) (x4 : Int32) (x5 : Int32) (z0 : Int32) (z1 : Int32) (F : PF) (G : PG) : PR := if z0 ≤ z1 then mb_placeIn_113 fu F G else mb_placeIn_15 fu ag_6 x1 x2 x3 x4 x5 F G
def mb_placeIn_6 (fu : Nat) (ag_6 : Nat → Int32 → Int32 → Int32 → Int32 → PF → PG → PR) (x1 : Nat) (x2 : Int32) (x3 : Int32) (x4 : Int32) (x5 : Int32) (F : PF) (G : PG) : PR := (mf_J0_length_8abf5 fu x1 F G).bind (fun q => mb_placeIn_12 fu ag_6 x1 x2 x3 x4 x5 q.1 x4 q.2.1 q.2.2)
def ml_placeIn_6 (fu : Nat) : Nat → Nat → Int32 → Int32 → Int32 → Int32 → PF → PG → PR
  | 0 => fun _ _ _ _ _ _ _ => none
  | n + 1 => fun x1 x2 x3 x4 x5 F G => mb_placeIn_6 fu (ml_placeIn_6 fu n) x1 x2 x3 x4 x5 F G
def mb_placeIn_0 (fu : Nat) (x1 : Nat) (x2 : Int32) (x3 : Int32) (F : PF) (G : PG) : PR := ml_placeIn_6 fu fu x1 x2 x3 1 0 F G
def mf_placeIn (fu : Nat) (x1 : Nat) (x2 : Int32) (x3 : Int32) (F : PF) (G : PG) : PR := mb_placeIn_0 fu x1 x2 x3 F G
theorem mw_placeIn_113 (fu : Nat) {res : Int32 × PF × PG} (C : mMC p R s m args c A v RX12 cX12_placeIn 7 4 85) (hret : ∀ (H1 : Heap) (locs1 : List Loc) (ls1 : Array Slot) (pc : Nat), mMW s A v a res.2.1 res.2.2 H1 locs1 → narrow .int (.int res.1) = .int res.1 → decode cX12_placeIn pc = .ok (.ireturn, 1) → W p l e R s m args below meth c H1 locs1 0 0 Q (F0 m pc ls1 [.int res.1])) (F : PF) (G : PG) (hm : mb_placeIn_113 fu F G = some res) {H : Heap} {locs : List Loc} (hw : mMW s A v a F G H locs) {ls : Array Slot} (hl : lv_has ls 7 []) : W p l e R s m args below meth c H locs 0 0 Q (F0 m 113 ls []) := by
  have hx := C.1
  have hb := C.2.1
  unfold mb_placeIn_113 at hm
  refine lv_iconst (v := (-1)) hx hb dX12_placeIn_113 (by decide) ?_
  obtain rfl := Option.some.inj hm
  exact hret _ _ _ _ hw rfl dX12_placeIn_114
theorem mw_placeIn_104 (fu : Nat) {res : Int32 × PF × PG} (C : mMC p R s m args c A v RX12 cX12_placeIn 7 4 85) (hret : ∀ (H1 : Heap) (locs1 : List Loc) (ls1 : Array Slot) (pc : Nat), mMW s A v a res.2.1 res.2.2 H1 locs1 → narrow .int (.int res.1) = .int res.1 → decode cX12_placeIn pc = .ok (.ireturn, 1) → W p l e R s m args below meth c H1 locs1 0 0 Q (F0 m pc ls1 [.int res.1])) (ag_6 : Nat → Int32 → Int32 → Int32 → Int32 → PF → PG → PR) (hag_6 : ∀ (x1 : Nat) (x2 : Int32) (x3 : Int32) (x4 : Int32) (x5 : Int32) (F : PF) (G : PG), ag_6 x1 x2 x3 x4 x5 F G = some res → ∀ (H : Heap) (locs : List Loc) (ls : Array Slot), mMW s A v a F G H locs → lv_has ls 7 [(0, .ref (a 212)), (1, .ref (eK v x1)), (2, .int x2), (3, .int x3), (4, .int x4), (5, .int x5)] → W p l e R s m args below meth c H locs 0 0 Q (F0 m 6 ls [])) (x1 : Nat) (x2 : Int32) (x3 : Int32) (x4 : Int32) (x5 : Int32) (F : PF) (G : PG) (hm : mb_placeIn_104 fu ag_6 x1 x2 x3 x4 x5 F G = some res) {H : Heap} {locs : List Loc} (hw : mMW s A v a F G H locs) {ls : Array Slot} (hl : lv_has ls 7 [(0, .ref (a 212)), (1, .ref (eK v x1)), (2, .int x2), (3, .int x3), (4, .int x4), (5, .int x5)]) : W p l e R s m args below meth c H locs 0 0 Q (F0 m 104 ls []) := by
  have hx := C.1
  have hb := C.2.1
  unfold mb_placeIn_104 at hm
  refine lv_iinc (v := (x4 + 1)) (lv' := [(4, .int (x4 + 1)), (0, .ref (a 212)), (1, .ref (eK v x1)), (2, .int x2), (3, .int x3), (5, .int x5)]) hx hb dX12_placeIn_104 hl (k := 4) rfl (by rfl) (by decide) rfl (fun ls hl => ?_)
  refine lv_iinc (v := (x5 + 1)) (lv' := [(5, .int (x5 + 1)), (4, .int (x4 + 1)), (0, .ref (a 212)), (1, .ref (eK v x1)), (2, .int x2), (3, .int x3)]) hx hb dX12_placeIn_107 hl (k := 5) rfl (by rfl) (by decide) rfl (fun ls hl => ?_)
  refine lv_goto (tgt := 6) hx hb dX12_placeIn_110 (by decide) ?_
  exact hag_6 x1 x2 x3 (x4 + 1) (x5 + 1) F G hm _ _ _ hw (lv_sub hl [2, 3, 4, 5, 1, 0] rfl)
theorem mw_placeIn_98 (fu : Nat) {res : Int32 × PF × PG} (C : mMC p R s m args c A v RX12 cX12_placeIn 7 4 85) (hret : ∀ (H1 : Heap) (locs1 : List Loc) (ls1 : Array Slot) (pc : Nat), mMW s A v a res.2.1 res.2.2 H1 locs1 → narrow .int (.int res.1) = .int res.1 → decode cX12_placeIn pc = .ok (.ireturn, 1) → W p l e R s m args below meth c H1 locs1 0 0 Q (F0 m pc ls1 [.int res.1])) (ag_6 : Nat → Int32 → Int32 → Int32 → Int32 → PF → PG → PR) (hag_6 : ∀ (x1 : Nat) (x2 : Int32) (x3 : Int32) (x4 : Int32) (x5 : Int32) (F : PF) (G : PG), ag_6 x1 x2 x3 x4 x5 F G = some res → ∀ (H : Heap) (locs : List Loc) (ls : Array Slot), mMW s A v a F G H locs → lv_has ls 7 [(0, .ref (a 212)), (1, .ref (eK v x1)), (2, .int x2), (3, .int x3), (4, .int x4), (5, .int x5)] → W p l e R s m args below meth c H locs 0 0 Q (F0 m 6 ls [])) (ag_87 : Nat → Int32 → Int32 → Int32 → Int32 → PF → PG → PR) (hag_87 : ∀ (x1 : Nat) (x2 : Int32) (x3 : Int32) (x4 : Int32) (x5 : Int32) (F : PF) (G : PG), ag_87 x1 x2 x3 x4 x5 F G = some res → ∀ (H : Heap) (locs : List Loc) (ls : Array Slot), mMW s A v a F G H locs → lv_has ls 7 [(0, .ref (a 212)), (1, .ref (eK v x1)), (2, .int x2), (3, .int x3), (4, .int x4), (5, .int x5)] → W p l e R s m args below meth c H locs 0 0 Q (F0 m 87 ls [])) (x1 : Nat) (x2 : Int32) (x3 : Int32) (x4 : Int32) (x5 : Int32) (F : PF) (G : PG) (hm : mb_placeIn_98 fu ag_6 ag_87 x1 x2 x3 x4 x5 F G = some res) {H : Heap} {locs : List Loc} (hw : mMW s A v a F G H locs) {ls : Array Slot} (hl : lv_has ls 7 [(0, .ref (a 212)), (1, .ref (eK v x1)), (2, .int x2), (3, .int x3), (4, .int x4), (5, .int x5)]) : W p l e R s m args below meth c H locs 0 0 Q (F0 m 98 ls []) := by
  have hx := C.1
  have hb := C.2.1
  unfold mb_placeIn_98 at hm
  refine lv_iinc (v := (x4 + 1)) (lv' := [(4, .int (x4 + 1)), (0, .ref (a 212)), (1, .ref (eK v x1)), (2, .int x2), (3, .int x3), (5, .int x5)]) hx hb dX12_placeIn_98 hl (k := 4) rfl (by rfl) (by decide) rfl (fun ls hl => ?_)
  refine lv_goto (tgt := 87) hx hb dX12_placeIn_101 (by decide) ?_
  exact hag_87 x1 x2 x3 (x4 + 1) x5 F G hm _ _ _ hw (lv_sub hl [1, 2, 3, 4, 0, 5] rfl)
theorem mw_placeIn_93 (fu : Nat) {res : Int32 × PF × PG} (C : mMC p R s m args c A v RX12 cX12_placeIn 7 4 85) (hret : ∀ (H1 : Heap) (locs1 : List Loc) (ls1 : Array Slot) (pc : Nat), mMW s A v a res.2.1 res.2.2 H1 locs1 → narrow .int (.int res.1) = .int res.1 → decode cX12_placeIn pc = .ok (.ireturn, 1) → W p l e R s m args below meth c H1 locs1 0 0 Q (F0 m pc ls1 [.int res.1])) (ag_6 : Nat → Int32 → Int32 → Int32 → Int32 → PF → PG → PR) (hag_6 : ∀ (x1 : Nat) (x2 : Int32) (x3 : Int32) (x4 : Int32) (x5 : Int32) (F : PF) (G : PG), ag_6 x1 x2 x3 x4 x5 F G = some res → ∀ (H : Heap) (locs : List Loc) (ls : Array Slot), mMW s A v a F G H locs → lv_has ls 7 [(0, .ref (a 212)), (1, .ref (eK v x1)), (2, .int x2), (3, .int x3), (4, .int x4), (5, .int x5)] → W p l e R s m args below meth c H locs 0 0 Q (F0 m 6 ls [])) (ag_87 : Nat → Int32 → Int32 → Int32 → Int32 → PF → PG → PR) (hag_87 : ∀ (x1 : Nat) (x2 : Int32) (x3 : Int32) (x4 : Int32) (x5 : Int32) (F : PF) (G : PG), ag_87 x1 x2 x3 x4 x5 F G = some res → ∀ (H : Heap) (locs : List Loc) (ls : Array Slot), mMW s A v a F G H locs → lv_has ls 7 [(0, .ref (a 212)), (1, .ref (eK v x1)), (2, .int x2), (3, .int x3), (4, .int x4), (5, .int x5)] → W p l e R s m args below meth c H locs 0 0 Q (F0 m 87 ls [])) (x1 : Nat) (x2 : Int32) (x3 : Int32) (x4 : Int32) (x5 : Int32) (z0 : Int32) (F : PF) (G : PG) (hm : mb_placeIn_93 fu ag_6 ag_87 x1 x2 x3 x4 x5 z0 F G = some res) {H : Heap} {locs : List Loc} (hw : mMW s A v a F G H locs) {ls : Array Slot} (hl : lv_has ls 7 [(0, .ref (a 212)), (1, .ref (eK v x1)), (2, .int x2), (3, .int x3), (4, .int x4), (5, .int x5)]) : W p l e R s m args below meth c H locs 0 0 Q (F0 m 93 ls [.int z0]) := by
  have hx := C.1
  have hb := C.2.1
  unfold mb_placeIn_93 at hm
  refine lv_bipush (v := 32) hx hb dX12_placeIn_93 (by decide) ?_
  refine lv_icmp_eq (tgt := 104) hx hb dX12_placeIn_95 (by decide) (fun c_1 => ?_) (fun c_1 => ?_)
  · have hm := (if_pos c_1).symm.trans hm
    exact mw_placeIn_104 fu C hret ag_6 hag_6 x1 x2 x3 x4 x5 F G hm hw (lv_sub hl [0, 1, 2, 3, 4, 5] rfl)
  · have hm := (if_neg c_1).symm.trans hm
    exact mw_placeIn_98 fu C hret ag_6 hag_6 ag_87 hag_87 x1 x2 x3 x4 x5 F G hm hw (lv_sub hl [0, 1, 2, 3, 4, 5] rfl)
theorem mw_placeIn_87 (fu : Nat) {res : Int32 × PF × PG} (C : mMC p R s m args c A v RX12 cX12_placeIn 7 4 85) (hret : ∀ (H1 : Heap) (locs1 : List Loc) (ls1 : Array Slot) (pc : Nat), mMW s A v a res.2.1 res.2.2 H1 locs1 → narrow .int (.int res.1) = .int res.1 → decode cX12_placeIn pc = .ok (.ireturn, 1) → W p l e R s m args below meth c H1 locs1 0 0 Q (F0 m pc ls1 [.int res.1])) (ag_6 : Nat → Int32 → Int32 → Int32 → Int32 → PF → PG → PR) (hag_6 : ∀ (x1 : Nat) (x2 : Int32) (x3 : Int32) (x4 : Int32) (x5 : Int32) (F : PF) (G : PG), ag_6 x1 x2 x3 x4 x5 F G = some res → ∀ (H : Heap) (locs : List Loc) (ls : Array Slot), mMW s A v a F G H locs → lv_has ls 7 [(0, .ref (a 212)), (1, .ref (eK v x1)), (2, .int x2), (3, .int x3), (4, .int x4), (5, .int x5)] → W p l e R s m args below meth c H locs 0 0 Q (F0 m 6 ls [])) (ag_87 : Nat → Int32 → Int32 → Int32 → Int32 → PF → PG → PR) (hag_87 : ∀ (x1 : Nat) (x2 : Int32) (x3 : Int32) (x4 : Int32) (x5 : Int32) (F : PF) (G : PG), ag_87 x1 x2 x3 x4 x5 F G = some res → ∀ (H : Heap) (locs : List Loc) (ls : Array Slot), mMW s A v a F G H locs → lv_has ls 7 [(0, .ref (a 212)), (1, .ref (eK v x1)), (2, .int x2), (3, .int x3), (4, .int x4), (5, .int x5)] → W p l e R s m args below meth c H locs 0 0 Q (F0 m 87 ls [])) (x1 : Nat) (x2 : Int32) (x3 : Int32) (x4 : Int32) (x5 : Int32) (F : PF) (G : PG) (hm : mb_placeIn_87 fu ag_6 ag_87 x1 x2 x3 x4 x5 F G = some res) {H : Heap} {locs : List Loc} (hw : mMW s A v a F G H locs) {ls : Array Slot} (hl : lv_has ls 7 [(0, .ref (a 212)), (1, .ref (eK v x1)), (2, .int x2), (3, .int x3), (4, .int x4), (5, .int x5)]) : W p l e R s m args below meth c H locs 0 0 Q (F0 m 87 ls []) := by
  have hx := C.1
  have hb := C.2.1
  unfold mb_placeIn_87 at hm
  refine lv_aload_n hx hb dX12_placeIn_87 rfl (lv_at hl 1 rfl) ?_
  refine lv_iload hx hb dX12_placeIn_88 (lv_at hl 4 rfl) ?_
  obtain ⟨⟨r1, F1, G1⟩, hc, hm⟩ := bind_elim hm
  refine mcallI (n := 1) (As := [.int x4]) (rest := []) C hw (mk_J0_charAt_5068e l v a _ fu x1 x4 F G r1 F1 G1 hc) (vk_recv C.2.2.2.2.2.2.2.2.2.2.2.1 (mlt_J0_charAt_5068e hc) hw.2.2) mm_75 mm_76 mm_77 mm_66 mm_78 (by decide +kernel) rfl (by omega) (by omega) hl.1 rfl (Nat.le_of_ble_eq_true rfl) dX12_placeIn_90 (fun H locs hw => ?_)
  exact mw_placeIn_93 fu C hret ag_6 hag_6 ag_87 hag_87 x1 x2 x3 x4 x5 r1 F1 G1 hm hw (lv_sub hl [0, 1, 2, 3, 4, 5] rfl)
theorem mwl_placeIn_87 (fu : Nat) {res : Int32 × PF × PG} (C : mMC p R s m args c A v RX12 cX12_placeIn 7 4 85) (hret : ∀ (H1 : Heap) (locs1 : List Loc) (ls1 : Array Slot) (pc : Nat), mMW s A v a res.2.1 res.2.2 H1 locs1 → narrow .int (.int res.1) = .int res.1 → decode cX12_placeIn pc = .ok (.ireturn, 1) → W p l e R s m args below meth c H1 locs1 0 0 Q (F0 m pc ls1 [.int res.1])) (ag_6 : Nat → Int32 → Int32 → Int32 → Int32 → PF → PG → PR) (hag_6 : ∀ (x1 : Nat) (x2 : Int32) (x3 : Int32) (x4 : Int32) (x5 : Int32) (F : PF) (G : PG), ag_6 x1 x2 x3 x4 x5 F G = some res → ∀ (H : Heap) (locs : List Loc) (ls : Array Slot), mMW s A v a F G H locs → lv_has ls 7 [(0, .ref (a 212)), (1, .ref (eK v x1)), (2, .int x2), (3, .int x3), (4, .int x4), (5, .int x5)] → W p l e R s m args below meth c H locs 0 0 Q (F0 m 6 ls [])) : ∀ (n : Nat) (x1 : Nat) (x2 : Int32) (x3 : Int32) (x4 : Int32) (x5 : Int32) (F : PF) (G : PG) (hm : ml_placeIn_87 fu ag_6 n x1 x2 x3 x4 x5 F G = some res) {H : Heap} {locs : List Loc} (hw : mMW s A v a F G H locs) {ls : Array Slot} (hl : lv_has ls 7 [(0, .ref (a 212)), (1, .ref (eK v x1)), (2, .int x2), (3, .int x3), (4, .int x4), (5, .int x5)]), W p l e R s m args below meth c H locs 0 0 Q (F0 m 87 ls []) := by
  intro n
  induction n with
  | zero =>
    intro x1 x2 x3 x4 x5 F G hm
    exact no_elim (show (none : PR) = some res from hm)
  | succ n ih =>
    intro x1 x2 x3 x4 x5 F G hm H locs hw ls hl
    exact mw_placeIn_87 fu C hret ag_6 hag_6 (ml_placeIn_87 fu ag_6 n) (fun x1 x2 x3 x4 x5 F G hm H locs ls hw hl => ih x1 x2 x3 x4 x5 F G hm hw hl) x1 x2 x3 x4 x5 F G hm hw hl
theorem mw_placeIn_84 (fu : Nat) {res : Int32 × PF × PG} (C : mMC p R s m args c A v RX12 cX12_placeIn 7 4 85) (hret : ∀ (H1 : Heap) (locs1 : List Loc) (ls1 : Array Slot) (pc : Nat), mMW s A v a res.2.1 res.2.2 H1 locs1 → narrow .int (.int res.1) = .int res.1 → decode cX12_placeIn pc = .ok (.ireturn, 1) → W p l e R s m args below meth c H1 locs1 0 0 Q (F0 m pc ls1 [.int res.1])) (x5 : Int32) (F : PF) (G : PG) (hm : mb_placeIn_84 fu x5 F G = some res) {H : Heap} {locs : List Loc} (hw : mMW s A v a F G H locs) {ls : Array Slot} (hl : lv_has ls 7 [(5, .int x5)]) : W p l e R s m args below meth c H locs 0 0 Q (F0 m 84 ls []) := by
  have hx := C.1
  have hb := C.2.1
  unfold mb_placeIn_84 at hm
  refine lv_iload hx hb dX12_placeIn_84 (lv_at hl 0 rfl) ?_
  obtain rfl := Option.some.inj hm
  exact hret _ _ _ _ hw rfl dX12_placeIn_86
theorem mw_placeIn_79 (fu : Nat) {res : Int32 × PF × PG} (C : mMC p R s m args c A v RX12 cX12_placeIn 7 4 85) (hret : ∀ (H1 : Heap) (locs1 : List Loc) (ls1 : Array Slot) (pc : Nat), mMW s A v a res.2.1 res.2.2 H1 locs1 → narrow .int (.int res.1) = .int res.1 → decode cX12_placeIn pc = .ok (.ireturn, 1) → W p l e R s m args below meth c H1 locs1 0 0 Q (F0 m pc ls1 [.int res.1])) (ag_6 : Nat → Int32 → Int32 → Int32 → Int32 → PF → PG → PR) (hag_6 : ∀ (x1 : Nat) (x2 : Int32) (x3 : Int32) (x4 : Int32) (x5 : Int32) (F : PF) (G : PG), ag_6 x1 x2 x3 x4 x5 F G = some res → ∀ (H : Heap) (locs : List Loc) (ls : Array Slot), mMW s A v a F G H locs → lv_has ls 7 [(0, .ref (a 212)), (1, .ref (eK v x1)), (2, .int x2), (3, .int x3), (4, .int x4), (5, .int x5)] → W p l e R s m args below meth c H locs 0 0 Q (F0 m 6 ls [])) (x1 : Nat) (x2 : Int32) (x3 : Int32) (x4 : Int32) (x5 : Int32) (z0 : Int32) (F : PF) (G : PG) (hm : mb_placeIn_79 fu ag_6 x1 x2 x3 x4 x5 z0 F G = some res) {H : Heap} {locs : List Loc} (hw : mMW s A v a F G H locs) {ls : Array Slot} (hl : lv_has ls 7 [(0, .ref (a 212)), (1, .ref (eK v x1)), (2, .int x2), (3, .int x3), (4, .int x4), (5, .int x5)]) : W p l e R s m args below meth c H locs 0 0 Q (F0 m 79 ls [.int z0]) := by
  have hx := C.1
  have hb := C.2.1
  unfold mb_placeIn_79 at hm
  refine lv_bipush (v := 32) hx hb dX12_placeIn_79 (by decide) ?_
  refine lv_icmp_ne (tgt := 87) hx hb dX12_placeIn_81 (by decide) (fun c_1 => ?_) (fun c_1 => ?_)
  · have hm := (if_neg c_1).symm.trans hm
    exact mwl_placeIn_87 fu C hret ag_6 hag_6 fu x1 x2 x3 x4 x5 F G hm hw (lv_sub hl [0, 1, 2, 3, 4, 5] rfl)
  · have hm := (if_pos c_1).symm.trans hm
    exact mw_placeIn_84 fu C hret x5 F G hm hw (lv_sub hl [5] rfl)
theorem mw_placeIn_70 (fu : Nat) {res : Int32 × PF × PG} (C : mMC p R s m args c A v RX12 cX12_placeIn 7 4 85) (hret : ∀ (H1 : Heap) (locs1 : List Loc) (ls1 : Array Slot) (pc : Nat), mMW s A v a res.2.1 res.2.2 H1 locs1 → narrow .int (.int res.1) = .int res.1 → decode cX12_placeIn pc = .ok (.ireturn, 1) → W p l e R s m args below meth c H1 locs1 0 0 Q (F0 m pc ls1 [.int res.1])) (ag_6 : Nat → Int32 → Int32 → Int32 → Int32 → PF → PG → PR) (hag_6 : ∀ (x1 : Nat) (x2 : Int32) (x3 : Int32) (x4 : Int32) (x5 : Int32) (F : PF) (G : PG), ag_6 x1 x2 x3 x4 x5 F G = some res → ∀ (H : Heap) (locs : List Loc) (ls : Array Slot), mMW s A v a F G H locs → lv_has ls 7 [(0, .ref (a 212)), (1, .ref (eK v x1)), (2, .int x2), (3, .int x3), (4, .int x4), (5, .int x5)] → W p l e R s m args below meth c H locs 0 0 Q (F0 m 6 ls [])) (x1 : Nat) (x2 : Int32) (x3 : Int32) (x4 : Int32) (x5 : Int32) (x6 : Int32) (F : PF) (G : PG) (hm : mb_placeIn_70 fu ag_6 x1 x2 x3 x4 x5 x6 F G = some res) {H : Heap} {locs : List Loc} (hw : mMW s A v a F G H locs) {ls : Array Slot} (hl : lv_has ls 7 [(0, .ref (a 212)), (1, .ref (eK v x1)), (2, .int x2), (3, .int x3), (4, .int x4), (5, .int x5), (6, .int x6)]) : W p l e R s m args below meth c H locs 0 0 Q (F0 m 70 ls []) := by
  have hx := C.1
  have hb := C.2.1
  unfold mb_placeIn_70 at hm
  refine lv_aload_n hx hb dX12_placeIn_70 rfl (lv_at hl 1 rfl) ?_
  refine lv_iload hx hb dX12_placeIn_71 (lv_at hl 4 rfl) ?_
  refine lv_iload hx hb dX12_placeIn_73 (lv_at hl 6 rfl) ?_
  refine lv_iadd hx hb dX12_placeIn_75 ?_
  obtain ⟨⟨r1, F1, G1⟩, hc, hm⟩ := bind_elim hm
  refine mcallI (n := 1) (As := [.int (x4 + x6)]) (rest := []) C hw (mk_J0_charAt_5068e l v a _ fu x1 (x4 + x6) F G r1 F1 G1 hc) (vk_recv C.2.2.2.2.2.2.2.2.2.2.2.1 (mlt_J0_charAt_5068e hc) hw.2.2) mm_75 mm_76 mm_77 mm_66 mm_78 (by decide +kernel) rfl (by omega) (by omega) hl.1 rfl (Nat.le_of_ble_eq_true rfl) dX12_placeIn_76 (fun H locs hw => ?_)
  exact mw_placeIn_79 fu C hret ag_6 hag_6 x1 x2 x3 x4 x5 r1 F1 G1 hm hw (lv_sub hl [0, 1, 2, 3, 4, 5] rfl)
theorem mw_placeIn_64 (fu : Nat) {res : Int32 × PF × PG} (C : mMC p R s m args c A v RX12 cX12_placeIn 7 4 85) (hret : ∀ (H1 : Heap) (locs1 : List Loc) (ls1 : Array Slot) (pc : Nat), mMW s A v a res.2.1 res.2.2 H1 locs1 → narrow .int (.int res.1) = .int res.1 → decode cX12_placeIn pc = .ok (.ireturn, 1) → W p l e R s m args below meth c H1 locs1 0 0 Q (F0 m pc ls1 [.int res.1])) (ag_6 : Nat → Int32 → Int32 → Int32 → Int32 → PF → PG → PR) (hag_6 : ∀ (x1 : Nat) (x2 : Int32) (x3 : Int32) (x4 : Int32) (x5 : Int32) (F : PF) (G : PG), ag_6 x1 x2 x3 x4 x5 F G = some res → ∀ (H : Heap) (locs : List Loc) (ls : Array Slot), mMW s A v a F G H locs → lv_has ls 7 [(0, .ref (a 212)), (1, .ref (eK v x1)), (2, .int x2), (3, .int x3), (4, .int x4), (5, .int x5)] → W p l e R s m args below meth c H locs 0 0 Q (F0 m 6 ls [])) (x1 : Nat) (x2 : Int32) (x3 : Int32) (x4 : Int32) (x5 : Int32) (x6 : Int32) (F : PF) (G : PG) (hm : mb_placeIn_64 fu ag_6 x1 x2 x3 x4 x5 x6 F G = some res) {H : Heap} {locs : List Loc} (hw : mMW s A v a F G H locs) {ls : Array Slot} (hl : lv_has ls 7 [(0, .ref (a 212)), (1, .ref (eK v x1)), (2, .int x2), (3, .int x3), (4, .int x4), (5, .int x5), (6, .int x6)]) : W p l e R s m args below meth c H locs 0 0 Q (F0 m 64 ls []) := by
  have hx := C.1
  have hb := C.2.1
  unfold mb_placeIn_64 at hm
  refine lv_iload hx hb dX12_placeIn_64 (lv_at hl 6 rfl) ?_
  refine lv_iload_n hx hb dX12_placeIn_66 rfl (lv_at hl 3 rfl) ?_
  refine lv_icmp_ne (tgt := 87) hx hb dX12_placeIn_67 (by decide) (fun c_1 => ?_) (fun c_1 => ?_)
  · have hm := (if_neg c_1).symm.trans hm
    exact mwl_placeIn_87 fu C hret ag_6 hag_6 fu x1 x2 x3 x4 x5 F G hm hw (lv_sub hl [0, 1, 2, 3, 4, 5] rfl)
  · have hm := (if_pos c_1).symm.trans hm
    exact mw_placeIn_70 fu C hret ag_6 hag_6 x1 x2 x3 x4 x5 x6 F G hm hw (lv_sub hl [0, 1, 2, 3, 4, 5, 6] rfl)
theorem mw_placeIn_58 (fu : Nat) {res : Int32 × PF × PG} (C : mMC p R s m args c A v RX12 cX12_placeIn 7 4 85) (hret : ∀ (H1 : Heap) (locs1 : List Loc) (ls1 : Array Slot) (pc : Nat), mMW s A v a res.2.1 res.2.2 H1 locs1 → narrow .int (.int res.1) = .int res.1 → decode cX12_placeIn pc = .ok (.ireturn, 1) → W p l e R s m args below meth c H1 locs1 0 0 Q (F0 m pc ls1 [.int res.1])) (ag_6 : Nat → Int32 → Int32 → Int32 → Int32 → PF → PG → PR) (hag_6 : ∀ (x1 : Nat) (x2 : Int32) (x3 : Int32) (x4 : Int32) (x5 : Int32) (F : PF) (G : PG), ag_6 x1 x2 x3 x4 x5 F G = some res → ∀ (H : Heap) (locs : List Loc) (ls : Array Slot), mMW s A v a F G H locs → lv_has ls 7 [(0, .ref (a 212)), (1, .ref (eK v x1)), (2, .int x2), (3, .int x3), (4, .int x4), (5, .int x5)] → W p l e R s m args below meth c H locs 0 0 Q (F0 m 6 ls [])) (ag_18 : Nat → Int32 → Int32 → Int32 → Int32 → Int32 → PF → PG → PR) (hag_18 : ∀ (x1 : Nat) (x2 : Int32) (x3 : Int32) (x4 : Int32) (x5 : Int32) (x6 : Int32) (F : PF) (G : PG), ag_18 x1 x2 x3 x4 x5 x6 F G = some res → ∀ (H : Heap) (locs : List Loc) (ls : Array Slot), mMW s A v a F G H locs → lv_has ls 7 [(0, .ref (a 212)), (1, .ref (eK v x1)), (2, .int x2), (3, .int x3), (4, .int x4), (5, .int x5), (6, .int x6)] → W p l e R s m args below meth c H locs 0 0 Q (F0 m 18 ls [])) (x1 : Nat) (x2 : Int32) (x3 : Int32) (x4 : Int32) (x5 : Int32) (x6 : Int32) (F : PF) (G : PG) (hm : mb_placeIn_58 fu ag_6 ag_18 x1 x2 x3 x4 x5 x6 F G = some res) {H : Heap} {locs : List Loc} (hw : mMW s A v a F G H locs) {ls : Array Slot} (hl : lv_has ls 7 [(0, .ref (a 212)), (1, .ref (eK v x1)), (2, .int x2), (3, .int x3), (4, .int x4), (5, .int x5), (6, .int x6)]) : W p l e R s m args below meth c H locs 0 0 Q (F0 m 58 ls []) := by
  have hx := C.1
  have hb := C.2.1
  unfold mb_placeIn_58 at hm
  refine lv_iinc (v := (x6 + 1)) (lv' := [(6, .int (x6 + 1)), (0, .ref (a 212)), (1, .ref (eK v x1)), (2, .int x2), (3, .int x3), (4, .int x4), (5, .int x5)]) hx hb dX12_placeIn_58 hl (k := 6) rfl (by rfl) (by decide) rfl (fun ls hl => ?_)
  refine lv_goto (tgt := 18) hx hb dX12_placeIn_61 (by decide) ?_
  exact hag_18 x1 x2 x3 x4 x5 (x6 + 1) F G hm _ _ _ hw (lv_sub hl [1, 2, 3, 4, 5, 6, 0] rfl)
theorem mw_placeIn_55 (fu : Nat) {res : Int32 × PF × PG} (C : mMC p R s m args c A v RX12 cX12_placeIn 7 4 85) (hret : ∀ (H1 : Heap) (locs1 : List Loc) (ls1 : Array Slot) (pc : Nat), mMW s A v a res.2.1 res.2.2 H1 locs1 → narrow .int (.int res.1) = .int res.1 → decode cX12_placeIn pc = .ok (.ireturn, 1) → W p l e R s m args below meth c H1 locs1 0 0 Q (F0 m pc ls1 [.int res.1])) (ag_6 : Nat → Int32 → Int32 → Int32 → Int32 → PF → PG → PR) (hag_6 : ∀ (x1 : Nat) (x2 : Int32) (x3 : Int32) (x4 : Int32) (x5 : Int32) (F : PF) (G : PG), ag_6 x1 x2 x3 x4 x5 F G = some res → ∀ (H : Heap) (locs : List Loc) (ls : Array Slot), mMW s A v a F G H locs → lv_has ls 7 [(0, .ref (a 212)), (1, .ref (eK v x1)), (2, .int x2), (3, .int x3), (4, .int x4), (5, .int x5)] → W p l e R s m args below meth c H locs 0 0 Q (F0 m 6 ls [])) (ag_18 : Nat → Int32 → Int32 → Int32 → Int32 → Int32 → PF → PG → PR) (hag_18 : ∀ (x1 : Nat) (x2 : Int32) (x3 : Int32) (x4 : Int32) (x5 : Int32) (x6 : Int32) (F : PF) (G : PG), ag_18 x1 x2 x3 x4 x5 x6 F G = some res → ∀ (H : Heap) (locs : List Loc) (ls : Array Slot), mMW s A v a F G H locs → lv_has ls 7 [(0, .ref (a 212)), (1, .ref (eK v x1)), (2, .int x2), (3, .int x3), (4, .int x4), (5, .int x5), (6, .int x6)] → W p l e R s m args below meth c H locs 0 0 Q (F0 m 18 ls [])) (x1 : Nat) (x2 : Int32) (x3 : Int32) (x4 : Int32) (x5 : Int32) (x6 : Int32) (z0 : Int32) (z1 : Int32) (F : PF) (G : PG) (hm : mb_placeIn_55 fu ag_6 ag_18 x1 x2 x3 x4 x5 x6 z0 z1 F G = some res) {H : Heap} {locs : List Loc} (hw : mMW s A v a F G H locs) {ls : Array Slot} (hl : lv_has ls 7 [(0, .ref (a 212)), (1, .ref (eK v x1)), (2, .int x2), (3, .int x3), (4, .int x4), (5, .int x5), (6, .int x6)]) : W p l e R s m args below meth c H locs 0 0 Q (F0 m 55 ls [.int z0, .int z1]) := by
  have hx := C.1
  have hb := C.2.1
  unfold mb_placeIn_55 at hm
  refine lv_icmp_ne (tgt := 64) hx hb dX12_placeIn_55 (by decide) (fun c_1 => ?_) (fun c_1 => ?_)
  · have hm := (if_neg c_1).symm.trans hm
    exact mw_placeIn_64 fu C hret ag_6 hag_6 x1 x2 x3 x4 x5 x6 F G hm hw (lv_sub hl [0, 1, 2, 3, 4, 5, 6] rfl)
  · have hm := (if_pos c_1).symm.trans hm
    exact mw_placeIn_58 fu C hret ag_6 hag_6 ag_18 hag_18 x1 x2 x3 x4 x5 x6 F G hm hw (lv_sub hl [0, 1, 2, 3, 4, 5, 6] rfl)
theorem mw_placeIn_47 (fu : Nat) {res : Int32 × PF × PG} (C : mMC p R s m args c A v RX12 cX12_placeIn 7 4 85) (hret : ∀ (H1 : Heap) (locs1 : List Loc) (ls1 : Array Slot) (pc : Nat), mMW s A v a res.2.1 res.2.2 H1 locs1 → narrow .int (.int res.1) = .int res.1 → decode cX12_placeIn pc = .ok (.ireturn, 1) → W p l e R s m args below meth c H1 locs1 0 0 Q (F0 m pc ls1 [.int res.1])) (ag_6 : Nat → Int32 → Int32 → Int32 → Int32 → PF → PG → PR) (hag_6 : ∀ (x1 : Nat) (x2 : Int32) (x3 : Int32) (x4 : Int32) (x5 : Int32) (F : PF) (G : PG), ag_6 x1 x2 x3 x4 x5 F G = some res → ∀ (H : Heap) (locs : List Loc) (ls : Array Slot), mMW s A v a F G H locs → lv_has ls 7 [(0, .ref (a 212)), (1, .ref (eK v x1)), (2, .int x2), (3, .int x3), (4, .int x4), (5, .int x5)] → W p l e R s m args below meth c H locs 0 0 Q (F0 m 6 ls [])) (ag_18 : Nat → Int32 → Int32 → Int32 → Int32 → Int32 → PF → PG → PR) (hag_18 : ∀ (x1 : Nat) (x2 : Int32) (x3 : Int32) (x4 : Int32) (x5 : Int32) (x6 : Int32) (F : PF) (G : PG), ag_18 x1 x2 x3 x4 x5 x6 F G = some res → ∀ (H : Heap) (locs : List Loc) (ls : Array Slot), mMW s A v a F G H locs → lv_has ls 7 [(0, .ref (a 212)), (1, .ref (eK v x1)), (2, .int x2), (3, .int x3), (4, .int x4), (5, .int x5), (6, .int x6)] → W p l e R s m args below meth c H locs 0 0 Q (F0 m 18 ls [])) (x1 : Nat) (x2 : Int32) (x3 : Int32) (x4 : Int32) (x5 : Int32) (x6 : Int32) (z0 : Int32) (F : PF) (G : PG) (hm : mb_placeIn_47 fu ag_6 ag_18 x1 x2 x3 x4 x5 x6 z0 F G = some res) {H : Heap} {locs : List Loc} (hw : mMW s A v a F G H locs) {ls : Array Slot} (hl : lv_has ls 7 [(0, .ref (a 212)), (1, .ref (eK v x1)), (2, .int x2), (3, .int x3), (4, .int x4), (5, .int x5), (6, .int x6)]) : W p l e R s m args below meth c H locs 0 0 Q (F0 m 47 ls [.int z0]) := by
  have hx := C.1
  have hb := C.2.1
  unfold mb_placeIn_47 at hm
  refine lv_aload_n hx hb dX12_placeIn_47 rfl (lv_at hl 0 rfl) ?_
  refine lv_iload_n hx hb dX12_placeIn_48 rfl (lv_at hl 2 rfl) ?_
  refine lv_iload hx hb dX12_placeIn_49 (lv_at hl 6 rfl) ?_
  refine lv_iadd hx hb dX12_placeIn_51 ?_
  obtain ⟨⟨r1, F1, G1⟩, hc, hm⟩ := bind_elim hm
  refine mcallI (n := 1) (As := [.int (x2 + x6)]) (rest := [.int z0]) C hw (mk_at l v a _ fu (x2 + x6) F G r1 F1 G1 hc) (mrecv_X12 C hw) mm_38 mm_39 mm_40 mm_27 mm_41 (by decide +kernel) rfl (by omega) (by omega) hl.1 rfl (Nat.le_of_ble_eq_true rfl) dX12_placeIn_52 (fun H locs hw => ?_)
  exact mw_placeIn_55 fu C hret ag_6 hag_6 ag_18 hag_18 x1 x2 x3 x4 x5 x6 r1 z0 F1 G1 hm hw (lv_sub hl [0, 1, 2, 3, 4, 5, 6] rfl)
theorem mw_placeIn_38 (fu : Nat) {res : Int32 × PF × PG} (C : mMC p R s m args c A v RX12 cX12_placeIn 7 4 85) (hret : ∀ (H1 : Heap) (locs1 : List Loc) (ls1 : Array Slot) (pc : Nat), mMW s A v a res.2.1 res.2.2 H1 locs1 → narrow .int (.int res.1) = .int res.1 → decode cX12_placeIn pc = .ok (.ireturn, 1) → W p l e R s m args below meth c H1 locs1 0 0 Q (F0 m pc ls1 [.int res.1])) (ag_6 : Nat → Int32 → Int32 → Int32 → Int32 → PF → PG → PR) (hag_6 : ∀ (x1 : Nat) (x2 : Int32) (x3 : Int32) (x4 : Int32) (x5 : Int32) (F : PF) (G : PG), ag_6 x1 x2 x3 x4 x5 F G = some res → ∀ (H : Heap) (locs : List Loc) (ls : Array Slot), mMW s A v a F G H locs → lv_has ls 7 [(0, .ref (a 212)), (1, .ref (eK v x1)), (2, .int x2), (3, .int x3), (4, .int x4), (5, .int x5)] → W p l e R s m args below meth c H locs 0 0 Q (F0 m 6 ls [])) (ag_18 : Nat → Int32 → Int32 → Int32 → Int32 → Int32 → PF → PG → PR) (hag_18 : ∀ (x1 : Nat) (x2 : Int32) (x3 : Int32) (x4 : Int32) (x5 : Int32) (x6 : Int32) (F : PF) (G : PG), ag_18 x1 x2 x3 x4 x5 x6 F G = some res → ∀ (H : Heap) (locs : List Loc) (ls : Array Slot), mMW s A v a F G H locs → lv_has ls 7 [(0, .ref (a 212)), (1, .ref (eK v x1)), (2, .int x2), (3, .int x3), (4, .int x4), (5, .int x5), (6, .int x6)] → W p l e R s m args below meth c H locs 0 0 Q (F0 m 18 ls [])) (x1 : Nat) (x2 : Int32) (x3 : Int32) (x4 : Int32) (x5 : Int32) (x6 : Int32) (F : PF) (G : PG) (hm : mb_placeIn_38 fu ag_6 ag_18 x1 x2 x3 x4 x5 x6 F G = some res) {H : Heap} {locs : List Loc} (hw : mMW s A v a F G H locs) {ls : Array Slot} (hl : lv_has ls 7 [(0, .ref (a 212)), (1, .ref (eK v x1)), (2, .int x2), (3, .int x3), (4, .int x4), (5, .int x5), (6, .int x6)]) : W p l e R s m args below meth c H locs 0 0 Q (F0 m 38 ls []) := by
  have hx := C.1
  have hb := C.2.1
  unfold mb_placeIn_38 at hm
  refine lv_aload_n hx hb dX12_placeIn_38 rfl (lv_at hl 1 rfl) ?_
  refine lv_iload hx hb dX12_placeIn_39 (lv_at hl 4 rfl) ?_
  refine lv_iload hx hb dX12_placeIn_41 (lv_at hl 6 rfl) ?_
  refine lv_iadd hx hb dX12_placeIn_43 ?_
  obtain ⟨⟨r1, F1, G1⟩, hc, hm⟩ := bind_elim hm
  refine mcallI (n := 1) (As := [.int (x4 + x6)]) (rest := []) C hw (mk_J0_charAt_5068e l v a _ fu x1 (x4 + x6) F G r1 F1 G1 hc) (vk_recv C.2.2.2.2.2.2.2.2.2.2.2.1 (mlt_J0_charAt_5068e hc) hw.2.2) mm_75 mm_76 mm_77 mm_66 mm_78 (by decide +kernel) rfl (by omega) (by omega) hl.1 rfl (Nat.le_of_ble_eq_true rfl) dX12_placeIn_44 (fun H locs hw => ?_)
  exact mw_placeIn_47 fu C hret ag_6 hag_6 ag_18 hag_18 x1 x2 x3 x4 x5 x6 r1 F1 G1 hm hw (lv_sub hl [0, 1, 2, 3, 4, 5, 6] rfl)
theorem mw_placeIn_32 (fu : Nat) {res : Int32 × PF × PG} (C : mMC p R s m args c A v RX12 cX12_placeIn 7 4 85) (hret : ∀ (H1 : Heap) (locs1 : List Loc) (ls1 : Array Slot) (pc : Nat), mMW s A v a res.2.1 res.2.2 H1 locs1 → narrow .int (.int res.1) = .int res.1 → decode cX12_placeIn pc = .ok (.ireturn, 1) → W p l e R s m args below meth c H1 locs1 0 0 Q (F0 m pc ls1 [.int res.1])) (ag_6 : Nat → Int32 → Int32 → Int32 → Int32 → PF → PG → PR) (hag_6 : ∀ (x1 : Nat) (x2 : Int32) (x3 : Int32) (x4 : Int32) (x5 : Int32) (F : PF) (G : PG), ag_6 x1 x2 x3 x4 x5 F G = some res → ∀ (H : Heap) (locs : List Loc) (ls : Array Slot), mMW s A v a F G H locs → lv_has ls 7 [(0, .ref (a 212)), (1, .ref (eK v x1)), (2, .int x2), (3, .int x3), (4, .int x4), (5, .int x5)] → W p l e R s m args below meth c H locs 0 0 Q (F0 m 6 ls [])) (ag_18 : Nat → Int32 → Int32 → Int32 → Int32 → Int32 → PF → PG → PR) (hag_18 : ∀ (x1 : Nat) (x2 : Int32) (x3 : Int32) (x4 : Int32) (x5 : Int32) (x6 : Int32) (F : PF) (G : PG), ag_18 x1 x2 x3 x4 x5 x6 F G = some res → ∀ (H : Heap) (locs : List Loc) (ls : Array Slot), mMW s A v a F G H locs → lv_has ls 7 [(0, .ref (a 212)), (1, .ref (eK v x1)), (2, .int x2), (3, .int x3), (4, .int x4), (5, .int x5), (6, .int x6)] → W p l e R s m args below meth c H locs 0 0 Q (F0 m 18 ls [])) (x1 : Nat) (x2 : Int32) (x3 : Int32) (x4 : Int32) (x5 : Int32) (x6 : Int32) (F : PF) (G : PG) (hm : mb_placeIn_32 fu ag_6 ag_18 x1 x2 x3 x4 x5 x6 F G = some res) {H : Heap} {locs : List Loc} (hw : mMW s A v a F G H locs) {ls : Array Slot} (hl : lv_has ls 7 [(0, .ref (a 212)), (1, .ref (eK v x1)), (2, .int x2), (3, .int x3), (4, .int x4), (5, .int x5), (6, .int x6)]) : W p l e R s m args below meth c H locs 0 0 Q (F0 m 32 ls []) := by
  have hx := C.1
  have hb := C.2.1
  unfold mb_placeIn_32 at hm
  refine lv_iload hx hb dX12_placeIn_32 (lv_at hl 6 rfl) ?_
  refine lv_iload_n hx hb dX12_placeIn_34 rfl (lv_at hl 3 rfl) ?_
  refine lv_icmp_ge (tgt := 64) hx hb dX12_placeIn_35 (by decide) (fun c_1 => ?_) (fun c_1 => ?_)
  · have hm := (if_pos c_1).symm.trans hm
    exact mw_placeIn_64 fu C hret ag_6 hag_6 x1 x2 x3 x4 x5 x6 F G hm hw (lv_sub hl [0, 1, 2, 3, 4, 5, 6] rfl)
  · have hm := (if_neg c_1).symm.trans hm
    exact mw_placeIn_38 fu C hret ag_6 hag_6 ag_18 hag_18 x1 x2 x3 x4 x5 x6 F G hm hw (lv_sub hl [0, 1, 2, 3, 4, 5, 6] rfl)
theorem mw_placeIn_27 (fu : Nat) {res : Int32 × PF × PG} (C : mMC p R s m args c A v RX12 cX12_placeIn 7 4 85) (hret : ∀ (H1 : Heap) (locs1 : List Loc) (ls1 : Array Slot) (pc : Nat), mMW s A v a res.2.1 res.2.2 H1 locs1 → narrow .int (.int res.1) = .int res.1 → decode cX12_placeIn pc = .ok (.ireturn, 1) → W p l e R s m args below meth c H1 locs1 0 0 Q (F0 m pc ls1 [.int res.1])) (ag_6 : Nat → Int32 → Int32 → Int32 → Int32 → PF → PG → PR) (hag_6 : ∀ (x1 : Nat) (x2 : Int32) (x3 : Int32) (x4 : Int32) (x5 : Int32) (F : PF) (G : PG), ag_6 x1 x2 x3 x4 x5 F G = some res → ∀ (H : Heap) (locs : List Loc) (ls : Array Slot), mMW s A v a F G H locs → lv_has ls 7 [(0, .ref (a 212)), (1, .ref (eK v x1)), (2, .int x2), (3, .int x3), (4, .int x4), (5, .int x5)] → W p l e R s m args below meth c H locs 0 0 Q (F0 m 6 ls [])) (ag_18 : Nat → Int32 → Int32 → Int32 → Int32 → Int32 → PF → PG → PR) (hag_18 : ∀ (x1 : Nat) (x2 : Int32) (x3 : Int32) (x4 : Int32) (x5 : Int32) (x6 : Int32) (F : PF) (G : PG), ag_18 x1 x2 x3 x4 x5 x6 F G = some res → ∀ (H : Heap) (locs : List Loc) (ls : Array Slot), mMW s A v a F G H locs → lv_has ls 7 [(0, .ref (a 212)), (1, .ref (eK v x1)), (2, .int x2), (3, .int x3), (4, .int x4), (5, .int x5), (6, .int x6)] → W p l e R s m args below meth c H locs 0 0 Q (F0 m 18 ls [])) (x1 : Nat) (x2 : Int32) (x3 : Int32) (x4 : Int32) (x5 : Int32) (x6 : Int32) (z0 : Int32) (F : PF) (G : PG) (hm : mb_placeIn_27 fu ag_6 ag_18 x1 x2 x3 x4 x5 x6 z0 F G = some res) {H : Heap} {locs : List Loc} (hw : mMW s A v a F G H locs) {ls : Array Slot} (hl : lv_has ls 7 [(0, .ref (a 212)), (1, .ref (eK v x1)), (2, .int x2), (3, .int x3), (4, .int x4), (5, .int x5), (6, .int x6)]) : W p l e R s m args below meth c H locs 0 0 Q (F0 m 27 ls [.int z0]) := by
  have hx := C.1
  have hb := C.2.1
  unfold mb_placeIn_27 at hm
  refine lv_bipush (v := 32) hx hb dX12_placeIn_27 (by decide) ?_
  refine lv_icmp_eq (tgt := 64) hx hb dX12_placeIn_29 (by decide) (fun c_1 => ?_) (fun c_1 => ?_)
  · have hm := (if_pos c_1).symm.trans hm
    exact mw_placeIn_64 fu C hret ag_6 hag_6 x1 x2 x3 x4 x5 x6 F G hm hw (lv_sub hl [0, 1, 2, 3, 4, 5, 6] rfl)
  · have hm := (if_neg c_1).symm.trans hm
    exact mw_placeIn_32 fu C hret ag_6 hag_6 ag_18 hag_18 x1 x2 x3 x4 x5 x6 F G hm hw (lv_sub hl [0, 1, 2, 3, 4, 5, 6] rfl)
theorem mw_placeIn_18 (fu : Nat) {res : Int32 × PF × PG} (C : mMC p R s m args c A v RX12 cX12_placeIn 7 4 85) (hret : ∀ (H1 : Heap) (locs1 : List Loc) (ls1 : Array Slot) (pc : Nat), mMW s A v a res.2.1 res.2.2 H1 locs1 → narrow .int (.int res.1) = .int res.1 → decode cX12_placeIn pc = .ok (.ireturn, 1) → W p l e R s m args below meth c H1 locs1 0 0 Q (F0 m pc ls1 [.int res.1])) (ag_6 : Nat → Int32 → Int32 → Int32 → Int32 → PF → PG → PR) (hag_6 : ∀ (x1 : Nat) (x2 : Int32) (x3 : Int32) (x4 : Int32) (x5 : Int32) (F : PF) (G : PG), ag_6 x1 x2 x3 x4 x5 F G = some res → ∀ (H : Heap) (locs : List Loc) (ls : Array Slot), mMW s A v a F G H locs → lv_has ls 7 [(0, .ref (a 212)), (1, .ref (eK v x1)), (2, .int x2), (3, .int x3), (4, .int x4), (5, .int x5)] → W p l e R s m args below meth c H locs 0 0 Q (F0 m 6 ls [])) (ag_18 : Nat → Int32 → Int32 → Int32 → Int32 → Int32 → PF → PG → PR) (hag_18 : ∀ (x1 : Nat) (x2 : Int32) (x3 : Int32) (x4 : Int32) (x5 : Int32) (x6 : Int32) (F : PF) (G : PG), ag_18 x1 x2 x3 x4 x5 x6 F G = some res → ∀ (H : Heap) (locs : List Loc) (ls : Array Slot), mMW s A v a F G H locs → lv_has ls 7 [(0, .ref (a 212)), (1, .ref (eK v x1)), (2, .int x2), (3, .int x3), (4, .int x4), (5, .int x5), (6, .int x6)] → W p l e R s m args below meth c H locs 0 0 Q (F0 m 18 ls [])) (x1 : Nat) (x2 : Int32) (x3 : Int32) (x4 : Int32) (x5 : Int32) (x6 : Int32) (F : PF) (G : PG) (hm : mb_placeIn_18 fu ag_6 ag_18 x1 x2 x3 x4 x5 x6 F G = some res) {H : Heap} {locs : List Loc} (hw : mMW s A v a F G H locs) {ls : Array Slot} (hl : lv_has ls 7 [(0, .ref (a 212)), (1, .ref (eK v x1)), (2, .int x2), (3, .int x3), (4, .int x4), (5, .int x5), (6, .int x6)]) : W p l e R s m args below meth c H locs 0 0 Q (F0 m 18 ls []) := by
  have hx := C.1
  have hb := C.2.1
  unfold mb_placeIn_18 at hm
  refine lv_aload_n hx hb dX12_placeIn_18 rfl (lv_at hl 1 rfl) ?_
  refine lv_iload hx hb dX12_placeIn_19 (lv_at hl 4 rfl) ?_
  refine lv_iload hx hb dX12_placeIn_21 (lv_at hl 6 rfl) ?_
  refine lv_iadd hx hb dX12_placeIn_23 ?_
  obtain ⟨⟨r1, F1, G1⟩, hc, hm⟩ := bind_elim hm
  refine mcallI (n := 1) (As := [.int (x4 + x6)]) (rest := []) C hw (mk_J0_charAt_5068e l v a _ fu x1 (x4 + x6) F G r1 F1 G1 hc) (vk_recv C.2.2.2.2.2.2.2.2.2.2.2.1 (mlt_J0_charAt_5068e hc) hw.2.2) mm_75 mm_76 mm_77 mm_66 mm_78 (by decide +kernel) rfl (by omega) (by omega) hl.1 rfl (Nat.le_of_ble_eq_true rfl) dX12_placeIn_24 (fun H locs hw => ?_)
  exact mw_placeIn_27 fu C hret ag_6 hag_6 ag_18 hag_18 x1 x2 x3 x4 x5 x6 r1 F1 G1 hm hw (lv_sub hl [0, 1, 2, 3, 4, 5, 6] rfl)
theorem mwl_placeIn_18 (fu : Nat) {res : Int32 × PF × PG} (C : mMC p R s m args c A v RX12 cX12_placeIn 7 4 85) (hret : ∀ (H1 : Heap) (locs1 : List Loc) (ls1 : Array Slot) (pc : Nat), mMW s A v a res.2.1 res.2.2 H1 locs1 → narrow .int (.int res.1) = .int res.1 → decode cX12_placeIn pc = .ok (.ireturn, 1) → W p l e R s m args below meth c H1 locs1 0 0 Q (F0 m pc ls1 [.int res.1])) (ag_6 : Nat → Int32 → Int32 → Int32 → Int32 → PF → PG → PR) (hag_6 : ∀ (x1 : Nat) (x2 : Int32) (x3 : Int32) (x4 : Int32) (x5 : Int32) (F : PF) (G : PG), ag_6 x1 x2 x3 x4 x5 F G = some res → ∀ (H : Heap) (locs : List Loc) (ls : Array Slot), mMW s A v a F G H locs → lv_has ls 7 [(0, .ref (a 212)), (1, .ref (eK v x1)), (2, .int x2), (3, .int x3), (4, .int x4), (5, .int x5)] → W p l e R s m args below meth c H locs 0 0 Q (F0 m 6 ls [])) : ∀ (n : Nat) (x1 : Nat) (x2 : Int32) (x3 : Int32) (x4 : Int32) (x5 : Int32) (x6 : Int32) (F : PF) (G : PG) (hm : ml_placeIn_18 fu ag_6 n x1 x2 x3 x4 x5 x6 F G = some res) {H : Heap} {locs : List Loc} (hw : mMW s A v a F G H locs) {ls : Array Slot} (hl : lv_has ls 7 [(0, .ref (a 212)), (1, .ref (eK v x1)), (2, .int x2), (3, .int x3), (4, .int x4), (5, .int x5), (6, .int x6)]), W p l e R s m args below meth c H locs 0 0 Q (F0 m 18 ls []) := by
  intro n
  induction n with
  | zero =>
    intro x1 x2 x3 x4 x5 x6 F G hm
    exact no_elim (show (none : PR) = some res from hm)
  | succ n ih =>
    intro x1 x2 x3 x4 x5 x6 F G hm H locs hw ls hl
    exact mw_placeIn_18 fu C hret ag_6 hag_6 (ml_placeIn_18 fu ag_6 n) (fun x1 x2 x3 x4 x5 x6 F G hm H locs ls hw hl => ih x1 x2 x3 x4 x5 x6 F G hm hw hl) x1 x2 x3 x4 x5 x6 F G hm hw hl
theorem mw_placeIn_15 (fu : Nat) {res : Int32 × PF × PG} (C : mMC p R s m args c A v RX12 cX12_placeIn 7 4 85) (hret : ∀ (H1 : Heap) (locs1 : List Loc) (ls1 : Array Slot) (pc : Nat), mMW s A v a res.2.1 res.2.2 H1 locs1 → narrow .int (.int res.1) = .int res.1 → decode cX12_placeIn pc = .ok (.ireturn, 1) → W p l e R s m args below meth c H1 locs1 0 0 Q (F0 m pc ls1 [.int res.1])) (ag_6 : Nat → Int32 → Int32 → Int32 → Int32 → PF → PG → PR) (hag_6 : ∀ (x1 : Nat) (x2 : Int32) (x3 : Int32) (x4 : Int32) (x5 : Int32) (F : PF) (G : PG), ag_6 x1 x2 x3 x4 x5 F G = some res → ∀ (H : Heap) (locs : List Loc) (ls : Array Slot), mMW s A v a F G H locs → lv_has ls 7 [(0, .ref (a 212)), (1, .ref (eK v x1)), (2, .int x2), (3, .int x3), (4, .int x4), (5, .int x5)] → W p l e R s m args below meth c H locs 0 0 Q (F0 m 6 ls [])) (x1 : Nat) (x2 : Int32) (x3 : Int32) (x4 : Int32) (x5 : Int32) (F : PF) (G : PG) (hm : mb_placeIn_15 fu ag_6 x1 x2 x3 x4 x5 F G = some res) {H : Heap} {locs : List Loc} (hw : mMW s A v a F G H locs) {ls : Array Slot} (hl : lv_has ls 7 [(0, .ref (a 212)), (1, .ref (eK v x1)), (2, .int x2), (3, .int x3), (4, .int x4), (5, .int x5)]) : W p l e R s m args below meth c H locs 0 0 Q (F0 m 15 ls []) := by
  have hx := C.1
  have hb := C.2.1
  unfold mb_placeIn_15 at hm
  refine lv_iconst (v := 0) hx hb dX12_placeIn_15 (by decide) ?_
  refine lv_istore (lv' := [(6, .int 0), (0, .ref (a 212)), (1, .ref (eK v x1)), (2, .int x2), (3, .int x3), (4, .int x4), (5, .int x5)]) hx hb dX12_placeIn_16 hl (by decide) rfl (fun ls hl => ?_)
  exact mwl_placeIn_18 fu C hret ag_6 hag_6 fu x1 x2 x3 x4 x5 0 F G hm hw (lv_sub hl [1, 2, 3, 4, 5, 6, 0] rfl)
theorem mw_placeIn_12 (fu : Nat) {res : Int32 × PF × PG} (C : mMC p R s m args c A v RX12 cX12_placeIn 7 4 85) (hret : ∀ (H1 : Heap) (locs1 : List Loc) (ls1 : Array Slot) (pc : Nat), mMW s A v a res.2.1 res.2.2 H1 locs1 → narrow .int (.int res.1) = .int res.1 → decode cX12_placeIn pc = .ok (.ireturn, 1) → W p l e R s m args below meth c H1 locs1 0 0 Q (F0 m pc ls1 [.int res.1])) (ag_6 : Nat → Int32 → Int32 → Int32 → Int32 → PF → PG → PR) (hag_6 : ∀ (x1 : Nat) (x2 : Int32) (x3 : Int32) (x4 : Int32) (x5 : Int32) (F : PF) (G : PG), ag_6 x1 x2 x3 x4 x5 F G = some res → ∀ (H : Heap) (locs : List Loc) (ls : Array Slot), mMW s A v a F G H locs → lv_has ls 7 [(0, .ref (a 212)), (1, .ref (eK v x1)), (2, .int x2), (3, .int x3), (4, .int x4), (5, .int x5)] → W p l e R s m args below meth c H locs 0 0 Q (F0 m 6 ls [])) (x1 : Nat) (x2 : Int32) (x3 : Int32) (x4 : Int32) (x5 : Int32) (z0 : Int32) (z1 : Int32) (F : PF) (G : PG) (hm : mb_placeIn_12 fu ag_6 x1 x2 x3 x4 x5 z0 z1 F G = some res) {H : Heap} {locs : List Loc} (hw : mMW s A v a F G H locs) {ls : Array Slot} (hl : lv_has ls 7 [(0, .ref (a 212)), (1, .ref (eK v x1)), (2, .int x2), (3, .int x3), (4, .int x4), (5, .int x5)]) : W p l e R s m args below meth c H locs 0 0 Q (F0 m 12 ls [.int z0, .int z1]) := by
  have hx := C.1
  have hb := C.2.1
  unfold mb_placeIn_12 at hm
  refine lv_icmp_ge (tgt := 113) hx hb dX12_placeIn_12 (by decide) (fun c_1 => ?_) (fun c_1 => ?_)
  · have hm := (if_pos c_1).symm.trans hm
    exact mw_placeIn_113 fu C hret F G hm hw (lv_sub hl [] rfl)
  · have hm := (if_neg c_1).symm.trans hm
    exact mw_placeIn_15 fu C hret ag_6 hag_6 x1 x2 x3 x4 x5 F G hm hw (lv_sub hl [0, 1, 2, 3, 4, 5] rfl)
theorem mw_placeIn_6 (fu : Nat) {res : Int32 × PF × PG} (C : mMC p R s m args c A v RX12 cX12_placeIn 7 4 85) (hret : ∀ (H1 : Heap) (locs1 : List Loc) (ls1 : Array Slot) (pc : Nat), mMW s A v a res.2.1 res.2.2 H1 locs1 → narrow .int (.int res.1) = .int res.1 → decode cX12_placeIn pc = .ok (.ireturn, 1) → W p l e R s m args below meth c H1 locs1 0 0 Q (F0 m pc ls1 [.int res.1])) (ag_6 : Nat → Int32 → Int32 → Int32 → Int32 → PF → PG → PR) (hag_6 : ∀ (x1 : Nat) (x2 : Int32) (x3 : Int32) (x4 : Int32) (x5 : Int32) (F : PF) (G : PG), ag_6 x1 x2 x3 x4 x5 F G = some res → ∀ (H : Heap) (locs : List Loc) (ls : Array Slot), mMW s A v a F G H locs → lv_has ls 7 [(0, .ref (a 212)), (1, .ref (eK v x1)), (2, .int x2), (3, .int x3), (4, .int x4), (5, .int x5)] → W p l e R s m args below meth c H locs 0 0 Q (F0 m 6 ls [])) (x1 : Nat) (x2 : Int32) (x3 : Int32) (x4 : Int32) (x5 : Int32) (F : PF) (G : PG) (hm : mb_placeIn_6 fu ag_6 x1 x2 x3 x4 x5 F G = some res) {H : Heap} {locs : List Loc} (hw : mMW s A v a F G H locs) {ls : Array Slot} (hl : lv_has ls 7 [(0, .ref (a 212)), (1, .ref (eK v x1)), (2, .int x2), (3, .int x3), (4, .int x4), (5, .int x5)]) : W p l e R s m args below meth c H locs 0 0 Q (F0 m 6 ls []) := by
  have hx := C.1
  have hb := C.2.1
  unfold mb_placeIn_6 at hm
  refine lv_iload hx hb dX12_placeIn_6 (lv_at hl 4 rfl) ?_
  refine lv_aload_n hx hb dX12_placeIn_8 rfl (lv_at hl 1 rfl) ?_
  obtain ⟨⟨r1, F1, G1⟩, hc, hm⟩ := bind_elim hm
  refine mcallI (n := 0) (As := []) (rest := [.int x4]) C hw (mk_J0_length_8abf5 l v a _ fu x1 F G r1 F1 G1 hc) (vk_recv C.2.2.2.2.2.2.2.2.2.2.2.1 (mlt_J0_length_8abf5 hc) hw.2.2) mm_63 mm_64 mm_65 mm_66 mm_67 (by decide +kernel) rfl (by omega) (by omega) hl.1 rfl (Nat.le_of_ble_eq_true rfl) dX12_placeIn_9 (fun H locs hw => ?_)
  exact mw_placeIn_12 fu C hret ag_6 hag_6 x1 x2 x3 x4 x5 r1 x4 F1 G1 hm hw (lv_sub hl [0, 1, 2, 3, 4, 5] rfl)
theorem mwl_placeIn_6 (fu : Nat) {res : Int32 × PF × PG} (C : mMC p R s m args c A v RX12 cX12_placeIn 7 4 85) (hret : ∀ (H1 : Heap) (locs1 : List Loc) (ls1 : Array Slot) (pc : Nat), mMW s A v a res.2.1 res.2.2 H1 locs1 → narrow .int (.int res.1) = .int res.1 → decode cX12_placeIn pc = .ok (.ireturn, 1) → W p l e R s m args below meth c H1 locs1 0 0 Q (F0 m pc ls1 [.int res.1])) : ∀ (n : Nat) (x1 : Nat) (x2 : Int32) (x3 : Int32) (x4 : Int32) (x5 : Int32) (F : PF) (G : PG) (hm : ml_placeIn_6 fu n x1 x2 x3 x4 x5 F G = some res) {H : Heap} {locs : List Loc} (hw : mMW s A v a F G H locs) {ls : Array Slot} (hl : lv_has ls 7 [(0, .ref (a 212)), (1, .ref (eK v x1)), (2, .int x2), (3, .int x3), (4, .int x4), (5, .int x5)]), W p l e R s m args below meth c H locs 0 0 Q (F0 m 6 ls []) := by
  intro n
  induction n with
  | zero =>
    intro x1 x2 x3 x4 x5 F G hm
    exact no_elim (show (none : PR) = some res from hm)
  | succ n ih =>
    intro x1 x2 x3 x4 x5 F G hm H locs hw ls hl
    exact mw_placeIn_6 fu C hret (ml_placeIn_6 fu n) (fun x1 x2 x3 x4 x5 F G hm H locs ls hw hl => ih x1 x2 x3 x4 x5 F G hm hw hl) x1 x2 x3 x4 x5 F G hm hw hl
theorem mw_placeIn_0 (fu : Nat) {res : Int32 × PF × PG} (C : mMC p R s m args c A v RX12 cX12_placeIn 7 4 85) (hret : ∀ (H1 : Heap) (locs1 : List Loc) (ls1 : Array Slot) (pc : Nat), mMW s A v a res.2.1 res.2.2 H1 locs1 → narrow .int (.int res.1) = .int res.1 → decode cX12_placeIn pc = .ok (.ireturn, 1) → W p l e R s m args below meth c H1 locs1 0 0 Q (F0 m pc ls1 [.int res.1])) (x1 : Nat) (x2 : Int32) (x3 : Int32) (F : PF) (G : PG) (hm : mb_placeIn_0 fu x1 x2 x3 F G = some res) {H : Heap} {locs : List Loc} (hw : mMW s A v a F G H locs) {ls : Array Slot} (hl : lv_has ls 7 [(0, .ref (a 212)), (1, .ref (eK v x1)), (2, .int x2), (3, .int x3)]) : W p l e R s m args below meth c H locs 0 0 Q (F0 m 0 ls []) := by
  have hx := C.1
  have hb := C.2.1
  unfold mb_placeIn_0 at hm
  refine lv_iconst (v := 1) hx hb dX12_placeIn_0 (by decide) ?_
  refine lv_istore (lv' := [(4, .int 1), (0, .ref (a 212)), (1, .ref (eK v x1)), (2, .int x2), (3, .int x3)]) hx hb dX12_placeIn_1 hl (by decide) rfl (fun ls hl => ?_)
  refine lv_iconst (v := 0) hx hb dX12_placeIn_3 (by decide) ?_
  refine lv_istore (lv' := [(5, .int 0), (4, .int 1), (0, .ref (a 212)), (1, .ref (eK v x1)), (2, .int x2), (3, .int x3)]) hx hb dX12_placeIn_4 hl (by decide) rfl (fun ls hl => ?_)
  exact mwl_placeIn_6 fu C hret fu x1 x2 x3 1 0 F G hm hw (lv_sub hl [2, 3, 4, 5, 1, 0] rfl)
theorem mk_placeIn (l : Launch) (v : EV) (a : Nat → Nat) (sz : Nat) (fu : Nat) (x1 : Nat) (x2 : Int32) (x3 : Int32) (F : PF) (G : PG) (r : Int32) (F1 : PF) (G1 : PG) (hm : mf_placeIn fu x1 x2 x3 F G = some (r, F1, G1)) : mMI l yX12_placeIn cX12_placeIn 7 (some .int) 4 85 v a sz [.ref (a 212), .ref (eK v x1), .int x2, .int x3] F G r F1 G1 := mMI.of (ty := .int) (by decide) rfl (Nat.le_of_ble_eq_true rfl) (fun p e R s m args below meth c Q A H locs ls C hw hl hret => mw_placeIn_0 fu (res := (r, F1, G1)) C hret x1 x2 x3 F G hm hw hl)
def mb_nameOf_185 (fu : Nat) (F : PF) (G : PG) : PR := some (((F 13) - (1 : Int32)), F, G)
def mb_nameOf_175 (fu : Nat) (F : PF) (G : PG) : PR := mb_nameOf_185 fu (fup F 13 ((F 13) + (1 : Int32))) G
def mb_nameOf_165 (fu : Nat) (x3 : Int32) (F : PF) (G : PG) : PR := if ixb x3 64 = true then (mb_nameOf_175 fu F (gup G 12 x3.toNatClampNeg (F 13))) else none
def mb_nameOf_150 (fu : Nat) (x3 : Int32) (F : PF) (G : PG) : PR := if ixb x3 64 = true then (if ixb (F 13) 2100 = true then (mb_nameOf_165 fu x3 F (gup G 11 (F 13).toNatClampNeg (G 12 x3.toNatClampNeg))) else none) else none
def mb_nameOf_140 (fu : Nat) (x2 : Int32) (x3 : Int32) (F : PF) (G : PG) : PR := if ixb (F 13) 2100 = true then (mb_nameOf_150 fu x3 F (gup G 10 (F 13).toNatClampNeg x2)) else none
def mb_nameOf_130 (fu : Nat) (x1 : Int32) (x2 : Int32) (x3 : Int32) (F : PF) (G : PG) : PR := if ixb (F 13) 2100 = true then (mb_nameOf_140 fu x2 x3 F (gup G 9 (F 13).toNatClampNeg x1)) else none
def mb_nameOf_118 (fu : Nat) (ag_34 : Int32 → Int32 → Int32 → Int32 → PF → PG → PR) (x1 : Int32) (x2 : Int32) (x3 : Int32) (x4 : Int32) (F : PF) (G : PG) : PR := if ixb x4 2100 = true then (ag_34 x1 x2 x3 (G 11 x4.toNatClampNeg) F G) else none
def mb_nameOf_115 (fu : Nat) (x4 : Int32) (F : PF) (G : PG) : PR := some (x4, F, G)
def mb_nameOf_110 (fu : Nat) (ag_34 : Int32 → Int32 → Int32 → Int32 → PF → PG → PR) (x1 : Int32) (x2 : Int32) (x3 : Int32) (x4 : Int32) (x5 : Int32) (F : PF) (G : PG) : PR := if x5 = (0 : Int32) then mb_nameOf_118 fu ag_34 x1 x2 x3 x4 F G else mb_nameOf_115 fu x4 F G
def mb_nameOf_102 (fu : Nat) (ag_34 : Int32 → Int32 → Int32 → Int32 → PF → PG → PR) (ag_61 : Int32 → Int32 → Int32 → Int32 → Int32 → Int32 → PF → PG → PR) (x1 : Int32) (x2 : Int32) (x3 : Int32) (x4 : Int32) (x6 : Int32) (z0 : Int32) (F : PF) (G : PG) : PR := ag_61 x1 x2 x3 x4 z0 (x6 + 1) F G
def mb_nameOf_101 (fu : Nat) (ag_34 : Int32 → Int32 → Int32 → Int32 → PF → PG → PR) (ag_61 : Int32 → Int32 → Int32 → Int32 → Int32 → Int32 → PF → PG → PR) (x1 : Int32) (x2 : Int32) (x3 : Int32) (x4 : Int32) (x6 : Int32) (F : PF) (G : PG) : PR := mb_nameOf_102 fu ag_34 ag_61 x1 x2 x3 x4 x6 0 F G
def mb_nameOf_97 (fu : Nat) (ag_34 : Int32 → Int32 → Int32 → Int32 → PF → PG → PR) (ag_61 : Int32 → Int32 → Int32 → Int32 → Int32 → Int32 → PF → PG → PR) (x1 : Int32) (x2 : Int32) (x3 : Int32) (x4 : Int32) (x6 : Int32) (F : PF) (G : PG) : PR := mb_nameOf_102 fu ag_34 ag_61 x1 x2 x3 x4 x6 1 F G
def mb_nameOf_94 (fu : Nat) (ag_34 : Int32 → Int32 → Int32 → Int32 → PF → PG → PR) (ag_61 : Int32 → Int32 → Int32 → Int32 → Int32 → Int32 → PF → PG → PR) (x1 : Int32) (x2 : Int32) (x3 : Int32) (x4 : Int32) (x6 : Int32) (z0 : Int32) (z1 : Int32) (F : PF) (G : PG) : PR := if z1 = z0 then mb_nameOf_97 fu ag_34 ag_61 x1 x2 x3 x4 x6 F G else mb_nameOf_101 fu ag_34 ag_61 x1 x2 x3 x4 x6 F G
def mb_nameOf_86 (fu : Nat) (ag_34 : Int32 → Int32 → Int32 → Int32 → PF → PG → PR) (ag_61 : Int32 → Int32 → Int32 → Int32 → Int32 → Int32 → PF → PG → PR) (x1 : Int32) (x2 : Int32) (x3 : Int32) (x4 : Int32) (x6 : Int32) (z0 : Int32) (F : PF) (G : PG) : PR := (mf_at fu (x1 + x6) F G).bind (fun q => mb_nameOf_94 fu ag_34 ag_61 x1 x2 x3 x4 x6 q.1 z0 q.2.1 q.2.2)
def mb_nameOf_72 (fu : Nat) (ag_34 : Int32 → Int32 → Int32 → Int32 → PF → PG → PR) (ag_61 : Int32 → Int32 → Int32 → Int32 → Int32 → Int32 → PF → PG → PR) (x1 : Int32) (x2 : Int32) (x3 : Int32) (x4 : Int32) (x6 : Int32) (F : PF) (G : PG) : PR := if ixb x4 2100 = true then ((mf_at fu ((G 9 x4.toNatClampNeg) + x6) F G).bind (fun q => mb_nameOf_86 fu ag_34 ag_61 x1 x2 x3 x4 x6 q.1 q.2.1 q.2.2)) else none
def mb_nameOf_67 (fu : Nat) (ag_34 : Int32 → Int32 → Int32 → Int32 → PF → PG → PR) (ag_61 : Int32 → Int32 → Int32 → Int32 → Int32 → Int32 → PF → PG → PR) (x1 : Int32) (x2 : Int32) (x3 : Int32) (x4 : Int32) (x5 : Int32) (x6 : Int32) (F : PF) (G : PG) : PR := if x5 = (0 : Int32) then mb_nameOf_110 fu ag_34 x1 x2 x3 x4 x5 F G else mb_nameOf_72 fu ag_34 ag_61 x1 x2 x3 x4 x6 F G
def mb_nameOf_61 (fu : Nat) (ag_34 : Int32 → Int32 → Int32 → Int32 → PF → PG → PR) (ag_61 : Int32 → Int32 → Int32 → Int32 → Int32 → Int32 → PF → PG → PR) (x1 : Int32) (x2 : Int32) (x3 : Int32) (x4 : Int32) (x5 : Int32) (x6 : Int32) (F : PF) (G : PG) : PR := if x2 ≤ x6 then mb_nameOf_110 fu ag_34 x1 x2 x3 x4 x5 F G else mb_nameOf_67 fu ag_34 ag_61 x1 x2 x3 x4 x5 x6 F G
def ml_nameOf_61 (fu : Nat) (ag_34 : Int32 → Int32 → Int32 → Int32 → PF → PG → PR) : Nat → Int32 → Int32 → Int32 → Int32 → Int32 → Int32 → PF → PG → PR
  | 0 => fun _ _ _ _ _ _ _ _ => none
  | n + 1 => fun x1 x2 x3 x4 x5 x6 F G => mb_nameOf_61 fu ag_34 (ml_nameOf_61 fu ag_34 n) x1 x2 x3 x4 x5 x6 F G
def mb_nameOf_56 (fu : Nat) (ag_34 : Int32 → Int32 → Int32 → Int32 → PF → PG → PR) (x1 : Int32) (x2 : Int32) (x3 : Int32) (x4 : Int32) (z0 : Int32) (F : PF) (G : PG) : PR := ml_nameOf_61 fu ag_34 fu x1 x2 x3 x4 z0 0 F G
def mb_nameOf_55 (fu : Nat) (ag_34 : Int32 → Int32 → Int32 → Int32 → PF → PG → PR) (x1 : Int32) (x2 : Int32) (x3 : Int32) (x4 : Int32) (F : PF) (G : PG) : PR := mb_nameOf_56 fu ag_34 x1 x2 x3 x4 0 F G
def mb_nameOf_51 (fu : Nat) (ag_34 : Int32 → Int32 → Int32 → Int32 → PF → PG → PR) (x1 : Int32) (x2 : Int32) (x3 : Int32) (x4 : Int32) (F : PF) (G : PG) : PR := mb_nameOf_56 fu ag_34 x1 x2 x3 x4 1 F G
def mb_nameOf_40 (fu : Nat) (ag_34 : Int32 → Int32 → Int32 → Int32 → PF → PG → PR) (x1 : Int32) (x2 : Int32) (x3 : Int32) (x4 : Int32) (F : PF) (G : PG) : PR := if ixb x4 2100 = true then (if (G 10 x4.toNatClampNeg) = x2 then mb_nameOf_51 fu ag_34 x1 x2 x3 x4 F G else mb_nameOf_55 fu ag_34 x1 x2 x3 x4 F G) else none
def mb_nameOf_34 (fu : Nat) (ag_34 : Int32 → Int32 → Int32 → Int32 → PF → PG → PR) (x1 : Int32) (x2 : Int32) (x3 : Int32) (x4 : Int32) (F : PF) (G : PG) : PR := if x4 = (-1 : Int32) then mb_nameOf_130 fu x1 x2 x3 F G else mb_nameOf_40 fu ag_34 x1 x2 x3 x4 F G
def ml_nameOf_34 (fu : Nat) : Nat → Int32 → Int32 → Int32 → Int32 → PF → PG → PR
  | 0 => fun _ _ _ _ _ _ => none
  | n + 1 => fun x1 x2 x3 x4 F G => mb_nameOf_34 fu (ml_nameOf_34 fu n) x1 x2 x3 x4 F G
def mb_nameOf_17 (fu : Nat) (x1 : Int32) (x2 : Int32) (z0 : Int32) (z1 : Int32) (F : PF) (G : PG) : PR := if ixb (((z1 + (z0 * (3 : Int32))) + x2) - ((z1 + (z0 * (3 : Int32))) + x2) / (64 : Int32) * (64 : Int32)) 64 = true then (ml_nameOf_34 fu fu x1 x2 (((z1 + (z0 * (3 : Int32))) + x2) - ((z1 + (z0 * (3 : Int32))) + x2) / (64 : Int32) * (64 : Int32)) (G 12 (((z1 + (z0 * (3 : Int32))) + x2) - ((z1 + (z0 * (3 : Int32))) + x2) / (64 : Int32) * (64 : Int32)).toNatClampNeg) F G) else none
def mb_nameOf_5 (fu : Nat) (x1 : Int32) (x2 : Int32) (z0 : Int32) (F : PF) (G : PG) : PR := (mf_at fu ((x1 + x2) - (1 : Int32)) F G).bind (fun q => mb_nameOf_17 fu x1 x2 q.1 (z0 * (7 : Int32)) q.2.1 q.2.2)
def mb_nameOf_0 (fu : Nat) (x1 : Int32) (x2 : Int32) (F : PF) (G : PG) : PR := (mf_at fu x1 F G).bind (fun q => mb_nameOf_5 fu x1 x2 q.1 q.2.1 q.2.2)
def mf_nameOf (fu : Nat) (x1 : Int32) (x2 : Int32) (F : PF) (G : PG) : PR := mb_nameOf_0 fu x1 x2 F G
theorem mw_nameOf_185 (fu : Nat) {res : Int32 × PF × PG} (C : mMC p R s m args c A v RX12 cX12_nameOf 7 1 21) (hret : ∀ (H1 : Heap) (locs1 : List Loc) (ls1 : Array Slot) (pc : Nat), mMW s A v a res.2.1 res.2.2 H1 locs1 → narrow .int (.int res.1) = .int res.1 → decode cX12_nameOf pc = .ok (.ireturn, 1) → W p l e R s m args below meth c H1 locs1 0 0 Q (F0 m pc ls1 [.int res.1])) (F : PF) (G : PG) (hm : mb_nameOf_185 fu F G = some res) {H : Heap} {locs : List Loc} (hw : mMW s A v a F G H locs) {ls : Array Slot} (hl : lv_has ls 7 [(0, .ref (a 212))]) : W p l e R s m args below meth c H locs 0 0 Q (F0 m 185 ls []) := by
  have hx := C.1
  have hb := C.2.1
  unfold mb_nameOf_185 at hm
  refine lv_aload_n hx hb dX12_nameOf_185 rfl (lv_at hl 0 rfl) ?_
  refine mg_X12_181 C hw dX12_nameOf_186 ?_
  refine lv_iconst (v := 1) hx hb dX12_nameOf_189 (by decide) ?_
  refine lv_isub hx hb dX12_nameOf_190 ?_
  obtain rfl := Option.some.inj hm
  exact hret _ _ _ _ hw rfl dX12_nameOf_191
theorem mw_nameOf_175 (fu : Nat) {res : Int32 × PF × PG} (C : mMC p R s m args c A v RX12 cX12_nameOf 7 1 21) (hret : ∀ (H1 : Heap) (locs1 : List Loc) (ls1 : Array Slot) (pc : Nat), mMW s A v a res.2.1 res.2.2 H1 locs1 → narrow .int (.int res.1) = .int res.1 → decode cX12_nameOf pc = .ok (.ireturn, 1) → W p l e R s m args below meth c H1 locs1 0 0 Q (F0 m pc ls1 [.int res.1])) (F : PF) (G : PG) (hm : mb_nameOf_175 fu F G = some res) {H : Heap} {locs : List Loc} (hw : mMW s A v a F G H locs) {ls : Array Slot} (hl : lv_has ls 7 [(0, .ref (a 212))]) : W p l e R s m args below meth c H locs 0 0 Q (F0 m 175 ls []) := by
  have hx := C.1
  have hb := C.2.1
  unfold mb_nameOf_175 at hm
  refine lv_aload_n hx hb dX12_nameOf_175 rfl (lv_at hl 0 rfl) ?_
  refine lv_dup hx hb dX12_nameOf_176 rfl ?_
  refine mg_X12_181 C hw dX12_nameOf_177 ?_
  refine lv_iconst (v := 1) hx hb dX12_nameOf_180 (by decide) ?_
  refine lv_iadd hx hb dX12_nameOf_181 ?_
  refine mp_X12_181 C hw dX12_nameOf_182 (fun H locs hw => ?_)
  exact mw_nameOf_185 fu C hret (fup F 13 ((F 13) + (1 : Int32))) G hm hw (lv_sub hl [0] rfl)
theorem mw_nameOf_165 (fu : Nat) {res : Int32 × PF × PG} (C : mMC p R s m args c A v RX12 cX12_nameOf 7 1 21) (hret : ∀ (H1 : Heap) (locs1 : List Loc) (ls1 : Array Slot) (pc : Nat), mMW s A v a res.2.1 res.2.2 H1 locs1 → narrow .int (.int res.1) = .int res.1 → decode cX12_nameOf pc = .ok (.ireturn, 1) → W p l e R s m args below meth c H1 locs1 0 0 Q (F0 m pc ls1 [.int res.1])) (x3 : Int32) (F : PF) (G : PG) (hm : mb_nameOf_165 fu x3 F G = some res) {H : Heap} {locs : List Loc} (hw : mMW s A v a F G H locs) {ls : Array Slot} (hl : lv_has ls 7 [(0, .ref (a 212)), (3, .int x3)]) : W p l e R s m args below meth c H locs 0 0 Q (F0 m 165 ls []) := by
  have hx := C.1
  have hb := C.2.1
  unfold mb_nameOf_165 at hm
  refine lv_aload_n hx hb dX12_nameOf_165 rfl (lv_at hl 0 rfl) ?_
  refine mg_X12_34 C hw dX12_nameOf_166 ?_
  refine lv_iload_n hx hb dX12_nameOf_169 rfl (lv_at hl 1 rfl) ?_
  refine lv_aload_n hx hb dX12_nameOf_170 rfl (lv_at hl 0 rfl) ?_
  refine mg_X12_181 C hw dX12_nameOf_171 ?_
  obtain ⟨hi, hm⟩ := ix_elim hm
  refine mas_12 C hw hi dX12_nameOf_174 (fun H locs hw => ?_)
  exact mw_nameOf_175 fu C hret F (gup G 12 x3.toNatClampNeg (F 13)) hm hw (lv_sub hl [0] rfl)
theorem mw_nameOf_150 (fu : Nat) {res : Int32 × PF × PG} (C : mMC p R s m args c A v RX12 cX12_nameOf 7 1 21) (hret : ∀ (H1 : Heap) (locs1 : List Loc) (ls1 : Array Slot) (pc : Nat), mMW s A v a res.2.1 res.2.2 H1 locs1 → narrow .int (.int res.1) = .int res.1 → decode cX12_nameOf pc = .ok (.ireturn, 1) → W p l e R s m args below meth c H1 locs1 0 0 Q (F0 m pc ls1 [.int res.1])) (x3 : Int32) (F : PF) (G : PG) (hm : mb_nameOf_150 fu x3 F G = some res) {H : Heap} {locs : List Loc} (hw : mMW s A v a F G H locs) {ls : Array Slot} (hl : lv_has ls 7 [(0, .ref (a 212)), (3, .int x3)]) : W p l e R s m args below meth c H locs 0 0 Q (F0 m 150 ls []) := by
  have hx := C.1
  have hb := C.2.1
  unfold mb_nameOf_150 at hm
  refine lv_aload_n hx hb dX12_nameOf_150 rfl (lv_at hl 0 rfl) ?_
  refine mg_X12_31 C hw dX12_nameOf_151 ?_
  refine lv_aload_n hx hb dX12_nameOf_154 rfl (lv_at hl 0 rfl) ?_
  refine mg_X12_181 C hw dX12_nameOf_155 ?_
  refine lv_aload_n hx hb dX12_nameOf_158 rfl (lv_at hl 0 rfl) ?_
  refine mg_X12_34 C hw dX12_nameOf_159 ?_
  refine lv_iload_n hx hb dX12_nameOf_162 rfl (lv_at hl 1 rfl) ?_
  obtain ⟨hi, hm⟩ := ix_elim hm
  refine mal_12 C hw hi dX12_nameOf_163 ?_
  obtain ⟨hi, hm⟩ := ix_elim hm
  refine mas_11 C hw hi dX12_nameOf_164 (fun H locs hw => ?_)
  exact mw_nameOf_165 fu C hret x3 F (gup G 11 (F 13).toNatClampNeg (G 12 x3.toNatClampNeg)) hm hw (lv_sub hl [0, 1] rfl)
theorem mw_nameOf_140 (fu : Nat) {res : Int32 × PF × PG} (C : mMC p R s m args c A v RX12 cX12_nameOf 7 1 21) (hret : ∀ (H1 : Heap) (locs1 : List Loc) (ls1 : Array Slot) (pc : Nat), mMW s A v a res.2.1 res.2.2 H1 locs1 → narrow .int (.int res.1) = .int res.1 → decode cX12_nameOf pc = .ok (.ireturn, 1) → W p l e R s m args below meth c H1 locs1 0 0 Q (F0 m pc ls1 [.int res.1])) (x2 : Int32) (x3 : Int32) (F : PF) (G : PG) (hm : mb_nameOf_140 fu x2 x3 F G = some res) {H : Heap} {locs : List Loc} (hw : mMW s A v a F G H locs) {ls : Array Slot} (hl : lv_has ls 7 [(0, .ref (a 212)), (2, .int x2), (3, .int x3)]) : W p l e R s m args below meth c H locs 0 0 Q (F0 m 140 ls []) := by
  have hx := C.1
  have hb := C.2.1
  unfold mb_nameOf_140 at hm
  refine lv_aload_n hx hb dX12_nameOf_140 rfl (lv_at hl 0 rfl) ?_
  refine mg_X12_28 C hw dX12_nameOf_141 ?_
  refine lv_aload_n hx hb dX12_nameOf_144 rfl (lv_at hl 0 rfl) ?_
  refine mg_X12_181 C hw dX12_nameOf_145 ?_
  refine lv_iload_n hx hb dX12_nameOf_148 rfl (lv_at hl 1 rfl) ?_
  obtain ⟨hi, hm⟩ := ix_elim hm
  refine mas_10 C hw hi dX12_nameOf_149 (fun H locs hw => ?_)
  exact mw_nameOf_150 fu C hret x3 F (gup G 10 (F 13).toNatClampNeg x2) hm hw (lv_sub hl [0, 2] rfl)
theorem mw_nameOf_130 (fu : Nat) {res : Int32 × PF × PG} (C : mMC p R s m args c A v RX12 cX12_nameOf 7 1 21) (hret : ∀ (H1 : Heap) (locs1 : List Loc) (ls1 : Array Slot) (pc : Nat), mMW s A v a res.2.1 res.2.2 H1 locs1 → narrow .int (.int res.1) = .int res.1 → decode cX12_nameOf pc = .ok (.ireturn, 1) → W p l e R s m args below meth c H1 locs1 0 0 Q (F0 m pc ls1 [.int res.1])) (x1 : Int32) (x2 : Int32) (x3 : Int32) (F : PF) (G : PG) (hm : mb_nameOf_130 fu x1 x2 x3 F G = some res) {H : Heap} {locs : List Loc} (hw : mMW s A v a F G H locs) {ls : Array Slot} (hl : lv_has ls 7 [(0, .ref (a 212)), (1, .int x1), (2, .int x2), (3, .int x3)]) : W p l e R s m args below meth c H locs 0 0 Q (F0 m 130 ls []) := by
  have hx := C.1
  have hb := C.2.1
  unfold mb_nameOf_130 at hm
  refine lv_aload_n hx hb dX12_nameOf_130 rfl (lv_at hl 0 rfl) ?_
  refine mg_X12_25 C hw dX12_nameOf_131 ?_
  refine lv_aload_n hx hb dX12_nameOf_134 rfl (lv_at hl 0 rfl) ?_
  refine mg_X12_181 C hw dX12_nameOf_135 ?_
  refine lv_iload_n hx hb dX12_nameOf_138 rfl (lv_at hl 1 rfl) ?_
  obtain ⟨hi, hm⟩ := ix_elim hm
  refine mas_9 C hw hi dX12_nameOf_139 (fun H locs hw => ?_)
  exact mw_nameOf_140 fu C hret x2 x3 F (gup G 9 (F 13).toNatClampNeg x1) hm hw (lv_sub hl [0, 2, 3] rfl)
theorem mw_nameOf_118 (fu : Nat) {res : Int32 × PF × PG} (C : mMC p R s m args c A v RX12 cX12_nameOf 7 1 21) (hret : ∀ (H1 : Heap) (locs1 : List Loc) (ls1 : Array Slot) (pc : Nat), mMW s A v a res.2.1 res.2.2 H1 locs1 → narrow .int (.int res.1) = .int res.1 → decode cX12_nameOf pc = .ok (.ireturn, 1) → W p l e R s m args below meth c H1 locs1 0 0 Q (F0 m pc ls1 [.int res.1])) (ag_34 : Int32 → Int32 → Int32 → Int32 → PF → PG → PR) (hag_34 : ∀ (x1 : Int32) (x2 : Int32) (x3 : Int32) (x4 : Int32) (F : PF) (G : PG), ag_34 x1 x2 x3 x4 F G = some res → ∀ (H : Heap) (locs : List Loc) (ls : Array Slot), mMW s A v a F G H locs → lv_has ls 7 [(0, .ref (a 212)), (1, .int x1), (2, .int x2), (3, .int x3), (4, .int x4)] → W p l e R s m args below meth c H locs 0 0 Q (F0 m 34 ls [])) (x1 : Int32) (x2 : Int32) (x3 : Int32) (x4 : Int32) (F : PF) (G : PG) (hm : mb_nameOf_118 fu ag_34 x1 x2 x3 x4 F G = some res) {H : Heap} {locs : List Loc} (hw : mMW s A v a F G H locs) {ls : Array Slot} (hl : lv_has ls 7 [(0, .ref (a 212)), (1, .int x1), (2, .int x2), (3, .int x3), (4, .int x4)]) : W p l e R s m args below meth c H locs 0 0 Q (F0 m 118 ls []) := by
  have hx := C.1
  have hb := C.2.1
  unfold mb_nameOf_118 at hm
  refine lv_aload_n hx hb dX12_nameOf_118 rfl (lv_at hl 0 rfl) ?_
  refine mg_X12_31 C hw dX12_nameOf_119 ?_
  refine lv_iload hx hb dX12_nameOf_122 (lv_at hl 4 rfl) ?_
  obtain ⟨hi, hm⟩ := ix_elim hm
  refine mal_11 C hw hi dX12_nameOf_124 ?_
  refine lv_istore (lv' := [(4, .int (G 11 x4.toNatClampNeg)), (0, .ref (a 212)), (1, .int x1), (2, .int x2), (3, .int x3)]) hx hb dX12_nameOf_125 hl (by decide) rfl (fun ls hl => ?_)
  refine lv_goto (tgt := 34) hx hb dX12_nameOf_127 (by decide) ?_
  exact hag_34 x1 x2 x3 (G 11 x4.toNatClampNeg) F G hm _ _ _ hw (lv_sub hl [1, 2, 3, 4, 0] rfl)
theorem mw_nameOf_115 (fu : Nat) {res : Int32 × PF × PG} (C : mMC p R s m args c A v RX12 cX12_nameOf 7 1 21) (hret : ∀ (H1 : Heap) (locs1 : List Loc) (ls1 : Array Slot) (pc : Nat), mMW s A v a res.2.1 res.2.2 H1 locs1 → narrow .int (.int res.1) = .int res.1 → decode cX12_nameOf pc = .ok (.ireturn, 1) → W p l e R s m args below meth c H1 locs1 0 0 Q (F0 m pc ls1 [.int res.1])) (x4 : Int32) (F : PF) (G : PG) (hm : mb_nameOf_115 fu x4 F G = some res) {H : Heap} {locs : List Loc} (hw : mMW s A v a F G H locs) {ls : Array Slot} (hl : lv_has ls 7 [(4, .int x4)]) : W p l e R s m args below meth c H locs 0 0 Q (F0 m 115 ls []) := by
  have hx := C.1
  have hb := C.2.1
  unfold mb_nameOf_115 at hm
  refine lv_iload hx hb dX12_nameOf_115 (lv_at hl 0 rfl) ?_
  obtain rfl := Option.some.inj hm
  exact hret _ _ _ _ hw rfl dX12_nameOf_117
theorem mw_nameOf_110 (fu : Nat) {res : Int32 × PF × PG} (C : mMC p R s m args c A v RX12 cX12_nameOf 7 1 21) (hret : ∀ (H1 : Heap) (locs1 : List Loc) (ls1 : Array Slot) (pc : Nat), mMW s A v a res.2.1 res.2.2 H1 locs1 → narrow .int (.int res.1) = .int res.1 → decode cX12_nameOf pc = .ok (.ireturn, 1) → W p l e R s m args below meth c H1 locs1 0 0 Q (F0 m pc ls1 [.int res.1])) (ag_34 : Int32 → Int32 → Int32 → Int32 → PF → PG → PR) (hag_34 : ∀ (x1 : Int32) (x2 : Int32) (x3 : Int32) (x4 : Int32) (F : PF) (G : PG), ag_34 x1 x2 x3 x4 F G = some res → ∀ (H : Heap) (locs : List Loc) (ls : Array Slot), mMW s A v a F G H locs → lv_has ls 7 [(0, .ref (a 212)), (1, .int x1), (2, .int x2), (3, .int x3), (4, .int x4)] → W p l e R s m args below meth c H locs 0 0 Q (F0 m 34 ls [])) (x1 : Int32) (x2 : Int32) (x3 : Int32) (x4 : Int32) (x5 : Int32) (F : PF) (G : PG) (hm : mb_nameOf_110 fu ag_34 x1 x2 x3 x4 x5 F G = some res) {H : Heap} {locs : List Loc} (hw : mMW s A v a F G H locs) {ls : Array Slot} (hl : lv_has ls 7 [(0, .ref (a 212)), (1, .int x1), (2, .int x2), (3, .int x3), (4, .int x4), (5, .int x5)]) : W p l e R s m args below meth c H locs 0 0 Q (F0 m 110 ls []) := by
  have hx := C.1
  have hb := C.2.1
  unfold mb_nameOf_110 at hm
  refine lv_iload hx hb dX12_nameOf_110 (lv_at hl 5 rfl) ?_
  refine lv_if_eq (tgt := 118) hx hb dX12_nameOf_112 (by decide) (fun c_1 => ?_) (fun c_1 => ?_)
  · have hm := (if_pos c_1).symm.trans hm
    exact mw_nameOf_118 fu C hret ag_34 hag_34 x1 x2 x3 x4 F G hm hw (lv_sub hl [0, 1, 2, 3, 4] rfl)
  · have hm := (if_neg c_1).symm.trans hm
    exact mw_nameOf_115 fu C hret x4 F G hm hw (lv_sub hl [4] rfl)
theorem mw_nameOf_102 (fu : Nat) {res : Int32 × PF × PG} (C : mMC p R s m args c A v RX12 cX12_nameOf 7 1 21) (hret : ∀ (H1 : Heap) (locs1 : List Loc) (ls1 : Array Slot) (pc : Nat), mMW s A v a res.2.1 res.2.2 H1 locs1 → narrow .int (.int res.1) = .int res.1 → decode cX12_nameOf pc = .ok (.ireturn, 1) → W p l e R s m args below meth c H1 locs1 0 0 Q (F0 m pc ls1 [.int res.1])) (ag_34 : Int32 → Int32 → Int32 → Int32 → PF → PG → PR) (hag_34 : ∀ (x1 : Int32) (x2 : Int32) (x3 : Int32) (x4 : Int32) (F : PF) (G : PG), ag_34 x1 x2 x3 x4 F G = some res → ∀ (H : Heap) (locs : List Loc) (ls : Array Slot), mMW s A v a F G H locs → lv_has ls 7 [(0, .ref (a 212)), (1, .int x1), (2, .int x2), (3, .int x3), (4, .int x4)] → W p l e R s m args below meth c H locs 0 0 Q (F0 m 34 ls [])) (ag_61 : Int32 → Int32 → Int32 → Int32 → Int32 → Int32 → PF → PG → PR) (hag_61 : ∀ (x1 : Int32) (x2 : Int32) (x3 : Int32) (x4 : Int32) (x5 : Int32) (x6 : Int32) (F : PF) (G : PG), ag_61 x1 x2 x3 x4 x5 x6 F G = some res → ∀ (H : Heap) (locs : List Loc) (ls : Array Slot), mMW s A v a F G H locs → lv_has ls 7 [(0, .ref (a 212)), (1, .int x1), (2, .int x2), (3, .int x3), (4, .int x4), (5, .int x5), (6, .int x6)] → W p l e R s m args below meth c H locs 0 0 Q (F0 m 61 ls [])) (x1 : Int32) (x2 : Int32) (x3 : Int32) (x4 : Int32) (x6 : Int32) (z0 : Int32) (F : PF) (G : PG) (hm : mb_nameOf_102 fu ag_34 ag_61 x1 x2 x3 x4 x6 z0 F G = some res) {H : Heap} {locs : List Loc} (hw : mMW s A v a F G H locs) {ls : Array Slot} (hl : lv_has ls 7 [(0, .ref (a 212)), (1, .int x1), (2, .int x2), (3, .int x3), (4, .int x4), (6, .int x6)]) : W p l e R s m args below meth c H locs 0 0 Q (F0 m 102 ls [.int z0]) := by
  have hx := C.1
  have hb := C.2.1
  unfold mb_nameOf_102 at hm
  refine lv_istore (lv' := [(5, .int z0), (0, .ref (a 212)), (1, .int x1), (2, .int x2), (3, .int x3), (4, .int x4), (6, .int x6)]) hx hb dX12_nameOf_102 hl (by decide) rfl (fun ls hl => ?_)
  refine lv_iinc (v := (x6 + 1)) (lv' := [(6, .int (x6 + 1)), (5, .int z0), (0, .ref (a 212)), (1, .int x1), (2, .int x2), (3, .int x3), (4, .int x4)]) hx hb dX12_nameOf_104 hl (k := 6) rfl (by rfl) (by decide) rfl (fun ls hl => ?_)
  refine lv_goto (tgt := 61) hx hb dX12_nameOf_107 (by decide) ?_
  exact hag_61 x1 x2 x3 x4 z0 (x6 + 1) F G hm _ _ _ hw (lv_sub hl [2, 3, 4, 5, 6, 1, 0] rfl)
theorem mw_nameOf_101 (fu : Nat) {res : Int32 × PF × PG} (C : mMC p R s m args c A v RX12 cX12_nameOf 7 1 21) (hret : ∀ (H1 : Heap) (locs1 : List Loc) (ls1 : Array Slot) (pc : Nat), mMW s A v a res.2.1 res.2.2 H1 locs1 → narrow .int (.int res.1) = .int res.1 → decode cX12_nameOf pc = .ok (.ireturn, 1) → W p l e R s m args below meth c H1 locs1 0 0 Q (F0 m pc ls1 [.int res.1])) (ag_34 : Int32 → Int32 → Int32 → Int32 → PF → PG → PR) (hag_34 : ∀ (x1 : Int32) (x2 : Int32) (x3 : Int32) (x4 : Int32) (F : PF) (G : PG), ag_34 x1 x2 x3 x4 F G = some res → ∀ (H : Heap) (locs : List Loc) (ls : Array Slot), mMW s A v a F G H locs → lv_has ls 7 [(0, .ref (a 212)), (1, .int x1), (2, .int x2), (3, .int x3), (4, .int x4)] → W p l e R s m args below meth c H locs 0 0 Q (F0 m 34 ls [])) (ag_61 : Int32 → Int32 → Int32 → Int32 → Int32 → Int32 → PF → PG → PR) (hag_61 : ∀ (x1 : Int32) (x2 : Int32) (x3 : Int32) (x4 : Int32) (x5 : Int32) (x6 : Int32) (F : PF) (G : PG), ag_61 x1 x2 x3 x4 x5 x6 F G = some res → ∀ (H : Heap) (locs : List Loc) (ls : Array Slot), mMW s A v a F G H locs → lv_has ls 7 [(0, .ref (a 212)), (1, .int x1), (2, .int x2), (3, .int x3), (4, .int x4), (5, .int x5), (6, .int x6)] → W p l e R s m args below meth c H locs 0 0 Q (F0 m 61 ls [])) (x1 : Int32) (x2 : Int32) (x3 : Int32) (x4 : Int32) (x6 : Int32) (F : PF) (G : PG) (hm : mb_nameOf_101 fu ag_34 ag_61 x1 x2 x3 x4 x6 F G = some res) {H : Heap} {locs : List Loc} (hw : mMW s A v a F G H locs) {ls : Array Slot} (hl : lv_has ls 7 [(0, .ref (a 212)), (1, .int x1), (2, .int x2), (3, .int x3), (4, .int x4), (6, .int x6)]) : W p l e R s m args below meth c H locs 0 0 Q (F0 m 101 ls []) := by
  have hx := C.1
  have hb := C.2.1
  unfold mb_nameOf_101 at hm
  refine lv_iconst (v := 0) hx hb dX12_nameOf_101 (by decide) ?_
  exact mw_nameOf_102 fu C hret ag_34 hag_34 ag_61 hag_61 x1 x2 x3 x4 x6 0 F G hm hw (lv_sub hl [0, 1, 2, 3, 4, 5] rfl)
theorem mw_nameOf_97 (fu : Nat) {res : Int32 × PF × PG} (C : mMC p R s m args c A v RX12 cX12_nameOf 7 1 21) (hret : ∀ (H1 : Heap) (locs1 : List Loc) (ls1 : Array Slot) (pc : Nat), mMW s A v a res.2.1 res.2.2 H1 locs1 → narrow .int (.int res.1) = .int res.1 → decode cX12_nameOf pc = .ok (.ireturn, 1) → W p l e R s m args below meth c H1 locs1 0 0 Q (F0 m pc ls1 [.int res.1])) (ag_34 : Int32 → Int32 → Int32 → Int32 → PF → PG → PR) (hag_34 : ∀ (x1 : Int32) (x2 : Int32) (x3 : Int32) (x4 : Int32) (F : PF) (G : PG), ag_34 x1 x2 x3 x4 F G = some res → ∀ (H : Heap) (locs : List Loc) (ls : Array Slot), mMW s A v a F G H locs → lv_has ls 7 [(0, .ref (a 212)), (1, .int x1), (2, .int x2), (3, .int x3), (4, .int x4)] → W p l e R s m args below meth c H locs 0 0 Q (F0 m 34 ls [])) (ag_61 : Int32 → Int32 → Int32 → Int32 → Int32 → Int32 → PF → PG → PR) (hag_61 : ∀ (x1 : Int32) (x2 : Int32) (x3 : Int32) (x4 : Int32) (x5 : Int32) (x6 : Int32) (F : PF) (G : PG), ag_61 x1 x2 x3 x4 x5 x6 F G = some res → ∀ (H : Heap) (locs : List Loc) (ls : Array Slot), mMW s A v a F G H locs → lv_has ls 7 [(0, .ref (a 212)), (1, .int x1), (2, .int x2), (3, .int x3), (4, .int x4), (5, .int x5), (6, .int x6)] → W p l e R s m args below meth c H locs 0 0 Q (F0 m 61 ls [])) (x1 : Int32) (x2 : Int32) (x3 : Int32) (x4 : Int32) (x6 : Int32) (F : PF) (G : PG) (hm : mb_nameOf_97 fu ag_34 ag_61 x1 x2 x3 x4 x6 F G = some res) {H : Heap} {locs : List Loc} (hw : mMW s A v a F G H locs) {ls : Array Slot} (hl : lv_has ls 7 [(0, .ref (a 212)), (1, .int x1), (2, .int x2), (3, .int x3), (4, .int x4), (6, .int x6)]) : W p l e R s m args below meth c H locs 0 0 Q (F0 m 97 ls []) := by
  have hx := C.1
  have hb := C.2.1
  unfold mb_nameOf_97 at hm
  refine lv_iconst (v := 1) hx hb dX12_nameOf_97 (by decide) ?_
  refine lv_goto (tgt := 102) hx hb dX12_nameOf_98 (by decide) ?_
  exact mw_nameOf_102 fu C hret ag_34 hag_34 ag_61 hag_61 x1 x2 x3 x4 x6 1 F G hm hw (lv_sub hl [0, 1, 2, 3, 4, 5] rfl)
theorem mw_nameOf_94 (fu : Nat) {res : Int32 × PF × PG} (C : mMC p R s m args c A v RX12 cX12_nameOf 7 1 21) (hret : ∀ (H1 : Heap) (locs1 : List Loc) (ls1 : Array Slot) (pc : Nat), mMW s A v a res.2.1 res.2.2 H1 locs1 → narrow .int (.int res.1) = .int res.1 → decode cX12_nameOf pc = .ok (.ireturn, 1) → W p l e R s m args below meth c H1 locs1 0 0 Q (F0 m pc ls1 [.int res.1])) (ag_34 : Int32 → Int32 → Int32 → Int32 → PF → PG → PR) (hag_34 : ∀ (x1 : Int32) (x2 : Int32) (x3 : Int32) (x4 : Int32) (F : PF) (G : PG), ag_34 x1 x2 x3 x4 F G = some res → ∀ (H : Heap) (locs : List Loc) (ls : Array Slot), mMW s A v a F G H locs → lv_has ls 7 [(0, .ref (a 212)), (1, .int x1), (2, .int x2), (3, .int x3), (4, .int x4)] → W p l e R s m args below meth c H locs 0 0 Q (F0 m 34 ls [])) (ag_61 : Int32 → Int32 → Int32 → Int32 → Int32 → Int32 → PF → PG → PR) (hag_61 : ∀ (x1 : Int32) (x2 : Int32) (x3 : Int32) (x4 : Int32) (x5 : Int32) (x6 : Int32) (F : PF) (G : PG), ag_61 x1 x2 x3 x4 x5 x6 F G = some res → ∀ (H : Heap) (locs : List Loc) (ls : Array Slot), mMW s A v a F G H locs → lv_has ls 7 [(0, .ref (a 212)), (1, .int x1), (2, .int x2), (3, .int x3), (4, .int x4), (5, .int x5), (6, .int x6)] → W p l e R s m args below meth c H locs 0 0 Q (F0 m 61 ls [])) (x1 : Int32) (x2 : Int32) (x3 : Int32) (x4 : Int32) (x6 : Int32) (z0 : Int32) (z1 : Int32) (F : PF) (G : PG) (hm : mb_nameOf_94 fu ag_34 ag_61 x1 x2 x3 x4 x6 z0 z1 F G = some res) {H : Heap} {locs : List Loc} (hw : mMW s A v a F G H locs) {ls : Array Slot} (hl : lv_has ls 7 [(0, .ref (a 212)), (1, .int x1), (2, .int x2), (3, .int x3), (4, .int x4), (6, .int x6)]) : W p l e R s m args below meth c H locs 0 0 Q (F0 m 94 ls [.int z0, .int z1]) := by
  have hx := C.1
  have hb := C.2.1
  unfold mb_nameOf_94 at hm
  refine lv_icmp_ne (tgt := 101) hx hb dX12_nameOf_94 (by decide) (fun c_1 => ?_) (fun c_1 => ?_)
  · have hm := (if_neg c_1).symm.trans hm
    exact mw_nameOf_101 fu C hret ag_34 hag_34 ag_61 hag_61 x1 x2 x3 x4 x6 F G hm hw (lv_sub hl [0, 1, 2, 3, 4, 5] rfl)
  · have hm := (if_pos c_1).symm.trans hm
    exact mw_nameOf_97 fu C hret ag_34 hag_34 ag_61 hag_61 x1 x2 x3 x4 x6 F G hm hw (lv_sub hl [0, 1, 2, 3, 4, 5] rfl)
theorem mw_nameOf_86 (fu : Nat) {res : Int32 × PF × PG} (C : mMC p R s m args c A v RX12 cX12_nameOf 7 1 21) (hret : ∀ (H1 : Heap) (locs1 : List Loc) (ls1 : Array Slot) (pc : Nat), mMW s A v a res.2.1 res.2.2 H1 locs1 → narrow .int (.int res.1) = .int res.1 → decode cX12_nameOf pc = .ok (.ireturn, 1) → W p l e R s m args below meth c H1 locs1 0 0 Q (F0 m pc ls1 [.int res.1])) (ag_34 : Int32 → Int32 → Int32 → Int32 → PF → PG → PR) (hag_34 : ∀ (x1 : Int32) (x2 : Int32) (x3 : Int32) (x4 : Int32) (F : PF) (G : PG), ag_34 x1 x2 x3 x4 F G = some res → ∀ (H : Heap) (locs : List Loc) (ls : Array Slot), mMW s A v a F G H locs → lv_has ls 7 [(0, .ref (a 212)), (1, .int x1), (2, .int x2), (3, .int x3), (4, .int x4)] → W p l e R s m args below meth c H locs 0 0 Q (F0 m 34 ls [])) (ag_61 : Int32 → Int32 → Int32 → Int32 → Int32 → Int32 → PF → PG → PR) (hag_61 : ∀ (x1 : Int32) (x2 : Int32) (x3 : Int32) (x4 : Int32) (x5 : Int32) (x6 : Int32) (F : PF) (G : PG), ag_61 x1 x2 x3 x4 x5 x6 F G = some res → ∀ (H : Heap) (locs : List Loc) (ls : Array Slot), mMW s A v a F G H locs → lv_has ls 7 [(0, .ref (a 212)), (1, .int x1), (2, .int x2), (3, .int x3), (4, .int x4), (5, .int x5), (6, .int x6)] → W p l e R s m args below meth c H locs 0 0 Q (F0 m 61 ls [])) (x1 : Int32) (x2 : Int32) (x3 : Int32) (x4 : Int32) (x6 : Int32) (z0 : Int32) (F : PF) (G : PG) (hm : mb_nameOf_86 fu ag_34 ag_61 x1 x2 x3 x4 x6 z0 F G = some res) {H : Heap} {locs : List Loc} (hw : mMW s A v a F G H locs) {ls : Array Slot} (hl : lv_has ls 7 [(0, .ref (a 212)), (1, .int x1), (2, .int x2), (3, .int x3), (4, .int x4), (6, .int x6)]) : W p l e R s m args below meth c H locs 0 0 Q (F0 m 86 ls [.int z0]) := by
  have hx := C.1
  have hb := C.2.1
  unfold mb_nameOf_86 at hm
  refine lv_aload_n hx hb dX12_nameOf_86 rfl (lv_at hl 0 rfl) ?_
  refine lv_iload_n hx hb dX12_nameOf_87 rfl (lv_at hl 1 rfl) ?_
  refine lv_iload hx hb dX12_nameOf_88 (lv_at hl 5 rfl) ?_
  refine lv_iadd hx hb dX12_nameOf_90 ?_
  obtain ⟨⟨r1, F1, G1⟩, hc, hm⟩ := bind_elim hm
  refine mcallI (n := 1) (As := [.int (x1 + x6)]) (rest := [.int z0]) C hw (mk_at l v a _ fu (x1 + x6) F G r1 F1 G1 hc) (mrecv_X12 C hw) mm_38 mm_39 mm_40 mm_27 mm_41 (by decide +kernel) rfl (by omega) (by omega) hl.1 rfl (Nat.le_of_ble_eq_true rfl) dX12_nameOf_91 (fun H locs hw => ?_)
  exact mw_nameOf_94 fu C hret ag_34 hag_34 ag_61 hag_61 x1 x2 x3 x4 x6 r1 z0 F1 G1 hm hw (lv_sub hl [0, 1, 2, 3, 4, 5] rfl)
theorem mw_nameOf_72 (fu : Nat) {res : Int32 × PF × PG} (C : mMC p R s m args c A v RX12 cX12_nameOf 7 1 21) (hret : ∀ (H1 : Heap) (locs1 : List Loc) (ls1 : Array Slot) (pc : Nat), mMW s A v a res.2.1 res.2.2 H1 locs1 → narrow .int (.int res.1) = .int res.1 → decode cX12_nameOf pc = .ok (.ireturn, 1) → W p l e R s m args below meth c H1 locs1 0 0 Q (F0 m pc ls1 [.int res.1])) (ag_34 : Int32 → Int32 → Int32 → Int32 → PF → PG → PR) (hag_34 : ∀ (x1 : Int32) (x2 : Int32) (x3 : Int32) (x4 : Int32) (F : PF) (G : PG), ag_34 x1 x2 x3 x4 F G = some res → ∀ (H : Heap) (locs : List Loc) (ls : Array Slot), mMW s A v a F G H locs → lv_has ls 7 [(0, .ref (a 212)), (1, .int x1), (2, .int x2), (3, .int x3), (4, .int x4)] → W p l e R s m args below meth c H locs 0 0 Q (F0 m 34 ls [])) (ag_61 : Int32 → Int32 → Int32 → Int32 → Int32 → Int32 → PF → PG → PR) (hag_61 : ∀ (x1 : Int32) (x2 : Int32) (x3 : Int32) (x4 : Int32) (x5 : Int32) (x6 : Int32) (F : PF) (G : PG), ag_61 x1 x2 x3 x4 x5 x6 F G = some res → ∀ (H : Heap) (locs : List Loc) (ls : Array Slot), mMW s A v a F G H locs → lv_has ls 7 [(0, .ref (a 212)), (1, .int x1), (2, .int x2), (3, .int x3), (4, .int x4), (5, .int x5), (6, .int x6)] → W p l e R s m args below meth c H locs 0 0 Q (F0 m 61 ls [])) (x1 : Int32) (x2 : Int32) (x3 : Int32) (x4 : Int32) (x6 : Int32) (F : PF) (G : PG) (hm : mb_nameOf_72 fu ag_34 ag_61 x1 x2 x3 x4 x6 F G = some res) {H : Heap} {locs : List Loc} (hw : mMW s A v a F G H locs) {ls : Array Slot} (hl : lv_has ls 7 [(0, .ref (a 212)), (1, .int x1), (2, .int x2), (3, .int x3), (4, .int x4), (6, .int x6)]) : W p l e R s m args below meth c H locs 0 0 Q (F0 m 72 ls []) := by
  have hx := C.1
  have hb := C.2.1
  unfold mb_nameOf_72 at hm
  refine lv_aload_n hx hb dX12_nameOf_72 rfl (lv_at hl 0 rfl) ?_
  refine lv_aload_n hx hb dX12_nameOf_73 rfl (lv_at hl 0 rfl) ?_
  refine mg_X12_25 C hw dX12_nameOf_74 ?_
  refine lv_iload hx hb dX12_nameOf_77 (lv_at hl 4 rfl) ?_
  obtain ⟨hi, hm⟩ := ix_elim hm
  refine mal_9 C hw hi dX12_nameOf_79 ?_
  refine lv_iload hx hb dX12_nameOf_80 (lv_at hl 5 rfl) ?_
  refine lv_iadd hx hb dX12_nameOf_82 ?_
  obtain ⟨⟨r1, F1, G1⟩, hc, hm⟩ := bind_elim hm
  refine mcallI (n := 1) (As := [.int ((G 9 x4.toNatClampNeg) + x6)]) (rest := []) C hw (mk_at l v a _ fu ((G 9 x4.toNatClampNeg) + x6) F G r1 F1 G1 hc) (mrecv_X12 C hw) mm_38 mm_39 mm_40 mm_27 mm_41 (by decide +kernel) rfl (by omega) (by omega) hl.1 rfl (Nat.le_of_ble_eq_true rfl) dX12_nameOf_83 (fun H locs hw => ?_)
  exact mw_nameOf_86 fu C hret ag_34 hag_34 ag_61 hag_61 x1 x2 x3 x4 x6 r1 F1 G1 hm hw (lv_sub hl [0, 1, 2, 3, 4, 5] rfl)
theorem mw_nameOf_67 (fu : Nat) {res : Int32 × PF × PG} (C : mMC p R s m args c A v RX12 cX12_nameOf 7 1 21) (hret : ∀ (H1 : Heap) (locs1 : List Loc) (ls1 : Array Slot) (pc : Nat), mMW s A v a res.2.1 res.2.2 H1 locs1 → narrow .int (.int res.1) = .int res.1 → decode cX12_nameOf pc = .ok (.ireturn, 1) → W p l e R s m args below meth c H1 locs1 0 0 Q (F0 m pc ls1 [.int res.1])) (ag_34 : Int32 → Int32 → Int32 → Int32 → PF → PG → PR) (hag_34 : ∀ (x1 : Int32) (x2 : Int32) (x3 : Int32) (x4 : Int32) (F : PF) (G : PG), ag_34 x1 x2 x3 x4 F G = some res → ∀ (H : Heap) (locs : List Loc) (ls : Array Slot), mMW s A v a F G H locs → lv_has ls 7 [(0, .ref (a 212)), (1, .int x1), (2, .int x2), (3, .int x3), (4, .int x4)] → W p l e R s m args below meth c H locs 0 0 Q (F0 m 34 ls [])) (ag_61 : Int32 → Int32 → Int32 → Int32 → Int32 → Int32 → PF → PG → PR) (hag_61 : ∀ (x1 : Int32) (x2 : Int32) (x3 : Int32) (x4 : Int32) (x5 : Int32) (x6 : Int32) (F : PF) (G : PG), ag_61 x1 x2 x3 x4 x5 x6 F G = some res → ∀ (H : Heap) (locs : List Loc) (ls : Array Slot), mMW s A v a F G H locs → lv_has ls 7 [(0, .ref (a 212)), (1, .int x1), (2, .int x2), (3, .int x3), (4, .int x4), (5, .int x5), (6, .int x6)] → W p l e R s m args below meth c H locs 0 0 Q (F0 m 61 ls [])) (x1 : Int32) (x2 : Int32) (x3 : Int32) (x4 : Int32) (x5 : Int32) (x6 : Int32) (F : PF) (G : PG) (hm : mb_nameOf_67 fu ag_34 ag_61 x1 x2 x3 x4 x5 x6 F G = some res) {H : Heap} {locs : List Loc} (hw : mMW s A v a F G H locs) {ls : Array Slot} (hl : lv_has ls 7 [(0, .ref (a 212)), (1, .int x1), (2, .int x2), (3, .int x3), (4, .int x4), (5, .int x5), (6, .int x6)]) : W p l e R s m args below meth c H locs 0 0 Q (F0 m 67 ls []) := by
  have hx := C.1
  have hb := C.2.1
  unfold mb_nameOf_67 at hm
  refine lv_iload hx hb dX12_nameOf_67 (lv_at hl 5 rfl) ?_
  refine lv_if_eq (tgt := 110) hx hb dX12_nameOf_69 (by decide) (fun c_1 => ?_) (fun c_1 => ?_)
  · have hm := (if_pos c_1).symm.trans hm
    exact mw_nameOf_110 fu C hret ag_34 hag_34 x1 x2 x3 x4 x5 F G hm hw (lv_sub hl [0, 1, 2, 3, 4, 5] rfl)
  · have hm := (if_neg c_1).symm.trans hm
    exact mw_nameOf_72 fu C hret ag_34 hag_34 ag_61 hag_61 x1 x2 x3 x4 x6 F G hm hw (lv_sub hl [0, 1, 2, 3, 4, 6] rfl)
theorem mw_nameOf_61 (fu : Nat) {res : Int32 × PF × PG} (C : mMC p R s m args c A v RX12 cX12_nameOf 7 1 21) (hret : ∀ (H1 : Heap) (locs1 : List Loc) (ls1 : Array Slot) (pc : Nat), mMW s A v a res.2.1 res.2.2 H1 locs1 → narrow .int (.int res.1) = .int res.1 → decode cX12_nameOf pc = .ok (.ireturn, 1) → W p l e R s m args below meth c H1 locs1 0 0 Q (F0 m pc ls1 [.int res.1])) (ag_34 : Int32 → Int32 → Int32 → Int32 → PF → PG → PR) (hag_34 : ∀ (x1 : Int32) (x2 : Int32) (x3 : Int32) (x4 : Int32) (F : PF) (G : PG), ag_34 x1 x2 x3 x4 F G = some res → ∀ (H : Heap) (locs : List Loc) (ls : Array Slot), mMW s A v a F G H locs → lv_has ls 7 [(0, .ref (a 212)), (1, .int x1), (2, .int x2), (3, .int x3), (4, .int x4)] → W p l e R s m args below meth c H locs 0 0 Q (F0 m 34 ls [])) (ag_61 : Int32 → Int32 → Int32 → Int32 → Int32 → Int32 → PF → PG → PR) (hag_61 : ∀ (x1 : Int32) (x2 : Int32) (x3 : Int32) (x4 : Int32) (x5 : Int32) (x6 : Int32) (F : PF) (G : PG), ag_61 x1 x2 x3 x4 x5 x6 F G = some res → ∀ (H : Heap) (locs : List Loc) (ls : Array Slot), mMW s A v a F G H locs → lv_has ls 7 [(0, .ref (a 212)), (1, .int x1), (2, .int x2), (3, .int x3), (4, .int x4), (5, .int x5), (6, .int x6)] → W p l e R s m args below meth c H locs 0 0 Q (F0 m 61 ls [])) (x1 : Int32) (x2 : Int32) (x3 : Int32) (x4 : Int32) (x5 : Int32) (x6 : Int32) (F : PF) (G : PG) (hm : mb_nameOf_61 fu ag_34 ag_61 x1 x2 x3 x4 x5 x6 F G = some res) {H : Heap} {locs : List Loc} (hw : mMW s A v a F G H locs) {ls : Array Slot} (hl : lv_has ls 7 [(0, .ref (a 212)), (1, .int x1), (2, .int x2), (3, .int x3), (4, .int x4), (5, .int x5), (6, .int x6)]) : W p l e R s m args below meth c H locs 0 0 Q (F0 m 61 ls []) := by
  have hx := C.1
  have hb := C.2.1
  unfold mb_nameOf_61 at hm
  refine lv_iload hx hb dX12_nameOf_61 (lv_at hl 6 rfl) ?_
  refine lv_iload_n hx hb dX12_nameOf_63 rfl (lv_at hl 2 rfl) ?_
  refine lv_icmp_ge (tgt := 110) hx hb dX12_nameOf_64 (by decide) (fun c_1 => ?_) (fun c_1 => ?_)
  · have hm := (if_pos c_1).symm.trans hm
    exact mw_nameOf_110 fu C hret ag_34 hag_34 x1 x2 x3 x4 x5 F G hm hw (lv_sub hl [0, 1, 2, 3, 4, 5] rfl)
  · have hm := (if_neg c_1).symm.trans hm
    exact mw_nameOf_67 fu C hret ag_34 hag_34 ag_61 hag_61 x1 x2 x3 x4 x5 x6 F G hm hw (lv_sub hl [0, 1, 2, 3, 4, 5, 6] rfl)
theorem mwl_nameOf_61 (fu : Nat) {res : Int32 × PF × PG} (C : mMC p R s m args c A v RX12 cX12_nameOf 7 1 21) (hret : ∀ (H1 : Heap) (locs1 : List Loc) (ls1 : Array Slot) (pc : Nat), mMW s A v a res.2.1 res.2.2 H1 locs1 → narrow .int (.int res.1) = .int res.1 → decode cX12_nameOf pc = .ok (.ireturn, 1) → W p l e R s m args below meth c H1 locs1 0 0 Q (F0 m pc ls1 [.int res.1])) (ag_34 : Int32 → Int32 → Int32 → Int32 → PF → PG → PR) (hag_34 : ∀ (x1 : Int32) (x2 : Int32) (x3 : Int32) (x4 : Int32) (F : PF) (G : PG), ag_34 x1 x2 x3 x4 F G = some res → ∀ (H : Heap) (locs : List Loc) (ls : Array Slot), mMW s A v a F G H locs → lv_has ls 7 [(0, .ref (a 212)), (1, .int x1), (2, .int x2), (3, .int x3), (4, .int x4)] → W p l e R s m args below meth c H locs 0 0 Q (F0 m 34 ls [])) : ∀ (n : Nat) (x1 : Int32) (x2 : Int32) (x3 : Int32) (x4 : Int32) (x5 : Int32) (x6 : Int32) (F : PF) (G : PG) (hm : ml_nameOf_61 fu ag_34 n x1 x2 x3 x4 x5 x6 F G = some res) {H : Heap} {locs : List Loc} (hw : mMW s A v a F G H locs) {ls : Array Slot} (hl : lv_has ls 7 [(0, .ref (a 212)), (1, .int x1), (2, .int x2), (3, .int x3), (4, .int x4), (5, .int x5), (6, .int x6)]), W p l e R s m args below meth c H locs 0 0 Q (F0 m 61 ls []) := by
  intro n
  induction n with
  | zero =>
    intro x1 x2 x3 x4 x5 x6 F G hm
    exact no_elim (show (none : PR) = some res from hm)
  | succ n ih =>
    intro x1 x2 x3 x4 x5 x6 F G hm H locs hw ls hl
    exact mw_nameOf_61 fu C hret ag_34 hag_34 (ml_nameOf_61 fu ag_34 n) (fun x1 x2 x3 x4 x5 x6 F G hm H locs ls hw hl => ih x1 x2 x3 x4 x5 x6 F G hm hw hl) x1 x2 x3 x4 x5 x6 F G hm hw hl
theorem mw_nameOf_56 (fu : Nat) {res : Int32 × PF × PG} (C : mMC p R s m args c A v RX12 cX12_nameOf 7 1 21) (hret : ∀ (H1 : Heap) (locs1 : List Loc) (ls1 : Array Slot) (pc : Nat), mMW s A v a res.2.1 res.2.2 H1 locs1 → narrow .int (.int res.1) = .int res.1 → decode cX12_nameOf pc = .ok (.ireturn, 1) → W p l e R s m args below meth c H1 locs1 0 0 Q (F0 m pc ls1 [.int res.1])) (ag_34 : Int32 → Int32 → Int32 → Int32 → PF → PG → PR) (hag_34 : ∀ (x1 : Int32) (x2 : Int32) (x3 : Int32) (x4 : Int32) (F : PF) (G : PG), ag_34 x1 x2 x3 x4 F G = some res → ∀ (H : Heap) (locs : List Loc) (ls : Array Slot), mMW s A v a F G H locs → lv_has ls 7 [(0, .ref (a 212)), (1, .int x1), (2, .int x2), (3, .int x3), (4, .int x4)] → W p l e R s m args below meth c H locs 0 0 Q (F0 m 34 ls [])) (x1 : Int32) (x2 : Int32) (x3 : Int32) (x4 : Int32) (z0 : Int32) (F : PF) (G : PG) (hm : mb_nameOf_56 fu ag_34 x1 x2 x3 x4 z0 F G = some res) {H : Heap} {locs : List Loc} (hw : mMW s A v a F G H locs) {ls : Array Slot} (hl : lv_has ls 7 [(0, .ref (a 212)), (1, .int x1), (2, .int x2), (3, .int x3), (4, .int x4)]) : W p l e R s m args below meth c H locs 0 0 Q (F0 m 56 ls [.int z0]) := by
  have hx := C.1
  have hb := C.2.1
  unfold mb_nameOf_56 at hm
  refine lv_istore (lv' := [(5, .int z0), (0, .ref (a 212)), (1, .int x1), (2, .int x2), (3, .int x3), (4, .int x4)]) hx hb dX12_nameOf_56 hl (by decide) rfl (fun ls hl => ?_)
  refine lv_iconst (v := 0) hx hb dX12_nameOf_58 (by decide) ?_
  refine lv_istore (lv' := [(6, .int 0), (5, .int z0), (0, .ref (a 212)), (1, .int x1), (2, .int x2), (3, .int x3), (4, .int x4)]) hx hb dX12_nameOf_59 hl (by decide) rfl (fun ls hl => ?_)
  exact mwl_nameOf_61 fu C hret ag_34 hag_34 fu x1 x2 x3 x4 z0 0 F G hm hw (lv_sub hl [2, 3, 4, 5, 6, 1, 0] rfl)
theorem mw_nameOf_55 (fu : Nat) {res : Int32 × PF × PG} (C : mMC p R s m args c A v RX12 cX12_nameOf 7 1 21) (hret : ∀ (H1 : Heap) (locs1 : List Loc) (ls1 : Array Slot) (pc : Nat), mMW s A v a res.2.1 res.2.2 H1 locs1 → narrow .int (.int res.1) = .int res.1 → decode cX12_nameOf pc = .ok (.ireturn, 1) → W p l e R s m args below meth c H1 locs1 0 0 Q (F0 m pc ls1 [.int res.1])) (ag_34 : Int32 → Int32 → Int32 → Int32 → PF → PG → PR) (hag_34 : ∀ (x1 : Int32) (x2 : Int32) (x3 : Int32) (x4 : Int32) (F : PF) (G : PG), ag_34 x1 x2 x3 x4 F G = some res → ∀ (H : Heap) (locs : List Loc) (ls : Array Slot), mMW s A v a F G H locs → lv_has ls 7 [(0, .ref (a 212)), (1, .int x1), (2, .int x2), (3, .int x3), (4, .int x4)] → W p l e R s m args below meth c H locs 0 0 Q (F0 m 34 ls [])) (x1 : Int32) (x2 : Int32) (x3 : Int32) (x4 : Int32) (F : PF) (G : PG) (hm : mb_nameOf_55 fu ag_34 x1 x2 x3 x4 F G = some res) {H : Heap} {locs : List Loc} (hw : mMW s A v a F G H locs) {ls : Array Slot} (hl : lv_has ls 7 [(0, .ref (a 212)), (1, .int x1), (2, .int x2), (3, .int x3), (4, .int x4)]) : W p l e R s m args below meth c H locs 0 0 Q (F0 m 55 ls []) := by
  have hx := C.1
  have hb := C.2.1
  unfold mb_nameOf_55 at hm
  refine lv_iconst (v := 0) hx hb dX12_nameOf_55 (by decide) ?_
  exact mw_nameOf_56 fu C hret ag_34 hag_34 x1 x2 x3 x4 0 F G hm hw (lv_sub hl [0, 1, 2, 3, 4] rfl)
theorem mw_nameOf_51 (fu : Nat) {res : Int32 × PF × PG} (C : mMC p R s m args c A v RX12 cX12_nameOf 7 1 21) (hret : ∀ (H1 : Heap) (locs1 : List Loc) (ls1 : Array Slot) (pc : Nat), mMW s A v a res.2.1 res.2.2 H1 locs1 → narrow .int (.int res.1) = .int res.1 → decode cX12_nameOf pc = .ok (.ireturn, 1) → W p l e R s m args below meth c H1 locs1 0 0 Q (F0 m pc ls1 [.int res.1])) (ag_34 : Int32 → Int32 → Int32 → Int32 → PF → PG → PR) (hag_34 : ∀ (x1 : Int32) (x2 : Int32) (x3 : Int32) (x4 : Int32) (F : PF) (G : PG), ag_34 x1 x2 x3 x4 F G = some res → ∀ (H : Heap) (locs : List Loc) (ls : Array Slot), mMW s A v a F G H locs → lv_has ls 7 [(0, .ref (a 212)), (1, .int x1), (2, .int x2), (3, .int x3), (4, .int x4)] → W p l e R s m args below meth c H locs 0 0 Q (F0 m 34 ls [])) (x1 : Int32) (x2 : Int32) (x3 : Int32) (x4 : Int32) (F : PF) (G : PG) (hm : mb_nameOf_51 fu ag_34 x1 x2 x3 x4 F G = some res) {H : Heap} {locs : List Loc} (hw : mMW s A v a F G H locs) {ls : Array Slot} (hl : lv_has ls 7 [(0, .ref (a 212)), (1, .int x1), (2, .int x2), (3, .int x3), (4, .int x4)]) : W p l e R s m args below meth c H locs 0 0 Q (F0 m 51 ls []) := by
  have hx := C.1
  have hb := C.2.1
  unfold mb_nameOf_51 at hm
  refine lv_iconst (v := 1) hx hb dX12_nameOf_51 (by decide) ?_
  refine lv_goto (tgt := 56) hx hb dX12_nameOf_52 (by decide) ?_
  exact mw_nameOf_56 fu C hret ag_34 hag_34 x1 x2 x3 x4 1 F G hm hw (lv_sub hl [0, 1, 2, 3, 4] rfl)
theorem mw_nameOf_40 (fu : Nat) {res : Int32 × PF × PG} (C : mMC p R s m args c A v RX12 cX12_nameOf 7 1 21) (hret : ∀ (H1 : Heap) (locs1 : List Loc) (ls1 : Array Slot) (pc : Nat), mMW s A v a res.2.1 res.2.2 H1 locs1 → narrow .int (.int res.1) = .int res.1 → decode cX12_nameOf pc = .ok (.ireturn, 1) → W p l e R s m args below meth c H1 locs1 0 0 Q (F0 m pc ls1 [.int res.1])) (ag_34 : Int32 → Int32 → Int32 → Int32 → PF → PG → PR) (hag_34 : ∀ (x1 : Int32) (x2 : Int32) (x3 : Int32) (x4 : Int32) (F : PF) (G : PG), ag_34 x1 x2 x3 x4 F G = some res → ∀ (H : Heap) (locs : List Loc) (ls : Array Slot), mMW s A v a F G H locs → lv_has ls 7 [(0, .ref (a 212)), (1, .int x1), (2, .int x2), (3, .int x3), (4, .int x4)] → W p l e R s m args below meth c H locs 0 0 Q (F0 m 34 ls [])) (x1 : Int32) (x2 : Int32) (x3 : Int32) (x4 : Int32) (F : PF) (G : PG) (hm : mb_nameOf_40 fu ag_34 x1 x2 x3 x4 F G = some res) {H : Heap} {locs : List Loc} (hw : mMW s A v a F G H locs) {ls : Array Slot} (hl : lv_has ls 7 [(0, .ref (a 212)), (1, .int x1), (2, .int x2), (3, .int x3), (4, .int x4)]) : W p l e R s m args below meth c H locs 0 0 Q (F0 m 40 ls []) := by
  have hx := C.1
  have hb := C.2.1
  unfold mb_nameOf_40 at hm
  refine lv_aload_n hx hb dX12_nameOf_40 rfl (lv_at hl 0 rfl) ?_
  refine mg_X12_28 C hw dX12_nameOf_41 ?_
  refine lv_iload hx hb dX12_nameOf_44 (lv_at hl 4 rfl) ?_
  obtain ⟨hi, hm⟩ := ix_elim hm
  refine mal_10 C hw hi dX12_nameOf_46 ?_
  refine lv_iload_n hx hb dX12_nameOf_47 rfl (lv_at hl 2 rfl) ?_
  refine lv_icmp_ne (tgt := 55) hx hb dX12_nameOf_48 (by decide) (fun c_1 => ?_) (fun c_1 => ?_)
  · have hm := (if_neg c_1).symm.trans hm
    exact mw_nameOf_55 fu C hret ag_34 hag_34 x1 x2 x3 x4 F G hm hw (lv_sub hl [0, 1, 2, 3, 4] rfl)
  · have hm := (if_pos c_1).symm.trans hm
    exact mw_nameOf_51 fu C hret ag_34 hag_34 x1 x2 x3 x4 F G hm hw (lv_sub hl [0, 1, 2, 3, 4] rfl)
theorem mw_nameOf_34 (fu : Nat) {res : Int32 × PF × PG} (C : mMC p R s m args c A v RX12 cX12_nameOf 7 1 21) (hret : ∀ (H1 : Heap) (locs1 : List Loc) (ls1 : Array Slot) (pc : Nat), mMW s A v a res.2.1 res.2.2 H1 locs1 → narrow .int (.int res.1) = .int res.1 → decode cX12_nameOf pc = .ok (.ireturn, 1) → W p l e R s m args below meth c H1 locs1 0 0 Q (F0 m pc ls1 [.int res.1])) (ag_34 : Int32 → Int32 → Int32 → Int32 → PF → PG → PR) (hag_34 : ∀ (x1 : Int32) (x2 : Int32) (x3 : Int32) (x4 : Int32) (F : PF) (G : PG), ag_34 x1 x2 x3 x4 F G = some res → ∀ (H : Heap) (locs : List Loc) (ls : Array Slot), mMW s A v a F G H locs → lv_has ls 7 [(0, .ref (a 212)), (1, .int x1), (2, .int x2), (3, .int x3), (4, .int x4)] → W p l e R s m args below meth c H locs 0 0 Q (F0 m 34 ls [])) (x1 : Int32) (x2 : Int32) (x3 : Int32) (x4 : Int32) (F : PF) (G : PG) (hm : mb_nameOf_34 fu ag_34 x1 x2 x3 x4 F G = some res) {H : Heap} {locs : List Loc} (hw : mMW s A v a F G H locs) {ls : Array Slot} (hl : lv_has ls 7 [(0, .ref (a 212)), (1, .int x1), (2, .int x2), (3, .int x3), (4, .int x4)]) : W p l e R s m args below meth c H locs 0 0 Q (F0 m 34 ls []) := by
  have hx := C.1
  have hb := C.2.1
  unfold mb_nameOf_34 at hm
  refine lv_iload hx hb dX12_nameOf_34 (lv_at hl 4 rfl) ?_
  refine lv_iconst (v := (-1)) hx hb dX12_nameOf_36 (by decide) ?_
  refine lv_icmp_eq (tgt := 130) hx hb dX12_nameOf_37 (by decide) (fun c_1 => ?_) (fun c_1 => ?_)
  · have hm := (if_pos c_1).symm.trans hm
    exact mw_nameOf_130 fu C hret x1 x2 x3 F G hm hw (lv_sub hl [0, 1, 2, 3] rfl)
  · have hm := (if_neg c_1).symm.trans hm
    exact mw_nameOf_40 fu C hret ag_34 hag_34 x1 x2 x3 x4 F G hm hw (lv_sub hl [0, 1, 2, 3, 4] rfl)
theorem mwl_nameOf_34 (fu : Nat) {res : Int32 × PF × PG} (C : mMC p R s m args c A v RX12 cX12_nameOf 7 1 21) (hret : ∀ (H1 : Heap) (locs1 : List Loc) (ls1 : Array Slot) (pc : Nat), mMW s A v a res.2.1 res.2.2 H1 locs1 → narrow .int (.int res.1) = .int res.1 → decode cX12_nameOf pc = .ok (.ireturn, 1) → W p l e R s m args below meth c H1 locs1 0 0 Q (F0 m pc ls1 [.int res.1])) : ∀ (n : Nat) (x1 : Int32) (x2 : Int32) (x3 : Int32) (x4 : Int32) (F : PF) (G : PG) (hm : ml_nameOf_34 fu n x1 x2 x3 x4 F G = some res) {H : Heap} {locs : List Loc} (hw : mMW s A v a F G H locs) {ls : Array Slot} (hl : lv_has ls 7 [(0, .ref (a 212)), (1, .int x1), (2, .int x2), (3, .int x3), (4, .int x4)]), W p l e R s m args below meth c H locs 0 0 Q (F0 m 34 ls []) := by
  intro n
  induction n with
  | zero =>
    intro x1 x2 x3 x4 F G hm
    exact no_elim (show (none : PR) = some res from hm)
  | succ n ih =>
    intro x1 x2 x3 x4 F G hm H locs hw ls hl
    exact mw_nameOf_34 fu C hret (ml_nameOf_34 fu n) (fun x1 x2 x3 x4 F G hm H locs ls hw hl => ih x1 x2 x3 x4 F G hm hw hl) x1 x2 x3 x4 F G hm hw hl
theorem mw_nameOf_17 (fu : Nat) {res : Int32 × PF × PG} (C : mMC p R s m args c A v RX12 cX12_nameOf 7 1 21) (hret : ∀ (H1 : Heap) (locs1 : List Loc) (ls1 : Array Slot) (pc : Nat), mMW s A v a res.2.1 res.2.2 H1 locs1 → narrow .int (.int res.1) = .int res.1 → decode cX12_nameOf pc = .ok (.ireturn, 1) → W p l e R s m args below meth c H1 locs1 0 0 Q (F0 m pc ls1 [.int res.1])) (x1 : Int32) (x2 : Int32) (z0 : Int32) (z1 : Int32) (F : PF) (G : PG) (hm : mb_nameOf_17 fu x1 x2 z0 z1 F G = some res) {H : Heap} {locs : List Loc} (hw : mMW s A v a F G H locs) {ls : Array Slot} (hl : lv_has ls 7 [(0, .ref (a 212)), (1, .int x1), (2, .int x2)]) : W p l e R s m args below meth c H locs 0 0 Q (F0 m 17 ls [.int z0, .int z1]) := by
  have hx := C.1
  have hb := C.2.1
  unfold mb_nameOf_17 at hm
  refine lv_iconst (v := 3) hx hb dX12_nameOf_17 (by decide) ?_
  refine lv_imul hx hb dX12_nameOf_18 ?_
  refine lv_iadd hx hb dX12_nameOf_19 ?_
  refine lv_iload_n hx hb dX12_nameOf_20 rfl (lv_at hl 2 rfl) ?_
  refine lv_iadd hx hb dX12_nameOf_21 ?_
  refine lv_bipush (v := 64) hx hb dX12_nameOf_22 (by decide) ?_
  refine lv_irem hx hb dX12_nameOf_24 (by decide) ?_
  refine lv_istore_n (lv' := [(3, .int (((z1 + (z0 * (3 : Int32))) + x2) - ((z1 + (z0 * (3 : Int32))) + x2) / (64 : Int32) * (64 : Int32))), (0, .ref (a 212)), (1, .int x1), (2, .int x2)]) hx hb dX12_nameOf_25 rfl hl (by decide) rfl (fun ls hl => ?_)
  refine lv_aload_n hx hb dX12_nameOf_26 rfl (lv_at hl 1 rfl) ?_
  refine mg_X12_34 C hw dX12_nameOf_27 ?_
  refine lv_iload_n hx hb dX12_nameOf_30 rfl (lv_at hl 0 rfl) ?_
  obtain ⟨hi, hm⟩ := ix_elim hm
  refine mal_12 C hw hi dX12_nameOf_31 ?_
  refine lv_istore (lv' := [(4, .int (G 12 (((z1 + (z0 * (3 : Int32))) + x2) - ((z1 + (z0 * (3 : Int32))) + x2) / (64 : Int32) * (64 : Int32)).toNatClampNeg)), (3, .int (((z1 + (z0 * (3 : Int32))) + x2) - ((z1 + (z0 * (3 : Int32))) + x2) / (64 : Int32) * (64 : Int32))), (0, .ref (a 212)), (1, .int x1), (2, .int x2)]) hx hb dX12_nameOf_32 hl (by decide) rfl (fun ls hl => ?_)
  exact mwl_nameOf_34 fu C hret fu x1 x2 (((z1 + (z0 * (3 : Int32))) + x2) - ((z1 + (z0 * (3 : Int32))) + x2) / (64 : Int32) * (64 : Int32)) (G 12 (((z1 + (z0 * (3 : Int32))) + x2) - ((z1 + (z0 * (3 : Int32))) + x2) / (64 : Int32) * (64 : Int32)).toNatClampNeg) F G hm hw (lv_sub hl [2, 3, 4, 1, 0] rfl)
theorem mw_nameOf_5 (fu : Nat) {res : Int32 × PF × PG} (C : mMC p R s m args c A v RX12 cX12_nameOf 7 1 21) (hret : ∀ (H1 : Heap) (locs1 : List Loc) (ls1 : Array Slot) (pc : Nat), mMW s A v a res.2.1 res.2.2 H1 locs1 → narrow .int (.int res.1) = .int res.1 → decode cX12_nameOf pc = .ok (.ireturn, 1) → W p l e R s m args below meth c H1 locs1 0 0 Q (F0 m pc ls1 [.int res.1])) (x1 : Int32) (x2 : Int32) (z0 : Int32) (F : PF) (G : PG) (hm : mb_nameOf_5 fu x1 x2 z0 F G = some res) {H : Heap} {locs : List Loc} (hw : mMW s A v a F G H locs) {ls : Array Slot} (hl : lv_has ls 7 [(0, .ref (a 212)), (1, .int x1), (2, .int x2)]) : W p l e R s m args below meth c H locs 0 0 Q (F0 m 5 ls [.int z0]) := by
  have hx := C.1
  have hb := C.2.1
  unfold mb_nameOf_5 at hm
  refine lv_bipush (v := 7) hx hb dX12_nameOf_5 (by decide) ?_
  refine lv_imul hx hb dX12_nameOf_7 ?_
  refine lv_aload_n hx hb dX12_nameOf_8 rfl (lv_at hl 0 rfl) ?_
  refine lv_iload_n hx hb dX12_nameOf_9 rfl (lv_at hl 1 rfl) ?_
  refine lv_iload_n hx hb dX12_nameOf_10 rfl (lv_at hl 2 rfl) ?_
  refine lv_iadd hx hb dX12_nameOf_11 ?_
  refine lv_iconst (v := 1) hx hb dX12_nameOf_12 (by decide) ?_
  refine lv_isub hx hb dX12_nameOf_13 ?_
  obtain ⟨⟨r1, F1, G1⟩, hc, hm⟩ := bind_elim hm
  refine mcallI (n := 1) (As := [.int ((x1 + x2) - (1 : Int32))]) (rest := [.int (z0 * (7 : Int32))]) C hw (mk_at l v a _ fu ((x1 + x2) - (1 : Int32)) F G r1 F1 G1 hc) (mrecv_X12 C hw) mm_38 mm_39 mm_40 mm_27 mm_41 (by decide +kernel) rfl (by omega) (by omega) hl.1 rfl (Nat.le_of_ble_eq_true rfl) dX12_nameOf_14 (fun H locs hw => ?_)
  exact mw_nameOf_17 fu C hret x1 x2 r1 (z0 * (7 : Int32)) F1 G1 hm hw (lv_sub hl [0, 1, 2] rfl)
theorem mw_nameOf_0 (fu : Nat) {res : Int32 × PF × PG} (C : mMC p R s m args c A v RX12 cX12_nameOf 7 1 21) (hret : ∀ (H1 : Heap) (locs1 : List Loc) (ls1 : Array Slot) (pc : Nat), mMW s A v a res.2.1 res.2.2 H1 locs1 → narrow .int (.int res.1) = .int res.1 → decode cX12_nameOf pc = .ok (.ireturn, 1) → W p l e R s m args below meth c H1 locs1 0 0 Q (F0 m pc ls1 [.int res.1])) (x1 : Int32) (x2 : Int32) (F : PF) (G : PG) (hm : mb_nameOf_0 fu x1 x2 F G = some res) {H : Heap} {locs : List Loc} (hw : mMW s A v a F G H locs) {ls : Array Slot} (hl : lv_has ls 7 [(0, .ref (a 212)), (1, .int x1), (2, .int x2)]) : W p l e R s m args below meth c H locs 0 0 Q (F0 m 0 ls []) := by
  have hx := C.1
  have hb := C.2.1
  unfold mb_nameOf_0 at hm
  refine lv_aload_n hx hb dX12_nameOf_0 rfl (lv_at hl 0 rfl) ?_
  refine lv_iload_n hx hb dX12_nameOf_1 rfl (lv_at hl 1 rfl) ?_
  obtain ⟨⟨r1, F1, G1⟩, hc, hm⟩ := bind_elim hm
  refine mcallI (n := 1) (As := [.int x1]) (rest := []) C hw (mk_at l v a _ fu x1 F G r1 F1 G1 hc) (mrecv_X12 C hw) mm_38 mm_39 mm_40 mm_27 mm_41 (by decide +kernel) rfl (by omega) (by omega) hl.1 rfl (Nat.le_of_ble_eq_true rfl) dX12_nameOf_2 (fun H locs hw => ?_)
  exact mw_nameOf_5 fu C hret x1 x2 r1 F1 G1 hm hw (lv_sub hl [0, 1, 2] rfl)
theorem mk_nameOf (l : Launch) (v : EV) (a : Nat → Nat) (sz : Nat) (fu : Nat) (x1 : Int32) (x2 : Int32) (F : PF) (G : PG) (r : Int32) (F1 : PF) (G1 : PG) (hm : mf_nameOf fu x1 x2 F G = some (r, F1, G1)) : mMI l yX12_nameOf cX12_nameOf 7 (some .int) 1 21 v a sz [.ref (a 212), .int x1, .int x2] F G r F1 G1 := mMI.of (ty := .int) (by decide) rfl (Nat.le_of_ble_eq_true rfl) (fun p e R s m args below meth c Q A H locs ls C hw hl hret => mw_nameOf_0 fu (res := (r, F1, G1)) C hret x1 x2 F G hm hw hl)
def mb_skip_168 (fu : Nat) (x2 : Int32) (F : PF) (G : PG) : PR := some (x2, F, G)
def mb_skip_30 (fu : Nat) (ag_2 : Int32 → PF → PG → PR) (x2 : Int32) (F : PF) (G : PG) : PR := ag_2 (x2 + 1) F G
def mb_skip_166 (fu : Nat) (x2 : Int32) (F : PF) (G : PG) : PR := some (x2, F, G)
def mb_skip_159 (fu : Nat) (ag_2 : Int32 → PF → PG → PR) (x3 : Int32) (F : PF) (G : PG) : PR := ag_2 (x3 + (2 : Int32)) F G
def mb_skip_157 (fu : Nat) (F : PF) (G : PG) : PR := some ((-1), F, G)
def mb_skip_152 (fu : Nat) (x2 : Int32) (F : PF) (G : PG) : PR := mb_skip_157 fu (fup F 8 x2) G
def mb_skip_144 (fu : Nat) (ag_2 : Int32 → PF → PG → PR) (x2 : Int32) (x3 : Int32) (F : PF) (G : PG) : PR := if x3 < (F 3) then mb_skip_159 fu ag_2 x3 F G else mb_skip_152 fu x2 F G
def mb_skip_138 (fu : Nat) (ag_2 : Int32 → PF → PG → PR) (ag_108 : Int32 → Int32 → PF → PG → PR) (x2 : Int32) (x3 : Int32) (F : PF) (G : PG) : PR := ag_108 x2 (x3 + 1) F G
def mb_skip_133 (fu : Nat) (ag_2 : Int32 → PF → PG → PR) (ag_108 : Int32 → Int32 → PF → PG → PR) (x2 : Int32) (x3 : Int32) (z0 : Int32) (F : PF) (G : PG) : PR := if z0 = (47 : Int32) then mb_skip_144 fu ag_2 x2 x3 F G else mb_skip_138 fu ag_2 ag_108 x2 x3 F G
def mb_skip_126 (fu : Nat) (ag_2 : Int32 → PF → PG → PR) (ag_108 : Int32 → Int32 → PF → PG → PR) (x2 : Int32) (x3 : Int32) (F : PF) (G : PG) : PR := (mf_at fu (x3 + (1 : Int32)) F G).bind (fun q => mb_skip_133 fu ag_2 ag_108 x2 x3 q.1 q.2.1 q.2.2)
def mb_skip_121 (fu : Nat) (ag_2 : Int32 → PF → PG → PR) (ag_108 : Int32 → Int32 → PF → PG → PR) (x2 : Int32) (x3 : Int32) (z0 : Int32) (F : PF) (G : PG) : PR := if z0 = (42 : Int32) then mb_skip_126 fu ag_2 ag_108 x2 x3 F G else mb_skip_138 fu ag_2 ag_108 x2 x3 F G
def mb_skip_116 (fu : Nat) (ag_2 : Int32 → PF → PG → PR) (ag_108 : Int32 → Int32 → PF → PG → PR) (x2 : Int32) (x3 : Int32) (F : PF) (G : PG) : PR := (mf_at fu x3 F G).bind (fun q => mb_skip_121 fu ag_2 ag_108 x2 x3 q.1 q.2.1 q.2.2)
def mb_skip_108 (fu : Nat) (ag_2 : Int32 → PF → PG → PR) (ag_108 : Int32 → Int32 → PF → PG → PR) (x2 : Int32) (x3 : Int32) (F : PF) (G : PG) : PR := if (F 3) ≤ x3 then mb_skip_144 fu ag_2 x2 x3 F G else mb_skip_116 fu ag_2 ag_108 x2 x3 F G
def ml_skip_108 (fu : Nat) (ag_2 : Int32 → PF → PG → PR) : Nat → Int32 → Int32 → PF → PG → PR
  | 0 => fun _ _ _ _ => none
  | n + 1 => fun x2 x3 F G => mb_skip_108 fu ag_2 (ml_skip_108 fu ag_2 n) x2 x3 F G
def mb_skip_104 (fu : Nat) (ag_2 : Int32 → PF → PG → PR) (x2 : Int32) (F : PF) (G : PG) : PR := ml_skip_108 fu ag_2 fu x2 (x2 + (2 : Int32)) F G
def mb_skip_99 (fu : Nat) (ag_2 : Int32 → PF → PG → PR) (x2 : Int32) (z0 : Int32) (F : PF) (G : PG) : PR := if z0 = (42 : Int32) then mb_skip_104 fu ag_2 x2 F G else mb_skip_166 fu x2 F G
def mb_skip_92 (fu : Nat) (ag_2 : Int32 → PF → PG → PR) (x2 : Int32) (F : PF) (G : PG) : PR := (mf_at fu (x2 + (1 : Int32)) F G).bind (fun q => mb_skip_99 fu ag_2 x2 q.1 q.2.1 q.2.2)
def mb_skip_87 (fu : Nat) (ag_2 : Int32 → PF → PG → PR) (x2 : Int32) (z0 : Int32) (F : PF) (G : PG) : PR := if z0 = (47 : Int32) then mb_skip_92 fu ag_2 x2 F G else mb_skip_166 fu x2 F G
def mb_skip_82 (fu : Nat) (ag_2 : Int32 → PF → PG → PR) (x2 : Int32) (F : PF) (G : PG) : PR := (mf_at fu x2 F G).bind (fun q => mb_skip_87 fu ag_2 x2 q.1 q.2.1 q.2.2)
def mb_skip_76 (fu : Nat) (ag_2 : Int32 → PF → PG → PR) (ag_58 : Int32 → PF → PG → PR) (x2 : Int32) (F : PF) (G : PG) : PR := ag_58 (x2 + 1) F G
def mb_skip_71 (fu : Nat) (ag_2 : Int32 → PF → PG → PR) (ag_58 : Int32 → PF → PG → PR) (x2 : Int32) (z0 : Int32) (F : PF) (G : PG) : PR := if z0 = (10 : Int32) then ag_2 x2 F G else mb_skip_76 fu ag_2 ag_58 x2 F G
def mb_skip_66 (fu : Nat) (ag_2 : Int32 → PF → PG → PR) (ag_58 : Int32 → PF → PG → PR) (x2 : Int32) (F : PF) (G : PG) : PR := (mf_at fu x2 F G).bind (fun q => mb_skip_71 fu ag_2 ag_58 x2 q.1 q.2.1 q.2.2)
def mb_skip_58 (fu : Nat) (ag_2 : Int32 → PF → PG → PR) (ag_58 : Int32 → PF → PG → PR) (x2 : Int32) (F : PF) (G : PG) : PR := if (F 3) ≤ x2 then ag_2 x2 F G else mb_skip_66 fu ag_2 ag_58 x2 F G
def ml_skip_58 (fu : Nat) (ag_2 : Int32 → PF → PG → PR) : Nat → Int32 → PF → PG → PR
  | 0 => fun _ _ _ => none
  | n + 1 => fun x2 F G => mb_skip_58 fu ag_2 (ml_skip_58 fu ag_2 n) x2 F G
def mb_skip_53 (fu : Nat) (ag_2 : Int32 → PF → PG → PR) (x2 : Int32) (z0 : Int32) (F : PF) (G : PG) : PR := if z0 = (47 : Int32) then ml_skip_58 fu ag_2 fu x2 F G else mb_skip_82 fu ag_2 x2 F G
def mb_skip_46 (fu : Nat) (ag_2 : Int32 → PF → PG → PR) (x2 : Int32) (F : PF) (G : PG) : PR := (mf_at fu (x2 + (1 : Int32)) F G).bind (fun q => mb_skip_53 fu ag_2 x2 q.1 q.2.1 q.2.2)
def mb_skip_41 (fu : Nat) (ag_2 : Int32 → PF → PG → PR) (x2 : Int32) (z0 : Int32) (F : PF) (G : PG) : PR := if z0 = (47 : Int32) then mb_skip_46 fu ag_2 x2 F G else mb_skip_82 fu ag_2 x2 F G
def mb_skip_36 (fu : Nat) (ag_2 : Int32 → PF → PG → PR) (x2 : Int32) (F : PF) (G : PG) : PR := (mf_at fu x2 F G).bind (fun q => mb_skip_41 fu ag_2 x2 q.1 q.2.1 q.2.2)
def mb_skip_25 (fu : Nat) (ag_2 : Int32 → PF → PG → PR) (x2 : Int32) (z0 : Int32) (F : PF) (G : PG) : PR := if z0 = (32 : Int32) then mb_skip_30 fu ag_2 x2 F G else mb_skip_36 fu ag_2 x2 F G
def mb_skip_20 (fu : Nat) (ag_2 : Int32 → PF → PG → PR) (x2 : Int32) (F : PF) (G : PG) : PR := (mf_at fu x2 F G).bind (fun q => mb_skip_25 fu ag_2 x2 q.1 q.2.1 q.2.2)
def mb_skip_15 (fu : Nat) (ag_2 : Int32 → PF → PG → PR) (x2 : Int32) (z0 : Int32) (F : PF) (G : PG) : PR := if z0 = (10 : Int32) then mb_skip_30 fu ag_2 x2 F G else mb_skip_20 fu ag_2 x2 F G
def mb_skip_10 (fu : Nat) (ag_2 : Int32 → PF → PG → PR) (x2 : Int32) (F : PF) (G : PG) : PR := (mf_at fu x2 F G).bind (fun q => mb_skip_15 fu ag_2 x2 q.1 q.2.1 q.2.2)
def mb_skip_2 (fu : Nat) (ag_2 : Int32 → PF → PG → PR) (x2 : Int32) (F : PF) (G : PG) : PR := if (F 3) ≤ x2 then mb_skip_168 fu x2 F G else mb_skip_10 fu ag_2 x2 F G
def ml_skip_2 (fu : Nat) : Nat → Int32 → PF → PG → PR
  | 0 => fun _ _ _ => none
  | n + 1 => fun x2 F G => mb_skip_2 fu (ml_skip_2 fu n) x2 F G
def mb_skip_0 (fu : Nat) (x1 : Int32) (F : PF) (G : PG) : PR := ml_skip_2 fu fu x1 F G
def mf_skip (fu : Nat) (x1 : Int32) (F : PF) (G : PG) : PR := mb_skip_0 fu x1 F G
theorem mw_skip_168 (fu : Nat) {res : Int32 × PF × PG} (C : mMC p R s m args c A v RX12 cX12_skip 4 1 21) (hret : ∀ (H1 : Heap) (locs1 : List Loc) (ls1 : Array Slot) (pc : Nat), mMW s A v a res.2.1 res.2.2 H1 locs1 → narrow .int (.int res.1) = .int res.1 → decode cX12_skip pc = .ok (.ireturn, 1) → W p l e R s m args below meth c H1 locs1 0 0 Q (F0 m pc ls1 [.int res.1])) (x2 : Int32) (F : PF) (G : PG) (hm : mb_skip_168 fu x2 F G = some res) {H : Heap} {locs : List Loc} (hw : mMW s A v a F G H locs) {ls : Array Slot} (hl : lv_has ls 4 [(2, .int x2)]) : W p l e R s m args below meth c H locs 0 0 Q (F0 m 168 ls []) := by
  have hx := C.1
  have hb := C.2.1
  unfold mb_skip_168 at hm
  refine lv_iload_n hx hb dX12_skip_168 rfl (lv_at hl 0 rfl) ?_
  obtain rfl := Option.some.inj hm
  exact hret _ _ _ _ hw rfl dX12_skip_169
theorem mw_skip_30 (fu : Nat) {res : Int32 × PF × PG} (C : mMC p R s m args c A v RX12 cX12_skip 4 1 21) (hret : ∀ (H1 : Heap) (locs1 : List Loc) (ls1 : Array Slot) (pc : Nat), mMW s A v a res.2.1 res.2.2 H1 locs1 → narrow .int (.int res.1) = .int res.1 → decode cX12_skip pc = .ok (.ireturn, 1) → W p l e R s m args below meth c H1 locs1 0 0 Q (F0 m pc ls1 [.int res.1])) (ag_2 : Int32 → PF → PG → PR) (hag_2 : ∀ (x2 : Int32) (F : PF) (G : PG), ag_2 x2 F G = some res → ∀ (H : Heap) (locs : List Loc) (ls : Array Slot), mMW s A v a F G H locs → lv_has ls 4 [(0, .ref (a 212)), (2, .int x2)] → W p l e R s m args below meth c H locs 0 0 Q (F0 m 2 ls [])) (x2 : Int32) (F : PF) (G : PG) (hm : mb_skip_30 fu ag_2 x2 F G = some res) {H : Heap} {locs : List Loc} (hw : mMW s A v a F G H locs) {ls : Array Slot} (hl : lv_has ls 4 [(0, .ref (a 212)), (2, .int x2)]) : W p l e R s m args below meth c H locs 0 0 Q (F0 m 30 ls []) := by
  have hx := C.1
  have hb := C.2.1
  unfold mb_skip_30 at hm
  refine lv_iinc (v := (x2 + 1)) (lv' := [(2, .int (x2 + 1)), (0, .ref (a 212))]) hx hb dX12_skip_30 hl (k := 1) rfl (by rfl) (by decide) rfl (fun ls hl => ?_)
  refine lv_goto (tgt := 2) hx hb dX12_skip_33 (by decide) ?_
  exact hag_2 (x2 + 1) F G hm _ _ _ hw (lv_sub hl [1, 0] rfl)
theorem mw_skip_166 (fu : Nat) {res : Int32 × PF × PG} (C : mMC p R s m args c A v RX12 cX12_skip 4 1 21) (hret : ∀ (H1 : Heap) (locs1 : List Loc) (ls1 : Array Slot) (pc : Nat), mMW s A v a res.2.1 res.2.2 H1 locs1 → narrow .int (.int res.1) = .int res.1 → decode cX12_skip pc = .ok (.ireturn, 1) → W p l e R s m args below meth c H1 locs1 0 0 Q (F0 m pc ls1 [.int res.1])) (x2 : Int32) (F : PF) (G : PG) (hm : mb_skip_166 fu x2 F G = some res) {H : Heap} {locs : List Loc} (hw : mMW s A v a F G H locs) {ls : Array Slot} (hl : lv_has ls 4 [(2, .int x2)]) : W p l e R s m args below meth c H locs 0 0 Q (F0 m 166 ls []) := by
  have hx := C.1
  have hb := C.2.1
  unfold mb_skip_166 at hm
  refine lv_iload_n hx hb dX12_skip_166 rfl (lv_at hl 0 rfl) ?_
  obtain rfl := Option.some.inj hm
  exact hret _ _ _ _ hw rfl dX12_skip_167
theorem mw_skip_159 (fu : Nat) {res : Int32 × PF × PG} (C : mMC p R s m args c A v RX12 cX12_skip 4 1 21) (hret : ∀ (H1 : Heap) (locs1 : List Loc) (ls1 : Array Slot) (pc : Nat), mMW s A v a res.2.1 res.2.2 H1 locs1 → narrow .int (.int res.1) = .int res.1 → decode cX12_skip pc = .ok (.ireturn, 1) → W p l e R s m args below meth c H1 locs1 0 0 Q (F0 m pc ls1 [.int res.1])) (ag_2 : Int32 → PF → PG → PR) (hag_2 : ∀ (x2 : Int32) (F : PF) (G : PG), ag_2 x2 F G = some res → ∀ (H : Heap) (locs : List Loc) (ls : Array Slot), mMW s A v a F G H locs → lv_has ls 4 [(0, .ref (a 212)), (2, .int x2)] → W p l e R s m args below meth c H locs 0 0 Q (F0 m 2 ls [])) (x3 : Int32) (F : PF) (G : PG) (hm : mb_skip_159 fu ag_2 x3 F G = some res) {H : Heap} {locs : List Loc} (hw : mMW s A v a F G H locs) {ls : Array Slot} (hl : lv_has ls 4 [(0, .ref (a 212)), (3, .int x3)]) : W p l e R s m args below meth c H locs 0 0 Q (F0 m 159 ls []) := by
  have hx := C.1
  have hb := C.2.1
  unfold mb_skip_159 at hm
  refine lv_iload_n hx hb dX12_skip_159 rfl (lv_at hl 1 rfl) ?_
  refine lv_iconst (v := 2) hx hb dX12_skip_160 (by decide) ?_
  refine lv_iadd hx hb dX12_skip_161 ?_
  refine lv_istore_n (lv' := [(2, .int (x3 + (2 : Int32))), (0, .ref (a 212)), (3, .int x3)]) hx hb dX12_skip_162 rfl hl (by decide) rfl (fun ls hl => ?_)
  refine lv_goto (tgt := 2) hx hb dX12_skip_163 (by decide) ?_
  exact hag_2 (x3 + (2 : Int32)) F G hm _ _ _ hw (lv_sub hl [1, 0] rfl)
theorem mw_skip_157 (fu : Nat) {res : Int32 × PF × PG} (C : mMC p R s m args c A v RX12 cX12_skip 4 1 21) (hret : ∀ (H1 : Heap) (locs1 : List Loc) (ls1 : Array Slot) (pc : Nat), mMW s A v a res.2.1 res.2.2 H1 locs1 → narrow .int (.int res.1) = .int res.1 → decode cX12_skip pc = .ok (.ireturn, 1) → W p l e R s m args below meth c H1 locs1 0 0 Q (F0 m pc ls1 [.int res.1])) (F : PF) (G : PG) (hm : mb_skip_157 fu F G = some res) {H : Heap} {locs : List Loc} (hw : mMW s A v a F G H locs) {ls : Array Slot} (hl : lv_has ls 4 []) : W p l e R s m args below meth c H locs 0 0 Q (F0 m 157 ls []) := by
  have hx := C.1
  have hb := C.2.1
  unfold mb_skip_157 at hm
  refine lv_iconst (v := (-1)) hx hb dX12_skip_157 (by decide) ?_
  obtain rfl := Option.some.inj hm
  exact hret _ _ _ _ hw rfl dX12_skip_158
theorem mw_skip_152 (fu : Nat) {res : Int32 × PF × PG} (C : mMC p R s m args c A v RX12 cX12_skip 4 1 21) (hret : ∀ (H1 : Heap) (locs1 : List Loc) (ls1 : Array Slot) (pc : Nat), mMW s A v a res.2.1 res.2.2 H1 locs1 → narrow .int (.int res.1) = .int res.1 → decode cX12_skip pc = .ok (.ireturn, 1) → W p l e R s m args below meth c H1 locs1 0 0 Q (F0 m pc ls1 [.int res.1])) (x2 : Int32) (F : PF) (G : PG) (hm : mb_skip_152 fu x2 F G = some res) {H : Heap} {locs : List Loc} (hw : mMW s A v a F G H locs) {ls : Array Slot} (hl : lv_has ls 4 [(0, .ref (a 212)), (2, .int x2)]) : W p l e R s m args below meth c H locs 0 0 Q (F0 m 152 ls []) := by
  have hx := C.1
  have hb := C.2.1
  unfold mb_skip_152 at hm
  refine lv_aload_n hx hb dX12_skip_152 rfl (lv_at hl 0 rfl) ?_
  refine lv_iload_n hx hb dX12_skip_153 rfl (lv_at hl 1 rfl) ?_
  refine mp_X12_184 C hw dX12_skip_154 (fun H locs hw => ?_)
  exact mw_skip_157 fu C hret (fup F 8 x2) G hm hw (lv_sub hl [] rfl)
theorem mw_skip_144 (fu : Nat) {res : Int32 × PF × PG} (C : mMC p R s m args c A v RX12 cX12_skip 4 1 21) (hret : ∀ (H1 : Heap) (locs1 : List Loc) (ls1 : Array Slot) (pc : Nat), mMW s A v a res.2.1 res.2.2 H1 locs1 → narrow .int (.int res.1) = .int res.1 → decode cX12_skip pc = .ok (.ireturn, 1) → W p l e R s m args below meth c H1 locs1 0 0 Q (F0 m pc ls1 [.int res.1])) (ag_2 : Int32 → PF → PG → PR) (hag_2 : ∀ (x2 : Int32) (F : PF) (G : PG), ag_2 x2 F G = some res → ∀ (H : Heap) (locs : List Loc) (ls : Array Slot), mMW s A v a F G H locs → lv_has ls 4 [(0, .ref (a 212)), (2, .int x2)] → W p l e R s m args below meth c H locs 0 0 Q (F0 m 2 ls [])) (x2 : Int32) (x3 : Int32) (F : PF) (G : PG) (hm : mb_skip_144 fu ag_2 x2 x3 F G = some res) {H : Heap} {locs : List Loc} (hw : mMW s A v a F G H locs) {ls : Array Slot} (hl : lv_has ls 4 [(0, .ref (a 212)), (2, .int x2), (3, .int x3)]) : W p l e R s m args below meth c H locs 0 0 Q (F0 m 144 ls []) := by
  have hx := C.1
  have hb := C.2.1
  unfold mb_skip_144 at hm
  refine lv_iload_n hx hb dX12_skip_144 rfl (lv_at hl 2 rfl) ?_
  refine lv_aload_n hx hb dX12_skip_145 rfl (lv_at hl 0 rfl) ?_
  refine mg_X12_157 C hw dX12_skip_146 ?_
  refine lv_icmp_lt (tgt := 159) hx hb dX12_skip_149 (by decide) (fun c_1 => ?_) (fun c_1 => ?_)
  · have hm := (if_pos c_1).symm.trans hm
    exact mw_skip_159 fu C hret ag_2 hag_2 x3 F G hm hw (lv_sub hl [0, 2] rfl)
  · have hm := (if_neg c_1).symm.trans hm
    exact mw_skip_152 fu C hret x2 F G hm hw (lv_sub hl [0, 1] rfl)
theorem mw_skip_138 (fu : Nat) {res : Int32 × PF × PG} (C : mMC p R s m args c A v RX12 cX12_skip 4 1 21) (hret : ∀ (H1 : Heap) (locs1 : List Loc) (ls1 : Array Slot) (pc : Nat), mMW s A v a res.2.1 res.2.2 H1 locs1 → narrow .int (.int res.1) = .int res.1 → decode cX12_skip pc = .ok (.ireturn, 1) → W p l e R s m args below meth c H1 locs1 0 0 Q (F0 m pc ls1 [.int res.1])) (ag_2 : Int32 → PF → PG → PR) (hag_2 : ∀ (x2 : Int32) (F : PF) (G : PG), ag_2 x2 F G = some res → ∀ (H : Heap) (locs : List Loc) (ls : Array Slot), mMW s A v a F G H locs → lv_has ls 4 [(0, .ref (a 212)), (2, .int x2)] → W p l e R s m args below meth c H locs 0 0 Q (F0 m 2 ls [])) (ag_108 : Int32 → Int32 → PF → PG → PR) (hag_108 : ∀ (x2 : Int32) (x3 : Int32) (F : PF) (G : PG), ag_108 x2 x3 F G = some res → ∀ (H : Heap) (locs : List Loc) (ls : Array Slot), mMW s A v a F G H locs → lv_has ls 4 [(0, .ref (a 212)), (2, .int x2), (3, .int x3)] → W p l e R s m args below meth c H locs 0 0 Q (F0 m 108 ls [])) (x2 : Int32) (x3 : Int32) (F : PF) (G : PG) (hm : mb_skip_138 fu ag_2 ag_108 x2 x3 F G = some res) {H : Heap} {locs : List Loc} (hw : mMW s A v a F G H locs) {ls : Array Slot} (hl : lv_has ls 4 [(0, .ref (a 212)), (2, .int x2), (3, .int x3)]) : W p l e R s m args below meth c H locs 0 0 Q (F0 m 138 ls []) := by
  have hx := C.1
  have hb := C.2.1
  unfold mb_skip_138 at hm
  refine lv_iinc (v := (x3 + 1)) (lv' := [(3, .int (x3 + 1)), (0, .ref (a 212)), (2, .int x2)]) hx hb dX12_skip_138 hl (k := 2) rfl (by rfl) (by decide) rfl (fun ls hl => ?_)
  refine lv_goto (tgt := 108) hx hb dX12_skip_141 (by decide) ?_
  exact hag_108 x2 (x3 + 1) F G hm _ _ _ hw (lv_sub hl [1, 2, 0] rfl)
theorem mw_skip_133 (fu : Nat) {res : Int32 × PF × PG} (C : mMC p R s m args c A v RX12 cX12_skip 4 1 21) (hret : ∀ (H1 : Heap) (locs1 : List Loc) (ls1 : Array Slot) (pc : Nat), mMW s A v a res.2.1 res.2.2 H1 locs1 → narrow .int (.int res.1) = .int res.1 → decode cX12_skip pc = .ok (.ireturn, 1) → W p l e R s m args below meth c H1 locs1 0 0 Q (F0 m pc ls1 [.int res.1])) (ag_2 : Int32 → PF → PG → PR) (hag_2 : ∀ (x2 : Int32) (F : PF) (G : PG), ag_2 x2 F G = some res → ∀ (H : Heap) (locs : List Loc) (ls : Array Slot), mMW s A v a F G H locs → lv_has ls 4 [(0, .ref (a 212)), (2, .int x2)] → W p l e R s m args below meth c H locs 0 0 Q (F0 m 2 ls [])) (ag_108 : Int32 → Int32 → PF → PG → PR) (hag_108 : ∀ (x2 : Int32) (x3 : Int32) (F : PF) (G : PG), ag_108 x2 x3 F G = some res → ∀ (H : Heap) (locs : List Loc) (ls : Array Slot), mMW s A v a F G H locs → lv_has ls 4 [(0, .ref (a 212)), (2, .int x2), (3, .int x3)] → W p l e R s m args below meth c H locs 0 0 Q (F0 m 108 ls [])) (x2 : Int32) (x3 : Int32) (z0 : Int32) (F : PF) (G : PG) (hm : mb_skip_133 fu ag_2 ag_108 x2 x3 z0 F G = some res) {H : Heap} {locs : List Loc} (hw : mMW s A v a F G H locs) {ls : Array Slot} (hl : lv_has ls 4 [(0, .ref (a 212)), (2, .int x2), (3, .int x3)]) : W p l e R s m args below meth c H locs 0 0 Q (F0 m 133 ls [.int z0]) := by
  have hx := C.1
  have hb := C.2.1
  unfold mb_skip_133 at hm
  refine lv_bipush (v := 47) hx hb dX12_skip_133 (by decide) ?_
  refine lv_icmp_eq (tgt := 144) hx hb dX12_skip_135 (by decide) (fun c_1 => ?_) (fun c_1 => ?_)
  · have hm := (if_pos c_1).symm.trans hm
    exact mw_skip_144 fu C hret ag_2 hag_2 x2 x3 F G hm hw (lv_sub hl [0, 1, 2] rfl)
  · have hm := (if_neg c_1).symm.trans hm
    exact mw_skip_138 fu C hret ag_2 hag_2 ag_108 hag_108 x2 x3 F G hm hw (lv_sub hl [0, 1, 2] rfl)
theorem mw_skip_126 (fu : Nat) {res : Int32 × PF × PG} (C : mMC p R s m args c A v RX12 cX12_skip 4 1 21) (hret : ∀ (H1 : Heap) (locs1 : List Loc) (ls1 : Array Slot) (pc : Nat), mMW s A v a res.2.1 res.2.2 H1 locs1 → narrow .int (.int res.1) = .int res.1 → decode cX12_skip pc = .ok (.ireturn, 1) → W p l e R s m args below meth c H1 locs1 0 0 Q (F0 m pc ls1 [.int res.1])) (ag_2 : Int32 → PF → PG → PR) (hag_2 : ∀ (x2 : Int32) (F : PF) (G : PG), ag_2 x2 F G = some res → ∀ (H : Heap) (locs : List Loc) (ls : Array Slot), mMW s A v a F G H locs → lv_has ls 4 [(0, .ref (a 212)), (2, .int x2)] → W p l e R s m args below meth c H locs 0 0 Q (F0 m 2 ls [])) (ag_108 : Int32 → Int32 → PF → PG → PR) (hag_108 : ∀ (x2 : Int32) (x3 : Int32) (F : PF) (G : PG), ag_108 x2 x3 F G = some res → ∀ (H : Heap) (locs : List Loc) (ls : Array Slot), mMW s A v a F G H locs → lv_has ls 4 [(0, .ref (a 212)), (2, .int x2), (3, .int x3)] → W p l e R s m args below meth c H locs 0 0 Q (F0 m 108 ls [])) (x2 : Int32) (x3 : Int32) (F : PF) (G : PG) (hm : mb_skip_126 fu ag_2 ag_108 x2 x3 F G = some res) {H : Heap} {locs : List Loc} (hw : mMW s A v a F G H locs) {ls : Array Slot} (hl : lv_has ls 4 [(0, .ref (a 212)), (2, .int x2), (3, .int x3)]) : W p l e R s m args below meth c H locs 0 0 Q (F0 m 126 ls []) := by
  have hx := C.1
  have hb := C.2.1
  unfold mb_skip_126 at hm
  refine lv_aload_n hx hb dX12_skip_126 rfl (lv_at hl 0 rfl) ?_
  refine lv_iload_n hx hb dX12_skip_127 rfl (lv_at hl 2 rfl) ?_
  refine lv_iconst (v := 1) hx hb dX12_skip_128 (by decide) ?_
  refine lv_iadd hx hb dX12_skip_129 ?_
  obtain ⟨⟨r1, F1, G1⟩, hc, hm⟩ := bind_elim hm
  refine mcallI (n := 1) (As := [.int (x3 + (1 : Int32))]) (rest := []) C hw (mk_at l v a _ fu (x3 + (1 : Int32)) F G r1 F1 G1 hc) (mrecv_X12 C hw) mm_38 mm_39 mm_40 mm_27 mm_41 (by decide +kernel) rfl (by omega) (by omega) hl.1 rfl (Nat.le_of_ble_eq_true rfl) dX12_skip_130 (fun H locs hw => ?_)
  exact mw_skip_133 fu C hret ag_2 hag_2 ag_108 hag_108 x2 x3 r1 F1 G1 hm hw (lv_sub hl [0, 1, 2] rfl)
theorem mw_skip_121 (fu : Nat) {res : Int32 × PF × PG} (C : mMC p R s m args c A v RX12 cX12_skip 4 1 21) (hret : ∀ (H1 : Heap) (locs1 : List Loc) (ls1 : Array Slot) (pc : Nat), mMW s A v a res.2.1 res.2.2 H1 locs1 → narrow .int (.int res.1) = .int res.1 → decode cX12_skip pc = .ok (.ireturn, 1) → W p l e R s m args below meth c H1 locs1 0 0 Q (F0 m pc ls1 [.int res.1])) (ag_2 : Int32 → PF → PG → PR) (hag_2 : ∀ (x2 : Int32) (F : PF) (G : PG), ag_2 x2 F G = some res → ∀ (H : Heap) (locs : List Loc) (ls : Array Slot), mMW s A v a F G H locs → lv_has ls 4 [(0, .ref (a 212)), (2, .int x2)] → W p l e R s m args below meth c H locs 0 0 Q (F0 m 2 ls [])) (ag_108 : Int32 → Int32 → PF → PG → PR) (hag_108 : ∀ (x2 : Int32) (x3 : Int32) (F : PF) (G : PG), ag_108 x2 x3 F G = some res → ∀ (H : Heap) (locs : List Loc) (ls : Array Slot), mMW s A v a F G H locs → lv_has ls 4 [(0, .ref (a 212)), (2, .int x2), (3, .int x3)] → W p l e R s m args below meth c H locs 0 0 Q (F0 m 108 ls [])) (x2 : Int32) (x3 : Int32) (z0 : Int32) (F : PF) (G : PG) (hm : mb_skip_121 fu ag_2 ag_108 x2 x3 z0 F G = some res) {H : Heap} {locs : List Loc} (hw : mMW s A v a F G H locs) {ls : Array Slot} (hl : lv_has ls 4 [(0, .ref (a 212)), (2, .int x2), (3, .int x3)]) : W p l e R s m args below meth c H locs 0 0 Q (F0 m 121 ls [.int z0]) := by
  have hx := C.1
  have hb := C.2.1
  unfold mb_skip_121 at hm
  refine lv_bipush (v := 42) hx hb dX12_skip_121 (by decide) ?_
  refine lv_icmp_ne (tgt := 138) hx hb dX12_skip_123 (by decide) (fun c_1 => ?_) (fun c_1 => ?_)
  · have hm := (if_neg c_1).symm.trans hm
    exact mw_skip_138 fu C hret ag_2 hag_2 ag_108 hag_108 x2 x3 F G hm hw (lv_sub hl [0, 1, 2] rfl)
  · have hm := (if_pos c_1).symm.trans hm
    exact mw_skip_126 fu C hret ag_2 hag_2 ag_108 hag_108 x2 x3 F G hm hw (lv_sub hl [0, 1, 2] rfl)
theorem mw_skip_116 (fu : Nat) {res : Int32 × PF × PG} (C : mMC p R s m args c A v RX12 cX12_skip 4 1 21) (hret : ∀ (H1 : Heap) (locs1 : List Loc) (ls1 : Array Slot) (pc : Nat), mMW s A v a res.2.1 res.2.2 H1 locs1 → narrow .int (.int res.1) = .int res.1 → decode cX12_skip pc = .ok (.ireturn, 1) → W p l e R s m args below meth c H1 locs1 0 0 Q (F0 m pc ls1 [.int res.1])) (ag_2 : Int32 → PF → PG → PR) (hag_2 : ∀ (x2 : Int32) (F : PF) (G : PG), ag_2 x2 F G = some res → ∀ (H : Heap) (locs : List Loc) (ls : Array Slot), mMW s A v a F G H locs → lv_has ls 4 [(0, .ref (a 212)), (2, .int x2)] → W p l e R s m args below meth c H locs 0 0 Q (F0 m 2 ls [])) (ag_108 : Int32 → Int32 → PF → PG → PR) (hag_108 : ∀ (x2 : Int32) (x3 : Int32) (F : PF) (G : PG), ag_108 x2 x3 F G = some res → ∀ (H : Heap) (locs : List Loc) (ls : Array Slot), mMW s A v a F G H locs → lv_has ls 4 [(0, .ref (a 212)), (2, .int x2), (3, .int x3)] → W p l e R s m args below meth c H locs 0 0 Q (F0 m 108 ls [])) (x2 : Int32) (x3 : Int32) (F : PF) (G : PG) (hm : mb_skip_116 fu ag_2 ag_108 x2 x3 F G = some res) {H : Heap} {locs : List Loc} (hw : mMW s A v a F G H locs) {ls : Array Slot} (hl : lv_has ls 4 [(0, .ref (a 212)), (2, .int x2), (3, .int x3)]) : W p l e R s m args below meth c H locs 0 0 Q (F0 m 116 ls []) := by
  have hx := C.1
  have hb := C.2.1
  unfold mb_skip_116 at hm
  refine lv_aload_n hx hb dX12_skip_116 rfl (lv_at hl 0 rfl) ?_
  refine lv_iload_n hx hb dX12_skip_117 rfl (lv_at hl 2 rfl) ?_
  obtain ⟨⟨r1, F1, G1⟩, hc, hm⟩ := bind_elim hm
  refine mcallI (n := 1) (As := [.int x3]) (rest := []) C hw (mk_at l v a _ fu x3 F G r1 F1 G1 hc) (mrecv_X12 C hw) mm_38 mm_39 mm_40 mm_27 mm_41 (by decide +kernel) rfl (by omega) (by omega) hl.1 rfl (Nat.le_of_ble_eq_true rfl) dX12_skip_118 (fun H locs hw => ?_)
  exact mw_skip_121 fu C hret ag_2 hag_2 ag_108 hag_108 x2 x3 r1 F1 G1 hm hw (lv_sub hl [0, 1, 2] rfl)
theorem mw_skip_108 (fu : Nat) {res : Int32 × PF × PG} (C : mMC p R s m args c A v RX12 cX12_skip 4 1 21) (hret : ∀ (H1 : Heap) (locs1 : List Loc) (ls1 : Array Slot) (pc : Nat), mMW s A v a res.2.1 res.2.2 H1 locs1 → narrow .int (.int res.1) = .int res.1 → decode cX12_skip pc = .ok (.ireturn, 1) → W p l e R s m args below meth c H1 locs1 0 0 Q (F0 m pc ls1 [.int res.1])) (ag_2 : Int32 → PF → PG → PR) (hag_2 : ∀ (x2 : Int32) (F : PF) (G : PG), ag_2 x2 F G = some res → ∀ (H : Heap) (locs : List Loc) (ls : Array Slot), mMW s A v a F G H locs → lv_has ls 4 [(0, .ref (a 212)), (2, .int x2)] → W p l e R s m args below meth c H locs 0 0 Q (F0 m 2 ls [])) (ag_108 : Int32 → Int32 → PF → PG → PR) (hag_108 : ∀ (x2 : Int32) (x3 : Int32) (F : PF) (G : PG), ag_108 x2 x3 F G = some res → ∀ (H : Heap) (locs : List Loc) (ls : Array Slot), mMW s A v a F G H locs → lv_has ls 4 [(0, .ref (a 212)), (2, .int x2), (3, .int x3)] → W p l e R s m args below meth c H locs 0 0 Q (F0 m 108 ls [])) (x2 : Int32) (x3 : Int32) (F : PF) (G : PG) (hm : mb_skip_108 fu ag_2 ag_108 x2 x3 F G = some res) {H : Heap} {locs : List Loc} (hw : mMW s A v a F G H locs) {ls : Array Slot} (hl : lv_has ls 4 [(0, .ref (a 212)), (2, .int x2), (3, .int x3)]) : W p l e R s m args below meth c H locs 0 0 Q (F0 m 108 ls []) := by
  have hx := C.1
  have hb := C.2.1
  unfold mb_skip_108 at hm
  refine lv_iload_n hx hb dX12_skip_108 rfl (lv_at hl 2 rfl) ?_
  refine lv_aload_n hx hb dX12_skip_109 rfl (lv_at hl 0 rfl) ?_
  refine mg_X12_157 C hw dX12_skip_110 ?_
  refine lv_icmp_ge (tgt := 144) hx hb dX12_skip_113 (by decide) (fun c_1 => ?_) (fun c_1 => ?_)
  · have hm := (if_pos c_1).symm.trans hm
    exact mw_skip_144 fu C hret ag_2 hag_2 x2 x3 F G hm hw (lv_sub hl [0, 1, 2] rfl)
  · have hm := (if_neg c_1).symm.trans hm
    exact mw_skip_116 fu C hret ag_2 hag_2 ag_108 hag_108 x2 x3 F G hm hw (lv_sub hl [0, 1, 2] rfl)
theorem mwl_skip_108 (fu : Nat) {res : Int32 × PF × PG} (C : mMC p R s m args c A v RX12 cX12_skip 4 1 21) (hret : ∀ (H1 : Heap) (locs1 : List Loc) (ls1 : Array Slot) (pc : Nat), mMW s A v a res.2.1 res.2.2 H1 locs1 → narrow .int (.int res.1) = .int res.1 → decode cX12_skip pc = .ok (.ireturn, 1) → W p l e R s m args below meth c H1 locs1 0 0 Q (F0 m pc ls1 [.int res.1])) (ag_2 : Int32 → PF → PG → PR) (hag_2 : ∀ (x2 : Int32) (F : PF) (G : PG), ag_2 x2 F G = some res → ∀ (H : Heap) (locs : List Loc) (ls : Array Slot), mMW s A v a F G H locs → lv_has ls 4 [(0, .ref (a 212)), (2, .int x2)] → W p l e R s m args below meth c H locs 0 0 Q (F0 m 2 ls [])) : ∀ (n : Nat) (x2 : Int32) (x3 : Int32) (F : PF) (G : PG) (hm : ml_skip_108 fu ag_2 n x2 x3 F G = some res) {H : Heap} {locs : List Loc} (hw : mMW s A v a F G H locs) {ls : Array Slot} (hl : lv_has ls 4 [(0, .ref (a 212)), (2, .int x2), (3, .int x3)]), W p l e R s m args below meth c H locs 0 0 Q (F0 m 108 ls []) := by
  intro n
  induction n with
  | zero =>
    intro x2 x3 F G hm
    exact no_elim (show (none : PR) = some res from hm)
  | succ n ih =>
    intro x2 x3 F G hm H locs hw ls hl
    exact mw_skip_108 fu C hret ag_2 hag_2 (ml_skip_108 fu ag_2 n) (fun x2 x3 F G hm H locs ls hw hl => ih x2 x3 F G hm hw hl) x2 x3 F G hm hw hl
theorem mw_skip_104 (fu : Nat) {res : Int32 × PF × PG} (C : mMC p R s m args c A v RX12 cX12_skip 4 1 21) (hret : ∀ (H1 : Heap) (locs1 : List Loc) (ls1 : Array Slot) (pc : Nat), mMW s A v a res.2.1 res.2.2 H1 locs1 → narrow .int (.int res.1) = .int res.1 → decode cX12_skip pc = .ok (.ireturn, 1) → W p l e R s m args below meth c H1 locs1 0 0 Q (F0 m pc ls1 [.int res.1])) (ag_2 : Int32 → PF → PG → PR) (hag_2 : ∀ (x2 : Int32) (F : PF) (G : PG), ag_2 x2 F G = some res → ∀ (H : Heap) (locs : List Loc) (ls : Array Slot), mMW s A v a F G H locs → lv_has ls 4 [(0, .ref (a 212)), (2, .int x2)] → W p l e R s m args below meth c H locs 0 0 Q (F0 m 2 ls [])) (x2 : Int32) (F : PF) (G : PG) (hm : mb_skip_104 fu ag_2 x2 F G = some res) {H : Heap} {locs : List Loc} (hw : mMW s A v a F G H locs) {ls : Array Slot} (hl : lv_has ls 4 [(0, .ref (a 212)), (2, .int x2)]) : W p l e R s m args below meth c H locs 0 0 Q (F0 m 104 ls []) := by
  have hx := C.1
  have hb := C.2.1
  unfold mb_skip_104 at hm
  refine lv_iload_n hx hb dX12_skip_104 rfl (lv_at hl 1 rfl) ?_
  refine lv_iconst (v := 2) hx hb dX12_skip_105 (by decide) ?_
  refine lv_iadd hx hb dX12_skip_106 ?_
  refine lv_istore_n (lv' := [(3, .int (x2 + (2 : Int32))), (0, .ref (a 212)), (2, .int x2)]) hx hb dX12_skip_107 rfl hl (by decide) rfl (fun ls hl => ?_)
  exact mwl_skip_108 fu C hret ag_2 hag_2 fu x2 (x2 + (2 : Int32)) F G hm hw (lv_sub hl [1, 2, 0] rfl)
theorem mw_skip_99 (fu : Nat) {res : Int32 × PF × PG} (C : mMC p R s m args c A v RX12 cX12_skip 4 1 21) (hret : ∀ (H1 : Heap) (locs1 : List Loc) (ls1 : Array Slot) (pc : Nat), mMW s A v a res.2.1 res.2.2 H1 locs1 → narrow .int (.int res.1) = .int res.1 → decode cX12_skip pc = .ok (.ireturn, 1) → W p l e R s m args below meth c H1 locs1 0 0 Q (F0 m pc ls1 [.int res.1])) (ag_2 : Int32 → PF → PG → PR) (hag_2 : ∀ (x2 : Int32) (F : PF) (G : PG), ag_2 x2 F G = some res → ∀ (H : Heap) (locs : List Loc) (ls : Array Slot), mMW s A v a F G H locs → lv_has ls 4 [(0, .ref (a 212)), (2, .int x2)] → W p l e R s m args below meth c H locs 0 0 Q (F0 m 2 ls [])) (x2 : Int32) (z0 : Int32) (F : PF) (G : PG) (hm : mb_skip_99 fu ag_2 x2 z0 F G = some res) {H : Heap} {locs : List Loc} (hw : mMW s A v a F G H locs) {ls : Array Slot} (hl : lv_has ls 4 [(0, .ref (a 212)), (2, .int x2)]) : W p l e R s m args below meth c H locs 0 0 Q (F0 m 99 ls [.int z0]) := by
  have hx := C.1
  have hb := C.2.1
  unfold mb_skip_99 at hm
  refine lv_bipush (v := 42) hx hb dX12_skip_99 (by decide) ?_
  refine lv_icmp_ne (tgt := 166) hx hb dX12_skip_101 (by decide) (fun c_1 => ?_) (fun c_1 => ?_)
  · have hm := (if_neg c_1).symm.trans hm
    exact mw_skip_166 fu C hret x2 F G hm hw (lv_sub hl [1] rfl)
  · have hm := (if_pos c_1).symm.trans hm
    exact mw_skip_104 fu C hret ag_2 hag_2 x2 F G hm hw (lv_sub hl [0, 1] rfl)
theorem mw_skip_92 (fu : Nat) {res : Int32 × PF × PG} (C : mMC p R s m args c A v RX12 cX12_skip 4 1 21) (hret : ∀ (H1 : Heap) (locs1 : List Loc) (ls1 : Array Slot) (pc : Nat), mMW s A v a res.2.1 res.2.2 H1 locs1 → narrow .int (.int res.1) = .int res.1 → decode cX12_skip pc = .ok (.ireturn, 1) → W p l e R s m args below meth c H1 locs1 0 0 Q (F0 m pc ls1 [.int res.1])) (ag_2 : Int32 → PF → PG → PR) (hag_2 : ∀ (x2 : Int32) (F : PF) (G : PG), ag_2 x2 F G = some res → ∀ (H : Heap) (locs : List Loc) (ls : Array Slot), mMW s A v a F G H locs → lv_has ls 4 [(0, .ref (a 212)), (2, .int x2)] → W p l e R s m args below meth c H locs 0 0 Q (F0 m 2 ls [])) (x2 : Int32) (F : PF) (G : PG) (hm : mb_skip_92 fu ag_2 x2 F G = some res) {H : Heap} {locs : List Loc} (hw : mMW s A v a F G H locs) {ls : Array Slot} (hl : lv_has ls 4 [(0, .ref (a 212)), (2, .int x2)]) : W p l e R s m args below meth c H locs 0 0 Q (F0 m 92 ls []) := by
  have hx := C.1
  have hb := C.2.1
  unfold mb_skip_92 at hm
  refine lv_aload_n hx hb dX12_skip_92 rfl (lv_at hl 0 rfl) ?_
  refine lv_iload_n hx hb dX12_skip_93 rfl (lv_at hl 1 rfl) ?_
  refine lv_iconst (v := 1) hx hb dX12_skip_94 (by decide) ?_
  refine lv_iadd hx hb dX12_skip_95 ?_
  obtain ⟨⟨r1, F1, G1⟩, hc, hm⟩ := bind_elim hm
  refine mcallI (n := 1) (As := [.int (x2 + (1 : Int32))]) (rest := []) C hw (mk_at l v a _ fu (x2 + (1 : Int32)) F G r1 F1 G1 hc) (mrecv_X12 C hw) mm_38 mm_39 mm_40 mm_27 mm_41 (by decide +kernel) rfl (by omega) (by omega) hl.1 rfl (Nat.le_of_ble_eq_true rfl) dX12_skip_96 (fun H locs hw => ?_)
  exact mw_skip_99 fu C hret ag_2 hag_2 x2 r1 F1 G1 hm hw (lv_sub hl [0, 1] rfl)
theorem mw_skip_87 (fu : Nat) {res : Int32 × PF × PG} (C : mMC p R s m args c A v RX12 cX12_skip 4 1 21) (hret : ∀ (H1 : Heap) (locs1 : List Loc) (ls1 : Array Slot) (pc : Nat), mMW s A v a res.2.1 res.2.2 H1 locs1 → narrow .int (.int res.1) = .int res.1 → decode cX12_skip pc = .ok (.ireturn, 1) → W p l e R s m args below meth c H1 locs1 0 0 Q (F0 m pc ls1 [.int res.1])) (ag_2 : Int32 → PF → PG → PR) (hag_2 : ∀ (x2 : Int32) (F : PF) (G : PG), ag_2 x2 F G = some res → ∀ (H : Heap) (locs : List Loc) (ls : Array Slot), mMW s A v a F G H locs → lv_has ls 4 [(0, .ref (a 212)), (2, .int x2)] → W p l e R s m args below meth c H locs 0 0 Q (F0 m 2 ls [])) (x2 : Int32) (z0 : Int32) (F : PF) (G : PG) (hm : mb_skip_87 fu ag_2 x2 z0 F G = some res) {H : Heap} {locs : List Loc} (hw : mMW s A v a F G H locs) {ls : Array Slot} (hl : lv_has ls 4 [(0, .ref (a 212)), (2, .int x2)]) : W p l e R s m args below meth c H locs 0 0 Q (F0 m 87 ls [.int z0]) := by
  have hx := C.1
  have hb := C.2.1
  unfold mb_skip_87 at hm
  refine lv_bipush (v := 47) hx hb dX12_skip_87 (by decide) ?_
  refine lv_icmp_ne (tgt := 166) hx hb dX12_skip_89 (by decide) (fun c_1 => ?_) (fun c_1 => ?_)
  · have hm := (if_neg c_1).symm.trans hm
    exact mw_skip_166 fu C hret x2 F G hm hw (lv_sub hl [1] rfl)
  · have hm := (if_pos c_1).symm.trans hm
    exact mw_skip_92 fu C hret ag_2 hag_2 x2 F G hm hw (lv_sub hl [0, 1] rfl)
theorem mw_skip_82 (fu : Nat) {res : Int32 × PF × PG} (C : mMC p R s m args c A v RX12 cX12_skip 4 1 21) (hret : ∀ (H1 : Heap) (locs1 : List Loc) (ls1 : Array Slot) (pc : Nat), mMW s A v a res.2.1 res.2.2 H1 locs1 → narrow .int (.int res.1) = .int res.1 → decode cX12_skip pc = .ok (.ireturn, 1) → W p l e R s m args below meth c H1 locs1 0 0 Q (F0 m pc ls1 [.int res.1])) (ag_2 : Int32 → PF → PG → PR) (hag_2 : ∀ (x2 : Int32) (F : PF) (G : PG), ag_2 x2 F G = some res → ∀ (H : Heap) (locs : List Loc) (ls : Array Slot), mMW s A v a F G H locs → lv_has ls 4 [(0, .ref (a 212)), (2, .int x2)] → W p l e R s m args below meth c H locs 0 0 Q (F0 m 2 ls [])) (x2 : Int32) (F : PF) (G : PG) (hm : mb_skip_82 fu ag_2 x2 F G = some res) {H : Heap} {locs : List Loc} (hw : mMW s A v a F G H locs) {ls : Array Slot} (hl : lv_has ls 4 [(0, .ref (a 212)), (2, .int x2)]) : W p l e R s m args below meth c H locs 0 0 Q (F0 m 82 ls []) := by
  have hx := C.1
  have hb := C.2.1
  unfold mb_skip_82 at hm
  refine lv_aload_n hx hb dX12_skip_82 rfl (lv_at hl 0 rfl) ?_
  refine lv_iload_n hx hb dX12_skip_83 rfl (lv_at hl 1 rfl) ?_
  obtain ⟨⟨r1, F1, G1⟩, hc, hm⟩ := bind_elim hm
  refine mcallI (n := 1) (As := [.int x2]) (rest := []) C hw (mk_at l v a _ fu x2 F G r1 F1 G1 hc) (mrecv_X12 C hw) mm_38 mm_39 mm_40 mm_27 mm_41 (by decide +kernel) rfl (by omega) (by omega) hl.1 rfl (Nat.le_of_ble_eq_true rfl) dX12_skip_84 (fun H locs hw => ?_)
  exact mw_skip_87 fu C hret ag_2 hag_2 x2 r1 F1 G1 hm hw (lv_sub hl [0, 1] rfl)
theorem mw_skip_76 (fu : Nat) {res : Int32 × PF × PG} (C : mMC p R s m args c A v RX12 cX12_skip 4 1 21) (hret : ∀ (H1 : Heap) (locs1 : List Loc) (ls1 : Array Slot) (pc : Nat), mMW s A v a res.2.1 res.2.2 H1 locs1 → narrow .int (.int res.1) = .int res.1 → decode cX12_skip pc = .ok (.ireturn, 1) → W p l e R s m args below meth c H1 locs1 0 0 Q (F0 m pc ls1 [.int res.1])) (ag_2 : Int32 → PF → PG → PR) (hag_2 : ∀ (x2 : Int32) (F : PF) (G : PG), ag_2 x2 F G = some res → ∀ (H : Heap) (locs : List Loc) (ls : Array Slot), mMW s A v a F G H locs → lv_has ls 4 [(0, .ref (a 212)), (2, .int x2)] → W p l e R s m args below meth c H locs 0 0 Q (F0 m 2 ls [])) (ag_58 : Int32 → PF → PG → PR) (hag_58 : ∀ (x2 : Int32) (F : PF) (G : PG), ag_58 x2 F G = some res → ∀ (H : Heap) (locs : List Loc) (ls : Array Slot), mMW s A v a F G H locs → lv_has ls 4 [(0, .ref (a 212)), (2, .int x2)] → W p l e R s m args below meth c H locs 0 0 Q (F0 m 58 ls [])) (x2 : Int32) (F : PF) (G : PG) (hm : mb_skip_76 fu ag_2 ag_58 x2 F G = some res) {H : Heap} {locs : List Loc} (hw : mMW s A v a F G H locs) {ls : Array Slot} (hl : lv_has ls 4 [(0, .ref (a 212)), (2, .int x2)]) : W p l e R s m args below meth c H locs 0 0 Q (F0 m 76 ls []) := by
  have hx := C.1
  have hb := C.2.1
  unfold mb_skip_76 at hm
  refine lv_iinc (v := (x2 + 1)) (lv' := [(2, .int (x2 + 1)), (0, .ref (a 212))]) hx hb dX12_skip_76 hl (k := 1) rfl (by rfl) (by decide) rfl (fun ls hl => ?_)
  refine lv_goto (tgt := 58) hx hb dX12_skip_79 (by decide) ?_
  exact hag_58 (x2 + 1) F G hm _ _ _ hw (lv_sub hl [1, 0] rfl)
theorem mw_skip_71 (fu : Nat) {res : Int32 × PF × PG} (C : mMC p R s m args c A v RX12 cX12_skip 4 1 21) (hret : ∀ (H1 : Heap) (locs1 : List Loc) (ls1 : Array Slot) (pc : Nat), mMW s A v a res.2.1 res.2.2 H1 locs1 → narrow .int (.int res.1) = .int res.1 → decode cX12_skip pc = .ok (.ireturn, 1) → W p l e R s m args below meth c H1 locs1 0 0 Q (F0 m pc ls1 [.int res.1])) (ag_2 : Int32 → PF → PG → PR) (hag_2 : ∀ (x2 : Int32) (F : PF) (G : PG), ag_2 x2 F G = some res → ∀ (H : Heap) (locs : List Loc) (ls : Array Slot), mMW s A v a F G H locs → lv_has ls 4 [(0, .ref (a 212)), (2, .int x2)] → W p l e R s m args below meth c H locs 0 0 Q (F0 m 2 ls [])) (ag_58 : Int32 → PF → PG → PR) (hag_58 : ∀ (x2 : Int32) (F : PF) (G : PG), ag_58 x2 F G = some res → ∀ (H : Heap) (locs : List Loc) (ls : Array Slot), mMW s A v a F G H locs → lv_has ls 4 [(0, .ref (a 212)), (2, .int x2)] → W p l e R s m args below meth c H locs 0 0 Q (F0 m 58 ls [])) (x2 : Int32) (z0 : Int32) (F : PF) (G : PG) (hm : mb_skip_71 fu ag_2 ag_58 x2 z0 F G = some res) {H : Heap} {locs : List Loc} (hw : mMW s A v a F G H locs) {ls : Array Slot} (hl : lv_has ls 4 [(0, .ref (a 212)), (2, .int x2)]) : W p l e R s m args below meth c H locs 0 0 Q (F0 m 71 ls [.int z0]) := by
  have hx := C.1
  have hb := C.2.1
  unfold mb_skip_71 at hm
  refine lv_bipush (v := 10) hx hb dX12_skip_71 (by decide) ?_
  refine lv_icmp_eq (tgt := 2) hx hb dX12_skip_73 (by decide) (fun c_1 => ?_) (fun c_1 => ?_)
  · have hm := (if_pos c_1).symm.trans hm
    exact hag_2 x2 F G hm _ _ _ hw (lv_sub hl [0, 1] rfl)
  · have hm := (if_neg c_1).symm.trans hm
    exact mw_skip_76 fu C hret ag_2 hag_2 ag_58 hag_58 x2 F G hm hw (lv_sub hl [0, 1] rfl)
theorem mw_skip_66 (fu : Nat) {res : Int32 × PF × PG} (C : mMC p R s m args c A v RX12 cX12_skip 4 1 21) (hret : ∀ (H1 : Heap) (locs1 : List Loc) (ls1 : Array Slot) (pc : Nat), mMW s A v a res.2.1 res.2.2 H1 locs1 → narrow .int (.int res.1) = .int res.1 → decode cX12_skip pc = .ok (.ireturn, 1) → W p l e R s m args below meth c H1 locs1 0 0 Q (F0 m pc ls1 [.int res.1])) (ag_2 : Int32 → PF → PG → PR) (hag_2 : ∀ (x2 : Int32) (F : PF) (G : PG), ag_2 x2 F G = some res → ∀ (H : Heap) (locs : List Loc) (ls : Array Slot), mMW s A v a F G H locs → lv_has ls 4 [(0, .ref (a 212)), (2, .int x2)] → W p l e R s m args below meth c H locs 0 0 Q (F0 m 2 ls [])) (ag_58 : Int32 → PF → PG → PR) (hag_58 : ∀ (x2 : Int32) (F : PF) (G : PG), ag_58 x2 F G = some res → ∀ (H : Heap) (locs : List Loc) (ls : Array Slot), mMW s A v a F G H locs → lv_has ls 4 [(0, .ref (a 212)), (2, .int x2)] → W p l e R s m args below meth c H locs 0 0 Q (F0 m 58 ls [])) (x2 : Int32) (F : PF) (G : PG) (hm : mb_skip_66 fu ag_2 ag_58 x2 F G = some res) {H : Heap} {locs : List Loc} (hw : mMW s A v a F G H locs) {ls : Array Slot} (hl : lv_has ls 4 [(0, .ref (a 212)), (2, .int x2)]) : W p l e R s m args below meth c H locs 0 0 Q (F0 m 66 ls []) := by
  have hx := C.1
  have hb := C.2.1
  unfold mb_skip_66 at hm
  refine lv_aload_n hx hb dX12_skip_66 rfl (lv_at hl 0 rfl) ?_
  refine lv_iload_n hx hb dX12_skip_67 rfl (lv_at hl 1 rfl) ?_
  obtain ⟨⟨r1, F1, G1⟩, hc, hm⟩ := bind_elim hm
  refine mcallI (n := 1) (As := [.int x2]) (rest := []) C hw (mk_at l v a _ fu x2 F G r1 F1 G1 hc) (mrecv_X12 C hw) mm_38 mm_39 mm_40 mm_27 mm_41 (by decide +kernel) rfl (by omega) (by omega) hl.1 rfl (Nat.le_of_ble_eq_true rfl) dX12_skip_68 (fun H locs hw => ?_)
  exact mw_skip_71 fu C hret ag_2 hag_2 ag_58 hag_58 x2 r1 F1 G1 hm hw (lv_sub hl [0, 1] rfl)
theorem mw_skip_58 (fu : Nat) {res : Int32 × PF × PG} (C : mMC p R s m args c A v RX12 cX12_skip 4 1 21) (hret : ∀ (H1 : Heap) (locs1 : List Loc) (ls1 : Array Slot) (pc : Nat), mMW s A v a res.2.1 res.2.2 H1 locs1 → narrow .int (.int res.1) = .int res.1 → decode cX12_skip pc = .ok (.ireturn, 1) → W p l e R s m args below meth c H1 locs1 0 0 Q (F0 m pc ls1 [.int res.1])) (ag_2 : Int32 → PF → PG → PR) (hag_2 : ∀ (x2 : Int32) (F : PF) (G : PG), ag_2 x2 F G = some res → ∀ (H : Heap) (locs : List Loc) (ls : Array Slot), mMW s A v a F G H locs → lv_has ls 4 [(0, .ref (a 212)), (2, .int x2)] → W p l e R s m args below meth c H locs 0 0 Q (F0 m 2 ls [])) (ag_58 : Int32 → PF → PG → PR) (hag_58 : ∀ (x2 : Int32) (F : PF) (G : PG), ag_58 x2 F G = some res → ∀ (H : Heap) (locs : List Loc) (ls : Array Slot), mMW s A v a F G H locs → lv_has ls 4 [(0, .ref (a 212)), (2, .int x2)] → W p l e R s m args below meth c H locs 0 0 Q (F0 m 58 ls [])) (x2 : Int32) (F : PF) (G : PG) (hm : mb_skip_58 fu ag_2 ag_58 x2 F G = some res) {H : Heap} {locs : List Loc} (hw : mMW s A v a F G H locs) {ls : Array Slot} (hl : lv_has ls 4 [(0, .ref (a 212)), (2, .int x2)]) : W p l e R s m args below meth c H locs 0 0 Q (F0 m 58 ls []) := by
  have hx := C.1
  have hb := C.2.1
  unfold mb_skip_58 at hm
  refine lv_iload_n hx hb dX12_skip_58 rfl (lv_at hl 1 rfl) ?_
  refine lv_aload_n hx hb dX12_skip_59 rfl (lv_at hl 0 rfl) ?_
  refine mg_X12_157 C hw dX12_skip_60 ?_
  refine lv_icmp_ge (tgt := 2) hx hb dX12_skip_63 (by decide) (fun c_1 => ?_) (fun c_1 => ?_)
  · have hm := (if_pos c_1).symm.trans hm
    exact hag_2 x2 F G hm _ _ _ hw (lv_sub hl [0, 1] rfl)
  · have hm := (if_neg c_1).symm.trans hm
    exact mw_skip_66 fu C hret ag_2 hag_2 ag_58 hag_58 x2 F G hm hw (lv_sub hl [0, 1] rfl)
theorem mwl_skip_58 (fu : Nat) {res : Int32 × PF × PG} (C : mMC p R s m args c A v RX12 cX12_skip 4 1 21) (hret : ∀ (H1 : Heap) (locs1 : List Loc) (ls1 : Array Slot) (pc : Nat), mMW s A v a res.2.1 res.2.2 H1 locs1 → narrow .int (.int res.1) = .int res.1 → decode cX12_skip pc = .ok (.ireturn, 1) → W p l e R s m args below meth c H1 locs1 0 0 Q (F0 m pc ls1 [.int res.1])) (ag_2 : Int32 → PF → PG → PR) (hag_2 : ∀ (x2 : Int32) (F : PF) (G : PG), ag_2 x2 F G = some res → ∀ (H : Heap) (locs : List Loc) (ls : Array Slot), mMW s A v a F G H locs → lv_has ls 4 [(0, .ref (a 212)), (2, .int x2)] → W p l e R s m args below meth c H locs 0 0 Q (F0 m 2 ls [])) : ∀ (n : Nat) (x2 : Int32) (F : PF) (G : PG) (hm : ml_skip_58 fu ag_2 n x2 F G = some res) {H : Heap} {locs : List Loc} (hw : mMW s A v a F G H locs) {ls : Array Slot} (hl : lv_has ls 4 [(0, .ref (a 212)), (2, .int x2)]), W p l e R s m args below meth c H locs 0 0 Q (F0 m 58 ls []) := by
  intro n
  induction n with
  | zero =>
    intro x2 F G hm
    exact no_elim (show (none : PR) = some res from hm)
  | succ n ih =>
    intro x2 F G hm H locs hw ls hl
    exact mw_skip_58 fu C hret ag_2 hag_2 (ml_skip_58 fu ag_2 n) (fun x2 F G hm H locs ls hw hl => ih x2 F G hm hw hl) x2 F G hm hw hl
theorem mw_skip_53 (fu : Nat) {res : Int32 × PF × PG} (C : mMC p R s m args c A v RX12 cX12_skip 4 1 21) (hret : ∀ (H1 : Heap) (locs1 : List Loc) (ls1 : Array Slot) (pc : Nat), mMW s A v a res.2.1 res.2.2 H1 locs1 → narrow .int (.int res.1) = .int res.1 → decode cX12_skip pc = .ok (.ireturn, 1) → W p l e R s m args below meth c H1 locs1 0 0 Q (F0 m pc ls1 [.int res.1])) (ag_2 : Int32 → PF → PG → PR) (hag_2 : ∀ (x2 : Int32) (F : PF) (G : PG), ag_2 x2 F G = some res → ∀ (H : Heap) (locs : List Loc) (ls : Array Slot), mMW s A v a F G H locs → lv_has ls 4 [(0, .ref (a 212)), (2, .int x2)] → W p l e R s m args below meth c H locs 0 0 Q (F0 m 2 ls [])) (x2 : Int32) (z0 : Int32) (F : PF) (G : PG) (hm : mb_skip_53 fu ag_2 x2 z0 F G = some res) {H : Heap} {locs : List Loc} (hw : mMW s A v a F G H locs) {ls : Array Slot} (hl : lv_has ls 4 [(0, .ref (a 212)), (2, .int x2)]) : W p l e R s m args below meth c H locs 0 0 Q (F0 m 53 ls [.int z0]) := by
  have hx := C.1
  have hb := C.2.1
  unfold mb_skip_53 at hm
  refine lv_bipush (v := 47) hx hb dX12_skip_53 (by decide) ?_
  refine lv_icmp_ne (tgt := 82) hx hb dX12_skip_55 (by decide) (fun c_1 => ?_) (fun c_1 => ?_)
  · have hm := (if_neg c_1).symm.trans hm
    exact mw_skip_82 fu C hret ag_2 hag_2 x2 F G hm hw (lv_sub hl [0, 1] rfl)
  · have hm := (if_pos c_1).symm.trans hm
    exact mwl_skip_58 fu C hret ag_2 hag_2 fu x2 F G hm hw (lv_sub hl [0, 1] rfl)
theorem mw_skip_46 (fu : Nat) {res : Int32 × PF × PG} (C : mMC p R s m args c A v RX12 cX12_skip 4 1 21) (hret : ∀ (H1 : Heap) (locs1 : List Loc) (ls1 : Array Slot) (pc : Nat), mMW s A v a res.2.1 res.2.2 H1 locs1 → narrow .int (.int res.1) = .int res.1 → decode cX12_skip pc = .ok (.ireturn, 1) → W p l e R s m args below meth c H1 locs1 0 0 Q (F0 m pc ls1 [.int res.1])) (ag_2 : Int32 → PF → PG → PR) (hag_2 : ∀ (x2 : Int32) (F : PF) (G : PG), ag_2 x2 F G = some res → ∀ (H : Heap) (locs : List Loc) (ls : Array Slot), mMW s A v a F G H locs → lv_has ls 4 [(0, .ref (a 212)), (2, .int x2)] → W p l e R s m args below meth c H locs 0 0 Q (F0 m 2 ls [])) (x2 : Int32) (F : PF) (G : PG) (hm : mb_skip_46 fu ag_2 x2 F G = some res) {H : Heap} {locs : List Loc} (hw : mMW s A v a F G H locs) {ls : Array Slot} (hl : lv_has ls 4 [(0, .ref (a 212)), (2, .int x2)]) : W p l e R s m args below meth c H locs 0 0 Q (F0 m 46 ls []) := by
  have hx := C.1
  have hb := C.2.1
  unfold mb_skip_46 at hm
  refine lv_aload_n hx hb dX12_skip_46 rfl (lv_at hl 0 rfl) ?_
  refine lv_iload_n hx hb dX12_skip_47 rfl (lv_at hl 1 rfl) ?_
  refine lv_iconst (v := 1) hx hb dX12_skip_48 (by decide) ?_
  refine lv_iadd hx hb dX12_skip_49 ?_
  obtain ⟨⟨r1, F1, G1⟩, hc, hm⟩ := bind_elim hm
  refine mcallI (n := 1) (As := [.int (x2 + (1 : Int32))]) (rest := []) C hw (mk_at l v a _ fu (x2 + (1 : Int32)) F G r1 F1 G1 hc) (mrecv_X12 C hw) mm_38 mm_39 mm_40 mm_27 mm_41 (by decide +kernel) rfl (by omega) (by omega) hl.1 rfl (Nat.le_of_ble_eq_true rfl) dX12_skip_50 (fun H locs hw => ?_)
  exact mw_skip_53 fu C hret ag_2 hag_2 x2 r1 F1 G1 hm hw (lv_sub hl [0, 1] rfl)
theorem mw_skip_41 (fu : Nat) {res : Int32 × PF × PG} (C : mMC p R s m args c A v RX12 cX12_skip 4 1 21) (hret : ∀ (H1 : Heap) (locs1 : List Loc) (ls1 : Array Slot) (pc : Nat), mMW s A v a res.2.1 res.2.2 H1 locs1 → narrow .int (.int res.1) = .int res.1 → decode cX12_skip pc = .ok (.ireturn, 1) → W p l e R s m args below meth c H1 locs1 0 0 Q (F0 m pc ls1 [.int res.1])) (ag_2 : Int32 → PF → PG → PR) (hag_2 : ∀ (x2 : Int32) (F : PF) (G : PG), ag_2 x2 F G = some res → ∀ (H : Heap) (locs : List Loc) (ls : Array Slot), mMW s A v a F G H locs → lv_has ls 4 [(0, .ref (a 212)), (2, .int x2)] → W p l e R s m args below meth c H locs 0 0 Q (F0 m 2 ls [])) (x2 : Int32) (z0 : Int32) (F : PF) (G : PG) (hm : mb_skip_41 fu ag_2 x2 z0 F G = some res) {H : Heap} {locs : List Loc} (hw : mMW s A v a F G H locs) {ls : Array Slot} (hl : lv_has ls 4 [(0, .ref (a 212)), (2, .int x2)]) : W p l e R s m args below meth c H locs 0 0 Q (F0 m 41 ls [.int z0]) := by
  have hx := C.1
  have hb := C.2.1
  unfold mb_skip_41 at hm
  refine lv_bipush (v := 47) hx hb dX12_skip_41 (by decide) ?_
  refine lv_icmp_ne (tgt := 82) hx hb dX12_skip_43 (by decide) (fun c_1 => ?_) (fun c_1 => ?_)
  · have hm := (if_neg c_1).symm.trans hm
    exact mw_skip_82 fu C hret ag_2 hag_2 x2 F G hm hw (lv_sub hl [0, 1] rfl)
  · have hm := (if_pos c_1).symm.trans hm
    exact mw_skip_46 fu C hret ag_2 hag_2 x2 F G hm hw (lv_sub hl [0, 1] rfl)
theorem mw_skip_36 (fu : Nat) {res : Int32 × PF × PG} (C : mMC p R s m args c A v RX12 cX12_skip 4 1 21) (hret : ∀ (H1 : Heap) (locs1 : List Loc) (ls1 : Array Slot) (pc : Nat), mMW s A v a res.2.1 res.2.2 H1 locs1 → narrow .int (.int res.1) = .int res.1 → decode cX12_skip pc = .ok (.ireturn, 1) → W p l e R s m args below meth c H1 locs1 0 0 Q (F0 m pc ls1 [.int res.1])) (ag_2 : Int32 → PF → PG → PR) (hag_2 : ∀ (x2 : Int32) (F : PF) (G : PG), ag_2 x2 F G = some res → ∀ (H : Heap) (locs : List Loc) (ls : Array Slot), mMW s A v a F G H locs → lv_has ls 4 [(0, .ref (a 212)), (2, .int x2)] → W p l e R s m args below meth c H locs 0 0 Q (F0 m 2 ls [])) (x2 : Int32) (F : PF) (G : PG) (hm : mb_skip_36 fu ag_2 x2 F G = some res) {H : Heap} {locs : List Loc} (hw : mMW s A v a F G H locs) {ls : Array Slot} (hl : lv_has ls 4 [(0, .ref (a 212)), (2, .int x2)]) : W p l e R s m args below meth c H locs 0 0 Q (F0 m 36 ls []) := by
  have hx := C.1
  have hb := C.2.1
  unfold mb_skip_36 at hm
  refine lv_aload_n hx hb dX12_skip_36 rfl (lv_at hl 0 rfl) ?_
  refine lv_iload_n hx hb dX12_skip_37 rfl (lv_at hl 1 rfl) ?_
  obtain ⟨⟨r1, F1, G1⟩, hc, hm⟩ := bind_elim hm
  refine mcallI (n := 1) (As := [.int x2]) (rest := []) C hw (mk_at l v a _ fu x2 F G r1 F1 G1 hc) (mrecv_X12 C hw) mm_38 mm_39 mm_40 mm_27 mm_41 (by decide +kernel) rfl (by omega) (by omega) hl.1 rfl (Nat.le_of_ble_eq_true rfl) dX12_skip_38 (fun H locs hw => ?_)
  exact mw_skip_41 fu C hret ag_2 hag_2 x2 r1 F1 G1 hm hw (lv_sub hl [0, 1] rfl)
theorem mw_skip_25 (fu : Nat) {res : Int32 × PF × PG} (C : mMC p R s m args c A v RX12 cX12_skip 4 1 21) (hret : ∀ (H1 : Heap) (locs1 : List Loc) (ls1 : Array Slot) (pc : Nat), mMW s A v a res.2.1 res.2.2 H1 locs1 → narrow .int (.int res.1) = .int res.1 → decode cX12_skip pc = .ok (.ireturn, 1) → W p l e R s m args below meth c H1 locs1 0 0 Q (F0 m pc ls1 [.int res.1])) (ag_2 : Int32 → PF → PG → PR) (hag_2 : ∀ (x2 : Int32) (F : PF) (G : PG), ag_2 x2 F G = some res → ∀ (H : Heap) (locs : List Loc) (ls : Array Slot), mMW s A v a F G H locs → lv_has ls 4 [(0, .ref (a 212)), (2, .int x2)] → W p l e R s m args below meth c H locs 0 0 Q (F0 m 2 ls [])) (x2 : Int32) (z0 : Int32) (F : PF) (G : PG) (hm : mb_skip_25 fu ag_2 x2 z0 F G = some res) {H : Heap} {locs : List Loc} (hw : mMW s A v a F G H locs) {ls : Array Slot} (hl : lv_has ls 4 [(0, .ref (a 212)), (2, .int x2)]) : W p l e R s m args below meth c H locs 0 0 Q (F0 m 25 ls [.int z0]) := by
  have hx := C.1
  have hb := C.2.1
  unfold mb_skip_25 at hm
  refine lv_bipush (v := 32) hx hb dX12_skip_25 (by decide) ?_
  refine lv_icmp_ne (tgt := 36) hx hb dX12_skip_27 (by decide) (fun c_1 => ?_) (fun c_1 => ?_)
  · have hm := (if_neg c_1).symm.trans hm
    exact mw_skip_36 fu C hret ag_2 hag_2 x2 F G hm hw (lv_sub hl [0, 1] rfl)
  · have hm := (if_pos c_1).symm.trans hm
    exact mw_skip_30 fu C hret ag_2 hag_2 x2 F G hm hw (lv_sub hl [0, 1] rfl)
theorem mw_skip_20 (fu : Nat) {res : Int32 × PF × PG} (C : mMC p R s m args c A v RX12 cX12_skip 4 1 21) (hret : ∀ (H1 : Heap) (locs1 : List Loc) (ls1 : Array Slot) (pc : Nat), mMW s A v a res.2.1 res.2.2 H1 locs1 → narrow .int (.int res.1) = .int res.1 → decode cX12_skip pc = .ok (.ireturn, 1) → W p l e R s m args below meth c H1 locs1 0 0 Q (F0 m pc ls1 [.int res.1])) (ag_2 : Int32 → PF → PG → PR) (hag_2 : ∀ (x2 : Int32) (F : PF) (G : PG), ag_2 x2 F G = some res → ∀ (H : Heap) (locs : List Loc) (ls : Array Slot), mMW s A v a F G H locs → lv_has ls 4 [(0, .ref (a 212)), (2, .int x2)] → W p l e R s m args below meth c H locs 0 0 Q (F0 m 2 ls [])) (x2 : Int32) (F : PF) (G : PG) (hm : mb_skip_20 fu ag_2 x2 F G = some res) {H : Heap} {locs : List Loc} (hw : mMW s A v a F G H locs) {ls : Array Slot} (hl : lv_has ls 4 [(0, .ref (a 212)), (2, .int x2)]) : W p l e R s m args below meth c H locs 0 0 Q (F0 m 20 ls []) := by
  have hx := C.1
  have hb := C.2.1
  unfold mb_skip_20 at hm
  refine lv_aload_n hx hb dX12_skip_20 rfl (lv_at hl 0 rfl) ?_
  refine lv_iload_n hx hb dX12_skip_21 rfl (lv_at hl 1 rfl) ?_
  obtain ⟨⟨r1, F1, G1⟩, hc, hm⟩ := bind_elim hm
  refine mcallI (n := 1) (As := [.int x2]) (rest := []) C hw (mk_at l v a _ fu x2 F G r1 F1 G1 hc) (mrecv_X12 C hw) mm_38 mm_39 mm_40 mm_27 mm_41 (by decide +kernel) rfl (by omega) (by omega) hl.1 rfl (Nat.le_of_ble_eq_true rfl) dX12_skip_22 (fun H locs hw => ?_)
  exact mw_skip_25 fu C hret ag_2 hag_2 x2 r1 F1 G1 hm hw (lv_sub hl [0, 1] rfl)
theorem mw_skip_15 (fu : Nat) {res : Int32 × PF × PG} (C : mMC p R s m args c A v RX12 cX12_skip 4 1 21) (hret : ∀ (H1 : Heap) (locs1 : List Loc) (ls1 : Array Slot) (pc : Nat), mMW s A v a res.2.1 res.2.2 H1 locs1 → narrow .int (.int res.1) = .int res.1 → decode cX12_skip pc = .ok (.ireturn, 1) → W p l e R s m args below meth c H1 locs1 0 0 Q (F0 m pc ls1 [.int res.1])) (ag_2 : Int32 → PF → PG → PR) (hag_2 : ∀ (x2 : Int32) (F : PF) (G : PG), ag_2 x2 F G = some res → ∀ (H : Heap) (locs : List Loc) (ls : Array Slot), mMW s A v a F G H locs → lv_has ls 4 [(0, .ref (a 212)), (2, .int x2)] → W p l e R s m args below meth c H locs 0 0 Q (F0 m 2 ls [])) (x2 : Int32) (z0 : Int32) (F : PF) (G : PG) (hm : mb_skip_15 fu ag_2 x2 z0 F G = some res) {H : Heap} {locs : List Loc} (hw : mMW s A v a F G H locs) {ls : Array Slot} (hl : lv_has ls 4 [(0, .ref (a 212)), (2, .int x2)]) : W p l e R s m args below meth c H locs 0 0 Q (F0 m 15 ls [.int z0]) := by
  have hx := C.1
  have hb := C.2.1
  unfold mb_skip_15 at hm
  refine lv_bipush (v := 10) hx hb dX12_skip_15 (by decide) ?_
  refine lv_icmp_eq (tgt := 30) hx hb dX12_skip_17 (by decide) (fun c_1 => ?_) (fun c_1 => ?_)
  · have hm := (if_pos c_1).symm.trans hm
    exact mw_skip_30 fu C hret ag_2 hag_2 x2 F G hm hw (lv_sub hl [0, 1] rfl)
  · have hm := (if_neg c_1).symm.trans hm
    exact mw_skip_20 fu C hret ag_2 hag_2 x2 F G hm hw (lv_sub hl [0, 1] rfl)
theorem mw_skip_10 (fu : Nat) {res : Int32 × PF × PG} (C : mMC p R s m args c A v RX12 cX12_skip 4 1 21) (hret : ∀ (H1 : Heap) (locs1 : List Loc) (ls1 : Array Slot) (pc : Nat), mMW s A v a res.2.1 res.2.2 H1 locs1 → narrow .int (.int res.1) = .int res.1 → decode cX12_skip pc = .ok (.ireturn, 1) → W p l e R s m args below meth c H1 locs1 0 0 Q (F0 m pc ls1 [.int res.1])) (ag_2 : Int32 → PF → PG → PR) (hag_2 : ∀ (x2 : Int32) (F : PF) (G : PG), ag_2 x2 F G = some res → ∀ (H : Heap) (locs : List Loc) (ls : Array Slot), mMW s A v a F G H locs → lv_has ls 4 [(0, .ref (a 212)), (2, .int x2)] → W p l e R s m args below meth c H locs 0 0 Q (F0 m 2 ls [])) (x2 : Int32) (F : PF) (G : PG) (hm : mb_skip_10 fu ag_2 x2 F G = some res) {H : Heap} {locs : List Loc} (hw : mMW s A v a F G H locs) {ls : Array Slot} (hl : lv_has ls 4 [(0, .ref (a 212)), (2, .int x2)]) : W p l e R s m args below meth c H locs 0 0 Q (F0 m 10 ls []) := by
  have hx := C.1
  have hb := C.2.1
  unfold mb_skip_10 at hm
  refine lv_aload_n hx hb dX12_skip_10 rfl (lv_at hl 0 rfl) ?_
  refine lv_iload_n hx hb dX12_skip_11 rfl (lv_at hl 1 rfl) ?_
  obtain ⟨⟨r1, F1, G1⟩, hc, hm⟩ := bind_elim hm
  refine mcallI (n := 1) (As := [.int x2]) (rest := []) C hw (mk_at l v a _ fu x2 F G r1 F1 G1 hc) (mrecv_X12 C hw) mm_38 mm_39 mm_40 mm_27 mm_41 (by decide +kernel) rfl (by omega) (by omega) hl.1 rfl (Nat.le_of_ble_eq_true rfl) dX12_skip_12 (fun H locs hw => ?_)
  exact mw_skip_15 fu C hret ag_2 hag_2 x2 r1 F1 G1 hm hw (lv_sub hl [0, 1] rfl)
theorem mw_skip_2 (fu : Nat) {res : Int32 × PF × PG} (C : mMC p R s m args c A v RX12 cX12_skip 4 1 21) (hret : ∀ (H1 : Heap) (locs1 : List Loc) (ls1 : Array Slot) (pc : Nat), mMW s A v a res.2.1 res.2.2 H1 locs1 → narrow .int (.int res.1) = .int res.1 → decode cX12_skip pc = .ok (.ireturn, 1) → W p l e R s m args below meth c H1 locs1 0 0 Q (F0 m pc ls1 [.int res.1])) (ag_2 : Int32 → PF → PG → PR) (hag_2 : ∀ (x2 : Int32) (F : PF) (G : PG), ag_2 x2 F G = some res → ∀ (H : Heap) (locs : List Loc) (ls : Array Slot), mMW s A v a F G H locs → lv_has ls 4 [(0, .ref (a 212)), (2, .int x2)] → W p l e R s m args below meth c H locs 0 0 Q (F0 m 2 ls [])) (x2 : Int32) (F : PF) (G : PG) (hm : mb_skip_2 fu ag_2 x2 F G = some res) {H : Heap} {locs : List Loc} (hw : mMW s A v a F G H locs) {ls : Array Slot} (hl : lv_has ls 4 [(0, .ref (a 212)), (2, .int x2)]) : W p l e R s m args below meth c H locs 0 0 Q (F0 m 2 ls []) := by
  have hx := C.1
  have hb := C.2.1
  unfold mb_skip_2 at hm
  refine lv_iload_n hx hb dX12_skip_2 rfl (lv_at hl 1 rfl) ?_
  refine lv_aload_n hx hb dX12_skip_3 rfl (lv_at hl 0 rfl) ?_
  refine mg_X12_157 C hw dX12_skip_4 ?_
  refine lv_icmp_ge (tgt := 168) hx hb dX12_skip_7 (by decide) (fun c_1 => ?_) (fun c_1 => ?_)
  · have hm := (if_pos c_1).symm.trans hm
    exact mw_skip_168 fu C hret x2 F G hm hw (lv_sub hl [1] rfl)
  · have hm := (if_neg c_1).symm.trans hm
    exact mw_skip_10 fu C hret ag_2 hag_2 x2 F G hm hw (lv_sub hl [0, 1] rfl)
theorem mwl_skip_2 (fu : Nat) {res : Int32 × PF × PG} (C : mMC p R s m args c A v RX12 cX12_skip 4 1 21) (hret : ∀ (H1 : Heap) (locs1 : List Loc) (ls1 : Array Slot) (pc : Nat), mMW s A v a res.2.1 res.2.2 H1 locs1 → narrow .int (.int res.1) = .int res.1 → decode cX12_skip pc = .ok (.ireturn, 1) → W p l e R s m args below meth c H1 locs1 0 0 Q (F0 m pc ls1 [.int res.1])) : ∀ (n : Nat) (x2 : Int32) (F : PF) (G : PG) (hm : ml_skip_2 fu n x2 F G = some res) {H : Heap} {locs : List Loc} (hw : mMW s A v a F G H locs) {ls : Array Slot} (hl : lv_has ls 4 [(0, .ref (a 212)), (2, .int x2)]), W p l e R s m args below meth c H locs 0 0 Q (F0 m 2 ls []) := by
  intro n
  induction n with
  | zero =>
    intro x2 F G hm
    exact no_elim (show (none : PR) = some res from hm)
  | succ n ih =>
    intro x2 F G hm H locs hw ls hl
    exact mw_skip_2 fu C hret (ml_skip_2 fu n) (fun x2 F G hm H locs ls hw hl => ih x2 F G hm hw hl) x2 F G hm hw hl
theorem mw_skip_0 (fu : Nat) {res : Int32 × PF × PG} (C : mMC p R s m args c A v RX12 cX12_skip 4 1 21) (hret : ∀ (H1 : Heap) (locs1 : List Loc) (ls1 : Array Slot) (pc : Nat), mMW s A v a res.2.1 res.2.2 H1 locs1 → narrow .int (.int res.1) = .int res.1 → decode cX12_skip pc = .ok (.ireturn, 1) → W p l e R s m args below meth c H1 locs1 0 0 Q (F0 m pc ls1 [.int res.1])) (x1 : Int32) (F : PF) (G : PG) (hm : mb_skip_0 fu x1 F G = some res) {H : Heap} {locs : List Loc} (hw : mMW s A v a F G H locs) {ls : Array Slot} (hl : lv_has ls 4 [(0, .ref (a 212)), (1, .int x1)]) : W p l e R s m args below meth c H locs 0 0 Q (F0 m 0 ls []) := by
  have hx := C.1
  have hb := C.2.1
  unfold mb_skip_0 at hm
  refine lv_iload_n hx hb dX12_skip_0 rfl (lv_at hl 1 rfl) ?_
  refine lv_istore_n (lv' := [(2, .int x1), (0, .ref (a 212)), (1, .int x1)]) hx hb dX12_skip_1 rfl hl (by decide) rfl (fun ls hl => ?_)
  exact mwl_skip_2 fu C hret fu x1 F G hm hw (lv_sub hl [1, 0] rfl)
theorem mk_skip (l : Launch) (v : EV) (a : Nat → Nat) (sz : Nat) (fu : Nat) (x1 : Int32) (F : PF) (G : PG) (r : Int32) (F1 : PF) (G1 : PG) (hm : mf_skip fu x1 F G = some (r, F1, G1)) : mMI l yX12_skip cX12_skip 4 (some .int) 1 21 v a sz [.ref (a 212), .int x1] F G r F1 G1 := mMI.of (ty := .int) (by decide) rfl (Nat.le_of_ble_eq_true rfl) (fun p e R s m args below meth c Q A H locs ls C hw hl hret => mw_skip_0 fu (res := (r, F1, G1)) C hret x1 F G hm hw hl)
def mb_token_40 (fu : Nat) (F : PF) (G : PG) : PR := some (0, F, G)
def mb_token_30 (fu : Nat) (F : PF) (G : PG) : PR := mb_token_40 fu (fup F 7 ((F 7) + (1 : Int32))) G
def mb_token_20 (fu : Nat) (x3 : Int32) (F : PF) (G : PG) : PR := if ixb (F 7) 4002 = true then (mb_token_30 fu F (gup G 6 (F 7).toNatClampNeg x3)) else none
def mb_token_10 (fu : Nat) (x2 : Int32) (x3 : Int32) (F : PF) (G : PG) : PR := if ixb (F 7) 4002 = true then (mb_token_20 fu x3 F (gup G 5 (F 7).toNatClampNeg x2)) else none
def mb_token_0 (fu : Nat) (x1 : Int32) (x2 : Int32) (x3 : Int32) (F : PF) (G : PG) : PR := if ixb (F 7) 4002 = true then (mb_token_10 fu x2 x3 F (gup G 4 (F 7).toNatClampNeg x1)) else none
def mf_token (fu : Nat) (x1 : Int32) (x2 : Int32) (x3 : Int32) (F : PF) (G : PG) : PR := mb_token_0 fu x1 x2 x3 F G
theorem mw_token_40 (fu : Nat) {res : Int32 × PF × PG} (C : mMC p R s m args c A v RX12 cX12_token 4 0 0) (hret : ∀ (H1 : Heap) (locs1 : List Loc) (ls1 : Array Slot) (pc : Nat), mMW s A v a res.2.1 res.2.2 H1 locs1 → decode cX12_token pc = .ok (.return_, 1) → W p l e R s m args below meth c H1 locs1 0 0 Q (F0 m pc ls1 [])) (F : PF) (G : PG) (hm : mb_token_40 fu F G = some res) {H : Heap} {locs : List Loc} (hw : mMW s A v a F G H locs) {ls : Array Slot} (hl : lv_has ls 4 []) : W p l e R s m args below meth c H locs 0 0 Q (F0 m 40 ls []) := by
  have hx := C.1
  have hb := C.2.1
  unfold mb_token_40 at hm
  obtain rfl := Option.some.inj hm
  exact hret _ _ _ _ hw dX12_token_40
theorem mw_token_30 (fu : Nat) {res : Int32 × PF × PG} (C : mMC p R s m args c A v RX12 cX12_token 4 0 0) (hret : ∀ (H1 : Heap) (locs1 : List Loc) (ls1 : Array Slot) (pc : Nat), mMW s A v a res.2.1 res.2.2 H1 locs1 → decode cX12_token pc = .ok (.return_, 1) → W p l e R s m args below meth c H1 locs1 0 0 Q (F0 m pc ls1 [])) (F : PF) (G : PG) (hm : mb_token_30 fu F G = some res) {H : Heap} {locs : List Loc} (hw : mMW s A v a F G H locs) {ls : Array Slot} (hl : lv_has ls 4 [(0, .ref (a 212))]) : W p l e R s m args below meth c H locs 0 0 Q (F0 m 30 ls []) := by
  have hx := C.1
  have hb := C.2.1
  unfold mb_token_30 at hm
  refine lv_aload_n hx hb dX12_token_30 rfl (lv_at hl 0 rfl) ?_
  refine lv_dup hx hb dX12_token_31 rfl ?_
  refine mg_X12_187 C hw dX12_token_32 ?_
  refine lv_iconst (v := 1) hx hb dX12_token_35 (by decide) ?_
  refine lv_iadd hx hb dX12_token_36 ?_
  refine mp_X12_187 C hw dX12_token_37 (fun H locs hw => ?_)
  exact mw_token_40 fu C hret (fup F 7 ((F 7) + (1 : Int32))) G hm hw (lv_sub hl [] rfl)
theorem mw_token_20 (fu : Nat) {res : Int32 × PF × PG} (C : mMC p R s m args c A v RX12 cX12_token 4 0 0) (hret : ∀ (H1 : Heap) (locs1 : List Loc) (ls1 : Array Slot) (pc : Nat), mMW s A v a res.2.1 res.2.2 H1 locs1 → decode cX12_token pc = .ok (.return_, 1) → W p l e R s m args below meth c H1 locs1 0 0 Q (F0 m pc ls1 [])) (x3 : Int32) (F : PF) (G : PG) (hm : mb_token_20 fu x3 F G = some res) {H : Heap} {locs : List Loc} (hw : mMW s A v a F G H locs) {ls : Array Slot} (hl : lv_has ls 4 [(0, .ref (a 212)), (3, .int x3)]) : W p l e R s m args below meth c H locs 0 0 Q (F0 m 20 ls []) := by
  have hx := C.1
  have hb := C.2.1
  unfold mb_token_20 at hm
  refine lv_aload_n hx hb dX12_token_20 rfl (lv_at hl 0 rfl) ?_
  refine mg_X12_22 C hw dX12_token_21 ?_
  refine lv_aload_n hx hb dX12_token_24 rfl (lv_at hl 0 rfl) ?_
  refine mg_X12_187 C hw dX12_token_25 ?_
  refine lv_iload_n hx hb dX12_token_28 rfl (lv_at hl 1 rfl) ?_
  obtain ⟨hi, hm⟩ := ix_elim hm
  refine mas_6 C hw hi dX12_token_29 (fun H locs hw => ?_)
  exact mw_token_30 fu C hret F (gup G 6 (F 7).toNatClampNeg x3) hm hw (lv_sub hl [0] rfl)
theorem mw_token_10 (fu : Nat) {res : Int32 × PF × PG} (C : mMC p R s m args c A v RX12 cX12_token 4 0 0) (hret : ∀ (H1 : Heap) (locs1 : List Loc) (ls1 : Array Slot) (pc : Nat), mMW s A v a res.2.1 res.2.2 H1 locs1 → decode cX12_token pc = .ok (.return_, 1) → W p l e R s m args below meth c H1 locs1 0 0 Q (F0 m pc ls1 [])) (x2 : Int32) (x3 : Int32) (F : PF) (G : PG) (hm : mb_token_10 fu x2 x3 F G = some res) {H : Heap} {locs : List Loc} (hw : mMW s A v a F G H locs) {ls : Array Slot} (hl : lv_has ls 4 [(0, .ref (a 212)), (2, .int x2), (3, .int x3)]) : W p l e R s m args below meth c H locs 0 0 Q (F0 m 10 ls []) := by
  have hx := C.1
  have hb := C.2.1
  unfold mb_token_10 at hm
  refine lv_aload_n hx hb dX12_token_10 rfl (lv_at hl 0 rfl) ?_
  refine mg_X12_19 C hw dX12_token_11 ?_
  refine lv_aload_n hx hb dX12_token_14 rfl (lv_at hl 0 rfl) ?_
  refine mg_X12_187 C hw dX12_token_15 ?_
  refine lv_iload_n hx hb dX12_token_18 rfl (lv_at hl 1 rfl) ?_
  obtain ⟨hi, hm⟩ := ix_elim hm
  refine mas_5 C hw hi dX12_token_19 (fun H locs hw => ?_)
  exact mw_token_20 fu C hret x3 F (gup G 5 (F 7).toNatClampNeg x2) hm hw (lv_sub hl [0, 2] rfl)
theorem mw_token_0 (fu : Nat) {res : Int32 × PF × PG} (C : mMC p R s m args c A v RX12 cX12_token 4 0 0) (hret : ∀ (H1 : Heap) (locs1 : List Loc) (ls1 : Array Slot) (pc : Nat), mMW s A v a res.2.1 res.2.2 H1 locs1 → decode cX12_token pc = .ok (.return_, 1) → W p l e R s m args below meth c H1 locs1 0 0 Q (F0 m pc ls1 [])) (x1 : Int32) (x2 : Int32) (x3 : Int32) (F : PF) (G : PG) (hm : mb_token_0 fu x1 x2 x3 F G = some res) {H : Heap} {locs : List Loc} (hw : mMW s A v a F G H locs) {ls : Array Slot} (hl : lv_has ls 4 [(0, .ref (a 212)), (1, .int x1), (2, .int x2), (3, .int x3)]) : W p l e R s m args below meth c H locs 0 0 Q (F0 m 0 ls []) := by
  have hx := C.1
  have hb := C.2.1
  unfold mb_token_0 at hm
  refine lv_aload_n hx hb dX12_token_0 rfl (lv_at hl 0 rfl) ?_
  refine mg_X12_16 C hw dX12_token_1 ?_
  refine lv_aload_n hx hb dX12_token_4 rfl (lv_at hl 0 rfl) ?_
  refine mg_X12_187 C hw dX12_token_5 ?_
  refine lv_iload_n hx hb dX12_token_8 rfl (lv_at hl 1 rfl) ?_
  obtain ⟨hi, hm⟩ := ix_elim hm
  refine mas_4 C hw hi dX12_token_9 (fun H locs hw => ?_)
  exact mw_token_10 fu C hret x2 x3 F (gup G 4 (F 7).toNatClampNeg x1) hm hw (lv_sub hl [0, 2, 3] rfl)
theorem mk_token (l : Launch) (v : EV) (a : Nat → Nat) (sz : Nat) (fu : Nat) (x1 : Int32) (x2 : Int32) (x3 : Int32) (F : PF) (G : PG) (r : Int32) (F1 : PF) (G1 : PG) (hm : mf_token fu x1 x2 x3 F G = some (r, F1, G1)) : mMV l yX12_token cX12_token 4 0 0 v a sz [.ref (a 212), .int x1, .int x2, .int x3] F G F1 G1 := mMV.of (by decide) (Nat.le_of_ble_eq_true rfl) (fun p e R s m args below meth c Q A H locs ls C hw hl hret => mw_token_0 fu (res := (r, F1, G1)) C hret x1 x2 x3 F G hm hw hl)
def mb_numberToken_173 (fu : Nat) (F : PF) (G : PG) : PR := some ((-1), F, G)
def mb_numberToken_184 (fu : Nat) (x3 : Int32) (F : PF) (G : PG) : PR := some (x3, F, G)
def mb_numberToken_175 (fu : Nat) (x1 : Int32) (x3 : Int32) (x5 : Int64) (F : PF) (G : PG) : PR := (mf_token fu 3 (x5.toInt32) x1 F G).bind (fun q => mb_numberToken_184 fu x3 q.2.1 q.2.2)
def mb_numberToken_170 (fu : Nat) (x1 : Int32) (x3 : Int32) (x5 : Int64) (z0 : Int32) (F : PF) (G : PG) : PR := if z0 = (0 : Int32) then mb_numberToken_175 fu x1 x3 x5 F G else mb_numberToken_173 fu F G
def mb_numberToken_167 (fu : Nat) (x1 : Int32) (x3 : Int32) (x5 : Int64) (z0 : Int32) (F : PF) (G : PG) : PR := (mf_isInner fu z0 F G).bind (fun q => mb_numberToken_170 fu x1 x3 x5 q.1 q.2.1 q.2.2)
def mb_numberToken_162 (fu : Nat) (x1 : Int32) (x3 : Int32) (x5 : Int64) (F : PF) (G : PG) : PR := (mf_at fu x3 F G).bind (fun q => mb_numberToken_167 fu x1 x3 x5 q.1 q.2.1 q.2.2)
def mb_numberToken_153 (fu : Nat) (x1 : Int32) (x3 : Int32) (x5 : Int64) (F : PF) (G : PG) : PR := if (0 : Int32) < (lg_cmp x5 (4294967295 : Int64)) then mb_numberToken_173 fu F G else mb_numberToken_162 fu x1 x3 x5 F G
def mb_numberToken_150 (fu : Nat) (x1 : Int32) (x3 : Int32) (x5 : Int64) (z0 : Int32) (z1 : Int32) (F : PF) (G : PG) : PR := if z0 < z1 then mb_numberToken_173 fu F G else mb_numberToken_153 fu x1 x3 x5 F G
def mb_numberToken_148 (fu : Nat) (x1 : Int32) (x3 : Int32) (x5 : Int64) (z0 : Int32) (F : PF) (G : PG) : PR := mb_numberToken_150 fu x1 x3 x5 10 z0 F G
def mb_numberToken_143 (fu : Nat) (x1 : Int32) (x3 : Int32) (x5 : Int64) (z0 : Int32) (F : PF) (G : PG) : PR := mb_numberToken_150 fu x1 x3 x5 8 z0 F G
def mb_numberToken_137 (fu : Nat) (x1 : Int32) (x2 : Int32) (x3 : Int32) (x5 : Int64) (x7 : Int32) (F : PF) (G : PG) : PR := if x2 = (0 : Int32) then mb_numberToken_148 fu x1 x3 x5 x7 F G else mb_numberToken_143 fu x1 x3 x5 x7 F G
def mb_numberToken_125 (fu : Nat) (x1 : Int32) (x2 : Int32) (x3 : Int32) (x4 : Int32) (x5 : Int64) (F : PF) (G : PG) : PR := if (x3 - x4) < (1 : Int32) then mb_numberToken_173 fu F G else mb_numberToken_137 fu x1 x2 x3 x5 (x3 - x4) F G
def mb_numberToken_117 (fu : Nat) (ag_46 : Int32 → Int32 → Int32 → Int32 → Int64 → PF → PG → PR) (x1 : Int32) (x2 : Int32) (x3 : Int32) (x4 : Int32) (z0 : Int64) (F : PF) (G : PG) : PR := ag_46 x1 x2 (x3 + 1) x4 z0 F G
def mb_numberToken_115 (fu : Nat) (ag_46 : Int32 → Int32 → Int32 → Int32 → Int64 → PF → PG → PR) (x1 : Int32) (x2 : Int32) (x3 : Int32) (x4 : Int32) (x5 : Int64) (F : PF) (G : PG) : PR := mb_numberToken_117 fu ag_46 x1 x2 x3 x4 x5 F G
def mb_numberToken_110 (fu : Nat) (ag_46 : Int32 → Int32 → Int32 → Int32 → Int64 → PF → PG → PR) (x1 : Int32) (x2 : Int32) (x3 : Int32) (x4 : Int32) (z0 : Int32) (z1 : Int64) (F : PF) (G : PG) : PR := mb_numberToken_117 fu ag_46 x1 x2 x3 x4 (z1 + (z0.toInt64)) F G
def mb_numberToken_107 (fu : Nat) (ag_46 : Int32 → Int32 → Int32 → Int32 → Int64 → PF → PG → PR) (x1 : Int32) (x2 : Int32) (x3 : Int32) (x4 : Int32) (z0 : Int32) (z1 : Int64) (F : PF) (G : PG) : PR := (mf_hex fu z0 F G).bind (fun q => mb_numberToken_110 fu ag_46 x1 x2 x3 x4 q.1 z1 q.2.1 q.2.2)
def mb_numberToken_101 (fu : Nat) (ag_46 : Int32 → Int32 → Int32 → Int32 → Int64 → PF → PG → PR) (x1 : Int32) (x2 : Int32) (x3 : Int32) (x4 : Int32) (z0 : Int64) (z1 : Int64) (F : PF) (G : PG) : PR := (mf_at fu x3 F G).bind (fun q => mb_numberToken_107 fu ag_46 x1 x2 x3 x4 q.1 (z1 * z0) q.2.1 q.2.2)
def mb_numberToken_98 (fu : Nat) (ag_46 : Int32 → Int32 → Int32 → Int32 → Int64 → PF → PG → PR) (x1 : Int32) (x2 : Int32) (x3 : Int32) (x4 : Int32) (z0 : Int64) (F : PF) (G : PG) : PR := mb_numberToken_101 fu ag_46 x1 x2 x3 x4 (10 : Int64) z0 F G
def mb_numberToken_92 (fu : Nat) (ag_46 : Int32 → Int32 → Int32 → Int32 → Int64 → PF → PG → PR) (x1 : Int32) (x2 : Int32) (x3 : Int32) (x4 : Int32) (z0 : Int64) (F : PF) (G : PG) : PR := mb_numberToken_101 fu ag_46 x1 x2 x3 x4 (16 : Int64) z0 F G
def mb_numberToken_86 (fu : Nat) (ag_46 : Int32 → Int32 → Int32 → Int32 → Int64 → PF → PG → PR) (x1 : Int32) (x2 : Int32) (x3 : Int32) (x4 : Int32) (x5 : Int64) (F : PF) (G : PG) : PR := if x2 = (0 : Int32) then mb_numberToken_98 fu ag_46 x1 x2 x3 x4 x5 F G else mb_numberToken_92 fu ag_46 x1 x2 x3 x4 x5 F G
def mb_numberToken_77 (fu : Nat) (ag_46 : Int32 → Int32 → Int32 → Int32 → Int64 → PF → PG → PR) (x1 : Int32) (x2 : Int32) (x3 : Int32) (x4 : Int32) (x5 : Int64) (F : PF) (G : PG) : PR := if (10 : Int32) ≤ (x3 - x4) then mb_numberToken_115 fu ag_46 x1 x2 x3 x4 x5 F G else mb_numberToken_86 fu ag_46 x1 x2 x3 x4 x5 F G
def mb_numberToken_74 (fu : Nat) (ag_46 : Int32 → Int32 → Int32 → Int32 → Int64 → PF → PG → PR) (x1 : Int32) (x2 : Int32) (x3 : Int32) (x4 : Int32) (x5 : Int64) (z0 : Int32) (F : PF) (G : PG) : PR := if z0 = (0 : Int32) then mb_numberToken_125 fu x1 x2 x3 x4 x5 F G else mb_numberToken_77 fu ag_46 x1 x2 x3 x4 x5 F G
def mb_numberToken_71 (fu : Nat) (ag_46 : Int32 → Int32 → Int32 → Int32 → Int64 → PF → PG → PR) (x1 : Int32) (x2 : Int32) (x3 : Int32) (x4 : Int32) (x5 : Int64) (z0 : Int32) (F : PF) (G : PG) : PR := (mf_isDigit fu z0 F G).bind (fun q => mb_numberToken_74 fu ag_46 x1 x2 x3 x4 x5 q.1 q.2.1 q.2.2)
def mb_numberToken_66 (fu : Nat) (ag_46 : Int32 → Int32 → Int32 → Int32 → Int64 → PF → PG → PR) (x1 : Int32) (x2 : Int32) (x3 : Int32) (x4 : Int32) (x5 : Int64) (F : PF) (G : PG) : PR := (mf_at fu x3 F G).bind (fun q => mb_numberToken_71 fu ag_46 x1 x2 x3 x4 x5 q.1 q.2.1 q.2.2)
def mb_numberToken_63 (fu : Nat) (ag_46 : Int32 → Int32 → Int32 → Int32 → Int64 → PF → PG → PR) (x1 : Int32) (x2 : Int32) (x3 : Int32) (x4 : Int32) (x5 : Int64) (F : PF) (G : PG) : PR := mb_numberToken_77 fu ag_46 x1 x2 x3 x4 x5 F G
def mb_numberToken_58 (fu : Nat) (ag_46 : Int32 → Int32 → Int32 → Int32 → Int64 → PF → PG → PR) (x1 : Int32) (x2 : Int32) (x3 : Int32) (x4 : Int32) (x5 : Int64) (z0 : Int32) (F : PF) (G : PG) : PR := if (16 : Int32) ≤ z0 then mb_numberToken_125 fu x1 x2 x3 x4 x5 F G else mb_numberToken_63 fu ag_46 x1 x2 x3 x4 x5 F G
def mb_numberToken_55 (fu : Nat) (ag_46 : Int32 → Int32 → Int32 → Int32 → Int64 → PF → PG → PR) (x1 : Int32) (x2 : Int32) (x3 : Int32) (x4 : Int32) (x5 : Int64) (z0 : Int32) (F : PF) (G : PG) : PR := (mf_hex fu z0 F G).bind (fun q => mb_numberToken_58 fu ag_46 x1 x2 x3 x4 x5 q.1 q.2.1 q.2.2)
def mb_numberToken_50 (fu : Nat) (ag_46 : Int32 → Int32 → Int32 → Int32 → Int64 → PF → PG → PR) (x1 : Int32) (x2 : Int32) (x3 : Int32) (x4 : Int32) (x5 : Int64) (F : PF) (G : PG) : PR := (mf_at fu x3 F G).bind (fun q => mb_numberToken_55 fu ag_46 x1 x2 x3 x4 x5 q.1 q.2.1 q.2.2)
def mb_numberToken_46 (fu : Nat) (ag_46 : Int32 → Int32 → Int32 → Int32 → Int64 → PF → PG → PR) (x1 : Int32) (x2 : Int32) (x3 : Int32) (x4 : Int32) (x5 : Int64) (F : PF) (G : PG) : PR := if x2 = (0 : Int32) then mb_numberToken_66 fu ag_46 x1 x2 x3 x4 x5 F G else mb_numberToken_50 fu ag_46 x1 x2 x3 x4 x5 F G
def ml_numberToken_46 (fu : Nat) : Nat → Int32 → Int32 → Int32 → Int32 → Int64 → PF → PG → PR
  | 0 => fun _ _ _ _ _ _ _ => none
  | n + 1 => fun x1 x2 x3 x4 x5 F G => mb_numberToken_46 fu (ml_numberToken_46 fu n) x1 x2 x3 x4 x5 F G
def mb_numberToken_39 (fu : Nat) (x1 : Int32) (x2 : Int32) (z0 : Int32) (F : PF) (G : PG) : PR := ml_numberToken_46 fu fu x1 x2 z0 z0 (0 : Int64) F G
def mb_numberToken_38 (fu : Nat) (x1 : Int32) (x2 : Int32) (F : PF) (G : PG) : PR := mb_numberToken_39 fu x1 x2 x1 F G
def mb_numberToken_32 (fu : Nat) (x1 : Int32) (x2 : Int32) (F : PF) (G : PG) : PR := mb_numberToken_39 fu x1 x2 (x1 + (2 : Int32)) F G
def mb_numberToken_27 (fu : Nat) (x1 : Int32) (z0 : Int32) (F : PF) (G : PG) : PR := if z0 = (0 : Int32) then mb_numberToken_38 fu x1 z0 F G else mb_numberToken_32 fu x1 z0 F G
def mb_numberToken_26 (fu : Nat) (x1 : Int32) (F : PF) (G : PG) : PR := mb_numberToken_27 fu x1 0 F G
def mb_numberToken_22 (fu : Nat) (x1 : Int32) (F : PF) (G : PG) : PR := mb_numberToken_27 fu x1 1 F G
def mb_numberToken_17 (fu : Nat) (x1 : Int32) (z0 : Int32) (F : PF) (G : PG) : PR := if z0 = (120 : Int32) then mb_numberToken_22 fu x1 F G else mb_numberToken_26 fu x1 F G
def mb_numberToken_10 (fu : Nat) (x1 : Int32) (F : PF) (G : PG) : PR := (mf_at fu (x1 + (1 : Int32)) F G).bind (fun q => mb_numberToken_17 fu x1 q.1 q.2.1 q.2.2)
def mb_numberToken_5 (fu : Nat) (x1 : Int32) (z0 : Int32) (F : PF) (G : PG) : PR := if z0 = (48 : Int32) then mb_numberToken_10 fu x1 F G else mb_numberToken_26 fu x1 F G
def mb_numberToken_0 (fu : Nat) (x1 : Int32) (F : PF) (G : PG) : PR := (mf_at fu x1 F G).bind (fun q => mb_numberToken_5 fu x1 q.1 q.2.1 q.2.2)
def mf_numberToken (fu : Nat) (x1 : Int32) (F : PF) (G : PG) : PR := mb_numberToken_0 fu x1 F G
theorem mw_numberToken_173 (fu : Nat) {res : Int32 × PF × PG} (C : mMC p R s m args c A v RX12 cX12_numberToken 8 2 40) (hret : ∀ (H1 : Heap) (locs1 : List Loc) (ls1 : Array Slot) (pc : Nat), mMW s A v a res.2.1 res.2.2 H1 locs1 → narrow .int (.int res.1) = .int res.1 → decode cX12_numberToken pc = .ok (.ireturn, 1) → W p l e R s m args below meth c H1 locs1 0 0 Q (F0 m pc ls1 [.int res.1])) (F : PF) (G : PG) (hm : mb_numberToken_173 fu F G = some res) {H : Heap} {locs : List Loc} (hw : mMW s A v a F G H locs) {ls : Array Slot} (hl : lv_has ls 8 []) : W p l e R s m args below meth c H locs 0 0 Q (F0 m 173 ls []) := by
  have hx := C.1
  have hb := C.2.1
  unfold mb_numberToken_173 at hm
  refine lv_iconst (v := (-1)) hx hb dX12_numberToken_173 (by decide) ?_
  obtain rfl := Option.some.inj hm
  exact hret _ _ _ _ hw rfl dX12_numberToken_174
theorem mw_numberToken_184 (fu : Nat) {res : Int32 × PF × PG} (C : mMC p R s m args c A v RX12 cX12_numberToken 8 2 40) (hret : ∀ (H1 : Heap) (locs1 : List Loc) (ls1 : Array Slot) (pc : Nat), mMW s A v a res.2.1 res.2.2 H1 locs1 → narrow .int (.int res.1) = .int res.1 → decode cX12_numberToken pc = .ok (.ireturn, 1) → W p l e R s m args below meth c H1 locs1 0 0 Q (F0 m pc ls1 [.int res.1])) (x3 : Int32) (F : PF) (G : PG) (hm : mb_numberToken_184 fu x3 F G = some res) {H : Heap} {locs : List Loc} (hw : mMW s A v a F G H locs) {ls : Array Slot} (hl : lv_has ls 8 [(3, .int x3)]) : W p l e R s m args below meth c H locs 0 0 Q (F0 m 184 ls []) := by
  have hx := C.1
  have hb := C.2.1
  unfold mb_numberToken_184 at hm
  refine lv_iload_n hx hb dX12_numberToken_184 rfl (lv_at hl 0 rfl) ?_
  obtain rfl := Option.some.inj hm
  exact hret _ _ _ _ hw rfl dX12_numberToken_185
theorem mw_numberToken_175 (fu : Nat) {res : Int32 × PF × PG} (C : mMC p R s m args c A v RX12 cX12_numberToken 8 2 40) (hret : ∀ (H1 : Heap) (locs1 : List Loc) (ls1 : Array Slot) (pc : Nat), mMW s A v a res.2.1 res.2.2 H1 locs1 → narrow .int (.int res.1) = .int res.1 → decode cX12_numberToken pc = .ok (.ireturn, 1) → W p l e R s m args below meth c H1 locs1 0 0 Q (F0 m pc ls1 [.int res.1])) (x1 : Int32) (x3 : Int32) (x5 : Int64) (F : PF) (G : PG) (hm : mb_numberToken_175 fu x1 x3 x5 F G = some res) {H : Heap} {locs : List Loc} (hw : mMW s A v a F G H locs) {ls : Array Slot} (hl : lv_has ls 8 [(0, .ref (a 212)), (1, .int x1), (3, .int x3), (5, .long x5)]) : W p l e R s m args below meth c H locs 0 0 Q (F0 m 175 ls []) := by
  have hx := C.1
  have hb := C.2.1
  unfold mb_numberToken_175 at hm
  refine lv_aload_n hx hb dX12_numberToken_175 rfl (lv_at hl 0 rfl) ?_
  refine lv_iconst (v := 3) hx hb dX12_numberToken_176 (by decide) ?_
  refine lv_lload hx hb dX12_numberToken_177 (lv_at hl 3 rfl) ?_
  refine lv_l2i hx hb dX12_numberToken_179 rfl ?_
  refine lv_iload_n hx hb dX12_numberToken_180 rfl (lv_at hl 1 rfl) ?_
  obtain ⟨⟨r1, F1, G1⟩, hc, hm⟩ := bind_elim hm
  refine mcallV (n := 3) (As := [.int 3, .int (x5.toInt32), .int x1]) (rest := []) C hw (mk_token l v a _ fu 3 (x5.toInt32) x1 F G r1 F1 G1 hc) (mrecv_X12 C hw) mm_118 mm_119 mm_120 mm_27 mm_121 (by decide +kernel) rfl (by omega) (by omega) hl.1 rfl (Nat.le_of_ble_eq_true rfl) dX12_numberToken_181 (fun H locs hw => ?_)
  exact mw_numberToken_184 fu C hret x3 F1 G1 hm hw (lv_sub hl [2] rfl)
theorem mw_numberToken_170 (fu : Nat) {res : Int32 × PF × PG} (C : mMC p R s m args c A v RX12 cX12_numberToken 8 2 40) (hret : ∀ (H1 : Heap) (locs1 : List Loc) (ls1 : Array Slot) (pc : Nat), mMW s A v a res.2.1 res.2.2 H1 locs1 → narrow .int (.int res.1) = .int res.1 → decode cX12_numberToken pc = .ok (.ireturn, 1) → W p l e R s m args below meth c H1 locs1 0 0 Q (F0 m pc ls1 [.int res.1])) (x1 : Int32) (x3 : Int32) (x5 : Int64) (z0 : Int32) (F : PF) (G : PG) (hm : mb_numberToken_170 fu x1 x3 x5 z0 F G = some res) {H : Heap} {locs : List Loc} (hw : mMW s A v a F G H locs) {ls : Array Slot} (hl : lv_has ls 8 [(0, .ref (a 212)), (1, .int x1), (3, .int x3), (5, .long x5)]) : W p l e R s m args below meth c H locs 0 0 Q (F0 m 170 ls [.int z0]) := by
  have hx := C.1
  have hb := C.2.1
  unfold mb_numberToken_170 at hm
  refine lv_if_eq (tgt := 175) hx hb dX12_numberToken_170 (by decide) (fun c_1 => ?_) (fun c_1 => ?_)
  · have hm := (if_pos c_1).symm.trans hm
    exact mw_numberToken_175 fu C hret x1 x3 x5 F G hm hw (lv_sub hl [0, 1, 2, 3] rfl)
  · have hm := (if_neg c_1).symm.trans hm
    exact mw_numberToken_173 fu C hret F G hm hw (lv_sub hl [] rfl)
theorem mw_numberToken_167 (fu : Nat) {res : Int32 × PF × PG} (C : mMC p R s m args c A v RX12 cX12_numberToken 8 2 40) (hret : ∀ (H1 : Heap) (locs1 : List Loc) (ls1 : Array Slot) (pc : Nat), mMW s A v a res.2.1 res.2.2 H1 locs1 → narrow .int (.int res.1) = .int res.1 → decode cX12_numberToken pc = .ok (.ireturn, 1) → W p l e R s m args below meth c H1 locs1 0 0 Q (F0 m pc ls1 [.int res.1])) (x1 : Int32) (x3 : Int32) (x5 : Int64) (z0 : Int32) (F : PF) (G : PG) (hm : mb_numberToken_167 fu x1 x3 x5 z0 F G = some res) {H : Heap} {locs : List Loc} (hw : mMW s A v a F G H locs) {ls : Array Slot} (hl : lv_has ls 8 [(0, .ref (a 212)), (1, .int x1), (3, .int x3), (5, .long x5)]) : W p l e R s m args below meth c H locs 0 0 Q (F0 m 167 ls [.int z0]) := by
  have hx := C.1
  have hb := C.2.1
  unfold mb_numberToken_167 at hm
  obtain ⟨⟨r1, F1, G1⟩, hc, hm⟩ := bind_elim hm
  refine mcallIS (n := 1) (As := [.int z0]) (rest := []) C hw (mk_isInner l v a _ fu z0 F G r1 F1 G1 hc) mm_53 mm_54 mm_27 mm_55 (by decide +kernel) rfl (by omega) (by omega) hl.1 rfl (Nat.le_of_ble_eq_true rfl) dX12_numberToken_167 (fun H locs hw => ?_)
  exact mw_numberToken_170 fu C hret x1 x3 x5 r1 F1 G1 hm hw (lv_sub hl [0, 1, 2, 3] rfl)
theorem mw_numberToken_162 (fu : Nat) {res : Int32 × PF × PG} (C : mMC p R s m args c A v RX12 cX12_numberToken 8 2 40) (hret : ∀ (H1 : Heap) (locs1 : List Loc) (ls1 : Array Slot) (pc : Nat), mMW s A v a res.2.1 res.2.2 H1 locs1 → narrow .int (.int res.1) = .int res.1 → decode cX12_numberToken pc = .ok (.ireturn, 1) → W p l e R s m args below meth c H1 locs1 0 0 Q (F0 m pc ls1 [.int res.1])) (x1 : Int32) (x3 : Int32) (x5 : Int64) (F : PF) (G : PG) (hm : mb_numberToken_162 fu x1 x3 x5 F G = some res) {H : Heap} {locs : List Loc} (hw : mMW s A v a F G H locs) {ls : Array Slot} (hl : lv_has ls 8 [(0, .ref (a 212)), (1, .int x1), (3, .int x3), (5, .long x5)]) : W p l e R s m args below meth c H locs 0 0 Q (F0 m 162 ls []) := by
  have hx := C.1
  have hb := C.2.1
  unfold mb_numberToken_162 at hm
  refine lv_aload_n hx hb dX12_numberToken_162 rfl (lv_at hl 0 rfl) ?_
  refine lv_iload_n hx hb dX12_numberToken_163 rfl (lv_at hl 2 rfl) ?_
  obtain ⟨⟨r1, F1, G1⟩, hc, hm⟩ := bind_elim hm
  refine mcallI (n := 1) (As := [.int x3]) (rest := []) C hw (mk_at l v a _ fu x3 F G r1 F1 G1 hc) (mrecv_X12 C hw) mm_38 mm_39 mm_40 mm_27 mm_41 (by decide +kernel) rfl (by omega) (by omega) hl.1 rfl (Nat.le_of_ble_eq_true rfl) dX12_numberToken_164 (fun H locs hw => ?_)
  exact mw_numberToken_167 fu C hret x1 x3 x5 r1 F1 G1 hm hw (lv_sub hl [0, 1, 2, 3] rfl)
theorem mw_numberToken_153 (fu : Nat) {res : Int32 × PF × PG} (C : mMC p R s m args c A v RX12 cX12_numberToken 8 2 40) (hret : ∀ (H1 : Heap) (locs1 : List Loc) (ls1 : Array Slot) (pc : Nat), mMW s A v a res.2.1 res.2.2 H1 locs1 → narrow .int (.int res.1) = .int res.1 → decode cX12_numberToken pc = .ok (.ireturn, 1) → W p l e R s m args below meth c H1 locs1 0 0 Q (F0 m pc ls1 [.int res.1])) (x1 : Int32) (x3 : Int32) (x5 : Int64) (F : PF) (G : PG) (hm : mb_numberToken_153 fu x1 x3 x5 F G = some res) {H : Heap} {locs : List Loc} (hw : mMW s A v a F G H locs) {ls : Array Slot} (hl : lv_has ls 8 [(0, .ref (a 212)), (1, .int x1), (3, .int x3), (5, .long x5)]) : W p l e R s m args below meth c H locs 0 0 Q (F0 m 153 ls []) := by
  have hx := C.1
  have hb := C.2.1
  unfold mb_numberToken_153 at hm
  refine lv_lload hx hb dX12_numberToken_153 (lv_at hl 3 rfl) ?_
  refine lv_ldc2 (v := 4294967295) hx hb C.2.2.2.1 (C.2.2.2.2.1 _ mm_129) dX12_numberToken_155 ?_
  refine W.lcmp hx hb dX12_numberToken_158 ?_
  refine lv_if_gt (tgt := 173) hx hb dX12_numberToken_159 (by decide) (fun c_1 => ?_) (fun c_1 => ?_)
  · have hm := (if_pos c_1).symm.trans hm
    exact mw_numberToken_173 fu C hret F G hm hw (lv_sub hl [] rfl)
  · have hm := (if_neg c_1).symm.trans hm
    exact mw_numberToken_162 fu C hret x1 x3 x5 F G hm hw (lv_sub hl [0, 1, 2, 3] rfl)
theorem mw_numberToken_150 (fu : Nat) {res : Int32 × PF × PG} (C : mMC p R s m args c A v RX12 cX12_numberToken 8 2 40) (hret : ∀ (H1 : Heap) (locs1 : List Loc) (ls1 : Array Slot) (pc : Nat), mMW s A v a res.2.1 res.2.2 H1 locs1 → narrow .int (.int res.1) = .int res.1 → decode cX12_numberToken pc = .ok (.ireturn, 1) → W p l e R s m args below meth c H1 locs1 0 0 Q (F0 m pc ls1 [.int res.1])) (x1 : Int32) (x3 : Int32) (x5 : Int64) (z0 : Int32) (z1 : Int32) (F : PF) (G : PG) (hm : mb_numberToken_150 fu x1 x3 x5 z0 z1 F G = some res) {H : Heap} {locs : List Loc} (hw : mMW s A v a F G H locs) {ls : Array Slot} (hl : lv_has ls 8 [(0, .ref (a 212)), (1, .int x1), (3, .int x3), (5, .long x5)]) : W p l e R s m args below meth c H locs 0 0 Q (F0 m 150 ls [.int z0, .int z1]) := by
  have hx := C.1
  have hb := C.2.1
  unfold mb_numberToken_150 at hm
  refine lv_icmp_gt (tgt := 173) hx hb dX12_numberToken_150 (by decide) (fun c_1 => ?_) (fun c_1 => ?_)
  · have hm := (if_pos c_1).symm.trans hm
    exact mw_numberToken_173 fu C hret F G hm hw (lv_sub hl [] rfl)
  · have hm := (if_neg c_1).symm.trans hm
    exact mw_numberToken_153 fu C hret x1 x3 x5 F G hm hw (lv_sub hl [0, 1, 2, 3] rfl)
theorem mw_numberToken_148 (fu : Nat) {res : Int32 × PF × PG} (C : mMC p R s m args c A v RX12 cX12_numberToken 8 2 40) (hret : ∀ (H1 : Heap) (locs1 : List Loc) (ls1 : Array Slot) (pc : Nat), mMW s A v a res.2.1 res.2.2 H1 locs1 → narrow .int (.int res.1) = .int res.1 → decode cX12_numberToken pc = .ok (.ireturn, 1) → W p l e R s m args below meth c H1 locs1 0 0 Q (F0 m pc ls1 [.int res.1])) (x1 : Int32) (x3 : Int32) (x5 : Int64) (z0 : Int32) (F : PF) (G : PG) (hm : mb_numberToken_148 fu x1 x3 x5 z0 F G = some res) {H : Heap} {locs : List Loc} (hw : mMW s A v a F G H locs) {ls : Array Slot} (hl : lv_has ls 8 [(0, .ref (a 212)), (1, .int x1), (3, .int x3), (5, .long x5)]) : W p l e R s m args below meth c H locs 0 0 Q (F0 m 148 ls [.int z0]) := by
  have hx := C.1
  have hb := C.2.1
  unfold mb_numberToken_148 at hm
  refine lv_bipush (v := 10) hx hb dX12_numberToken_148 (by decide) ?_
  exact mw_numberToken_150 fu C hret x1 x3 x5 10 z0 F G hm hw (lv_sub hl [0, 1, 2, 3] rfl)
theorem mw_numberToken_143 (fu : Nat) {res : Int32 × PF × PG} (C : mMC p R s m args c A v RX12 cX12_numberToken 8 2 40) (hret : ∀ (H1 : Heap) (locs1 : List Loc) (ls1 : Array Slot) (pc : Nat), mMW s A v a res.2.1 res.2.2 H1 locs1 → narrow .int (.int res.1) = .int res.1 → decode cX12_numberToken pc = .ok (.ireturn, 1) → W p l e R s m args below meth c H1 locs1 0 0 Q (F0 m pc ls1 [.int res.1])) (x1 : Int32) (x3 : Int32) (x5 : Int64) (z0 : Int32) (F : PF) (G : PG) (hm : mb_numberToken_143 fu x1 x3 x5 z0 F G = some res) {H : Heap} {locs : List Loc} (hw : mMW s A v a F G H locs) {ls : Array Slot} (hl : lv_has ls 8 [(0, .ref (a 212)), (1, .int x1), (3, .int x3), (5, .long x5)]) : W p l e R s m args below meth c H locs 0 0 Q (F0 m 143 ls [.int z0]) := by
  have hx := C.1
  have hb := C.2.1
  unfold mb_numberToken_143 at hm
  refine lv_bipush (v := 8) hx hb dX12_numberToken_143 (by decide) ?_
  refine lv_goto (tgt := 150) hx hb dX12_numberToken_145 (by decide) ?_
  exact mw_numberToken_150 fu C hret x1 x3 x5 8 z0 F G hm hw (lv_sub hl [0, 1, 2, 3] rfl)
theorem mw_numberToken_137 (fu : Nat) {res : Int32 × PF × PG} (C : mMC p R s m args c A v RX12 cX12_numberToken 8 2 40) (hret : ∀ (H1 : Heap) (locs1 : List Loc) (ls1 : Array Slot) (pc : Nat), mMW s A v a res.2.1 res.2.2 H1 locs1 → narrow .int (.int res.1) = .int res.1 → decode cX12_numberToken pc = .ok (.ireturn, 1) → W p l e R s m args below meth c H1 locs1 0 0 Q (F0 m pc ls1 [.int res.1])) (x1 : Int32) (x2 : Int32) (x3 : Int32) (x5 : Int64) (x7 : Int32) (F : PF) (G : PG) (hm : mb_numberToken_137 fu x1 x2 x3 x5 x7 F G = some res) {H : Heap} {locs : List Loc} (hw : mMW s A v a F G H locs) {ls : Array Slot} (hl : lv_has ls 8 [(0, .ref (a 212)), (1, .int x1), (2, .int x2), (3, .int x3), (5, .long x5), (7, .int x7)]) : W p l e R s m args below meth c H locs 0 0 Q (F0 m 137 ls []) := by
  have hx := C.1
  have hb := C.2.1
  unfold mb_numberToken_137 at hm
  refine lv_iload hx hb dX12_numberToken_137 (lv_at hl 5 rfl) ?_
  refine lv_iload_n hx hb dX12_numberToken_139 rfl (lv_at hl 2 rfl) ?_
  refine lv_if_eq (tgt := 148) hx hb dX12_numberToken_140 (by decide) (fun c_1 => ?_) (fun c_1 => ?_)
  · have hm := (if_pos c_1).symm.trans hm
    exact mw_numberToken_148 fu C hret x1 x3 x5 x7 F G hm hw (lv_sub hl [0, 1, 3, 4] rfl)
  · have hm := (if_neg c_1).symm.trans hm
    exact mw_numberToken_143 fu C hret x1 x3 x5 x7 F G hm hw (lv_sub hl [0, 1, 3, 4] rfl)
theorem mw_numberToken_125 (fu : Nat) {res : Int32 × PF × PG} (C : mMC p R s m args c A v RX12 cX12_numberToken 8 2 40) (hret : ∀ (H1 : Heap) (locs1 : List Loc) (ls1 : Array Slot) (pc : Nat), mMW s A v a res.2.1 res.2.2 H1 locs1 → narrow .int (.int res.1) = .int res.1 → decode cX12_numberToken pc = .ok (.ireturn, 1) → W p l e R s m args below meth c H1 locs1 0 0 Q (F0 m pc ls1 [.int res.1])) (x1 : Int32) (x2 : Int32) (x3 : Int32) (x4 : Int32) (x5 : Int64) (F : PF) (G : PG) (hm : mb_numberToken_125 fu x1 x2 x3 x4 x5 F G = some res) {H : Heap} {locs : List Loc} (hw : mMW s A v a F G H locs) {ls : Array Slot} (hl : lv_has ls 8 [(0, .ref (a 212)), (1, .int x1), (2, .int x2), (3, .int x3), (4, .int x4), (5, .long x5)]) : W p l e R s m args below meth c H locs 0 0 Q (F0 m 125 ls []) := by
  have hx := C.1
  have hb := C.2.1
  unfold mb_numberToken_125 at hm
  refine lv_iload_n hx hb dX12_numberToken_125 rfl (lv_at hl 3 rfl) ?_
  refine lv_iload hx hb dX12_numberToken_126 (lv_at hl 4 rfl) ?_
  refine lv_isub hx hb dX12_numberToken_128 ?_
  refine lv_istore (lv' := [(7, .int (x3 - x4)), (0, .ref (a 212)), (1, .int x1), (2, .int x2), (3, .int x3), (4, .int x4), (5, .long x5)]) hx hb dX12_numberToken_129 hl (by decide) rfl (fun ls hl => ?_)
  refine lv_iload hx hb dX12_numberToken_131 (lv_at hl 0 rfl) ?_
  refine lv_iconst (v := 1) hx hb dX12_numberToken_133 (by decide) ?_
  refine lv_icmp_lt (tgt := 173) hx hb dX12_numberToken_134 (by decide) (fun c_1 => ?_) (fun c_1 => ?_)
  · have hm := (if_pos c_1).symm.trans hm
    exact mw_numberToken_173 fu C hret F G hm hw (lv_sub hl [] rfl)
  · have hm := (if_neg c_1).symm.trans hm
    exact mw_numberToken_137 fu C hret x1 x2 x3 x5 (x3 - x4) F G hm hw (lv_sub hl [1, 2, 3, 4, 6, 0] rfl)
theorem mw_numberToken_117 (fu : Nat) {res : Int32 × PF × PG} (C : mMC p R s m args c A v RX12 cX12_numberToken 8 2 40) (hret : ∀ (H1 : Heap) (locs1 : List Loc) (ls1 : Array Slot) (pc : Nat), mMW s A v a res.2.1 res.2.2 H1 locs1 → narrow .int (.int res.1) = .int res.1 → decode cX12_numberToken pc = .ok (.ireturn, 1) → W p l e R s m args below meth c H1 locs1 0 0 Q (F0 m pc ls1 [.int res.1])) (ag_46 : Int32 → Int32 → Int32 → Int32 → Int64 → PF → PG → PR) (hag_46 : ∀ (x1 : Int32) (x2 : Int32) (x3 : Int32) (x4 : Int32) (x5 : Int64) (F : PF) (G : PG), ag_46 x1 x2 x3 x4 x5 F G = some res → ∀ (H : Heap) (locs : List Loc) (ls : Array Slot), mMW s A v a F G H locs → lv_has ls 8 [(0, .ref (a 212)), (1, .int x1), (2, .int x2), (3, .int x3), (4, .int x4), (5, .long x5)] → W p l e R s m args below meth c H locs 0 0 Q (F0 m 46 ls [])) (x1 : Int32) (x2 : Int32) (x3 : Int32) (x4 : Int32) (z0 : Int64) (F : PF) (G : PG) (hm : mb_numberToken_117 fu ag_46 x1 x2 x3 x4 z0 F G = some res) {H : Heap} {locs : List Loc} (hw : mMW s A v a F G H locs) {ls : Array Slot} (hl : lv_has ls 8 [(0, .ref (a 212)), (1, .int x1), (2, .int x2), (3, .int x3), (4, .int x4)]) : W p l e R s m args below meth c H locs 0 0 Q (F0 m 117 ls [.long z0]) := by
  have hx := C.1
  have hb := C.2.1
  unfold mb_numberToken_117 at hm
  refine lv_lstore (lv' := [(5, .long z0), (0, .ref (a 212)), (1, .int x1), (2, .int x2), (3, .int x3), (4, .int x4)]) hx hb dX12_numberToken_117 hl (by decide) rfl (fun ls hl => ?_)
  refine lv_iinc (v := (x3 + 1)) (lv' := [(3, .int (x3 + 1)), (5, .long z0), (0, .ref (a 212)), (1, .int x1), (2, .int x2), (4, .int x4)]) hx hb dX12_numberToken_119 hl (k := 4) rfl (by rfl) (by decide) rfl (fun ls hl => ?_)
  refine lv_goto (tgt := 46) hx hb dX12_numberToken_122 (by decide) ?_
  exact hag_46 x1 x2 (x3 + 1) x4 z0 F G hm _ _ _ hw (lv_sub hl [2, 3, 4, 0, 5, 1] rfl)
theorem mw_numberToken_115 (fu : Nat) {res : Int32 × PF × PG} (C : mMC p R s m args c A v RX12 cX12_numberToken 8 2 40) (hret : ∀ (H1 : Heap) (locs1 : List Loc) (ls1 : Array Slot) (pc : Nat), mMW s A v a res.2.1 res.2.2 H1 locs1 → narrow .int (.int res.1) = .int res.1 → decode cX12_numberToken pc = .ok (.ireturn, 1) → W p l e R s m args below meth c H1 locs1 0 0 Q (F0 m pc ls1 [.int res.1])) (ag_46 : Int32 → Int32 → Int32 → Int32 → Int64 → PF → PG → PR) (hag_46 : ∀ (x1 : Int32) (x2 : Int32) (x3 : Int32) (x4 : Int32) (x5 : Int64) (F : PF) (G : PG), ag_46 x1 x2 x3 x4 x5 F G = some res → ∀ (H : Heap) (locs : List Loc) (ls : Array Slot), mMW s A v a F G H locs → lv_has ls 8 [(0, .ref (a 212)), (1, .int x1), (2, .int x2), (3, .int x3), (4, .int x4), (5, .long x5)] → W p l e R s m args below meth c H locs 0 0 Q (F0 m 46 ls [])) (x1 : Int32) (x2 : Int32) (x3 : Int32) (x4 : Int32) (x5 : Int64) (F : PF) (G : PG) (hm : mb_numberToken_115 fu ag_46 x1 x2 x3 x4 x5 F G = some res) {H : Heap} {locs : List Loc} (hw : mMW s A v a F G H locs) {ls : Array Slot} (hl : lv_has ls 8 [(0, .ref (a 212)), (1, .int x1), (2, .int x2), (3, .int x3), (4, .int x4), (5, .long x5)]) : W p l e R s m args below meth c H locs 0 0 Q (F0 m 115 ls []) := by
  have hx := C.1
  have hb := C.2.1
  unfold mb_numberToken_115 at hm
  refine lv_lload hx hb dX12_numberToken_115 (lv_at hl 5 rfl) ?_
  exact mw_numberToken_117 fu C hret ag_46 hag_46 x1 x2 x3 x4 x5 F G hm hw (lv_sub hl [0, 1, 2, 3, 4] rfl)
theorem mw_numberToken_110 (fu : Nat) {res : Int32 × PF × PG} (C : mMC p R s m args c A v RX12 cX12_numberToken 8 2 40) (hret : ∀ (H1 : Heap) (locs1 : List Loc) (ls1 : Array Slot) (pc : Nat), mMW s A v a res.2.1 res.2.2 H1 locs1 → narrow .int (.int res.1) = .int res.1 → decode cX12_numberToken pc = .ok (.ireturn, 1) → W p l e R s m args below meth c H1 locs1 0 0 Q (F0 m pc ls1 [.int res.1])) (ag_46 : Int32 → Int32 → Int32 → Int32 → Int64 → PF → PG → PR) (hag_46 : ∀ (x1 : Int32) (x2 : Int32) (x3 : Int32) (x4 : Int32) (x5 : Int64) (F : PF) (G : PG), ag_46 x1 x2 x3 x4 x5 F G = some res → ∀ (H : Heap) (locs : List Loc) (ls : Array Slot), mMW s A v a F G H locs → lv_has ls 8 [(0, .ref (a 212)), (1, .int x1), (2, .int x2), (3, .int x3), (4, .int x4), (5, .long x5)] → W p l e R s m args below meth c H locs 0 0 Q (F0 m 46 ls [])) (x1 : Int32) (x2 : Int32) (x3 : Int32) (x4 : Int32) (z0 : Int32) (z1 : Int64) (F : PF) (G : PG) (hm : mb_numberToken_110 fu ag_46 x1 x2 x3 x4 z0 z1 F G = some res) {H : Heap} {locs : List Loc} (hw : mMW s A v a F G H locs) {ls : Array Slot} (hl : lv_has ls 8 [(0, .ref (a 212)), (1, .int x1), (2, .int x2), (3, .int x3), (4, .int x4)]) : W p l e R s m args below meth c H locs 0 0 Q (F0 m 110 ls [.int z0, .long z1]) := by
  have hx := C.1
  have hb := C.2.1
  unfold mb_numberToken_110 at hm
  refine lv_i2l hx hb dX12_numberToken_110 rfl ?_
  refine lv_ladd hx hb dX12_numberToken_111 ?_
  refine lv_goto (tgt := 117) hx hb dX12_numberToken_112 (by decide) ?_
  exact mw_numberToken_117 fu C hret ag_46 hag_46 x1 x2 x3 x4 (z1 + (z0.toInt64)) F G hm hw (lv_sub hl [0, 1, 2, 3, 4] rfl)
theorem mw_numberToken_107 (fu : Nat) {res : Int32 × PF × PG} (C : mMC p R s m args c A v RX12 cX12_numberToken 8 2 40) (hret : ∀ (H1 : Heap) (locs1 : List Loc) (ls1 : Array Slot) (pc : Nat), mMW s A v a res.2.1 res.2.2 H1 locs1 → narrow .int (.int res.1) = .int res.1 → decode cX12_numberToken pc = .ok (.ireturn, 1) → W p l e R s m args below meth c H1 locs1 0 0 Q (F0 m pc ls1 [.int res.1])) (ag_46 : Int32 → Int32 → Int32 → Int32 → Int64 → PF → PG → PR) (hag_46 : ∀ (x1 : Int32) (x2 : Int32) (x3 : Int32) (x4 : Int32) (x5 : Int64) (F : PF) (G : PG), ag_46 x1 x2 x3 x4 x5 F G = some res → ∀ (H : Heap) (locs : List Loc) (ls : Array Slot), mMW s A v a F G H locs → lv_has ls 8 [(0, .ref (a 212)), (1, .int x1), (2, .int x2), (3, .int x3), (4, .int x4), (5, .long x5)] → W p l e R s m args below meth c H locs 0 0 Q (F0 m 46 ls [])) (x1 : Int32) (x2 : Int32) (x3 : Int32) (x4 : Int32) (z0 : Int32) (z1 : Int64) (F : PF) (G : PG) (hm : mb_numberToken_107 fu ag_46 x1 x2 x3 x4 z0 z1 F G = some res) {H : Heap} {locs : List Loc} (hw : mMW s A v a F G H locs) {ls : Array Slot} (hl : lv_has ls 8 [(0, .ref (a 212)), (1, .int x1), (2, .int x2), (3, .int x3), (4, .int x4)]) : W p l e R s m args below meth c H locs 0 0 Q (F0 m 107 ls [.int z0, .long z1]) := by
  have hx := C.1
  have hb := C.2.1
  unfold mb_numberToken_107 at hm
  obtain ⟨⟨r1, F1, G1⟩, hc, hm⟩ := bind_elim hm
  refine mcallIS (n := 1) (As := [.int z0]) (rest := [.long z1]) C hw (mk_hex l v a _ fu z0 F G r1 F1 G1 hc) mm_130 mm_131 mm_27 mm_132 (by decide +kernel) rfl (by omega) (by omega) hl.1 rfl (Nat.le_of_ble_eq_true rfl) dX12_numberToken_107 (fun H locs hw => ?_)
  exact mw_numberToken_110 fu C hret ag_46 hag_46 x1 x2 x3 x4 r1 z1 F1 G1 hm hw (lv_sub hl [0, 1, 2, 3, 4] rfl)
theorem mw_numberToken_101 (fu : Nat) {res : Int32 × PF × PG} (C : mMC p R s m args c A v RX12 cX12_numberToken 8 2 40) (hret : ∀ (H1 : Heap) (locs1 : List Loc) (ls1 : Array Slot) (pc : Nat), mMW s A v a res.2.1 res.2.2 H1 locs1 → narrow .int (.int res.1) = .int res.1 → decode cX12_numberToken pc = .ok (.ireturn, 1) → W p l e R s m args below meth c H1 locs1 0 0 Q (F0 m pc ls1 [.int res.1])) (ag_46 : Int32 → Int32 → Int32 → Int32 → Int64 → PF → PG → PR) (hag_46 : ∀ (x1 : Int32) (x2 : Int32) (x3 : Int32) (x4 : Int32) (x5 : Int64) (F : PF) (G : PG), ag_46 x1 x2 x3 x4 x5 F G = some res → ∀ (H : Heap) (locs : List Loc) (ls : Array Slot), mMW s A v a F G H locs → lv_has ls 8 [(0, .ref (a 212)), (1, .int x1), (2, .int x2), (3, .int x3), (4, .int x4), (5, .long x5)] → W p l e R s m args below meth c H locs 0 0 Q (F0 m 46 ls [])) (x1 : Int32) (x2 : Int32) (x3 : Int32) (x4 : Int32) (z0 : Int64) (z1 : Int64) (F : PF) (G : PG) (hm : mb_numberToken_101 fu ag_46 x1 x2 x3 x4 z0 z1 F G = some res) {H : Heap} {locs : List Loc} (hw : mMW s A v a F G H locs) {ls : Array Slot} (hl : lv_has ls 8 [(0, .ref (a 212)), (1, .int x1), (2, .int x2), (3, .int x3), (4, .int x4)]) : W p l e R s m args below meth c H locs 0 0 Q (F0 m 101 ls [.long z0, .long z1]) := by
  have hx := C.1
  have hb := C.2.1
  unfold mb_numberToken_101 at hm
  refine lv_lmul hx hb dX12_numberToken_101 ?_
  refine lv_aload_n hx hb dX12_numberToken_102 rfl (lv_at hl 0 rfl) ?_
  refine lv_iload_n hx hb dX12_numberToken_103 rfl (lv_at hl 3 rfl) ?_
  obtain ⟨⟨r1, F1, G1⟩, hc, hm⟩ := bind_elim hm
  refine mcallI (n := 1) (As := [.int x3]) (rest := [.long (z1 * z0)]) C hw (mk_at l v a _ fu x3 F G r1 F1 G1 hc) (mrecv_X12 C hw) mm_38 mm_39 mm_40 mm_27 mm_41 (by decide +kernel) rfl (by omega) (by omega) hl.1 rfl (Nat.le_of_ble_eq_true rfl) dX12_numberToken_104 (fun H locs hw => ?_)
  exact mw_numberToken_107 fu C hret ag_46 hag_46 x1 x2 x3 x4 r1 (z1 * z0) F1 G1 hm hw (lv_sub hl [0, 1, 2, 3, 4] rfl)
theorem mw_numberToken_98 (fu : Nat) {res : Int32 × PF × PG} (C : mMC p R s m args c A v RX12 cX12_numberToken 8 2 40) (hret : ∀ (H1 : Heap) (locs1 : List Loc) (ls1 : Array Slot) (pc : Nat), mMW s A v a res.2.1 res.2.2 H1 locs1 → narrow .int (.int res.1) = .int res.1 → decode cX12_numberToken pc = .ok (.ireturn, 1) → W p l e R s m args below meth c H1 locs1 0 0 Q (F0 m pc ls1 [.int res.1])) (ag_46 : Int32 → Int32 → Int32 → Int32 → Int64 → PF → PG → PR) (hag_46 : ∀ (x1 : Int32) (x2 : Int32) (x3 : Int32) (x4 : Int32) (x5 : Int64) (F : PF) (G : PG), ag_46 x1 x2 x3 x4 x5 F G = some res → ∀ (H : Heap) (locs : List Loc) (ls : Array Slot), mMW s A v a F G H locs → lv_has ls 8 [(0, .ref (a 212)), (1, .int x1), (2, .int x2), (3, .int x3), (4, .int x4), (5, .long x5)] → W p l e R s m args below meth c H locs 0 0 Q (F0 m 46 ls [])) (x1 : Int32) (x2 : Int32) (x3 : Int32) (x4 : Int32) (z0 : Int64) (F : PF) (G : PG) (hm : mb_numberToken_98 fu ag_46 x1 x2 x3 x4 z0 F G = some res) {H : Heap} {locs : List Loc} (hw : mMW s A v a F G H locs) {ls : Array Slot} (hl : lv_has ls 8 [(0, .ref (a 212)), (1, .int x1), (2, .int x2), (3, .int x3), (4, .int x4)]) : W p l e R s m args below meth c H locs 0 0 Q (F0 m 98 ls [.long z0]) := by
  have hx := C.1
  have hb := C.2.1
  unfold mb_numberToken_98 at hm
  refine lv_ldc2 (v := 10) hx hb C.2.2.2.1 (C.2.2.2.2.1 _ mm_128) dX12_numberToken_98 ?_
  exact mw_numberToken_101 fu C hret ag_46 hag_46 x1 x2 x3 x4 (10 : Int64) z0 F G hm hw (lv_sub hl [0, 1, 2, 3, 4] rfl)
theorem mw_numberToken_92 (fu : Nat) {res : Int32 × PF × PG} (C : mMC p R s m args c A v RX12 cX12_numberToken 8 2 40) (hret : ∀ (H1 : Heap) (locs1 : List Loc) (ls1 : Array Slot) (pc : Nat), mMW s A v a res.2.1 res.2.2 H1 locs1 → narrow .int (.int res.1) = .int res.1 → decode cX12_numberToken pc = .ok (.ireturn, 1) → W p l e R s m args below meth c H1 locs1 0 0 Q (F0 m pc ls1 [.int res.1])) (ag_46 : Int32 → Int32 → Int32 → Int32 → Int64 → PF → PG → PR) (hag_46 : ∀ (x1 : Int32) (x2 : Int32) (x3 : Int32) (x4 : Int32) (x5 : Int64) (F : PF) (G : PG), ag_46 x1 x2 x3 x4 x5 F G = some res → ∀ (H : Heap) (locs : List Loc) (ls : Array Slot), mMW s A v a F G H locs → lv_has ls 8 [(0, .ref (a 212)), (1, .int x1), (2, .int x2), (3, .int x3), (4, .int x4), (5, .long x5)] → W p l e R s m args below meth c H locs 0 0 Q (F0 m 46 ls [])) (x1 : Int32) (x2 : Int32) (x3 : Int32) (x4 : Int32) (z0 : Int64) (F : PF) (G : PG) (hm : mb_numberToken_92 fu ag_46 x1 x2 x3 x4 z0 F G = some res) {H : Heap} {locs : List Loc} (hw : mMW s A v a F G H locs) {ls : Array Slot} (hl : lv_has ls 8 [(0, .ref (a 212)), (1, .int x1), (2, .int x2), (3, .int x3), (4, .int x4)]) : W p l e R s m args below meth c H locs 0 0 Q (F0 m 92 ls [.long z0]) := by
  have hx := C.1
  have hb := C.2.1
  unfold mb_numberToken_92 at hm
  refine lv_ldc2 (v := 16) hx hb C.2.2.2.1 (C.2.2.2.2.1 _ mm_127) dX12_numberToken_92 ?_
  refine lv_goto (tgt := 101) hx hb dX12_numberToken_95 (by decide) ?_
  exact mw_numberToken_101 fu C hret ag_46 hag_46 x1 x2 x3 x4 (16 : Int64) z0 F G hm hw (lv_sub hl [0, 1, 2, 3, 4] rfl)
theorem mw_numberToken_86 (fu : Nat) {res : Int32 × PF × PG} (C : mMC p R s m args c A v RX12 cX12_numberToken 8 2 40) (hret : ∀ (H1 : Heap) (locs1 : List Loc) (ls1 : Array Slot) (pc : Nat), mMW s A v a res.2.1 res.2.2 H1 locs1 → narrow .int (.int res.1) = .int res.1 → decode cX12_numberToken pc = .ok (.ireturn, 1) → W p l e R s m args below meth c H1 locs1 0 0 Q (F0 m pc ls1 [.int res.1])) (ag_46 : Int32 → Int32 → Int32 → Int32 → Int64 → PF → PG → PR) (hag_46 : ∀ (x1 : Int32) (x2 : Int32) (x3 : Int32) (x4 : Int32) (x5 : Int64) (F : PF) (G : PG), ag_46 x1 x2 x3 x4 x5 F G = some res → ∀ (H : Heap) (locs : List Loc) (ls : Array Slot), mMW s A v a F G H locs → lv_has ls 8 [(0, .ref (a 212)), (1, .int x1), (2, .int x2), (3, .int x3), (4, .int x4), (5, .long x5)] → W p l e R s m args below meth c H locs 0 0 Q (F0 m 46 ls [])) (x1 : Int32) (x2 : Int32) (x3 : Int32) (x4 : Int32) (x5 : Int64) (F : PF) (G : PG) (hm : mb_numberToken_86 fu ag_46 x1 x2 x3 x4 x5 F G = some res) {H : Heap} {locs : List Loc} (hw : mMW s A v a F G H locs) {ls : Array Slot} (hl : lv_has ls 8 [(0, .ref (a 212)), (1, .int x1), (2, .int x2), (3, .int x3), (4, .int x4), (5, .long x5)]) : W p l e R s m args below meth c H locs 0 0 Q (F0 m 86 ls []) := by
  have hx := C.1
  have hb := C.2.1
  unfold mb_numberToken_86 at hm
  refine lv_lload hx hb dX12_numberToken_86 (lv_at hl 5 rfl) ?_
  refine lv_iload_n hx hb dX12_numberToken_88 rfl (lv_at hl 2 rfl) ?_
  refine lv_if_eq (tgt := 98) hx hb dX12_numberToken_89 (by decide) (fun c_1 => ?_) (fun c_1 => ?_)
  · have hm := (if_pos c_1).symm.trans hm
    exact mw_numberToken_98 fu C hret ag_46 hag_46 x1 x2 x3 x4 x5 F G hm hw (lv_sub hl [0, 1, 2, 3, 4] rfl)
  · have hm := (if_neg c_1).symm.trans hm
    exact mw_numberToken_92 fu C hret ag_46 hag_46 x1 x2 x3 x4 x5 F G hm hw (lv_sub hl [0, 1, 2, 3, 4] rfl)
theorem mw_numberToken_77 (fu : Nat) {res : Int32 × PF × PG} (C : mMC p R s m args c A v RX12 cX12_numberToken 8 2 40) (hret : ∀ (H1 : Heap) (locs1 : List Loc) (ls1 : Array Slot) (pc : Nat), mMW s A v a res.2.1 res.2.2 H1 locs1 → narrow .int (.int res.1) = .int res.1 → decode cX12_numberToken pc = .ok (.ireturn, 1) → W p l e R s m args below meth c H1 locs1 0 0 Q (F0 m pc ls1 [.int res.1])) (ag_46 : Int32 → Int32 → Int32 → Int32 → Int64 → PF → PG → PR) (hag_46 : ∀ (x1 : Int32) (x2 : Int32) (x3 : Int32) (x4 : Int32) (x5 : Int64) (F : PF) (G : PG), ag_46 x1 x2 x3 x4 x5 F G = some res → ∀ (H : Heap) (locs : List Loc) (ls : Array Slot), mMW s A v a F G H locs → lv_has ls 8 [(0, .ref (a 212)), (1, .int x1), (2, .int x2), (3, .int x3), (4, .int x4), (5, .long x5)] → W p l e R s m args below meth c H locs 0 0 Q (F0 m 46 ls [])) (x1 : Int32) (x2 : Int32) (x3 : Int32) (x4 : Int32) (x5 : Int64) (F : PF) (G : PG) (hm : mb_numberToken_77 fu ag_46 x1 x2 x3 x4 x5 F G = some res) {H : Heap} {locs : List Loc} (hw : mMW s A v a F G H locs) {ls : Array Slot} (hl : lv_has ls 8 [(0, .ref (a 212)), (1, .int x1), (2, .int x2), (3, .int x3), (4, .int x4), (5, .long x5)]) : W p l e R s m args below meth c H locs 0 0 Q (F0 m 77 ls []) := by
  have hx := C.1
  have hb := C.2.1
  unfold mb_numberToken_77 at hm
  refine lv_iload_n hx hb dX12_numberToken_77 rfl (lv_at hl 3 rfl) ?_
  refine lv_iload hx hb dX12_numberToken_78 (lv_at hl 4 rfl) ?_
  refine lv_isub hx hb dX12_numberToken_80 ?_
  refine lv_bipush (v := 10) hx hb dX12_numberToken_81 (by decide) ?_
  refine lv_icmp_ge (tgt := 115) hx hb dX12_numberToken_83 (by decide) (fun c_1 => ?_) (fun c_1 => ?_)
  · have hm := (if_pos c_1).symm.trans hm
    exact mw_numberToken_115 fu C hret ag_46 hag_46 x1 x2 x3 x4 x5 F G hm hw (lv_sub hl [0, 1, 2, 3, 4, 5] rfl)
  · have hm := (if_neg c_1).symm.trans hm
    exact mw_numberToken_86 fu C hret ag_46 hag_46 x1 x2 x3 x4 x5 F G hm hw (lv_sub hl [0, 1, 2, 3, 4, 5] rfl)
theorem mw_numberToken_74 (fu : Nat) {res : Int32 × PF × PG} (C : mMC p R s m args c A v RX12 cX12_numberToken 8 2 40) (hret : ∀ (H1 : Heap) (locs1 : List Loc) (ls1 : Array Slot) (pc : Nat), mMW s A v a res.2.1 res.2.2 H1 locs1 → narrow .int (.int res.1) = .int res.1 → decode cX12_numberToken pc = .ok (.ireturn, 1) → W p l e R s m args below meth c H1 locs1 0 0 Q (F0 m pc ls1 [.int res.1])) (ag_46 : Int32 → Int32 → Int32 → Int32 → Int64 → PF → PG → PR) (hag_46 : ∀ (x1 : Int32) (x2 : Int32) (x3 : Int32) (x4 : Int32) (x5 : Int64) (F : PF) (G : PG), ag_46 x1 x2 x3 x4 x5 F G = some res → ∀ (H : Heap) (locs : List Loc) (ls : Array Slot), mMW s A v a F G H locs → lv_has ls 8 [(0, .ref (a 212)), (1, .int x1), (2, .int x2), (3, .int x3), (4, .int x4), (5, .long x5)] → W p l e R s m args below meth c H locs 0 0 Q (F0 m 46 ls [])) (x1 : Int32) (x2 : Int32) (x3 : Int32) (x4 : Int32) (x5 : Int64) (z0 : Int32) (F : PF) (G : PG) (hm : mb_numberToken_74 fu ag_46 x1 x2 x3 x4 x5 z0 F G = some res) {H : Heap} {locs : List Loc} (hw : mMW s A v a F G H locs) {ls : Array Slot} (hl : lv_has ls 8 [(0, .ref (a 212)), (1, .int x1), (2, .int x2), (3, .int x3), (4, .int x4), (5, .long x5)]) : W p l e R s m args below meth c H locs 0 0 Q (F0 m 74 ls [.int z0]) := by
  have hx := C.1
  have hb := C.2.1
  unfold mb_numberToken_74 at hm
  refine lv_if_eq (tgt := 125) hx hb dX12_numberToken_74 (by decide) (fun c_1 => ?_) (fun c_1 => ?_)
  · have hm := (if_pos c_1).symm.trans hm
    exact mw_numberToken_125 fu C hret x1 x2 x3 x4 x5 F G hm hw (lv_sub hl [0, 1, 2, 3, 4, 5] rfl)
  · have hm := (if_neg c_1).symm.trans hm
    exact mw_numberToken_77 fu C hret ag_46 hag_46 x1 x2 x3 x4 x5 F G hm hw (lv_sub hl [0, 1, 2, 3, 4, 5] rfl)
theorem mw_numberToken_71 (fu : Nat) {res : Int32 × PF × PG} (C : mMC p R s m args c A v RX12 cX12_numberToken 8 2 40) (hret : ∀ (H1 : Heap) (locs1 : List Loc) (ls1 : Array Slot) (pc : Nat), mMW s A v a res.2.1 res.2.2 H1 locs1 → narrow .int (.int res.1) = .int res.1 → decode cX12_numberToken pc = .ok (.ireturn, 1) → W p l e R s m args below meth c H1 locs1 0 0 Q (F0 m pc ls1 [.int res.1])) (ag_46 : Int32 → Int32 → Int32 → Int32 → Int64 → PF → PG → PR) (hag_46 : ∀ (x1 : Int32) (x2 : Int32) (x3 : Int32) (x4 : Int32) (x5 : Int64) (F : PF) (G : PG), ag_46 x1 x2 x3 x4 x5 F G = some res → ∀ (H : Heap) (locs : List Loc) (ls : Array Slot), mMW s A v a F G H locs → lv_has ls 8 [(0, .ref (a 212)), (1, .int x1), (2, .int x2), (3, .int x3), (4, .int x4), (5, .long x5)] → W p l e R s m args below meth c H locs 0 0 Q (F0 m 46 ls [])) (x1 : Int32) (x2 : Int32) (x3 : Int32) (x4 : Int32) (x5 : Int64) (z0 : Int32) (F : PF) (G : PG) (hm : mb_numberToken_71 fu ag_46 x1 x2 x3 x4 x5 z0 F G = some res) {H : Heap} {locs : List Loc} (hw : mMW s A v a F G H locs) {ls : Array Slot} (hl : lv_has ls 8 [(0, .ref (a 212)), (1, .int x1), (2, .int x2), (3, .int x3), (4, .int x4), (5, .long x5)]) : W p l e R s m args below meth c H locs 0 0 Q (F0 m 71 ls [.int z0]) := by
  have hx := C.1
  have hb := C.2.1
  unfold mb_numberToken_71 at hm
  obtain ⟨⟨r1, F1, G1⟩, hc, hm⟩ := bind_elim hm
  refine mcallIS (n := 1) (As := [.int z0]) (rest := []) C hw (mk_isDigit l v a _ fu z0 F G r1 F1 G1 hc) mm_56 mm_57 mm_27 mm_58 (by decide +kernel) rfl (by omega) (by omega) hl.1 rfl (Nat.le_of_ble_eq_true rfl) dX12_numberToken_71 (fun H locs hw => ?_)
  exact mw_numberToken_74 fu C hret ag_46 hag_46 x1 x2 x3 x4 x5 r1 F1 G1 hm hw (lv_sub hl [0, 1, 2, 3, 4, 5] rfl)
theorem mw_numberToken_66 (fu : Nat) {res : Int32 × PF × PG} (C : mMC p R s m args c A v RX12 cX12_numberToken 8 2 40) (hret : ∀ (H1 : Heap) (locs1 : List Loc) (ls1 : Array Slot) (pc : Nat), mMW s A v a res.2.1 res.2.2 H1 locs1 → narrow .int (.int res.1) = .int res.1 → decode cX12_numberToken pc = .ok (.ireturn, 1) → W p l e R s m args below meth c H1 locs1 0 0 Q (F0 m pc ls1 [.int res.1])) (ag_46 : Int32 → Int32 → Int32 → Int32 → Int64 → PF → PG → PR) (hag_46 : ∀ (x1 : Int32) (x2 : Int32) (x3 : Int32) (x4 : Int32) (x5 : Int64) (F : PF) (G : PG), ag_46 x1 x2 x3 x4 x5 F G = some res → ∀ (H : Heap) (locs : List Loc) (ls : Array Slot), mMW s A v a F G H locs → lv_has ls 8 [(0, .ref (a 212)), (1, .int x1), (2, .int x2), (3, .int x3), (4, .int x4), (5, .long x5)] → W p l e R s m args below meth c H locs 0 0 Q (F0 m 46 ls [])) (x1 : Int32) (x2 : Int32) (x3 : Int32) (x4 : Int32) (x5 : Int64) (F : PF) (G : PG) (hm : mb_numberToken_66 fu ag_46 x1 x2 x3 x4 x5 F G = some res) {H : Heap} {locs : List Loc} (hw : mMW s A v a F G H locs) {ls : Array Slot} (hl : lv_has ls 8 [(0, .ref (a 212)), (1, .int x1), (2, .int x2), (3, .int x3), (4, .int x4), (5, .long x5)]) : W p l e R s m args below meth c H locs 0 0 Q (F0 m 66 ls []) := by
  have hx := C.1
  have hb := C.2.1
  unfold mb_numberToken_66 at hm
  refine lv_aload_n hx hb dX12_numberToken_66 rfl (lv_at hl 0 rfl) ?_
  refine lv_iload_n hx hb dX12_numberToken_67 rfl (lv_at hl 3 rfl) ?_
  obtain ⟨⟨r1, F1, G1⟩, hc, hm⟩ := bind_elim hm
  refine mcallI (n := 1) (As := [.int x3]) (rest := []) C hw (mk_at l v a _ fu x3 F G r1 F1 G1 hc) (mrecv_X12 C hw) mm_38 mm_39 mm_40 mm_27 mm_41 (by decide +kernel) rfl (by omega) (by omega) hl.1 rfl (Nat.le_of_ble_eq_true rfl) dX12_numberToken_68 (fun H locs hw => ?_)
  exact mw_numberToken_71 fu C hret ag_46 hag_46 x1 x2 x3 x4 x5 r1 F1 G1 hm hw (lv_sub hl [0, 1, 2, 3, 4, 5] rfl)
theorem mw_numberToken_63 (fu : Nat) {res : Int32 × PF × PG} (C : mMC p R s m args c A v RX12 cX12_numberToken 8 2 40) (hret : ∀ (H1 : Heap) (locs1 : List Loc) (ls1 : Array Slot) (pc : Nat), mMW s A v a res.2.1 res.2.2 H1 locs1 → narrow .int (.int res.1) = .int res.1 → decode cX12_numberToken pc = .ok (.ireturn, 1) → W p l e R s m args below meth c H1 locs1 0 0 Q (F0 m pc ls1 [.int res.1])) (ag_46 : Int32 → Int32 → Int32 → Int32 → Int64 → PF → PG → PR) (hag_46 : ∀ (x1 : Int32) (x2 : Int32) (x3 : Int32) (x4 : Int32) (x5 : Int64) (F : PF) (G : PG), ag_46 x1 x2 x3 x4 x5 F G = some res → ∀ (H : Heap) (locs : List Loc) (ls : Array Slot), mMW s A v a F G H locs → lv_has ls 8 [(0, .ref (a 212)), (1, .int x1), (2, .int x2), (3, .int x3), (4, .int x4), (5, .long x5)] → W p l e R s m args below meth c H locs 0 0 Q (F0 m 46 ls [])) (x1 : Int32) (x2 : Int32) (x3 : Int32) (x4 : Int32) (x5 : Int64) (F : PF) (G : PG) (hm : mb_numberToken_63 fu ag_46 x1 x2 x3 x4 x5 F G = some res) {H : Heap} {locs : List Loc} (hw : mMW s A v a F G H locs) {ls : Array Slot} (hl : lv_has ls 8 [(0, .ref (a 212)), (1, .int x1), (2, .int x2), (3, .int x3), (4, .int x4), (5, .long x5)]) : W p l e R s m args below meth c H locs 0 0 Q (F0 m 63 ls []) := by
  have hx := C.1
  have hb := C.2.1
  unfold mb_numberToken_63 at hm
  refine lv_goto (tgt := 77) hx hb dX12_numberToken_63 (by decide) ?_
  exact mw_numberToken_77 fu C hret ag_46 hag_46 x1 x2 x3 x4 x5 F G hm hw (lv_sub hl [0, 1, 2, 3, 4, 5] rfl)
theorem mw_numberToken_58 (fu : Nat) {res : Int32 × PF × PG} (C : mMC p R s m args c A v RX12 cX12_numberToken 8 2 40) (hret : ∀ (H1 : Heap) (locs1 : List Loc) (ls1 : Array Slot) (pc : Nat), mMW s A v a res.2.1 res.2.2 H1 locs1 → narrow .int (.int res.1) = .int res.1 → decode cX12_numberToken pc = .ok (.ireturn, 1) → W p l e R s m args below meth c H1 locs1 0 0 Q (F0 m pc ls1 [.int res.1])) (ag_46 : Int32 → Int32 → Int32 → Int32 → Int64 → PF → PG → PR) (hag_46 : ∀ (x1 : Int32) (x2 : Int32) (x3 : Int32) (x4 : Int32) (x5 : Int64) (F : PF) (G : PG), ag_46 x1 x2 x3 x4 x5 F G = some res → ∀ (H : Heap) (locs : List Loc) (ls : Array Slot), mMW s A v a F G H locs → lv_has ls 8 [(0, .ref (a 212)), (1, .int x1), (2, .int x2), (3, .int x3), (4, .int x4), (5, .long x5)] → W p l e R s m args below meth c H locs 0 0 Q (F0 m 46 ls [])) (x1 : Int32) (x2 : Int32) (x3 : Int32) (x4 : Int32) (x5 : Int64) (z0 : Int32) (F : PF) (G : PG) (hm : mb_numberToken_58 fu ag_46 x1 x2 x3 x4 x5 z0 F G = some res) {H : Heap} {locs : List Loc} (hw : mMW s A v a F G H locs) {ls : Array Slot} (hl : lv_has ls 8 [(0, .ref (a 212)), (1, .int x1), (2, .int x2), (3, .int x3), (4, .int x4), (5, .long x5)]) : W p l e R s m args below meth c H locs 0 0 Q (F0 m 58 ls [.int z0]) := by
  have hx := C.1
  have hb := C.2.1
  unfold mb_numberToken_58 at hm
  refine lv_bipush (v := 16) hx hb dX12_numberToken_58 (by decide) ?_
  refine lv_icmp_ge (tgt := 125) hx hb dX12_numberToken_60 (by decide) (fun c_1 => ?_) (fun c_1 => ?_)
  · have hm := (if_pos c_1).symm.trans hm
    exact mw_numberToken_125 fu C hret x1 x2 x3 x4 x5 F G hm hw (lv_sub hl [0, 1, 2, 3, 4, 5] rfl)
  · have hm := (if_neg c_1).symm.trans hm
    exact mw_numberToken_63 fu C hret ag_46 hag_46 x1 x2 x3 x4 x5 F G hm hw (lv_sub hl [0, 1, 2, 3, 4, 5] rfl)
theorem mw_numberToken_55 (fu : Nat) {res : Int32 × PF × PG} (C : mMC p R s m args c A v RX12 cX12_numberToken 8 2 40) (hret : ∀ (H1 : Heap) (locs1 : List Loc) (ls1 : Array Slot) (pc : Nat), mMW s A v a res.2.1 res.2.2 H1 locs1 → narrow .int (.int res.1) = .int res.1 → decode cX12_numberToken pc = .ok (.ireturn, 1) → W p l e R s m args below meth c H1 locs1 0 0 Q (F0 m pc ls1 [.int res.1])) (ag_46 : Int32 → Int32 → Int32 → Int32 → Int64 → PF → PG → PR) (hag_46 : ∀ (x1 : Int32) (x2 : Int32) (x3 : Int32) (x4 : Int32) (x5 : Int64) (F : PF) (G : PG), ag_46 x1 x2 x3 x4 x5 F G = some res → ∀ (H : Heap) (locs : List Loc) (ls : Array Slot), mMW s A v a F G H locs → lv_has ls 8 [(0, .ref (a 212)), (1, .int x1), (2, .int x2), (3, .int x3), (4, .int x4), (5, .long x5)] → W p l e R s m args below meth c H locs 0 0 Q (F0 m 46 ls [])) (x1 : Int32) (x2 : Int32) (x3 : Int32) (x4 : Int32) (x5 : Int64) (z0 : Int32) (F : PF) (G : PG) (hm : mb_numberToken_55 fu ag_46 x1 x2 x3 x4 x5 z0 F G = some res) {H : Heap} {locs : List Loc} (hw : mMW s A v a F G H locs) {ls : Array Slot} (hl : lv_has ls 8 [(0, .ref (a 212)), (1, .int x1), (2, .int x2), (3, .int x3), (4, .int x4), (5, .long x5)]) : W p l e R s m args below meth c H locs 0 0 Q (F0 m 55 ls [.int z0]) := by
  have hx := C.1
  have hb := C.2.1
  unfold mb_numberToken_55 at hm
  obtain ⟨⟨r1, F1, G1⟩, hc, hm⟩ := bind_elim hm
  refine mcallIS (n := 1) (As := [.int z0]) (rest := []) C hw (mk_hex l v a _ fu z0 F G r1 F1 G1 hc) mm_130 mm_131 mm_27 mm_132 (by decide +kernel) rfl (by omega) (by omega) hl.1 rfl (Nat.le_of_ble_eq_true rfl) dX12_numberToken_55 (fun H locs hw => ?_)
  exact mw_numberToken_58 fu C hret ag_46 hag_46 x1 x2 x3 x4 x5 r1 F1 G1 hm hw (lv_sub hl [0, 1, 2, 3, 4, 5] rfl)
theorem mw_numberToken_50 (fu : Nat) {res : Int32 × PF × PG} (C : mMC p R s m args c A v RX12 cX12_numberToken 8 2 40) (hret : ∀ (H1 : Heap) (locs1 : List Loc) (ls1 : Array Slot) (pc : Nat), mMW s A v a res.2.1 res.2.2 H1 locs1 → narrow .int (.int res.1) = .int res.1 → decode cX12_numberToken pc = .ok (.ireturn, 1) → W p l e R s m args below meth c H1 locs1 0 0 Q (F0 m pc ls1 [.int res.1])) (ag_46 : Int32 → Int32 → Int32 → Int32 → Int64 → PF → PG → PR) (hag_46 : ∀ (x1 : Int32) (x2 : Int32) (x3 : Int32) (x4 : Int32) (x5 : Int64) (F : PF) (G : PG), ag_46 x1 x2 x3 x4 x5 F G = some res → ∀ (H : Heap) (locs : List Loc) (ls : Array Slot), mMW s A v a F G H locs → lv_has ls 8 [(0, .ref (a 212)), (1, .int x1), (2, .int x2), (3, .int x3), (4, .int x4), (5, .long x5)] → W p l e R s m args below meth c H locs 0 0 Q (F0 m 46 ls [])) (x1 : Int32) (x2 : Int32) (x3 : Int32) (x4 : Int32) (x5 : Int64) (F : PF) (G : PG) (hm : mb_numberToken_50 fu ag_46 x1 x2 x3 x4 x5 F G = some res) {H : Heap} {locs : List Loc} (hw : mMW s A v a F G H locs) {ls : Array Slot} (hl : lv_has ls 8 [(0, .ref (a 212)), (1, .int x1), (2, .int x2), (3, .int x3), (4, .int x4), (5, .long x5)]) : W p l e R s m args below meth c H locs 0 0 Q (F0 m 50 ls []) := by
  have hx := C.1
  have hb := C.2.1
  unfold mb_numberToken_50 at hm
  refine lv_aload_n hx hb dX12_numberToken_50 rfl (lv_at hl 0 rfl) ?_
  refine lv_iload_n hx hb dX12_numberToken_51 rfl (lv_at hl 3 rfl) ?_
  obtain ⟨⟨r1, F1, G1⟩, hc, hm⟩ := bind_elim hm
  refine mcallI (n := 1) (As := [.int x3]) (rest := []) C hw (mk_at l v a _ fu x3 F G r1 F1 G1 hc) (mrecv_X12 C hw) mm_38 mm_39 mm_40 mm_27 mm_41 (by decide +kernel) rfl (by omega) (by omega) hl.1 rfl (Nat.le_of_ble_eq_true rfl) dX12_numberToken_52 (fun H locs hw => ?_)
  exact mw_numberToken_55 fu C hret ag_46 hag_46 x1 x2 x3 x4 x5 r1 F1 G1 hm hw (lv_sub hl [0, 1, 2, 3, 4, 5] rfl)
theorem mw_numberToken_46 (fu : Nat) {res : Int32 × PF × PG} (C : mMC p R s m args c A v RX12 cX12_numberToken 8 2 40) (hret : ∀ (H1 : Heap) (locs1 : List Loc) (ls1 : Array Slot) (pc : Nat), mMW s A v a res.2.1 res.2.2 H1 locs1 → narrow .int (.int res.1) = .int res.1 → decode cX12_numberToken pc = .ok (.ireturn, 1) → W p l e R s m args below meth c H1 locs1 0 0 Q (F0 m pc ls1 [.int res.1])) (ag_46 : Int32 → Int32 → Int32 → Int32 → Int64 → PF → PG → PR) (hag_46 : ∀ (x1 : Int32) (x2 : Int32) (x3 : Int32) (x4 : Int32) (x5 : Int64) (F : PF) (G : PG), ag_46 x1 x2 x3 x4 x5 F G = some res → ∀ (H : Heap) (locs : List Loc) (ls : Array Slot), mMW s A v a F G H locs → lv_has ls 8 [(0, .ref (a 212)), (1, .int x1), (2, .int x2), (3, .int x3), (4, .int x4), (5, .long x5)] → W p l e R s m args below meth c H locs 0 0 Q (F0 m 46 ls [])) (x1 : Int32) (x2 : Int32) (x3 : Int32) (x4 : Int32) (x5 : Int64) (F : PF) (G : PG) (hm : mb_numberToken_46 fu ag_46 x1 x2 x3 x4 x5 F G = some res) {H : Heap} {locs : List Loc} (hw : mMW s A v a F G H locs) {ls : Array Slot} (hl : lv_has ls 8 [(0, .ref (a 212)), (1, .int x1), (2, .int x2), (3, .int x3), (4, .int x4), (5, .long x5)]) : W p l e R s m args below meth c H locs 0 0 Q (F0 m 46 ls []) := by
  have hx := C.1
  have hb := C.2.1
  unfold mb_numberToken_46 at hm
  refine lv_iload_n hx hb dX12_numberToken_46 rfl (lv_at hl 2 rfl) ?_
  refine lv_if_eq (tgt := 66) hx hb dX12_numberToken_47 (by decide) (fun c_1 => ?_) (fun c_1 => ?_)
  · have hm := (if_pos c_1).symm.trans hm
    exact mw_numberToken_66 fu C hret ag_46 hag_46 x1 x2 x3 x4 x5 F G hm hw (lv_sub hl [0, 1, 2, 3, 4, 5] rfl)
  · have hm := (if_neg c_1).symm.trans hm
    exact mw_numberToken_50 fu C hret ag_46 hag_46 x1 x2 x3 x4 x5 F G hm hw (lv_sub hl [0, 1, 2, 3, 4, 5] rfl)
theorem mwl_numberToken_46 (fu : Nat) {res : Int32 × PF × PG} (C : mMC p R s m args c A v RX12 cX12_numberToken 8 2 40) (hret : ∀ (H1 : Heap) (locs1 : List Loc) (ls1 : Array Slot) (pc : Nat), mMW s A v a res.2.1 res.2.2 H1 locs1 → narrow .int (.int res.1) = .int res.1 → decode cX12_numberToken pc = .ok (.ireturn, 1) → W p l e R s m args below meth c H1 locs1 0 0 Q (F0 m pc ls1 [.int res.1])) : ∀ (n : Nat) (x1 : Int32) (x2 : Int32) (x3 : Int32) (x4 : Int32) (x5 : Int64) (F : PF) (G : PG) (hm : ml_numberToken_46 fu n x1 x2 x3 x4 x5 F G = some res) {H : Heap} {locs : List Loc} (hw : mMW s A v a F G H locs) {ls : Array Slot} (hl : lv_has ls 8 [(0, .ref (a 212)), (1, .int x1), (2, .int x2), (3, .int x3), (4, .int x4), (5, .long x5)]), W p l e R s m args below meth c H locs 0 0 Q (F0 m 46 ls []) := by
  intro n
  induction n with
  | zero =>
    intro x1 x2 x3 x4 x5 F G hm
    exact no_elim (show (none : PR) = some res from hm)
  | succ n ih =>
    intro x1 x2 x3 x4 x5 F G hm H locs hw ls hl
    exact mw_numberToken_46 fu C hret (ml_numberToken_46 fu n) (fun x1 x2 x3 x4 x5 F G hm H locs ls hw hl => ih x1 x2 x3 x4 x5 F G hm hw hl) x1 x2 x3 x4 x5 F G hm hw hl
theorem mw_numberToken_39 (fu : Nat) {res : Int32 × PF × PG} (C : mMC p R s m args c A v RX12 cX12_numberToken 8 2 40) (hret : ∀ (H1 : Heap) (locs1 : List Loc) (ls1 : Array Slot) (pc : Nat), mMW s A v a res.2.1 res.2.2 H1 locs1 → narrow .int (.int res.1) = .int res.1 → decode cX12_numberToken pc = .ok (.ireturn, 1) → W p l e R s m args below meth c H1 locs1 0 0 Q (F0 m pc ls1 [.int res.1])) (x1 : Int32) (x2 : Int32) (z0 : Int32) (F : PF) (G : PG) (hm : mb_numberToken_39 fu x1 x2 z0 F G = some res) {H : Heap} {locs : List Loc} (hw : mMW s A v a F G H locs) {ls : Array Slot} (hl : lv_has ls 8 [(0, .ref (a 212)), (1, .int x1), (2, .int x2)]) : W p l e R s m args below meth c H locs 0 0 Q (F0 m 39 ls [.int z0]) := by
  have hx := C.1
  have hb := C.2.1
  unfold mb_numberToken_39 at hm
  refine lv_istore_n (lv' := [(3, .int z0), (0, .ref (a 212)), (1, .int x1), (2, .int x2)]) hx hb dX12_numberToken_39 rfl hl (by decide) rfl (fun ls hl => ?_)
  refine lv_iload_n hx hb dX12_numberToken_40 rfl (lv_at hl 0 rfl) ?_
  refine lv_istore (lv' := [(4, .int z0), (3, .int z0), (0, .ref (a 212)), (1, .int x1), (2, .int x2)]) hx hb dX12_numberToken_41 hl (by decide) rfl (fun ls hl => ?_)
  refine lv_lconst (v := 0) hx hb dX12_numberToken_43 (by decide) ?_
  refine lv_lstore (lv' := [(5, .long 0), (4, .int z0), (3, .int z0), (0, .ref (a 212)), (1, .int x1), (2, .int x2)]) hx hb dX12_numberToken_44 hl (by decide) rfl (fun ls hl => ?_)
  exact mwl_numberToken_46 fu C hret fu x1 x2 z0 z0 (0 : Int64) F G hm hw (lv_sub hl [3, 4, 5, 2, 1, 0] rfl)
theorem mw_numberToken_38 (fu : Nat) {res : Int32 × PF × PG} (C : mMC p R s m args c A v RX12 cX12_numberToken 8 2 40) (hret : ∀ (H1 : Heap) (locs1 : List Loc) (ls1 : Array Slot) (pc : Nat), mMW s A v a res.2.1 res.2.2 H1 locs1 → narrow .int (.int res.1) = .int res.1 → decode cX12_numberToken pc = .ok (.ireturn, 1) → W p l e R s m args below meth c H1 locs1 0 0 Q (F0 m pc ls1 [.int res.1])) (x1 : Int32) (x2 : Int32) (F : PF) (G : PG) (hm : mb_numberToken_38 fu x1 x2 F G = some res) {H : Heap} {locs : List Loc} (hw : mMW s A v a F G H locs) {ls : Array Slot} (hl : lv_has ls 8 [(0, .ref (a 212)), (1, .int x1), (2, .int x2)]) : W p l e R s m args below meth c H locs 0 0 Q (F0 m 38 ls []) := by
  have hx := C.1
  have hb := C.2.1
  unfold mb_numberToken_38 at hm
  refine lv_iload_n hx hb dX12_numberToken_38 rfl (lv_at hl 1 rfl) ?_
  exact mw_numberToken_39 fu C hret x1 x2 x1 F G hm hw (lv_sub hl [0, 1, 2] rfl)
theorem mw_numberToken_32 (fu : Nat) {res : Int32 × PF × PG} (C : mMC p R s m args c A v RX12 cX12_numberToken 8 2 40) (hret : ∀ (H1 : Heap) (locs1 : List Loc) (ls1 : Array Slot) (pc : Nat), mMW s A v a res.2.1 res.2.2 H1 locs1 → narrow .int (.int res.1) = .int res.1 → decode cX12_numberToken pc = .ok (.ireturn, 1) → W p l e R s m args below meth c H1 locs1 0 0 Q (F0 m pc ls1 [.int res.1])) (x1 : Int32) (x2 : Int32) (F : PF) (G : PG) (hm : mb_numberToken_32 fu x1 x2 F G = some res) {H : Heap} {locs : List Loc} (hw : mMW s A v a F G H locs) {ls : Array Slot} (hl : lv_has ls 8 [(0, .ref (a 212)), (1, .int x1), (2, .int x2)]) : W p l e R s m args below meth c H locs 0 0 Q (F0 m 32 ls []) := by
  have hx := C.1
  have hb := C.2.1
  unfold mb_numberToken_32 at hm
  refine lv_iload_n hx hb dX12_numberToken_32 rfl (lv_at hl 1 rfl) ?_
  refine lv_iconst (v := 2) hx hb dX12_numberToken_33 (by decide) ?_
  refine lv_iadd hx hb dX12_numberToken_34 ?_
  refine lv_goto (tgt := 39) hx hb dX12_numberToken_35 (by decide) ?_
  exact mw_numberToken_39 fu C hret x1 x2 (x1 + (2 : Int32)) F G hm hw (lv_sub hl [0, 1, 2] rfl)
theorem mw_numberToken_27 (fu : Nat) {res : Int32 × PF × PG} (C : mMC p R s m args c A v RX12 cX12_numberToken 8 2 40) (hret : ∀ (H1 : Heap) (locs1 : List Loc) (ls1 : Array Slot) (pc : Nat), mMW s A v a res.2.1 res.2.2 H1 locs1 → narrow .int (.int res.1) = .int res.1 → decode cX12_numberToken pc = .ok (.ireturn, 1) → W p l e R s m args below meth c H1 locs1 0 0 Q (F0 m pc ls1 [.int res.1])) (x1 : Int32) (z0 : Int32) (F : PF) (G : PG) (hm : mb_numberToken_27 fu x1 z0 F G = some res) {H : Heap} {locs : List Loc} (hw : mMW s A v a F G H locs) {ls : Array Slot} (hl : lv_has ls 8 [(0, .ref (a 212)), (1, .int x1)]) : W p l e R s m args below meth c H locs 0 0 Q (F0 m 27 ls [.int z0]) := by
  have hx := C.1
  have hb := C.2.1
  unfold mb_numberToken_27 at hm
  refine lv_istore_n (lv' := [(2, .int z0), (0, .ref (a 212)), (1, .int x1)]) hx hb dX12_numberToken_27 rfl hl (by decide) rfl (fun ls hl => ?_)
  refine lv_iload_n hx hb dX12_numberToken_28 rfl (lv_at hl 0 rfl) ?_
  refine lv_if_eq (tgt := 38) hx hb dX12_numberToken_29 (by decide) (fun c_1 => ?_) (fun c_1 => ?_)
  · have hm := (if_pos c_1).symm.trans hm
    exact mw_numberToken_38 fu C hret x1 z0 F G hm hw (lv_sub hl [1, 2, 0] rfl)
  · have hm := (if_neg c_1).symm.trans hm
    exact mw_numberToken_32 fu C hret x1 z0 F G hm hw (lv_sub hl [1, 2, 0] rfl)
theorem mw_numberToken_26 (fu : Nat) {res : Int32 × PF × PG} (C : mMC p R s m args c A v RX12 cX12_numberToken 8 2 40) (hret : ∀ (H1 : Heap) (locs1 : List Loc) (ls1 : Array Slot) (pc : Nat), mMW s A v a res.2.1 res.2.2 H1 locs1 → narrow .int (.int res.1) = .int res.1 → decode cX12_numberToken pc = .ok (.ireturn, 1) → W p l e R s m args below meth c H1 locs1 0 0 Q (F0 m pc ls1 [.int res.1])) (x1 : Int32) (F : PF) (G : PG) (hm : mb_numberToken_26 fu x1 F G = some res) {H : Heap} {locs : List Loc} (hw : mMW s A v a F G H locs) {ls : Array Slot} (hl : lv_has ls 8 [(0, .ref (a 212)), (1, .int x1)]) : W p l e R s m args below meth c H locs 0 0 Q (F0 m 26 ls []) := by
  have hx := C.1
  have hb := C.2.1
  unfold mb_numberToken_26 at hm
  refine lv_iconst (v := 0) hx hb dX12_numberToken_26 (by decide) ?_
  exact mw_numberToken_27 fu C hret x1 0 F G hm hw (lv_sub hl [0, 1] rfl)
theorem mw_numberToken_22 (fu : Nat) {res : Int32 × PF × PG} (C : mMC p R s m args c A v RX12 cX12_numberToken 8 2 40) (hret : ∀ (H1 : Heap) (locs1 : List Loc) (ls1 : Array Slot) (pc : Nat), mMW s A v a res.2.1 res.2.2 H1 locs1 → narrow .int (.int res.1) = .int res.1 → decode cX12_numberToken pc = .ok (.ireturn, 1) → W p l e R s m args below meth c H1 locs1 0 0 Q (F0 m pc ls1 [.int res.1])) (x1 : Int32) (F : PF) (G : PG) (hm : mb_numberToken_22 fu x1 F G = some res) {H : Heap} {locs : List Loc} (hw : mMW s A v a F G H locs) {ls : Array Slot} (hl : lv_has ls 8 [(0, .ref (a 212)), (1, .int x1)]) : W p l e R s m args below meth c H locs 0 0 Q (F0 m 22 ls []) := by
  have hx := C.1
  have hb := C.2.1
  unfold mb_numberToken_22 at hm
  refine lv_iconst (v := 1) hx hb dX12_numberToken_22 (by decide) ?_
  refine lv_goto (tgt := 27) hx hb dX12_numberToken_23 (by decide) ?_
  exact mw_numberToken_27 fu C hret x1 1 F G hm hw (lv_sub hl [0, 1] rfl)
theorem mw_numberToken_17 (fu : Nat) {res : Int32 × PF × PG} (C : mMC p R s m args c A v RX12 cX12_numberToken 8 2 40) (hret : ∀ (H1 : Heap) (locs1 : List Loc) (ls1 : Array Slot) (pc : Nat), mMW s A v a res.2.1 res.2.2 H1 locs1 → narrow .int (.int res.1) = .int res.1 → decode cX12_numberToken pc = .ok (.ireturn, 1) → W p l e R s m args below meth c H1 locs1 0 0 Q (F0 m pc ls1 [.int res.1])) (x1 : Int32) (z0 : Int32) (F : PF) (G : PG) (hm : mb_numberToken_17 fu x1 z0 F G = some res) {H : Heap} {locs : List Loc} (hw : mMW s A v a F G H locs) {ls : Array Slot} (hl : lv_has ls 8 [(0, .ref (a 212)), (1, .int x1)]) : W p l e R s m args below meth c H locs 0 0 Q (F0 m 17 ls [.int z0]) := by
  have hx := C.1
  have hb := C.2.1
  unfold mb_numberToken_17 at hm
  refine lv_bipush (v := 120) hx hb dX12_numberToken_17 (by decide) ?_
  refine lv_icmp_ne (tgt := 26) hx hb dX12_numberToken_19 (by decide) (fun c_1 => ?_) (fun c_1 => ?_)
  · have hm := (if_neg c_1).symm.trans hm
    exact mw_numberToken_26 fu C hret x1 F G hm hw (lv_sub hl [0, 1] rfl)
  · have hm := (if_pos c_1).symm.trans hm
    exact mw_numberToken_22 fu C hret x1 F G hm hw (lv_sub hl [0, 1] rfl)
theorem mw_numberToken_10 (fu : Nat) {res : Int32 × PF × PG} (C : mMC p R s m args c A v RX12 cX12_numberToken 8 2 40) (hret : ∀ (H1 : Heap) (locs1 : List Loc) (ls1 : Array Slot) (pc : Nat), mMW s A v a res.2.1 res.2.2 H1 locs1 → narrow .int (.int res.1) = .int res.1 → decode cX12_numberToken pc = .ok (.ireturn, 1) → W p l e R s m args below meth c H1 locs1 0 0 Q (F0 m pc ls1 [.int res.1])) (x1 : Int32) (F : PF) (G : PG) (hm : mb_numberToken_10 fu x1 F G = some res) {H : Heap} {locs : List Loc} (hw : mMW s A v a F G H locs) {ls : Array Slot} (hl : lv_has ls 8 [(0, .ref (a 212)), (1, .int x1)]) : W p l e R s m args below meth c H locs 0 0 Q (F0 m 10 ls []) := by
  have hx := C.1
  have hb := C.2.1
  unfold mb_numberToken_10 at hm
  refine lv_aload_n hx hb dX12_numberToken_10 rfl (lv_at hl 0 rfl) ?_
  refine lv_iload_n hx hb dX12_numberToken_11 rfl (lv_at hl 1 rfl) ?_
  refine lv_iconst (v := 1) hx hb dX12_numberToken_12 (by decide) ?_
  refine lv_iadd hx hb dX12_numberToken_13 ?_
  obtain ⟨⟨r1, F1, G1⟩, hc, hm⟩ := bind_elim hm
  refine mcallI (n := 1) (As := [.int (x1 + (1 : Int32))]) (rest := []) C hw (mk_at l v a _ fu (x1 + (1 : Int32)) F G r1 F1 G1 hc) (mrecv_X12 C hw) mm_38 mm_39 mm_40 mm_27 mm_41 (by decide +kernel) rfl (by omega) (by omega) hl.1 rfl (Nat.le_of_ble_eq_true rfl) dX12_numberToken_14 (fun H locs hw => ?_)
  exact mw_numberToken_17 fu C hret x1 r1 F1 G1 hm hw (lv_sub hl [0, 1] rfl)
theorem mw_numberToken_5 (fu : Nat) {res : Int32 × PF × PG} (C : mMC p R s m args c A v RX12 cX12_numberToken 8 2 40) (hret : ∀ (H1 : Heap) (locs1 : List Loc) (ls1 : Array Slot) (pc : Nat), mMW s A v a res.2.1 res.2.2 H1 locs1 → narrow .int (.int res.1) = .int res.1 → decode cX12_numberToken pc = .ok (.ireturn, 1) → W p l e R s m args below meth c H1 locs1 0 0 Q (F0 m pc ls1 [.int res.1])) (x1 : Int32) (z0 : Int32) (F : PF) (G : PG) (hm : mb_numberToken_5 fu x1 z0 F G = some res) {H : Heap} {locs : List Loc} (hw : mMW s A v a F G H locs) {ls : Array Slot} (hl : lv_has ls 8 [(0, .ref (a 212)), (1, .int x1)]) : W p l e R s m args below meth c H locs 0 0 Q (F0 m 5 ls [.int z0]) := by
  have hx := C.1
  have hb := C.2.1
  unfold mb_numberToken_5 at hm
  refine lv_bipush (v := 48) hx hb dX12_numberToken_5 (by decide) ?_
  refine lv_icmp_ne (tgt := 26) hx hb dX12_numberToken_7 (by decide) (fun c_1 => ?_) (fun c_1 => ?_)
  · have hm := (if_neg c_1).symm.trans hm
    exact mw_numberToken_26 fu C hret x1 F G hm hw (lv_sub hl [0, 1] rfl)
  · have hm := (if_pos c_1).symm.trans hm
    exact mw_numberToken_10 fu C hret x1 F G hm hw (lv_sub hl [0, 1] rfl)
theorem mw_numberToken_0 (fu : Nat) {res : Int32 × PF × PG} (C : mMC p R s m args c A v RX12 cX12_numberToken 8 2 40) (hret : ∀ (H1 : Heap) (locs1 : List Loc) (ls1 : Array Slot) (pc : Nat), mMW s A v a res.2.1 res.2.2 H1 locs1 → narrow .int (.int res.1) = .int res.1 → decode cX12_numberToken pc = .ok (.ireturn, 1) → W p l e R s m args below meth c H1 locs1 0 0 Q (F0 m pc ls1 [.int res.1])) (x1 : Int32) (F : PF) (G : PG) (hm : mb_numberToken_0 fu x1 F G = some res) {H : Heap} {locs : List Loc} (hw : mMW s A v a F G H locs) {ls : Array Slot} (hl : lv_has ls 8 [(0, .ref (a 212)), (1, .int x1)]) : W p l e R s m args below meth c H locs 0 0 Q (F0 m 0 ls []) := by
  have hx := C.1
  have hb := C.2.1
  unfold mb_numberToken_0 at hm
  refine lv_aload_n hx hb dX12_numberToken_0 rfl (lv_at hl 0 rfl) ?_
  refine lv_iload_n hx hb dX12_numberToken_1 rfl (lv_at hl 1 rfl) ?_
  obtain ⟨⟨r1, F1, G1⟩, hc, hm⟩ := bind_elim hm
  refine mcallI (n := 1) (As := [.int x1]) (rest := []) C hw (mk_at l v a _ fu x1 F G r1 F1 G1 hc) (mrecv_X12 C hw) mm_38 mm_39 mm_40 mm_27 mm_41 (by decide +kernel) rfl (by omega) (by omega) hl.1 rfl (Nat.le_of_ble_eq_true rfl) dX12_numberToken_2 (fun H locs hw => ?_)
  exact mw_numberToken_5 fu C hret x1 r1 F1 G1 hm hw (lv_sub hl [0, 1] rfl)
theorem mk_numberToken (l : Launch) (v : EV) (a : Nat → Nat) (sz : Nat) (fu : Nat) (x1 : Int32) (F : PF) (G : PG) (r : Int32) (F1 : PF) (G1 : PG) (hm : mf_numberToken fu x1 F G = some (r, F1, G1)) : mMI l yX12_numberToken cX12_numberToken 8 (some .int) 2 40 v a sz [.ref (a 212), .int x1] F G r F1 G1 := mMI.of (ty := .int) (by decide) rfl (Nat.le_of_ble_eq_true rfl) (fun p e R s m args below meth c Q A H locs ls C hw hl hret => mw_numberToken_0 fu (res := (r, F1, G1)) C hret x1 F G hm hw hl)
def mb_wordToken_72 (fu : Nat) (x2 : Int32) (F : PF) (G : PG) : PR := some (x2, F, G)
def mb_wordToken_68 (fu : Nat) (x1 : Int32) (x2 : Int32) (z0 : Int32) (z1 : Int32) (F : PF) (G : PG) : PR := (mf_token fu z1 z0 x1 F G).bind (fun q => mb_wordToken_72 fu x2 q.2.1 q.2.2)
def mb_wordToken_67 (fu : Nat) (x1 : Int32) (x2 : Int32) (x3 : Int32) (z0 : Int32) (F : PF) (G : PG) : PR := mb_wordToken_68 fu x1 x2 x3 z0 F G
def mb_wordToken_64 (fu : Nat) (x1 : Int32) (x2 : Int32) (z0 : Int32) (z1 : Int32) (F : PF) (G : PG) : PR := mb_wordToken_68 fu x1 x2 z0 z1 F G
def mb_wordToken_56 (fu : Nat) (x1 : Int32) (x2 : Int32) (z0 : Int32) (F : PF) (G : PG) : PR := (mf_nameOf fu x1 (x2 - x1) F G).bind (fun q => mb_wordToken_64 fu x1 x2 q.1 z0 q.2.1 q.2.2)
def mb_wordToken_51 (fu : Nat) (x1 : Int32) (x2 : Int32) (x3 : Int32) (z0 : Int32) (F : PF) (G : PG) : PR := if x3 = (-1 : Int32) then mb_wordToken_56 fu x1 x2 z0 F G else mb_wordToken_67 fu x1 x2 x3 z0 F G
def mb_wordToken_50 (fu : Nat) (x1 : Int32) (x2 : Int32) (x3 : Int32) (F : PF) (G : PG) : PR := mb_wordToken_51 fu x1 x2 x3 2 F G
def mb_wordToken_46 (fu : Nat) (x1 : Int32) (x2 : Int32) (x3 : Int32) (F : PF) (G : PG) : PR := mb_wordToken_51 fu x1 x2 x3 1 F G
def mb_wordToken_39 (fu : Nat) (x1 : Int32) (x2 : Int32) (z0 : Int32) (F : PF) (G : PG) : PR := if z0 = (-1 : Int32) then mb_wordToken_46 fu x1 x2 z0 F G else mb_wordToken_50 fu x1 x2 z0 F G
def mb_wordToken_29 (fu : Nat) (x1 : Int32) (x2 : Int32) (F : PF) (G : PG) : PR := (mf_placeIn fu 1 x1 (x2 - x1) F G).bind (fun q => mb_wordToken_39 fu x1 x2 q.1 q.2.1 q.2.2)
def mb_wordToken_27 (fu : Nat) (F : PF) (G : PG) : PR := some ((-1), F, G)
def mb_wordToken_19 (fu : Nat) (x1 : Int32) (x2 : Int32) (F : PF) (G : PG) : PR := if (x2 - x1) ≤ (16 : Int32) then mb_wordToken_29 fu x1 x2 F G else mb_wordToken_27 fu F G
def mb_wordToken_13 (fu : Nat) (ag_2 : Int32 → Int32 → PF → PG → PR) (x1 : Int32) (x2 : Int32) (F : PF) (G : PG) : PR := ag_2 x1 (x2 + 1) F G
def mb_wordToken_10 (fu : Nat) (ag_2 : Int32 → Int32 → PF → PG → PR) (x1 : Int32) (x2 : Int32) (z0 : Int32) (F : PF) (G : PG) : PR := if z0 = (0 : Int32) then mb_wordToken_19 fu x1 x2 F G else mb_wordToken_13 fu ag_2 x1 x2 F G
def mb_wordToken_7 (fu : Nat) (ag_2 : Int32 → Int32 → PF → PG → PR) (x1 : Int32) (x2 : Int32) (z0 : Int32) (F : PF) (G : PG) : PR := (mf_isInner fu z0 F G).bind (fun q => mb_wordToken_10 fu ag_2 x1 x2 q.1 q.2.1 q.2.2)
def mb_wordToken_2 (fu : Nat) (ag_2 : Int32 → Int32 → PF → PG → PR) (x1 : Int32) (x2 : Int32) (F : PF) (G : PG) : PR := (mf_at fu x2 F G).bind (fun q => mb_wordToken_7 fu ag_2 x1 x2 q.1 q.2.1 q.2.2)
def ml_wordToken_2 (fu : Nat) : Nat → Int32 → Int32 → PF → PG → PR
  | 0 => fun _ _ _ _ => none
  | n + 1 => fun x1 x2 F G => mb_wordToken_2 fu (ml_wordToken_2 fu n) x1 x2 F G
def mb_wordToken_0 (fu : Nat) (x1 : Int32) (F : PF) (G : PG) : PR := ml_wordToken_2 fu fu x1 x1 F G
def mf_wordToken (fu : Nat) (x1 : Int32) (F : PF) (G : PG) : PR := mb_wordToken_0 fu x1 F G
theorem mw_wordToken_72 (fu : Nat) {res : Int32 × PF × PG} (C : mMC p R s m args c A v RX12 cX12_wordToken 4 5 111) (hret : ∀ (H1 : Heap) (locs1 : List Loc) (ls1 : Array Slot) (pc : Nat), mMW s A v a res.2.1 res.2.2 H1 locs1 → narrow .int (.int res.1) = .int res.1 → decode cX12_wordToken pc = .ok (.ireturn, 1) → W p l e R s m args below meth c H1 locs1 0 0 Q (F0 m pc ls1 [.int res.1])) (x2 : Int32) (F : PF) (G : PG) (hm : mb_wordToken_72 fu x2 F G = some res) {H : Heap} {locs : List Loc} (hw : mMW s A v a F G H locs) {ls : Array Slot} (hl : lv_has ls 4 [(2, .int x2)]) : W p l e R s m args below meth c H locs 0 0 Q (F0 m 72 ls []) := by
  have hx := C.1
  have hb := C.2.1
  unfold mb_wordToken_72 at hm
  refine lv_iload_n hx hb dX12_wordToken_72 rfl (lv_at hl 0 rfl) ?_
  obtain rfl := Option.some.inj hm
  exact hret _ _ _ _ hw rfl dX12_wordToken_73
theorem mw_wordToken_68 (fu : Nat) {res : Int32 × PF × PG} (C : mMC p R s m args c A v RX12 cX12_wordToken 4 5 111) (hret : ∀ (H1 : Heap) (locs1 : List Loc) (ls1 : Array Slot) (pc : Nat), mMW s A v a res.2.1 res.2.2 H1 locs1 → narrow .int (.int res.1) = .int res.1 → decode cX12_wordToken pc = .ok (.ireturn, 1) → W p l e R s m args below meth c H1 locs1 0 0 Q (F0 m pc ls1 [.int res.1])) (x1 : Int32) (x2 : Int32) (z0 : Int32) (z1 : Int32) (F : PF) (G : PG) (hm : mb_wordToken_68 fu x1 x2 z0 z1 F G = some res) {H : Heap} {locs : List Loc} (hw : mMW s A v a F G H locs) {ls : Array Slot} (hl : lv_has ls 4 [(1, .int x1), (2, .int x2)]) : W p l e R s m args below meth c H locs 0 0 Q (F0 m 68 ls [.int z0, .int z1, .ref (a 212)]) := by
  have hx := C.1
  have hb := C.2.1
  unfold mb_wordToken_68 at hm
  refine lv_iload_n hx hb dX12_wordToken_68 rfl (lv_at hl 0 rfl) ?_
  obtain ⟨⟨r1, F1, G1⟩, hc, hm⟩ := bind_elim hm
  refine mcallV (n := 3) (As := [.int z1, .int z0, .int x1]) (rest := []) C hw (mk_token l v a _ fu z1 z0 x1 F G r1 F1 G1 hc) (mrecv_X12 C hw) mm_118 mm_119 mm_120 mm_27 mm_121 (by decide +kernel) rfl (by omega) (by omega) hl.1 rfl (Nat.le_of_ble_eq_true rfl) dX12_wordToken_69 (fun H locs hw => ?_)
  exact mw_wordToken_72 fu C hret x2 F1 G1 hm hw (lv_sub hl [1] rfl)
theorem mw_wordToken_67 (fu : Nat) {res : Int32 × PF × PG} (C : mMC p R s m args c A v RX12 cX12_wordToken 4 5 111) (hret : ∀ (H1 : Heap) (locs1 : List Loc) (ls1 : Array Slot) (pc : Nat), mMW s A v a res.2.1 res.2.2 H1 locs1 → narrow .int (.int res.1) = .int res.1 → decode cX12_wordToken pc = .ok (.ireturn, 1) → W p l e R s m args below meth c H1 locs1 0 0 Q (F0 m pc ls1 [.int res.1])) (x1 : Int32) (x2 : Int32) (x3 : Int32) (z0 : Int32) (F : PF) (G : PG) (hm : mb_wordToken_67 fu x1 x2 x3 z0 F G = some res) {H : Heap} {locs : List Loc} (hw : mMW s A v a F G H locs) {ls : Array Slot} (hl : lv_has ls 4 [(1, .int x1), (2, .int x2), (3, .int x3)]) : W p l e R s m args below meth c H locs 0 0 Q (F0 m 67 ls [.int z0, .ref (a 212)]) := by
  have hx := C.1
  have hb := C.2.1
  unfold mb_wordToken_67 at hm
  refine lv_iload_n hx hb dX12_wordToken_67 rfl (lv_at hl 2 rfl) ?_
  exact mw_wordToken_68 fu C hret x1 x2 x3 z0 F G hm hw (lv_sub hl [0, 1] rfl)
theorem mw_wordToken_64 (fu : Nat) {res : Int32 × PF × PG} (C : mMC p R s m args c A v RX12 cX12_wordToken 4 5 111) (hret : ∀ (H1 : Heap) (locs1 : List Loc) (ls1 : Array Slot) (pc : Nat), mMW s A v a res.2.1 res.2.2 H1 locs1 → narrow .int (.int res.1) = .int res.1 → decode cX12_wordToken pc = .ok (.ireturn, 1) → W p l e R s m args below meth c H1 locs1 0 0 Q (F0 m pc ls1 [.int res.1])) (x1 : Int32) (x2 : Int32) (z0 : Int32) (z1 : Int32) (F : PF) (G : PG) (hm : mb_wordToken_64 fu x1 x2 z0 z1 F G = some res) {H : Heap} {locs : List Loc} (hw : mMW s A v a F G H locs) {ls : Array Slot} (hl : lv_has ls 4 [(1, .int x1), (2, .int x2)]) : W p l e R s m args below meth c H locs 0 0 Q (F0 m 64 ls [.int z0, .int z1, .ref (a 212)]) := by
  have hx := C.1
  have hb := C.2.1
  unfold mb_wordToken_64 at hm
  refine lv_goto (tgt := 68) hx hb dX12_wordToken_64 (by decide) ?_
  exact mw_wordToken_68 fu C hret x1 x2 z0 z1 F G hm hw (lv_sub hl [0, 1] rfl)
theorem mw_wordToken_56 (fu : Nat) {res : Int32 × PF × PG} (C : mMC p R s m args c A v RX12 cX12_wordToken 4 5 111) (hret : ∀ (H1 : Heap) (locs1 : List Loc) (ls1 : Array Slot) (pc : Nat), mMW s A v a res.2.1 res.2.2 H1 locs1 → narrow .int (.int res.1) = .int res.1 → decode cX12_wordToken pc = .ok (.ireturn, 1) → W p l e R s m args below meth c H1 locs1 0 0 Q (F0 m pc ls1 [.int res.1])) (x1 : Int32) (x2 : Int32) (z0 : Int32) (F : PF) (G : PG) (hm : mb_wordToken_56 fu x1 x2 z0 F G = some res) {H : Heap} {locs : List Loc} (hw : mMW s A v a F G H locs) {ls : Array Slot} (hl : lv_has ls 4 [(0, .ref (a 212)), (1, .int x1), (2, .int x2)]) : W p l e R s m args below meth c H locs 0 0 Q (F0 m 56 ls [.int z0, .ref (a 212)]) := by
  have hx := C.1
  have hb := C.2.1
  unfold mb_wordToken_56 at hm
  refine lv_aload_n hx hb dX12_wordToken_56 rfl (lv_at hl 0 rfl) ?_
  refine lv_iload_n hx hb dX12_wordToken_57 rfl (lv_at hl 1 rfl) ?_
  refine lv_iload_n hx hb dX12_wordToken_58 rfl (lv_at hl 2 rfl) ?_
  refine lv_iload_n hx hb dX12_wordToken_59 rfl (lv_at hl 1 rfl) ?_
  refine lv_isub hx hb dX12_wordToken_60 ?_
  obtain ⟨⟨r1, F1, G1⟩, hc, hm⟩ := bind_elim hm
  refine mcallI (n := 2) (As := [.int x1, .int (x2 - x1)]) (rest := [.int z0, .ref (a 212)]) C hw (mk_nameOf l v a _ fu x1 (x2 - x1) F G r1 F1 G1 hc) (mrecv_X12 C hw) mm_112 mm_113 mm_114 mm_27 mm_115 (by decide +kernel) rfl (by omega) (by omega) hl.1 rfl (Nat.le_of_ble_eq_true rfl) dX12_wordToken_61 (fun H locs hw => ?_)
  exact mw_wordToken_64 fu C hret x1 x2 r1 z0 F1 G1 hm hw (lv_sub hl [1, 2] rfl)
theorem mw_wordToken_51 (fu : Nat) {res : Int32 × PF × PG} (C : mMC p R s m args c A v RX12 cX12_wordToken 4 5 111) (hret : ∀ (H1 : Heap) (locs1 : List Loc) (ls1 : Array Slot) (pc : Nat), mMW s A v a res.2.1 res.2.2 H1 locs1 → narrow .int (.int res.1) = .int res.1 → decode cX12_wordToken pc = .ok (.ireturn, 1) → W p l e R s m args below meth c H1 locs1 0 0 Q (F0 m pc ls1 [.int res.1])) (x1 : Int32) (x2 : Int32) (x3 : Int32) (z0 : Int32) (F : PF) (G : PG) (hm : mb_wordToken_51 fu x1 x2 x3 z0 F G = some res) {H : Heap} {locs : List Loc} (hw : mMW s A v a F G H locs) {ls : Array Slot} (hl : lv_has ls 4 [(0, .ref (a 212)), (1, .int x1), (2, .int x2), (3, .int x3)]) : W p l e R s m args below meth c H locs 0 0 Q (F0 m 51 ls [.int z0, .ref (a 212)]) := by
  have hx := C.1
  have hb := C.2.1
  unfold mb_wordToken_51 at hm
  refine lv_iload_n hx hb dX12_wordToken_51 rfl (lv_at hl 3 rfl) ?_
  refine lv_iconst (v := (-1)) hx hb dX12_wordToken_52 (by decide) ?_
  refine lv_icmp_ne (tgt := 67) hx hb dX12_wordToken_53 (by decide) (fun c_1 => ?_) (fun c_1 => ?_)
  · have hm := (if_neg c_1).symm.trans hm
    exact mw_wordToken_67 fu C hret x1 x2 x3 z0 F G hm hw (lv_sub hl [1, 2, 3] rfl)
  · have hm := (if_pos c_1).symm.trans hm
    exact mw_wordToken_56 fu C hret x1 x2 z0 F G hm hw (lv_sub hl [0, 1, 2] rfl)
theorem mw_wordToken_50 (fu : Nat) {res : Int32 × PF × PG} (C : mMC p R s m args c A v RX12 cX12_wordToken 4 5 111) (hret : ∀ (H1 : Heap) (locs1 : List Loc) (ls1 : Array Slot) (pc : Nat), mMW s A v a res.2.1 res.2.2 H1 locs1 → narrow .int (.int res.1) = .int res.1 → decode cX12_wordToken pc = .ok (.ireturn, 1) → W p l e R s m args below meth c H1 locs1 0 0 Q (F0 m pc ls1 [.int res.1])) (x1 : Int32) (x2 : Int32) (x3 : Int32) (F : PF) (G : PG) (hm : mb_wordToken_50 fu x1 x2 x3 F G = some res) {H : Heap} {locs : List Loc} (hw : mMW s A v a F G H locs) {ls : Array Slot} (hl : lv_has ls 4 [(0, .ref (a 212)), (1, .int x1), (2, .int x2), (3, .int x3)]) : W p l e R s m args below meth c H locs 0 0 Q (F0 m 50 ls [.ref (a 212)]) := by
  have hx := C.1
  have hb := C.2.1
  unfold mb_wordToken_50 at hm
  refine lv_iconst (v := 2) hx hb dX12_wordToken_50 (by decide) ?_
  exact mw_wordToken_51 fu C hret x1 x2 x3 2 F G hm hw (lv_sub hl [0, 1, 2, 3] rfl)
theorem mw_wordToken_46 (fu : Nat) {res : Int32 × PF × PG} (C : mMC p R s m args c A v RX12 cX12_wordToken 4 5 111) (hret : ∀ (H1 : Heap) (locs1 : List Loc) (ls1 : Array Slot) (pc : Nat), mMW s A v a res.2.1 res.2.2 H1 locs1 → narrow .int (.int res.1) = .int res.1 → decode cX12_wordToken pc = .ok (.ireturn, 1) → W p l e R s m args below meth c H1 locs1 0 0 Q (F0 m pc ls1 [.int res.1])) (x1 : Int32) (x2 : Int32) (x3 : Int32) (F : PF) (G : PG) (hm : mb_wordToken_46 fu x1 x2 x3 F G = some res) {H : Heap} {locs : List Loc} (hw : mMW s A v a F G H locs) {ls : Array Slot} (hl : lv_has ls 4 [(0, .ref (a 212)), (1, .int x1), (2, .int x2), (3, .int x3)]) : W p l e R s m args below meth c H locs 0 0 Q (F0 m 46 ls [.ref (a 212)]) := by
  have hx := C.1
  have hb := C.2.1
  unfold mb_wordToken_46 at hm
  refine lv_iconst (v := 1) hx hb dX12_wordToken_46 (by decide) ?_
  refine lv_goto (tgt := 51) hx hb dX12_wordToken_47 (by decide) ?_
  exact mw_wordToken_51 fu C hret x1 x2 x3 1 F G hm hw (lv_sub hl [0, 1, 2, 3] rfl)
theorem mw_wordToken_39 (fu : Nat) {res : Int32 × PF × PG} (C : mMC p R s m args c A v RX12 cX12_wordToken 4 5 111) (hret : ∀ (H1 : Heap) (locs1 : List Loc) (ls1 : Array Slot) (pc : Nat), mMW s A v a res.2.1 res.2.2 H1 locs1 → narrow .int (.int res.1) = .int res.1 → decode cX12_wordToken pc = .ok (.ireturn, 1) → W p l e R s m args below meth c H1 locs1 0 0 Q (F0 m pc ls1 [.int res.1])) (x1 : Int32) (x2 : Int32) (z0 : Int32) (F : PF) (G : PG) (hm : mb_wordToken_39 fu x1 x2 z0 F G = some res) {H : Heap} {locs : List Loc} (hw : mMW s A v a F G H locs) {ls : Array Slot} (hl : lv_has ls 4 [(0, .ref (a 212)), (1, .int x1), (2, .int x2)]) : W p l e R s m args below meth c H locs 0 0 Q (F0 m 39 ls [.int z0]) := by
  have hx := C.1
  have hb := C.2.1
  unfold mb_wordToken_39 at hm
  refine lv_istore_n (lv' := [(3, .int z0), (0, .ref (a 212)), (1, .int x1), (2, .int x2)]) hx hb dX12_wordToken_39 rfl hl (by decide) rfl (fun ls hl => ?_)
  refine lv_aload_n hx hb dX12_wordToken_40 rfl (lv_at hl 1 rfl) ?_
  refine lv_iload_n hx hb dX12_wordToken_41 rfl (lv_at hl 0 rfl) ?_
  refine lv_iconst (v := (-1)) hx hb dX12_wordToken_42 (by decide) ?_
  refine lv_icmp_ne (tgt := 50) hx hb dX12_wordToken_43 (by decide) (fun c_1 => ?_) (fun c_1 => ?_)
  · have hm := (if_neg c_1).symm.trans hm
    exact mw_wordToken_50 fu C hret x1 x2 z0 F G hm hw (lv_sub hl [1, 2, 3, 0] rfl)
  · have hm := (if_pos c_1).symm.trans hm
    exact mw_wordToken_46 fu C hret x1 x2 z0 F G hm hw (lv_sub hl [1, 2, 3, 0] rfl)
theorem mw_wordToken_29 (fu : Nat) {res : Int32 × PF × PG} (C : mMC p R s m args c A v RX12 cX12_wordToken 4 5 111) (hret : ∀ (H1 : Heap) (locs1 : List Loc) (ls1 : Array Slot) (pc : Nat), mMW s A v a res.2.1 res.2.2 H1 locs1 → narrow .int (.int res.1) = .int res.1 → decode cX12_wordToken pc = .ok (.ireturn, 1) → W p l e R s m args below meth c H1 locs1 0 0 Q (F0 m pc ls1 [.int res.1])) (x1 : Int32) (x2 : Int32) (F : PF) (G : PG) (hm : mb_wordToken_29 fu x1 x2 F G = some res) {H : Heap} {locs : List Loc} (hw : mMW s A v a F G H locs) {ls : Array Slot} (hl : lv_has ls 4 [(0, .ref (a 212)), (1, .int x1), (2, .int x2)]) : W p l e R s m args below meth c H locs 0 0 Q (F0 m 29 ls []) := by
  have hx := C.1
  have hb := C.2.1
  unfold mb_wordToken_29 at hm
  refine lv_aload_n hx hb dX12_wordToken_29 rfl (lv_at hl 0 rfl) ?_
  refine va_ldcS hx hb C.2.2.2.1 C.2.2.2.2.2.2.2.2.2.2.2.2.2.1 dX12_wordToken_30 ?_
  refine lv_iload_n hx hb dX12_wordToken_32 rfl (lv_at hl 1 rfl) ?_
  refine lv_iload_n hx hb dX12_wordToken_33 rfl (lv_at hl 2 rfl) ?_
  refine lv_iload_n hx hb dX12_wordToken_34 rfl (lv_at hl 1 rfl) ?_
  refine lv_isub hx hb dX12_wordToken_35 ?_
  obtain ⟨⟨r1, F1, G1⟩, hc, hm⟩ := bind_elim hm
  refine mcallI (n := 3) (As := [.ref (eK v 1), .int x1, .int (x2 - x1)]) (rest := []) C hw (mk_placeIn l v a _ fu 1 x1 (x2 - x1) F G r1 F1 G1 hc) (mrecv_X12 C hw) mm_59 mm_60 mm_61 mm_27 mm_62 (by decide +kernel) rfl (by omega) (by omega) hl.1 rfl (Nat.le_of_ble_eq_true rfl) dX12_wordToken_36 (fun H locs hw => ?_)
  exact mw_wordToken_39 fu C hret x1 x2 r1 F1 G1 hm hw (lv_sub hl [0, 1, 2] rfl)
theorem mw_wordToken_27 (fu : Nat) {res : Int32 × PF × PG} (C : mMC p R s m args c A v RX12 cX12_wordToken 4 5 111) (hret : ∀ (H1 : Heap) (locs1 : List Loc) (ls1 : Array Slot) (pc : Nat), mMW s A v a res.2.1 res.2.2 H1 locs1 → narrow .int (.int res.1) = .int res.1 → decode cX12_wordToken pc = .ok (.ireturn, 1) → W p l e R s m args below meth c H1 locs1 0 0 Q (F0 m pc ls1 [.int res.1])) (F : PF) (G : PG) (hm : mb_wordToken_27 fu F G = some res) {H : Heap} {locs : List Loc} (hw : mMW s A v a F G H locs) {ls : Array Slot} (hl : lv_has ls 4 []) : W p l e R s m args below meth c H locs 0 0 Q (F0 m 27 ls []) := by
  have hx := C.1
  have hb := C.2.1
  unfold mb_wordToken_27 at hm
  refine lv_iconst (v := (-1)) hx hb dX12_wordToken_27 (by decide) ?_
  obtain rfl := Option.some.inj hm
  exact hret _ _ _ _ hw rfl dX12_wordToken_28
theorem mw_wordToken_19 (fu : Nat) {res : Int32 × PF × PG} (C : mMC p R s m args c A v RX12 cX12_wordToken 4 5 111) (hret : ∀ (H1 : Heap) (locs1 : List Loc) (ls1 : Array Slot) (pc : Nat), mMW s A v a res.2.1 res.2.2 H1 locs1 → narrow .int (.int res.1) = .int res.1 → decode cX12_wordToken pc = .ok (.ireturn, 1) → W p l e R s m args below meth c H1 locs1 0 0 Q (F0 m pc ls1 [.int res.1])) (x1 : Int32) (x2 : Int32) (F : PF) (G : PG) (hm : mb_wordToken_19 fu x1 x2 F G = some res) {H : Heap} {locs : List Loc} (hw : mMW s A v a F G H locs) {ls : Array Slot} (hl : lv_has ls 4 [(0, .ref (a 212)), (1, .int x1), (2, .int x2)]) : W p l e R s m args below meth c H locs 0 0 Q (F0 m 19 ls []) := by
  have hx := C.1
  have hb := C.2.1
  unfold mb_wordToken_19 at hm
  refine lv_iload_n hx hb dX12_wordToken_19 rfl (lv_at hl 2 rfl) ?_
  refine lv_iload_n hx hb dX12_wordToken_20 rfl (lv_at hl 1 rfl) ?_
  refine lv_isub hx hb dX12_wordToken_21 ?_
  refine lv_bipush (v := 16) hx hb dX12_wordToken_22 (by decide) ?_
  refine lv_icmp_le (tgt := 29) hx hb dX12_wordToken_24 (by decide) (fun c_1 => ?_) (fun c_1 => ?_)
  · have hm := (if_pos c_1).symm.trans hm
    exact mw_wordToken_29 fu C hret x1 x2 F G hm hw (lv_sub hl [0, 1, 2] rfl)
  · have hm := (if_neg c_1).symm.trans hm
    exact mw_wordToken_27 fu C hret F G hm hw (lv_sub hl [] rfl)
theorem mw_wordToken_13 (fu : Nat) {res : Int32 × PF × PG} (C : mMC p R s m args c A v RX12 cX12_wordToken 4 5 111) (hret : ∀ (H1 : Heap) (locs1 : List Loc) (ls1 : Array Slot) (pc : Nat), mMW s A v a res.2.1 res.2.2 H1 locs1 → narrow .int (.int res.1) = .int res.1 → decode cX12_wordToken pc = .ok (.ireturn, 1) → W p l e R s m args below meth c H1 locs1 0 0 Q (F0 m pc ls1 [.int res.1])) (ag_2 : Int32 → Int32 → PF → PG → PR) (hag_2 : ∀ (x1 : Int32) (x2 : Int32) (F : PF) (G : PG), ag_2 x1 x2 F G = some res → ∀ (H : Heap) (locs : List Loc) (ls : Array Slot), mMW s A v a F G H locs → lv_has ls 4 [(0, .ref (a 212)), (1, .int x1), (2, .int x2)] → W p l e R s m args below meth c H locs 0 0 Q (F0 m 2 ls [])) (x1 : Int32) (x2 : Int32) (F : PF) (G : PG) (hm : mb_wordToken_13 fu ag_2 x1 x2 F G = some res) {H : Heap} {locs : List Loc} (hw : mMW s A v a F G H locs) {ls : Array Slot} (hl : lv_has ls 4 [(0, .ref (a 212)), (1, .int x1), (2, .int x2)]) : W p l e R s m args below meth c H locs 0 0 Q (F0 m 13 ls []) := by
  have hx := C.1
  have hb := C.2.1
  unfold mb_wordToken_13 at hm
  refine lv_iinc (v := (x2 + 1)) (lv' := [(2, .int (x2 + 1)), (0, .ref (a 212)), (1, .int x1)]) hx hb dX12_wordToken_13 hl (k := 2) rfl (by rfl) (by decide) rfl (fun ls hl => ?_)
  refine lv_goto (tgt := 2) hx hb dX12_wordToken_16 (by decide) ?_
  exact hag_2 x1 (x2 + 1) F G hm _ _ _ hw (lv_sub hl [1, 2, 0] rfl)
theorem mw_wordToken_10 (fu : Nat) {res : Int32 × PF × PG} (C : mMC p R s m args c A v RX12 cX12_wordToken 4 5 111) (hret : ∀ (H1 : Heap) (locs1 : List Loc) (ls1 : Array Slot) (pc : Nat), mMW s A v a res.2.1 res.2.2 H1 locs1 → narrow .int (.int res.1) = .int res.1 → decode cX12_wordToken pc = .ok (.ireturn, 1) → W p l e R s m args below meth c H1 locs1 0 0 Q (F0 m pc ls1 [.int res.1])) (ag_2 : Int32 → Int32 → PF → PG → PR) (hag_2 : ∀ (x1 : Int32) (x2 : Int32) (F : PF) (G : PG), ag_2 x1 x2 F G = some res → ∀ (H : Heap) (locs : List Loc) (ls : Array Slot), mMW s A v a F G H locs → lv_has ls 4 [(0, .ref (a 212)), (1, .int x1), (2, .int x2)] → W p l e R s m args below meth c H locs 0 0 Q (F0 m 2 ls [])) (x1 : Int32) (x2 : Int32) (z0 : Int32) (F : PF) (G : PG) (hm : mb_wordToken_10 fu ag_2 x1 x2 z0 F G = some res) {H : Heap} {locs : List Loc} (hw : mMW s A v a F G H locs) {ls : Array Slot} (hl : lv_has ls 4 [(0, .ref (a 212)), (1, .int x1), (2, .int x2)]) : W p l e R s m args below meth c H locs 0 0 Q (F0 m 10 ls [.int z0]) := by
  have hx := C.1
  have hb := C.2.1
  unfold mb_wordToken_10 at hm
  refine lv_if_eq (tgt := 19) hx hb dX12_wordToken_10 (by decide) (fun c_1 => ?_) (fun c_1 => ?_)
  · have hm := (if_pos c_1).symm.trans hm
    exact mw_wordToken_19 fu C hret x1 x2 F G hm hw (lv_sub hl [0, 1, 2] rfl)
  · have hm := (if_neg c_1).symm.trans hm
    exact mw_wordToken_13 fu C hret ag_2 hag_2 x1 x2 F G hm hw (lv_sub hl [0, 1, 2] rfl)
theorem mw_wordToken_7 (fu : Nat) {res : Int32 × PF × PG} (C : mMC p R s m args c A v RX12 cX12_wordToken 4 5 111) (hret : ∀ (H1 : Heap) (locs1 : List Loc) (ls1 : Array Slot) (pc : Nat), mMW s A v a res.2.1 res.2.2 H1 locs1 → narrow .int (.int res.1) = .int res.1 → decode cX12_wordToken pc = .ok (.ireturn, 1) → W p l e R s m args below meth c H1 locs1 0 0 Q (F0 m pc ls1 [.int res.1])) (ag_2 : Int32 → Int32 → PF → PG → PR) (hag_2 : ∀ (x1 : Int32) (x2 : Int32) (F : PF) (G : PG), ag_2 x1 x2 F G = some res → ∀ (H : Heap) (locs : List Loc) (ls : Array Slot), mMW s A v a F G H locs → lv_has ls 4 [(0, .ref (a 212)), (1, .int x1), (2, .int x2)] → W p l e R s m args below meth c H locs 0 0 Q (F0 m 2 ls [])) (x1 : Int32) (x2 : Int32) (z0 : Int32) (F : PF) (G : PG) (hm : mb_wordToken_7 fu ag_2 x1 x2 z0 F G = some res) {H : Heap} {locs : List Loc} (hw : mMW s A v a F G H locs) {ls : Array Slot} (hl : lv_has ls 4 [(0, .ref (a 212)), (1, .int x1), (2, .int x2)]) : W p l e R s m args below meth c H locs 0 0 Q (F0 m 7 ls [.int z0]) := by
  have hx := C.1
  have hb := C.2.1
  unfold mb_wordToken_7 at hm
  obtain ⟨⟨r1, F1, G1⟩, hc, hm⟩ := bind_elim hm
  refine mcallIS (n := 1) (As := [.int z0]) (rest := []) C hw (mk_isInner l v a _ fu z0 F G r1 F1 G1 hc) mm_53 mm_54 mm_27 mm_55 (by decide +kernel) rfl (by omega) (by omega) hl.1 rfl (Nat.le_of_ble_eq_true rfl) dX12_wordToken_7 (fun H locs hw => ?_)
  exact mw_wordToken_10 fu C hret ag_2 hag_2 x1 x2 r1 F1 G1 hm hw (lv_sub hl [0, 1, 2] rfl)
theorem mw_wordToken_2 (fu : Nat) {res : Int32 × PF × PG} (C : mMC p R s m args c A v RX12 cX12_wordToken 4 5 111) (hret : ∀ (H1 : Heap) (locs1 : List Loc) (ls1 : Array Slot) (pc : Nat), mMW s A v a res.2.1 res.2.2 H1 locs1 → narrow .int (.int res.1) = .int res.1 → decode cX12_wordToken pc = .ok (.ireturn, 1) → W p l e R s m args below meth c H1 locs1 0 0 Q (F0 m pc ls1 [.int res.1])) (ag_2 : Int32 → Int32 → PF → PG → PR) (hag_2 : ∀ (x1 : Int32) (x2 : Int32) (F : PF) (G : PG), ag_2 x1 x2 F G = some res → ∀ (H : Heap) (locs : List Loc) (ls : Array Slot), mMW s A v a F G H locs → lv_has ls 4 [(0, .ref (a 212)), (1, .int x1), (2, .int x2)] → W p l e R s m args below meth c H locs 0 0 Q (F0 m 2 ls [])) (x1 : Int32) (x2 : Int32) (F : PF) (G : PG) (hm : mb_wordToken_2 fu ag_2 x1 x2 F G = some res) {H : Heap} {locs : List Loc} (hw : mMW s A v a F G H locs) {ls : Array Slot} (hl : lv_has ls 4 [(0, .ref (a 212)), (1, .int x1), (2, .int x2)]) : W p l e R s m args below meth c H locs 0 0 Q (F0 m 2 ls []) := by
  have hx := C.1
  have hb := C.2.1
  unfold mb_wordToken_2 at hm
  refine lv_aload_n hx hb dX12_wordToken_2 rfl (lv_at hl 0 rfl) ?_
  refine lv_iload_n hx hb dX12_wordToken_3 rfl (lv_at hl 2 rfl) ?_
  obtain ⟨⟨r1, F1, G1⟩, hc, hm⟩ := bind_elim hm
  refine mcallI (n := 1) (As := [.int x2]) (rest := []) C hw (mk_at l v a _ fu x2 F G r1 F1 G1 hc) (mrecv_X12 C hw) mm_38 mm_39 mm_40 mm_27 mm_41 (by decide +kernel) rfl (by omega) (by omega) hl.1 rfl (Nat.le_of_ble_eq_true rfl) dX12_wordToken_4 (fun H locs hw => ?_)
  exact mw_wordToken_7 fu C hret ag_2 hag_2 x1 x2 r1 F1 G1 hm hw (lv_sub hl [0, 1, 2] rfl)
theorem mwl_wordToken_2 (fu : Nat) {res : Int32 × PF × PG} (C : mMC p R s m args c A v RX12 cX12_wordToken 4 5 111) (hret : ∀ (H1 : Heap) (locs1 : List Loc) (ls1 : Array Slot) (pc : Nat), mMW s A v a res.2.1 res.2.2 H1 locs1 → narrow .int (.int res.1) = .int res.1 → decode cX12_wordToken pc = .ok (.ireturn, 1) → W p l e R s m args below meth c H1 locs1 0 0 Q (F0 m pc ls1 [.int res.1])) : ∀ (n : Nat) (x1 : Int32) (x2 : Int32) (F : PF) (G : PG) (hm : ml_wordToken_2 fu n x1 x2 F G = some res) {H : Heap} {locs : List Loc} (hw : mMW s A v a F G H locs) {ls : Array Slot} (hl : lv_has ls 4 [(0, .ref (a 212)), (1, .int x1), (2, .int x2)]), W p l e R s m args below meth c H locs 0 0 Q (F0 m 2 ls []) := by
  intro n
  induction n with
  | zero =>
    intro x1 x2 F G hm
    exact no_elim (show (none : PR) = some res from hm)
  | succ n ih =>
    intro x1 x2 F G hm H locs hw ls hl
    exact mw_wordToken_2 fu C hret (ml_wordToken_2 fu n) (fun x1 x2 F G hm H locs ls hw hl => ih x1 x2 F G hm hw hl) x1 x2 F G hm hw hl
theorem mw_wordToken_0 (fu : Nat) {res : Int32 × PF × PG} (C : mMC p R s m args c A v RX12 cX12_wordToken 4 5 111) (hret : ∀ (H1 : Heap) (locs1 : List Loc) (ls1 : Array Slot) (pc : Nat), mMW s A v a res.2.1 res.2.2 H1 locs1 → narrow .int (.int res.1) = .int res.1 → decode cX12_wordToken pc = .ok (.ireturn, 1) → W p l e R s m args below meth c H1 locs1 0 0 Q (F0 m pc ls1 [.int res.1])) (x1 : Int32) (F : PF) (G : PG) (hm : mb_wordToken_0 fu x1 F G = some res) {H : Heap} {locs : List Loc} (hw : mMW s A v a F G H locs) {ls : Array Slot} (hl : lv_has ls 4 [(0, .ref (a 212)), (1, .int x1)]) : W p l e R s m args below meth c H locs 0 0 Q (F0 m 0 ls []) := by
  have hx := C.1
  have hb := C.2.1
  unfold mb_wordToken_0 at hm
  refine lv_iload_n hx hb dX12_wordToken_0 rfl (lv_at hl 1 rfl) ?_
  refine lv_istore_n (lv' := [(2, .int x1), (0, .ref (a 212)), (1, .int x1)]) hx hb dX12_wordToken_1 rfl hl (by decide) rfl (fun ls hl => ?_)
  exact mwl_wordToken_2 fu C hret fu x1 x1 F G hm hw (lv_sub hl [1, 2, 0] rfl)
theorem mk_wordToken (l : Launch) (v : EV) (a : Nat → Nat) (sz : Nat) (fu : Nat) (x1 : Int32) (F : PF) (G : PG) (r : Int32) (F1 : PF) (G1 : PG) (hm : mf_wordToken fu x1 F G = some (r, F1, G1)) : mMI l yX12_wordToken cX12_wordToken 4 (some .int) 5 111 v a sz [.ref (a 212), .int x1] F G r F1 G1 := mMI.of (ty := .int) (by decide) rfl (Nat.le_of_ble_eq_true rfl) (fun p e R s m args below meth c Q A H locs ls C hw hl hret => mw_wordToken_0 fu (res := (r, F1, G1)) C hret x1 F G hm hw hl)
def mb_tokenAt_89 (fu : Nat) (F : PF) (G : PG) : PR := some ((-1), F, G)
def mb_tokenAt_79 (fu : Nat) (x1 : Int32) (x3 : Int32) (F : PF) (G : PG) : PR := some ((x1 + x3), F, G)
def mb_tokenAt_71 (fu : Nat) (x1 : Int32) (x3 : Int32) (x4 : Int32) (F : PF) (G : PG) : PR := (mf_token fu 4 x4 x1 F G).bind (fun q => mb_tokenAt_79 fu x1 x3 q.2.1 q.2.2)
def mb_tokenAt_83 (fu : Nat) (ag_34 : Int32 → Int32 → PF → PG → PR) (x1 : Int32) (x3 : Int32) (F : PF) (G : PG) : PR := ag_34 x1 (x3 + (-1)) F G
def mb_tokenAt_68 (fu : Nat) (ag_34 : Int32 → Int32 → PF → PG → PR) (x1 : Int32) (x3 : Int32) (F : PF) (G : PG) : PR := mb_tokenAt_83 fu ag_34 x1 x3 F G
def mb_tokenAt_60 (fu : Nat) (ag_34 : Int32 → Int32 → PF → PG → PR) (x1 : Int32) (x3 : Int32) (z0 : Int32) (F : PF) (G : PG) : PR := if z0 = (-1 : Int32) then mb_tokenAt_68 fu ag_34 x1 x3 F G else mb_tokenAt_71 fu x1 x3 z0 F G
def mb_tokenAt_59 (fu : Nat) (ag_34 : Int32 → Int32 → PF → PG → PR) (x1 : Int32) (x3 : Int32) (F : PF) (G : PG) : PR := mb_tokenAt_60 fu ag_34 x1 x3 (-1) F G
def mb_tokenAt_56 (fu : Nat) (ag_34 : Int32 → Int32 → PF → PG → PR) (x1 : Int32) (x3 : Int32) (z0 : Int32) (F : PF) (G : PG) : PR := mb_tokenAt_60 fu ag_34 x1 x3 z0 F G
def mb_tokenAt_48 (fu : Nat) (ag_34 : Int32 → Int32 → PF → PG → PR) (x1 : Int32) (x3 : Int32) (F : PF) (G : PG) : PR := (mf_placeIn fu 0 x1 x3 F G).bind (fun q => mb_tokenAt_56 fu ag_34 x1 x3 q.1 q.2.1 q.2.2)
def mb_tokenAt_38 (fu : Nat) (ag_34 : Int32 → Int32 → PF → PG → PR) (x1 : Int32) (x3 : Int32) (F : PF) (G : PG) : PR := if (F 3) < (x1 + x3) then mb_tokenAt_59 fu ag_34 x1 x3 F G else mb_tokenAt_48 fu ag_34 x1 x3 F G
def mb_tokenAt_34 (fu : Nat) (ag_34 : Int32 → Int32 → PF → PG → PR) (x1 : Int32) (x3 : Int32) (F : PF) (G : PG) : PR := if x3 ≤ (0 : Int32) then mb_tokenAt_89 fu F G else mb_tokenAt_38 fu ag_34 x1 x3 F G
def ml_tokenAt_34 (fu : Nat) : Nat → Int32 → Int32 → PF → PG → PR
  | 0 => fun _ _ _ _ => none
  | n + 1 => fun x1 x3 F G => mb_tokenAt_34 fu (ml_tokenAt_34 fu n) x1 x3 F G
def mb_tokenAt_32 (fu : Nat) (x1 : Int32) (F : PF) (G : PG) : PR := ml_tokenAt_34 fu fu x1 4 F G
def mb_tokenAt_31 (fu : Nat) (z0 : Int32) (F : PF) (G : PG) : PR := some (z0, F, G)
def mb_tokenAt_26 (fu : Nat) (x1 : Int32) (F : PF) (G : PG) : PR := (mf_numberToken fu x1 F G).bind (fun q => mb_tokenAt_31 fu q.1 q.2.1 q.2.2)
def mb_tokenAt_23 (fu : Nat) (x1 : Int32) (z0 : Int32) (F : PF) (G : PG) : PR := if z0 = (0 : Int32) then mb_tokenAt_32 fu x1 F G else mb_tokenAt_26 fu x1 F G
def mb_tokenAt_19 (fu : Nat) (x1 : Int32) (x2 : Int32) (F : PF) (G : PG) : PR := (mf_isDigit fu x2 F G).bind (fun q => mb_tokenAt_23 fu x1 q.1 q.2.1 q.2.2)
def mb_tokenAt_18 (fu : Nat) (z0 : Int32) (F : PF) (G : PG) : PR := some (z0, F, G)
def mb_tokenAt_13 (fu : Nat) (x1 : Int32) (F : PF) (G : PG) : PR := (mf_wordToken fu x1 F G).bind (fun q => mb_tokenAt_18 fu q.1 q.2.1 q.2.2)
def mb_tokenAt_10 (fu : Nat) (x1 : Int32) (x2 : Int32) (z0 : Int32) (F : PF) (G : PG) : PR := if z0 = (0 : Int32) then mb_tokenAt_19 fu x1 x2 F G else mb_tokenAt_13 fu x1 F G
def mb_tokenAt_5 (fu : Nat) (x1 : Int32) (z0 : Int32) (F : PF) (G : PG) : PR := (mf_isLetter fu z0 F G).bind (fun q => mb_tokenAt_10 fu x1 z0 q.1 q.2.1 q.2.2)
def mb_tokenAt_0 (fu : Nat) (x1 : Int32) (F : PF) (G : PG) : PR := (mf_at fu x1 F G).bind (fun q => mb_tokenAt_5 fu x1 q.1 q.2.1 q.2.2)
def mf_tokenAt (fu : Nat) (x1 : Int32) (F : PF) (G : PG) : PR := mb_tokenAt_0 fu x1 F G
theorem mw_tokenAt_89 (fu : Nat) {res : Int32 × PF × PG} (C : mMC p R s m args c A v RX12 cX12_tokenAt 5 6 134) (hret : ∀ (H1 : Heap) (locs1 : List Loc) (ls1 : Array Slot) (pc : Nat), mMW s A v a res.2.1 res.2.2 H1 locs1 → narrow .int (.int res.1) = .int res.1 → decode cX12_tokenAt pc = .ok (.ireturn, 1) → W p l e R s m args below meth c H1 locs1 0 0 Q (F0 m pc ls1 [.int res.1])) (F : PF) (G : PG) (hm : mb_tokenAt_89 fu F G = some res) {H : Heap} {locs : List Loc} (hw : mMW s A v a F G H locs) {ls : Array Slot} (hl : lv_has ls 5 []) : W p l e R s m args below meth c H locs 0 0 Q (F0 m 89 ls []) := by
  have hx := C.1
  have hb := C.2.1
  unfold mb_tokenAt_89 at hm
  refine lv_iconst (v := (-1)) hx hb dX12_tokenAt_89 (by decide) ?_
  obtain rfl := Option.some.inj hm
  exact hret _ _ _ _ hw rfl dX12_tokenAt_90
theorem mw_tokenAt_79 (fu : Nat) {res : Int32 × PF × PG} (C : mMC p R s m args c A v RX12 cX12_tokenAt 5 6 134) (hret : ∀ (H1 : Heap) (locs1 : List Loc) (ls1 : Array Slot) (pc : Nat), mMW s A v a res.2.1 res.2.2 H1 locs1 → narrow .int (.int res.1) = .int res.1 → decode cX12_tokenAt pc = .ok (.ireturn, 1) → W p l e R s m args below meth c H1 locs1 0 0 Q (F0 m pc ls1 [.int res.1])) (x1 : Int32) (x3 : Int32) (F : PF) (G : PG) (hm : mb_tokenAt_79 fu x1 x3 F G = some res) {H : Heap} {locs : List Loc} (hw : mMW s A v a F G H locs) {ls : Array Slot} (hl : lv_has ls 5 [(1, .int x1), (3, .int x3)]) : W p l e R s m args below meth c H locs 0 0 Q (F0 m 79 ls []) := by
  have hx := C.1
  have hb := C.2.1
  unfold mb_tokenAt_79 at hm
  refine lv_iload_n hx hb dX12_tokenAt_79 rfl (lv_at hl 0 rfl) ?_
  refine lv_iload_n hx hb dX12_tokenAt_80 rfl (lv_at hl 1 rfl) ?_
  refine lv_iadd hx hb dX12_tokenAt_81 ?_
  obtain rfl := Option.some.inj hm
  exact hret _ _ _ _ hw rfl dX12_tokenAt_82
theorem mw_tokenAt_71 (fu : Nat) {res : Int32 × PF × PG} (C : mMC p R s m args c A v RX12 cX12_tokenAt 5 6 134) (hret : ∀ (H1 : Heap) (locs1 : List Loc) (ls1 : Array Slot) (pc : Nat), mMW s A v a res.2.1 res.2.2 H1 locs1 → narrow .int (.int res.1) = .int res.1 → decode cX12_tokenAt pc = .ok (.ireturn, 1) → W p l e R s m args below meth c H1 locs1 0 0 Q (F0 m pc ls1 [.int res.1])) (x1 : Int32) (x3 : Int32) (x4 : Int32) (F : PF) (G : PG) (hm : mb_tokenAt_71 fu x1 x3 x4 F G = some res) {H : Heap} {locs : List Loc} (hw : mMW s A v a F G H locs) {ls : Array Slot} (hl : lv_has ls 5 [(0, .ref (a 212)), (1, .int x1), (3, .int x3), (4, .int x4)]) : W p l e R s m args below meth c H locs 0 0 Q (F0 m 71 ls []) := by
  have hx := C.1
  have hb := C.2.1
  unfold mb_tokenAt_71 at hm
  refine lv_aload_n hx hb dX12_tokenAt_71 rfl (lv_at hl 0 rfl) ?_
  refine lv_iconst (v := 4) hx hb dX12_tokenAt_72 (by decide) ?_
  refine lv_iload hx hb dX12_tokenAt_73 (lv_at hl 3 rfl) ?_
  refine lv_iload_n hx hb dX12_tokenAt_75 rfl (lv_at hl 1 rfl) ?_
  obtain ⟨⟨r1, F1, G1⟩, hc, hm⟩ := bind_elim hm
  refine mcallV (n := 3) (As := [.int 4, .int x4, .int x1]) (rest := []) C hw (mk_token l v a _ fu 4 x4 x1 F G r1 F1 G1 hc) (mrecv_X12 C hw) mm_118 mm_119 mm_120 mm_27 mm_121 (by decide +kernel) rfl (by omega) (by omega) hl.1 rfl (Nat.le_of_ble_eq_true rfl) dX12_tokenAt_76 (fun H locs hw => ?_)
  exact mw_tokenAt_79 fu C hret x1 x3 F1 G1 hm hw (lv_sub hl [1, 2] rfl)
theorem mw_tokenAt_83 (fu : Nat) {res : Int32 × PF × PG} (C : mMC p R s m args c A v RX12 cX12_tokenAt 5 6 134) (hret : ∀ (H1 : Heap) (locs1 : List Loc) (ls1 : Array Slot) (pc : Nat), mMW s A v a res.2.1 res.2.2 H1 locs1 → narrow .int (.int res.1) = .int res.1 → decode cX12_tokenAt pc = .ok (.ireturn, 1) → W p l e R s m args below meth c H1 locs1 0 0 Q (F0 m pc ls1 [.int res.1])) (ag_34 : Int32 → Int32 → PF → PG → PR) (hag_34 : ∀ (x1 : Int32) (x3 : Int32) (F : PF) (G : PG), ag_34 x1 x3 F G = some res → ∀ (H : Heap) (locs : List Loc) (ls : Array Slot), mMW s A v a F G H locs → lv_has ls 5 [(0, .ref (a 212)), (1, .int x1), (3, .int x3)] → W p l e R s m args below meth c H locs 0 0 Q (F0 m 34 ls [])) (x1 : Int32) (x3 : Int32) (F : PF) (G : PG) (hm : mb_tokenAt_83 fu ag_34 x1 x3 F G = some res) {H : Heap} {locs : List Loc} (hw : mMW s A v a F G H locs) {ls : Array Slot} (hl : lv_has ls 5 [(0, .ref (a 212)), (1, .int x1), (3, .int x3)]) : W p l e R s m args below meth c H locs 0 0 Q (F0 m 83 ls []) := by
  have hx := C.1
  have hb := C.2.1
  unfold mb_tokenAt_83 at hm
  refine lv_iinc (v := (x3 + (-1))) (lv' := [(3, .int (x3 + (-1))), (0, .ref (a 212)), (1, .int x1)]) hx hb dX12_tokenAt_83 hl (k := 2) rfl (by rfl) (by decide) rfl (fun ls hl => ?_)
  refine lv_goto (tgt := 34) hx hb dX12_tokenAt_86 (by decide) ?_
  exact hag_34 x1 (x3 + (-1)) F G hm _ _ _ hw (lv_sub hl [1, 2, 0] rfl)
theorem mw_tokenAt_68 (fu : Nat) {res : Int32 × PF × PG} (C : mMC p R s m args c A v RX12 cX12_tokenAt 5 6 134) (hret : ∀ (H1 : Heap) (locs1 : List Loc) (ls1 : Array Slot) (pc : Nat), mMW s A v a res.2.1 res.2.2 H1 locs1 → narrow .int (.int res.1) = .int res.1 → decode cX12_tokenAt pc = .ok (.ireturn, 1) → W p l e R s m args below meth c H1 locs1 0 0 Q (F0 m pc ls1 [.int res.1])) (ag_34 : Int32 → Int32 → PF → PG → PR) (hag_34 : ∀ (x1 : Int32) (x3 : Int32) (F : PF) (G : PG), ag_34 x1 x3 F G = some res → ∀ (H : Heap) (locs : List Loc) (ls : Array Slot), mMW s A v a F G H locs → lv_has ls 5 [(0, .ref (a 212)), (1, .int x1), (3, .int x3)] → W p l e R s m args below meth c H locs 0 0 Q (F0 m 34 ls [])) (x1 : Int32) (x3 : Int32) (F : PF) (G : PG) (hm : mb_tokenAt_68 fu ag_34 x1 x3 F G = some res) {H : Heap} {locs : List Loc} (hw : mMW s A v a F G H locs) {ls : Array Slot} (hl : lv_has ls 5 [(0, .ref (a 212)), (1, .int x1), (3, .int x3)]) : W p l e R s m args below meth c H locs 0 0 Q (F0 m 68 ls []) := by
  have hx := C.1
  have hb := C.2.1
  unfold mb_tokenAt_68 at hm
  refine lv_goto (tgt := 83) hx hb dX12_tokenAt_68 (by decide) ?_
  exact mw_tokenAt_83 fu C hret ag_34 hag_34 x1 x3 F G hm hw (lv_sub hl [0, 1, 2] rfl)
theorem mw_tokenAt_60 (fu : Nat) {res : Int32 × PF × PG} (C : mMC p R s m args c A v RX12 cX12_tokenAt 5 6 134) (hret : ∀ (H1 : Heap) (locs1 : List Loc) (ls1 : Array Slot) (pc : Nat), mMW s A v a res.2.1 res.2.2 H1 locs1 → narrow .int (.int res.1) = .int res.1 → decode cX12_tokenAt pc = .ok (.ireturn, 1) → W p l e R s m args below meth c H1 locs1 0 0 Q (F0 m pc ls1 [.int res.1])) (ag_34 : Int32 → Int32 → PF → PG → PR) (hag_34 : ∀ (x1 : Int32) (x3 : Int32) (F : PF) (G : PG), ag_34 x1 x3 F G = some res → ∀ (H : Heap) (locs : List Loc) (ls : Array Slot), mMW s A v a F G H locs → lv_has ls 5 [(0, .ref (a 212)), (1, .int x1), (3, .int x3)] → W p l e R s m args below meth c H locs 0 0 Q (F0 m 34 ls [])) (x1 : Int32) (x3 : Int32) (z0 : Int32) (F : PF) (G : PG) (hm : mb_tokenAt_60 fu ag_34 x1 x3 z0 F G = some res) {H : Heap} {locs : List Loc} (hw : mMW s A v a F G H locs) {ls : Array Slot} (hl : lv_has ls 5 [(0, .ref (a 212)), (1, .int x1), (3, .int x3)]) : W p l e R s m args below meth c H locs 0 0 Q (F0 m 60 ls [.int z0]) := by
  have hx := C.1
  have hb := C.2.1
  unfold mb_tokenAt_60 at hm
  refine lv_istore (lv' := [(4, .int z0), (0, .ref (a 212)), (1, .int x1), (3, .int x3)]) hx hb dX12_tokenAt_60 hl (by decide) rfl (fun ls hl => ?_)
  refine lv_iload hx hb dX12_tokenAt_62 (lv_at hl 0 rfl) ?_
  refine lv_iconst (v := (-1)) hx hb dX12_tokenAt_64 (by decide) ?_
  refine lv_icmp_ne (tgt := 71) hx hb dX12_tokenAt_65 (by decide) (fun c_1 => ?_) (fun c_1 => ?_)
  · have hm := (if_neg c_1).symm.trans hm
    exact mw_tokenAt_71 fu C hret x1 x3 z0 F G hm hw (lv_sub hl [1, 2, 3, 0] rfl)
  · have hm := (if_pos c_1).symm.trans hm
    exact mw_tokenAt_68 fu C hret ag_34 hag_34 x1 x3 F G hm hw (lv_sub hl [1, 2, 3] rfl)
theorem mw_tokenAt_59 (fu : Nat) {res : Int32 × PF × PG} (C : mMC p R s m args c A v RX12 cX12_tokenAt 5 6 134) (hret : ∀ (H1 : Heap) (locs1 : List Loc) (ls1 : Array Slot) (pc : Nat), mMW s A v a res.2.1 res.2.2 H1 locs1 → narrow .int (.int res.1) = .int res.1 → decode cX12_tokenAt pc = .ok (.ireturn, 1) → W p l e R s m args below meth c H1 locs1 0 0 Q (F0 m pc ls1 [.int res.1])) (ag_34 : Int32 → Int32 → PF → PG → PR) (hag_34 : ∀ (x1 : Int32) (x3 : Int32) (F : PF) (G : PG), ag_34 x1 x3 F G = some res → ∀ (H : Heap) (locs : List Loc) (ls : Array Slot), mMW s A v a F G H locs → lv_has ls 5 [(0, .ref (a 212)), (1, .int x1), (3, .int x3)] → W p l e R s m args below meth c H locs 0 0 Q (F0 m 34 ls [])) (x1 : Int32) (x3 : Int32) (F : PF) (G : PG) (hm : mb_tokenAt_59 fu ag_34 x1 x3 F G = some res) {H : Heap} {locs : List Loc} (hw : mMW s A v a F G H locs) {ls : Array Slot} (hl : lv_has ls 5 [(0, .ref (a 212)), (1, .int x1), (3, .int x3)]) : W p l e R s m args below meth c H locs 0 0 Q (F0 m 59 ls []) := by
  have hx := C.1
  have hb := C.2.1
  unfold mb_tokenAt_59 at hm
  refine lv_iconst (v := (-1)) hx hb dX12_tokenAt_59 (by decide) ?_
  exact mw_tokenAt_60 fu C hret ag_34 hag_34 x1 x3 (-1) F G hm hw (lv_sub hl [0, 1, 2] rfl)
theorem mw_tokenAt_56 (fu : Nat) {res : Int32 × PF × PG} (C : mMC p R s m args c A v RX12 cX12_tokenAt 5 6 134) (hret : ∀ (H1 : Heap) (locs1 : List Loc) (ls1 : Array Slot) (pc : Nat), mMW s A v a res.2.1 res.2.2 H1 locs1 → narrow .int (.int res.1) = .int res.1 → decode cX12_tokenAt pc = .ok (.ireturn, 1) → W p l e R s m args below meth c H1 locs1 0 0 Q (F0 m pc ls1 [.int res.1])) (ag_34 : Int32 → Int32 → PF → PG → PR) (hag_34 : ∀ (x1 : Int32) (x3 : Int32) (F : PF) (G : PG), ag_34 x1 x3 F G = some res → ∀ (H : Heap) (locs : List Loc) (ls : Array Slot), mMW s A v a F G H locs → lv_has ls 5 [(0, .ref (a 212)), (1, .int x1), (3, .int x3)] → W p l e R s m args below meth c H locs 0 0 Q (F0 m 34 ls [])) (x1 : Int32) (x3 : Int32) (z0 : Int32) (F : PF) (G : PG) (hm : mb_tokenAt_56 fu ag_34 x1 x3 z0 F G = some res) {H : Heap} {locs : List Loc} (hw : mMW s A v a F G H locs) {ls : Array Slot} (hl : lv_has ls 5 [(0, .ref (a 212)), (1, .int x1), (3, .int x3)]) : W p l e R s m args below meth c H locs 0 0 Q (F0 m 56 ls [.int z0]) := by
  have hx := C.1
  have hb := C.2.1
  unfold mb_tokenAt_56 at hm
  refine lv_goto (tgt := 60) hx hb dX12_tokenAt_56 (by decide) ?_
  exact mw_tokenAt_60 fu C hret ag_34 hag_34 x1 x3 z0 F G hm hw (lv_sub hl [0, 1, 2] rfl)
theorem mw_tokenAt_48 (fu : Nat) {res : Int32 × PF × PG} (C : mMC p R s m args c A v RX12 cX12_tokenAt 5 6 134) (hret : ∀ (H1 : Heap) (locs1 : List Loc) (ls1 : Array Slot) (pc : Nat), mMW s A v a res.2.1 res.2.2 H1 locs1 → narrow .int (.int res.1) = .int res.1 → decode cX12_tokenAt pc = .ok (.ireturn, 1) → W p l e R s m args below meth c H1 locs1 0 0 Q (F0 m pc ls1 [.int res.1])) (ag_34 : Int32 → Int32 → PF → PG → PR) (hag_34 : ∀ (x1 : Int32) (x3 : Int32) (F : PF) (G : PG), ag_34 x1 x3 F G = some res → ∀ (H : Heap) (locs : List Loc) (ls : Array Slot), mMW s A v a F G H locs → lv_has ls 5 [(0, .ref (a 212)), (1, .int x1), (3, .int x3)] → W p l e R s m args below meth c H locs 0 0 Q (F0 m 34 ls [])) (x1 : Int32) (x3 : Int32) (F : PF) (G : PG) (hm : mb_tokenAt_48 fu ag_34 x1 x3 F G = some res) {H : Heap} {locs : List Loc} (hw : mMW s A v a F G H locs) {ls : Array Slot} (hl : lv_has ls 5 [(0, .ref (a 212)), (1, .int x1), (3, .int x3)]) : W p l e R s m args below meth c H locs 0 0 Q (F0 m 48 ls []) := by
  have hx := C.1
  have hb := C.2.1
  unfold mb_tokenAt_48 at hm
  refine lv_aload_n hx hb dX12_tokenAt_48 rfl (lv_at hl 0 rfl) ?_
  refine va_ldcS hx hb C.2.2.2.1 C.2.2.2.2.2.2.2.2.2.2.2.2.1 dX12_tokenAt_49 ?_
  refine lv_iload_n hx hb dX12_tokenAt_51 rfl (lv_at hl 1 rfl) ?_
  refine lv_iload_n hx hb dX12_tokenAt_52 rfl (lv_at hl 2 rfl) ?_
  obtain ⟨⟨r1, F1, G1⟩, hc, hm⟩ := bind_elim hm
  refine mcallI (n := 3) (As := [.ref (eK v 0), .int x1, .int x3]) (rest := []) C hw (mk_placeIn l v a _ fu 0 x1 x3 F G r1 F1 G1 hc) (mrecv_X12 C hw) mm_59 mm_60 mm_61 mm_27 mm_62 (by decide +kernel) rfl (by omega) (by omega) hl.1 rfl (Nat.le_of_ble_eq_true rfl) dX12_tokenAt_53 (fun H locs hw => ?_)
  exact mw_tokenAt_56 fu C hret ag_34 hag_34 x1 x3 r1 F1 G1 hm hw (lv_sub hl [0, 1, 2] rfl)
theorem mw_tokenAt_38 (fu : Nat) {res : Int32 × PF × PG} (C : mMC p R s m args c A v RX12 cX12_tokenAt 5 6 134) (hret : ∀ (H1 : Heap) (locs1 : List Loc) (ls1 : Array Slot) (pc : Nat), mMW s A v a res.2.1 res.2.2 H1 locs1 → narrow .int (.int res.1) = .int res.1 → decode cX12_tokenAt pc = .ok (.ireturn, 1) → W p l e R s m args below meth c H1 locs1 0 0 Q (F0 m pc ls1 [.int res.1])) (ag_34 : Int32 → Int32 → PF → PG → PR) (hag_34 : ∀ (x1 : Int32) (x3 : Int32) (F : PF) (G : PG), ag_34 x1 x3 F G = some res → ∀ (H : Heap) (locs : List Loc) (ls : Array Slot), mMW s A v a F G H locs → lv_has ls 5 [(0, .ref (a 212)), (1, .int x1), (3, .int x3)] → W p l e R s m args below meth c H locs 0 0 Q (F0 m 34 ls [])) (x1 : Int32) (x3 : Int32) (F : PF) (G : PG) (hm : mb_tokenAt_38 fu ag_34 x1 x3 F G = some res) {H : Heap} {locs : List Loc} (hw : mMW s A v a F G H locs) {ls : Array Slot} (hl : lv_has ls 5 [(0, .ref (a 212)), (1, .int x1), (3, .int x3)]) : W p l e R s m args below meth c H locs 0 0 Q (F0 m 38 ls []) := by
  have hx := C.1
  have hb := C.2.1
  unfold mb_tokenAt_38 at hm
  refine lv_iload_n hx hb dX12_tokenAt_38 rfl (lv_at hl 1 rfl) ?_
  refine lv_iload_n hx hb dX12_tokenAt_39 rfl (lv_at hl 2 rfl) ?_
  refine lv_iadd hx hb dX12_tokenAt_40 ?_
  refine lv_aload_n hx hb dX12_tokenAt_41 rfl (lv_at hl 0 rfl) ?_
  refine mg_X12_157 C hw dX12_tokenAt_42 ?_
  refine lv_icmp_gt (tgt := 59) hx hb dX12_tokenAt_45 (by decide) (fun c_1 => ?_) (fun c_1 => ?_)
  · have hm := (if_pos c_1).symm.trans hm
    exact mw_tokenAt_59 fu C hret ag_34 hag_34 x1 x3 F G hm hw (lv_sub hl [0, 1, 2] rfl)
  · have hm := (if_neg c_1).symm.trans hm
    exact mw_tokenAt_48 fu C hret ag_34 hag_34 x1 x3 F G hm hw (lv_sub hl [0, 1, 2] rfl)
theorem mw_tokenAt_34 (fu : Nat) {res : Int32 × PF × PG} (C : mMC p R s m args c A v RX12 cX12_tokenAt 5 6 134) (hret : ∀ (H1 : Heap) (locs1 : List Loc) (ls1 : Array Slot) (pc : Nat), mMW s A v a res.2.1 res.2.2 H1 locs1 → narrow .int (.int res.1) = .int res.1 → decode cX12_tokenAt pc = .ok (.ireturn, 1) → W p l e R s m args below meth c H1 locs1 0 0 Q (F0 m pc ls1 [.int res.1])) (ag_34 : Int32 → Int32 → PF → PG → PR) (hag_34 : ∀ (x1 : Int32) (x3 : Int32) (F : PF) (G : PG), ag_34 x1 x3 F G = some res → ∀ (H : Heap) (locs : List Loc) (ls : Array Slot), mMW s A v a F G H locs → lv_has ls 5 [(0, .ref (a 212)), (1, .int x1), (3, .int x3)] → W p l e R s m args below meth c H locs 0 0 Q (F0 m 34 ls [])) (x1 : Int32) (x3 : Int32) (F : PF) (G : PG) (hm : mb_tokenAt_34 fu ag_34 x1 x3 F G = some res) {H : Heap} {locs : List Loc} (hw : mMW s A v a F G H locs) {ls : Array Slot} (hl : lv_has ls 5 [(0, .ref (a 212)), (1, .int x1), (3, .int x3)]) : W p l e R s m args below meth c H locs 0 0 Q (F0 m 34 ls []) := by
  have hx := C.1
  have hb := C.2.1
  unfold mb_tokenAt_34 at hm
  refine lv_iload_n hx hb dX12_tokenAt_34 rfl (lv_at hl 2 rfl) ?_
  refine lv_if_le (tgt := 89) hx hb dX12_tokenAt_35 (by decide) (fun c_1 => ?_) (fun c_1 => ?_)
  · have hm := (if_pos c_1).symm.trans hm
    exact mw_tokenAt_89 fu C hret F G hm hw (lv_sub hl [] rfl)
  · have hm := (if_neg c_1).symm.trans hm
    exact mw_tokenAt_38 fu C hret ag_34 hag_34 x1 x3 F G hm hw (lv_sub hl [0, 1, 2] rfl)
theorem mwl_tokenAt_34 (fu : Nat) {res : Int32 × PF × PG} (C : mMC p R s m args c A v RX12 cX12_tokenAt 5 6 134) (hret : ∀ (H1 : Heap) (locs1 : List Loc) (ls1 : Array Slot) (pc : Nat), mMW s A v a res.2.1 res.2.2 H1 locs1 → narrow .int (.int res.1) = .int res.1 → decode cX12_tokenAt pc = .ok (.ireturn, 1) → W p l e R s m args below meth c H1 locs1 0 0 Q (F0 m pc ls1 [.int res.1])) : ∀ (n : Nat) (x1 : Int32) (x3 : Int32) (F : PF) (G : PG) (hm : ml_tokenAt_34 fu n x1 x3 F G = some res) {H : Heap} {locs : List Loc} (hw : mMW s A v a F G H locs) {ls : Array Slot} (hl : lv_has ls 5 [(0, .ref (a 212)), (1, .int x1), (3, .int x3)]), W p l e R s m args below meth c H locs 0 0 Q (F0 m 34 ls []) := by
  intro n
  induction n with
  | zero =>
    intro x1 x3 F G hm
    exact no_elim (show (none : PR) = some res from hm)
  | succ n ih =>
    intro x1 x3 F G hm H locs hw ls hl
    exact mw_tokenAt_34 fu C hret (ml_tokenAt_34 fu n) (fun x1 x3 F G hm H locs ls hw hl => ih x1 x3 F G hm hw hl) x1 x3 F G hm hw hl
theorem mw_tokenAt_32 (fu : Nat) {res : Int32 × PF × PG} (C : mMC p R s m args c A v RX12 cX12_tokenAt 5 6 134) (hret : ∀ (H1 : Heap) (locs1 : List Loc) (ls1 : Array Slot) (pc : Nat), mMW s A v a res.2.1 res.2.2 H1 locs1 → narrow .int (.int res.1) = .int res.1 → decode cX12_tokenAt pc = .ok (.ireturn, 1) → W p l e R s m args below meth c H1 locs1 0 0 Q (F0 m pc ls1 [.int res.1])) (x1 : Int32) (F : PF) (G : PG) (hm : mb_tokenAt_32 fu x1 F G = some res) {H : Heap} {locs : List Loc} (hw : mMW s A v a F G H locs) {ls : Array Slot} (hl : lv_has ls 5 [(0, .ref (a 212)), (1, .int x1)]) : W p l e R s m args below meth c H locs 0 0 Q (F0 m 32 ls []) := by
  have hx := C.1
  have hb := C.2.1
  unfold mb_tokenAt_32 at hm
  refine lv_iconst (v := 4) hx hb dX12_tokenAt_32 (by decide) ?_
  refine lv_istore_n (lv' := [(3, .int 4), (0, .ref (a 212)), (1, .int x1)]) hx hb dX12_tokenAt_33 rfl hl (by decide) rfl (fun ls hl => ?_)
  exact mwl_tokenAt_34 fu C hret fu x1 4 F G hm hw (lv_sub hl [1, 2, 0] rfl)
theorem mw_tokenAt_31 (fu : Nat) {res : Int32 × PF × PG} (C : mMC p R s m args c A v RX12 cX12_tokenAt 5 6 134) (hret : ∀ (H1 : Heap) (locs1 : List Loc) (ls1 : Array Slot) (pc : Nat), mMW s A v a res.2.1 res.2.2 H1 locs1 → narrow .int (.int res.1) = .int res.1 → decode cX12_tokenAt pc = .ok (.ireturn, 1) → W p l e R s m args below meth c H1 locs1 0 0 Q (F0 m pc ls1 [.int res.1])) (z0 : Int32) (F : PF) (G : PG) (hm : mb_tokenAt_31 fu z0 F G = some res) {H : Heap} {locs : List Loc} (hw : mMW s A v a F G H locs) {ls : Array Slot} (hl : lv_has ls 5 []) : W p l e R s m args below meth c H locs 0 0 Q (F0 m 31 ls [.int z0]) := by
  have hx := C.1
  have hb := C.2.1
  unfold mb_tokenAt_31 at hm
  obtain rfl := Option.some.inj hm
  exact hret _ _ _ _ hw rfl dX12_tokenAt_31
theorem mw_tokenAt_26 (fu : Nat) {res : Int32 × PF × PG} (C : mMC p R s m args c A v RX12 cX12_tokenAt 5 6 134) (hret : ∀ (H1 : Heap) (locs1 : List Loc) (ls1 : Array Slot) (pc : Nat), mMW s A v a res.2.1 res.2.2 H1 locs1 → narrow .int (.int res.1) = .int res.1 → decode cX12_tokenAt pc = .ok (.ireturn, 1) → W p l e R s m args below meth c H1 locs1 0 0 Q (F0 m pc ls1 [.int res.1])) (x1 : Int32) (F : PF) (G : PG) (hm : mb_tokenAt_26 fu x1 F G = some res) {H : Heap} {locs : List Loc} (hw : mMW s A v a F G H locs) {ls : Array Slot} (hl : lv_has ls 5 [(0, .ref (a 212)), (1, .int x1)]) : W p l e R s m args below meth c H locs 0 0 Q (F0 m 26 ls []) := by
  have hx := C.1
  have hb := C.2.1
  unfold mb_tokenAt_26 at hm
  refine lv_aload_n hx hb dX12_tokenAt_26 rfl (lv_at hl 0 rfl) ?_
  refine lv_iload_n hx hb dX12_tokenAt_27 rfl (lv_at hl 1 rfl) ?_
  obtain ⟨⟨r1, F1, G1⟩, hc, hm⟩ := bind_elim hm
  refine mcallI (n := 1) (As := [.int x1]) (rest := []) C hw (mk_numberToken l v a _ fu x1 F G r1 F1 G1 hc) (mrecv_X12 C hw) mm_123 mm_124 mm_125 mm_27 mm_126 (by decide +kernel) rfl (by omega) (by omega) hl.1 rfl (Nat.le_of_ble_eq_true rfl) dX12_tokenAt_28 (fun H locs hw => ?_)
  exact mw_tokenAt_31 fu C hret r1 F1 G1 hm hw (lv_sub hl [] rfl)
theorem mw_tokenAt_23 (fu : Nat) {res : Int32 × PF × PG} (C : mMC p R s m args c A v RX12 cX12_tokenAt 5 6 134) (hret : ∀ (H1 : Heap) (locs1 : List Loc) (ls1 : Array Slot) (pc : Nat), mMW s A v a res.2.1 res.2.2 H1 locs1 → narrow .int (.int res.1) = .int res.1 → decode cX12_tokenAt pc = .ok (.ireturn, 1) → W p l e R s m args below meth c H1 locs1 0 0 Q (F0 m pc ls1 [.int res.1])) (x1 : Int32) (z0 : Int32) (F : PF) (G : PG) (hm : mb_tokenAt_23 fu x1 z0 F G = some res) {H : Heap} {locs : List Loc} (hw : mMW s A v a F G H locs) {ls : Array Slot} (hl : lv_has ls 5 [(0, .ref (a 212)), (1, .int x1)]) : W p l e R s m args below meth c H locs 0 0 Q (F0 m 23 ls [.int z0]) := by
  have hx := C.1
  have hb := C.2.1
  unfold mb_tokenAt_23 at hm
  refine lv_if_eq (tgt := 32) hx hb dX12_tokenAt_23 (by decide) (fun c_1 => ?_) (fun c_1 => ?_)
  · have hm := (if_pos c_1).symm.trans hm
    exact mw_tokenAt_32 fu C hret x1 F G hm hw (lv_sub hl [0, 1] rfl)
  · have hm := (if_neg c_1).symm.trans hm
    exact mw_tokenAt_26 fu C hret x1 F G hm hw (lv_sub hl [0, 1] rfl)
theorem mw_tokenAt_19 (fu : Nat) {res : Int32 × PF × PG} (C : mMC p R s m args c A v RX12 cX12_tokenAt 5 6 134) (hret : ∀ (H1 : Heap) (locs1 : List Loc) (ls1 : Array Slot) (pc : Nat), mMW s A v a res.2.1 res.2.2 H1 locs1 → narrow .int (.int res.1) = .int res.1 → decode cX12_tokenAt pc = .ok (.ireturn, 1) → W p l e R s m args below meth c H1 locs1 0 0 Q (F0 m pc ls1 [.int res.1])) (x1 : Int32) (x2 : Int32) (F : PF) (G : PG) (hm : mb_tokenAt_19 fu x1 x2 F G = some res) {H : Heap} {locs : List Loc} (hw : mMW s A v a F G H locs) {ls : Array Slot} (hl : lv_has ls 5 [(0, .ref (a 212)), (1, .int x1), (2, .int x2)]) : W p l e R s m args below meth c H locs 0 0 Q (F0 m 19 ls []) := by
  have hx := C.1
  have hb := C.2.1
  unfold mb_tokenAt_19 at hm
  refine lv_iload_n hx hb dX12_tokenAt_19 rfl (lv_at hl 2 rfl) ?_
  obtain ⟨⟨r1, F1, G1⟩, hc, hm⟩ := bind_elim hm
  refine mcallIS (n := 1) (As := [.int x2]) (rest := []) C hw (mk_isDigit l v a _ fu x2 F G r1 F1 G1 hc) mm_56 mm_57 mm_27 mm_58 (by decide +kernel) rfl (by omega) (by omega) hl.1 rfl (Nat.le_of_ble_eq_true rfl) dX12_tokenAt_20 (fun H locs hw => ?_)
  exact mw_tokenAt_23 fu C hret x1 r1 F1 G1 hm hw (lv_sub hl [0, 1] rfl)
theorem mw_tokenAt_18 (fu : Nat) {res : Int32 × PF × PG} (C : mMC p R s m args c A v RX12 cX12_tokenAt 5 6 134) (hret : ∀ (H1 : Heap) (locs1 : List Loc) (ls1 : Array Slot) (pc : Nat), mMW s A v a res.2.1 res.2.2 H1 locs1 → narrow .int (.int res.1) = .int res.1 → decode cX12_tokenAt pc = .ok (.ireturn, 1) → W p l e R s m args below meth c H1 locs1 0 0 Q (F0 m pc ls1 [.int res.1])) (z0 : Int32) (F : PF) (G : PG) (hm : mb_tokenAt_18 fu z0 F G = some res) {H : Heap} {locs : List Loc} (hw : mMW s A v a F G H locs) {ls : Array Slot} (hl : lv_has ls 5 []) : W p l e R s m args below meth c H locs 0 0 Q (F0 m 18 ls [.int z0]) := by
  have hx := C.1
  have hb := C.2.1
  unfold mb_tokenAt_18 at hm
  obtain rfl := Option.some.inj hm
  exact hret _ _ _ _ hw rfl dX12_tokenAt_18
theorem mw_tokenAt_13 (fu : Nat) {res : Int32 × PF × PG} (C : mMC p R s m args c A v RX12 cX12_tokenAt 5 6 134) (hret : ∀ (H1 : Heap) (locs1 : List Loc) (ls1 : Array Slot) (pc : Nat), mMW s A v a res.2.1 res.2.2 H1 locs1 → narrow .int (.int res.1) = .int res.1 → decode cX12_tokenAt pc = .ok (.ireturn, 1) → W p l e R s m args below meth c H1 locs1 0 0 Q (F0 m pc ls1 [.int res.1])) (x1 : Int32) (F : PF) (G : PG) (hm : mb_tokenAt_13 fu x1 F G = some res) {H : Heap} {locs : List Loc} (hw : mMW s A v a F G H locs) {ls : Array Slot} (hl : lv_has ls 5 [(0, .ref (a 212)), (1, .int x1)]) : W p l e R s m args below meth c H locs 0 0 Q (F0 m 13 ls []) := by
  have hx := C.1
  have hb := C.2.1
  unfold mb_tokenAt_13 at hm
  refine lv_aload_n hx hb dX12_tokenAt_13 rfl (lv_at hl 0 rfl) ?_
  refine lv_iload_n hx hb dX12_tokenAt_14 rfl (lv_at hl 1 rfl) ?_
  obtain ⟨⟨r1, F1, G1⟩, hc, hm⟩ := bind_elim hm
  refine mcallI (n := 1) (As := [.int x1]) (rest := []) C hw (mk_wordToken l v a _ fu x1 F G r1 F1 G1 hc) (mrecv_X12 C hw) mm_49 mm_50 mm_51 mm_27 mm_52 (by decide +kernel) rfl (by omega) (by omega) hl.1 rfl (Nat.le_of_ble_eq_true rfl) dX12_tokenAt_15 (fun H locs hw => ?_)
  exact mw_tokenAt_18 fu C hret r1 F1 G1 hm hw (lv_sub hl [] rfl)
theorem mw_tokenAt_10 (fu : Nat) {res : Int32 × PF × PG} (C : mMC p R s m args c A v RX12 cX12_tokenAt 5 6 134) (hret : ∀ (H1 : Heap) (locs1 : List Loc) (ls1 : Array Slot) (pc : Nat), mMW s A v a res.2.1 res.2.2 H1 locs1 → narrow .int (.int res.1) = .int res.1 → decode cX12_tokenAt pc = .ok (.ireturn, 1) → W p l e R s m args below meth c H1 locs1 0 0 Q (F0 m pc ls1 [.int res.1])) (x1 : Int32) (x2 : Int32) (z0 : Int32) (F : PF) (G : PG) (hm : mb_tokenAt_10 fu x1 x2 z0 F G = some res) {H : Heap} {locs : List Loc} (hw : mMW s A v a F G H locs) {ls : Array Slot} (hl : lv_has ls 5 [(0, .ref (a 212)), (1, .int x1), (2, .int x2)]) : W p l e R s m args below meth c H locs 0 0 Q (F0 m 10 ls [.int z0]) := by
  have hx := C.1
  have hb := C.2.1
  unfold mb_tokenAt_10 at hm
  refine lv_if_eq (tgt := 19) hx hb dX12_tokenAt_10 (by decide) (fun c_1 => ?_) (fun c_1 => ?_)
  · have hm := (if_pos c_1).symm.trans hm
    exact mw_tokenAt_19 fu C hret x1 x2 F G hm hw (lv_sub hl [0, 1, 2] rfl)
  · have hm := (if_neg c_1).symm.trans hm
    exact mw_tokenAt_13 fu C hret x1 F G hm hw (lv_sub hl [0, 1] rfl)
theorem mw_tokenAt_5 (fu : Nat) {res : Int32 × PF × PG} (C : mMC p R s m args c A v RX12 cX12_tokenAt 5 6 134) (hret : ∀ (H1 : Heap) (locs1 : List Loc) (ls1 : Array Slot) (pc : Nat), mMW s A v a res.2.1 res.2.2 H1 locs1 → narrow .int (.int res.1) = .int res.1 → decode cX12_tokenAt pc = .ok (.ireturn, 1) → W p l e R s m args below meth c H1 locs1 0 0 Q (F0 m pc ls1 [.int res.1])) (x1 : Int32) (z0 : Int32) (F : PF) (G : PG) (hm : mb_tokenAt_5 fu x1 z0 F G = some res) {H : Heap} {locs : List Loc} (hw : mMW s A v a F G H locs) {ls : Array Slot} (hl : lv_has ls 5 [(0, .ref (a 212)), (1, .int x1)]) : W p l e R s m args below meth c H locs 0 0 Q (F0 m 5 ls [.int z0]) := by
  have hx := C.1
  have hb := C.2.1
  unfold mb_tokenAt_5 at hm
  refine lv_istore_n (lv' := [(2, .int z0), (0, .ref (a 212)), (1, .int x1)]) hx hb dX12_tokenAt_5 rfl hl (by decide) rfl (fun ls hl => ?_)
  refine lv_iload_n hx hb dX12_tokenAt_6 rfl (lv_at hl 0 rfl) ?_
  obtain ⟨⟨r1, F1, G1⟩, hc, hm⟩ := bind_elim hm
  refine mcallIS (n := 1) (As := [.int z0]) (rest := []) C hw (mk_isLetter l v a _ fu z0 F G r1 F1 G1 hc) mm_46 mm_47 mm_27 mm_48 (by decide +kernel) rfl (by omega) (by omega) hl.1 rfl (Nat.le_of_ble_eq_true rfl) dX12_tokenAt_7 (fun H locs hw => ?_)
  exact mw_tokenAt_10 fu C hret x1 z0 r1 F1 G1 hm hw (lv_sub hl [1, 2, 0] rfl)
theorem mw_tokenAt_0 (fu : Nat) {res : Int32 × PF × PG} (C : mMC p R s m args c A v RX12 cX12_tokenAt 5 6 134) (hret : ∀ (H1 : Heap) (locs1 : List Loc) (ls1 : Array Slot) (pc : Nat), mMW s A v a res.2.1 res.2.2 H1 locs1 → narrow .int (.int res.1) = .int res.1 → decode cX12_tokenAt pc = .ok (.ireturn, 1) → W p l e R s m args below meth c H1 locs1 0 0 Q (F0 m pc ls1 [.int res.1])) (x1 : Int32) (F : PF) (G : PG) (hm : mb_tokenAt_0 fu x1 F G = some res) {H : Heap} {locs : List Loc} (hw : mMW s A v a F G H locs) {ls : Array Slot} (hl : lv_has ls 5 [(0, .ref (a 212)), (1, .int x1)]) : W p l e R s m args below meth c H locs 0 0 Q (F0 m 0 ls []) := by
  have hx := C.1
  have hb := C.2.1
  unfold mb_tokenAt_0 at hm
  refine lv_aload_n hx hb dX12_tokenAt_0 rfl (lv_at hl 0 rfl) ?_
  refine lv_iload_n hx hb dX12_tokenAt_1 rfl (lv_at hl 1 rfl) ?_
  obtain ⟨⟨r1, F1, G1⟩, hc, hm⟩ := bind_elim hm
  refine mcallI (n := 1) (As := [.int x1]) (rest := []) C hw (mk_at l v a _ fu x1 F G r1 F1 G1 hc) (mrecv_X12 C hw) mm_38 mm_39 mm_40 mm_27 mm_41 (by decide +kernel) rfl (by omega) (by omega) hl.1 rfl (Nat.le_of_ble_eq_true rfl) dX12_tokenAt_2 (fun H locs hw => ?_)
  exact mw_tokenAt_5 fu C hret x1 r1 F1 G1 hm hw (lv_sub hl [0, 1] rfl)
theorem mk_tokenAt (l : Launch) (v : EV) (a : Nat → Nat) (sz : Nat) (fu : Nat) (x1 : Int32) (F : PF) (G : PG) (r : Int32) (F1 : PF) (G1 : PG) (hm : mf_tokenAt fu x1 F G = some (r, F1, G1)) : mMI l yX12_tokenAt cX12_tokenAt 5 (some .int) 6 134 v a sz [.ref (a 212), .int x1] F G r F1 G1 := mMI.of (ty := .int) (by decide) rfl (Nat.le_of_ble_eq_true rfl) (fun p e R s m args below meth c Q A H locs ls C hw hl hret => mw_tokenAt_0 fu (res := (r, F1, G1)) C hret x1 F G hm hw hl)
def mb_cut_112 (fu : Nat) (F : PF) (G : PG) : PR := some (0, F, G)
def mb_cut_99 (fu : Nat) (F : PF) (G : PG) : PR := if ixb (F 7) 4002 = true then (mb_cut_112 fu F (gup G 6 (F 7).toNatClampNeg (F 3))) else none
def mb_cut_89 (fu : Nat) (F : PF) (G : PG) : PR := if ixb (F 7) 4002 = true then (mb_cut_99 fu F (gup G 4 (F 7).toNatClampNeg (0 : Int32))) else none
def mb_cut_85 (fu : Nat) (ag_42 : Int32 → PF → PG → PR) (z0 : Int32) (F : PF) (G : PG) : PR := ag_42 z0 F G
def mb_cut_80 (fu : Nat) (ag_42 : Int32 → PF → PG → PR) (x2 : Int32) (F : PF) (G : PG) : PR := (mf_skip fu x2 F G).bind (fun q => mb_cut_85 fu ag_42 q.1 q.2.1 q.2.2)
def mb_cut_76 (fu : Nat) (ag_42 : Int32 → PF → PG → PR) (F : PF) (G : PG) : PR := mb_cut_85 fu ag_42 (-1) F G
def mb_cut_71 (fu : Nat) (ag_42 : Int32 → PF → PG → PR) (x2 : Int32) (F : PF) (G : PG) : PR := if x2 = (-1 : Int32) then mb_cut_76 fu ag_42 F G else mb_cut_80 fu ag_42 x2 F G
def mb_cut_66 (fu : Nat) (ag_42 : Int32 → PF → PG → PR) (x1 : Int32) (x2 : Int32) (F : PF) (G : PG) : PR := mb_cut_71 fu ag_42 x2 (fup F 8 x1) G
def mb_cut_60 (fu : Nat) (ag_42 : Int32 → PF → PG → PR) (x1 : Int32) (z0 : Int32) (F : PF) (G : PG) : PR := if z0 = (-1 : Int32) then mb_cut_66 fu ag_42 x1 z0 F G else mb_cut_71 fu ag_42 z0 F G
def mb_cut_55 (fu : Nat) (ag_42 : Int32 → PF → PG → PR) (x1 : Int32) (F : PF) (G : PG) : PR := (mf_tokenAt fu x1 F G).bind (fun q => mb_cut_60 fu ag_42 x1 q.1 q.2.1 q.2.2)
def mb_cut_47 (fu : Nat) (ag_42 : Int32 → PF → PG → PR) (x1 : Int32) (F : PF) (G : PG) : PR := if (F 3) ≤ x1 then mb_cut_89 fu F G else mb_cut_55 fu ag_42 x1 F G
def mb_cut_42 (fu : Nat) (ag_42 : Int32 → PF → PG → PR) (x1 : Int32) (F : PF) (G : PG) : PR := if x1 = (-1 : Int32) then mb_cut_89 fu F G else mb_cut_47 fu ag_42 x1 F G
def ml_cut_42 (fu : Nat) : Nat → Int32 → PF → PG → PR
  | 0 => fun _ _ _ => none
  | n + 1 => fun x1 F G => mb_cut_42 fu (ml_cut_42 fu n) x1 F G
def mb_cut_41 (fu : Nat) (z0 : Int32) (F : PF) (G : PG) : PR := ml_cut_42 fu fu z0 F G
def mb_cut_36 (fu : Nat) (F : PF) (G : PG) : PR := (mf_skip fu 0 F G).bind (fun q => mb_cut_41 fu q.1 q.2.1 q.2.2)
def mb_cut_30 (fu : Nat) (ag_17 : Int32 → PF → PG → PR) (x1 : Int32) (F : PF) (G : PG) : PR := ag_17 (x1 + 1) F G
def mb_cut_23 (fu : Nat) (ag_17 : Int32 → PF → PG → PR) (x1 : Int32) (F : PF) (G : PG) : PR := if ixb x1 64 = true then (mb_cut_30 fu ag_17 x1 F (gup G 12 x1.toNatClampNeg (-1 : Int32))) else none
def mb_cut_17 (fu : Nat) (ag_17 : Int32 → PF → PG → PR) (x1 : Int32) (F : PF) (G : PG) : PR := if (64 : Int32) ≤ x1 then mb_cut_36 fu F G else mb_cut_23 fu ag_17 x1 F G
def ml_cut_17 (fu : Nat) : Nat → Int32 → PF → PG → PR
  | 0 => fun _ _ _ => none
  | n + 1 => fun x1 F G => mb_cut_17 fu (ml_cut_17 fu n) x1 F G
def mb_cut_15 (fu : Nat) (F : PF) (G : PG) : PR := ml_cut_17 fu fu 0 F G
def mb_cut_10 (fu : Nat) (F : PF) (G : PG) : PR := mb_cut_15 fu (fup F 8 (-1 : Int32)) G
def mb_cut_5 (fu : Nat) (F : PF) (G : PG) : PR := mb_cut_10 fu (fup F 13 (0 : Int32)) G
def mb_cut_0 (fu : Nat) (F : PF) (G : PG) : PR := mb_cut_5 fu (fup F 7 (0 : Int32)) G
def mf_cut (fu : Nat) (F : PF) (G : PG) : PR := mb_cut_0 fu F G
theorem mw_cut_112 (fu : Nat) {res : Int32 × PF × PG} (C : mMC p R s m args c A v RX12 cX12_cut 3 7 158) (hret : ∀ (H1 : Heap) (locs1 : List Loc) (ls1 : Array Slot) (pc : Nat), mMW s A v a res.2.1 res.2.2 H1 locs1 → decode cX12_cut pc = .ok (.return_, 1) → W p l e R s m args below meth c H1 locs1 0 0 Q (F0 m pc ls1 [])) (F : PF) (G : PG) (hm : mb_cut_112 fu F G = some res) {H : Heap} {locs : List Loc} (hw : mMW s A v a F G H locs) {ls : Array Slot} (hl : lv_has ls 3 []) : W p l e R s m args below meth c H locs 0 0 Q (F0 m 112 ls []) := by
  have hx := C.1
  have hb := C.2.1
  unfold mb_cut_112 at hm
  obtain rfl := Option.some.inj hm
  exact hret _ _ _ _ hw dX12_cut_112
theorem mw_cut_99 (fu : Nat) {res : Int32 × PF × PG} (C : mMC p R s m args c A v RX12 cX12_cut 3 7 158) (hret : ∀ (H1 : Heap) (locs1 : List Loc) (ls1 : Array Slot) (pc : Nat), mMW s A v a res.2.1 res.2.2 H1 locs1 → decode cX12_cut pc = .ok (.return_, 1) → W p l e R s m args below meth c H1 locs1 0 0 Q (F0 m pc ls1 [])) (F : PF) (G : PG) (hm : mb_cut_99 fu F G = some res) {H : Heap} {locs : List Loc} (hw : mMW s A v a F G H locs) {ls : Array Slot} (hl : lv_has ls 3 [(0, .ref (a 212))]) : W p l e R s m args below meth c H locs 0 0 Q (F0 m 99 ls []) := by
  have hx := C.1
  have hb := C.2.1
  unfold mb_cut_99 at hm
  refine lv_aload_n hx hb dX12_cut_99 rfl (lv_at hl 0 rfl) ?_
  refine mg_X12_22 C hw dX12_cut_100 ?_
  refine lv_aload_n hx hb dX12_cut_103 rfl (lv_at hl 0 rfl) ?_
  refine mg_X12_187 C hw dX12_cut_104 ?_
  refine lv_aload_n hx hb dX12_cut_107 rfl (lv_at hl 0 rfl) ?_
  refine mg_X12_157 C hw dX12_cut_108 ?_
  obtain ⟨hi, hm⟩ := ix_elim hm
  refine mas_6 C hw hi dX12_cut_111 (fun H locs hw => ?_)
  exact mw_cut_112 fu C hret F (gup G 6 (F 7).toNatClampNeg (F 3)) hm hw (lv_sub hl [] rfl)
theorem mw_cut_89 (fu : Nat) {res : Int32 × PF × PG} (C : mMC p R s m args c A v RX12 cX12_cut 3 7 158) (hret : ∀ (H1 : Heap) (locs1 : List Loc) (ls1 : Array Slot) (pc : Nat), mMW s A v a res.2.1 res.2.2 H1 locs1 → decode cX12_cut pc = .ok (.return_, 1) → W p l e R s m args below meth c H1 locs1 0 0 Q (F0 m pc ls1 [])) (F : PF) (G : PG) (hm : mb_cut_89 fu F G = some res) {H : Heap} {locs : List Loc} (hw : mMW s A v a F G H locs) {ls : Array Slot} (hl : lv_has ls 3 [(0, .ref (a 212))]) : W p l e R s m args below meth c H locs 0 0 Q (F0 m 89 ls []) := by
  have hx := C.1
  have hb := C.2.1
  unfold mb_cut_89 at hm
  refine lv_aload_n hx hb dX12_cut_89 rfl (lv_at hl 0 rfl) ?_
  refine mg_X12_16 C hw dX12_cut_90 ?_
  refine lv_aload_n hx hb dX12_cut_93 rfl (lv_at hl 0 rfl) ?_
  refine mg_X12_187 C hw dX12_cut_94 ?_
  refine lv_iconst (v := 0) hx hb dX12_cut_97 (by decide) ?_
  obtain ⟨hi, hm⟩ := ix_elim hm
  refine mas_4 C hw hi dX12_cut_98 (fun H locs hw => ?_)
  exact mw_cut_99 fu C hret F (gup G 4 (F 7).toNatClampNeg (0 : Int32)) hm hw (lv_sub hl [0] rfl)
theorem mw_cut_85 (fu : Nat) {res : Int32 × PF × PG} (C : mMC p R s m args c A v RX12 cX12_cut 3 7 158) (hret : ∀ (H1 : Heap) (locs1 : List Loc) (ls1 : Array Slot) (pc : Nat), mMW s A v a res.2.1 res.2.2 H1 locs1 → decode cX12_cut pc = .ok (.return_, 1) → W p l e R s m args below meth c H1 locs1 0 0 Q (F0 m pc ls1 [])) (ag_42 : Int32 → PF → PG → PR) (hag_42 : ∀ (x1 : Int32) (F : PF) (G : PG), ag_42 x1 F G = some res → ∀ (H : Heap) (locs : List Loc) (ls : Array Slot), mMW s A v a F G H locs → lv_has ls 3 [(0, .ref (a 212)), (1, .int x1)] → W p l e R s m args below meth c H locs 0 0 Q (F0 m 42 ls [])) (z0 : Int32) (F : PF) (G : PG) (hm : mb_cut_85 fu ag_42 z0 F G = some res) {H : Heap} {locs : List Loc} (hw : mMW s A v a F G H locs) {ls : Array Slot} (hl : lv_has ls 3 [(0, .ref (a 212))]) : W p l e R s m args below meth c H locs 0 0 Q (F0 m 85 ls [.int z0]) := by
  have hx := C.1
  have hb := C.2.1
  unfold mb_cut_85 at hm
  refine lv_istore_n (lv' := [(1, .int z0), (0, .ref (a 212))]) hx hb dX12_cut_85 rfl hl (by decide) rfl (fun ls hl => ?_)
  refine lv_goto (tgt := 42) hx hb dX12_cut_86 (by decide) ?_
  exact hag_42 z0 F G hm _ _ _ hw (lv_sub hl [1, 0] rfl)
theorem mw_cut_80 (fu : Nat) {res : Int32 × PF × PG} (C : mMC p R s m args c A v RX12 cX12_cut 3 7 158) (hret : ∀ (H1 : Heap) (locs1 : List Loc) (ls1 : Array Slot) (pc : Nat), mMW s A v a res.2.1 res.2.2 H1 locs1 → decode cX12_cut pc = .ok (.return_, 1) → W p l e R s m args below meth c H1 locs1 0 0 Q (F0 m pc ls1 [])) (ag_42 : Int32 → PF → PG → PR) (hag_42 : ∀ (x1 : Int32) (F : PF) (G : PG), ag_42 x1 F G = some res → ∀ (H : Heap) (locs : List Loc) (ls : Array Slot), mMW s A v a F G H locs → lv_has ls 3 [(0, .ref (a 212)), (1, .int x1)] → W p l e R s m args below meth c H locs 0 0 Q (F0 m 42 ls [])) (x2 : Int32) (F : PF) (G : PG) (hm : mb_cut_80 fu ag_42 x2 F G = some res) {H : Heap} {locs : List Loc} (hw : mMW s A v a F G H locs) {ls : Array Slot} (hl : lv_has ls 3 [(0, .ref (a 212)), (2, .int x2)]) : W p l e R s m args below meth c H locs 0 0 Q (F0 m 80 ls []) := by
  have hx := C.1
  have hb := C.2.1
  unfold mb_cut_80 at hm
  refine lv_aload_n hx hb dX12_cut_80 rfl (lv_at hl 0 rfl) ?_
  refine lv_iload_n hx hb dX12_cut_81 rfl (lv_at hl 1 rfl) ?_
  obtain ⟨⟨r1, F1, G1⟩, hc, hm⟩ := bind_elim hm
  refine mcallI (n := 1) (As := [.int x2]) (rest := []) C hw (mk_skip l v a _ fu x2 F G r1 F1 G1 hc) (mrecv_X12 C hw) mm_34 mm_35 mm_36 mm_27 mm_37 (by decide +kernel) rfl (by omega) (by omega) hl.1 rfl (Nat.le_of_ble_eq_true rfl) dX12_cut_82 (fun H locs hw => ?_)
  exact mw_cut_85 fu C hret ag_42 hag_42 r1 F1 G1 hm hw (lv_sub hl [0] rfl)
theorem mw_cut_76 (fu : Nat) {res : Int32 × PF × PG} (C : mMC p R s m args c A v RX12 cX12_cut 3 7 158) (hret : ∀ (H1 : Heap) (locs1 : List Loc) (ls1 : Array Slot) (pc : Nat), mMW s A v a res.2.1 res.2.2 H1 locs1 → decode cX12_cut pc = .ok (.return_, 1) → W p l e R s m args below meth c H1 locs1 0 0 Q (F0 m pc ls1 [])) (ag_42 : Int32 → PF → PG → PR) (hag_42 : ∀ (x1 : Int32) (F : PF) (G : PG), ag_42 x1 F G = some res → ∀ (H : Heap) (locs : List Loc) (ls : Array Slot), mMW s A v a F G H locs → lv_has ls 3 [(0, .ref (a 212)), (1, .int x1)] → W p l e R s m args below meth c H locs 0 0 Q (F0 m 42 ls [])) (F : PF) (G : PG) (hm : mb_cut_76 fu ag_42 F G = some res) {H : Heap} {locs : List Loc} (hw : mMW s A v a F G H locs) {ls : Array Slot} (hl : lv_has ls 3 [(0, .ref (a 212))]) : W p l e R s m args below meth c H locs 0 0 Q (F0 m 76 ls []) := by
  have hx := C.1
  have hb := C.2.1
  unfold mb_cut_76 at hm
  refine lv_iconst (v := (-1)) hx hb dX12_cut_76 (by decide) ?_
  refine lv_goto (tgt := 85) hx hb dX12_cut_77 (by decide) ?_
  exact mw_cut_85 fu C hret ag_42 hag_42 (-1) F G hm hw (lv_sub hl [0] rfl)
theorem mw_cut_71 (fu : Nat) {res : Int32 × PF × PG} (C : mMC p R s m args c A v RX12 cX12_cut 3 7 158) (hret : ∀ (H1 : Heap) (locs1 : List Loc) (ls1 : Array Slot) (pc : Nat), mMW s A v a res.2.1 res.2.2 H1 locs1 → decode cX12_cut pc = .ok (.return_, 1) → W p l e R s m args below meth c H1 locs1 0 0 Q (F0 m pc ls1 [])) (ag_42 : Int32 → PF → PG → PR) (hag_42 : ∀ (x1 : Int32) (F : PF) (G : PG), ag_42 x1 F G = some res → ∀ (H : Heap) (locs : List Loc) (ls : Array Slot), mMW s A v a F G H locs → lv_has ls 3 [(0, .ref (a 212)), (1, .int x1)] → W p l e R s m args below meth c H locs 0 0 Q (F0 m 42 ls [])) (x2 : Int32) (F : PF) (G : PG) (hm : mb_cut_71 fu ag_42 x2 F G = some res) {H : Heap} {locs : List Loc} (hw : mMW s A v a F G H locs) {ls : Array Slot} (hl : lv_has ls 3 [(0, .ref (a 212)), (2, .int x2)]) : W p l e R s m args below meth c H locs 0 0 Q (F0 m 71 ls []) := by
  have hx := C.1
  have hb := C.2.1
  unfold mb_cut_71 at hm
  refine lv_iload_n hx hb dX12_cut_71 rfl (lv_at hl 1 rfl) ?_
  refine lv_iconst (v := (-1)) hx hb dX12_cut_72 (by decide) ?_
  refine lv_icmp_ne (tgt := 80) hx hb dX12_cut_73 (by decide) (fun c_1 => ?_) (fun c_1 => ?_)
  · have hm := (if_neg c_1).symm.trans hm
    exact mw_cut_80 fu C hret ag_42 hag_42 x2 F G hm hw (lv_sub hl [0, 1] rfl)
  · have hm := (if_pos c_1).symm.trans hm
    exact mw_cut_76 fu C hret ag_42 hag_42 F G hm hw (lv_sub hl [0] rfl)
theorem mw_cut_66 (fu : Nat) {res : Int32 × PF × PG} (C : mMC p R s m args c A v RX12 cX12_cut 3 7 158) (hret : ∀ (H1 : Heap) (locs1 : List Loc) (ls1 : Array Slot) (pc : Nat), mMW s A v a res.2.1 res.2.2 H1 locs1 → decode cX12_cut pc = .ok (.return_, 1) → W p l e R s m args below meth c H1 locs1 0 0 Q (F0 m pc ls1 [])) (ag_42 : Int32 → PF → PG → PR) (hag_42 : ∀ (x1 : Int32) (F : PF) (G : PG), ag_42 x1 F G = some res → ∀ (H : Heap) (locs : List Loc) (ls : Array Slot), mMW s A v a F G H locs → lv_has ls 3 [(0, .ref (a 212)), (1, .int x1)] → W p l e R s m args below meth c H locs 0 0 Q (F0 m 42 ls [])) (x1 : Int32) (x2 : Int32) (F : PF) (G : PG) (hm : mb_cut_66 fu ag_42 x1 x2 F G = some res) {H : Heap} {locs : List Loc} (hw : mMW s A v a F G H locs) {ls : Array Slot} (hl : lv_has ls 3 [(0, .ref (a 212)), (1, .int x1), (2, .int x2)]) : W p l e R s m args below meth c H locs 0 0 Q (F0 m 66 ls []) := by
  have hx := C.1
  have hb := C.2.1
  unfold mb_cut_66 at hm
  refine lv_aload_n hx hb dX12_cut_66 rfl (lv_at hl 0 rfl) ?_
  refine lv_iload_n hx hb dX12_cut_67 rfl (lv_at hl 1 rfl) ?_
  refine mp_X12_184 C hw dX12_cut_68 (fun H locs hw => ?_)
  exact mw_cut_71 fu C hret ag_42 hag_42 x2 (fup F 8 x1) G hm hw (lv_sub hl [0, 2] rfl)
theorem mw_cut_60 (fu : Nat) {res : Int32 × PF × PG} (C : mMC p R s m args c A v RX12 cX12_cut 3 7 158) (hret : ∀ (H1 : Heap) (locs1 : List Loc) (ls1 : Array Slot) (pc : Nat), mMW s A v a res.2.1 res.2.2 H1 locs1 → decode cX12_cut pc = .ok (.return_, 1) → W p l e R s m args below meth c H1 locs1 0 0 Q (F0 m pc ls1 [])) (ag_42 : Int32 → PF → PG → PR) (hag_42 : ∀ (x1 : Int32) (F : PF) (G : PG), ag_42 x1 F G = some res → ∀ (H : Heap) (locs : List Loc) (ls : Array Slot), mMW s A v a F G H locs → lv_has ls 3 [(0, .ref (a 212)), (1, .int x1)] → W p l e R s m args below meth c H locs 0 0 Q (F0 m 42 ls [])) (x1 : Int32) (z0 : Int32) (F : PF) (G : PG) (hm : mb_cut_60 fu ag_42 x1 z0 F G = some res) {H : Heap} {locs : List Loc} (hw : mMW s A v a F G H locs) {ls : Array Slot} (hl : lv_has ls 3 [(0, .ref (a 212)), (1, .int x1)]) : W p l e R s m args below meth c H locs 0 0 Q (F0 m 60 ls [.int z0]) := by
  have hx := C.1
  have hb := C.2.1
  unfold mb_cut_60 at hm
  refine lv_istore_n (lv' := [(2, .int z0), (0, .ref (a 212)), (1, .int x1)]) hx hb dX12_cut_60 rfl hl (by decide) rfl (fun ls hl => ?_)
  refine lv_iload_n hx hb dX12_cut_61 rfl (lv_at hl 0 rfl) ?_
  refine lv_iconst (v := (-1)) hx hb dX12_cut_62 (by decide) ?_
  refine lv_icmp_ne (tgt := 71) hx hb dX12_cut_63 (by decide) (fun c_1 => ?_) (fun c_1 => ?_)
  · have hm := (if_neg c_1).symm.trans hm
    exact mw_cut_71 fu C hret ag_42 hag_42 z0 F G hm hw (lv_sub hl [1, 0] rfl)
  · have hm := (if_pos c_1).symm.trans hm
    exact mw_cut_66 fu C hret ag_42 hag_42 x1 z0 F G hm hw (lv_sub hl [1, 2, 0] rfl)
theorem mw_cut_55 (fu : Nat) {res : Int32 × PF × PG} (C : mMC p R s m args c A v RX12 cX12_cut 3 7 158) (hret : ∀ (H1 : Heap) (locs1 : List Loc) (ls1 : Array Slot) (pc : Nat), mMW s A v a res.2.1 res.2.2 H1 locs1 → decode cX12_cut pc = .ok (.return_, 1) → W p l e R s m args below meth c H1 locs1 0 0 Q (F0 m pc ls1 [])) (ag_42 : Int32 → PF → PG → PR) (hag_42 : ∀ (x1 : Int32) (F : PF) (G : PG), ag_42 x1 F G = some res → ∀ (H : Heap) (locs : List Loc) (ls : Array Slot), mMW s A v a F G H locs → lv_has ls 3 [(0, .ref (a 212)), (1, .int x1)] → W p l e R s m args below meth c H locs 0 0 Q (F0 m 42 ls [])) (x1 : Int32) (F : PF) (G : PG) (hm : mb_cut_55 fu ag_42 x1 F G = some res) {H : Heap} {locs : List Loc} (hw : mMW s A v a F G H locs) {ls : Array Slot} (hl : lv_has ls 3 [(0, .ref (a 212)), (1, .int x1)]) : W p l e R s m args below meth c H locs 0 0 Q (F0 m 55 ls []) := by
  have hx := C.1
  have hb := C.2.1
  unfold mb_cut_55 at hm
  refine lv_aload_n hx hb dX12_cut_55 rfl (lv_at hl 0 rfl) ?_
  refine lv_iload_n hx hb dX12_cut_56 rfl (lv_at hl 1 rfl) ?_
  obtain ⟨⟨r1, F1, G1⟩, hc, hm⟩ := bind_elim hm
  refine mcallI (n := 1) (As := [.int x1]) (rest := []) C hw (mk_tokenAt l v a _ fu x1 F G r1 F1 G1 hc) (mrecv_X12 C hw) mm_42 mm_43 mm_44 mm_27 mm_45 (by decide +kernel) rfl (by omega) (by omega) hl.1 rfl (Nat.le_of_ble_eq_true rfl) dX12_cut_57 (fun H locs hw => ?_)
  exact mw_cut_60 fu C hret ag_42 hag_42 x1 r1 F1 G1 hm hw (lv_sub hl [0, 1] rfl)
theorem mw_cut_47 (fu : Nat) {res : Int32 × PF × PG} (C : mMC p R s m args c A v RX12 cX12_cut 3 7 158) (hret : ∀ (H1 : Heap) (locs1 : List Loc) (ls1 : Array Slot) (pc : Nat), mMW s A v a res.2.1 res.2.2 H1 locs1 → decode cX12_cut pc = .ok (.return_, 1) → W p l e R s m args below meth c H1 locs1 0 0 Q (F0 m pc ls1 [])) (ag_42 : Int32 → PF → PG → PR) (hag_42 : ∀ (x1 : Int32) (F : PF) (G : PG), ag_42 x1 F G = some res → ∀ (H : Heap) (locs : List Loc) (ls : Array Slot), mMW s A v a F G H locs → lv_has ls 3 [(0, .ref (a 212)), (1, .int x1)] → W p l e R s m args below meth c H locs 0 0 Q (F0 m 42 ls [])) (x1 : Int32) (F : PF) (G : PG) (hm : mb_cut_47 fu ag_42 x1 F G = some res) {H : Heap} {locs : List Loc} (hw : mMW s A v a F G H locs) {ls : Array Slot} (hl : lv_has ls 3 [(0, .ref (a 212)), (1, .int x1)]) : W p l e R s m args below meth c H locs 0 0 Q (F0 m 47 ls []) := by
  have hx := C.1
  have hb := C.2.1
  unfold mb_cut_47 at hm
  refine lv_iload_n hx hb dX12_cut_47 rfl (lv_at hl 1 rfl) ?_
  refine lv_aload_n hx hb dX12_cut_48 rfl (lv_at hl 0 rfl) ?_
  refine mg_X12_157 C hw dX12_cut_49 ?_
  refine lv_icmp_ge (tgt := 89) hx hb dX12_cut_52 (by decide) (fun c_1 => ?_) (fun c_1 => ?_)
  · have hm := (if_pos c_1).symm.trans hm
    exact mw_cut_89 fu C hret F G hm hw (lv_sub hl [0] rfl)
  · have hm := (if_neg c_1).symm.trans hm
    exact mw_cut_55 fu C hret ag_42 hag_42 x1 F G hm hw (lv_sub hl [0, 1] rfl)
theorem mw_cut_42 (fu : Nat) {res : Int32 × PF × PG} (C : mMC p R s m args c A v RX12 cX12_cut 3 7 158) (hret : ∀ (H1 : Heap) (locs1 : List Loc) (ls1 : Array Slot) (pc : Nat), mMW s A v a res.2.1 res.2.2 H1 locs1 → decode cX12_cut pc = .ok (.return_, 1) → W p l e R s m args below meth c H1 locs1 0 0 Q (F0 m pc ls1 [])) (ag_42 : Int32 → PF → PG → PR) (hag_42 : ∀ (x1 : Int32) (F : PF) (G : PG), ag_42 x1 F G = some res → ∀ (H : Heap) (locs : List Loc) (ls : Array Slot), mMW s A v a F G H locs → lv_has ls 3 [(0, .ref (a 212)), (1, .int x1)] → W p l e R s m args below meth c H locs 0 0 Q (F0 m 42 ls [])) (x1 : Int32) (F : PF) (G : PG) (hm : mb_cut_42 fu ag_42 x1 F G = some res) {H : Heap} {locs : List Loc} (hw : mMW s A v a F G H locs) {ls : Array Slot} (hl : lv_has ls 3 [(0, .ref (a 212)), (1, .int x1)]) : W p l e R s m args below meth c H locs 0 0 Q (F0 m 42 ls []) := by
  have hx := C.1
  have hb := C.2.1
  unfold mb_cut_42 at hm
  refine lv_iload_n hx hb dX12_cut_42 rfl (lv_at hl 1 rfl) ?_
  refine lv_iconst (v := (-1)) hx hb dX12_cut_43 (by decide) ?_
  refine lv_icmp_eq (tgt := 89) hx hb dX12_cut_44 (by decide) (fun c_1 => ?_) (fun c_1 => ?_)
  · have hm := (if_pos c_1).symm.trans hm
    exact mw_cut_89 fu C hret F G hm hw (lv_sub hl [0] rfl)
  · have hm := (if_neg c_1).symm.trans hm
    exact mw_cut_47 fu C hret ag_42 hag_42 x1 F G hm hw (lv_sub hl [0, 1] rfl)
theorem mwl_cut_42 (fu : Nat) {res : Int32 × PF × PG} (C : mMC p R s m args c A v RX12 cX12_cut 3 7 158) (hret : ∀ (H1 : Heap) (locs1 : List Loc) (ls1 : Array Slot) (pc : Nat), mMW s A v a res.2.1 res.2.2 H1 locs1 → decode cX12_cut pc = .ok (.return_, 1) → W p l e R s m args below meth c H1 locs1 0 0 Q (F0 m pc ls1 [])) : ∀ (n : Nat) (x1 : Int32) (F : PF) (G : PG) (hm : ml_cut_42 fu n x1 F G = some res) {H : Heap} {locs : List Loc} (hw : mMW s A v a F G H locs) {ls : Array Slot} (hl : lv_has ls 3 [(0, .ref (a 212)), (1, .int x1)]), W p l e R s m args below meth c H locs 0 0 Q (F0 m 42 ls []) := by
  intro n
  induction n with
  | zero =>
    intro x1 F G hm
    exact no_elim (show (none : PR) = some res from hm)
  | succ n ih =>
    intro x1 F G hm H locs hw ls hl
    exact mw_cut_42 fu C hret (ml_cut_42 fu n) (fun x1 F G hm H locs ls hw hl => ih x1 F G hm hw hl) x1 F G hm hw hl
theorem mw_cut_41 (fu : Nat) {res : Int32 × PF × PG} (C : mMC p R s m args c A v RX12 cX12_cut 3 7 158) (hret : ∀ (H1 : Heap) (locs1 : List Loc) (ls1 : Array Slot) (pc : Nat), mMW s A v a res.2.1 res.2.2 H1 locs1 → decode cX12_cut pc = .ok (.return_, 1) → W p l e R s m args below meth c H1 locs1 0 0 Q (F0 m pc ls1 [])) (z0 : Int32) (F : PF) (G : PG) (hm : mb_cut_41 fu z0 F G = some res) {H : Heap} {locs : List Loc} (hw : mMW s A v a F G H locs) {ls : Array Slot} (hl : lv_has ls 3 [(0, .ref (a 212))]) : W p l e R s m args below meth c H locs 0 0 Q (F0 m 41 ls [.int z0]) := by
  have hx := C.1
  have hb := C.2.1
  unfold mb_cut_41 at hm
  refine lv_istore_n (lv' := [(1, .int z0), (0, .ref (a 212))]) hx hb dX12_cut_41 rfl hl (by decide) rfl (fun ls hl => ?_)
  exact mwl_cut_42 fu C hret fu z0 F G hm hw (lv_sub hl [1, 0] rfl)
theorem mw_cut_36 (fu : Nat) {res : Int32 × PF × PG} (C : mMC p R s m args c A v RX12 cX12_cut 3 7 158) (hret : ∀ (H1 : Heap) (locs1 : List Loc) (ls1 : Array Slot) (pc : Nat), mMW s A v a res.2.1 res.2.2 H1 locs1 → decode cX12_cut pc = .ok (.return_, 1) → W p l e R s m args below meth c H1 locs1 0 0 Q (F0 m pc ls1 [])) (F : PF) (G : PG) (hm : mb_cut_36 fu F G = some res) {H : Heap} {locs : List Loc} (hw : mMW s A v a F G H locs) {ls : Array Slot} (hl : lv_has ls 3 [(0, .ref (a 212))]) : W p l e R s m args below meth c H locs 0 0 Q (F0 m 36 ls []) := by
  have hx := C.1
  have hb := C.2.1
  unfold mb_cut_36 at hm
  refine lv_aload_n hx hb dX12_cut_36 rfl (lv_at hl 0 rfl) ?_
  refine lv_iconst (v := 0) hx hb dX12_cut_37 (by decide) ?_
  obtain ⟨⟨r1, F1, G1⟩, hc, hm⟩ := bind_elim hm
  refine mcallI (n := 1) (As := [.int 0]) (rest := []) C hw (mk_skip l v a _ fu 0 F G r1 F1 G1 hc) (mrecv_X12 C hw) mm_34 mm_35 mm_36 mm_27 mm_37 (by decide +kernel) rfl (by omega) (by omega) hl.1 rfl (Nat.le_of_ble_eq_true rfl) dX12_cut_38 (fun H locs hw => ?_)
  exact mw_cut_41 fu C hret r1 F1 G1 hm hw (lv_sub hl [0] rfl)
theorem mw_cut_30 (fu : Nat) {res : Int32 × PF × PG} (C : mMC p R s m args c A v RX12 cX12_cut 3 7 158) (hret : ∀ (H1 : Heap) (locs1 : List Loc) (ls1 : Array Slot) (pc : Nat), mMW s A v a res.2.1 res.2.2 H1 locs1 → decode cX12_cut pc = .ok (.return_, 1) → W p l e R s m args below meth c H1 locs1 0 0 Q (F0 m pc ls1 [])) (ag_17 : Int32 → PF → PG → PR) (hag_17 : ∀ (x1 : Int32) (F : PF) (G : PG), ag_17 x1 F G = some res → ∀ (H : Heap) (locs : List Loc) (ls : Array Slot), mMW s A v a F G H locs → lv_has ls 3 [(0, .ref (a 212)), (1, .int x1)] → W p l e R s m args below meth c H locs 0 0 Q (F0 m 17 ls [])) (x1 : Int32) (F : PF) (G : PG) (hm : mb_cut_30 fu ag_17 x1 F G = some res) {H : Heap} {locs : List Loc} (hw : mMW s A v a F G H locs) {ls : Array Slot} (hl : lv_has ls 3 [(0, .ref (a 212)), (1, .int x1)]) : W p l e R s m args below meth c H locs 0 0 Q (F0 m 30 ls []) := by
  have hx := C.1
  have hb := C.2.1
  unfold mb_cut_30 at hm
  refine lv_iinc (v := (x1 + 1)) (lv' := [(1, .int (x1 + 1)), (0, .ref (a 212))]) hx hb dX12_cut_30 hl (k := 1) rfl (by rfl) (by decide) rfl (fun ls hl => ?_)
  refine lv_goto (tgt := 17) hx hb dX12_cut_33 (by decide) ?_
  exact hag_17 (x1 + 1) F G hm _ _ _ hw (lv_sub hl [1, 0] rfl)
theorem mw_cut_23 (fu : Nat) {res : Int32 × PF × PG} (C : mMC p R s m args c A v RX12 cX12_cut 3 7 158) (hret : ∀ (H1 : Heap) (locs1 : List Loc) (ls1 : Array Slot) (pc : Nat), mMW s A v a res.2.1 res.2.2 H1 locs1 → decode cX12_cut pc = .ok (.return_, 1) → W p l e R s m args below meth c H1 locs1 0 0 Q (F0 m pc ls1 [])) (ag_17 : Int32 → PF → PG → PR) (hag_17 : ∀ (x1 : Int32) (F : PF) (G : PG), ag_17 x1 F G = some res → ∀ (H : Heap) (locs : List Loc) (ls : Array Slot), mMW s A v a F G H locs → lv_has ls 3 [(0, .ref (a 212)), (1, .int x1)] → W p l e R s m args below meth c H locs 0 0 Q (F0 m 17 ls [])) (x1 : Int32) (F : PF) (G : PG) (hm : mb_cut_23 fu ag_17 x1 F G = some res) {H : Heap} {locs : List Loc} (hw : mMW s A v a F G H locs) {ls : Array Slot} (hl : lv_has ls 3 [(0, .ref (a 212)), (1, .int x1)]) : W p l e R s m args below meth c H locs 0 0 Q (F0 m 23 ls []) := by
  have hx := C.1
  have hb := C.2.1
  unfold mb_cut_23 at hm
  refine lv_aload_n hx hb dX12_cut_23 rfl (lv_at hl 0 rfl) ?_
  refine mg_X12_34 C hw dX12_cut_24 ?_
  refine lv_iload_n hx hb dX12_cut_27 rfl (lv_at hl 1 rfl) ?_
  refine lv_iconst (v := (-1)) hx hb dX12_cut_28 (by decide) ?_
  obtain ⟨hi, hm⟩ := ix_elim hm
  refine mas_12 C hw hi dX12_cut_29 (fun H locs hw => ?_)
  exact mw_cut_30 fu C hret ag_17 hag_17 x1 F (gup G 12 x1.toNatClampNeg (-1 : Int32)) hm hw (lv_sub hl [0, 1] rfl)
theorem mw_cut_17 (fu : Nat) {res : Int32 × PF × PG} (C : mMC p R s m args c A v RX12 cX12_cut 3 7 158) (hret : ∀ (H1 : Heap) (locs1 : List Loc) (ls1 : Array Slot) (pc : Nat), mMW s A v a res.2.1 res.2.2 H1 locs1 → decode cX12_cut pc = .ok (.return_, 1) → W p l e R s m args below meth c H1 locs1 0 0 Q (F0 m pc ls1 [])) (ag_17 : Int32 → PF → PG → PR) (hag_17 : ∀ (x1 : Int32) (F : PF) (G : PG), ag_17 x1 F G = some res → ∀ (H : Heap) (locs : List Loc) (ls : Array Slot), mMW s A v a F G H locs → lv_has ls 3 [(0, .ref (a 212)), (1, .int x1)] → W p l e R s m args below meth c H locs 0 0 Q (F0 m 17 ls [])) (x1 : Int32) (F : PF) (G : PG) (hm : mb_cut_17 fu ag_17 x1 F G = some res) {H : Heap} {locs : List Loc} (hw : mMW s A v a F G H locs) {ls : Array Slot} (hl : lv_has ls 3 [(0, .ref (a 212)), (1, .int x1)]) : W p l e R s m args below meth c H locs 0 0 Q (F0 m 17 ls []) := by
  have hx := C.1
  have hb := C.2.1
  unfold mb_cut_17 at hm
  refine lv_iload_n hx hb dX12_cut_17 rfl (lv_at hl 1 rfl) ?_
  refine lv_bipush (v := 64) hx hb dX12_cut_18 (by decide) ?_
  refine lv_icmp_ge (tgt := 36) hx hb dX12_cut_20 (by decide) (fun c_1 => ?_) (fun c_1 => ?_)
  · have hm := (if_pos c_1).symm.trans hm
    exact mw_cut_36 fu C hret F G hm hw (lv_sub hl [0] rfl)
  · have hm := (if_neg c_1).symm.trans hm
    exact mw_cut_23 fu C hret ag_17 hag_17 x1 F G hm hw (lv_sub hl [0, 1] rfl)
theorem mwl_cut_17 (fu : Nat) {res : Int32 × PF × PG} (C : mMC p R s m args c A v RX12 cX12_cut 3 7 158) (hret : ∀ (H1 : Heap) (locs1 : List Loc) (ls1 : Array Slot) (pc : Nat), mMW s A v a res.2.1 res.2.2 H1 locs1 → decode cX12_cut pc = .ok (.return_, 1) → W p l e R s m args below meth c H1 locs1 0 0 Q (F0 m pc ls1 [])) : ∀ (n : Nat) (x1 : Int32) (F : PF) (G : PG) (hm : ml_cut_17 fu n x1 F G = some res) {H : Heap} {locs : List Loc} (hw : mMW s A v a F G H locs) {ls : Array Slot} (hl : lv_has ls 3 [(0, .ref (a 212)), (1, .int x1)]), W p l e R s m args below meth c H locs 0 0 Q (F0 m 17 ls []) := by
  intro n
  induction n with
  | zero =>
    intro x1 F G hm
    exact no_elim (show (none : PR) = some res from hm)
  | succ n ih =>
    intro x1 F G hm H locs hw ls hl
    exact mw_cut_17 fu C hret (ml_cut_17 fu n) (fun x1 F G hm H locs ls hw hl => ih x1 F G hm hw hl) x1 F G hm hw hl
theorem mw_cut_15 (fu : Nat) {res : Int32 × PF × PG} (C : mMC p R s m args c A v RX12 cX12_cut 3 7 158) (hret : ∀ (H1 : Heap) (locs1 : List Loc) (ls1 : Array Slot) (pc : Nat), mMW s A v a res.2.1 res.2.2 H1 locs1 → decode cX12_cut pc = .ok (.return_, 1) → W p l e R s m args below meth c H1 locs1 0 0 Q (F0 m pc ls1 [])) (F : PF) (G : PG) (hm : mb_cut_15 fu F G = some res) {H : Heap} {locs : List Loc} (hw : mMW s A v a F G H locs) {ls : Array Slot} (hl : lv_has ls 3 [(0, .ref (a 212))]) : W p l e R s m args below meth c H locs 0 0 Q (F0 m 15 ls []) := by
  have hx := C.1
  have hb := C.2.1
  unfold mb_cut_15 at hm
  refine lv_iconst (v := 0) hx hb dX12_cut_15 (by decide) ?_
  refine lv_istore_n (lv' := [(1, .int 0), (0, .ref (a 212))]) hx hb dX12_cut_16 rfl hl (by decide) rfl (fun ls hl => ?_)
  exact mwl_cut_17 fu C hret fu 0 F G hm hw (lv_sub hl [1, 0] rfl)
theorem mw_cut_10 (fu : Nat) {res : Int32 × PF × PG} (C : mMC p R s m args c A v RX12 cX12_cut 3 7 158) (hret : ∀ (H1 : Heap) (locs1 : List Loc) (ls1 : Array Slot) (pc : Nat), mMW s A v a res.2.1 res.2.2 H1 locs1 → decode cX12_cut pc = .ok (.return_, 1) → W p l e R s m args below meth c H1 locs1 0 0 Q (F0 m pc ls1 [])) (F : PF) (G : PG) (hm : mb_cut_10 fu F G = some res) {H : Heap} {locs : List Loc} (hw : mMW s A v a F G H locs) {ls : Array Slot} (hl : lv_has ls 3 [(0, .ref (a 212))]) : W p l e R s m args below meth c H locs 0 0 Q (F0 m 10 ls []) := by
  have hx := C.1
  have hb := C.2.1
  unfold mb_cut_10 at hm
  refine lv_aload_n hx hb dX12_cut_10 rfl (lv_at hl 0 rfl) ?_
  refine lv_iconst (v := (-1)) hx hb dX12_cut_11 (by decide) ?_
  refine mp_X12_184 C hw dX12_cut_12 (fun H locs hw => ?_)
  exact mw_cut_15 fu C hret (fup F 8 (-1 : Int32)) G hm hw (lv_sub hl [0] rfl)
theorem mw_cut_5 (fu : Nat) {res : Int32 × PF × PG} (C : mMC p R s m args c A v RX12 cX12_cut 3 7 158) (hret : ∀ (H1 : Heap) (locs1 : List Loc) (ls1 : Array Slot) (pc : Nat), mMW s A v a res.2.1 res.2.2 H1 locs1 → decode cX12_cut pc = .ok (.return_, 1) → W p l e R s m args below meth c H1 locs1 0 0 Q (F0 m pc ls1 [])) (F : PF) (G : PG) (hm : mb_cut_5 fu F G = some res) {H : Heap} {locs : List Loc} (hw : mMW s A v a F G H locs) {ls : Array Slot} (hl : lv_has ls 3 [(0, .ref (a 212))]) : W p l e R s m args below meth c H locs 0 0 Q (F0 m 5 ls []) := by
  have hx := C.1
  have hb := C.2.1
  unfold mb_cut_5 at hm
  refine lv_aload_n hx hb dX12_cut_5 rfl (lv_at hl 0 rfl) ?_
  refine lv_iconst (v := 0) hx hb dX12_cut_6 (by decide) ?_
  refine mp_X12_181 C hw dX12_cut_7 (fun H locs hw => ?_)
  exact mw_cut_10 fu C hret (fup F 13 (0 : Int32)) G hm hw (lv_sub hl [0] rfl)
theorem mw_cut_0 (fu : Nat) {res : Int32 × PF × PG} (C : mMC p R s m args c A v RX12 cX12_cut 3 7 158) (hret : ∀ (H1 : Heap) (locs1 : List Loc) (ls1 : Array Slot) (pc : Nat), mMW s A v a res.2.1 res.2.2 H1 locs1 → decode cX12_cut pc = .ok (.return_, 1) → W p l e R s m args below meth c H1 locs1 0 0 Q (F0 m pc ls1 [])) (F : PF) (G : PG) (hm : mb_cut_0 fu F G = some res) {H : Heap} {locs : List Loc} (hw : mMW s A v a F G H locs) {ls : Array Slot} (hl : lv_has ls 3 [(0, .ref (a 212))]) : W p l e R s m args below meth c H locs 0 0 Q (F0 m 0 ls []) := by
  have hx := C.1
  have hb := C.2.1
  unfold mb_cut_0 at hm
  refine lv_aload_n hx hb dX12_cut_0 rfl (lv_at hl 0 rfl) ?_
  refine lv_iconst (v := 0) hx hb dX12_cut_1 (by decide) ?_
  refine mp_X12_187 C hw dX12_cut_2 (fun H locs hw => ?_)
  exact mw_cut_5 fu C hret (fup F 7 (0 : Int32)) G hm hw (lv_sub hl [0] rfl)
theorem mk_cut (l : Launch) (v : EV) (a : Nat → Nat) (sz : Nat) (fu : Nat) (F : PF) (G : PG) (r : Int32) (F1 : PF) (G1 : PG) (hm : mf_cut fu F G = some (r, F1, G1)) : mMV l yX12_cut cX12_cut 3 7 158 v a sz [.ref (a 212)] F G F1 G1 := mMV.of (by decide) (Nat.le_of_ble_eq_true rfl) (fun p e R s m args below meth c Q A H locs ls C hw hl hret => mw_cut_0 fu (res := (r, F1, G1)) C hret F G hm hw hl)
def mb_fails_71 (fu : Nat) (F : PF) (G : PG) : PR := some (0, F, G)
def mb_fails_68 (fu : Nat) (z0 : Int32) (F : PF) (G : PG) : PR := mb_fails_71 fu (fup F 45 z0) G
def mb_fails_59 (fu : Nat) (F : PF) (G : PG) : PR := if ixb (F 42) 4002 = true then (mb_fails_68 fu (G 6 (F 42).toNatClampNeg) F G) else none
def mb_fails_52 (fu : Nat) (F : PF) (G : PG) : PR := mb_fails_68 fu (F 8) F G
def mb_fails_47 (fu : Nat) (x2 : Int32) (F : PF) (G : PG) : PR := if x2 = (0 : Int32) then mb_fails_59 fu F G else mb_fails_52 fu F G
def mb_fails_44 (fu : Nat) (x2 : Int32) (z0 : Int32) (F : PF) (G : PG) : PR := mb_fails_47 fu x2 (fup F 44 z0) G
def mb_fails_43 (fu : Nat) (x1 : Int32) (x2 : Int32) (F : PF) (G : PG) : PR := mb_fails_44 fu x2 x1 F G
def mb_fails_39 (fu : Nat) (x2 : Int32) (F : PF) (G : PG) : PR := mb_fails_44 fu x2 1 F G
def mb_fails_33 (fu : Nat) (x1 : Int32) (z0 : Int32) (F : PF) (G : PG) : PR := if z0 = (0 : Int32) then mb_fails_43 fu x1 z0 F G else mb_fails_39 fu z0 F G
def mb_fails_32 (fu : Nat) (x1 : Int32) (F : PF) (G : PG) : PR := mb_fails_33 fu x1 0 F G
def mb_fails_28 (fu : Nat) (x1 : Int32) (F : PF) (G : PG) : PR := mb_fails_33 fu x1 1 F G
def mb_fails_20 (fu : Nat) (x1 : Int32) (F : PF) (G : PG) : PR := if (F 8) = (-1 : Int32) then mb_fails_32 fu x1 F G else mb_fails_28 fu x1 F G
def mb_fails_9 (fu : Nat) (x1 : Int32) (F : PF) (G : PG) : PR := if (F 42) = (F 7) then mb_fails_20 fu x1 F G else mb_fails_32 fu x1 F G
def mb_fails_7 (fu : Nat) (F : PF) (G : PG) : PR := some (0, F, G)
def mb_fails_0 (fu : Nat) (x1 : Int32) (F : PF) (G : PG) : PR := if (F 44) ≤ (0 : Int32) then mb_fails_9 fu x1 F G else mb_fails_7 fu F G
def mf_fails (fu : Nat) (x1 : Int32) (F : PF) (G : PG) : PR := mb_fails_0 fu x1 F G
theorem mw_fails_71 (fu : Nat) {res : Int32 × PF × PG} (C : mMC p R s m args c A v RX12 cX12_fails 3 0 0) (hret : ∀ (H1 : Heap) (locs1 : List Loc) (ls1 : Array Slot) (pc : Nat), mMW s A v a res.2.1 res.2.2 H1 locs1 → narrow .boolean (.int res.1) = .int res.1 → decode cX12_fails pc = .ok (.ireturn, 1) → W p l e R s m args below meth c H1 locs1 0 0 Q (F0 m pc ls1 [.int res.1])) (F : PF) (G : PG) (hm : mb_fails_71 fu F G = some res) {H : Heap} {locs : List Loc} (hw : mMW s A v a F G H locs) {ls : Array Slot} (hl : lv_has ls 3 []) : W p l e R s m args below meth c H locs 0 0 Q (F0 m 71 ls []) := by
  have hx := C.1
  have hb := C.2.1
  unfold mb_fails_71 at hm
  refine lv_iconst (v := 0) hx hb dX12_fails_71 (by decide) ?_
  obtain rfl := Option.some.inj hm
  exact hret _ _ _ _ hw (b01_nar (v := 0) (Or.inl rfl)) dX12_fails_72
theorem mw_fails_68 (fu : Nat) {res : Int32 × PF × PG} (C : mMC p R s m args c A v RX12 cX12_fails 3 0 0) (hret : ∀ (H1 : Heap) (locs1 : List Loc) (ls1 : Array Slot) (pc : Nat), mMW s A v a res.2.1 res.2.2 H1 locs1 → narrow .boolean (.int res.1) = .int res.1 → decode cX12_fails pc = .ok (.ireturn, 1) → W p l e R s m args below meth c H1 locs1 0 0 Q (F0 m pc ls1 [.int res.1])) (z0 : Int32) (F : PF) (G : PG) (hm : mb_fails_68 fu z0 F G = some res) {H : Heap} {locs : List Loc} (hw : mMW s A v a F G H locs) {ls : Array Slot} (hl : lv_has ls 3 []) : W p l e R s m args below meth c H locs 0 0 Q (F0 m 68 ls [.int z0, .ref (a 212)]) := by
  have hx := C.1
  have hb := C.2.1
  unfold mb_fails_68 at hm
  refine mp_X12_236 C hw dX12_fails_68 (fun H locs hw => ?_)
  exact mw_fails_71 fu C hret (fup F 45 z0) G hm hw (lv_sub hl [] rfl)
theorem mw_fails_59 (fu : Nat) {res : Int32 × PF × PG} (C : mMC p R s m args c A v RX12 cX12_fails 3 0 0) (hret : ∀ (H1 : Heap) (locs1 : List Loc) (ls1 : Array Slot) (pc : Nat), mMW s A v a res.2.1 res.2.2 H1 locs1 → narrow .boolean (.int res.1) = .int res.1 → decode cX12_fails pc = .ok (.ireturn, 1) → W p l e R s m args below meth c H1 locs1 0 0 Q (F0 m pc ls1 [.int res.1])) (F : PF) (G : PG) (hm : mb_fails_59 fu F G = some res) {H : Heap} {locs : List Loc} (hw : mMW s A v a F G H locs) {ls : Array Slot} (hl : lv_has ls 3 [(0, .ref (a 212))]) : W p l e R s m args below meth c H locs 0 0 Q (F0 m 59 ls [.ref (a 212)]) := by
  have hx := C.1
  have hb := C.2.1
  unfold mb_fails_59 at hm
  refine lv_aload_n hx hb dX12_fails_59 rfl (lv_at hl 0 rfl) ?_
  refine mg_X12_22 C hw dX12_fails_60 ?_
  refine lv_aload_n hx hb dX12_fails_63 rfl (lv_at hl 0 rfl) ?_
  refine mg_X12_233 C hw dX12_fails_64 ?_
  obtain ⟨hi, hm⟩ := ix_elim hm
  refine mal_6 C hw hi dX12_fails_67 ?_
  exact mw_fails_68 fu C hret (G 6 (F 42).toNatClampNeg) F G hm hw (lv_sub hl [] rfl)
theorem mw_fails_52 (fu : Nat) {res : Int32 × PF × PG} (C : mMC p R s m args c A v RX12 cX12_fails 3 0 0) (hret : ∀ (H1 : Heap) (locs1 : List Loc) (ls1 : Array Slot) (pc : Nat), mMW s A v a res.2.1 res.2.2 H1 locs1 → narrow .boolean (.int res.1) = .int res.1 → decode cX12_fails pc = .ok (.ireturn, 1) → W p l e R s m args below meth c H1 locs1 0 0 Q (F0 m pc ls1 [.int res.1])) (F : PF) (G : PG) (hm : mb_fails_52 fu F G = some res) {H : Heap} {locs : List Loc} (hw : mMW s A v a F G H locs) {ls : Array Slot} (hl : lv_has ls 3 [(0, .ref (a 212))]) : W p l e R s m args below meth c H locs 0 0 Q (F0 m 52 ls [.ref (a 212)]) := by
  have hx := C.1
  have hb := C.2.1
  unfold mb_fails_52 at hm
  refine lv_aload_n hx hb dX12_fails_52 rfl (lv_at hl 0 rfl) ?_
  refine mg_X12_184 C hw dX12_fails_53 ?_
  refine lv_goto (tgt := 68) hx hb dX12_fails_56 (by decide) ?_
  exact mw_fails_68 fu C hret (F 8) F G hm hw (lv_sub hl [] rfl)
theorem mw_fails_47 (fu : Nat) {res : Int32 × PF × PG} (C : mMC p R s m args c A v RX12 cX12_fails 3 0 0) (hret : ∀ (H1 : Heap) (locs1 : List Loc) (ls1 : Array Slot) (pc : Nat), mMW s A v a res.2.1 res.2.2 H1 locs1 → narrow .boolean (.int res.1) = .int res.1 → decode cX12_fails pc = .ok (.ireturn, 1) → W p l e R s m args below meth c H1 locs1 0 0 Q (F0 m pc ls1 [.int res.1])) (x2 : Int32) (F : PF) (G : PG) (hm : mb_fails_47 fu x2 F G = some res) {H : Heap} {locs : List Loc} (hw : mMW s A v a F G H locs) {ls : Array Slot} (hl : lv_has ls 3 [(0, .ref (a 212)), (2, .int x2)]) : W p l e R s m args below meth c H locs 0 0 Q (F0 m 47 ls []) := by
  have hx := C.1
  have hb := C.2.1
  unfold mb_fails_47 at hm
  refine lv_aload_n hx hb dX12_fails_47 rfl (lv_at hl 0 rfl) ?_
  refine lv_iload_n hx hb dX12_fails_48 rfl (lv_at hl 1 rfl) ?_
  refine lv_if_eq (tgt := 59) hx hb dX12_fails_49 (by decide) (fun c_1 => ?_) (fun c_1 => ?_)
  · have hm := (if_pos c_1).symm.trans hm
    exact mw_fails_59 fu C hret F G hm hw (lv_sub hl [0] rfl)
  · have hm := (if_neg c_1).symm.trans hm
    exact mw_fails_52 fu C hret F G hm hw (lv_sub hl [0] rfl)
theorem mw_fails_44 (fu : Nat) {res : Int32 × PF × PG} (C : mMC p R s m args c A v RX12 cX12_fails 3 0 0) (hret : ∀ (H1 : Heap) (locs1 : List Loc) (ls1 : Array Slot) (pc : Nat), mMW s A v a res.2.1 res.2.2 H1 locs1 → narrow .boolean (.int res.1) = .int res.1 → decode cX12_fails pc = .ok (.ireturn, 1) → W p l e R s m args below meth c H1 locs1 0 0 Q (F0 m pc ls1 [.int res.1])) (x2 : Int32) (z0 : Int32) (F : PF) (G : PG) (hm : mb_fails_44 fu x2 z0 F G = some res) {H : Heap} {locs : List Loc} (hw : mMW s A v a F G H locs) {ls : Array Slot} (hl : lv_has ls 3 [(0, .ref (a 212)), (2, .int x2)]) : W p l e R s m args below meth c H locs 0 0 Q (F0 m 44 ls [.int z0, .ref (a 212)]) := by
  have hx := C.1
  have hb := C.2.1
  unfold mb_fails_44 at hm
  refine mp_X12_230 C hw dX12_fails_44 (fun H locs hw => ?_)
  exact mw_fails_47 fu C hret x2 (fup F 44 z0) G hm hw (lv_sub hl [0, 1] rfl)
theorem mw_fails_43 (fu : Nat) {res : Int32 × PF × PG} (C : mMC p R s m args c A v RX12 cX12_fails 3 0 0) (hret : ∀ (H1 : Heap) (locs1 : List Loc) (ls1 : Array Slot) (pc : Nat), mMW s A v a res.2.1 res.2.2 H1 locs1 → narrow .boolean (.int res.1) = .int res.1 → decode cX12_fails pc = .ok (.ireturn, 1) → W p l e R s m args below meth c H1 locs1 0 0 Q (F0 m pc ls1 [.int res.1])) (x1 : Int32) (x2 : Int32) (F : PF) (G : PG) (hm : mb_fails_43 fu x1 x2 F G = some res) {H : Heap} {locs : List Loc} (hw : mMW s A v a F G H locs) {ls : Array Slot} (hl : lv_has ls 3 [(0, .ref (a 212)), (1, .int x1), (2, .int x2)]) : W p l e R s m args below meth c H locs 0 0 Q (F0 m 43 ls [.ref (a 212)]) := by
  have hx := C.1
  have hb := C.2.1
  unfold mb_fails_43 at hm
  refine lv_iload_n hx hb dX12_fails_43 rfl (lv_at hl 1 rfl) ?_
  exact mw_fails_44 fu C hret x2 x1 F G hm hw (lv_sub hl [0, 2] rfl)
theorem mw_fails_39 (fu : Nat) {res : Int32 × PF × PG} (C : mMC p R s m args c A v RX12 cX12_fails 3 0 0) (hret : ∀ (H1 : Heap) (locs1 : List Loc) (ls1 : Array Slot) (pc : Nat), mMW s A v a res.2.1 res.2.2 H1 locs1 → narrow .boolean (.int res.1) = .int res.1 → decode cX12_fails pc = .ok (.ireturn, 1) → W p l e R s m args below meth c H1 locs1 0 0 Q (F0 m pc ls1 [.int res.1])) (x2 : Int32) (F : PF) (G : PG) (hm : mb_fails_39 fu x2 F G = some res) {H : Heap} {locs : List Loc} (hw : mMW s A v a F G H locs) {ls : Array Slot} (hl : lv_has ls 3 [(0, .ref (a 212)), (2, .int x2)]) : W p l e R s m args below meth c H locs 0 0 Q (F0 m 39 ls [.ref (a 212)]) := by
  have hx := C.1
  have hb := C.2.1
  unfold mb_fails_39 at hm
  refine lv_iconst (v := 1) hx hb dX12_fails_39 (by decide) ?_
  refine lv_goto (tgt := 44) hx hb dX12_fails_40 (by decide) ?_
  exact mw_fails_44 fu C hret x2 1 F G hm hw (lv_sub hl [0, 1] rfl)
theorem mw_fails_33 (fu : Nat) {res : Int32 × PF × PG} (C : mMC p R s m args c A v RX12 cX12_fails 3 0 0) (hret : ∀ (H1 : Heap) (locs1 : List Loc) (ls1 : Array Slot) (pc : Nat), mMW s A v a res.2.1 res.2.2 H1 locs1 → narrow .boolean (.int res.1) = .int res.1 → decode cX12_fails pc = .ok (.ireturn, 1) → W p l e R s m args below meth c H1 locs1 0 0 Q (F0 m pc ls1 [.int res.1])) (x1 : Int32) (z0 : Int32) (F : PF) (G : PG) (hm : mb_fails_33 fu x1 z0 F G = some res) {H : Heap} {locs : List Loc} (hw : mMW s A v a F G H locs) {ls : Array Slot} (hl : lv_has ls 3 [(0, .ref (a 212)), (1, .int x1)]) : W p l e R s m args below meth c H locs 0 0 Q (F0 m 33 ls [.int z0]) := by
  have hx := C.1
  have hb := C.2.1
  unfold mb_fails_33 at hm
  refine lv_istore_n (lv' := [(2, .int z0), (0, .ref (a 212)), (1, .int x1)]) hx hb dX12_fails_33 rfl hl (by decide) rfl (fun ls hl => ?_)
  refine lv_aload_n hx hb dX12_fails_34 rfl (lv_at hl 1 rfl) ?_
  refine lv_iload_n hx hb dX12_fails_35 rfl (lv_at hl 0 rfl) ?_
  refine lv_if_eq (tgt := 43) hx hb dX12_fails_36 (by decide) (fun c_1 => ?_) (fun c_1 => ?_)
  · have hm := (if_pos c_1).symm.trans hm
    exact mw_fails_43 fu C hret x1 z0 F G hm hw (lv_sub hl [1, 2, 0] rfl)
  · have hm := (if_neg c_1).symm.trans hm
    exact mw_fails_39 fu C hret z0 F G hm hw (lv_sub hl [1, 0] rfl)
theorem mw_fails_32 (fu : Nat) {res : Int32 × PF × PG} (C : mMC p R s m args c A v RX12 cX12_fails 3 0 0) (hret : ∀ (H1 : Heap) (locs1 : List Loc) (ls1 : Array Slot) (pc : Nat), mMW s A v a res.2.1 res.2.2 H1 locs1 → narrow .boolean (.int res.1) = .int res.1 → decode cX12_fails pc = .ok (.ireturn, 1) → W p l e R s m args below meth c H1 locs1 0 0 Q (F0 m pc ls1 [.int res.1])) (x1 : Int32) (F : PF) (G : PG) (hm : mb_fails_32 fu x1 F G = some res) {H : Heap} {locs : List Loc} (hw : mMW s A v a F G H locs) {ls : Array Slot} (hl : lv_has ls 3 [(0, .ref (a 212)), (1, .int x1)]) : W p l e R s m args below meth c H locs 0 0 Q (F0 m 32 ls []) := by
  have hx := C.1
  have hb := C.2.1
  unfold mb_fails_32 at hm
  refine lv_iconst (v := 0) hx hb dX12_fails_32 (by decide) ?_
  exact mw_fails_33 fu C hret x1 0 F G hm hw (lv_sub hl [0, 1] rfl)
theorem mw_fails_28 (fu : Nat) {res : Int32 × PF × PG} (C : mMC p R s m args c A v RX12 cX12_fails 3 0 0) (hret : ∀ (H1 : Heap) (locs1 : List Loc) (ls1 : Array Slot) (pc : Nat), mMW s A v a res.2.1 res.2.2 H1 locs1 → narrow .boolean (.int res.1) = .int res.1 → decode cX12_fails pc = .ok (.ireturn, 1) → W p l e R s m args below meth c H1 locs1 0 0 Q (F0 m pc ls1 [.int res.1])) (x1 : Int32) (F : PF) (G : PG) (hm : mb_fails_28 fu x1 F G = some res) {H : Heap} {locs : List Loc} (hw : mMW s A v a F G H locs) {ls : Array Slot} (hl : lv_has ls 3 [(0, .ref (a 212)), (1, .int x1)]) : W p l e R s m args below meth c H locs 0 0 Q (F0 m 28 ls []) := by
  have hx := C.1
  have hb := C.2.1
  unfold mb_fails_28 at hm
  refine lv_iconst (v := 1) hx hb dX12_fails_28 (by decide) ?_
  refine lv_goto (tgt := 33) hx hb dX12_fails_29 (by decide) ?_
  exact mw_fails_33 fu C hret x1 1 F G hm hw (lv_sub hl [0, 1] rfl)
theorem mw_fails_20 (fu : Nat) {res : Int32 × PF × PG} (C : mMC p R s m args c A v RX12 cX12_fails 3 0 0) (hret : ∀ (H1 : Heap) (locs1 : List Loc) (ls1 : Array Slot) (pc : Nat), mMW s A v a res.2.1 res.2.2 H1 locs1 → narrow .boolean (.int res.1) = .int res.1 → decode cX12_fails pc = .ok (.ireturn, 1) → W p l e R s m args below meth c H1 locs1 0 0 Q (F0 m pc ls1 [.int res.1])) (x1 : Int32) (F : PF) (G : PG) (hm : mb_fails_20 fu x1 F G = some res) {H : Heap} {locs : List Loc} (hw : mMW s A v a F G H locs) {ls : Array Slot} (hl : lv_has ls 3 [(0, .ref (a 212)), (1, .int x1)]) : W p l e R s m args below meth c H locs 0 0 Q (F0 m 20 ls []) := by
  have hx := C.1
  have hb := C.2.1
  unfold mb_fails_20 at hm
  refine lv_aload_n hx hb dX12_fails_20 rfl (lv_at hl 0 rfl) ?_
  refine mg_X12_184 C hw dX12_fails_21 ?_
  refine lv_iconst (v := (-1)) hx hb dX12_fails_24 (by decide) ?_
  refine lv_icmp_eq (tgt := 32) hx hb dX12_fails_25 (by decide) (fun c_1 => ?_) (fun c_1 => ?_)
  · have hm := (if_pos c_1).symm.trans hm
    exact mw_fails_32 fu C hret x1 F G hm hw (lv_sub hl [0, 1] rfl)
  · have hm := (if_neg c_1).symm.trans hm
    exact mw_fails_28 fu C hret x1 F G hm hw (lv_sub hl [0, 1] rfl)
theorem mw_fails_9 (fu : Nat) {res : Int32 × PF × PG} (C : mMC p R s m args c A v RX12 cX12_fails 3 0 0) (hret : ∀ (H1 : Heap) (locs1 : List Loc) (ls1 : Array Slot) (pc : Nat), mMW s A v a res.2.1 res.2.2 H1 locs1 → narrow .boolean (.int res.1) = .int res.1 → decode cX12_fails pc = .ok (.ireturn, 1) → W p l e R s m args below meth c H1 locs1 0 0 Q (F0 m pc ls1 [.int res.1])) (x1 : Int32) (F : PF) (G : PG) (hm : mb_fails_9 fu x1 F G = some res) {H : Heap} {locs : List Loc} (hw : mMW s A v a F G H locs) {ls : Array Slot} (hl : lv_has ls 3 [(0, .ref (a 212)), (1, .int x1)]) : W p l e R s m args below meth c H locs 0 0 Q (F0 m 9 ls []) := by
  have hx := C.1
  have hb := C.2.1
  unfold mb_fails_9 at hm
  refine lv_aload_n hx hb dX12_fails_9 rfl (lv_at hl 0 rfl) ?_
  refine mg_X12_233 C hw dX12_fails_10 ?_
  refine lv_aload_n hx hb dX12_fails_13 rfl (lv_at hl 0 rfl) ?_
  refine mg_X12_187 C hw dX12_fails_14 ?_
  refine lv_icmp_ne (tgt := 32) hx hb dX12_fails_17 (by decide) (fun c_1 => ?_) (fun c_1 => ?_)
  · have hm := (if_neg c_1).symm.trans hm
    exact mw_fails_32 fu C hret x1 F G hm hw (lv_sub hl [0, 1] rfl)
  · have hm := (if_pos c_1).symm.trans hm
    exact mw_fails_20 fu C hret x1 F G hm hw (lv_sub hl [0, 1] rfl)
theorem mw_fails_7 (fu : Nat) {res : Int32 × PF × PG} (C : mMC p R s m args c A v RX12 cX12_fails 3 0 0) (hret : ∀ (H1 : Heap) (locs1 : List Loc) (ls1 : Array Slot) (pc : Nat), mMW s A v a res.2.1 res.2.2 H1 locs1 → narrow .boolean (.int res.1) = .int res.1 → decode cX12_fails pc = .ok (.ireturn, 1) → W p l e R s m args below meth c H1 locs1 0 0 Q (F0 m pc ls1 [.int res.1])) (F : PF) (G : PG) (hm : mb_fails_7 fu F G = some res) {H : Heap} {locs : List Loc} (hw : mMW s A v a F G H locs) {ls : Array Slot} (hl : lv_has ls 3 []) : W p l e R s m args below meth c H locs 0 0 Q (F0 m 7 ls []) := by
  have hx := C.1
  have hb := C.2.1
  unfold mb_fails_7 at hm
  refine lv_iconst (v := 0) hx hb dX12_fails_7 (by decide) ?_
  obtain rfl := Option.some.inj hm
  exact hret _ _ _ _ hw (b01_nar (v := 0) (Or.inl rfl)) dX12_fails_8
theorem mw_fails_0 (fu : Nat) {res : Int32 × PF × PG} (C : mMC p R s m args c A v RX12 cX12_fails 3 0 0) (hret : ∀ (H1 : Heap) (locs1 : List Loc) (ls1 : Array Slot) (pc : Nat), mMW s A v a res.2.1 res.2.2 H1 locs1 → narrow .boolean (.int res.1) = .int res.1 → decode cX12_fails pc = .ok (.ireturn, 1) → W p l e R s m args below meth c H1 locs1 0 0 Q (F0 m pc ls1 [.int res.1])) (x1 : Int32) (F : PF) (G : PG) (hm : mb_fails_0 fu x1 F G = some res) {H : Heap} {locs : List Loc} (hw : mMW s A v a F G H locs) {ls : Array Slot} (hl : lv_has ls 3 [(0, .ref (a 212)), (1, .int x1)]) : W p l e R s m args below meth c H locs 0 0 Q (F0 m 0 ls []) := by
  have hx := C.1
  have hb := C.2.1
  unfold mb_fails_0 at hm
  refine lv_aload_n hx hb dX12_fails_0 rfl (lv_at hl 0 rfl) ?_
  refine mg_X12_230 C hw dX12_fails_1 ?_
  refine lv_if_le (tgt := 9) hx hb dX12_fails_4 (by decide) (fun c_1 => ?_) (fun c_1 => ?_)
  · have hm := (if_pos c_1).symm.trans hm
    exact mw_fails_9 fu C hret x1 F G hm hw (lv_sub hl [0, 1] rfl)
  · have hm := (if_neg c_1).symm.trans hm
    exact mw_fails_7 fu C hret F G hm hw (lv_sub hl [] rfl)
theorem mk_fails (l : Launch) (v : EV) (a : Nat → Nat) (sz : Nat) (fu : Nat) (x1 : Int32) (F : PF) (G : PG) (r : Int32) (F1 : PF) (G1 : PG) (hm : mf_fails fu x1 F G = some (r, F1, G1)) : mMI l yX12_fails cX12_fails 3 (some .boolean) 0 0 v a sz [.ref (a 212), .int x1] F G r F1 G1 := mMI.of (ty := .boolean) (by decide) rfl (Nat.le_of_ble_eq_true rfl) (fun p e R s m args below meth c Q A H locs ls C hw hl hret => mw_fails_0 fu (res := (r, F1, G1)) C hret x1 F G hm hw hl)
def mb_rank_14 (fu : Nat) (z0 : Int32) (F : PF) (G : PG) : PR := some (z0, F, G)
def mb_rank_11 (fu : Nat) (x0 : Int32) (F : PF) (G : PG) : PR := mb_rank_14 fu ((2 : Int32) * x0) F G
def mb_rank_6 (fu : Nat) (F : PF) (G : PG) : PR := mb_rank_14 fu 11 F G
def mb_rank_0 (fu : Nat) (x0 : Int32) (F : PF) (G : PG) : PR := if x0 = (7 : Int32) then mb_rank_6 fu F G else mb_rank_11 fu x0 F G
def mf_rank (fu : Nat) (x0 : Int32) (F : PF) (G : PG) : PR := mb_rank_0 fu x0 F G
theorem mw_rank_14 (fu : Nat) {res : Int32 × PF × PG} (C : mMC p R s m args c A v RX12 cX12_rank 1 0 0) (hret : ∀ (H1 : Heap) (locs1 : List Loc) (ls1 : Array Slot) (pc : Nat), mMW s A v a res.2.1 res.2.2 H1 locs1 → narrow .int (.int res.1) = .int res.1 → decode cX12_rank pc = .ok (.ireturn, 1) → W p l e R s m args below meth c H1 locs1 0 0 Q (F0 m pc ls1 [.int res.1])) (z0 : Int32) (F : PF) (G : PG) (hm : mb_rank_14 fu z0 F G = some res) {H : Heap} {locs : List Loc} (hw : mMW s A v a F G H locs) {ls : Array Slot} (hl : lv_has ls 1 []) : W p l e R s m args below meth c H locs 0 0 Q (F0 m 14 ls [.int z0]) := by
  have hx := C.1
  have hb := C.2.1
  unfold mb_rank_14 at hm
  obtain rfl := Option.some.inj hm
  exact hret _ _ _ _ hw rfl dX12_rank_14
theorem mw_rank_11 (fu : Nat) {res : Int32 × PF × PG} (C : mMC p R s m args c A v RX12 cX12_rank 1 0 0) (hret : ∀ (H1 : Heap) (locs1 : List Loc) (ls1 : Array Slot) (pc : Nat), mMW s A v a res.2.1 res.2.2 H1 locs1 → narrow .int (.int res.1) = .int res.1 → decode cX12_rank pc = .ok (.ireturn, 1) → W p l e R s m args below meth c H1 locs1 0 0 Q (F0 m pc ls1 [.int res.1])) (x0 : Int32) (F : PF) (G : PG) (hm : mb_rank_11 fu x0 F G = some res) {H : Heap} {locs : List Loc} (hw : mMW s A v a F G H locs) {ls : Array Slot} (hl : lv_has ls 1 [(0, .int x0)]) : W p l e R s m args below meth c H locs 0 0 Q (F0 m 11 ls []) := by
  have hx := C.1
  have hb := C.2.1
  unfold mb_rank_11 at hm
  refine lv_iconst (v := 2) hx hb dX12_rank_11 (by decide) ?_
  refine lv_iload_n hx hb dX12_rank_12 rfl (lv_at hl 0 rfl) ?_
  refine lv_imul hx hb dX12_rank_13 ?_
  exact mw_rank_14 fu C hret ((2 : Int32) * x0) F G hm hw (lv_sub hl [] rfl)
theorem mw_rank_6 (fu : Nat) {res : Int32 × PF × PG} (C : mMC p R s m args c A v RX12 cX12_rank 1 0 0) (hret : ∀ (H1 : Heap) (locs1 : List Loc) (ls1 : Array Slot) (pc : Nat), mMW s A v a res.2.1 res.2.2 H1 locs1 → narrow .int (.int res.1) = .int res.1 → decode cX12_rank pc = .ok (.ireturn, 1) → W p l e R s m args below meth c H1 locs1 0 0 Q (F0 m pc ls1 [.int res.1])) (F : PF) (G : PG) (hm : mb_rank_6 fu F G = some res) {H : Heap} {locs : List Loc} (hw : mMW s A v a F G H locs) {ls : Array Slot} (hl : lv_has ls 1 []) : W p l e R s m args below meth c H locs 0 0 Q (F0 m 6 ls []) := by
  have hx := C.1
  have hb := C.2.1
  unfold mb_rank_6 at hm
  refine lv_bipush (v := 11) hx hb dX12_rank_6 (by decide) ?_
  refine lv_goto (tgt := 14) hx hb dX12_rank_8 (by decide) ?_
  exact mw_rank_14 fu C hret 11 F G hm hw (lv_sub hl [] rfl)
theorem mw_rank_0 (fu : Nat) {res : Int32 × PF × PG} (C : mMC p R s m args c A v RX12 cX12_rank 1 0 0) (hret : ∀ (H1 : Heap) (locs1 : List Loc) (ls1 : Array Slot) (pc : Nat), mMW s A v a res.2.1 res.2.2 H1 locs1 → narrow .int (.int res.1) = .int res.1 → decode cX12_rank pc = .ok (.ireturn, 1) → W p l e R s m args below meth c H1 locs1 0 0 Q (F0 m pc ls1 [.int res.1])) (x0 : Int32) (F : PF) (G : PG) (hm : mb_rank_0 fu x0 F G = some res) {H : Heap} {locs : List Loc} (hw : mMW s A v a F G H locs) {ls : Array Slot} (hl : lv_has ls 1 [(0, .int x0)]) : W p l e R s m args below meth c H locs 0 0 Q (F0 m 0 ls []) := by
  have hx := C.1
  have hb := C.2.1
  unfold mb_rank_0 at hm
  refine lv_iload_n hx hb dX12_rank_0 rfl (lv_at hl 0 rfl) ?_
  refine lv_bipush (v := 7) hx hb dX12_rank_1 (by decide) ?_
  refine lv_icmp_ne (tgt := 11) hx hb dX12_rank_3 (by decide) (fun c_1 => ?_) (fun c_1 => ?_)
  · have hm := (if_neg c_1).symm.trans hm
    exact mw_rank_11 fu C hret x0 F G hm hw (lv_sub hl [0] rfl)
  · have hm := (if_pos c_1).symm.trans hm
    exact mw_rank_6 fu C hret F G hm hw (lv_sub hl [] rfl)
theorem mk_rank (l : Launch) (v : EV) (a : Nat → Nat) (sz : Nat) (fu : Nat) (x0 : Int32) (F : PF) (G : PG) (r : Int32) (F1 : PF) (G1 : PG) (hm : mf_rank fu x0 F G = some (r, F1, G1)) : mMI l yX12_rank cX12_rank 1 (some .int) 0 0 v a sz [.int x0] F G r F1 G1 := mMI.of (ty := .int) (by decide) rfl (Nat.le_of_ble_eq_true rfl) (fun p e R s m args below meth c Q A H locs ls C hw hl hret => mw_rank_0 fu (res := (r, F1, G1)) C hret x0 F G hm hw hl)
def mb_noteAs_38 (fu : Nat) (F : PF) (G : PG) : PR := some (0, F, G)
def mb_noteAs_54 (fu : Nat) (F : PF) (G : PG) : PR := some (0, F, G)
def mb_noteAs_49 (fu : Nat) (x3 : Int32) (F : PF) (G : PG) : PR := mb_noteAs_54 fu (fup F 49 x3) G
def mb_noteAs_44 (fu : Nat) (x2 : Int32) (x3 : Int32) (F : PF) (G : PG) : PR := mb_noteAs_49 fu x3 (fup F 48 x2) G
def mb_noteAs_39 (fu : Nat) (x1 : Int32) (x2 : Int32) (x3 : Int32) (F : PF) (G : PG) : PR := mb_noteAs_44 fu x2 x3 (fup F 47 x1) G
def mb_noteAs_30 (fu : Nat) (x1 : Int32) (x2 : Int32) (x3 : Int32) (F : PF) (G : PG) : PR := if x3 < (F 49) then mb_noteAs_39 fu x1 x2 x3 F G else mb_noteAs_38 fu F G
def mb_noteAs_22 (fu : Nat) (x1 : Int32) (x2 : Int32) (x3 : Int32) (F : PF) (G : PG) : PR := if (F 48) = x2 then mb_noteAs_30 fu x1 x2 x3 F G else mb_noteAs_39 fu x1 x2 x3 F G
def mb_noteAs_14 (fu : Nat) (x1 : Int32) (x2 : Int32) (x3 : Int32) (F : PF) (G : PG) : PR := if (F 48) < x2 then mb_noteAs_38 fu F G else mb_noteAs_22 fu x1 x2 x3 F G
def mb_noteAs_7 (fu : Nat) (x1 : Int32) (x2 : Int32) (x3 : Int32) (F : PF) (G : PG) : PR := if (F 47) ≤ (0 : Int32) then mb_noteAs_39 fu x1 x2 x3 F G else mb_noteAs_14 fu x1 x2 x3 F G
def mb_noteAs_0 (fu : Nat) (x1 : Int32) (x2 : Int32) (x3 : Int32) (F : PF) (G : PG) : PR := if (F 46) = (0 : Int32) then mb_noteAs_38 fu F G else mb_noteAs_7 fu x1 x2 x3 F G
def mf_noteAs (fu : Nat) (x1 : Int32) (x2 : Int32) (x3 : Int32) (F : PF) (G : PG) : PR := mb_noteAs_0 fu x1 x2 x3 F G
theorem mw_noteAs_38 (fu : Nat) {res : Int32 × PF × PG} (C : mMC p R s m args c A v RX12 cX12_noteAs 4 0 0) (hret : ∀ (H1 : Heap) (locs1 : List Loc) (ls1 : Array Slot) (pc : Nat), mMW s A v a res.2.1 res.2.2 H1 locs1 → decode cX12_noteAs pc = .ok (.return_, 1) → W p l e R s m args below meth c H1 locs1 0 0 Q (F0 m pc ls1 [])) (F : PF) (G : PG) (hm : mb_noteAs_38 fu F G = some res) {H : Heap} {locs : List Loc} (hw : mMW s A v a F G H locs) {ls : Array Slot} (hl : lv_has ls 4 []) : W p l e R s m args below meth c H locs 0 0 Q (F0 m 38 ls []) := by
  have hx := C.1
  have hb := C.2.1
  unfold mb_noteAs_38 at hm
  obtain rfl := Option.some.inj hm
  exact hret _ _ _ _ hw dX12_noteAs_38
theorem mw_noteAs_54 (fu : Nat) {res : Int32 × PF × PG} (C : mMC p R s m args c A v RX12 cX12_noteAs 4 0 0) (hret : ∀ (H1 : Heap) (locs1 : List Loc) (ls1 : Array Slot) (pc : Nat), mMW s A v a res.2.1 res.2.2 H1 locs1 → decode cX12_noteAs pc = .ok (.return_, 1) → W p l e R s m args below meth c H1 locs1 0 0 Q (F0 m pc ls1 [])) (F : PF) (G : PG) (hm : mb_noteAs_54 fu F G = some res) {H : Heap} {locs : List Loc} (hw : mMW s A v a F G H locs) {ls : Array Slot} (hl : lv_has ls 4 []) : W p l e R s m args below meth c H locs 0 0 Q (F0 m 54 ls []) := by
  have hx := C.1
  have hb := C.2.1
  unfold mb_noteAs_54 at hm
  obtain rfl := Option.some.inj hm
  exact hret _ _ _ _ hw dX12_noteAs_54
theorem mw_noteAs_49 (fu : Nat) {res : Int32 × PF × PG} (C : mMC p R s m args c A v RX12 cX12_noteAs 4 0 0) (hret : ∀ (H1 : Heap) (locs1 : List Loc) (ls1 : Array Slot) (pc : Nat), mMW s A v a res.2.1 res.2.2 H1 locs1 → decode cX12_noteAs pc = .ok (.return_, 1) → W p l e R s m args below meth c H1 locs1 0 0 Q (F0 m pc ls1 [])) (x3 : Int32) (F : PF) (G : PG) (hm : mb_noteAs_49 fu x3 F G = some res) {H : Heap} {locs : List Loc} (hw : mMW s A v a F G H locs) {ls : Array Slot} (hl : lv_has ls 4 [(0, .ref (a 212)), (3, .int x3)]) : W p l e R s m args below meth c H locs 0 0 Q (F0 m 49 ls []) := by
  have hx := C.1
  have hb := C.2.1
  unfold mb_noteAs_49 at hm
  refine lv_aload_n hx hb dX12_noteAs_49 rfl (lv_at hl 0 rfl) ?_
  refine lv_iload_n hx hb dX12_noteAs_50 rfl (lv_at hl 1 rfl) ?_
  refine mp_X12_254 C hw dX12_noteAs_51 (fun H locs hw => ?_)
  exact mw_noteAs_54 fu C hret (fup F 49 x3) G hm hw (lv_sub hl [] rfl)
theorem mw_noteAs_44 (fu : Nat) {res : Int32 × PF × PG} (C : mMC p R s m args c A v RX12 cX12_noteAs 4 0 0) (hret : ∀ (H1 : Heap) (locs1 : List Loc) (ls1 : Array Slot) (pc : Nat), mMW s A v a res.2.1 res.2.2 H1 locs1 → decode cX12_noteAs pc = .ok (.return_, 1) → W p l e R s m args below meth c H1 locs1 0 0 Q (F0 m pc ls1 [])) (x2 : Int32) (x3 : Int32) (F : PF) (G : PG) (hm : mb_noteAs_44 fu x2 x3 F G = some res) {H : Heap} {locs : List Loc} (hw : mMW s A v a F G H locs) {ls : Array Slot} (hl : lv_has ls 4 [(0, .ref (a 212)), (2, .int x2), (3, .int x3)]) : W p l e R s m args below meth c H locs 0 0 Q (F0 m 44 ls []) := by
  have hx := C.1
  have hb := C.2.1
  unfold mb_noteAs_44 at hm
  refine lv_aload_n hx hb dX12_noteAs_44 rfl (lv_at hl 0 rfl) ?_
  refine lv_iload_n hx hb dX12_noteAs_45 rfl (lv_at hl 1 rfl) ?_
  refine mp_X12_251 C hw dX12_noteAs_46 (fun H locs hw => ?_)
  exact mw_noteAs_49 fu C hret x3 (fup F 48 x2) G hm hw (lv_sub hl [0, 2] rfl)
theorem mw_noteAs_39 (fu : Nat) {res : Int32 × PF × PG} (C : mMC p R s m args c A v RX12 cX12_noteAs 4 0 0) (hret : ∀ (H1 : Heap) (locs1 : List Loc) (ls1 : Array Slot) (pc : Nat), mMW s A v a res.2.1 res.2.2 H1 locs1 → decode cX12_noteAs pc = .ok (.return_, 1) → W p l e R s m args below meth c H1 locs1 0 0 Q (F0 m pc ls1 [])) (x1 : Int32) (x2 : Int32) (x3 : Int32) (F : PF) (G : PG) (hm : mb_noteAs_39 fu x1 x2 x3 F G = some res) {H : Heap} {locs : List Loc} (hw : mMW s A v a F G H locs) {ls : Array Slot} (hl : lv_has ls 4 [(0, .ref (a 212)), (1, .int x1), (2, .int x2), (3, .int x3)]) : W p l e R s m args below meth c H locs 0 0 Q (F0 m 39 ls []) := by
  have hx := C.1
  have hb := C.2.1
  unfold mb_noteAs_39 at hm
  refine lv_aload_n hx hb dX12_noteAs_39 rfl (lv_at hl 0 rfl) ?_
  refine lv_iload_n hx hb dX12_noteAs_40 rfl (lv_at hl 1 rfl) ?_
  refine mp_X12_248 C hw dX12_noteAs_41 (fun H locs hw => ?_)
  exact mw_noteAs_44 fu C hret x2 x3 (fup F 47 x1) G hm hw (lv_sub hl [0, 2, 3] rfl)
theorem mw_noteAs_30 (fu : Nat) {res : Int32 × PF × PG} (C : mMC p R s m args c A v RX12 cX12_noteAs 4 0 0) (hret : ∀ (H1 : Heap) (locs1 : List Loc) (ls1 : Array Slot) (pc : Nat), mMW s A v a res.2.1 res.2.2 H1 locs1 → decode cX12_noteAs pc = .ok (.return_, 1) → W p l e R s m args below meth c H1 locs1 0 0 Q (F0 m pc ls1 [])) (x1 : Int32) (x2 : Int32) (x3 : Int32) (F : PF) (G : PG) (hm : mb_noteAs_30 fu x1 x2 x3 F G = some res) {H : Heap} {locs : List Loc} (hw : mMW s A v a F G H locs) {ls : Array Slot} (hl : lv_has ls 4 [(0, .ref (a 212)), (1, .int x1), (2, .int x2), (3, .int x3)]) : W p l e R s m args below meth c H locs 0 0 Q (F0 m 30 ls []) := by
  have hx := C.1
  have hb := C.2.1
  unfold mb_noteAs_30 at hm
  refine lv_aload_n hx hb dX12_noteAs_30 rfl (lv_at hl 0 rfl) ?_
  refine mg_X12_254 C hw dX12_noteAs_31 ?_
  refine lv_iload_n hx hb dX12_noteAs_34 rfl (lv_at hl 3 rfl) ?_
  refine lv_icmp_gt (tgt := 39) hx hb dX12_noteAs_35 (by decide) (fun c_1 => ?_) (fun c_1 => ?_)
  · have hm := (if_pos c_1).symm.trans hm
    exact mw_noteAs_39 fu C hret x1 x2 x3 F G hm hw (lv_sub hl [0, 1, 2, 3] rfl)
  · have hm := (if_neg c_1).symm.trans hm
    exact mw_noteAs_38 fu C hret F G hm hw (lv_sub hl [] rfl)
theorem mw_noteAs_22 (fu : Nat) {res : Int32 × PF × PG} (C : mMC p R s m args c A v RX12 cX12_noteAs 4 0 0) (hret : ∀ (H1 : Heap) (locs1 : List Loc) (ls1 : Array Slot) (pc : Nat), mMW s A v a res.2.1 res.2.2 H1 locs1 → decode cX12_noteAs pc = .ok (.return_, 1) → W p l e R s m args below meth c H1 locs1 0 0 Q (F0 m pc ls1 [])) (x1 : Int32) (x2 : Int32) (x3 : Int32) (F : PF) (G : PG) (hm : mb_noteAs_22 fu x1 x2 x3 F G = some res) {H : Heap} {locs : List Loc} (hw : mMW s A v a F G H locs) {ls : Array Slot} (hl : lv_has ls 4 [(0, .ref (a 212)), (1, .int x1), (2, .int x2), (3, .int x3)]) : W p l e R s m args below meth c H locs 0 0 Q (F0 m 22 ls []) := by
  have hx := C.1
  have hb := C.2.1
  unfold mb_noteAs_22 at hm
  refine lv_aload_n hx hb dX12_noteAs_22 rfl (lv_at hl 0 rfl) ?_
  refine mg_X12_251 C hw dX12_noteAs_23 ?_
  refine lv_iload_n hx hb dX12_noteAs_26 rfl (lv_at hl 2 rfl) ?_
  refine lv_icmp_ne (tgt := 39) hx hb dX12_noteAs_27 (by decide) (fun c_1 => ?_) (fun c_1 => ?_)
  · have hm := (if_neg c_1).symm.trans hm
    exact mw_noteAs_39 fu C hret x1 x2 x3 F G hm hw (lv_sub hl [0, 1, 2, 3] rfl)
  · have hm := (if_pos c_1).symm.trans hm
    exact mw_noteAs_30 fu C hret x1 x2 x3 F G hm hw (lv_sub hl [0, 1, 2, 3] rfl)
theorem mw_noteAs_14 (fu : Nat) {res : Int32 × PF × PG} (C : mMC p R s m args c A v RX12 cX12_noteAs 4 0 0) (hret : ∀ (H1 : Heap) (locs1 : List Loc) (ls1 : Array Slot) (pc : Nat), mMW s A v a res.2.1 res.2.2 H1 locs1 → decode cX12_noteAs pc = .ok (.return_, 1) → W p l e R s m args below meth c H1 locs1 0 0 Q (F0 m pc ls1 [])) (x1 : Int32) (x2 : Int32) (x3 : Int32) (F : PF) (G : PG) (hm : mb_noteAs_14 fu x1 x2 x3 F G = some res) {H : Heap} {locs : List Loc} (hw : mMW s A v a F G H locs) {ls : Array Slot} (hl : lv_has ls 4 [(0, .ref (a 212)), (1, .int x1), (2, .int x2), (3, .int x3)]) : W p l e R s m args below meth c H locs 0 0 Q (F0 m 14 ls []) := by
  have hx := C.1
  have hb := C.2.1
  unfold mb_noteAs_14 at hm
  refine lv_aload_n hx hb dX12_noteAs_14 rfl (lv_at hl 0 rfl) ?_
  refine mg_X12_251 C hw dX12_noteAs_15 ?_
  refine lv_iload_n hx hb dX12_noteAs_18 rfl (lv_at hl 2 rfl) ?_
  refine lv_icmp_lt (tgt := 38) hx hb dX12_noteAs_19 (by decide) (fun c_1 => ?_) (fun c_1 => ?_)
  · have hm := (if_pos c_1).symm.trans hm
    exact mw_noteAs_38 fu C hret F G hm hw (lv_sub hl [] rfl)
  · have hm := (if_neg c_1).symm.trans hm
    exact mw_noteAs_22 fu C hret x1 x2 x3 F G hm hw (lv_sub hl [0, 1, 2, 3] rfl)
theorem mw_noteAs_7 (fu : Nat) {res : Int32 × PF × PG} (C : mMC p R s m args c A v RX12 cX12_noteAs 4 0 0) (hret : ∀ (H1 : Heap) (locs1 : List Loc) (ls1 : Array Slot) (pc : Nat), mMW s A v a res.2.1 res.2.2 H1 locs1 → decode cX12_noteAs pc = .ok (.return_, 1) → W p l e R s m args below meth c H1 locs1 0 0 Q (F0 m pc ls1 [])) (x1 : Int32) (x2 : Int32) (x3 : Int32) (F : PF) (G : PG) (hm : mb_noteAs_7 fu x1 x2 x3 F G = some res) {H : Heap} {locs : List Loc} (hw : mMW s A v a F G H locs) {ls : Array Slot} (hl : lv_has ls 4 [(0, .ref (a 212)), (1, .int x1), (2, .int x2), (3, .int x3)]) : W p l e R s m args below meth c H locs 0 0 Q (F0 m 7 ls []) := by
  have hx := C.1
  have hb := C.2.1
  unfold mb_noteAs_7 at hm
  refine lv_aload_n hx hb dX12_noteAs_7 rfl (lv_at hl 0 rfl) ?_
  refine mg_X12_248 C hw dX12_noteAs_8 ?_
  refine lv_if_le (tgt := 39) hx hb dX12_noteAs_11 (by decide) (fun c_1 => ?_) (fun c_1 => ?_)
  · have hm := (if_pos c_1).symm.trans hm
    exact mw_noteAs_39 fu C hret x1 x2 x3 F G hm hw (lv_sub hl [0, 1, 2, 3] rfl)
  · have hm := (if_neg c_1).symm.trans hm
    exact mw_noteAs_14 fu C hret x1 x2 x3 F G hm hw (lv_sub hl [0, 1, 2, 3] rfl)
theorem mw_noteAs_0 (fu : Nat) {res : Int32 × PF × PG} (C : mMC p R s m args c A v RX12 cX12_noteAs 4 0 0) (hret : ∀ (H1 : Heap) (locs1 : List Loc) (ls1 : Array Slot) (pc : Nat), mMW s A v a res.2.1 res.2.2 H1 locs1 → decode cX12_noteAs pc = .ok (.return_, 1) → W p l e R s m args below meth c H1 locs1 0 0 Q (F0 m pc ls1 [])) (x1 : Int32) (x2 : Int32) (x3 : Int32) (F : PF) (G : PG) (hm : mb_noteAs_0 fu x1 x2 x3 F G = some res) {H : Heap} {locs : List Loc} (hw : mMW s A v a F G H locs) {ls : Array Slot} (hl : lv_has ls 4 [(0, .ref (a 212)), (1, .int x1), (2, .int x2), (3, .int x3)]) : W p l e R s m args below meth c H locs 0 0 Q (F0 m 0 ls []) := by
  have hx := C.1
  have hb := C.2.1
  unfold mb_noteAs_0 at hm
  refine lv_aload_n hx hb dX12_noteAs_0 rfl (lv_at hl 0 rfl) ?_
  refine mg_X12_245 C hw dX12_noteAs_1 ?_
  refine lv_if_eq (tgt := 38) hx hb dX12_noteAs_4 (by decide) (fun c_1 => ?_) (fun c_1 => ?_)
  · have hm := (if_pos c_1).symm.trans hm
    exact mw_noteAs_38 fu C hret F G hm hw (lv_sub hl [] rfl)
  · have hm := (if_neg c_1).symm.trans hm
    exact mw_noteAs_7 fu C hret x1 x2 x3 F G hm hw (lv_sub hl [0, 1, 2, 3] rfl)
theorem mk_noteAs (l : Launch) (v : EV) (a : Nat → Nat) (sz : Nat) (fu : Nat) (x1 : Int32) (x2 : Int32) (x3 : Int32) (F : PF) (G : PG) (r : Int32) (F1 : PF) (G1 : PG) (hm : mf_noteAs fu x1 x2 x3 F G = some (r, F1, G1)) : mMV l yX12_noteAs cX12_noteAs 4 0 0 v a sz [.ref (a 212), .int x1, .int x2, .int x3] F G F1 G1 := mMV.of (by decide) (Nat.le_of_ble_eq_true rfl) (fun p e R s m args below meth c Q A H locs ls C hw hl hret => mw_noteAs_0 fu (res := (r, F1, G1)) C hret x1 x2 x3 F G hm hw hl)
def mb_note_10 (fu : Nat) (F : PF) (G : PG) : PR := some (0, F, G)
def mb_note_7 (fu : Nat) (z0 : Int32) (z1 : Int32) (z2 : Int32) (F : PF) (G : PG) : PR := (mf_noteAs fu z2 z1 z0 F G).bind (fun q => mb_note_10 fu q.2.1 q.2.2)
def mb_note_0 (fu : Nat) (x1 : Int32) (x2 : Int32) (F : PF) (G : PG) : PR := (mf_rank fu x1 F G).bind (fun q => mb_note_7 fu q.1 x2 x1 q.2.1 q.2.2)
def mf_note (fu : Nat) (x1 : Int32) (x2 : Int32) (F : PF) (G : PG) : PR := mb_note_0 fu x1 x2 F G
theorem mw_note_10 (fu : Nat) {res : Int32 × PF × PG} (C : mMC p R s m args c A v RX12 cX12_note 3 1 23) (hret : ∀ (H1 : Heap) (locs1 : List Loc) (ls1 : Array Slot) (pc : Nat), mMW s A v a res.2.1 res.2.2 H1 locs1 → decode cX12_note pc = .ok (.return_, 1) → W p l e R s m args below meth c H1 locs1 0 0 Q (F0 m pc ls1 [])) (F : PF) (G : PG) (hm : mb_note_10 fu F G = some res) {H : Heap} {locs : List Loc} (hw : mMW s A v a F G H locs) {ls : Array Slot} (hl : lv_has ls 3 []) : W p l e R s m args below meth c H locs 0 0 Q (F0 m 10 ls []) := by
  have hx := C.1
  have hb := C.2.1
  unfold mb_note_10 at hm
  obtain rfl := Option.some.inj hm
  exact hret _ _ _ _ hw dX12_note_10
theorem mw_note_7 (fu : Nat) {res : Int32 × PF × PG} (C : mMC p R s m args c A v RX12 cX12_note 3 1 23) (hret : ∀ (H1 : Heap) (locs1 : List Loc) (ls1 : Array Slot) (pc : Nat), mMW s A v a res.2.1 res.2.2 H1 locs1 → decode cX12_note pc = .ok (.return_, 1) → W p l e R s m args below meth c H1 locs1 0 0 Q (F0 m pc ls1 [])) (z0 : Int32) (z1 : Int32) (z2 : Int32) (F : PF) (G : PG) (hm : mb_note_7 fu z0 z1 z2 F G = some res) {H : Heap} {locs : List Loc} (hw : mMW s A v a F G H locs) {ls : Array Slot} (hl : lv_has ls 3 []) : W p l e R s m args below meth c H locs 0 0 Q (F0 m 7 ls [.int z0, .int z1, .int z2, .ref (a 212)]) := by
  have hx := C.1
  have hb := C.2.1
  unfold mb_note_7 at hm
  obtain ⟨⟨r1, F1, G1⟩, hc, hm⟩ := bind_elim hm
  refine mcallV (n := 3) (As := [.int z2, .int z1, .int z0]) (rest := []) C hw (mk_noteAs l v a _ fu z2 z1 z0 F G r1 F1 G1 hc) (mrecv_X12 C hw) mm_227 mm_228 mm_229 mm_27 mm_230 (by decide +kernel) rfl (by omega) (by omega) hl.1 rfl (Nat.le_of_ble_eq_true rfl) dX12_note_7 (fun H locs hw => ?_)
  exact mw_note_10 fu C hret F1 G1 hm hw (lv_sub hl [] rfl)
theorem mw_note_0 (fu : Nat) {res : Int32 × PF × PG} (C : mMC p R s m args c A v RX12 cX12_note 3 1 23) (hret : ∀ (H1 : Heap) (locs1 : List Loc) (ls1 : Array Slot) (pc : Nat), mMW s A v a res.2.1 res.2.2 H1 locs1 → decode cX12_note pc = .ok (.return_, 1) → W p l e R s m args below meth c H1 locs1 0 0 Q (F0 m pc ls1 [])) (x1 : Int32) (x2 : Int32) (F : PF) (G : PG) (hm : mb_note_0 fu x1 x2 F G = some res) {H : Heap} {locs : List Loc} (hw : mMW s A v a F G H locs) {ls : Array Slot} (hl : lv_has ls 3 [(0, .ref (a 212)), (1, .int x1), (2, .int x2)]) : W p l e R s m args below meth c H locs 0 0 Q (F0 m 0 ls []) := by
  have hx := C.1
  have hb := C.2.1
  unfold mb_note_0 at hm
  refine lv_aload_n hx hb dX12_note_0 rfl (lv_at hl 0 rfl) ?_
  refine lv_iload_n hx hb dX12_note_1 rfl (lv_at hl 1 rfl) ?_
  refine lv_iload_n hx hb dX12_note_2 rfl (lv_at hl 2 rfl) ?_
  refine lv_iload_n hx hb dX12_note_3 rfl (lv_at hl 1 rfl) ?_
  obtain ⟨⟨r1, F1, G1⟩, hc, hm⟩ := bind_elim hm
  refine mcallIS (n := 1) (As := [.int x1]) (rest := [.int x2, .int x1, .ref (a 212)]) C hw (mk_rank l v a _ fu x1 F G r1 F1 G1 hc) mm_224 mm_225 mm_27 mm_226 (by decide +kernel) rfl (by omega) (by omega) hl.1 rfl (Nat.le_of_ble_eq_true rfl) dX12_note_4 (fun H locs hw => ?_)
  exact mw_note_7 fu C hret r1 x2 x1 F1 G1 hm hw (lv_sub hl [] rfl)
theorem mk_note (l : Launch) (v : EV) (a : Nat → Nat) (sz : Nat) (fu : Nat) (x1 : Int32) (x2 : Int32) (F : PF) (G : PG) (r : Int32) (F1 : PF) (G1 : PG) (hm : mf_note fu x1 x2 F G = some (r, F1, G1)) : mMV l yX12_note cX12_note 3 1 23 v a sz [.ref (a 212), .int x1, .int x2] F G F1 G1 := mMV.of (by decide) (Nat.le_of_ble_eq_true rfl) (fun p e R s m args below meth c Q A H locs ls C hw hl hret => mw_note_0 fu (res := (r, F1, G1)) C hret x1 x2 F G hm hw hl)
def mb_isSign_31 (fu : Nat) (z0 : Int32) (F : PF) (G : PG) : PR := if b01 z0 = true then (some (z0, F, G)) else none
def mb_isSign_30 (fu : Nat) (F : PF) (G : PG) : PR := mb_isSign_31 fu 0 F G
def mb_isSign_26 (fu : Nat) (F : PF) (G : PG) : PR := mb_isSign_31 fu 1 F G
def mb_isSign_13 (fu : Nat) (x1 : Int32) (F : PF) (G : PG) : PR := if ixb (F 42) 4002 = true then (if (G 5 (F 42).toNatClampNeg) = x1 then mb_isSign_26 fu F G else mb_isSign_30 fu F G) else none
def mb_isSign_0 (fu : Nat) (x1 : Int32) (F : PF) (G : PG) : PR := if ixb (F 42) 4002 = true then (if (G 4 (F 42).toNatClampNeg) = (4 : Int32) then mb_isSign_13 fu x1 F G else mb_isSign_30 fu F G) else none
def mf_isSign (fu : Nat) (x1 : Int32) (F : PF) (G : PG) : PR := mb_isSign_0 fu x1 F G
theorem mw_isSign_31 (fu : Nat) {res : Int32 × PF × PG} (C : mMC p R s m args c A v RX12 cX12_isSign 2 0 0) (hret : ∀ (H1 : Heap) (locs1 : List Loc) (ls1 : Array Slot) (pc : Nat), mMW s A v a res.2.1 res.2.2 H1 locs1 → narrow .boolean (.int res.1) = .int res.1 → decode cX12_isSign pc = .ok (.ireturn, 1) → W p l e R s m args below meth c H1 locs1 0 0 Q (F0 m pc ls1 [.int res.1])) (z0 : Int32) (F : PF) (G : PG) (hm : mb_isSign_31 fu z0 F G = some res) {H : Heap} {locs : List Loc} (hw : mMW s A v a F G H locs) {ls : Array Slot} (hl : lv_has ls 2 []) : W p l e R s m args below meth c H locs 0 0 Q (F0 m 31 ls [.int z0]) := by
  have hx := C.1
  have hb := C.2.1
  unfold mb_isSign_31 at hm
  obtain ⟨hz, hm⟩ := b01_elim hm
  obtain rfl := Option.some.inj hm
  exact hret _ _ _ _ hw (b01_nar hz) dX12_isSign_31
theorem mw_isSign_30 (fu : Nat) {res : Int32 × PF × PG} (C : mMC p R s m args c A v RX12 cX12_isSign 2 0 0) (hret : ∀ (H1 : Heap) (locs1 : List Loc) (ls1 : Array Slot) (pc : Nat), mMW s A v a res.2.1 res.2.2 H1 locs1 → narrow .boolean (.int res.1) = .int res.1 → decode cX12_isSign pc = .ok (.ireturn, 1) → W p l e R s m args below meth c H1 locs1 0 0 Q (F0 m pc ls1 [.int res.1])) (F : PF) (G : PG) (hm : mb_isSign_30 fu F G = some res) {H : Heap} {locs : List Loc} (hw : mMW s A v a F G H locs) {ls : Array Slot} (hl : lv_has ls 2 []) : W p l e R s m args below meth c H locs 0 0 Q (F0 m 30 ls []) := by
  have hx := C.1
  have hb := C.2.1
  unfold mb_isSign_30 at hm
  refine lv_iconst (v := 0) hx hb dX12_isSign_30 (by decide) ?_
  exact mw_isSign_31 fu C hret 0 F G hm hw (lv_sub hl [] rfl)
theorem mw_isSign_26 (fu : Nat) {res : Int32 × PF × PG} (C : mMC p R s m args c A v RX12 cX12_isSign 2 0 0) (hret : ∀ (H1 : Heap) (locs1 : List Loc) (ls1 : Array Slot) (pc : Nat), mMW s A v a res.2.1 res.2.2 H1 locs1 → narrow .boolean (.int res.1) = .int res.1 → decode cX12_isSign pc = .ok (.ireturn, 1) → W p l e R s m args below meth c H1 locs1 0 0 Q (F0 m pc ls1 [.int res.1])) (F : PF) (G : PG) (hm : mb_isSign_26 fu F G = some res) {H : Heap} {locs : List Loc} (hw : mMW s A v a F G H locs) {ls : Array Slot} (hl : lv_has ls 2 []) : W p l e R s m args below meth c H locs 0 0 Q (F0 m 26 ls []) := by
  have hx := C.1
  have hb := C.2.1
  unfold mb_isSign_26 at hm
  refine lv_iconst (v := 1) hx hb dX12_isSign_26 (by decide) ?_
  refine lv_goto (tgt := 31) hx hb dX12_isSign_27 (by decide) ?_
  exact mw_isSign_31 fu C hret 1 F G hm hw (lv_sub hl [] rfl)
theorem mw_isSign_13 (fu : Nat) {res : Int32 × PF × PG} (C : mMC p R s m args c A v RX12 cX12_isSign 2 0 0) (hret : ∀ (H1 : Heap) (locs1 : List Loc) (ls1 : Array Slot) (pc : Nat), mMW s A v a res.2.1 res.2.2 H1 locs1 → narrow .boolean (.int res.1) = .int res.1 → decode cX12_isSign pc = .ok (.ireturn, 1) → W p l e R s m args below meth c H1 locs1 0 0 Q (F0 m pc ls1 [.int res.1])) (x1 : Int32) (F : PF) (G : PG) (hm : mb_isSign_13 fu x1 F G = some res) {H : Heap} {locs : List Loc} (hw : mMW s A v a F G H locs) {ls : Array Slot} (hl : lv_has ls 2 [(0, .ref (a 212)), (1, .int x1)]) : W p l e R s m args below meth c H locs 0 0 Q (F0 m 13 ls []) := by
  have hx := C.1
  have hb := C.2.1
  unfold mb_isSign_13 at hm
  refine lv_aload_n hx hb dX12_isSign_13 rfl (lv_at hl 0 rfl) ?_
  refine mg_X12_19 C hw dX12_isSign_14 ?_
  refine lv_aload_n hx hb dX12_isSign_17 rfl (lv_at hl 0 rfl) ?_
  refine mg_X12_233 C hw dX12_isSign_18 ?_
  obtain ⟨hi, hm⟩ := ix_elim hm
  refine mal_5 C hw hi dX12_isSign_21 ?_
  refine lv_iload_n hx hb dX12_isSign_22 rfl (lv_at hl 1 rfl) ?_
  refine lv_icmp_ne (tgt := 30) hx hb dX12_isSign_23 (by decide) (fun c_1 => ?_) (fun c_1 => ?_)
  · have hm := (if_neg c_1).symm.trans hm
    exact mw_isSign_30 fu C hret F G hm hw (lv_sub hl [] rfl)
  · have hm := (if_pos c_1).symm.trans hm
    exact mw_isSign_26 fu C hret F G hm hw (lv_sub hl [] rfl)
theorem mw_isSign_0 (fu : Nat) {res : Int32 × PF × PG} (C : mMC p R s m args c A v RX12 cX12_isSign 2 0 0) (hret : ∀ (H1 : Heap) (locs1 : List Loc) (ls1 : Array Slot) (pc : Nat), mMW s A v a res.2.1 res.2.2 H1 locs1 → narrow .boolean (.int res.1) = .int res.1 → decode cX12_isSign pc = .ok (.ireturn, 1) → W p l e R s m args below meth c H1 locs1 0 0 Q (F0 m pc ls1 [.int res.1])) (x1 : Int32) (F : PF) (G : PG) (hm : mb_isSign_0 fu x1 F G = some res) {H : Heap} {locs : List Loc} (hw : mMW s A v a F G H locs) {ls : Array Slot} (hl : lv_has ls 2 [(0, .ref (a 212)), (1, .int x1)]) : W p l e R s m args below meth c H locs 0 0 Q (F0 m 0 ls []) := by
  have hx := C.1
  have hb := C.2.1
  unfold mb_isSign_0 at hm
  refine lv_aload_n hx hb dX12_isSign_0 rfl (lv_at hl 0 rfl) ?_
  refine mg_X12_16 C hw dX12_isSign_1 ?_
  refine lv_aload_n hx hb dX12_isSign_4 rfl (lv_at hl 0 rfl) ?_
  refine mg_X12_233 C hw dX12_isSign_5 ?_
  obtain ⟨hi, hm⟩ := ix_elim hm
  refine mal_4 C hw hi dX12_isSign_8 ?_
  refine lv_iconst (v := 4) hx hb dX12_isSign_9 (by decide) ?_
  refine lv_icmp_ne (tgt := 30) hx hb dX12_isSign_10 (by decide) (fun c_1 => ?_) (fun c_1 => ?_)
  · have hm := (if_neg c_1).symm.trans hm
    exact mw_isSign_30 fu C hret F G hm hw (lv_sub hl [] rfl)
  · have hm := (if_pos c_1).symm.trans hm
    exact mw_isSign_13 fu C hret x1 F G hm hw (lv_sub hl [0, 1] rfl)
theorem mk_isSign (l : Launch) (v : EV) (a : Nat → Nat) (sz : Nat) (fu : Nat) (x1 : Int32) (F : PF) (G : PG) (r : Int32) (F1 : PF) (G1 : PG) (hm : mf_isSign fu x1 F G = some (r, F1, G1)) : mMI l yX12_isSign cX12_isSign 2 (some .boolean) 0 0 v a sz [.ref (a 212), .int x1] F G r F1 G1 := mMI.of (ty := .boolean) (by decide) rfl (Nat.le_of_ble_eq_true rfl) (fun p e R s m args below meth c Q A H locs ls C hw hl hret => mw_isSign_0 fu (res := (r, F1, G1)) C hret x1 F G hm hw hl)
def mb_isWord_31 (fu : Nat) (z0 : Int32) (F : PF) (G : PG) : PR := if b01 z0 = true then (some (z0, F, G)) else none
def mb_isWord_30 (fu : Nat) (F : PF) (G : PG) : PR := mb_isWord_31 fu 0 F G
def mb_isWord_26 (fu : Nat) (F : PF) (G : PG) : PR := mb_isWord_31 fu 1 F G
def mb_isWord_13 (fu : Nat) (x1 : Int32) (F : PF) (G : PG) : PR := if ixb (F 42) 4002 = true then (if (G 5 (F 42).toNatClampNeg) = x1 then mb_isWord_26 fu F G else mb_isWord_30 fu F G) else none
def mb_isWord_0 (fu : Nat) (x1 : Int32) (F : PF) (G : PG) : PR := if ixb (F 42) 4002 = true then (if (G 4 (F 42).toNatClampNeg) = (2 : Int32) then mb_isWord_13 fu x1 F G else mb_isWord_30 fu F G) else none
def mf_isWord (fu : Nat) (x1 : Int32) (F : PF) (G : PG) : PR := mb_isWord_0 fu x1 F G
theorem mw_isWord_31 (fu : Nat) {res : Int32 × PF × PG} (C : mMC p R s m args c A v RX12 cX12_isWord 2 0 0) (hret : ∀ (H1 : Heap) (locs1 : List Loc) (ls1 : Array Slot) (pc : Nat), mMW s A v a res.2.1 res.2.2 H1 locs1 → narrow .boolean (.int res.1) = .int res.1 → decode cX12_isWord pc = .ok (.ireturn, 1) → W p l e R s m args below meth c H1 locs1 0 0 Q (F0 m pc ls1 [.int res.1])) (z0 : Int32) (F : PF) (G : PG) (hm : mb_isWord_31 fu z0 F G = some res) {H : Heap} {locs : List Loc} (hw : mMW s A v a F G H locs) {ls : Array Slot} (hl : lv_has ls 2 []) : W p l e R s m args below meth c H locs 0 0 Q (F0 m 31 ls [.int z0]) := by
  have hx := C.1
  have hb := C.2.1
  unfold mb_isWord_31 at hm
  obtain ⟨hz, hm⟩ := b01_elim hm
  obtain rfl := Option.some.inj hm
  exact hret _ _ _ _ hw (b01_nar hz) dX12_isWord_31
theorem mw_isWord_30 (fu : Nat) {res : Int32 × PF × PG} (C : mMC p R s m args c A v RX12 cX12_isWord 2 0 0) (hret : ∀ (H1 : Heap) (locs1 : List Loc) (ls1 : Array Slot) (pc : Nat), mMW s A v a res.2.1 res.2.2 H1 locs1 → narrow .boolean (.int res.1) = .int res.1 → decode cX12_isWord pc = .ok (.ireturn, 1) → W p l e R s m args below meth c H1 locs1 0 0 Q (F0 m pc ls1 [.int res.1])) (F : PF) (G : PG) (hm : mb_isWord_30 fu F G = some res) {H : Heap} {locs : List Loc} (hw : mMW s A v a F G H locs) {ls : Array Slot} (hl : lv_has ls 2 []) : W p l e R s m args below meth c H locs 0 0 Q (F0 m 30 ls []) := by
  have hx := C.1
  have hb := C.2.1
  unfold mb_isWord_30 at hm
  refine lv_iconst (v := 0) hx hb dX12_isWord_30 (by decide) ?_
  exact mw_isWord_31 fu C hret 0 F G hm hw (lv_sub hl [] rfl)
theorem mw_isWord_26 (fu : Nat) {res : Int32 × PF × PG} (C : mMC p R s m args c A v RX12 cX12_isWord 2 0 0) (hret : ∀ (H1 : Heap) (locs1 : List Loc) (ls1 : Array Slot) (pc : Nat), mMW s A v a res.2.1 res.2.2 H1 locs1 → narrow .boolean (.int res.1) = .int res.1 → decode cX12_isWord pc = .ok (.ireturn, 1) → W p l e R s m args below meth c H1 locs1 0 0 Q (F0 m pc ls1 [.int res.1])) (F : PF) (G : PG) (hm : mb_isWord_26 fu F G = some res) {H : Heap} {locs : List Loc} (hw : mMW s A v a F G H locs) {ls : Array Slot} (hl : lv_has ls 2 []) : W p l e R s m args below meth c H locs 0 0 Q (F0 m 26 ls []) := by
  have hx := C.1
  have hb := C.2.1
  unfold mb_isWord_26 at hm
  refine lv_iconst (v := 1) hx hb dX12_isWord_26 (by decide) ?_
  refine lv_goto (tgt := 31) hx hb dX12_isWord_27 (by decide) ?_
  exact mw_isWord_31 fu C hret 1 F G hm hw (lv_sub hl [] rfl)
theorem mw_isWord_13 (fu : Nat) {res : Int32 × PF × PG} (C : mMC p R s m args c A v RX12 cX12_isWord 2 0 0) (hret : ∀ (H1 : Heap) (locs1 : List Loc) (ls1 : Array Slot) (pc : Nat), mMW s A v a res.2.1 res.2.2 H1 locs1 → narrow .boolean (.int res.1) = .int res.1 → decode cX12_isWord pc = .ok (.ireturn, 1) → W p l e R s m args below meth c H1 locs1 0 0 Q (F0 m pc ls1 [.int res.1])) (x1 : Int32) (F : PF) (G : PG) (hm : mb_isWord_13 fu x1 F G = some res) {H : Heap} {locs : List Loc} (hw : mMW s A v a F G H locs) {ls : Array Slot} (hl : lv_has ls 2 [(0, .ref (a 212)), (1, .int x1)]) : W p l e R s m args below meth c H locs 0 0 Q (F0 m 13 ls []) := by
  have hx := C.1
  have hb := C.2.1
  unfold mb_isWord_13 at hm
  refine lv_aload_n hx hb dX12_isWord_13 rfl (lv_at hl 0 rfl) ?_
  refine mg_X12_19 C hw dX12_isWord_14 ?_
  refine lv_aload_n hx hb dX12_isWord_17 rfl (lv_at hl 0 rfl) ?_
  refine mg_X12_233 C hw dX12_isWord_18 ?_
  obtain ⟨hi, hm⟩ := ix_elim hm
  refine mal_5 C hw hi dX12_isWord_21 ?_
  refine lv_iload_n hx hb dX12_isWord_22 rfl (lv_at hl 1 rfl) ?_
  refine lv_icmp_ne (tgt := 30) hx hb dX12_isWord_23 (by decide) (fun c_1 => ?_) (fun c_1 => ?_)
  · have hm := (if_neg c_1).symm.trans hm
    exact mw_isWord_30 fu C hret F G hm hw (lv_sub hl [] rfl)
  · have hm := (if_pos c_1).symm.trans hm
    exact mw_isWord_26 fu C hret F G hm hw (lv_sub hl [] rfl)
theorem mw_isWord_0 (fu : Nat) {res : Int32 × PF × PG} (C : mMC p R s m args c A v RX12 cX12_isWord 2 0 0) (hret : ∀ (H1 : Heap) (locs1 : List Loc) (ls1 : Array Slot) (pc : Nat), mMW s A v a res.2.1 res.2.2 H1 locs1 → narrow .boolean (.int res.1) = .int res.1 → decode cX12_isWord pc = .ok (.ireturn, 1) → W p l e R s m args below meth c H1 locs1 0 0 Q (F0 m pc ls1 [.int res.1])) (x1 : Int32) (F : PF) (G : PG) (hm : mb_isWord_0 fu x1 F G = some res) {H : Heap} {locs : List Loc} (hw : mMW s A v a F G H locs) {ls : Array Slot} (hl : lv_has ls 2 [(0, .ref (a 212)), (1, .int x1)]) : W p l e R s m args below meth c H locs 0 0 Q (F0 m 0 ls []) := by
  have hx := C.1
  have hb := C.2.1
  unfold mb_isWord_0 at hm
  refine lv_aload_n hx hb dX12_isWord_0 rfl (lv_at hl 0 rfl) ?_
  refine mg_X12_16 C hw dX12_isWord_1 ?_
  refine lv_aload_n hx hb dX12_isWord_4 rfl (lv_at hl 0 rfl) ?_
  refine mg_X12_233 C hw dX12_isWord_5 ?_
  obtain ⟨hi, hm⟩ := ix_elim hm
  refine mal_4 C hw hi dX12_isWord_8 ?_
  refine lv_iconst (v := 2) hx hb dX12_isWord_9 (by decide) ?_
  refine lv_icmp_ne (tgt := 30) hx hb dX12_isWord_10 (by decide) (fun c_1 => ?_) (fun c_1 => ?_)
  · have hm := (if_neg c_1).symm.trans hm
    exact mw_isWord_30 fu C hret F G hm hw (lv_sub hl [] rfl)
  · have hm := (if_pos c_1).symm.trans hm
    exact mw_isWord_13 fu C hret x1 F G hm hw (lv_sub hl [0, 1] rfl)
theorem mk_isWord (l : Launch) (v : EV) (a : Nat → Nat) (sz : Nat) (fu : Nat) (x1 : Int32) (F : PF) (G : PG) (r : Int32) (F1 : PF) (G1 : PG) (hm : mf_isWord fu x1 F G = some (r, F1, G1)) : mMI l yX12_isWord cX12_isWord 2 (some .boolean) 0 0 v a sz [.ref (a 212), .int x1] F G r F1 G1 := mMI.of (ty := .boolean) (by decide) rfl (Nat.le_of_ble_eq_true rfl) (fun p e R s m args below meth c Q A H locs ls C hw hl hret => mw_isWord_0 fu (res := (r, F1, G1)) C hret x1 F G hm hw hl)
def mb_sign_20 (fu : Nat) (z0 : Int32) (F : PF) (G : PG) : PR := if b01 z0 = true then (some (z0, F, G)) else none
def mb_sign_15 (fu : Nat) (F : PF) (G : PG) : PR := (mf_fails fu 2 F G).bind (fun q => mb_sign_20 fu q.1 q.2.1 q.2.2)
def mb_sign_31 (fu : Nat) (F : PF) (G : PG) : PR := some (1, F, G)
def mb_sign_21 (fu : Nat) (F : PF) (G : PG) : PR := mb_sign_31 fu (fup F 42 ((F 42) + (1 : Int32))) G
def mb_sign_12 (fu : Nat) (z0 : Int32) (F : PF) (G : PG) : PR := if z0 = (0 : Int32) then mb_sign_15 fu F G else mb_sign_21 fu F G
def mb_sign_7 (fu : Nat) (x1 : Int32) (F : PF) (G : PG) : PR := (mf_isSign fu x1 F G).bind (fun q => mb_sign_12 fu q.1 q.2.1 q.2.2)
def mb_sign_0 (fu : Nat) (x1 : Int32) (F : PF) (G : PG) : PR := if (0 : Int32) < (F 44) then mb_sign_15 fu F G else mb_sign_7 fu x1 F G
def mf_sign (fu : Nat) (x1 : Int32) (F : PF) (G : PG) : PR := mb_sign_0 fu x1 F G
theorem mw_sign_20 (fu : Nat) {res : Int32 × PF × PG} (C : mMC p R s m args c A v RX12 cX12_sign 2 1 22) (hret : ∀ (H1 : Heap) (locs1 : List Loc) (ls1 : Array Slot) (pc : Nat), mMW s A v a res.2.1 res.2.2 H1 locs1 → narrow .boolean (.int res.1) = .int res.1 → decode cX12_sign pc = .ok (.ireturn, 1) → W p l e R s m args below meth c H1 locs1 0 0 Q (F0 m pc ls1 [.int res.1])) (z0 : Int32) (F : PF) (G : PG) (hm : mb_sign_20 fu z0 F G = some res) {H : Heap} {locs : List Loc} (hw : mMW s A v a F G H locs) {ls : Array Slot} (hl : lv_has ls 2 []) : W p l e R s m args below meth c H locs 0 0 Q (F0 m 20 ls [.int z0]) := by
  have hx := C.1
  have hb := C.2.1
  unfold mb_sign_20 at hm
  obtain ⟨hz, hm⟩ := b01_elim hm
  obtain rfl := Option.some.inj hm
  exact hret _ _ _ _ hw (b01_nar hz) dX12_sign_20
theorem mw_sign_15 (fu : Nat) {res : Int32 × PF × PG} (C : mMC p R s m args c A v RX12 cX12_sign 2 1 22) (hret : ∀ (H1 : Heap) (locs1 : List Loc) (ls1 : Array Slot) (pc : Nat), mMW s A v a res.2.1 res.2.2 H1 locs1 → narrow .boolean (.int res.1) = .int res.1 → decode cX12_sign pc = .ok (.ireturn, 1) → W p l e R s m args below meth c H1 locs1 0 0 Q (F0 m pc ls1 [.int res.1])) (F : PF) (G : PG) (hm : mb_sign_15 fu F G = some res) {H : Heap} {locs : List Loc} (hw : mMW s A v a F G H locs) {ls : Array Slot} (hl : lv_has ls 2 [(0, .ref (a 212))]) : W p l e R s m args below meth c H locs 0 0 Q (F0 m 15 ls []) := by
  have hx := C.1
  have hb := C.2.1
  unfold mb_sign_15 at hm
  refine lv_aload_n hx hb dX12_sign_15 rfl (lv_at hl 0 rfl) ?_
  refine lv_iconst (v := 2) hx hb dX12_sign_16 (by decide) ?_
  obtain ⟨⟨r1, F1, G1⟩, hc, hm⟩ := bind_elim hm
  refine mcallI (n := 1) (As := [.int 2]) (rest := []) C hw (mk_fails l v a _ fu 2 F G r1 F1 G1 hc) (mrecv_X12 C hw) mm_166 mm_167 mm_168 mm_27 mm_169 (by decide +kernel) rfl (by omega) (by omega) hl.1 rfl (Nat.le_of_ble_eq_true rfl) dX12_sign_17 (fun H locs hw => ?_)
  exact mw_sign_20 fu C hret r1 F1 G1 hm hw (lv_sub hl [] rfl)
theorem mw_sign_31 (fu : Nat) {res : Int32 × PF × PG} (C : mMC p R s m args c A v RX12 cX12_sign 2 1 22) (hret : ∀ (H1 : Heap) (locs1 : List Loc) (ls1 : Array Slot) (pc : Nat), mMW s A v a res.2.1 res.2.2 H1 locs1 → narrow .boolean (.int res.1) = .int res.1 → decode cX12_sign pc = .ok (.ireturn, 1) → W p l e R s m args below meth c H1 locs1 0 0 Q (F0 m pc ls1 [.int res.1])) (F : PF) (G : PG) (hm : mb_sign_31 fu F G = some res) {H : Heap} {locs : List Loc} (hw : mMW s A v a F G H locs) {ls : Array Slot} (hl : lv_has ls 2 []) : W p l e R s m args below meth c H locs 0 0 Q (F0 m 31 ls []) := by
  have hx := C.1
  have hb := C.2.1
  unfold mb_sign_31 at hm
  refine lv_iconst (v := 1) hx hb dX12_sign_31 (by decide) ?_
  obtain rfl := Option.some.inj hm
  exact hret _ _ _ _ hw (b01_nar (v := 1) (Or.inr rfl)) dX12_sign_32
theorem mw_sign_21 (fu : Nat) {res : Int32 × PF × PG} (C : mMC p R s m args c A v RX12 cX12_sign 2 1 22) (hret : ∀ (H1 : Heap) (locs1 : List Loc) (ls1 : Array Slot) (pc : Nat), mMW s A v a res.2.1 res.2.2 H1 locs1 → narrow .boolean (.int res.1) = .int res.1 → decode cX12_sign pc = .ok (.ireturn, 1) → W p l e R s m args below meth c H1 locs1 0 0 Q (F0 m pc ls1 [.int res.1])) (F : PF) (G : PG) (hm : mb_sign_21 fu F G = some res) {H : Heap} {locs : List Loc} (hw : mMW s A v a F G H locs) {ls : Array Slot} (hl : lv_has ls 2 [(0, .ref (a 212))]) : W p l e R s m args below meth c H locs 0 0 Q (F0 m 21 ls []) := by
  have hx := C.1
  have hb := C.2.1
  unfold mb_sign_21 at hm
  refine lv_aload_n hx hb dX12_sign_21 rfl (lv_at hl 0 rfl) ?_
  refine lv_dup hx hb dX12_sign_22 rfl ?_
  refine mg_X12_233 C hw dX12_sign_23 ?_
  refine lv_iconst (v := 1) hx hb dX12_sign_26 (by decide) ?_
  refine lv_iadd hx hb dX12_sign_27 ?_
  refine mp_X12_233 C hw dX12_sign_28 (fun H locs hw => ?_)
  exact mw_sign_31 fu C hret (fup F 42 ((F 42) + (1 : Int32))) G hm hw (lv_sub hl [] rfl)
theorem mw_sign_12 (fu : Nat) {res : Int32 × PF × PG} (C : mMC p R s m args c A v RX12 cX12_sign 2 1 22) (hret : ∀ (H1 : Heap) (locs1 : List Loc) (ls1 : Array Slot) (pc : Nat), mMW s A v a res.2.1 res.2.2 H1 locs1 → narrow .boolean (.int res.1) = .int res.1 → decode cX12_sign pc = .ok (.ireturn, 1) → W p l e R s m args below meth c H1 locs1 0 0 Q (F0 m pc ls1 [.int res.1])) (z0 : Int32) (F : PF) (G : PG) (hm : mb_sign_12 fu z0 F G = some res) {H : Heap} {locs : List Loc} (hw : mMW s A v a F G H locs) {ls : Array Slot} (hl : lv_has ls 2 [(0, .ref (a 212))]) : W p l e R s m args below meth c H locs 0 0 Q (F0 m 12 ls [.int z0]) := by
  have hx := C.1
  have hb := C.2.1
  unfold mb_sign_12 at hm
  refine lv_if_ne (tgt := 21) hx hb dX12_sign_12 (by decide) (fun c_1 => ?_) (fun c_1 => ?_)
  · have hm := (if_neg c_1).symm.trans hm
    exact mw_sign_21 fu C hret F G hm hw (lv_sub hl [0] rfl)
  · have hm := (if_pos c_1).symm.trans hm
    exact mw_sign_15 fu C hret F G hm hw (lv_sub hl [0] rfl)
theorem mw_sign_7 (fu : Nat) {res : Int32 × PF × PG} (C : mMC p R s m args c A v RX12 cX12_sign 2 1 22) (hret : ∀ (H1 : Heap) (locs1 : List Loc) (ls1 : Array Slot) (pc : Nat), mMW s A v a res.2.1 res.2.2 H1 locs1 → narrow .boolean (.int res.1) = .int res.1 → decode cX12_sign pc = .ok (.ireturn, 1) → W p l e R s m args below meth c H1 locs1 0 0 Q (F0 m pc ls1 [.int res.1])) (x1 : Int32) (F : PF) (G : PG) (hm : mb_sign_7 fu x1 F G = some res) {H : Heap} {locs : List Loc} (hw : mMW s A v a F G H locs) {ls : Array Slot} (hl : lv_has ls 2 [(0, .ref (a 212)), (1, .int x1)]) : W p l e R s m args below meth c H locs 0 0 Q (F0 m 7 ls []) := by
  have hx := C.1
  have hb := C.2.1
  unfold mb_sign_7 at hm
  refine lv_aload_n hx hb dX12_sign_7 rfl (lv_at hl 0 rfl) ?_
  refine lv_iload_n hx hb dX12_sign_8 rfl (lv_at hl 1 rfl) ?_
  obtain ⟨⟨r1, F1, G1⟩, hc, hm⟩ := bind_elim hm
  refine mcallI (n := 1) (As := [.int x1]) (rest := []) C hw (mk_isSign l v a _ fu x1 F G r1 F1 G1 hc) (mrecv_X12 C hw) mm_183 mm_184 mm_185 mm_27 mm_186 (by decide +kernel) rfl (by omega) (by omega) hl.1 rfl (Nat.le_of_ble_eq_true rfl) dX12_sign_9 (fun H locs hw => ?_)
  exact mw_sign_12 fu C hret r1 F1 G1 hm hw (lv_sub hl [0] rfl)
theorem mw_sign_0 (fu : Nat) {res : Int32 × PF × PG} (C : mMC p R s m args c A v RX12 cX12_sign 2 1 22) (hret : ∀ (H1 : Heap) (locs1 : List Loc) (ls1 : Array Slot) (pc : Nat), mMW s A v a res.2.1 res.2.2 H1 locs1 → narrow .boolean (.int res.1) = .int res.1 → decode cX12_sign pc = .ok (.ireturn, 1) → W p l e R s m args below meth c H1 locs1 0 0 Q (F0 m pc ls1 [.int res.1])) (x1 : Int32) (F : PF) (G : PG) (hm : mb_sign_0 fu x1 F G = some res) {H : Heap} {locs : List Loc} (hw : mMW s A v a F G H locs) {ls : Array Slot} (hl : lv_has ls 2 [(0, .ref (a 212)), (1, .int x1)]) : W p l e R s m args below meth c H locs 0 0 Q (F0 m 0 ls []) := by
  have hx := C.1
  have hb := C.2.1
  unfold mb_sign_0 at hm
  refine lv_aload_n hx hb dX12_sign_0 rfl (lv_at hl 0 rfl) ?_
  refine mg_X12_230 C hw dX12_sign_1 ?_
  refine lv_if_gt (tgt := 15) hx hb dX12_sign_4 (by decide) (fun c_1 => ?_) (fun c_1 => ?_)
  · have hm := (if_pos c_1).symm.trans hm
    exact mw_sign_15 fu C hret F G hm hw (lv_sub hl [0] rfl)
  · have hm := (if_neg c_1).symm.trans hm
    exact mw_sign_7 fu C hret x1 F G hm hw (lv_sub hl [0, 1] rfl)
theorem mk_sign (l : Launch) (v : EV) (a : Nat → Nat) (sz : Nat) (fu : Nat) (x1 : Int32) (F : PF) (G : PG) (r : Int32) (F1 : PF) (G1 : PG) (hm : mf_sign fu x1 F G = some (r, F1, G1)) : mMI l yX12_sign cX12_sign 2 (some .boolean) 1 22 v a sz [.ref (a 212), .int x1] F G r F1 G1 := mMI.of (ty := .boolean) (by decide) rfl (Nat.le_of_ble_eq_true rfl) (fun p e R s m args below meth c Q A H locs ls C hw hl hret => mw_sign_0 fu (res := (r, F1, G1)) C hret x1 F G hm hw hl)
end MB
