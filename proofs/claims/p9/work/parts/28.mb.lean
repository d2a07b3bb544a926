section MB
variable {p : Program} {l : Launch} {e : Env} {R : Room} {s : State} {m : MethodId} {args : Array Value} {below : List Frame} {meth : Method} {c : Code} {H : Heap} {locs : List Loc} {Q : State → Prop} {A : Nat → Prop} {v : EV} {a : Nat → Nat} {own : String} {cc : ByteArray} {nL fr lo : Nat}
def mb_choice_14 (fu : Nat) (rc : RC) (F : PF) (G : PG) : PR := some (0, F, G)
def mb_choice_132 (fu : Nat) (rc : RC) (z0 : Int32) (F : PF) (G : PG) : PR := if b01 z0 = true then (some (z0, F, G)) else none
def mb_choice_131 (fu : Nat) (rc : RC) (F : PF) (G : PG) : PR := mb_choice_132 fu rc 0 F G
def mb_choice_127 (fu : Nat) (rc : RC) (F : PF) (G : PG) : PR := mb_choice_132 fu rc 1 F G
def mb_choice_120 (fu : Nat) (rc : RC) (F : PF) (G : PG) : PR := if (F 44) = (0 : Int32) then mb_choice_127 fu rc F G else mb_choice_131 fu rc F G
def mb_choice_110 (fu : Nat) (rc : RC) (F : PF) (G : PG) : PR := mb_choice_120 fu rc (fup F 43 ((F 43) - (1 : Int32))) G
def mb_choice_100 (fu : Nat) (rc : RC) (x1 : Int32) (F : PF) (G : PG) : PR := if ixb x1 9000 = true then (mb_choice_110 fu rc F (gup G 57 x1.toNatClampNeg (F 60))) else none
def mb_choice_97 (fu : Nat) (rc : RC) (F : PF) (G : PG) : PR := mb_choice_110 fu rc F G
def mb_choice_87 (fu : Nat) (rc : RC) (x2 : Int32) (F : PF) (G : PG) : PR := if ixb x2 9000 = true then (mb_choice_97 fu rc F (gup G 57 x2.toNatClampNeg (F 60))) else none
def mb_choice_85 (fu : Nat) (rc : RC) (F : PF) (G : PG) : PR := some (0, F, G)
def mb_choice_82 (fu : Nat) (rc : RC) (x2 : Int32) (z0 : Int32) (F : PF) (G : PG) : PR := if z0 = (0 : Int32) then mb_choice_85 fu rc F G else mb_choice_87 fu rc x2 F G
def mb_choice_78 (fu : Nat) (rc : RC) (x2 : Int32) (F : PF) (G : PG) : PR := (rc 5 0 0 F G).bind (fun q => mb_choice_82 fu rc x2 q.1 q.2.1 q.2.2)
def mb_choice_67 (fu : Nat) (rc : RC) (x1 : Int32) (z0 : Int32) (F : PF) (G : PG) : PR := if ixb x1 9000 = true then (mb_choice_78 fu rc z0 F (gup G 57 x1.toNatClampNeg (F 60))) else none
def mb_choice_59 (fu : Nat) (rc : RC) (x1 : Int32) (F : PF) (G : PG) : PR := (mf_step fu 12 0 0 F G).bind (fun q => mb_choice_67 fu rc x1 q.1 q.2.1 q.2.2)
def mb_choice_49 (fu : Nat) (rc : RC) (x1 : Int32) (F : PF) (G : PG) : PR := mb_choice_59 fu rc x1 (fup F 42 ((F 42) + (1 : Int32))) G
def mb_choice_46 (fu : Nat) (rc : RC) (x1 : Int32) (z0 : Int32) (F : PF) (G : PG) : PR := if z0 = (0 : Int32) then mb_choice_100 fu rc x1 F G else mb_choice_49 fu rc x1 F G
def mb_choice_41 (fu : Nat) (rc : RC) (x1 : Int32) (F : PF) (G : PG) : PR := (mf_isWord fu 5 F G).bind (fun q => mb_choice_46 fu rc x1 q.1 q.2.1 q.2.2)
def mb_choice_34 (fu : Nat) (rc : RC) (x1 : Int32) (F : PF) (G : PG) : PR := if (F 44) = (0 : Int32) then mb_choice_41 fu rc x1 F G else mb_choice_100 fu rc x1 F G
def mb_choice_32 (fu : Nat) (rc : RC) (F : PF) (G : PG) : PR := some (0, F, G)
def mb_choice_29 (fu : Nat) (rc : RC) (x1 : Int32) (z0 : Int32) (F : PF) (G : PG) : PR := if z0 = (0 : Int32) then mb_choice_32 fu rc F G else mb_choice_34 fu rc x1 F G
def mb_choice_24 (fu : Nat) (rc : RC) (z0 : Int32) (F : PF) (G : PG) : PR := (rc 5 0 0 F G).bind (fun q => mb_choice_29 fu rc z0 q.1 q.2.1 q.2.2)
def mb_choice_16 (fu : Nat) (rc : RC) (F : PF) (G : PG) : PR := (mf_step fu 13 0 0 F G).bind (fun q => mb_choice_24 fu rc q.1 q.2.1 q.2.2)
def mb_choice_11 (fu : Nat) (rc : RC) (z0 : Int32) (F : PF) (G : PG) : PR := if z0 = (0 : Int32) then mb_choice_14 fu rc F G else mb_choice_16 fu rc F G
def mb_choice_7 (fu : Nat) (rc : RC) (F : PF) (G : PG) : PR := (mf_condition fu F G).bind (fun q => mb_choice_11 fu rc q.1 q.2.1 q.2.2)
def mb_choice_4 (fu : Nat) (rc : RC) (z0 : Int32) (F : PF) (G : PG) : PR := if z0 = (0 : Int32) then mb_choice_14 fu rc F G else mb_choice_7 fu rc F G
def mb_choice_0 (fu : Nat) (rc : RC) (F : PF) (G : PG) : PR := (mf_opens fu F G).bind (fun q => mb_choice_4 fu rc q.1 q.2.1 q.2.2)
def mh_choice (fu : Nat) (rc : RC) (F : PF) (G : PG) : PR := mb_choice_0 fu rc F G
theorem mw_choice_14 (fu : Nat) (rc : RC) {dd : Nat} (hr : mH2 l v a rc dd) {res : Int32 × PF × PG} (C : mMC p R s m args c A v RX12 cX12_choice 3 (dd + 1 + 307) (60 * (dd + 1) + 18156)) (hret : ∀ (H1 : Heap) (locs1 : List Loc) (ls1 : Array Slot) (pc : Nat), mMW s A v a res.2.1 res.2.2 H1 locs1 → narrow .boolean (.int res.1) = .int res.1 → decode cX12_choice pc = .ok (.ireturn, 1) → W p l e R s m args below meth c H1 locs1 0 0 Q (F0 m pc ls1 [.int res.1])) (F : PF) (G : PG) (hm : mb_choice_14 fu rc F G = some res) {H : Heap} {locs : List Loc} (hw : mMW s A v a F G H locs) {ls : Array Slot} (hl : lv_has ls 3 []) : W p l e R s m args below meth c H locs 0 0 Q (F0 m 14 ls []) := by
  have hx := C.1
  have hb := C.2.1
  unfold mb_choice_14 at hm
  refine lv_iconst (v := 0) hx hb dX12_choice_14 (by decide) ?_
  obtain rfl := Option.some.inj hm
  exact hret _ _ _ _ hw (b01_nar (v := 0) (Or.inl rfl)) dX12_choice_15
theorem mw_choice_132 (fu : Nat) (rc : RC) {dd : Nat} (hr : mH2 l v a rc dd) {res : Int32 × PF × PG} (C : mMC p R s m args c A v RX12 cX12_choice 3 (dd + 1 + 307) (60 * (dd + 1) + 18156)) (hret : ∀ (H1 : Heap) (locs1 : List Loc) (ls1 : Array Slot) (pc : Nat), mMW s A v a res.2.1 res.2.2 H1 locs1 → narrow .boolean (.int res.1) = .int res.1 → decode cX12_choice pc = .ok (.ireturn, 1) → W p l e R s m args below meth c H1 locs1 0 0 Q (F0 m pc ls1 [.int res.1])) (z0 : Int32) (F : PF) (G : PG) (hm : mb_choice_132 fu rc z0 F G = some res) {H : Heap} {locs : List Loc} (hw : mMW s A v a F G H locs) {ls : Array Slot} (hl : lv_has ls 3 []) : W p l e R s m args below meth c H locs 0 0 Q (F0 m 132 ls [.int z0]) := by
  have hx := C.1
  have hb := C.2.1
  unfold mb_choice_132 at hm
  obtain ⟨hz, hm⟩ := b01_elim hm
  obtain rfl := Option.some.inj hm
  exact hret _ _ _ _ hw (b01_nar hz) dX12_choice_132
theorem mw_choice_131 (fu : Nat) (rc : RC) {dd : Nat} (hr : mH2 l v a rc dd) {res : Int32 × PF × PG} (C : mMC p R s m args c A v RX12 cX12_choice 3 (dd + 1 + 307) (60 * (dd + 1) + 18156)) (hret : ∀ (H1 : Heap) (locs1 : List Loc) (ls1 : Array Slot) (pc : Nat), mMW s A v a res.2.1 res.2.2 H1 locs1 → narrow .boolean (.int res.1) = .int res.1 → decode cX12_choice pc = .ok (.ireturn, 1) → W p l e R s m args below meth c H1 locs1 0 0 Q (F0 m pc ls1 [.int res.1])) (F : PF) (G : PG) (hm : mb_choice_131 fu rc F G = some res) {H : Heap} {locs : List Loc} (hw : mMW s A v a F G H locs) {ls : Array Slot} (hl : lv_has ls 3 []) : W p l e R s m args below meth c H locs 0 0 Q (F0 m 131 ls []) := by
  have hx := C.1
  have hb := C.2.1
  unfold mb_choice_131 at hm
  refine lv_iconst (v := 0) hx hb dX12_choice_131 (by decide) ?_
  exact mw_choice_132 fu rc hr C hret 0 F G hm hw (lv_sub hl [] rfl)
theorem mw_choice_127 (fu : Nat) (rc : RC) {dd : Nat} (hr : mH2 l v a rc dd) {res : Int32 × PF × PG} (C : mMC p R s m args c A v RX12 cX12_choice 3 (dd + 1 + 307) (60 * (dd + 1) + 18156)) (hret : ∀ (H1 : Heap) (locs1 : List Loc) (ls1 : Array Slot) (pc : Nat), mMW s A v a res.2.1 res.2.2 H1 locs1 → narrow .boolean (.int res.1) = .int res.1 → decode cX12_choice pc = .ok (.ireturn, 1) → W p l e R s m args below meth c H1 locs1 0 0 Q (F0 m pc ls1 [.int res.1])) (F : PF) (G : PG) (hm : mb_choice_127 fu rc F G = some res) {H : Heap} {locs : List Loc} (hw : mMW s A v a F G H locs) {ls : Array Slot} (hl : lv_has ls 3 []) : W p l e R s m args below meth c H locs 0 0 Q (F0 m 127 ls []) := by
  have hx := C.1
  have hb := C.2.1
  unfold mb_choice_127 at hm
  refine lv_iconst (v := 1) hx hb dX12_choice_127 (by decide) ?_
  refine lv_goto (tgt := 132) hx hb dX12_choice_128 (by decide) ?_
  exact mw_choice_132 fu rc hr C hret 1 F G hm hw (lv_sub hl [] rfl)
theorem mw_choice_120 (fu : Nat) (rc : RC) {dd : Nat} (hr : mH2 l v a rc dd) {res : Int32 × PF × PG} (C : mMC p R s m args c A v RX12 cX12_choice 3 (dd + 1 + 307) (60 * (dd + 1) + 18156)) (hret : ∀ (H1 : Heap) (locs1 : List Loc) (ls1 : Array Slot) (pc : Nat), mMW s A v a res.2.1 res.2.2 H1 locs1 → narrow .boolean (.int res.1) = .int res.1 → decode cX12_choice pc = .ok (.ireturn, 1) → W p l e R s m args below meth c H1 locs1 0 0 Q (F0 m pc ls1 [.int res.1])) (F : PF) (G : PG) (hm : mb_choice_120 fu rc F G = some res) {H : Heap} {locs : List Loc} (hw : mMW s A v a F G H locs) {ls : Array Slot} (hl : lv_has ls 3 [(0, .ref (a 212))]) : W p l e R s m args below meth c H locs 0 0 Q (F0 m 120 ls []) := by
  have hx := C.1
  have hb := C.2.1
  unfold mb_choice_120 at hm
  refine lv_aload_n hx hb dX12_choice_120 rfl (lv_at hl 0 rfl) ?_
  refine mg_X12_230 C hw dX12_choice_121 ?_
  refine lv_if_ne (tgt := 131) hx hb dX12_choice_124 (by decide) (fun c_1 => ?_) (fun c_1 => ?_)
  · have hm := (if_neg c_1).symm.trans hm
    exact mw_choice_131 fu rc hr C hret F G hm hw (lv_sub hl [] rfl)
  · have hm := (if_pos c_1).symm.trans hm
    exact mw_choice_127 fu rc hr C hret F G hm hw (lv_sub hl [] rfl)
theorem mw_choice_110 (fu : Nat) (rc : RC) {dd : Nat} (hr : mH2 l v a rc dd) {res : Int32 × PF × PG} (C : mMC p R s m args c A v RX12 cX12_choice 3 (dd + 1 + 307) (60 * (dd + 1) + 18156)) (hret : ∀ (H1 : Heap) (locs1 : List Loc) (ls1 : Array Slot) (pc : Nat), mMW s A v a res.2.1 res.2.2 H1 locs1 → narrow .boolean (.int res.1) = .int res.1 → decode cX12_choice pc = .ok (.ireturn, 1) → W p l e R s m args below meth c H1 locs1 0 0 Q (F0 m pc ls1 [.int res.1])) (F : PF) (G : PG) (hm : mb_choice_110 fu rc F G = some res) {H : Heap} {locs : List Loc} (hw : mMW s A v a F G H locs) {ls : Array Slot} (hl : lv_has ls 3 [(0, .ref (a 212))]) : W p l e R s m args below meth c H locs 0 0 Q (F0 m 110 ls []) := by
  have hx := C.1
  have hb := C.2.1
  unfold mb_choice_110 at hm
  refine lv_aload_n hx hb dX12_choice_110 rfl (lv_at hl 0 rfl) ?_
  refine lv_dup hx hb dX12_choice_111 rfl ?_
  refine mg_X12_266 C hw dX12_choice_112 ?_
  refine lv_iconst (v := 1) hx hb dX12_choice_115 (by decide) ?_
  refine lv_isub hx hb dX12_choice_116 ?_
  refine mp_X12_266 C hw dX12_choice_117 (fun H locs hw => ?_)
  exact mw_choice_120 fu rc hr C hret (fup F 43 ((F 43) - (1 : Int32))) G hm hw (lv_sub hl [0] rfl)
theorem mw_choice_100 (fu : Nat) (rc : RC) {dd : Nat} (hr : mH2 l v a rc dd) {res : Int32 × PF × PG} (C : mMC p R s m args c A v RX12 cX12_choice 3 (dd + 1 + 307) (60 * (dd + 1) + 18156)) (hret : ∀ (H1 : Heap) (locs1 : List Loc) (ls1 : Array Slot) (pc : Nat), mMW s A v a res.2.1 res.2.2 H1 locs1 → narrow .boolean (.int res.1) = .int res.1 → decode cX12_choice pc = .ok (.ireturn, 1) → W p l e R s m args below meth c H1 locs1 0 0 Q (F0 m pc ls1 [.int res.1])) (x1 : Int32) (F : PF) (G : PG) (hm : mb_choice_100 fu rc x1 F G = some res) {H : Heap} {locs : List Loc} (hw : mMW s A v a F G H locs) {ls : Array Slot} (hl : lv_has ls 3 [(0, .ref (a 212)), (1, .int x1)]) : W p l e R s m args below meth c H locs 0 0 Q (F0 m 100 ls []) := by
  have hx := C.1
  have hb := C.2.1
  unfold mb_choice_100 at hm
  refine lv_aload_n hx hb dX12_choice_100 rfl (lv_at hl 0 rfl) ?_
  refine mg_X12_107 C hw dX12_choice_101 ?_
  refine lv_iload_n hx hb dX12_choice_104 rfl (lv_at hl 1 rfl) ?_
  refine lv_aload_n hx hb dX12_choice_105 rfl (lv_at hl 0 rfl) ?_
  refine mg_X12_276 C hw dX12_choice_106 ?_
  obtain ⟨hi, hm⟩ := ix_elim hm
  refine mas_57 C hw hi dX12_choice_109 (fun H locs hw => ?_)
  exact mw_choice_110 fu rc hr C hret F (gup G 57 x1.toNatClampNeg (F 60)) hm hw (lv_sub hl [0] rfl)
theorem mw_choice_97 (fu : Nat) (rc : RC) {dd : Nat} (hr : mH2 l v a rc dd) {res : Int32 × PF × PG} (C : mMC p R s m args c A v RX12 cX12_choice 3 (dd + 1 + 307) (60 * (dd + 1) + 18156)) (hret : ∀ (H1 : Heap) (locs1 : List Loc) (ls1 : Array Slot) (pc : Nat), mMW s A v a res.2.1 res.2.2 H1 locs1 → narrow .boolean (.int res.1) = .int res.1 → decode cX12_choice pc = .ok (.ireturn, 1) → W p l e R s m args below meth c H1 locs1 0 0 Q (F0 m pc ls1 [.int res.1])) (F : PF) (G : PG) (hm : mb_choice_97 fu rc F G = some res) {H : Heap} {locs : List Loc} (hw : mMW s A v a F G H locs) {ls : Array Slot} (hl : lv_has ls 3 [(0, .ref (a 212))]) : W p l e R s m args below meth c H locs 0 0 Q (F0 m 97 ls []) := by
  have hx := C.1
  have hb := C.2.1
  unfold mb_choice_97 at hm
  refine lv_goto (tgt := 110) hx hb dX12_choice_97 (by decide) ?_
  exact mw_choice_110 fu rc hr C hret F G hm hw (lv_sub hl [0] rfl)
theorem mw_choice_87 (fu : Nat) (rc : RC) {dd : Nat} (hr : mH2 l v a rc dd) {res : Int32 × PF × PG} (C : mMC p R s m args c A v RX12 cX12_choice 3 (dd + 1 + 307) (60 * (dd + 1) + 18156)) (hret : ∀ (H1 : Heap) (locs1 : List Loc) (ls1 : Array Slot) (pc : Nat), mMW s A v a res.2.1 res.2.2 H1 locs1 → narrow .boolean (.int res.1) = .int res.1 → decode cX12_choice pc = .ok (.ireturn, 1) → W p l e R s m args below meth c H1 locs1 0 0 Q (F0 m pc ls1 [.int res.1])) (x2 : Int32) (F : PF) (G : PG) (hm : mb_choice_87 fu rc x2 F G = some res) {H : Heap} {locs : List Loc} (hw : mMW s A v a F G H locs) {ls : Array Slot} (hl : lv_has ls 3 [(0, .ref (a 212)), (2, .int x2)]) : W p l e R s m args below meth c H locs 0 0 Q (F0 m 87 ls []) := by
  have hx := C.1
  have hb := C.2.1
  unfold mb_choice_87 at hm
  refine lv_aload_n hx hb dX12_choice_87 rfl (lv_at hl 0 rfl) ?_
  refine mg_X12_107 C hw dX12_choice_88 ?_
  refine lv_iload_n hx hb dX12_choice_91 rfl (lv_at hl 1 rfl) ?_
  refine lv_aload_n hx hb dX12_choice_92 rfl (lv_at hl 0 rfl) ?_
  refine mg_X12_276 C hw dX12_choice_93 ?_
  obtain ⟨hi, hm⟩ := ix_elim hm
  refine mas_57 C hw hi dX12_choice_96 (fun H locs hw => ?_)
  exact mw_choice_97 fu rc hr C hret F (gup G 57 x2.toNatClampNeg (F 60)) hm hw (lv_sub hl [0] rfl)
theorem mw_choice_85 (fu : Nat) (rc : RC) {dd : Nat} (hr : mH2 l v a rc dd) {res : Int32 × PF × PG} (C : mMC p R s m args c A v RX12 cX12_choice 3 (dd + 1 + 307) (60 * (dd + 1) + 18156)) (hret : ∀ (H1 : Heap) (locs1 : List Loc) (ls1 : Array Slot) (pc : Nat), mMW s A v a res.2.1 res.2.2 H1 locs1 → narrow .boolean (.int res.1) = .int res.1 → decode cX12_choice pc = .ok (.ireturn, 1) → W p l e R s m args below meth c H1 locs1 0 0 Q (F0 m pc ls1 [.int res.1])) (F : PF) (G : PG) (hm : mb_choice_85 fu rc F G = some res) {H : Heap} {locs : List Loc} (hw : mMW s A v a F G H locs) {ls : Array Slot} (hl : lv_has ls 3 []) : W p l e R s m args below meth c H locs 0 0 Q (F0 m 85 ls []) := by
  have hx := C.1
  have hb := C.2.1
  unfold mb_choice_85 at hm
  refine lv_iconst (v := 0) hx hb dX12_choice_85 (by decide) ?_
  obtain rfl := Option.some.inj hm
  exact hret _ _ _ _ hw (b01_nar (v := 0) (Or.inl rfl)) dX12_choice_86
theorem mw_choice_82 (fu : Nat) (rc : RC) {dd : Nat} (hr : mH2 l v a rc dd) {res : Int32 × PF × PG} (C : mMC p R s m args c A v RX12 cX12_choice 3 (dd + 1 + 307) (60 * (dd + 1) + 18156)) (hret : ∀ (H1 : Heap) (locs1 : List Loc) (ls1 : Array Slot) (pc : Nat), mMW s A v a res.2.1 res.2.2 H1 locs1 → narrow .boolean (.int res.1) = .int res.1 → decode cX12_choice pc = .ok (.ireturn, 1) → W p l e R s m args below meth c H1 locs1 0 0 Q (F0 m pc ls1 [.int res.1])) (x2 : Int32) (z0 : Int32) (F : PF) (G : PG) (hm : mb_choice_82 fu rc x2 z0 F G = some res) {H : Heap} {locs : List Loc} (hw : mMW s A v a F G H locs) {ls : Array Slot} (hl : lv_has ls 3 [(0, .ref (a 212)), (2, .int x2)]) : W p l e R s m args below meth c H locs 0 0 Q (F0 m 82 ls [.int z0]) := by
  have hx := C.1
  have hb := C.2.1
  unfold mb_choice_82 at hm
  refine lv_if_ne (tgt := 87) hx hb dX12_choice_82 (by decide) (fun c_1 => ?_) (fun c_1 => ?_)
  · have hm := (if_neg c_1).symm.trans hm
    exact mw_choice_87 fu rc hr C hret x2 F G hm hw (lv_sub hl [0, 1] rfl)
  · have hm := (if_pos c_1).symm.trans hm
    exact mw_choice_85 fu rc hr C hret F G hm hw (lv_sub hl [] rfl)
theorem mw_choice_78 (fu : Nat) (rc : RC) {dd : Nat} (hr : mH2 l v a rc dd) {res : Int32 × PF × PG} (C : mMC p R s m args c A v RX12 cX12_choice 3 (dd + 1 + 307) (60 * (dd + 1) + 18156)) (hret : ∀ (H1 : Heap) (locs1 : List Loc) (ls1 : Array Slot) (pc : Nat), mMW s A v a res.2.1 res.2.2 H1 locs1 → narrow .boolean (.int res.1) = .int res.1 → decode cX12_choice pc = .ok (.ireturn, 1) → W p l e R s m args below meth c H1 locs1 0 0 Q (F0 m pc ls1 [.int res.1])) (x2 : Int32) (F : PF) (G : PG) (hm : mb_choice_78 fu rc x2 F G = some res) {H : Heap} {locs : List Loc} (hw : mMW s A v a F G H locs) {ls : Array Slot} (hl : lv_has ls 3 [(0, .ref (a 212)), (2, .int x2)]) : W p l e R s m args below meth c H locs 0 0 Q (F0 m 78 ls []) := by
  have hx := C.1
  have hb := C.2.1
  unfold mb_choice_78 at hm
  refine lv_aload_n hx hb dX12_choice_78 rfl (lv_at hl 0 rfl) ?_
  obtain ⟨⟨r1, F1, G1⟩, hc, hm⟩ := bind_elim hm
  refine mcallI (n := 0) (As := []) (rest := []) C hw (hr.2.2.2.2.2.1 _ F G r1 F1 G1 hc) (mrecv_X12 C hw) mm_348 mm_349 mm_350 mm_27 mm_381 (by decide +kernel) rfl (by omega) (by omega) hl.1 rfl (Nat.le_of_ble_eq_true rfl) dX12_choice_79 (fun H locs hw => ?_)
  exact mw_choice_82 fu rc hr C hret x2 r1 F1 G1 hm hw (lv_sub hl [0, 1] rfl)
theorem mw_choice_67 (fu : Nat) (rc : RC) {dd : Nat} (hr : mH2 l v a rc dd) {res : Int32 × PF × PG} (C : mMC p R s m args c A v RX12 cX12_choice 3 (dd + 1 + 307) (60 * (dd + 1) + 18156)) (hret : ∀ (H1 : Heap) (locs1 : List Loc) (ls1 : Array Slot) (pc : Nat), mMW s A v a res.2.1 res.2.2 H1 locs1 → narrow .boolean (.int res.1) = .int res.1 → decode cX12_choice pc = .ok (.ireturn, 1) → W p l e R s m args below meth c H1 locs1 0 0 Q (F0 m pc ls1 [.int res.1])) (x1 : Int32) (z0 : Int32) (F : PF) (G : PG) (hm : mb_choice_67 fu rc x1 z0 F G = some res) {H : Heap} {locs : List Loc} (hw : mMW s A v a F G H locs) {ls : Array Slot} (hl : lv_has ls 3 [(0, .ref (a 212)), (1, .int x1)]) : W p l e R s m args below meth c H locs 0 0 Q (F0 m 67 ls [.int z0]) := by
  have hx := C.1
  have hb := C.2.1
  unfold mb_choice_67 at hm
  refine lv_istore_n (lv' := [(2, .int z0), (0, .ref (a 212)), (1, .int x1)]) hx hb dX12_choice_67 rfl hl (by decide) rfl (fun ls hl => ?_)
  refine lv_aload_n hx hb dX12_choice_68 rfl (lv_at hl 1 rfl) ?_
  refine mg_X12_107 C hw dX12_choice_69 ?_
  refine lv_iload_n hx hb dX12_choice_72 rfl (lv_at hl 2 rfl) ?_
  refine lv_aload_n hx hb dX12_choice_73 rfl (lv_at hl 1 rfl) ?_
  refine mg_X12_276 C hw dX12_choice_74 ?_
  obtain ⟨hi, hm⟩ := ix_elim hm
  refine mas_57 C hw hi dX12_choice_77 (fun H locs hw => ?_)
  exact mw_choice_78 fu rc hr C hret z0 F (gup G 57 x1.toNatClampNeg (F 60)) hm hw (lv_sub hl [1, 0] rfl)
theorem mw_choice_59 (fu : Nat) (rc : RC) {dd : Nat} (hr : mH2 l v a rc dd) {res : Int32 × PF × PG} (C : mMC p R s m args c A v RX12 cX12_choice 3 (dd + 1 + 307) (60 * (dd + 1) + 18156)) (hret : ∀ (H1 : Heap) (locs1 : List Loc) (ls1 : Array Slot) (pc : Nat), mMW s A v a res.2.1 res.2.2 H1 locs1 → narrow .boolean (.int res.1) = .int res.1 → decode cX12_choice pc = .ok (.ireturn, 1) → W p l e R s m args below meth c H1 locs1 0 0 Q (F0 m pc ls1 [.int res.1])) (x1 : Int32) (F : PF) (G : PG) (hm : mb_choice_59 fu rc x1 F G = some res) {H : Heap} {locs : List Loc} (hw : mMW s A v a F G H locs) {ls : Array Slot} (hl : lv_has ls 3 [(0, .ref (a 212)), (1, .int x1)]) : W p l e R s m args below meth c H locs 0 0 Q (F0 m 59 ls []) := by
  have hx := C.1
  have hb := C.2.1
  unfold mb_choice_59 at hm
  refine lv_aload_n hx hb dX12_choice_59 rfl (lv_at hl 0 rfl) ?_
  refine lv_bipush (v := 12) hx hb dX12_choice_60 (by decide) ?_
  refine lv_iconst (v := 0) hx hb dX12_choice_62 (by decide) ?_
  refine lv_iconst (v := 0) hx hb dX12_choice_63 (by decide) ?_
  obtain ⟨⟨r1, F1, G1⟩, hc, hm⟩ := bind_elim hm
  refine mcallI (n := 3) (As := [.int 12, .int 0, .int 0]) (rest := []) C hw (mk_step l v a _ fu 12 0 0 F G r1 F1 G1 hc) (mrecv_X12 C hw) mm_203 mm_204 mm_205 mm_27 mm_206 (by decide +kernel) rfl (by omega) (by omega) hl.1 rfl (Nat.le_of_ble_eq_true rfl) dX12_choice_64 (fun H locs hw => ?_)
  exact mw_choice_67 fu rc hr C hret x1 r1 F1 G1 hm hw (lv_sub hl [0, 1] rfl)
theorem mw_choice_49 (fu : Nat) (rc : RC) {dd : Nat} (hr : mH2 l v a rc dd) {res : Int32 × PF × PG} (C : mMC p R s m args c A v RX12 cX12_choice 3 (dd + 1 + 307) (60 * (dd + 1) + 18156)) (hret : ∀ (H1 : Heap) (locs1 : List Loc) (ls1 : Array Slot) (pc : Nat), mMW s A v a res.2.1 res.2.2 H1 locs1 → narrow .boolean (.int res.1) = .int res.1 → decode cX12_choice pc = .ok (.ireturn, 1) → W p l e R s m args below meth c H1 locs1 0 0 Q (F0 m pc ls1 [.int res.1])) (x1 : Int32) (F : PF) (G : PG) (hm : mb_choice_49 fu rc x1 F G = some res) {H : Heap} {locs : List Loc} (hw : mMW s A v a F G H locs) {ls : Array Slot} (hl : lv_has ls 3 [(0, .ref (a 212)), (1, .int x1)]) : W p l e R s m args below meth c H locs 0 0 Q (F0 m 49 ls []) := by
  have hx := C.1
  have hb := C.2.1
  unfold mb_choice_49 at hm
  refine lv_aload_n hx hb dX12_choice_49 rfl (lv_at hl 0 rfl) ?_
  refine lv_dup hx hb dX12_choice_50 rfl ?_
  refine mg_X12_233 C hw dX12_choice_51 ?_
  refine lv_iconst (v := 1) hx hb dX12_choice_54 (by decide) ?_
  refine lv_iadd hx hb dX12_choice_55 ?_
  refine mp_X12_233 C hw dX12_choice_56 (fun H locs hw => ?_)
  exact mw_choice_59 fu rc hr C hret x1 (fup F 42 ((F 42) + (1 : Int32))) G hm hw (lv_sub hl [0, 1] rfl)
theorem mw_choice_46 (fu : Nat) (rc : RC) {dd : Nat} (hr : mH2 l v a rc dd) {res : Int32 × PF × PG} (C : mMC p R s m args c A v RX12 cX12_choice 3 (dd + 1 + 307) (60 * (dd + 1) + 18156)) (hret : ∀ (H1 : Heap) (locs1 : List Loc) (ls1 : Array Slot) (pc : Nat), mMW s A v a res.2.1 res.2.2 H1 locs1 → narrow .boolean (.int res.1) = .int res.1 → decode cX12_choice pc = .ok (.ireturn, 1) → W p l e R s m args below meth c H1 locs1 0 0 Q (F0 m pc ls1 [.int res.1])) (x1 : Int32) (z0 : Int32) (F : PF) (G : PG) (hm : mb_choice_46 fu rc x1 z0 F G = some res) {H : Heap} {locs : List Loc} (hw : mMW s A v a F G H locs) {ls : Array Slot} (hl : lv_has ls 3 [(0, .ref (a 212)), (1, .int x1)]) : W p l e R s m args below meth c H locs 0 0 Q (F0 m 46 ls [.int z0]) := by
  have hx := C.1
  have hb := C.2.1
  unfold mb_choice_46 at hm
  refine lv_if_eq (tgt := 100) hx hb dX12_choice_46 (by decide) (fun c_1 => ?_) (fun c_1 => ?_)
  · have hm := (if_pos c_1).symm.trans hm
    exact mw_choice_100 fu rc hr C hret x1 F G hm hw (lv_sub hl [0, 1] rfl)
  · have hm := (if_neg c_1).symm.trans hm
    exact mw_choice_49 fu rc hr C hret x1 F G hm hw (lv_sub hl [0, 1] rfl)
theorem mw_choice_41 (fu : Nat) (rc : RC) {dd : Nat} (hr : mH2 l v a rc dd) {res : Int32 × PF × PG} (C : mMC p R s m args c A v RX12 cX12_choice 3 (dd + 1 + 307) (60 * (dd + 1) + 18156)) (hret : ∀ (H1 : Heap) (locs1 : List Loc) (ls1 : Array Slot) (pc : Nat), mMW s A v a res.2.1 res.2.2 H1 locs1 → narrow .boolean (.int res.1) = .int res.1 → decode cX12_choice pc = .ok (.ireturn, 1) → W p l e R s m args below meth c H1 locs1 0 0 Q (F0 m pc ls1 [.int res.1])) (x1 : Int32) (F : PF) (G : PG) (hm : mb_choice_41 fu rc x1 F G = some res) {H : Heap} {locs : List Loc} (hw : mMW s A v a F G H locs) {ls : Array Slot} (hl : lv_has ls 3 [(0, .ref (a 212)), (1, .int x1)]) : W p l e R s m args below meth c H locs 0 0 Q (F0 m 41 ls []) := by
  have hx := C.1
  have hb := C.2.1
  unfold mb_choice_41 at hm
  refine lv_aload_n hx hb dX12_choice_41 rfl (lv_at hl 0 rfl) ?_
  refine lv_iconst (v := 5) hx hb dX12_choice_42 (by decide) ?_
  obtain ⟨⟨r1, F1, G1⟩, hc, hm⟩ := bind_elim hm
  refine mcallI (n := 1) (As := [.int 5]) (rest := []) C hw (mk_isWord l v a _ fu 5 F G r1 F1 G1 hc) (mrecv_X12 C hw) mm_162 mm_163 mm_164 mm_27 mm_165 (by decide +kernel) rfl (by omega) (by omega) hl.1 rfl (Nat.le_of_ble_eq_true rfl) dX12_choice_43 (fun H locs hw => ?_)
  exact mw_choice_46 fu rc hr C hret x1 r1 F1 G1 hm hw (lv_sub hl [0, 1] rfl)
theorem mw_choice_34 (fu : Nat) (rc : RC) {dd : Nat} (hr : mH2 l v a rc dd) {res : Int32 × PF × PG} (C : mMC p R s m args c A v RX12 cX12_choice 3 (dd + 1 + 307) (60 * (dd + 1) + 18156)) (hret : ∀ (H1 : Heap) (locs1 : List Loc) (ls1 : Array Slot) (pc : Nat), mMW s A v a res.2.1 res.2.2 H1 locs1 → narrow .boolean (.int res.1) = .int res.1 → decode cX12_choice pc = .ok (.ireturn, 1) → W p l e R s m args below meth c H1 locs1 0 0 Q (F0 m pc ls1 [.int res.1])) (x1 : Int32) (F : PF) (G : PG) (hm : mb_choice_34 fu rc x1 F G = some res) {H : Heap} {locs : List Loc} (hw : mMW s A v a F G H locs) {ls : Array Slot} (hl : lv_has ls 3 [(0, .ref (a 212)), (1, .int x1)]) : W p l e R s m args below meth c H locs 0 0 Q (F0 m 34 ls []) := by
  have hx := C.1
  have hb := C.2.1
  unfold mb_choice_34 at hm
  refine lv_aload_n hx hb dX12_choice_34 rfl (lv_at hl 0 rfl) ?_
  refine mg_X12_230 C hw dX12_choice_35 ?_
  refine lv_if_ne (tgt := 100) hx hb dX12_choice_38 (by decide) (fun c_1 => ?_) (fun c_1 => ?_)
  · have hm := (if_neg c_1).symm.trans hm
    exact mw_choice_100 fu rc hr C hret x1 F G hm hw (lv_sub hl [0, 1] rfl)
  · have hm := (if_pos c_1).symm.trans hm
    exact mw_choice_41 fu rc hr C hret x1 F G hm hw (lv_sub hl [0, 1] rfl)
theorem mw_choice_32 (fu : Nat) (rc : RC) {dd : Nat} (hr : mH2 l v a rc dd) {res : Int32 × PF × PG} (C : mMC p R s m args c A v RX12 cX12_choice 3 (dd + 1 + 307) (60 * (dd + 1) + 18156)) (hret : ∀ (H1 : Heap) (locs1 : List Loc) (ls1 : Array Slot) (pc : Nat), mMW s A v a res.2.1 res.2.2 H1 locs1 → narrow .boolean (.int res.1) = .int res.1 → decode cX12_choice pc = .ok (.ireturn, 1) → W p l e R s m args below meth c H1 locs1 0 0 Q (F0 m pc ls1 [.int res.1])) (F : PF) (G : PG) (hm : mb_choice_32 fu rc F G = some res) {H : Heap} {locs : List Loc} (hw : mMW s A v a F G H locs) {ls : Array Slot} (hl : lv_has ls 3 []) : W p l e R s m args below meth c H locs 0 0 Q (F0 m 32 ls []) := by
  have hx := C.1
  have hb := C.2.1
  unfold mb_choice_32 at hm
  refine lv_iconst (v := 0) hx hb dX12_choice_32 (by decide) ?_
  obtain rfl := Option.some.inj hm
  exact hret _ _ _ _ hw (b01_nar (v := 0) (Or.inl rfl)) dX12_choice_33
theorem mw_choice_29 (fu : Nat) (rc : RC) {dd : Nat} (hr : mH2 l v a rc dd) {res : Int32 × PF × PG} (C : mMC p R s m args c A v RX12 cX12_choice 3 (dd + 1 + 307) (60 * (dd + 1) + 18156)) (hret : ∀ (H1 : Heap) (locs1 : List Loc) (ls1 : Array Slot) (pc : Nat), mMW s A v a res.2.1 res.2.2 H1 locs1 → narrow .boolean (.int res.1) = .int res.1 → decode cX12_choice pc = .ok (.ireturn, 1) → W p l e R s m args below meth c H1 locs1 0 0 Q (F0 m pc ls1 [.int res.1])) (x1 : Int32) (z0 : Int32) (F : PF) (G : PG) (hm : mb_choice_29 fu rc x1 z0 F G = some res) {H : Heap} {locs : List Loc} (hw : mMW s A v a F G H locs) {ls : Array Slot} (hl : lv_has ls 3 [(0, .ref (a 212)), (1, .int x1)]) : W p l e R s m args below meth c H locs 0 0 Q (F0 m 29 ls [.int z0]) := by
  have hx := C.1
  have hb := C.2.1
  unfold mb_choice_29 at hm
  refine lv_if_ne (tgt := 34) hx hb dX12_choice_29 (by decide) (fun c_1 => ?_) (fun c_1 => ?_)
  · have hm := (if_neg c_1).symm.trans hm
    exact mw_choice_34 fu rc hr C hret x1 F G hm hw (lv_sub hl [0, 1] rfl)
  · have hm := (if_pos c_1).symm.trans hm
    exact mw_choice_32 fu rc hr C hret F G hm hw (lv_sub hl [] rfl)
theorem mw_choice_24 (fu : Nat) (rc : RC) {dd : Nat} (hr : mH2 l v a rc dd) {res : Int32 × PF × PG} (C : mMC p R s m args c A v RX12 cX12_choice 3 (dd + 1 + 307) (60 * (dd + 1) + 18156)) (hret : ∀ (H1 : Heap) (locs1 : List Loc) (ls1 : Array Slot) (pc : Nat), mMW s A v a res.2.1 res.2.2 H1 locs1 → narrow .boolean (.int res.1) = .int res.1 → decode cX12_choice pc = .ok (.ireturn, 1) → W p l e R s m args below meth c H1 locs1 0 0 Q (F0 m pc ls1 [.int res.1])) (z0 : Int32) (F : PF) (G : PG) (hm : mb_choice_24 fu rc z0 F G = some res) {H : Heap} {locs : List Loc} (hw : mMW s A v a F G H locs) {ls : Array Slot} (hl : lv_has ls 3 [(0, .ref (a 212))]) : W p l e R s m args below meth c H locs 0 0 Q (F0 m 24 ls [.int z0]) := by
  have hx := C.1
  have hb := C.2.1
  unfold mb_choice_24 at hm
  refine lv_istore_n (lv' := [(1, .int z0), (0, .ref (a 212))]) hx hb dX12_choice_24 rfl hl (by decide) rfl (fun ls hl => ?_)
  refine lv_aload_n hx hb dX12_choice_25 rfl (lv_at hl 1 rfl) ?_
  obtain ⟨⟨r1, F1, G1⟩, hc, hm⟩ := bind_elim hm
  refine mcallI (n := 0) (As := []) (rest := []) C hw (hr.2.2.2.2.2.1 _ F G r1 F1 G1 hc) (mrecv_X12 C hw) mm_348 mm_349 mm_350 mm_27 mm_381 (by decide +kernel) rfl (by omega) (by omega) hl.1 rfl (Nat.le_of_ble_eq_true rfl) dX12_choice_26 (fun H locs hw => ?_)
  exact mw_choice_29 fu rc hr C hret z0 r1 F1 G1 hm hw (lv_sub hl [1, 0] rfl)
theorem mw_choice_16 (fu : Nat) (rc : RC) {dd : Nat} (hr : mH2 l v a rc dd) {res : Int32 × PF × PG} (C : mMC p R s m args c A v RX12 cX12_choice 3 (dd + 1 + 307) (60 * (dd + 1) + 18156)) (hret : ∀ (H1 : Heap) (locs1 : List Loc) (ls1 : Array Slot) (pc : Nat), mMW s A v a res.2.1 res.2.2 H1 locs1 → narrow .boolean (.int res.1) = .int res.1 → decode cX12_choice pc = .ok (.ireturn, 1) → W p l e R s m args below meth c H1 locs1 0 0 Q (F0 m pc ls1 [.int res.1])) (F : PF) (G : PG) (hm : mb_choice_16 fu rc F G = some res) {H : Heap} {locs : List Loc} (hw : mMW s A v a F G H locs) {ls : Array Slot} (hl : lv_has ls 3 [(0, .ref (a 212))]) : W p l e R s m args below meth c H locs 0 0 Q (F0 m 16 ls []) := by
  have hx := C.1
  have hb := C.2.1
  unfold mb_choice_16 at hm
  refine lv_aload_n hx hb dX12_choice_16 rfl (lv_at hl 0 rfl) ?_
  refine lv_bipush (v := 13) hx hb dX12_choice_17 (by decide) ?_
  refine lv_iconst (v := 0) hx hb dX12_choice_19 (by decide) ?_
  refine lv_iconst (v := 0) hx hb dX12_choice_20 (by decide) ?_
  obtain ⟨⟨r1, F1, G1⟩, hc, hm⟩ := bind_elim hm
  refine mcallI (n := 3) (As := [.int 13, .int 0, .int 0]) (rest := []) C hw (mk_step l v a _ fu 13 0 0 F G r1 F1 G1 hc) (mrecv_X12 C hw) mm_203 mm_204 mm_205 mm_27 mm_206 (by decide +kernel) rfl (by omega) (by omega) hl.1 rfl (Nat.le_of_ble_eq_true rfl) dX12_choice_21 (fun H locs hw => ?_)
  exact mw_choice_24 fu rc hr C hret r1 F1 G1 hm hw (lv_sub hl [0] rfl)
theorem mw_choice_11 (fu : Nat) (rc : RC) {dd : Nat} (hr : mH2 l v a rc dd) {res : Int32 × PF × PG} (C : mMC p R s m args c A v RX12 cX12_choice 3 (dd + 1 + 307) (60 * (dd + 1) + 18156)) (hret : ∀ (H1 : Heap) (locs1 : List Loc) (ls1 : Array Slot) (pc : Nat), mMW s A v a res.2.1 res.2.2 H1 locs1 → narrow .boolean (.int res.1) = .int res.1 → decode cX12_choice pc = .ok (.ireturn, 1) → W p l e R s m args below meth c H1 locs1 0 0 Q (F0 m pc ls1 [.int res.1])) (z0 : Int32) (F : PF) (G : PG) (hm : mb_choice_11 fu rc z0 F G = some res) {H : Heap} {locs : List Loc} (hw : mMW s A v a F G H locs) {ls : Array Slot} (hl : lv_has ls 3 [(0, .ref (a 212))]) : W p l e R s m args below meth c H locs 0 0 Q (F0 m 11 ls [.int z0]) := by
  have hx := C.1
  have hb := C.2.1
  unfold mb_choice_11 at hm
  refine lv_if_ne (tgt := 16) hx hb dX12_choice_11 (by decide) (fun c_1 => ?_) (fun c_1 => ?_)
  · have hm := (if_neg c_1).symm.trans hm
    exact mw_choice_16 fu rc hr C hret F G hm hw (lv_sub hl [0] rfl)
  · have hm := (if_pos c_1).symm.trans hm
    exact mw_choice_14 fu rc hr C hret F G hm hw (lv_sub hl [] rfl)
theorem mw_choice_7 (fu : Nat) (rc : RC) {dd : Nat} (hr : mH2 l v a rc dd) {res : Int32 × PF × PG} (C : mMC p R s m args c A v RX12 cX12_choice 3 (dd + 1 + 307) (60 * (dd + 1) + 18156)) (hret : ∀ (H1 : Heap) (locs1 : List Loc) (ls1 : Array Slot) (pc : Nat), mMW s A v a res.2.1 res.2.2 H1 locs1 → narrow .boolean (.int res.1) = .int res.1 → decode cX12_choice pc = .ok (.ireturn, 1) → W p l e R s m args below meth c H1 locs1 0 0 Q (F0 m pc ls1 [.int res.1])) (F : PF) (G : PG) (hm : mb_choice_7 fu rc F G = some res) {H : Heap} {locs : List Loc} (hw : mMW s A v a F G H locs) {ls : Array Slot} (hl : lv_has ls 3 [(0, .ref (a 212))]) : W p l e R s m args below meth c H locs 0 0 Q (F0 m 7 ls []) := by
  have hx := C.1
  have hb := C.2.1
  unfold mb_choice_7 at hm
  refine lv_aload_n hx hb dX12_choice_7 rfl (lv_at hl 0 rfl) ?_
  obtain ⟨⟨r1, F1, G1⟩, hc, hm⟩ := bind_elim hm
  refine mcallI (n := 0) (As := []) (rest := []) C hw (mk_condition l v a _ fu F G r1 F1 G1 hc) (mrecv_X12 C hw) mm_356 mm_357 mm_358 mm_27 mm_359 (by decide +kernel) rfl (by omega) (by omega) hl.1 rfl (Nat.le_of_ble_eq_true rfl) dX12_choice_8 (fun H locs hw => ?_)
  exact mw_choice_11 fu rc hr C hret r1 F1 G1 hm hw (lv_sub hl [0] rfl)
theorem mw_choice_4 (fu : Nat) (rc : RC) {dd : Nat} (hr : mH2 l v a rc dd) {res : Int32 × PF × PG} (C : mMC p R s m args c A v RX12 cX12_choice 3 (dd + 1 + 307) (60 * (dd + 1) + 18156)) (hret : ∀ (H1 : Heap) (locs1 : List Loc) (ls1 : Array Slot) (pc : Nat), mMW s A v a res.2.1 res.2.2 H1 locs1 → narrow .boolean (.int res.1) = .int res.1 → decode cX12_choice pc = .ok (.ireturn, 1) → W p l e R s m args below meth c H1 locs1 0 0 Q (F0 m pc ls1 [.int res.1])) (z0 : Int32) (F : PF) (G : PG) (hm : mb_choice_4 fu rc z0 F G = some res) {H : Heap} {locs : List Loc} (hw : mMW s A v a F G H locs) {ls : Array Slot} (hl : lv_has ls 3 [(0, .ref (a 212))]) : W p l e R s m args below meth c H locs 0 0 Q (F0 m 4 ls [.int z0]) := by
  have hx := C.1
  have hb := C.2.1
  unfold mb_choice_4 at hm
  refine lv_if_eq (tgt := 14) hx hb dX12_choice_4 (by decide) (fun c_1 => ?_) (fun c_1 => ?_)
  · have hm := (if_pos c_1).symm.trans hm
    exact mw_choice_14 fu rc hr C hret F G hm hw (lv_sub hl [] rfl)
  · have hm := (if_neg c_1).symm.trans hm
    exact mw_choice_7 fu rc hr C hret F G hm hw (lv_sub hl [0] rfl)
theorem mw_choice_0 (fu : Nat) (rc : RC) {dd : Nat} (hr : mH2 l v a rc dd) {res : Int32 × PF × PG} (C : mMC p R s m args c A v RX12 cX12_choice 3 (dd + 1 + 307) (60 * (dd + 1) + 18156)) (hret : ∀ (H1 : Heap) (locs1 : List Loc) (ls1 : Array Slot) (pc : Nat), mMW s A v a res.2.1 res.2.2 H1 locs1 → narrow .boolean (.int res.1) = .int res.1 → decode cX12_choice pc = .ok (.ireturn, 1) → W p l e R s m args below meth c H1 locs1 0 0 Q (F0 m pc ls1 [.int res.1])) (F : PF) (G : PG) (hm : mb_choice_0 fu rc F G = some res) {H : Heap} {locs : List Loc} (hw : mMW s A v a F G H locs) {ls : Array Slot} (hl : lv_has ls 3 [(0, .ref (a 212))]) : W p l e R s m args below meth c H locs 0 0 Q (F0 m 0 ls []) := by
  have hx := C.1
  have hb := C.2.1
  unfold mb_choice_0 at hm
  refine lv_aload_n hx hb dX12_choice_0 rfl (lv_at hl 0 rfl) ?_
  obtain ⟨⟨r1, F1, G1⟩, hc, hm⟩ := bind_elim hm
  refine mcallI (n := 0) (As := []) (rest := []) C hw (mk_opens l v a _ fu F G r1 F1 G1 hc) (mrecv_X12 C hw) mm_199 mm_200 mm_201 mm_27 mm_202 (by decide +kernel) rfl (by omega) (by omega) hl.1 rfl (Nat.le_of_ble_eq_true rfl) dX12_choice_1 (fun H locs hw => ?_)
  exact mw_choice_4 fu rc hr C hret r1 F1 G1 hm hw (lv_sub hl [0] rfl)
theorem mq_choice (l : Launch) (v : EV) (a : Nat → Nat) (sz : Nat) (fu : Nat) (rc : RC) {dd : Nat} (hr : mH2 l v a rc dd) (F : PF) (G : PG) (r : Int32) (F1 : PF) (G1 : PG) (hm : mh_choice fu rc F G = some (r, F1, G1)) : mMI l yX12_choice cX12_choice 3 (some .boolean) (dd + 1 + 307) (60 * (dd + 1) + 18156) v a sz [.ref (a 212)] F G r F1 G1 := mMI.of (ty := .boolean) (by decide) rfl (Nat.le_of_ble_eq_true rfl) (fun p e R s m args below meth c Q A H locs ls C hw hl hret => mw_choice_0 fu rc hr (res := (r, F1, G1)) C hret F G hm hw hl)
def mb_counted_16 (fu : Nat) (rc : RC) (F : PF) (G : PG) : PR := some (0, F, G)
def mb_counted_251 (fu : Nat) (rc : RC) (F : PF) (G : PG) : PR := some (1, F, G)
def mb_counted_241 (fu : Nat) (rc : RC) (F : PF) (G : PG) : PR := mb_counted_251 fu rc (fup F 43 ((F 43) - (1 : Int32))) G
def mb_counted_236 (fu : Nat) (rc : RC) (x1 : Int32) (F : PF) (G : PG) : PR := (mf_ends fu x1 F G).bind (fun q => mb_counted_241 fu rc q.2.1 q.2.2)
def mb_counted_226 (fu : Nat) (rc : RC) (x1 : Int32) (x6 : Int32) (F : PF) (G : PG) : PR := (mf_settle fu x6 (F 60) F G).bind (fun q => mb_counted_236 fu rc x1 q.2.1 q.2.2)
def mb_counted_216 (fu : Nat) (rc : RC) (x1 : Int32) (x3 : Int32) (x6 : Int32) (F : PF) (G : PG) : PR := if ixb x3 9000 = true then (mb_counted_226 fu rc x1 x6 F (gup G 57 x3.toNatClampNeg (F 60))) else none
def mb_counted_210 (fu : Nat) (rc : RC) (x1 : Int32) (x3 : Int32) (x6 : Int32) (z0 : Int32) (F : PF) (G : PG) : PR := if x3 = (-1 : Int32) then mb_counted_226 fu rc x1 x6 F G else mb_counted_216 fu rc x1 x3 x6 F G
def mb_counted_195 (fu : Nat) (rc : RC) (x1 : Int32) (x3 : Int32) (x5 : Int32) (F : PF) (G : PG) : PR := (mf_step fu 12 x5 0 F G).bind (fun q => mb_counted_210 fu rc x1 x3 (F 65) q.1 q.2.1 q.2.2)
def mb_counted_193 (fu : Nat) (rc : RC) (F : PF) (G : PG) : PR := some (0, F, G)
def mb_counted_190 (fu : Nat) (rc : RC) (x1 : Int32) (x3 : Int32) (x5 : Int32) (z0 : Int32) (F : PF) (G : PG) : PR := if z0 = (0 : Int32) then mb_counted_193 fu rc F G else mb_counted_195 fu rc x1 x3 x5 F G
def mb_counted_184 (fu : Nat) (rc : RC) (x1 : Int32) (x3 : Int32) (x5 : Int32) (F : PF) (G : PG) : PR := (rc 1 x5 0 F G).bind (fun q => mb_counted_190 fu rc x1 x3 x5 q.1 q.2.1 q.2.2)
def mb_counted_172 (fu : Nat) (rc : RC) (x1 : Int32) (x3 : Int32) (x4 : Int32) (x5 : Int32) (z0 : Int32) (F : PF) (G : PG) : PR := if ixb x4 9000 = true then (mb_counted_184 fu rc x1 x3 x5 F (gup G 57 x4.toNatClampNeg (F 60))) else none
def mb_counted_164 (fu : Nat) (rc : RC) (x1 : Int32) (x2 : Int32) (x3 : Int32) (x4 : Int32) (x5 : Int32) (F : PF) (G : PG) : PR := (mf_step fu 12 x2 0 F G).bind (fun q => mb_counted_172 fu rc x1 x3 x4 x5 q.1 q.2.1 q.2.2)
def mb_counted_162 (fu : Nat) (rc : RC) (F : PF) (G : PG) : PR := some (0, F, G)
def mb_counted_159 (fu : Nat) (rc : RC) (x1 : Int32) (x2 : Int32) (x3 : Int32) (x4 : Int32) (x5 : Int32) (z0 : Int32) (F : PF) (G : PG) : PR := if z0 = (0 : Int32) then mb_counted_162 fu rc F G else mb_counted_164 fu rc x1 x2 x3 x4 x5 F G
def mb_counted_153 (fu : Nat) (rc : RC) (x1 : Int32) (x2 : Int32) (x3 : Int32) (x4 : Int32) (x5 : Int32) (F : PF) (G : PG) : PR := (mf_closeSign fu 23 F G).bind (fun q => mb_counted_159 fu rc x1 x2 x3 x4 x5 q.1 q.2.1 q.2.2)
def mb_counted_151 (fu : Nat) (rc : RC) (F : PF) (G : PG) : PR := some (0, F, G)
def mb_counted_148 (fu : Nat) (rc : RC) (x1 : Int32) (x2 : Int32) (x3 : Int32) (x4 : Int32) (x5 : Int32) (z0 : Int32) (F : PF) (G : PG) : PR := if z0 = (0 : Int32) then mb_counted_151 fu rc F G else mb_counted_153 fu rc x1 x2 x3 x4 x5 F G
def mb_counted_144 (fu : Nat) (rc : RC) (x1 : Int32) (x2 : Int32) (x3 : Int32) (x4 : Int32) (x5 : Int32) (F : PF) (G : PG) : PR := (mf_simple fu F G).bind (fun q => mb_counted_148 fu rc x1 x2 x3 x4 x5 q.1 q.2.1 q.2.2)
def mb_counted_141 (fu : Nat) (rc : RC) (x1 : Int32) (x2 : Int32) (x3 : Int32) (x4 : Int32) (x5 : Int32) (z0 : Int32) (F : PF) (G : PG) : PR := if z0 = (0 : Int32) then mb_counted_144 fu rc x1 x2 x3 x4 x5 F G else mb_counted_153 fu rc x1 x2 x3 x4 x5 F G
def mb_counted_127 (fu : Nat) (rc : RC) (x1 : Int32) (x2 : Int32) (x3 : Int32) (z0 : Int32) (F : PF) (G : PG) : PR := (mf_isSign fu 23 F G).bind (fun q => mb_counted_141 fu rc x1 x2 x3 z0 (F 60) q.1 q.2.1 q.2.2)
def mb_counted_119 (fu : Nat) (rc : RC) (x1 : Int32) (x2 : Int32) (x3 : Int32) (F : PF) (G : PG) : PR := (mf_step fu 12 0 0 F G).bind (fun q => mb_counted_127 fu rc x1 x2 x3 q.1 q.2.1 q.2.2)
def mb_counted_117 (fu : Nat) (rc : RC) (F : PF) (G : PG) : PR := some (0, F, G)
def mb_counted_114 (fu : Nat) (rc : RC) (x1 : Int32) (x2 : Int32) (x3 : Int32) (z0 : Int32) (F : PF) (G : PG) : PR := if z0 = (0 : Int32) then mb_counted_117 fu rc F G else mb_counted_119 fu rc x1 x2 x3 F G
def mb_counted_108 (fu : Nat) (rc : RC) (x1 : Int32) (x2 : Int32) (x3 : Int32) (F : PF) (G : PG) : PR := (mf_sign fu 29 F G).bind (fun q => mb_counted_114 fu rc x1 x2 x3 q.1 q.2.1 q.2.2)
def mb_counted_107 (fu : Nat) (rc : RC) (x1 : Int32) (x2 : Int32) (z0 : Int32) (F : PF) (G : PG) : PR := mb_counted_108 fu rc x1 x2 z0 F G
def mb_counted_99 (fu : Nat) (rc : RC) (x1 : Int32) (x2 : Int32) (F : PF) (G : PG) : PR := (mf_step fu 13 0 0 F G).bind (fun q => mb_counted_107 fu rc x1 x2 q.1 q.2.1 q.2.2)
def mb_counted_97 (fu : Nat) (rc : RC) (F : PF) (G : PG) : PR := some (0, F, G)
def mb_counted_94 (fu : Nat) (rc : RC) (x1 : Int32) (x2 : Int32) (z0 : Int32) (F : PF) (G : PG) : PR := if z0 = (0 : Int32) then mb_counted_97 fu rc F G else mb_counted_99 fu rc x1 x2 F G
def mb_counted_90 (fu : Nat) (rc : RC) (x1 : Int32) (x2 : Int32) (F : PF) (G : PG) : PR := (mf_expression fu F G).bind (fun q => mb_counted_94 fu rc x1 x2 q.1 q.2.1 q.2.2)
def mb_counted_87 (fu : Nat) (rc : RC) (x1 : Int32) (x2 : Int32) (x3 : Int32) (z0 : Int32) (F : PF) (G : PG) : PR := if z0 = (0 : Int32) then mb_counted_90 fu rc x1 x2 F G else mb_counted_108 fu rc x1 x2 x3 F G
def mb_counted_74 (fu : Nat) (rc : RC) (x1 : Int32) (F : PF) (G : PG) : PR := (mf_isSign fu 29 F G).bind (fun q => mb_counted_87 fu rc x1 (F 60) (-1) q.1 q.2.1 q.2.2)
def mb_counted_72 (fu : Nat) (rc : RC) (F : PF) (G : PG) : PR := some (0, F, G)
def mb_counted_69 (fu : Nat) (rc : RC) (x1 : Int32) (z0 : Int32) (F : PF) (G : PG) : PR := if z0 = (0 : Int32) then mb_counted_72 fu rc F G else mb_counted_74 fu rc x1 F G
def mb_counted_63 (fu : Nat) (rc : RC) (x1 : Int32) (F : PF) (G : PG) : PR := (mf_sign fu 29 F G).bind (fun q => mb_counted_69 fu rc x1 q.1 q.2.1 q.2.2)
def mb_counted_61 (fu : Nat) (rc : RC) (F : PF) (G : PG) : PR := some (0, F, G)
def mb_counted_56 (fu : Nat) (rc : RC) (x1 : Int32) (z0 : Int32) (F : PF) (G : PG) : PR := if z0 = (0 : Int32) then mb_counted_61 fu rc F G else mb_counted_63 fu rc x1 F G
def mb_counted_52 (fu : Nat) (rc : RC) (x1 : Int32) (F : PF) (G : PG) : PR := (mf_simple fu F G).bind (fun q => mb_counted_56 fu rc x1 q.1 q.2.1 q.2.2)
def mb_counted_49 (fu : Nat) (rc : RC) (x1 : Int32) (z0 : Int32) (F : PF) (G : PG) : PR := mb_counted_56 fu rc x1 z0 F G
def mb_counted_44 (fu : Nat) (rc : RC) (x1 : Int32) (F : PF) (G : PG) : PR := (mf_tellHere fu 0 F G).bind (fun q => mb_counted_49 fu rc x1 q.1 q.2.1 q.2.2)
def mb_counted_41 (fu : Nat) (rc : RC) (x1 : Int32) (z0 : Int32) (F : PF) (G : PG) : PR := if z0 = (0 : Int32) then mb_counted_52 fu rc x1 F G else mb_counted_44 fu rc x1 F G
def mb_counted_36 (fu : Nat) (rc : RC) (x1 : Int32) (F : PF) (G : PG) : PR := (mf_isWord fu 0 F G).bind (fun q => mb_counted_41 fu rc x1 q.1 q.2.1 q.2.2)
def mb_counted_33 (fu : Nat) (rc : RC) (x1 : Int32) (z0 : Int32) (F : PF) (G : PG) : PR := if z0 = (0 : Int32) then mb_counted_36 fu rc x1 F G else mb_counted_63 fu rc x1 F G
def mb_counted_27 (fu : Nat) (rc : RC) (x1 : Int32) (F : PF) (G : PG) : PR := (mf_isSign fu 29 F G).bind (fun q => mb_counted_33 fu rc x1 q.1 q.2.1 q.2.2)
def mb_counted_18 (fu : Nat) (rc : RC) (F : PF) (G : PG) : PR := (mf_begins fu F G).bind (fun q => mb_counted_27 fu rc (F 15) q.2.1 q.2.2)
def mb_counted_13 (fu : Nat) (rc : RC) (z0 : Int32) (F : PF) (G : PG) : PR := if z0 = (0 : Int32) then mb_counted_16 fu rc F G else mb_counted_18 fu rc F G
def mb_counted_7 (fu : Nat) (rc : RC) (F : PF) (G : PG) : PR := (mf_openSign fu 22 F G).bind (fun q => mb_counted_13 fu rc q.1 q.2.1 q.2.2)
def mb_counted_4 (fu : Nat) (rc : RC) (z0 : Int32) (F : PF) (G : PG) : PR := if z0 = (0 : Int32) then mb_counted_16 fu rc F G else mb_counted_7 fu rc F G
def mb_counted_0 (fu : Nat) (rc : RC) (F : PF) (G : PG) : PR := (mf_opens fu F G).bind (fun q => mb_counted_4 fu rc q.1 q.2.1 q.2.2)
def mh_counted (fu : Nat) (rc : RC) (F : PF) (G : PG) : PR := mb_counted_0 fu rc F G
theorem mw_counted_16 (fu : Nat) (rc : RC) {dd : Nat} (hr : mH2 l v a rc dd) {res : Int32 × PF × PG} (C : mMC p R s m args c A v RX12 cX12_counted 7 (dd + 1 + 307) (60 * (dd + 1) + 18156)) (hret : ∀ (H1 : Heap) (locs1 : List Loc) (ls1 : Array Slot) (pc : Nat), mMW s A v a res.2.1 res.2.2 H1 locs1 → narrow .boolean (.int res.1) = .int res.1 → decode cX12_counted pc = .ok (.ireturn, 1) → W p l e R s m args below meth c H1 locs1 0 0 Q (F0 m pc ls1 [.int res.1])) (F : PF) (G : PG) (hm : mb_counted_16 fu rc F G = some res) {H : Heap} {locs : List Loc} (hw : mMW s A v a F G H locs) {ls : Array Slot} (hl : lv_has ls 7 []) : W p l e R s m args below meth c H locs 0 0 Q (F0 m 16 ls []) := by
  have hx := C.1
  have hb := C.2.1
  unfold mb_counted_16 at hm
  refine lv_iconst (v := 0) hx hb dX12_counted_16 (by decide) ?_
  obtain rfl := Option.some.inj hm
  exact hret _ _ _ _ hw (b01_nar (v := 0) (Or.inl rfl)) dX12_counted_17
theorem mw_counted_251 (fu : Nat) (rc : RC) {dd : Nat} (hr : mH2 l v a rc dd) {res : Int32 × PF × PG} (C : mMC p R s m args c A v RX12 cX12_counted 7 (dd + 1 + 307) (60 * (dd + 1) + 18156)) (hret : ∀ (H1 : Heap) (locs1 : List Loc) (ls1 : Array Slot) (pc : Nat), mMW s A v a res.2.1 res.2.2 H1 locs1 → narrow .boolean (.int res.1) = .int res.1 → decode cX12_counted pc = .ok (.ireturn, 1) → W p l e R s m args below meth c H1 locs1 0 0 Q (F0 m pc ls1 [.int res.1])) (F : PF) (G : PG) (hm : mb_counted_251 fu rc F G = some res) {H : Heap} {locs : List Loc} (hw : mMW s A v a F G H locs) {ls : Array Slot} (hl : lv_has ls 7 []) : W p l e R s m args below meth c H locs 0 0 Q (F0 m 251 ls []) := by
  have hx := C.1
  have hb := C.2.1
  unfold mb_counted_251 at hm
  refine lv_iconst (v := 1) hx hb dX12_counted_251 (by decide) ?_
  obtain rfl := Option.some.inj hm
  exact hret _ _ _ _ hw (b01_nar (v := 1) (Or.inr rfl)) dX12_counted_252
theorem mw_counted_241 (fu : Nat) (rc : RC) {dd : Nat} (hr : mH2 l v a rc dd) {res : Int32 × PF × PG} (C : mMC p R s m args c A v RX12 cX12_counted 7 (dd + 1 + 307) (60 * (dd + 1) + 18156)) (hret : ∀ (H1 : Heap) (locs1 : List Loc) (ls1 : Array Slot) (pc : Nat), mMW s A v a res.2.1 res.2.2 H1 locs1 → narrow .boolean (.int res.1) = .int res.1 → decode cX12_counted pc = .ok (.ireturn, 1) → W p l e R s m args below meth c H1 locs1 0 0 Q (F0 m pc ls1 [.int res.1])) (F : PF) (G : PG) (hm : mb_counted_241 fu rc F G = some res) {H : Heap} {locs : List Loc} (hw : mMW s A v a F G H locs) {ls : Array Slot} (hl : lv_has ls 7 [(0, .ref (a 212))]) : W p l e R s m args below meth c H locs 0 0 Q (F0 m 241 ls []) := by
  have hx := C.1
  have hb := C.2.1
  unfold mb_counted_241 at hm
  refine lv_aload_n hx hb dX12_counted_241 rfl (lv_at hl 0 rfl) ?_
  refine lv_dup hx hb dX12_counted_242 rfl ?_
  refine mg_X12_266 C hw dX12_counted_243 ?_
  refine lv_iconst (v := 1) hx hb dX12_counted_246 (by decide) ?_
  refine lv_isub hx hb dX12_counted_247 ?_
  refine mp_X12_266 C hw dX12_counted_248 (fun H locs hw => ?_)
  exact mw_counted_251 fu rc hr C hret (fup F 43 ((F 43) - (1 : Int32))) G hm hw (lv_sub hl [] rfl)
theorem mw_counted_236 (fu : Nat) (rc : RC) {dd : Nat} (hr : mH2 l v a rc dd) {res : Int32 × PF × PG} (C : mMC p R s m args c A v RX12 cX12_counted 7 (dd + 1 + 307) (60 * (dd + 1) + 18156)) (hret : ∀ (H1 : Heap) (locs1 : List Loc) (ls1 : Array Slot) (pc : Nat), mMW s A v a res.2.1 res.2.2 H1 locs1 → narrow .boolean (.int res.1) = .int res.1 → decode cX12_counted pc = .ok (.ireturn, 1) → W p l e R s m args below meth c H1 locs1 0 0 Q (F0 m pc ls1 [.int res.1])) (x1 : Int32) (F : PF) (G : PG) (hm : mb_counted_236 fu rc x1 F G = some res) {H : Heap} {locs : List Loc} (hw : mMW s A v a F G H locs) {ls : Array Slot} (hl : lv_has ls 7 [(0, .ref (a 212)), (1, .int x1)]) : W p l e R s m args below meth c H locs 0 0 Q (F0 m 236 ls []) := by
  have hx := C.1
  have hb := C.2.1
  unfold mb_counted_236 at hm
  refine lv_aload_n hx hb dX12_counted_236 rfl (lv_at hl 0 rfl) ?_
  refine lv_iload_n hx hb dX12_counted_237 rfl (lv_at hl 1 rfl) ?_
  obtain ⟨⟨r1, F1, G1⟩, hc, hm⟩ := bind_elim hm
  refine mcallV (n := 1) (As := [.int x1]) (rest := []) C hw (mk_ends l v a _ fu x1 F G r1 F1 G1 hc) (mrecv_X12 C hw) mm_376 mm_377 mm_378 mm_27 mm_379 (by decide +kernel) rfl (by omega) (by omega) hl.1 rfl (Nat.le_of_ble_eq_true rfl) dX12_counted_238 (fun H locs hw => ?_)
  exact mw_counted_241 fu rc hr C hret F1 G1 hm hw (lv_sub hl [0] rfl)
theorem mw_counted_226 (fu : Nat) (rc : RC) {dd : Nat} (hr : mH2 l v a rc dd) {res : Int32 × PF × PG} (C : mMC p R s m args c A v RX12 cX12_counted 7 (dd + 1 + 307) (60 * (dd + 1) + 18156)) (hret : ∀ (H1 : Heap) (locs1 : List Loc) (ls1 : Array Slot) (pc : Nat), mMW s A v a res.2.1 res.2.2 H1 locs1 → narrow .boolean (.int res.1) = .int res.1 → decode cX12_counted pc = .ok (.ireturn, 1) → W p l e R s m args below meth c H1 locs1 0 0 Q (F0 m pc ls1 [.int res.1])) (x1 : Int32) (x6 : Int32) (F : PF) (G : PG) (hm : mb_counted_226 fu rc x1 x6 F G = some res) {H : Heap} {locs : List Loc} (hw : mMW s A v a F G H locs) {ls : Array Slot} (hl : lv_has ls 7 [(0, .ref (a 212)), (1, .int x1), (6, .int x6)]) : W p l e R s m args below meth c H locs 0 0 Q (F0 m 226 ls []) := by
  have hx := C.1
  have hb := C.2.1
  unfold mb_counted_226 at hm
  refine lv_aload_n hx hb dX12_counted_226 rfl (lv_at hl 0 rfl) ?_
  refine lv_iload hx hb dX12_counted_227 (lv_at hl 2 rfl) ?_
  refine lv_aload_n hx hb dX12_counted_229 rfl (lv_at hl 0 rfl) ?_
  refine mg_X12_276 C hw dX12_counted_230 ?_
  obtain ⟨⟨r1, F1, G1⟩, hc, hm⟩ := bind_elim hm
  refine mcallV (n := 2) (As := [.int x6, .int (F 60)]) (rest := []) C hw (mk_settle l v a _ fu x6 (F 60) F G r1 F1 G1 hc) (mrecv_X12 C hw) mm_351 mm_352 mm_353 mm_27 mm_354 (by decide +kernel) rfl (by omega) (by omega) hl.1 rfl (Nat.le_of_ble_eq_true rfl) dX12_counted_233 (fun H locs hw => ?_)
  exact mw_counted_236 fu rc hr C hret x1 F1 G1 hm hw (lv_sub hl [0, 1] rfl)
theorem mw_counted_216 (fu : Nat) (rc : RC) {dd : Nat} (hr : mH2 l v a rc dd) {res : Int32 × PF × PG} (C : mMC p R s m args c A v RX12 cX12_counted 7 (dd + 1 + 307) (60 * (dd + 1) + 18156)) (hret : ∀ (H1 : Heap) (locs1 : List Loc) (ls1 : Array Slot) (pc : Nat), mMW s A v a res.2.1 res.2.2 H1 locs1 → narrow .boolean (.int res.1) = .int res.1 → decode cX12_counted pc = .ok (.ireturn, 1) → W p l e R s m args below meth c H1 locs1 0 0 Q (F0 m pc ls1 [.int res.1])) (x1 : Int32) (x3 : Int32) (x6 : Int32) (F : PF) (G : PG) (hm : mb_counted_216 fu rc x1 x3 x6 F G = some res) {H : Heap} {locs : List Loc} (hw : mMW s A v a F G H locs) {ls : Array Slot} (hl : lv_has ls 7 [(0, .ref (a 212)), (1, .int x1), (3, .int x3), (6, .int x6)]) : W p l e R s m args below meth c H locs 0 0 Q (F0 m 216 ls []) := by
  have hx := C.1
  have hb := C.2.1
  unfold mb_counted_216 at hm
  refine lv_aload_n hx hb dX12_counted_216 rfl (lv_at hl 0 rfl) ?_
  refine mg_X12_107 C hw dX12_counted_217 ?_
  refine lv_iload_n hx hb dX12_counted_220 rfl (lv_at hl 2 rfl) ?_
  refine lv_aload_n hx hb dX12_counted_221 rfl (lv_at hl 0 rfl) ?_
  refine mg_X12_276 C hw dX12_counted_222 ?_
  obtain ⟨hi, hm⟩ := ix_elim hm
  refine mas_57 C hw hi dX12_counted_225 (fun H locs hw => ?_)
  exact mw_counted_226 fu rc hr C hret x1 x6 F (gup G 57 x3.toNatClampNeg (F 60)) hm hw (lv_sub hl [0, 1, 3] rfl)
theorem mw_counted_210 (fu : Nat) (rc : RC) {dd : Nat} (hr : mH2 l v a rc dd) {res : Int32 × PF × PG} (C : mMC p R s m args c A v RX12 cX12_counted 7 (dd + 1 + 307) (60 * (dd + 1) + 18156)) (hret : ∀ (H1 : Heap) (locs1 : List Loc) (ls1 : Array Slot) (pc : Nat), mMW s A v a res.2.1 res.2.2 H1 locs1 → narrow .boolean (.int res.1) = .int res.1 → decode cX12_counted pc = .ok (.ireturn, 1) → W p l e R s m args below meth c H1 locs1 0 0 Q (F0 m pc ls1 [.int res.1])) (x1 : Int32) (x3 : Int32) (x6 : Int32) (z0 : Int32) (F : PF) (G : PG) (hm : mb_counted_210 fu rc x1 x3 x6 z0 F G = some res) {H : Heap} {locs : List Loc} (hw : mMW s A v a F G H locs) {ls : Array Slot} (hl : lv_has ls 7 [(0, .ref (a 212)), (1, .int x1), (3, .int x3), (6, .int x6)]) : W p l e R s m args below meth c H locs 0 0 Q (F0 m 210 ls [.int z0]) := by
  have hx := C.1
  have hb := C.2.1
  unfold mb_counted_210 at hm
  refine lv_pop hx hb dX12_counted_210 rfl ?_
  refine lv_iload_n hx hb dX12_counted_211 rfl (lv_at hl 2 rfl) ?_
  refine lv_iconst (v := (-1)) hx hb dX12_counted_212 (by decide) ?_
  refine lv_icmp_eq (tgt := 226) hx hb dX12_counted_213 (by decide) (fun c_1 => ?_) (fun c_1 => ?_)
  · have hm := (if_pos c_1).symm.trans hm
    exact mw_counted_226 fu rc hr C hret x1 x6 F G hm hw (lv_sub hl [0, 1, 3] rfl)
  · have hm := (if_neg c_1).symm.trans hm
    exact mw_counted_216 fu rc hr C hret x1 x3 x6 F G hm hw (lv_sub hl [0, 1, 2, 3] rfl)
theorem mw_counted_195 (fu : Nat) (rc : RC) {dd : Nat} (hr : mH2 l v a rc dd) {res : Int32 × PF × PG} (C : mMC p R s m args c A v RX12 cX12_counted 7 (dd + 1 + 307) (60 * (dd + 1) + 18156)) (hret : ∀ (H1 : Heap) (locs1 : List Loc) (ls1 : Array Slot) (pc : Nat), mMW s A v a res.2.1 res.2.2 H1 locs1 → narrow .boolean (.int res.1) = .int res.1 → decode cX12_counted pc = .ok (.ireturn, 1) → W p l e R s m args below meth c H1 locs1 0 0 Q (F0 m pc ls1 [.int res.1])) (x1 : Int32) (x3 : Int32) (x5 : Int32) (F : PF) (G : PG) (hm : mb_counted_195 fu rc x1 x3 x5 F G = some res) {H : Heap} {locs : List Loc} (hw : mMW s A v a F G H locs) {ls : Array Slot} (hl : lv_has ls 7 [(0, .ref (a 212)), (1, .int x1), (3, .int x3), (5, .int x5)]) : W p l e R s m args below meth c H locs 0 0 Q (F0 m 195 ls []) := by
  have hx := C.1
  have hb := C.2.1
  unfold mb_counted_195 at hm
  refine lv_aload_n hx hb dX12_counted_195 rfl (lv_at hl 0 rfl) ?_
  refine mg_X12_448 C hw dX12_counted_196 ?_
  refine lv_istore (lv' := [(6, .int (F 65)), (0, .ref (a 212)), (1, .int x1), (3, .int x3), (5, .int x5)]) hx hb dX12_counted_199 hl (by decide) rfl (fun ls hl => ?_)
  refine lv_aload_n hx hb dX12_counted_201 rfl (lv_at hl 1 rfl) ?_
  refine lv_bipush (v := 12) hx hb dX12_counted_202 (by decide) ?_
  refine lv_iload hx hb dX12_counted_204 (lv_at hl 4 rfl) ?_
  refine lv_iconst (v := 0) hx hb dX12_counted_206 (by decide) ?_
  obtain ⟨⟨r1, F1, G1⟩, hc, hm⟩ := bind_elim hm
  refine mcallI (n := 3) (As := [.int 12, .int x5, .int 0]) (rest := []) C hw (mk_step l v a _ fu 12 x5 0 F G r1 F1 G1 hc) (mrecv_X12 C hw) mm_203 mm_204 mm_205 mm_27 mm_206 (by decide +kernel) rfl (by omega) (by omega) hl.1 rfl (Nat.le_of_ble_eq_true rfl) dX12_counted_207 (fun H locs hw => ?_)
  exact mw_counted_210 fu rc hr C hret x1 x3 (F 65) r1 F1 G1 hm hw (lv_sub hl [1, 2, 3, 0] rfl)
theorem mw_counted_193 (fu : Nat) (rc : RC) {dd : Nat} (hr : mH2 l v a rc dd) {res : Int32 × PF × PG} (C : mMC p R s m args c A v RX12 cX12_counted 7 (dd + 1 + 307) (60 * (dd + 1) + 18156)) (hret : ∀ (H1 : Heap) (locs1 : List Loc) (ls1 : Array Slot) (pc : Nat), mMW s A v a res.2.1 res.2.2 H1 locs1 → narrow .boolean (.int res.1) = .int res.1 → decode cX12_counted pc = .ok (.ireturn, 1) → W p l e R s m args below meth c H1 locs1 0 0 Q (F0 m pc ls1 [.int res.1])) (F : PF) (G : PG) (hm : mb_counted_193 fu rc F G = some res) {H : Heap} {locs : List Loc} (hw : mMW s A v a F G H locs) {ls : Array Slot} (hl : lv_has ls 7 []) : W p l e R s m args below meth c H locs 0 0 Q (F0 m 193 ls []) := by
  have hx := C.1
  have hb := C.2.1
  unfold mb_counted_193 at hm
  refine lv_iconst (v := 0) hx hb dX12_counted_193 (by decide) ?_
  obtain rfl := Option.some.inj hm
  exact hret _ _ _ _ hw (b01_nar (v := 0) (Or.inl rfl)) dX12_counted_194
theorem mw_counted_190 (fu : Nat) (rc : RC) {dd : Nat} (hr : mH2 l v a rc dd) {res : Int32 × PF × PG} (C : mMC p R s m args c A v RX12 cX12_counted 7 (dd + 1 + 307) (60 * (dd + 1) + 18156)) (hret : ∀ (H1 : Heap) (locs1 : List Loc) (ls1 : Array Slot) (pc : Nat), mMW s A v a res.2.1 res.2.2 H1 locs1 → narrow .boolean (.int res.1) = .int res.1 → decode cX12_counted pc = .ok (.ireturn, 1) → W p l e R s m args below meth c H1 locs1 0 0 Q (F0 m pc ls1 [.int res.1])) (x1 : Int32) (x3 : Int32) (x5 : Int32) (z0 : Int32) (F : PF) (G : PG) (hm : mb_counted_190 fu rc x1 x3 x5 z0 F G = some res) {H : Heap} {locs : List Loc} (hw : mMW s A v a F G H locs) {ls : Array Slot} (hl : lv_has ls 7 [(0, .ref (a 212)), (1, .int x1), (3, .int x3), (5, .int x5)]) : W p l e R s m args below meth c H locs 0 0 Q (F0 m 190 ls [.int z0]) := by
  have hx := C.1
  have hb := C.2.1
  unfold mb_counted_190 at hm
  refine lv_if_ne (tgt := 195) hx hb dX12_counted_190 (by decide) (fun c_1 => ?_) (fun c_1 => ?_)
  · have hm := (if_neg c_1).symm.trans hm
    exact mw_counted_195 fu rc hr C hret x1 x3 x5 F G hm hw (lv_sub hl [0, 1, 2, 3] rfl)
  · have hm := (if_pos c_1).symm.trans hm
    exact mw_counted_193 fu rc hr C hret F G hm hw (lv_sub hl [] rfl)
theorem mw_counted_184 (fu : Nat) (rc : RC) {dd : Nat} (hr : mH2 l v a rc dd) {res : Int32 × PF × PG} (C : mMC p R s m args c A v RX12 cX12_counted 7 (dd + 1 + 307) (60 * (dd + 1) + 18156)) (hret : ∀ (H1 : Heap) (locs1 : List Loc) (ls1 : Array Slot) (pc : Nat), mMW s A v a res.2.1 res.2.2 H1 locs1 → narrow .boolean (.int res.1) = .int res.1 → decode cX12_counted pc = .ok (.ireturn, 1) → W p l e R s m args below meth c H1 locs1 0 0 Q (F0 m pc ls1 [.int res.1])) (x1 : Int32) (x3 : Int32) (x5 : Int32) (F : PF) (G : PG) (hm : mb_counted_184 fu rc x1 x3 x5 F G = some res) {H : Heap} {locs : List Loc} (hw : mMW s A v a F G H locs) {ls : Array Slot} (hl : lv_has ls 7 [(0, .ref (a 212)), (1, .int x1), (3, .int x3), (5, .int x5)]) : W p l e R s m args below meth c H locs 0 0 Q (F0 m 184 ls []) := by
  have hx := C.1
  have hb := C.2.1
  unfold mb_counted_184 at hm
  refine lv_aload_n hx hb dX12_counted_184 rfl (lv_at hl 0 rfl) ?_
  refine lv_iload hx hb dX12_counted_185 (lv_at hl 3 rfl) ?_
  obtain ⟨⟨r1, F1, G1⟩, hc, hm⟩ := bind_elim hm
  refine mcallI (n := 1) (As := [.int x5]) (rest := []) C hw (hr.2.1 _ x5 F G r1 F1 G1 hc) (mrecv_X12 C hw) mm_373 mm_374 mm_375 mm_27 mm_345 (by decide +kernel) rfl (by omega) (by omega) hl.1 rfl (Nat.le_of_ble_eq_true rfl) dX12_counted_187 (fun H locs hw => ?_)
  exact mw_counted_190 fu rc hr C hret x1 x3 x5 r1 F1 G1 hm hw (lv_sub hl [0, 1, 2, 3] rfl)
theorem mw_counted_172 (fu : Nat) (rc : RC) {dd : Nat} (hr : mH2 l v a rc dd) {res : Int32 × PF × PG} (C : mMC p R s m args c A v RX12 cX12_counted 7 (dd + 1 + 307) (60 * (dd + 1) + 18156)) (hret : ∀ (H1 : Heap) (locs1 : List Loc) (ls1 : Array Slot) (pc : Nat), mMW s A v a res.2.1 res.2.2 H1 locs1 → narrow .boolean (.int res.1) = .int res.1 → decode cX12_counted pc = .ok (.ireturn, 1) → W p l e R s m args below meth c H1 locs1 0 0 Q (F0 m pc ls1 [.int res.1])) (x1 : Int32) (x3 : Int32) (x4 : Int32) (x5 : Int32) (z0 : Int32) (F : PF) (G : PG) (hm : mb_counted_172 fu rc x1 x3 x4 x5 z0 F G = some res) {H : Heap} {locs : List Loc} (hw : mMW s A v a F G H locs) {ls : Array Slot} (hl : lv_has ls 7 [(0, .ref (a 212)), (1, .int x1), (3, .int x3), (4, .int x4), (5, .int x5)]) : W p l e R s m args below meth c H locs 0 0 Q (F0 m 172 ls [.int z0]) := by
  have hx := C.1
  have hb := C.2.1
  unfold mb_counted_172 at hm
  refine lv_pop hx hb dX12_counted_172 rfl ?_
  refine lv_aload_n hx hb dX12_counted_173 rfl (lv_at hl 0 rfl) ?_
  refine mg_X12_107 C hw dX12_counted_174 ?_
  refine lv_iload hx hb dX12_counted_177 (lv_at hl 3 rfl) ?_
  refine lv_aload_n hx hb dX12_counted_179 rfl (lv_at hl 0 rfl) ?_
  refine mg_X12_276 C hw dX12_counted_180 ?_
  obtain ⟨hi, hm⟩ := ix_elim hm
  refine mas_57 C hw hi dX12_counted_183 (fun H locs hw => ?_)
  exact mw_counted_184 fu rc hr C hret x1 x3 x5 F (gup G 57 x4.toNatClampNeg (F 60)) hm hw (lv_sub hl [0, 1, 2, 4] rfl)
theorem mw_counted_164 (fu : Nat) (rc : RC) {dd : Nat} (hr : mH2 l v a rc dd) {res : Int32 × PF × PG} (C : mMC p R s m args c A v RX12 cX12_counted 7 (dd + 1 + 307) (60 * (dd + 1) + 18156)) (hret : ∀ (H1 : Heap) (locs1 : List Loc) (ls1 : Array Slot) (pc : Nat), mMW s A v a res.2.1 res.2.2 H1 locs1 → narrow .boolean (.int res.1) = .int res.1 → decode cX12_counted pc = .ok (.ireturn, 1) → W p l e R s m args below meth c H1 locs1 0 0 Q (F0 m pc ls1 [.int res.1])) (x1 : Int32) (x2 : Int32) (x3 : Int32) (x4 : Int32) (x5 : Int32) (F : PF) (G : PG) (hm : mb_counted_164 fu rc x1 x2 x3 x4 x5 F G = some res) {H : Heap} {locs : List Loc} (hw : mMW s A v a F G H locs) {ls : Array Slot} (hl : lv_has ls 7 [(0, .ref (a 212)), (1, .int x1), (2, .int x2), (3, .int x3), (4, .int x4), (5, .int x5)]) : W p l e R s m args below meth c H locs 0 0 Q (F0 m 164 ls []) := by
  have hx := C.1
  have hb := C.2.1
  unfold mb_counted_164 at hm
  refine lv_aload_n hx hb dX12_counted_164 rfl (lv_at hl 0 rfl) ?_
  refine lv_bipush (v := 12) hx hb dX12_counted_165 (by decide) ?_
  refine lv_iload_n hx hb dX12_counted_167 rfl (lv_at hl 2 rfl) ?_
  refine lv_iconst (v := 0) hx hb dX12_counted_168 (by decide) ?_
  obtain ⟨⟨r1, F1, G1⟩, hc, hm⟩ := bind_elim hm
  refine mcallI (n := 3) (As := [.int 12, .int x2, .int 0]) (rest := []) C hw (mk_step l v a _ fu 12 x2 0 F G r1 F1 G1 hc) (mrecv_X12 C hw) mm_203 mm_204 mm_205 mm_27 mm_206 (by decide +kernel) rfl (by omega) (by omega) hl.1 rfl (Nat.le_of_ble_eq_true rfl) dX12_counted_169 (fun H locs hw => ?_)
  exact mw_counted_172 fu rc hr C hret x1 x3 x4 x5 r1 F1 G1 hm hw (lv_sub hl [0, 1, 3, 4, 5] rfl)
theorem mw_counted_162 (fu : Nat) (rc : RC) {dd : Nat} (hr : mH2 l v a rc dd) {res : Int32 × PF × PG} (C : mMC p R s m args c A v RX12 cX12_counted 7 (dd + 1 + 307) (60 * (dd + 1) + 18156)) (hret : ∀ (H1 : Heap) (locs1 : List Loc) (ls1 : Array Slot) (pc : Nat), mMW s A v a res.2.1 res.2.2 H1 locs1 → narrow .boolean (.int res.1) = .int res.1 → decode cX12_counted pc = .ok (.ireturn, 1) → W p l e R s m args below meth c H1 locs1 0 0 Q (F0 m pc ls1 [.int res.1])) (F : PF) (G : PG) (hm : mb_counted_162 fu rc F G = some res) {H : Heap} {locs : List Loc} (hw : mMW s A v a F G H locs) {ls : Array Slot} (hl : lv_has ls 7 []) : W p l e R s m args below meth c H locs 0 0 Q (F0 m 162 ls []) := by
  have hx := C.1
  have hb := C.2.1
  unfold mb_counted_162 at hm
  refine lv_iconst (v := 0) hx hb dX12_counted_162 (by decide) ?_
  obtain rfl := Option.some.inj hm
  exact hret _ _ _ _ hw (b01_nar (v := 0) (Or.inl rfl)) dX12_counted_163
theorem mw_counted_159 (fu : Nat) (rc : RC) {dd : Nat} (hr : mH2 l v a rc dd) {res : Int32 × PF × PG} (C : mMC p R s m args c A v RX12 cX12_counted 7 (dd + 1 + 307) (60 * (dd + 1) + 18156)) (hret : ∀ (H1 : Heap) (locs1 : List Loc) (ls1 : Array Slot) (pc : Nat), mMW s A v a res.2.1 res.2.2 H1 locs1 → narrow .boolean (.int res.1) = .int res.1 → decode cX12_counted pc = .ok (.ireturn, 1) → W p l e R s m args below meth c H1 locs1 0 0 Q (F0 m pc ls1 [.int res.1])) (x1 : Int32) (x2 : Int32) (x3 : Int32) (x4 : Int32) (x5 : Int32) (z0 : Int32) (F : PF) (G : PG) (hm : mb_counted_159 fu rc x1 x2 x3 x4 x5 z0 F G = some res) {H : Heap} {locs : List Loc} (hw : mMW s A v a F G H locs) {ls : Array Slot} (hl : lv_has ls 7 [(0, .ref (a 212)), (1, .int x1), (2, .int x2), (3, .int x3), (4, .int x4), (5, .int x5)]) : W p l e R s m args below meth c H locs 0 0 Q (F0 m 159 ls [.int z0]) := by
  have hx := C.1
  have hb := C.2.1
  unfold mb_counted_159 at hm
  refine lv_if_ne (tgt := 164) hx hb dX12_counted_159 (by decide) (fun c_1 => ?_) (fun c_1 => ?_)
  · have hm := (if_neg c_1).symm.trans hm
    exact mw_counted_164 fu rc hr C hret x1 x2 x3 x4 x5 F G hm hw (lv_sub hl [0, 1, 2, 3, 4, 5] rfl)
  · have hm := (if_pos c_1).symm.trans hm
    exact mw_counted_162 fu rc hr C hret F G hm hw (lv_sub hl [] rfl)
theorem mw_counted_153 (fu : Nat) (rc : RC) {dd : Nat} (hr : mH2 l v a rc dd) {res : Int32 × PF × PG} (C : mMC p R s m args c A v RX12 cX12_counted 7 (dd + 1 + 307) (60 * (dd + 1) + 18156)) (hret : ∀ (H1 : Heap) (locs1 : List Loc) (ls1 : Array Slot) (pc : Nat), mMW s A v a res.2.1 res.2.2 H1 locs1 → narrow .boolean (.int res.1) = .int res.1 → decode cX12_counted pc = .ok (.ireturn, 1) → W p l e R s m args below meth c H1 locs1 0 0 Q (F0 m pc ls1 [.int res.1])) (x1 : Int32) (x2 : Int32) (x3 : Int32) (x4 : Int32) (x5 : Int32) (F : PF) (G : PG) (hm : mb_counted_153 fu rc x1 x2 x3 x4 x5 F G = some res) {H : Heap} {locs : List Loc} (hw : mMW s A v a F G H locs) {ls : Array Slot} (hl : lv_has ls 7 [(0, .ref (a 212)), (1, .int x1), (2, .int x2), (3, .int x3), (4, .int x4), (5, .int x5)]) : W p l e R s m args below meth c H locs 0 0 Q (F0 m 153 ls []) := by
  have hx := C.1
  have hb := C.2.1
  unfold mb_counted_153 at hm
  refine lv_aload_n hx hb dX12_counted_153 rfl (lv_at hl 0 rfl) ?_
  refine lv_bipush (v := 23) hx hb dX12_counted_154 (by decide) ?_
  obtain ⟨⟨r1, F1, G1⟩, hc, hm⟩ := bind_elim hm
  refine mcallI (n := 1) (As := [.int 23]) (rest := []) C hw (mk_closeSign l v a _ fu 23 F G r1 F1 G1 hc) (mrecv_X12 C hw) mm_248 mm_249 mm_250 mm_27 mm_251 (by decide +kernel) rfl (by omega) (by omega) hl.1 rfl (Nat.le_of_ble_eq_true rfl) dX12_counted_156 (fun H locs hw => ?_)
  exact mw_counted_159 fu rc hr C hret x1 x2 x3 x4 x5 r1 F1 G1 hm hw (lv_sub hl [0, 1, 2, 3, 4, 5] rfl)
theorem mw_counted_151 (fu : Nat) (rc : RC) {dd : Nat} (hr : mH2 l v a rc dd) {res : Int32 × PF × PG} (C : mMC p R s m args c A v RX12 cX12_counted 7 (dd + 1 + 307) (60 * (dd + 1) + 18156)) (hret : ∀ (H1 : Heap) (locs1 : List Loc) (ls1 : Array Slot) (pc : Nat), mMW s A v a res.2.1 res.2.2 H1 locs1 → narrow .boolean (.int res.1) = .int res.1 → decode cX12_counted pc = .ok (.ireturn, 1) → W p l e R s m args below meth c H1 locs1 0 0 Q (F0 m pc ls1 [.int res.1])) (F : PF) (G : PG) (hm : mb_counted_151 fu rc F G = some res) {H : Heap} {locs : List Loc} (hw : mMW s A v a F G H locs) {ls : Array Slot} (hl : lv_has ls 7 []) : W p l e R s m args below meth c H locs 0 0 Q (F0 m 151 ls []) := by
  have hx := C.1
  have hb := C.2.1
  unfold mb_counted_151 at hm
  refine lv_iconst (v := 0) hx hb dX12_counted_151 (by decide) ?_
  obtain rfl := Option.some.inj hm
  exact hret _ _ _ _ hw (b01_nar (v := 0) (Or.inl rfl)) dX12_counted_152
theorem mw_counted_148 (fu : Nat) (rc : RC) {dd : Nat} (hr : mH2 l v a rc dd) {res : Int32 × PF × PG} (C : mMC p R s m args c A v RX12 cX12_counted 7 (dd + 1 + 307) (60 * (dd + 1) + 18156)) (hret : ∀ (H1 : Heap) (locs1 : List Loc) (ls1 : Array Slot) (pc : Nat), mMW s A v a res.2.1 res.2.2 H1 locs1 → narrow .boolean (.int res.1) = .int res.1 → decode cX12_counted pc = .ok (.ireturn, 1) → W p l e R s m args below meth c H1 locs1 0 0 Q (F0 m pc ls1 [.int res.1])) (x1 : Int32) (x2 : Int32) (x3 : Int32) (x4 : Int32) (x5 : Int32) (z0 : Int32) (F : PF) (G : PG) (hm : mb_counted_148 fu rc x1 x2 x3 x4 x5 z0 F G = some res) {H : Heap} {locs : List Loc} (hw : mMW s A v a F G H locs) {ls : Array Slot} (hl : lv_has ls 7 [(0, .ref (a 212)), (1, .int x1), (2, .int x2), (3, .int x3), (4, .int x4), (5, .int x5)]) : W p l e R s m args below meth c H locs 0 0 Q (F0 m 148 ls [.int z0]) := by
  have hx := C.1
  have hb := C.2.1
  unfold mb_counted_148 at hm
  refine lv_if_ne (tgt := 153) hx hb dX12_counted_148 (by decide) (fun c_1 => ?_) (fun c_1 => ?_)
  · have hm := (if_neg c_1).symm.trans hm
    exact mw_counted_153 fu rc hr C hret x1 x2 x3 x4 x5 F G hm hw (lv_sub hl [0, 1, 2, 3, 4, 5] rfl)
  · have hm := (if_pos c_1).symm.trans hm
    exact mw_counted_151 fu rc hr C hret F G hm hw (lv_sub hl [] rfl)
theorem mw_counted_144 (fu : Nat) (rc : RC) {dd : Nat} (hr : mH2 l v a rc dd) {res : Int32 × PF × PG} (C : mMC p R s m args c A v RX12 cX12_counted 7 (dd + 1 + 307) (60 * (dd + 1) + 18156)) (hret : ∀ (H1 : Heap) (locs1 : List Loc) (ls1 : Array Slot) (pc : Nat), mMW s A v a res.2.1 res.2.2 H1 locs1 → narrow .boolean (.int res.1) = .int res.1 → decode cX12_counted pc = .ok (.ireturn, 1) → W p l e R s m args below meth c H1 locs1 0 0 Q (F0 m pc ls1 [.int res.1])) (x1 : Int32) (x2 : Int32) (x3 : Int32) (x4 : Int32) (x5 : Int32) (F : PF) (G : PG) (hm : mb_counted_144 fu rc x1 x2 x3 x4 x5 F G = some res) {H : Heap} {locs : List Loc} (hw : mMW s A v a F G H locs) {ls : Array Slot} (hl : lv_has ls 7 [(0, .ref (a 212)), (1, .int x1), (2, .int x2), (3, .int x3), (4, .int x4), (5, .int x5)]) : W p l e R s m args below meth c H locs 0 0 Q (F0 m 144 ls []) := by
  have hx := C.1
  have hb := C.2.1
  unfold mb_counted_144 at hm
  refine lv_aload_n hx hb dX12_counted_144 rfl (lv_at hl 0 rfl) ?_
  obtain ⟨⟨r1, F1, G1⟩, hc, hm⟩ := bind_elim hm
  refine mcallI (n := 0) (As := []) (rest := []) C hw (mk_simple l v a _ fu F G r1 F1 G1 hc) (mrecv_X12 C hw) mm_369 mm_370 mm_371 mm_27 mm_372 (by decide +kernel) rfl (by omega) (by omega) hl.1 rfl (Nat.le_of_ble_eq_true rfl) dX12_counted_145 (fun H locs hw => ?_)
  exact mw_counted_148 fu rc hr C hret x1 x2 x3 x4 x5 r1 F1 G1 hm hw (lv_sub hl [0, 1, 2, 3, 4, 5] rfl)
theorem mw_counted_141 (fu : Nat) (rc : RC) {dd : Nat} (hr : mH2 l v a rc dd) {res : Int32 × PF × PG} (C : mMC p R s m args c A v RX12 cX12_counted 7 (dd + 1 + 307) (60 * (dd + 1) + 18156)) (hret : ∀ (H1 : Heap) (locs1 : List Loc) (ls1 : Array Slot) (pc : Nat), mMW s A v a res.2.1 res.2.2 H1 locs1 → narrow .boolean (.int res.1) = .int res.1 → decode cX12_counted pc = .ok (.ireturn, 1) → W p l e R s m args below meth c H1 locs1 0 0 Q (F0 m pc ls1 [.int res.1])) (x1 : Int32) (x2 : Int32) (x3 : Int32) (x4 : Int32) (x5 : Int32) (z0 : Int32) (F : PF) (G : PG) (hm : mb_counted_141 fu rc x1 x2 x3 x4 x5 z0 F G = some res) {H : Heap} {locs : List Loc} (hw : mMW s A v a F G H locs) {ls : Array Slot} (hl : lv_has ls 7 [(0, .ref (a 212)), (1, .int x1), (2, .int x2), (3, .int x3), (4, .int x4), (5, .int x5)]) : W p l e R s m args below meth c H locs 0 0 Q (F0 m 141 ls [.int z0]) := by
  have hx := C.1
  have hb := C.2.1
  unfold mb_counted_141 at hm
  refine lv_if_ne (tgt := 153) hx hb dX12_counted_141 (by decide) (fun c_1 => ?_) (fun c_1 => ?_)
  · have hm := (if_neg c_1).symm.trans hm
    exact mw_counted_153 fu rc hr C hret x1 x2 x3 x4 x5 F G hm hw (lv_sub hl [0, 1, 2, 3, 4, 5] rfl)
  · have hm := (if_pos c_1).symm.trans hm
    exact mw_counted_144 fu rc hr C hret x1 x2 x3 x4 x5 F G hm hw (lv_sub hl [0, 1, 2, 3, 4, 5] rfl)
theorem mw_counted_127 (fu : Nat) (rc : RC) {dd : Nat} (hr : mH2 l v a rc dd) {res : Int32 × PF × PG} (C : mMC p R s m args c A v RX12 cX12_counted 7 (dd + 1 + 307) (60 * (dd + 1) + 18156)) (hret : ∀ (H1 : Heap) (locs1 : List Loc) (ls1 : Array Slot) (pc : Nat), mMW s A v a res.2.1 res.2.2 H1 locs1 → narrow .boolean (.int res.1) = .int res.1 → decode cX12_counted pc = .ok (.ireturn, 1) → W p l e R s m args below meth c H1 locs1 0 0 Q (F0 m pc ls1 [.int res.1])) (x1 : Int32) (x2 : Int32) (x3 : Int32) (z0 : Int32) (F : PF) (G : PG) (hm : mb_counted_127 fu rc x1 x2 x3 z0 F G = some res) {H : Heap} {locs : List Loc} (hw : mMW s A v a F G H locs) {ls : Array Slot} (hl : lv_has ls 7 [(0, .ref (a 212)), (1, .int x1), (2, .int x2), (3, .int x3)]) : W p l e R s m args below meth c H locs 0 0 Q (F0 m 127 ls [.int z0]) := by
  have hx := C.1
  have hb := C.2.1
  unfold mb_counted_127 at hm
  refine lv_istore (lv' := [(4, .int z0), (0, .ref (a 212)), (1, .int x1), (2, .int x2), (3, .int x3)]) hx hb dX12_counted_127 hl (by decide) rfl (fun ls hl => ?_)
  refine lv_aload_n hx hb dX12_counted_129 rfl (lv_at hl 1 rfl) ?_
  refine mg_X12_276 C hw dX12_counted_130 ?_
  refine lv_istore (lv' := [(5, .int (F 60)), (4, .int z0), (0, .ref (a 212)), (1, .int x1), (2, .int x2), (3, .int x3)]) hx hb dX12_counted_133 hl (by decide) rfl (fun ls hl => ?_)
  refine lv_aload_n hx hb dX12_counted_135 rfl (lv_at hl 2 rfl) ?_
  refine lv_bipush (v := 23) hx hb dX12_counted_136 (by decide) ?_
  obtain ⟨⟨r1, F1, G1⟩, hc, hm⟩ := bind_elim hm
  refine mcallI (n := 1) (As := [.int 23]) (rest := []) C hw (mk_isSign l v a _ fu 23 F G r1 F1 G1 hc) (mrecv_X12 C hw) mm_183 mm_184 mm_185 mm_27 mm_186 (by decide +kernel) rfl (by omega) (by omega) hl.1 rfl (Nat.le_of_ble_eq_true rfl) dX12_counted_138 (fun H locs hw => ?_)
  exact mw_counted_141 fu rc hr C hret x1 x2 x3 z0 (F 60) r1 F1 G1 hm hw (lv_sub hl [2, 3, 4, 5, 1, 0] rfl)
theorem mw_counted_119 (fu : Nat) (rc : RC) {dd : Nat} (hr : mH2 l v a rc dd) {res : Int32 × PF × PG} (C : mMC p R s m args c A v RX12 cX12_counted 7 (dd + 1 + 307) (60 * (dd + 1) + 18156)) (hret : ∀ (H1 : Heap) (locs1 : List Loc) (ls1 : Array Slot) (pc : Nat), mMW s A v a res.2.1 res.2.2 H1 locs1 → narrow .boolean (.int res.1) = .int res.1 → decode cX12_counted pc = .ok (.ireturn, 1) → W p l e R s m args below meth c H1 locs1 0 0 Q (F0 m pc ls1 [.int res.1])) (x1 : Int32) (x2 : Int32) (x3 : Int32) (F : PF) (G : PG) (hm : mb_counted_119 fu rc x1 x2 x3 F G = some res) {H : Heap} {locs : List Loc} (hw : mMW s A v a F G H locs) {ls : Array Slot} (hl : lv_has ls 7 [(0, .ref (a 212)), (1, .int x1), (2, .int x2), (3, .int x3)]) : W p l e R s m args below meth c H locs 0 0 Q (F0 m 119 ls []) := by
  have hx := C.1
  have hb := C.2.1
  unfold mb_counted_119 at hm
  refine lv_aload_n hx hb dX12_counted_119 rfl (lv_at hl 0 rfl) ?_
  refine lv_bipush (v := 12) hx hb dX12_counted_120 (by decide) ?_
  refine lv_iconst (v := 0) hx hb dX12_counted_122 (by decide) ?_
  refine lv_iconst (v := 0) hx hb dX12_counted_123 (by decide) ?_
  obtain ⟨⟨r1, F1, G1⟩, hc, hm⟩ := bind_elim hm
  refine mcallI (n := 3) (As := [.int 12, .int 0, .int 0]) (rest := []) C hw (mk_step l v a _ fu 12 0 0 F G r1 F1 G1 hc) (mrecv_X12 C hw) mm_203 mm_204 mm_205 mm_27 mm_206 (by decide +kernel) rfl (by omega) (by omega) hl.1 rfl (Nat.le_of_ble_eq_true rfl) dX12_counted_124 (fun H locs hw => ?_)
  exact mw_counted_127 fu rc hr C hret x1 x2 x3 r1 F1 G1 hm hw (lv_sub hl [0, 1, 2, 3] rfl)
theorem mw_counted_117 (fu : Nat) (rc : RC) {dd : Nat} (hr : mH2 l v a rc dd) {res : Int32 × PF × PG} (C : mMC p R s m args c A v RX12 cX12_counted 7 (dd + 1 + 307) (60 * (dd + 1) + 18156)) (hret : ∀ (H1 : Heap) (locs1 : List Loc) (ls1 : Array Slot) (pc : Nat), mMW s A v a res.2.1 res.2.2 H1 locs1 → narrow .boolean (.int res.1) = .int res.1 → decode cX12_counted pc = .ok (.ireturn, 1) → W p l e R s m args below meth c H1 locs1 0 0 Q (F0 m pc ls1 [.int res.1])) (F : PF) (G : PG) (hm : mb_counted_117 fu rc F G = some res) {H : Heap} {locs : List Loc} (hw : mMW s A v a F G H locs) {ls : Array Slot} (hl : lv_has ls 7 []) : W p l e R s m args below meth c H locs 0 0 Q (F0 m 117 ls []) := by
  have hx := C.1
  have hb := C.2.1
  unfold mb_counted_117 at hm
  refine lv_iconst (v := 0) hx hb dX12_counted_117 (by decide) ?_
  obtain rfl := Option.some.inj hm
  exact hret _ _ _ _ hw (b01_nar (v := 0) (Or.inl rfl)) dX12_counted_118
theorem mw_counted_114 (fu : Nat) (rc : RC) {dd : Nat} (hr : mH2 l v a rc dd) {res : Int32 × PF × PG} (C : mMC p R s m args c A v RX12 cX12_counted 7 (dd + 1 + 307) (60 * (dd + 1) + 18156)) (hret : ∀ (H1 : Heap) (locs1 : List Loc) (ls1 : Array Slot) (pc : Nat), mMW s A v a res.2.1 res.2.2 H1 locs1 → narrow .boolean (.int res.1) = .int res.1 → decode cX12_counted pc = .ok (.ireturn, 1) → W p l e R s m args below meth c H1 locs1 0 0 Q (F0 m pc ls1 [.int res.1])) (x1 : Int32) (x2 : Int32) (x3 : Int32) (z0 : Int32) (F : PF) (G : PG) (hm : mb_counted_114 fu rc x1 x2 x3 z0 F G = some res) {H : Heap} {locs : List Loc} (hw : mMW s A v a F G H locs) {ls : Array Slot} (hl : lv_has ls 7 [(0, .ref (a 212)), (1, .int x1), (2, .int x2), (3, .int x3)]) : W p l e R s m args below meth c H locs 0 0 Q (F0 m 114 ls [.int z0]) := by
  have hx := C.1
  have hb := C.2.1
  unfold mb_counted_114 at hm
  refine lv_if_ne (tgt := 119) hx hb dX12_counted_114 (by decide) (fun c_1 => ?_) (fun c_1 => ?_)
  · have hm := (if_neg c_1).symm.trans hm
    exact mw_counted_119 fu rc hr C hret x1 x2 x3 F G hm hw (lv_sub hl [0, 1, 2, 3] rfl)
  · have hm := (if_pos c_1).symm.trans hm
    exact mw_counted_117 fu rc hr C hret F G hm hw (lv_sub hl [] rfl)
theorem mw_counted_108 (fu : Nat) (rc : RC) {dd : Nat} (hr : mH2 l v a rc dd) {res : Int32 × PF × PG} (C : mMC p R s m args c A v RX12 cX12_counted 7 (dd + 1 + 307) (60 * (dd + 1) + 18156)) (hret : ∀ (H1 : Heap) (locs1 : List Loc) (ls1 : Array Slot) (pc : Nat), mMW s A v a res.2.1 res.2.2 H1 locs1 → narrow .boolean (.int res.1) = .int res.1 → decode cX12_counted pc = .ok (.ireturn, 1) → W p l e R s m args below meth c H1 locs1 0 0 Q (F0 m pc ls1 [.int res.1])) (x1 : Int32) (x2 : Int32) (x3 : Int32) (F : PF) (G : PG) (hm : mb_counted_108 fu rc x1 x2 x3 F G = some res) {H : Heap} {locs : List Loc} (hw : mMW s A v a F G H locs) {ls : Array Slot} (hl : lv_has ls 7 [(0, .ref (a 212)), (1, .int x1), (2, .int x2), (3, .int x3)]) : W p l e R s m args below meth c H locs 0 0 Q (F0 m 108 ls []) := by
  have hx := C.1
  have hb := C.2.1
  unfold mb_counted_108 at hm
  refine lv_aload_n hx hb dX12_counted_108 rfl (lv_at hl 0 rfl) ?_
  refine lv_bipush (v := 29) hx hb dX12_counted_109 (by decide) ?_
  obtain ⟨⟨r1, F1, G1⟩, hc, hm⟩ := bind_elim hm
  refine mcallI (n := 1) (As := [.int 29]) (rest := []) C hw (mk_sign l v a _ fu 29 F G r1 F1 G1 hc) (mrecv_X12 C hw) mm_179 mm_180 mm_181 mm_27 mm_182 (by decide +kernel) rfl (by omega) (by omega) hl.1 rfl (Nat.le_of_ble_eq_true rfl) dX12_counted_111 (fun H locs hw => ?_)
  exact mw_counted_114 fu rc hr C hret x1 x2 x3 r1 F1 G1 hm hw (lv_sub hl [0, 1, 2, 3] rfl)
theorem mw_counted_107 (fu : Nat) (rc : RC) {dd : Nat} (hr : mH2 l v a rc dd) {res : Int32 × PF × PG} (C : mMC p R s m args c A v RX12 cX12_counted 7 (dd + 1 + 307) (60 * (dd + 1) + 18156)) (hret : ∀ (H1 : Heap) (locs1 : List Loc) (ls1 : Array Slot) (pc : Nat), mMW s A v a res.2.1 res.2.2 H1 locs1 → narrow .boolean (.int res.1) = .int res.1 → decode cX12_counted pc = .ok (.ireturn, 1) → W p l e R s m args below meth c H1 locs1 0 0 Q (F0 m pc ls1 [.int res.1])) (x1 : Int32) (x2 : Int32) (z0 : Int32) (F : PF) (G : PG) (hm : mb_counted_107 fu rc x1 x2 z0 F G = some res) {H : Heap} {locs : List Loc} (hw : mMW s A v a F G H locs) {ls : Array Slot} (hl : lv_has ls 7 [(0, .ref (a 212)), (1, .int x1), (2, .int x2)]) : W p l e R s m args below meth c H locs 0 0 Q (F0 m 107 ls [.int z0]) := by
  have hx := C.1
  have hb := C.2.1
  unfold mb_counted_107 at hm
  refine lv_istore_n (lv' := [(3, .int z0), (0, .ref (a 212)), (1, .int x1), (2, .int x2)]) hx hb dX12_counted_107 rfl hl (by decide) rfl (fun ls hl => ?_)
  exact mw_counted_108 fu rc hr C hret x1 x2 z0 F G hm hw (lv_sub hl [1, 2, 3, 0] rfl)
theorem mw_counted_99 (fu : Nat) (rc : RC) {dd : Nat} (hr : mH2 l v a rc dd) {res : Int32 × PF × PG} (C : mMC p R s m args c A v RX12 cX12_counted 7 (dd + 1 + 307) (60 * (dd + 1) + 18156)) (hret : ∀ (H1 : Heap) (locs1 : List Loc) (ls1 : Array Slot) (pc : Nat), mMW s A v a res.2.1 res.2.2 H1 locs1 → narrow .boolean (.int res.1) = .int res.1 → decode cX12_counted pc = .ok (.ireturn, 1) → W p l e R s m args below meth c H1 locs1 0 0 Q (F0 m pc ls1 [.int res.1])) (x1 : Int32) (x2 : Int32) (F : PF) (G : PG) (hm : mb_counted_99 fu rc x1 x2 F G = some res) {H : Heap} {locs : List Loc} (hw : mMW s A v a F G H locs) {ls : Array Slot} (hl : lv_has ls 7 [(0, .ref (a 212)), (1, .int x1), (2, .int x2)]) : W p l e R s m args below meth c H locs 0 0 Q (F0 m 99 ls []) := by
  have hx := C.1
  have hb := C.2.1
  unfold mb_counted_99 at hm
  refine lv_aload_n hx hb dX12_counted_99 rfl (lv_at hl 0 rfl) ?_
  refine lv_bipush (v := 13) hx hb dX12_counted_100 (by decide) ?_
  refine lv_iconst (v := 0) hx hb dX12_counted_102 (by decide) ?_
  refine lv_iconst (v := 0) hx hb dX12_counted_103 (by decide) ?_
  obtain ⟨⟨r1, F1, G1⟩, hc, hm⟩ := bind_elim hm
  refine mcallI (n := 3) (As := [.int 13, .int 0, .int 0]) (rest := []) C hw (mk_step l v a _ fu 13 0 0 F G r1 F1 G1 hc) (mrecv_X12 C hw) mm_203 mm_204 mm_205 mm_27 mm_206 (by decide +kernel) rfl (by omega) (by omega) hl.1 rfl (Nat.le_of_ble_eq_true rfl) dX12_counted_104 (fun H locs hw => ?_)
  exact mw_counted_107 fu rc hr C hret x1 x2 r1 F1 G1 hm hw (lv_sub hl [0, 1, 2] rfl)
theorem mw_counted_97 (fu : Nat) (rc : RC) {dd : Nat} (hr : mH2 l v a rc dd) {res : Int32 × PF × PG} (C : mMC p R s m args c A v RX12 cX12_counted 7 (dd + 1 + 307) (60 * (dd + 1) + 18156)) (hret : ∀ (H1 : Heap) (locs1 : List Loc) (ls1 : Array Slot) (pc : Nat), mMW s A v a res.2.1 res.2.2 H1 locs1 → narrow .boolean (.int res.1) = .int res.1 → decode cX12_counted pc = .ok (.ireturn, 1) → W p l e R s m args below meth c H1 locs1 0 0 Q (F0 m pc ls1 [.int res.1])) (F : PF) (G : PG) (hm : mb_counted_97 fu rc F G = some res) {H : Heap} {locs : List Loc} (hw : mMW s A v a F G H locs) {ls : Array Slot} (hl : lv_has ls 7 []) : W p l e R s m args below meth c H locs 0 0 Q (F0 m 97 ls []) := by
  have hx := C.1
  have hb := C.2.1
  unfold mb_counted_97 at hm
  refine lv_iconst (v := 0) hx hb dX12_counted_97 (by decide) ?_
  obtain rfl := Option.some.inj hm
  exact hret _ _ _ _ hw (b01_nar (v := 0) (Or.inl rfl)) dX12_counted_98
theorem mw_counted_94 (fu : Nat) (rc : RC) {dd : Nat} (hr : mH2 l v a rc dd) {res : Int32 × PF × PG} (C : mMC p R s m args c A v RX12 cX12_counted 7 (dd + 1 + 307) (60 * (dd + 1) + 18156)) (hret : ∀ (H1 : Heap) (locs1 : List Loc) (ls1 : Array Slot) (pc : Nat), mMW s A v a res.2.1 res.2.2 H1 locs1 → narrow .boolean (.int res.1) = .int res.1 → decode cX12_counted pc = .ok (.ireturn, 1) → W p l e R s m args below meth c H1 locs1 0 0 Q (F0 m pc ls1 [.int res.1])) (x1 : Int32) (x2 : Int32) (z0 : Int32) (F : PF) (G : PG) (hm : mb_counted_94 fu rc x1 x2 z0 F G = some res) {H : Heap} {locs : List Loc} (hw : mMW s A v a F G H locs) {ls : Array Slot} (hl : lv_has ls 7 [(0, .ref (a 212)), (1, .int x1), (2, .int x2)]) : W p l e R s m args below meth c H locs 0 0 Q (F0 m 94 ls [.int z0]) := by
  have hx := C.1
  have hb := C.2.1
  unfold mb_counted_94 at hm
  refine lv_if_ne (tgt := 99) hx hb dX12_counted_94 (by decide) (fun c_1 => ?_) (fun c_1 => ?_)
  · have hm := (if_neg c_1).symm.trans hm
    exact mw_counted_99 fu rc hr C hret x1 x2 F G hm hw (lv_sub hl [0, 1, 2] rfl)
  · have hm := (if_pos c_1).symm.trans hm
    exact mw_counted_97 fu rc hr C hret F G hm hw (lv_sub hl [] rfl)
theorem mw_counted_90 (fu : Nat) (rc : RC) {dd : Nat} (hr : mH2 l v a rc dd) {res : Int32 × PF × PG} (C : mMC p R s m args c A v RX12 cX12_counted 7 (dd + 1 + 307) (60 * (dd + 1) + 18156)) (hret : ∀ (H1 : Heap) (locs1 : List Loc) (ls1 : Array Slot) (pc : Nat), mMW s A v a res.2.1 res.2.2 H1 locs1 → narrow .boolean (.int res.1) = .int res.1 → decode cX12_counted pc = .ok (.ireturn, 1) → W p l e R s m args below meth c H1 locs1 0 0 Q (F0 m pc ls1 [.int res.1])) (x1 : Int32) (x2 : Int32) (F : PF) (G : PG) (hm : mb_counted_90 fu rc x1 x2 F G = some res) {H : Heap} {locs : List Loc} (hw : mMW s A v a F G H locs) {ls : Array Slot} (hl : lv_has ls 7 [(0, .ref (a 212)), (1, .int x1), (2, .int x2)]) : W p l e R s m args below meth c H locs 0 0 Q (F0 m 90 ls []) := by
  have hx := C.1
  have hb := C.2.1
  unfold mb_counted_90 at hm
  refine lv_aload_n hx hb dX12_counted_90 rfl (lv_at hl 0 rfl) ?_
  obtain ⟨⟨r1, F1, G1⟩, hc, hm⟩ := bind_elim hm
  refine mcallI (n := 0) (As := []) (rest := []) C hw (mk_expression l v a _ fu F G r1 F1 G1 hc) (mrecv_X12 C hw) mm_191 mm_192 mm_193 mm_27 mm_194 (by decide +kernel) rfl (by omega) (by omega) hl.1 rfl (Nat.le_of_ble_eq_true rfl) dX12_counted_91 (fun H locs hw => ?_)
  exact mw_counted_94 fu rc hr C hret x1 x2 r1 F1 G1 hm hw (lv_sub hl [0, 1, 2] rfl)
theorem mw_counted_87 (fu : Nat) (rc : RC) {dd : Nat} (hr : mH2 l v a rc dd) {res : Int32 × PF × PG} (C : mMC p R s m args c A v RX12 cX12_counted 7 (dd + 1 + 307) (60 * (dd + 1) + 18156)) (hret : ∀ (H1 : Heap) (locs1 : List Loc) (ls1 : Array Slot) (pc : Nat), mMW s A v a res.2.1 res.2.2 H1 locs1 → narrow .boolean (.int res.1) = .int res.1 → decode cX12_counted pc = .ok (.ireturn, 1) → W p l e R s m args below meth c H1 locs1 0 0 Q (F0 m pc ls1 [.int res.1])) (x1 : Int32) (x2 : Int32) (x3 : Int32) (z0 : Int32) (F : PF) (G : PG) (hm : mb_counted_87 fu rc x1 x2 x3 z0 F G = some res) {H : Heap} {locs : List Loc} (hw : mMW s A v a F G H locs) {ls : Array Slot} (hl : lv_has ls 7 [(0, .ref (a 212)), (1, .int x1), (2, .int x2), (3, .int x3)]) : W p l e R s m args below meth c H locs 0 0 Q (F0 m 87 ls [.int z0]) := by
  have hx := C.1
  have hb := C.2.1
  unfold mb_counted_87 at hm
  refine lv_if_ne (tgt := 108) hx hb dX12_counted_87 (by decide) (fun c_1 => ?_) (fun c_1 => ?_)
  · have hm := (if_neg c_1).symm.trans hm
    exact mw_counted_108 fu rc hr C hret x1 x2 x3 F G hm hw (lv_sub hl [0, 1, 2, 3] rfl)
  · have hm := (if_pos c_1).symm.trans hm
    exact mw_counted_90 fu rc hr C hret x1 x2 F G hm hw (lv_sub hl [0, 1, 2] rfl)
theorem mw_counted_74 (fu : Nat) (rc : RC) {dd : Nat} (hr : mH2 l v a rc dd) {res : Int32 × PF × PG} (C : mMC p R s m args c A v RX12 cX12_counted 7 (dd + 1 + 307) (60 * (dd + 1) + 18156)) (hret : ∀ (H1 : Heap) (locs1 : List Loc) (ls1 : Array Slot) (pc : Nat), mMW s A v a res.2.1 res.2.2 H1 locs1 → narrow .boolean (.int res.1) = .int res.1 → decode cX12_counted pc = .ok (.ireturn, 1) → W p l e R s m args below meth c H1 locs1 0 0 Q (F0 m pc ls1 [.int res.1])) (x1 : Int32) (F : PF) (G : PG) (hm : mb_counted_74 fu rc x1 F G = some res) {H : Heap} {locs : List Loc} (hw : mMW s A v a F G H locs) {ls : Array Slot} (hl : lv_has ls 7 [(0, .ref (a 212)), (1, .int x1)]) : W p l e R s m args below meth c H locs 0 0 Q (F0 m 74 ls []) := by
  have hx := C.1
  have hb := C.2.1
  unfold mb_counted_74 at hm
  refine lv_aload_n hx hb dX12_counted_74 rfl (lv_at hl 0 rfl) ?_
  refine mg_X12_276 C hw dX12_counted_75 ?_
  refine lv_istore_n (lv' := [(2, .int (F 60)), (0, .ref (a 212)), (1, .int x1)]) hx hb dX12_counted_78 rfl hl (by decide) rfl (fun ls hl => ?_)
  refine lv_iconst (v := (-1)) hx hb dX12_counted_79 (by decide) ?_
  refine lv_istore_n (lv' := [(3, .int (-1)), (2, .int (F 60)), (0, .ref (a 212)), (1, .int x1)]) hx hb dX12_counted_80 rfl hl (by decide) rfl (fun ls hl => ?_)
  refine lv_aload_n hx hb dX12_counted_81 rfl (lv_at hl 2 rfl) ?_
  refine lv_bipush (v := 29) hx hb dX12_counted_82 (by decide) ?_
  obtain ⟨⟨r1, F1, G1⟩, hc, hm⟩ := bind_elim hm
  refine mcallI (n := 1) (As := [.int 29]) (rest := []) C hw (mk_isSign l v a _ fu 29 F G r1 F1 G1 hc) (mrecv_X12 C hw) mm_183 mm_184 mm_185 mm_27 mm_186 (by decide +kernel) rfl (by omega) (by omega) hl.1 rfl (Nat.le_of_ble_eq_true rfl) dX12_counted_84 (fun H locs hw => ?_)
  exact mw_counted_87 fu rc hr C hret x1 (F 60) (-1) r1 F1 G1 hm hw (lv_sub hl [2, 3, 1, 0] rfl)
theorem mw_counted_72 (fu : Nat) (rc : RC) {dd : Nat} (hr : mH2 l v a rc dd) {res : Int32 × PF × PG} (C : mMC p R s m args c A v RX12 cX12_counted 7 (dd + 1 + 307) (60 * (dd + 1) + 18156)) (hret : ∀ (H1 : Heap) (locs1 : List Loc) (ls1 : Array Slot) (pc : Nat), mMW s A v a res.2.1 res.2.2 H1 locs1 → narrow .boolean (.int res.1) = .int res.1 → decode cX12_counted pc = .ok (.ireturn, 1) → W p l e R s m args below meth c H1 locs1 0 0 Q (F0 m pc ls1 [.int res.1])) (F : PF) (G : PG) (hm : mb_counted_72 fu rc F G = some res) {H : Heap} {locs : List Loc} (hw : mMW s A v a F G H locs) {ls : Array Slot} (hl : lv_has ls 7 []) : W p l e R s m args below meth c H locs 0 0 Q (F0 m 72 ls []) := by
  have hx := C.1
  have hb := C.2.1
  unfold mb_counted_72 at hm
  refine lv_iconst (v := 0) hx hb dX12_counted_72 (by decide) ?_
  obtain rfl := Option.some.inj hm
  exact hret _ _ _ _ hw (b01_nar (v := 0) (Or.inl rfl)) dX12_counted_73
theorem mw_counted_69 (fu : Nat) (rc : RC) {dd : Nat} (hr : mH2 l v a rc dd) {res : Int32 × PF × PG} (C : mMC p R s m args c A v RX12 cX12_counted 7 (dd + 1 + 307) (60 * (dd + 1) + 18156)) (hret : ∀ (H1 : Heap) (locs1 : List Loc) (ls1 : Array Slot) (pc : Nat), mMW s A v a res.2.1 res.2.2 H1 locs1 → narrow .boolean (.int res.1) = .int res.1 → decode cX12_counted pc = .ok (.ireturn, 1) → W p l e R s m args below meth c H1 locs1 0 0 Q (F0 m pc ls1 [.int res.1])) (x1 : Int32) (z0 : Int32) (F : PF) (G : PG) (hm : mb_counted_69 fu rc x1 z0 F G = some res) {H : Heap} {locs : List Loc} (hw : mMW s A v a F G H locs) {ls : Array Slot} (hl : lv_has ls 7 [(0, .ref (a 212)), (1, .int x1)]) : W p l e R s m args below meth c H locs 0 0 Q (F0 m 69 ls [.int z0]) := by
  have hx := C.1
  have hb := C.2.1
  unfold mb_counted_69 at hm
  refine lv_if_ne (tgt := 74) hx hb dX12_counted_69 (by decide) (fun c_1 => ?_) (fun c_1 => ?_)
  · have hm := (if_neg c_1).symm.trans hm
    exact mw_counted_74 fu rc hr C hret x1 F G hm hw (lv_sub hl [0, 1] rfl)
  · have hm := (if_pos c_1).symm.trans hm
    exact mw_counted_72 fu rc hr C hret F G hm hw (lv_sub hl [] rfl)
theorem mw_counted_63 (fu : Nat) (rc : RC) {dd : Nat} (hr : mH2 l v a rc dd) {res : Int32 × PF × PG} (C : mMC p R s m args c A v RX12 cX12_counted 7 (dd + 1 + 307) (60 * (dd + 1) + 18156)) (hret : ∀ (H1 : Heap) (locs1 : List Loc) (ls1 : Array Slot) (pc : Nat), mMW s A v a res.2.1 res.2.2 H1 locs1 → narrow .boolean (.int res.1) = .int res.1 → decode cX12_counted pc = .ok (.ireturn, 1) → W p l e R s m args below meth c H1 locs1 0 0 Q (F0 m pc ls1 [.int res.1])) (x1 : Int32) (F : PF) (G : PG) (hm : mb_counted_63 fu rc x1 F G = some res) {H : Heap} {locs : List Loc} (hw : mMW s A v a F G H locs) {ls : Array Slot} (hl : lv_has ls 7 [(0, .ref (a 212)), (1, .int x1)]) : W p l e R s m args below meth c H locs 0 0 Q (F0 m 63 ls []) := by
  have hx := C.1
  have hb := C.2.1
  unfold mb_counted_63 at hm
  refine lv_aload_n hx hb dX12_counted_63 rfl (lv_at hl 0 rfl) ?_
  refine lv_bipush (v := 29) hx hb dX12_counted_64 (by decide) ?_
  obtain ⟨⟨r1, F1, G1⟩, hc, hm⟩ := bind_elim hm
  refine mcallI (n := 1) (As := [.int 29]) (rest := []) C hw (mk_sign l v a _ fu 29 F G r1 F1 G1 hc) (mrecv_X12 C hw) mm_179 mm_180 mm_181 mm_27 mm_182 (by decide +kernel) rfl (by omega) (by omega) hl.1 rfl (Nat.le_of_ble_eq_true rfl) dX12_counted_66 (fun H locs hw => ?_)
  exact mw_counted_69 fu rc hr C hret x1 r1 F1 G1 hm hw (lv_sub hl [0, 1] rfl)
theorem mw_counted_61 (fu : Nat) (rc : RC) {dd : Nat} (hr : mH2 l v a rc dd) {res : Int32 × PF × PG} (C : mMC p R s m args c A v RX12 cX12_counted 7 (dd + 1 + 307) (60 * (dd + 1) + 18156)) (hret : ∀ (H1 : Heap) (locs1 : List Loc) (ls1 : Array Slot) (pc : Nat), mMW s A v a res.2.1 res.2.2 H1 locs1 → narrow .boolean (.int res.1) = .int res.1 → decode cX12_counted pc = .ok (.ireturn, 1) → W p l e R s m args below meth c H1 locs1 0 0 Q (F0 m pc ls1 [.int res.1])) (F : PF) (G : PG) (hm : mb_counted_61 fu rc F G = some res) {H : Heap} {locs : List Loc} (hw : mMW s A v a F G H locs) {ls : Array Slot} (hl : lv_has ls 7 []) : W p l e R s m args below meth c H locs 0 0 Q (F0 m 61 ls []) := by
  have hx := C.1
  have hb := C.2.1
  unfold mb_counted_61 at hm
  refine lv_iconst (v := 0) hx hb dX12_counted_61 (by decide) ?_
  obtain rfl := Option.some.inj hm
  exact hret _ _ _ _ hw (b01_nar (v := 0) (Or.inl rfl)) dX12_counted_62
theorem mw_counted_56 (fu : Nat) (rc : RC) {dd : Nat} (hr : mH2 l v a rc dd) {res : Int32 × PF × PG} (C : mMC p R s m args c A v RX12 cX12_counted 7 (dd + 1 + 307) (60 * (dd + 1) + 18156)) (hret : ∀ (H1 : Heap) (locs1 : List Loc) (ls1 : Array Slot) (pc : Nat), mMW s A v a res.2.1 res.2.2 H1 locs1 → narrow .boolean (.int res.1) = .int res.1 → decode cX12_counted pc = .ok (.ireturn, 1) → W p l e R s m args below meth c H1 locs1 0 0 Q (F0 m pc ls1 [.int res.1])) (x1 : Int32) (z0 : Int32) (F : PF) (G : PG) (hm : mb_counted_56 fu rc x1 z0 F G = some res) {H : Heap} {locs : List Loc} (hw : mMW s A v a F G H locs) {ls : Array Slot} (hl : lv_has ls 7 [(0, .ref (a 212)), (1, .int x1)]) : W p l e R s m args below meth c H locs 0 0 Q (F0 m 56 ls [.int z0]) := by
  have hx := C.1
  have hb := C.2.1
  unfold mb_counted_56 at hm
  refine lv_istore_n (lv' := [(2, .int z0), (0, .ref (a 212)), (1, .int x1)]) hx hb dX12_counted_56 rfl hl (by decide) rfl (fun ls hl => ?_)
  refine lv_iload_n hx hb dX12_counted_57 rfl (lv_at hl 0 rfl) ?_
  refine lv_if_ne (tgt := 63) hx hb dX12_counted_58 (by decide) (fun c_1 => ?_) (fun c_1 => ?_)
  · have hm := (if_neg c_1).symm.trans hm
    exact mw_counted_63 fu rc hr C hret x1 F G hm hw (lv_sub hl [1, 2] rfl)
  · have hm := (if_pos c_1).symm.trans hm
    exact mw_counted_61 fu rc hr C hret F G hm hw (lv_sub hl [] rfl)
theorem mw_counted_52 (fu : Nat) (rc : RC) {dd : Nat} (hr : mH2 l v a rc dd) {res : Int32 × PF × PG} (C : mMC p R s m args c A v RX12 cX12_counted 7 (dd + 1 + 307) (60 * (dd + 1) + 18156)) (hret : ∀ (H1 : Heap) (locs1 : List Loc) (ls1 : Array Slot) (pc : Nat), mMW s A v a res.2.1 res.2.2 H1 locs1 → narrow .boolean (.int res.1) = .int res.1 → decode cX12_counted pc = .ok (.ireturn, 1) → W p l e R s m args below meth c H1 locs1 0 0 Q (F0 m pc ls1 [.int res.1])) (x1 : Int32) (F : PF) (G : PG) (hm : mb_counted_52 fu rc x1 F G = some res) {H : Heap} {locs : List Loc} (hw : mMW s A v a F G H locs) {ls : Array Slot} (hl : lv_has ls 7 [(0, .ref (a 212)), (1, .int x1)]) : W p l e R s m args below meth c H locs 0 0 Q (F0 m 52 ls []) := by
  have hx := C.1
  have hb := C.2.1
  unfold mb_counted_52 at hm
  refine lv_aload_n hx hb dX12_counted_52 rfl (lv_at hl 0 rfl) ?_
  obtain ⟨⟨r1, F1, G1⟩, hc, hm⟩ := bind_elim hm
  refine mcallI (n := 0) (As := []) (rest := []) C hw (mk_simple l v a _ fu F G r1 F1 G1 hc) (mrecv_X12 C hw) mm_369 mm_370 mm_371 mm_27 mm_372 (by decide +kernel) rfl (by omega) (by omega) hl.1 rfl (Nat.le_of_ble_eq_true rfl) dX12_counted_53 (fun H locs hw => ?_)
  exact mw_counted_56 fu rc hr C hret x1 r1 F1 G1 hm hw (lv_sub hl [0, 1] rfl)
theorem mw_counted_49 (fu : Nat) (rc : RC) {dd : Nat} (hr : mH2 l v a rc dd) {res : Int32 × PF × PG} (C : mMC p R s m args c A v RX12 cX12_counted 7 (dd + 1 + 307) (60 * (dd + 1) + 18156)) (hret : ∀ (H1 : Heap) (locs1 : List Loc) (ls1 : Array Slot) (pc : Nat), mMW s A v a res.2.1 res.2.2 H1 locs1 → narrow .boolean (.int res.1) = .int res.1 → decode cX12_counted pc = .ok (.ireturn, 1) → W p l e R s m args below meth c H1 locs1 0 0 Q (F0 m pc ls1 [.int res.1])) (x1 : Int32) (z0 : Int32) (F : PF) (G : PG) (hm : mb_counted_49 fu rc x1 z0 F G = some res) {H : Heap} {locs : List Loc} (hw : mMW s A v a F G H locs) {ls : Array Slot} (hl : lv_has ls 7 [(0, .ref (a 212)), (1, .int x1)]) : W p l e R s m args below meth c H locs 0 0 Q (F0 m 49 ls [.int z0]) := by
  have hx := C.1
  have hb := C.2.1
  unfold mb_counted_49 at hm
  refine lv_goto (tgt := 56) hx hb dX12_counted_49 (by decide) ?_
  exact mw_counted_56 fu rc hr C hret x1 z0 F G hm hw (lv_sub hl [0, 1] rfl)
theorem mw_counted_44 (fu : Nat) (rc : RC) {dd : Nat} (hr : mH2 l v a rc dd) {res : Int32 × PF × PG} (C : mMC p R s m args c A v RX12 cX12_counted 7 (dd + 1 + 307) (60 * (dd + 1) + 18156)) (hret : ∀ (H1 : Heap) (locs1 : List Loc) (ls1 : Array Slot) (pc : Nat), mMW s A v a res.2.1 res.2.2 H1 locs1 → narrow .boolean (.int res.1) = .int res.1 → decode cX12_counted pc = .ok (.ireturn, 1) → W p l e R s m args below meth c H1 locs1 0 0 Q (F0 m pc ls1 [.int res.1])) (x1 : Int32) (F : PF) (G : PG) (hm : mb_counted_44 fu rc x1 F G = some res) {H : Heap} {locs : List Loc} (hw : mMW s A v a F G H locs) {ls : Array Slot} (hl : lv_has ls 7 [(0, .ref (a 212)), (1, .int x1)]) : W p l e R s m args below meth c H locs 0 0 Q (F0 m 44 ls []) := by
  have hx := C.1
  have hb := C.2.1
  unfold mb_counted_44 at hm
  refine lv_aload_n hx hb dX12_counted_44 rfl (lv_at hl 0 rfl) ?_
  refine lv_iconst (v := 0) hx hb dX12_counted_45 (by decide) ?_
  obtain ⟨⟨r1, F1, G1⟩, hc, hm⟩ := bind_elim hm
  refine mcallI (n := 1) (As := [.int 0]) (rest := []) C hw (mk_tellHere l v a _ fu 0 F G r1 F1 G1 hc) (mrecv_X12 C hw) mm_361 mm_362 mm_363 mm_27 mm_364 (by decide +kernel) rfl (by omega) (by omega) hl.1 rfl (Nat.le_of_ble_eq_true rfl) dX12_counted_46 (fun H locs hw => ?_)
  exact mw_counted_49 fu rc hr C hret x1 r1 F1 G1 hm hw (lv_sub hl [0, 1] rfl)
theorem mw_counted_41 (fu : Nat) (rc : RC) {dd : Nat} (hr : mH2 l v a rc dd) {res : Int32 × PF × PG} (C : mMC p R s m args c A v RX12 cX12_counted 7 (dd + 1 + 307) (60 * (dd + 1) + 18156)) (hret : ∀ (H1 : Heap) (locs1 : List Loc) (ls1 : Array Slot) (pc : Nat), mMW s A v a res.2.1 res.2.2 H1 locs1 → narrow .boolean (.int res.1) = .int res.1 → decode cX12_counted pc = .ok (.ireturn, 1) → W p l e R s m args below meth c H1 locs1 0 0 Q (F0 m pc ls1 [.int res.1])) (x1 : Int32) (z0 : Int32) (F : PF) (G : PG) (hm : mb_counted_41 fu rc x1 z0 F G = some res) {H : Heap} {locs : List Loc} (hw : mMW s A v a F G H locs) {ls : Array Slot} (hl : lv_has ls 7 [(0, .ref (a 212)), (1, .int x1)]) : W p l e R s m args below meth c H locs 0 0 Q (F0 m 41 ls [.int z0]) := by
  have hx := C.1
  have hb := C.2.1
  unfold mb_counted_41 at hm
  refine lv_if_eq (tgt := 52) hx hb dX12_counted_41 (by decide) (fun c_1 => ?_) (fun c_1 => ?_)
  · have hm := (if_pos c_1).symm.trans hm
    exact mw_counted_52 fu rc hr C hret x1 F G hm hw (lv_sub hl [0, 1] rfl)
  · have hm := (if_neg c_1).symm.trans hm
    exact mw_counted_44 fu rc hr C hret x1 F G hm hw (lv_sub hl [0, 1] rfl)
theorem mw_counted_36 (fu : Nat) (rc : RC) {dd : Nat} (hr : mH2 l v a rc dd) {res : Int32 × PF × PG} (C : mMC p R s m args c A v RX12 cX12_counted 7 (dd + 1 + 307) (60 * (dd + 1) + 18156)) (hret : ∀ (H1 : Heap) (locs1 : List Loc) (ls1 : Array Slot) (pc : Nat), mMW s A v a res.2.1 res.2.2 H1 locs1 → narrow .boolean (.int res.1) = .int res.1 → decode cX12_counted pc = .ok (.ireturn, 1) → W p l e R s m args below meth c H1 locs1 0 0 Q (F0 m pc ls1 [.int res.1])) (x1 : Int32) (F : PF) (G : PG) (hm : mb_counted_36 fu rc x1 F G = some res) {H : Heap} {locs : List Loc} (hw : mMW s A v a F G H locs) {ls : Array Slot} (hl : lv_has ls 7 [(0, .ref (a 212)), (1, .int x1)]) : W p l e R s m args below meth c H locs 0 0 Q (F0 m 36 ls []) := by
  have hx := C.1
  have hb := C.2.1
  unfold mb_counted_36 at hm
  refine lv_aload_n hx hb dX12_counted_36 rfl (lv_at hl 0 rfl) ?_
  refine lv_iconst (v := 0) hx hb dX12_counted_37 (by decide) ?_
  obtain ⟨⟨r1, F1, G1⟩, hc, hm⟩ := bind_elim hm
  refine mcallI (n := 1) (As := [.int 0]) (rest := []) C hw (mk_isWord l v a _ fu 0 F G r1 F1 G1 hc) (mrecv_X12 C hw) mm_162 mm_163 mm_164 mm_27 mm_165 (by decide +kernel) rfl (by omega) (by omega) hl.1 rfl (Nat.le_of_ble_eq_true rfl) dX12_counted_38 (fun H locs hw => ?_)
  exact mw_counted_41 fu rc hr C hret x1 r1 F1 G1 hm hw (lv_sub hl [0, 1] rfl)
theorem mw_counted_33 (fu : Nat) (rc : RC) {dd : Nat} (hr : mH2 l v a rc dd) {res : Int32 × PF × PG} (C : mMC p R s m args c A v RX12 cX12_counted 7 (dd + 1 + 307) (60 * (dd + 1) + 18156)) (hret : ∀ (H1 : Heap) (locs1 : List Loc) (ls1 : Array Slot) (pc : Nat), mMW s A v a res.2.1 res.2.2 H1 locs1 → narrow .boolean (.int res.1) = .int res.1 → decode cX12_counted pc = .ok (.ireturn, 1) → W p l e R s m args below meth c H1 locs1 0 0 Q (F0 m pc ls1 [.int res.1])) (x1 : Int32) (z0 : Int32) (F : PF) (G : PG) (hm : mb_counted_33 fu rc x1 z0 F G = some res) {H : Heap} {locs : List Loc} (hw : mMW s A v a F G H locs) {ls : Array Slot} (hl : lv_has ls 7 [(0, .ref (a 212)), (1, .int x1)]) : W p l e R s m args below meth c H locs 0 0 Q (F0 m 33 ls [.int z0]) := by
  have hx := C.1
  have hb := C.2.1
  unfold mb_counted_33 at hm
  refine lv_if_ne (tgt := 63) hx hb dX12_counted_33 (by decide) (fun c_1 => ?_) (fun c_1 => ?_)
  · have hm := (if_neg c_1).symm.trans hm
    exact mw_counted_63 fu rc hr C hret x1 F G hm hw (lv_sub hl [0, 1] rfl)
  · have hm := (if_pos c_1).symm.trans hm
    exact mw_counted_36 fu rc hr C hret x1 F G hm hw (lv_sub hl [0, 1] rfl)
theorem mw_counted_27 (fu : Nat) (rc : RC) {dd : Nat} (hr : mH2 l v a rc dd) {res : Int32 × PF × PG} (C : mMC p R s m args c A v RX12 cX12_counted 7 (dd + 1 + 307) (60 * (dd + 1) + 18156)) (hret : ∀ (H1 : Heap) (locs1 : List Loc) (ls1 : Array Slot) (pc : Nat), mMW s A v a res.2.1 res.2.2 H1 locs1 → narrow .boolean (.int res.1) = .int res.1 → decode cX12_counted pc = .ok (.ireturn, 1) → W p l e R s m args below meth c H1 locs1 0 0 Q (F0 m pc ls1 [.int res.1])) (x1 : Int32) (F : PF) (G : PG) (hm : mb_counted_27 fu rc x1 F G = some res) {H : Heap} {locs : List Loc} (hw : mMW s A v a F G H locs) {ls : Array Slot} (hl : lv_has ls 7 [(0, .ref (a 212)), (1, .int x1)]) : W p l e R s m args below meth c H locs 0 0 Q (F0 m 27 ls []) := by
  have hx := C.1
  have hb := C.2.1
  unfold mb_counted_27 at hm
  refine lv_aload_n hx hb dX12_counted_27 rfl (lv_at hl 0 rfl) ?_
  refine lv_bipush (v := 29) hx hb dX12_counted_28 (by decide) ?_
  obtain ⟨⟨r1, F1, G1⟩, hc, hm⟩ := bind_elim hm
  refine mcallI (n := 1) (As := [.int 29]) (rest := []) C hw (mk_isSign l v a _ fu 29 F G r1 F1 G1 hc) (mrecv_X12 C hw) mm_183 mm_184 mm_185 mm_27 mm_186 (by decide +kernel) rfl (by omega) (by omega) hl.1 rfl (Nat.le_of_ble_eq_true rfl) dX12_counted_30 (fun H locs hw => ?_)
  exact mw_counted_33 fu rc hr C hret x1 r1 F1 G1 hm hw (lv_sub hl [0, 1] rfl)
theorem mw_counted_18 (fu : Nat) (rc : RC) {dd : Nat} (hr : mH2 l v a rc dd) {res : Int32 × PF × PG} (C : mMC p R s m args c A v RX12 cX12_counted 7 (dd + 1 + 307) (60 * (dd + 1) + 18156)) (hret : ∀ (H1 : Heap) (locs1 : List Loc) (ls1 : Array Slot) (pc : Nat), mMW s A v a res.2.1 res.2.2 H1 locs1 → narrow .boolean (.int res.1) = .int res.1 → decode cX12_counted pc = .ok (.ireturn, 1) → W p l e R s m args below meth c H1 locs1 0 0 Q (F0 m pc ls1 [.int res.1])) (F : PF) (G : PG) (hm : mb_counted_18 fu rc F G = some res) {H : Heap} {locs : List Loc} (hw : mMW s A v a F G H locs) {ls : Array Slot} (hl : lv_has ls 7 [(0, .ref (a 212))]) : W p l e R s m args below meth c H locs 0 0 Q (F0 m 18 ls []) := by
  have hx := C.1
  have hb := C.2.1
  unfold mb_counted_18 at hm
  refine lv_aload_n hx hb dX12_counted_18 rfl (lv_at hl 0 rfl) ?_
  refine mg_X12_282 C hw dX12_counted_19 ?_
  refine lv_istore_n (lv' := [(1, .int (F 15)), (0, .ref (a 212))]) hx hb dX12_counted_22 rfl hl (by decide) rfl (fun ls hl => ?_)
  refine lv_aload_n hx hb dX12_counted_23 rfl (lv_at hl 1 rfl) ?_
  obtain ⟨⟨r1, F1, G1⟩, hc, hm⟩ := bind_elim hm
  refine mcallV (n := 0) (As := []) (rest := []) C hw (mk_begins l v a _ fu F G r1 F1 G1 hc) (mrecv_X12 C hw) mm_330 mm_331 mm_332 mm_27 mm_333 (by decide +kernel) rfl (by omega) (by omega) hl.1 rfl (Nat.le_of_ble_eq_true rfl) dX12_counted_24 (fun H locs hw => ?_)
  exact mw_counted_27 fu rc hr C hret (F 15) F1 G1 hm hw (lv_sub hl [1, 0] rfl)
theorem mw_counted_13 (fu : Nat) (rc : RC) {dd : Nat} (hr : mH2 l v a rc dd) {res : Int32 × PF × PG} (C : mMC p R s m args c A v RX12 cX12_counted 7 (dd + 1 + 307) (60 * (dd + 1) + 18156)) (hret : ∀ (H1 : Heap) (locs1 : List Loc) (ls1 : Array Slot) (pc : Nat), mMW s A v a res.2.1 res.2.2 H1 locs1 → narrow .boolean (.int res.1) = .int res.1 → decode cX12_counted pc = .ok (.ireturn, 1) → W p l e R s m args below meth c H1 locs1 0 0 Q (F0 m pc ls1 [.int res.1])) (z0 : Int32) (F : PF) (G : PG) (hm : mb_counted_13 fu rc z0 F G = some res) {H : Heap} {locs : List Loc} (hw : mMW s A v a F G H locs) {ls : Array Slot} (hl : lv_has ls 7 [(0, .ref (a 212))]) : W p l e R s m args below meth c H locs 0 0 Q (F0 m 13 ls [.int z0]) := by
  have hx := C.1
  have hb := C.2.1
  unfold mb_counted_13 at hm
  refine lv_if_ne (tgt := 18) hx hb dX12_counted_13 (by decide) (fun c_1 => ?_) (fun c_1 => ?_)
  · have hm := (if_neg c_1).symm.trans hm
    exact mw_counted_18 fu rc hr C hret F G hm hw (lv_sub hl [0] rfl)
  · have hm := (if_pos c_1).symm.trans hm
    exact mw_counted_16 fu rc hr C hret F G hm hw (lv_sub hl [] rfl)
theorem mw_counted_7 (fu : Nat) (rc : RC) {dd : Nat} (hr : mH2 l v a rc dd) {res : Int32 × PF × PG} (C : mMC p R s m args c A v RX12 cX12_counted 7 (dd + 1 + 307) (60 * (dd + 1) + 18156)) (hret : ∀ (H1 : Heap) (locs1 : List Loc) (ls1 : Array Slot) (pc : Nat), mMW s A v a res.2.1 res.2.2 H1 locs1 → narrow .boolean (.int res.1) = .int res.1 → decode cX12_counted pc = .ok (.ireturn, 1) → W p l e R s m args below meth c H1 locs1 0 0 Q (F0 m pc ls1 [.int res.1])) (F : PF) (G : PG) (hm : mb_counted_7 fu rc F G = some res) {H : Heap} {locs : List Loc} (hw : mMW s A v a F G H locs) {ls : Array Slot} (hl : lv_has ls 7 [(0, .ref (a 212))]) : W p l e R s m args below meth c H locs 0 0 Q (F0 m 7 ls []) := by
  have hx := C.1
  have hb := C.2.1
  unfold mb_counted_7 at hm
  refine lv_aload_n hx hb dX12_counted_7 rfl (lv_at hl 0 rfl) ?_
  refine lv_bipush (v := 22) hx hb dX12_counted_8 (by decide) ?_
  obtain ⟨⟨r1, F1, G1⟩, hc, hm⟩ := bind_elim hm
  refine mcallI (n := 1) (As := [.int 22]) (rest := []) C hw (mk_openSign l v a _ fu 22 F G r1 F1 G1 hc) (mrecv_X12 C hw) mm_241 mm_242 mm_243 mm_27 mm_244 (by decide +kernel) rfl (by omega) (by omega) hl.1 rfl (Nat.le_of_ble_eq_true rfl) dX12_counted_10 (fun H locs hw => ?_)
  exact mw_counted_13 fu rc hr C hret r1 F1 G1 hm hw (lv_sub hl [0] rfl)
theorem mw_counted_4 (fu : Nat) (rc : RC) {dd : Nat} (hr : mH2 l v a rc dd) {res : Int32 × PF × PG} (C : mMC p R s m args c A v RX12 cX12_counted 7 (dd + 1 + 307) (60 * (dd + 1) + 18156)) (hret : ∀ (H1 : Heap) (locs1 : List Loc) (ls1 : Array Slot) (pc : Nat), mMW s A v a res.2.1 res.2.2 H1 locs1 → narrow .boolean (.int res.1) = .int res.1 → decode cX12_counted pc = .ok (.ireturn, 1) → W p l e R s m args below meth c H1 locs1 0 0 Q (F0 m pc ls1 [.int res.1])) (z0 : Int32) (F : PF) (G : PG) (hm : mb_counted_4 fu rc z0 F G = some res) {H : Heap} {locs : List Loc} (hw : mMW s A v a F G H locs) {ls : Array Slot} (hl : lv_has ls 7 [(0, .ref (a 212))]) : W p l e R s m args below meth c H locs 0 0 Q (F0 m 4 ls [.int z0]) := by
  have hx := C.1
  have hb := C.2.1
  unfold mb_counted_4 at hm
  refine lv_if_eq (tgt := 16) hx hb dX12_counted_4 (by decide) (fun c_1 => ?_) (fun c_1 => ?_)
  · have hm := (if_pos c_1).symm.trans hm
    exact mw_counted_16 fu rc hr C hret F G hm hw (lv_sub hl [] rfl)
  · have hm := (if_neg c_1).symm.trans hm
    exact mw_counted_7 fu rc hr C hret F G hm hw (lv_sub hl [0] rfl)
theorem mw_counted_0 (fu : Nat) (rc : RC) {dd : Nat} (hr : mH2 l v a rc dd) {res : Int32 × PF × PG} (C : mMC p R s m args c A v RX12 cX12_counted 7 (dd + 1 + 307) (60 * (dd + 1) + 18156)) (hret : ∀ (H1 : Heap) (locs1 : List Loc) (ls1 : Array Slot) (pc : Nat), mMW s A v a res.2.1 res.2.2 H1 locs1 → narrow .boolean (.int res.1) = .int res.1 → decode cX12_counted pc = .ok (.ireturn, 1) → W p l e R s m args below meth c H1 locs1 0 0 Q (F0 m pc ls1 [.int res.1])) (F : PF) (G : PG) (hm : mb_counted_0 fu rc F G = some res) {H : Heap} {locs : List Loc} (hw : mMW s A v a F G H locs) {ls : Array Slot} (hl : lv_has ls 7 [(0, .ref (a 212))]) : W p l e R s m args below meth c H locs 0 0 Q (F0 m 0 ls []) := by
  have hx := C.1
  have hb := C.2.1
  unfold mb_counted_0 at hm
  refine lv_aload_n hx hb dX12_counted_0 rfl (lv_at hl 0 rfl) ?_
  obtain ⟨⟨r1, F1, G1⟩, hc, hm⟩ := bind_elim hm
  refine mcallI (n := 0) (As := []) (rest := []) C hw (mk_opens l v a _ fu F G r1 F1 G1 hc) (mrecv_X12 C hw) mm_199 mm_200 mm_201 mm_27 mm_202 (by decide +kernel) rfl (by omega) (by omega) hl.1 rfl (Nat.le_of_ble_eq_true rfl) dX12_counted_1 (fun H locs hw => ?_)
  exact mw_counted_4 fu rc hr C hret r1 F1 G1 hm hw (lv_sub hl [0] rfl)
theorem mq_counted (l : Launch) (v : EV) (a : Nat → Nat) (sz : Nat) (fu : Nat) (rc : RC) {dd : Nat} (hr : mH2 l v a rc dd) (F : PF) (G : PG) (r : Int32) (F1 : PF) (G1 : PG) (hm : mh_counted fu rc F G = some (r, F1, G1)) : mMI l yX12_counted cX12_counted 7 (some .boolean) (dd + 1 + 307) (60 * (dd + 1) + 18156) v a sz [.ref (a 212)] F G r F1 G1 := mMI.of (ty := .boolean) (by decide) rfl (Nat.le_of_ble_eq_true rfl) (fun p e R s m args below meth c Q A H locs ls C hw hl hret => mw_counted_0 fu rc hr (res := (r, F1, G1)) C hret F G hm hw hl)
def mb_loop_19 (fu : Nat) (rc : RC) (F : PF) (G : PG) : PR := some (0, F, G)
def mb_loop_83 (fu : Nat) (rc : RC) (F : PF) (G : PG) : PR := some (1, F, G)
def mb_loop_73 (fu : Nat) (rc : RC) (F : PF) (G : PG) : PR := mb_loop_83 fu rc (fup F 43 ((F 43) - (1 : Int32))) G
def mb_loop_64 (fu : Nat) (rc : RC) (x3 : Int32) (F : PF) (G : PG) : PR := (mf_settle fu x3 (F 60) F G).bind (fun q => mb_loop_73 fu rc q.2.1 q.2.2)
def mb_loop_53 (fu : Nat) (rc : RC) (x2 : Int32) (x3 : Int32) (z0 : Int32) (F : PF) (G : PG) : PR := if ixb x2 9000 = true then (mb_loop_64 fu rc x3 F (gup G 57 x2.toNatClampNeg (F 60))) else none
def mb_loop_40 (fu : Nat) (rc : RC) (x1 : Int32) (x2 : Int32) (F : PF) (G : PG) : PR := (mf_step fu 12 x1 0 F G).bind (fun q => mb_loop_53 fu rc x2 (F 65) q.1 q.2.1 q.2.2)
def mb_loop_38 (fu : Nat) (rc : RC) (F : PF) (G : PG) : PR := some (0, F, G)
def mb_loop_35 (fu : Nat) (rc : RC) (x1 : Int32) (x2 : Int32) (z0 : Int32) (F : PF) (G : PG) : PR := if z0 = (0 : Int32) then mb_loop_38 fu rc F G else mb_loop_40 fu rc x1 x2 F G
def mb_loop_29 (fu : Nat) (rc : RC) (x1 : Int32) (z0 : Int32) (F : PF) (G : PG) : PR := (rc 1 x1 0 F G).bind (fun q => mb_loop_35 fu rc x1 z0 q.1 q.2.1 q.2.2)
def mb_loop_21 (fu : Nat) (rc : RC) (x1 : Int32) (F : PF) (G : PG) : PR := (mf_step fu 13 0 0 F G).bind (fun q => mb_loop_29 fu rc x1 q.1 q.2.1 q.2.2)
def mb_loop_16 (fu : Nat) (rc : RC) (x1 : Int32) (z0 : Int32) (F : PF) (G : PG) : PR := if z0 = (0 : Int32) then mb_loop_19 fu rc F G else mb_loop_21 fu rc x1 F G
def mb_loop_12 (fu : Nat) (rc : RC) (x1 : Int32) (F : PF) (G : PG) : PR := (mf_condition fu F G).bind (fun q => mb_loop_16 fu rc x1 q.1 q.2.1 q.2.2)
def mb_loop_9 (fu : Nat) (rc : RC) (x1 : Int32) (z0 : Int32) (F : PF) (G : PG) : PR := if z0 = (0 : Int32) then mb_loop_19 fu rc F G else mb_loop_12 fu rc x1 F G
def mb_loop_0 (fu : Nat) (rc : RC) (F : PF) (G : PG) : PR := (mf_opens fu F G).bind (fun q => mb_loop_9 fu rc (F 60) q.1 q.2.1 q.2.2)
def mh_loop (fu : Nat) (rc : RC) (F : PF) (G : PG) : PR := mb_loop_0 fu rc F G
theorem mw_loop_19 (fu : Nat) (rc : RC) {dd : Nat} (hr : mH2 l v a rc dd) {res : Int32 × PF × PG} (C : mMC p R s m args c A v RX12 cX12_loop 4 (dd + 1 + 307) (60 * (dd + 1) + 18156)) (hret : ∀ (H1 : Heap) (locs1 : List Loc) (ls1 : Array Slot) (pc : Nat), mMW s A v a res.2.1 res.2.2 H1 locs1 → narrow .boolean (.int res.1) = .int res.1 → decode cX12_loop pc = .ok (.ireturn, 1) → W p l e R s m args below meth c H1 locs1 0 0 Q (F0 m pc ls1 [.int res.1])) (F : PF) (G : PG) (hm : mb_loop_19 fu rc F G = some res) {H : Heap} {locs : List Loc} (hw : mMW s A v a F G H locs) {ls : Array Slot} (hl : lv_has ls 4 []) : W p l e R s m args below meth c H locs 0 0 Q (F0 m 19 ls []) := by
  have hx := C.1
  have hb := C.2.1
  unfold mb_loop_19 at hm
  refine lv_iconst (v := 0) hx hb dX12_loop_19 (by decide) ?_
  obtain rfl := Option.some.inj hm
  exact hret _ _ _ _ hw (b01_nar (v := 0) (Or.inl rfl)) dX12_loop_20
theorem mw_loop_83 (fu : Nat) (rc : RC) {dd : Nat} (hr : mH2 l v a rc dd) {res : Int32 × PF × PG} (C : mMC p R s m args c A v RX12 cX12_loop 4 (dd + 1 + 307) (60 * (dd + 1) + 18156)) (hret : ∀ (H1 : Heap) (locs1 : List Loc) (ls1 : Array Slot) (pc : Nat), mMW s A v a res.2.1 res.2.2 H1 locs1 → narrow .boolean (.int res.1) = .int res.1 → decode cX12_loop pc = .ok (.ireturn, 1) → W p l e R s m args below meth c H1 locs1 0 0 Q (F0 m pc ls1 [.int res.1])) (F : PF) (G : PG) (hm : mb_loop_83 fu rc F G = some res) {H : Heap} {locs : List Loc} (hw : mMW s A v a F G H locs) {ls : Array Slot} (hl : lv_has ls 4 []) : W p l e R s m args below meth c H locs 0 0 Q (F0 m 83 ls []) := by
  have hx := C.1
  have hb := C.2.1
  unfold mb_loop_83 at hm
  refine lv_iconst (v := 1) hx hb dX12_loop_83 (by decide) ?_
  obtain rfl := Option.some.inj hm
  exact hret _ _ _ _ hw (b01_nar (v := 1) (Or.inr rfl)) dX12_loop_84
theorem mw_loop_73 (fu : Nat) (rc : RC) {dd : Nat} (hr : mH2 l v a rc dd) {res : Int32 × PF × PG} (C : mMC p R s m args c A v RX12 cX12_loop 4 (dd + 1 + 307) (60 * (dd + 1) + 18156)) (hret : ∀ (H1 : Heap) (locs1 : List Loc) (ls1 : Array Slot) (pc : Nat), mMW s A v a res.2.1 res.2.2 H1 locs1 → narrow .boolean (.int res.1) = .int res.1 → decode cX12_loop pc = .ok (.ireturn, 1) → W p l e R s m args below meth c H1 locs1 0 0 Q (F0 m pc ls1 [.int res.1])) (F : PF) (G : PG) (hm : mb_loop_73 fu rc F G = some res) {H : Heap} {locs : List Loc} (hw : mMW s A v a F G H locs) {ls : Array Slot} (hl : lv_has ls 4 [(0, .ref (a 212))]) : W p l e R s m args below meth c H locs 0 0 Q (F0 m 73 ls []) := by
  have hx := C.1
  have hb := C.2.1
  unfold mb_loop_73 at hm
  refine lv_aload_n hx hb dX12_loop_73 rfl (lv_at hl 0 rfl) ?_
  refine lv_dup hx hb dX12_loop_74 rfl ?_
  refine mg_X12_266 C hw dX12_loop_75 ?_
  refine lv_iconst (v := 1) hx hb dX12_loop_78 (by decide) ?_
  refine lv_isub hx hb dX12_loop_79 ?_
  refine mp_X12_266 C hw dX12_loop_80 (fun H locs hw => ?_)
  exact mw_loop_83 fu rc hr C hret (fup F 43 ((F 43) - (1 : Int32))) G hm hw (lv_sub hl [] rfl)
theorem mw_loop_64 (fu : Nat) (rc : RC) {dd : Nat} (hr : mH2 l v a rc dd) {res : Int32 × PF × PG} (C : mMC p R s m args c A v RX12 cX12_loop 4 (dd + 1 + 307) (60 * (dd + 1) + 18156)) (hret : ∀ (H1 : Heap) (locs1 : List Loc) (ls1 : Array Slot) (pc : Nat), mMW s A v a res.2.1 res.2.2 H1 locs1 → narrow .boolean (.int res.1) = .int res.1 → decode cX12_loop pc = .ok (.ireturn, 1) → W p l e R s m args below meth c H1 locs1 0 0 Q (F0 m pc ls1 [.int res.1])) (x3 : Int32) (F : PF) (G : PG) (hm : mb_loop_64 fu rc x3 F G = some res) {H : Heap} {locs : List Loc} (hw : mMW s A v a F G H locs) {ls : Array Slot} (hl : lv_has ls 4 [(0, .ref (a 212)), (3, .int x3)]) : W p l e R s m args below meth c H locs 0 0 Q (F0 m 64 ls []) := by
  have hx := C.1
  have hb := C.2.1
  unfold mb_loop_64 at hm
  refine lv_aload_n hx hb dX12_loop_64 rfl (lv_at hl 0 rfl) ?_
  refine lv_iload_n hx hb dX12_loop_65 rfl (lv_at hl 1 rfl) ?_
  refine lv_aload_n hx hb dX12_loop_66 rfl (lv_at hl 0 rfl) ?_
  refine mg_X12_276 C hw dX12_loop_67 ?_
  obtain ⟨⟨r1, F1, G1⟩, hc, hm⟩ := bind_elim hm
  refine mcallV (n := 2) (As := [.int x3, .int (F 60)]) (rest := []) C hw (mk_settle l v a _ fu x3 (F 60) F G r1 F1 G1 hc) (mrecv_X12 C hw) mm_351 mm_352 mm_353 mm_27 mm_354 (by decide +kernel) rfl (by omega) (by omega) hl.1 rfl (Nat.le_of_ble_eq_true rfl) dX12_loop_70 (fun H locs hw => ?_)
  exact mw_loop_73 fu rc hr C hret F1 G1 hm hw (lv_sub hl [0] rfl)
theorem mw_loop_53 (fu : Nat) (rc : RC) {dd : Nat} (hr : mH2 l v a rc dd) {res : Int32 × PF × PG} (C : mMC p R s m args c A v RX12 cX12_loop 4 (dd + 1 + 307) (60 * (dd + 1) + 18156)) (hret : ∀ (H1 : Heap) (locs1 : List Loc) (ls1 : Array Slot) (pc : Nat), mMW s A v a res.2.1 res.2.2 H1 locs1 → narrow .boolean (.int res.1) = .int res.1 → decode cX12_loop pc = .ok (.ireturn, 1) → W p l e R s m args below meth c H1 locs1 0 0 Q (F0 m pc ls1 [.int res.1])) (x2 : Int32) (x3 : Int32) (z0 : Int32) (F : PF) (G : PG) (hm : mb_loop_53 fu rc x2 x3 z0 F G = some res) {H : Heap} {locs : List Loc} (hw : mMW s A v a F G H locs) {ls : Array Slot} (hl : lv_has ls 4 [(0, .ref (a 212)), (2, .int x2), (3, .int x3)]) : W p l e R s m args below meth c H locs 0 0 Q (F0 m 53 ls [.int z0]) := by
  have hx := C.1
  have hb := C.2.1
  unfold mb_loop_53 at hm
  refine lv_pop hx hb dX12_loop_53 rfl ?_
  refine lv_aload_n hx hb dX12_loop_54 rfl (lv_at hl 0 rfl) ?_
  refine mg_X12_107 C hw dX12_loop_55 ?_
  refine lv_iload_n hx hb dX12_loop_58 rfl (lv_at hl 1 rfl) ?_
  refine lv_aload_n hx hb dX12_loop_59 rfl (lv_at hl 0 rfl) ?_
  refine mg_X12_276 C hw dX12_loop_60 ?_
  obtain ⟨hi, hm⟩ := ix_elim hm
  refine mas_57 C hw hi dX12_loop_63 (fun H locs hw => ?_)
  exact mw_loop_64 fu rc hr C hret x3 F (gup G 57 x2.toNatClampNeg (F 60)) hm hw (lv_sub hl [0, 2] rfl)
theorem mw_loop_40 (fu : Nat) (rc : RC) {dd : Nat} (hr : mH2 l v a rc dd) {res : Int32 × PF × PG} (C : mMC p R s m args c A v RX12 cX12_loop 4 (dd + 1 + 307) (60 * (dd + 1) + 18156)) (hret : ∀ (H1 : Heap) (locs1 : List Loc) (ls1 : Array Slot) (pc : Nat), mMW s A v a res.2.1 res.2.2 H1 locs1 → narrow .boolean (.int res.1) = .int res.1 → decode cX12_loop pc = .ok (.ireturn, 1) → W p l e R s m args below meth c H1 locs1 0 0 Q (F0 m pc ls1 [.int res.1])) (x1 : Int32) (x2 : Int32) (F : PF) (G : PG) (hm : mb_loop_40 fu rc x1 x2 F G = some res) {H : Heap} {locs : List Loc} (hw : mMW s A v a F G H locs) {ls : Array Slot} (hl : lv_has ls 4 [(0, .ref (a 212)), (1, .int x1), (2, .int x2)]) : W p l e R s m args below meth c H locs 0 0 Q (F0 m 40 ls []) := by
  have hx := C.1
  have hb := C.2.1
  unfold mb_loop_40 at hm
  refine lv_aload_n hx hb dX12_loop_40 rfl (lv_at hl 0 rfl) ?_
  refine mg_X12_448 C hw dX12_loop_41 ?_
  refine lv_istore_n (lv' := [(3, .int (F 65)), (0, .ref (a 212)), (1, .int x1), (2, .int x2)]) hx hb dX12_loop_44 rfl hl (by decide) rfl (fun ls hl => ?_)
  refine lv_aload_n hx hb dX12_loop_45 rfl (lv_at hl 1 rfl) ?_
  refine lv_bipush (v := 12) hx hb dX12_loop_46 (by decide) ?_
  refine lv_iload_n hx hb dX12_loop_48 rfl (lv_at hl 2 rfl) ?_
  refine lv_iconst (v := 0) hx hb dX12_loop_49 (by decide) ?_
  obtain ⟨⟨r1, F1, G1⟩, hc, hm⟩ := bind_elim hm
  refine mcallI (n := 3) (As := [.int 12, .int x1, .int 0]) (rest := []) C hw (mk_step l v a _ fu 12 x1 0 F G r1 F1 G1 hc) (mrecv_X12 C hw) mm_203 mm_204 mm_205 mm_27 mm_206 (by decide +kernel) rfl (by omega) (by omega) hl.1 rfl (Nat.le_of_ble_eq_true rfl) dX12_loop_50 (fun H locs hw => ?_)
  exact mw_loop_53 fu rc hr C hret x2 (F 65) r1 F1 G1 hm hw (lv_sub hl [1, 3, 0] rfl)
theorem mw_loop_38 (fu : Nat) (rc : RC) {dd : Nat} (hr : mH2 l v a rc dd) {res : Int32 × PF × PG} (C : mMC p R s m args c A v RX12 cX12_loop 4 (dd + 1 + 307) (60 * (dd + 1) + 18156)) (hret : ∀ (H1 : Heap) (locs1 : List Loc) (ls1 : Array Slot) (pc : Nat), mMW s A v a res.2.1 res.2.2 H1 locs1 → narrow .boolean (.int res.1) = .int res.1 → decode cX12_loop pc = .ok (.ireturn, 1) → W p l e R s m args below meth c H1 locs1 0 0 Q (F0 m pc ls1 [.int res.1])) (F : PF) (G : PG) (hm : mb_loop_38 fu rc F G = some res) {H : Heap} {locs : List Loc} (hw : mMW s A v a F G H locs) {ls : Array Slot} (hl : lv_has ls 4 []) : W p l e R s m args below meth c H locs 0 0 Q (F0 m 38 ls []) := by
  have hx := C.1
  have hb := C.2.1
  unfold mb_loop_38 at hm
  refine lv_iconst (v := 0) hx hb dX12_loop_38 (by decide) ?_
  obtain rfl := Option.some.inj hm
  exact hret _ _ _ _ hw (b01_nar (v := 0) (Or.inl rfl)) dX12_loop_39
theorem mw_loop_35 (fu : Nat) (rc : RC) {dd : Nat} (hr : mH2 l v a rc dd) {res : Int32 × PF × PG} (C : mMC p R s m args c A v RX12 cX12_loop 4 (dd + 1 + 307) (60 * (dd + 1) + 18156)) (hret : ∀ (H1 : Heap) (locs1 : List Loc) (ls1 : Array Slot) (pc : Nat), mMW s A v a res.2.1 res.2.2 H1 locs1 → narrow .boolean (.int res.1) = .int res.1 → decode cX12_loop pc = .ok (.ireturn, 1) → W p l e R s m args below meth c H1 locs1 0 0 Q (F0 m pc ls1 [.int res.1])) (x1 : Int32) (x2 : Int32) (z0 : Int32) (F : PF) (G : PG) (hm : mb_loop_35 fu rc x1 x2 z0 F G = some res) {H : Heap} {locs : List Loc} (hw : mMW s A v a F G H locs) {ls : Array Slot} (hl : lv_has ls 4 [(0, .ref (a 212)), (1, .int x1), (2, .int x2)]) : W p l e R s m args below meth c H locs 0 0 Q (F0 m 35 ls [.int z0]) := by
  have hx := C.1
  have hb := C.2.1
  unfold mb_loop_35 at hm
  refine lv_if_ne (tgt := 40) hx hb dX12_loop_35 (by decide) (fun c_1 => ?_) (fun c_1 => ?_)
  · have hm := (if_neg c_1).symm.trans hm
    exact mw_loop_40 fu rc hr C hret x1 x2 F G hm hw (lv_sub hl [0, 1, 2] rfl)
  · have hm := (if_pos c_1).symm.trans hm
    exact mw_loop_38 fu rc hr C hret F G hm hw (lv_sub hl [] rfl)
theorem mw_loop_29 (fu : Nat) (rc : RC) {dd : Nat} (hr : mH2 l v a rc dd) {res : Int32 × PF × PG} (C : mMC p R s m args c A v RX12 cX12_loop 4 (dd + 1 + 307) (60 * (dd + 1) + 18156)) (hret : ∀ (H1 : Heap) (locs1 : List Loc) (ls1 : Array Slot) (pc : Nat), mMW s A v a res.2.1 res.2.2 H1 locs1 → narrow .boolean (.int res.1) = .int res.1 → decode cX12_loop pc = .ok (.ireturn, 1) → W p l e R s m args below meth c H1 locs1 0 0 Q (F0 m pc ls1 [.int res.1])) (x1 : Int32) (z0 : Int32) (F : PF) (G : PG) (hm : mb_loop_29 fu rc x1 z0 F G = some res) {H : Heap} {locs : List Loc} (hw : mMW s A v a F G H locs) {ls : Array Slot} (hl : lv_has ls 4 [(0, .ref (a 212)), (1, .int x1)]) : W p l e R s m args below meth c H locs 0 0 Q (F0 m 29 ls [.int z0]) := by
  have hx := C.1
  have hb := C.2.1
  unfold mb_loop_29 at hm
  refine lv_istore_n (lv' := [(2, .int z0), (0, .ref (a 212)), (1, .int x1)]) hx hb dX12_loop_29 rfl hl (by decide) rfl (fun ls hl => ?_)
  refine lv_aload_n hx hb dX12_loop_30 rfl (lv_at hl 1 rfl) ?_
  refine lv_iload_n hx hb dX12_loop_31 rfl (lv_at hl 2 rfl) ?_
  obtain ⟨⟨r1, F1, G1⟩, hc, hm⟩ := bind_elim hm
  refine mcallI (n := 1) (As := [.int x1]) (rest := []) C hw (hr.2.1 _ x1 F G r1 F1 G1 hc) (mrecv_X12 C hw) mm_373 mm_374 mm_375 mm_27 mm_345 (by decide +kernel) rfl (by omega) (by omega) hl.1 rfl (Nat.le_of_ble_eq_true rfl) dX12_loop_32 (fun H locs hw => ?_)
  exact mw_loop_35 fu rc hr C hret x1 z0 r1 F1 G1 hm hw (lv_sub hl [1, 2, 0] rfl)
theorem mw_loop_21 (fu : Nat) (rc : RC) {dd : Nat} (hr : mH2 l v a rc dd) {res : Int32 × PF × PG} (C : mMC p R s m args c A v RX12 cX12_loop 4 (dd + 1 + 307) (60 * (dd + 1) + 18156)) (hret : ∀ (H1 : Heap) (locs1 : List Loc) (ls1 : Array Slot) (pc : Nat), mMW s A v a res.2.1 res.2.2 H1 locs1 → narrow .boolean (.int res.1) = .int res.1 → decode cX12_loop pc = .ok (.ireturn, 1) → W p l e R s m args below meth c H1 locs1 0 0 Q (F0 m pc ls1 [.int res.1])) (x1 : Int32) (F : PF) (G : PG) (hm : mb_loop_21 fu rc x1 F G = some res) {H : Heap} {locs : List Loc} (hw : mMW s A v a F G H locs) {ls : Array Slot} (hl : lv_has ls 4 [(0, .ref (a 212)), (1, .int x1)]) : W p l e R s m args below meth c H locs 0 0 Q (F0 m 21 ls []) := by
  have hx := C.1
  have hb := C.2.1
  unfold mb_loop_21 at hm
  refine lv_aload_n hx hb dX12_loop_21 rfl (lv_at hl 0 rfl) ?_
  refine lv_bipush (v := 13) hx hb dX12_loop_22 (by decide) ?_
  refine lv_iconst (v := 0) hx hb dX12_loop_24 (by decide) ?_
  refine lv_iconst (v := 0) hx hb dX12_loop_25 (by decide) ?_
  obtain ⟨⟨r1, F1, G1⟩, hc, hm⟩ := bind_elim hm
  refine mcallI (n := 3) (As := [.int 13, .int 0, .int 0]) (rest := []) C hw (mk_step l v a _ fu 13 0 0 F G r1 F1 G1 hc) (mrecv_X12 C hw) mm_203 mm_204 mm_205 mm_27 mm_206 (by decide +kernel) rfl (by omega) (by omega) hl.1 rfl (Nat.le_of_ble_eq_true rfl) dX12_loop_26 (fun H locs hw => ?_)
  exact mw_loop_29 fu rc hr C hret x1 r1 F1 G1 hm hw (lv_sub hl [0, 1] rfl)
theorem mw_loop_16 (fu : Nat) (rc : RC) {dd : Nat} (hr : mH2 l v a rc dd) {res : Int32 × PF × PG} (C : mMC p R s m args c A v RX12 cX12_loop 4 (dd + 1 + 307) (60 * (dd + 1) + 18156)) (hret : ∀ (H1 : Heap) (locs1 : List Loc) (ls1 : Array Slot) (pc : Nat), mMW s A v a res.2.1 res.2.2 H1 locs1 → narrow .boolean (.int res.1) = .int res.1 → decode cX12_loop pc = .ok (.ireturn, 1) → W p l e R s m args below meth c H1 locs1 0 0 Q (F0 m pc ls1 [.int res.1])) (x1 : Int32) (z0 : Int32) (F : PF) (G : PG) (hm : mb_loop_16 fu rc x1 z0 F G = some res) {H : Heap} {locs : List Loc} (hw : mMW s A v a F G H locs) {ls : Array Slot} (hl : lv_has ls 4 [(0, .ref (a 212)), (1, .int x1)]) : W p l e R s m args below meth c H locs 0 0 Q (F0 m 16 ls [.int z0]) := by
  have hx := C.1
  have hb := C.2.1
  unfold mb_loop_16 at hm
  refine lv_if_ne (tgt := 21) hx hb dX12_loop_16 (by decide) (fun c_1 => ?_) (fun c_1 => ?_)
  · have hm := (if_neg c_1).symm.trans hm
    exact mw_loop_21 fu rc hr C hret x1 F G hm hw (lv_sub hl [0, 1] rfl)
  · have hm := (if_pos c_1).symm.trans hm
    exact mw_loop_19 fu rc hr C hret F G hm hw (lv_sub hl [] rfl)
theorem mw_loop_12 (fu : Nat) (rc : RC) {dd : Nat} (hr : mH2 l v a rc dd) {res : Int32 × PF × PG} (C : mMC p R s m args c A v RX12 cX12_loop 4 (dd + 1 + 307) (60 * (dd + 1) + 18156)) (hret : ∀ (H1 : Heap) (locs1 : List Loc) (ls1 : Array Slot) (pc : Nat), mMW s A v a res.2.1 res.2.2 H1 locs1 → narrow .boolean (.int res.1) = .int res.1 → decode cX12_loop pc = .ok (.ireturn, 1) → W p l e R s m args below meth c H1 locs1 0 0 Q (F0 m pc ls1 [.int res.1])) (x1 : Int32) (F : PF) (G : PG) (hm : mb_loop_12 fu rc x1 F G = some res) {H : Heap} {locs : List Loc} (hw : mMW s A v a F G H locs) {ls : Array Slot} (hl : lv_has ls 4 [(0, .ref (a 212)), (1, .int x1)]) : W p l e R s m args below meth c H locs 0 0 Q (F0 m 12 ls []) := by
  have hx := C.1
  have hb := C.2.1
  unfold mb_loop_12 at hm
  refine lv_aload_n hx hb dX12_loop_12 rfl (lv_at hl 0 rfl) ?_
  obtain ⟨⟨r1, F1, G1⟩, hc, hm⟩ := bind_elim hm
  refine mcallI (n := 0) (As := []) (rest := []) C hw (mk_condition l v a _ fu F G r1 F1 G1 hc) (mrecv_X12 C hw) mm_356 mm_357 mm_358 mm_27 mm_359 (by decide +kernel) rfl (by omega) (by omega) hl.1 rfl (Nat.le_of_ble_eq_true rfl) dX12_loop_13 (fun H locs hw => ?_)
  exact mw_loop_16 fu rc hr C hret x1 r1 F1 G1 hm hw (lv_sub hl [0, 1] rfl)
theorem mw_loop_9 (fu : Nat) (rc : RC) {dd : Nat} (hr : mH2 l v a rc dd) {res : Int32 × PF × PG} (C : mMC p R s m args c A v RX12 cX12_loop 4 (dd + 1 + 307) (60 * (dd + 1) + 18156)) (hret : ∀ (H1 : Heap) (locs1 : List Loc) (ls1 : Array Slot) (pc : Nat), mMW s A v a res.2.1 res.2.2 H1 locs1 → narrow .boolean (.int res.1) = .int res.1 → decode cX12_loop pc = .ok (.ireturn, 1) → W p l e R s m args below meth c H1 locs1 0 0 Q (F0 m pc ls1 [.int res.1])) (x1 : Int32) (z0 : Int32) (F : PF) (G : PG) (hm : mb_loop_9 fu rc x1 z0 F G = some res) {H : Heap} {locs : List Loc} (hw : mMW s A v a F G H locs) {ls : Array Slot} (hl : lv_has ls 4 [(0, .ref (a 212)), (1, .int x1)]) : W p l e R s m args below meth c H locs 0 0 Q (F0 m 9 ls [.int z0]) := by
  have hx := C.1
  have hb := C.2.1
  unfold mb_loop_9 at hm
  refine lv_if_eq (tgt := 19) hx hb dX12_loop_9 (by decide) (fun c_1 => ?_) (fun c_1 => ?_)
  · have hm := (if_pos c_1).symm.trans hm
    exact mw_loop_19 fu rc hr C hret F G hm hw (lv_sub hl [] rfl)
  · have hm := (if_neg c_1).symm.trans hm
    exact mw_loop_12 fu rc hr C hret x1 F G hm hw (lv_sub hl [0, 1] rfl)
theorem mw_loop_0 (fu : Nat) (rc : RC) {dd : Nat} (hr : mH2 l v a rc dd) {res : Int32 × PF × PG} (C : mMC p R s m args c A v RX12 cX12_loop 4 (dd + 1 + 307) (60 * (dd + 1) + 18156)) (hret : ∀ (H1 : Heap) (locs1 : List Loc) (ls1 : Array Slot) (pc : Nat), mMW s A v a res.2.1 res.2.2 H1 locs1 → narrow .boolean (.int res.1) = .int res.1 → decode cX12_loop pc = .ok (.ireturn, 1) → W p l e R s m args below meth c H1 locs1 0 0 Q (F0 m pc ls1 [.int res.1])) (F : PF) (G : PG) (hm : mb_loop_0 fu rc F G = some res) {H : Heap} {locs : List Loc} (hw : mMW s A v a F G H locs) {ls : Array Slot} (hl : lv_has ls 4 [(0, .ref (a 212))]) : W p l e R s m args below meth c H locs 0 0 Q (F0 m 0 ls []) := by
  have hx := C.1
  have hb := C.2.1
  unfold mb_loop_0 at hm
  refine lv_aload_n hx hb dX12_loop_0 rfl (lv_at hl 0 rfl) ?_
  refine mg_X12_276 C hw dX12_loop_1 ?_
  refine lv_istore_n (lv' := [(1, .int (F 60)), (0, .ref (a 212))]) hx hb dX12_loop_4 rfl hl (by decide) rfl (fun ls hl => ?_)
  refine lv_aload_n hx hb dX12_loop_5 rfl (lv_at hl 1 rfl) ?_
  obtain ⟨⟨r1, F1, G1⟩, hc, hm⟩ := bind_elim hm
  refine mcallI (n := 0) (As := []) (rest := []) C hw (mk_opens l v a _ fu F G r1 F1 G1 hc) (mrecv_X12 C hw) mm_199 mm_200 mm_201 mm_27 mm_202 (by decide +kernel) rfl (by omega) (by omega) hl.1 rfl (Nat.le_of_ble_eq_true rfl) dX12_loop_6 (fun H locs hw => ?_)
  exact mw_loop_9 fu rc hr C hret (F 60) r1 F1 G1 hm hw (lv_sub hl [1, 0] rfl)
theorem mq_loop (l : Launch) (v : EV) (a : Nat → Nat) (sz : Nat) (fu : Nat) (rc : RC) {dd : Nat} (hr : mH2 l v a rc dd) (F : PF) (G : PG) (r : Int32) (F1 : PF) (G1 : PG) (hm : mh_loop fu rc F G = some (r, F1, G1)) : mMI l yX12_loop cX12_loop 4 (some .boolean) (dd + 1 + 307) (60 * (dd + 1) + 18156) v a sz [.ref (a 212)] F G r F1 G1 := mMI.of (ty := .boolean) (by decide) rfl (Nat.le_of_ble_eq_true rfl) (fun p e R s m args below meth c Q A H locs ls C hw hl hret => mw_loop_0 fu rc hr (res := (r, F1, G1)) C hret F G hm hw hl)
def mb_scoped_19 (fu : Nat) (rc : RC) (x2 : Int32) (F : PF) (G : PG) : PR := if b01 x2 = true then (some (x2, F, G)) else none
def mb_scoped_13 (fu : Nat) (rc : RC) (x1 : Int32) (z0 : Int32) (F : PF) (G : PG) : PR := (mf_ends fu x1 F G).bind (fun q => mb_scoped_19 fu rc z0 q.2.1 q.2.2)
def mb_scoped_9 (fu : Nat) (rc : RC) (x1 : Int32) (F : PF) (G : PG) : PR := (rc 6 0 0 F G).bind (fun q => mb_scoped_13 fu rc x1 q.1 q.2.1 q.2.2)
def mb_scoped_0 (fu : Nat) (rc : RC) (F : PF) (G : PG) : PR := (mf_begins fu F G).bind (fun q => mb_scoped_9 fu rc (F 15) q.2.1 q.2.2)
def mh_scoped (fu : Nat) (rc : RC) (F : PF) (G : PG) : PR := mb_scoped_0 fu rc F G
theorem mw_scoped_19 (fu : Nat) (rc : RC) {dd : Nat} (hr : mH2 l v a rc dd) {res : Int32 × PF × PG} (C : mMC p R s m args c A v RX12 cX12_scoped 3 (dd + 1 + 307) (60 * (dd + 1) + 18156)) (hret : ∀ (H1 : Heap) (locs1 : List Loc) (ls1 : Array Slot) (pc : Nat), mMW s A v a res.2.1 res.2.2 H1 locs1 → narrow .boolean (.int res.1) = .int res.1 → decode cX12_scoped pc = .ok (.ireturn, 1) → W p l e R s m args below meth c H1 locs1 0 0 Q (F0 m pc ls1 [.int res.1])) (x2 : Int32) (F : PF) (G : PG) (hm : mb_scoped_19 fu rc x2 F G = some res) {H : Heap} {locs : List Loc} (hw : mMW s A v a F G H locs) {ls : Array Slot} (hl : lv_has ls 3 [(2, .int x2)]) : W p l e R s m args below meth c H locs 0 0 Q (F0 m 19 ls []) := by
  have hx := C.1
  have hb := C.2.1
  unfold mb_scoped_19 at hm
  refine lv_iload_n hx hb dX12_scoped_19 rfl (lv_at hl 0 rfl) ?_
  obtain ⟨hz, hm⟩ := b01_elim hm
  obtain rfl := Option.some.inj hm
  exact hret _ _ _ _ hw (b01_nar hz) dX12_scoped_20
theorem mw_scoped_13 (fu : Nat) (rc : RC) {dd : Nat} (hr : mH2 l v a rc dd) {res : Int32 × PF × PG} (C : mMC p R s m args c A v RX12 cX12_scoped 3 (dd + 1 + 307) (60 * (dd + 1) + 18156)) (hret : ∀ (H1 : Heap) (locs1 : List Loc) (ls1 : Array Slot) (pc : Nat), mMW s A v a res.2.1 res.2.2 H1 locs1 → narrow .boolean (.int res.1) = .int res.1 → decode cX12_scoped pc = .ok (.ireturn, 1) → W p l e R s m args below meth c H1 locs1 0 0 Q (F0 m pc ls1 [.int res.1])) (x1 : Int32) (z0 : Int32) (F : PF) (G : PG) (hm : mb_scoped_13 fu rc x1 z0 F G = some res) {H : Heap} {locs : List Loc} (hw : mMW s A v a F G H locs) {ls : Array Slot} (hl : lv_has ls 3 [(0, .ref (a 212)), (1, .int x1)]) : W p l e R s m args below meth c H locs 0 0 Q (F0 m 13 ls [.int z0]) := by
  have hx := C.1
  have hb := C.2.1
  unfold mb_scoped_13 at hm
  refine lv_istore_n (lv' := [(2, .int z0), (0, .ref (a 212)), (1, .int x1)]) hx hb dX12_scoped_13 rfl hl (by decide) rfl (fun ls hl => ?_)
  refine lv_aload_n hx hb dX12_scoped_14 rfl (lv_at hl 1 rfl) ?_
  refine lv_iload_n hx hb dX12_scoped_15 rfl (lv_at hl 2 rfl) ?_
  obtain ⟨⟨r1, F1, G1⟩, hc, hm⟩ := bind_elim hm
  refine mcallV (n := 1) (As := [.int x1]) (rest := []) C hw (mk_ends l v a _ fu x1 F G r1 F1 G1 hc) (mrecv_X12 C hw) mm_376 mm_377 mm_378 mm_27 mm_379 (by decide +kernel) rfl (by omega) (by omega) hl.1 rfl (Nat.le_of_ble_eq_true rfl) dX12_scoped_16 (fun H locs hw => ?_)
  exact mw_scoped_19 fu rc hr C hret z0 F1 G1 hm hw (lv_sub hl [0] rfl)
theorem mw_scoped_9 (fu : Nat) (rc : RC) {dd : Nat} (hr : mH2 l v a rc dd) {res : Int32 × PF × PG} (C : mMC p R s m args c A v RX12 cX12_scoped 3 (dd + 1 + 307) (60 * (dd + 1) + 18156)) (hret : ∀ (H1 : Heap) (locs1 : List Loc) (ls1 : Array Slot) (pc : Nat), mMW s A v a res.2.1 res.2.2 H1 locs1 → narrow .boolean (.int res.1) = .int res.1 → decode cX12_scoped pc = .ok (.ireturn, 1) → W p l e R s m args below meth c H1 locs1 0 0 Q (F0 m pc ls1 [.int res.1])) (x1 : Int32) (F : PF) (G : PG) (hm : mb_scoped_9 fu rc x1 F G = some res) {H : Heap} {locs : List Loc} (hw : mMW s A v a F G H locs) {ls : Array Slot} (hl : lv_has ls 3 [(0, .ref (a 212)), (1, .int x1)]) : W p l e R s m args below meth c H locs 0 0 Q (F0 m 9 ls []) := by
  have hx := C.1
  have hb := C.2.1
  unfold mb_scoped_9 at hm
  refine lv_aload_n hx hb dX12_scoped_9 rfl (lv_at hl 0 rfl) ?_
  obtain ⟨⟨r1, F1, G1⟩, hc, hm⟩ := bind_elim hm
  refine mcallI (n := 0) (As := []) (rest := []) C hw (hr.2.2.2.2.2.2.1 _ F G r1 F1 G1 hc) (mrecv_X12 C hw) mm_342 mm_343 mm_344 mm_27 mm_382 (by decide +kernel) rfl (by omega) (by omega) hl.1 rfl (Nat.le_of_ble_eq_true rfl) dX12_scoped_10 (fun H locs hw => ?_)
  exact mw_scoped_13 fu rc hr C hret x1 r1 F1 G1 hm hw (lv_sub hl [0, 1] rfl)
theorem mw_scoped_0 (fu : Nat) (rc : RC) {dd : Nat} (hr : mH2 l v a rc dd) {res : Int32 × PF × PG} (C : mMC p R s m args c A v RX12 cX12_scoped 3 (dd + 1 + 307) (60 * (dd + 1) + 18156)) (hret : ∀ (H1 : Heap) (locs1 : List Loc) (ls1 : Array Slot) (pc : Nat), mMW s A v a res.2.1 res.2.2 H1 locs1 → narrow .boolean (.int res.1) = .int res.1 → decode cX12_scoped pc = .ok (.ireturn, 1) → W p l e R s m args below meth c H1 locs1 0 0 Q (F0 m pc ls1 [.int res.1])) (F : PF) (G : PG) (hm : mb_scoped_0 fu rc F G = some res) {H : Heap} {locs : List Loc} (hw : mMW s A v a F G H locs) {ls : Array Slot} (hl : lv_has ls 3 [(0, .ref (a 212))]) : W p l e R s m args below meth c H locs 0 0 Q (F0 m 0 ls []) := by
  have hx := C.1
  have hb := C.2.1
  unfold mb_scoped_0 at hm
  refine lv_aload_n hx hb dX12_scoped_0 rfl (lv_at hl 0 rfl) ?_
  refine mg_X12_282 C hw dX12_scoped_1 ?_
  refine lv_istore_n (lv' := [(1, .int (F 15)), (0, .ref (a 212))]) hx hb dX12_scoped_4 rfl hl (by decide) rfl (fun ls hl => ?_)
  refine lv_aload_n hx hb dX12_scoped_5 rfl (lv_at hl 1 rfl) ?_
  obtain ⟨⟨r1, F1, G1⟩, hc, hm⟩ := bind_elim hm
  refine mcallV (n := 0) (As := []) (rest := []) C hw (mk_begins l v a _ fu F G r1 F1 G1 hc) (mrecv_X12 C hw) mm_330 mm_331 mm_332 mm_27 mm_333 (by decide +kernel) rfl (by omega) (by omega) hl.1 rfl (Nat.le_of_ble_eq_true rfl) dX12_scoped_6 (fun H locs hw => ?_)
  exact mw_scoped_9 fu rc hr C hret (F 15) F1 G1 hm hw (lv_sub hl [1, 0] rfl)
theorem mq_scoped (l : Launch) (v : EV) (a : Nat → Nat) (sz : Nat) (fu : Nat) (rc : RC) {dd : Nat} (hr : mH2 l v a rc dd) (F : PF) (G : PG) (r : Int32) (F1 : PF) (G1 : PG) (hm : mh_scoped fu rc F G = some (r, F1, G1)) : mMI l yX12_scoped cX12_scoped 3 (some .boolean) (dd + 1 + 307) (60 * (dd + 1) + 18156) v a sz [.ref (a 212)] F G r F1 G1 := mMI.of (ty := .boolean) (by decide) rfl (Nat.le_of_ble_eq_true rfl) (fun p e R s m args below meth c Q A H locs ls C hw hl hret => mw_scoped_0 fu rc hr (res := (r, F1, G1)) C hret F G hm hw hl)
def mb_statement_206 (fu : Nat) (rc : RC) (z0 : Int32) (F : PF) (G : PG) : PR := if b01 z0 = true then (some (z0, F, G)) else none
def mb_statement_205 (fu : Nat) (rc : RC) (F : PF) (G : PG) : PR := mb_statement_206 fu rc 0 F G
def mb_statement_201 (fu : Nat) (rc : RC) (F : PF) (G : PG) : PR := mb_statement_206 fu rc 1 F G
def mb_statement_198 (fu : Nat) (rc : RC) (z0 : Int32) (F : PF) (G : PG) : PR := if z0 = (0 : Int32) then mb_statement_205 fu rc F G else mb_statement_201 fu rc F G
def mb_statement_192 (fu : Nat) (rc : RC) (F : PF) (G : PG) : PR := (mf_sign fu 29 F G).bind (fun q => mb_statement_198 fu rc q.1 q.2.1 q.2.2)
def mb_statement_189 (fu : Nat) (rc : RC) (z0 : Int32) (F : PF) (G : PG) : PR := if z0 = (0 : Int32) then mb_statement_205 fu rc F G else mb_statement_192 fu rc F G
def mb_statement_184 (fu : Nat) (rc : RC) (F : PF) (G : PG) : PR := (mf_tellHere fu 1 F G).bind (fun q => mb_statement_189 fu rc q.1 q.2.1 q.2.2)
def mb_statement_211 (fu : Nat) (rc : RC) (z0 : Int32) (F : PF) (G : PG) : PR := if b01 z0 = true then (some (z0, F, G)) else none
def mb_statement_207 (fu : Nat) (rc : RC) (F : PF) (G : PG) : PR := (rc 2 0 0 F G).bind (fun q => mb_statement_211 fu rc q.1 q.2.1 q.2.2)
def mb_statement_216 (fu : Nat) (rc : RC) (z0 : Int32) (F : PF) (G : PG) : PR := if b01 z0 = true then (some (z0, F, G)) else none
def mb_statement_212 (fu : Nat) (rc : RC) (F : PF) (G : PG) : PR := (rc 4 0 0 F G).bind (fun q => mb_statement_216 fu rc q.1 q.2.1 q.2.2)
def mb_statement_221 (fu : Nat) (rc : RC) (z0 : Int32) (F : PF) (G : PG) : PR := if b01 z0 = true then (some (z0, F, G)) else none
def mb_statement_217 (fu : Nat) (rc : RC) (F : PF) (G : PG) : PR := (rc 7 0 0 F G).bind (fun q => mb_statement_221 fu rc q.1 q.2.1 q.2.2)
def mb_statement_226 (fu : Nat) (rc : RC) (z0 : Int32) (F : PF) (G : PG) : PR := if b01 z0 = true then (some (z0, F, G)) else none
def mb_statement_222 (fu : Nat) (rc : RC) (F : PF) (G : PG) : PR := (rc 3 0 0 F G).bind (fun q => mb_statement_226 fu rc q.1 q.2.1 q.2.2)
def mb_statement_231 (fu : Nat) (rc : RC) (z0 : Int32) (F : PF) (G : PG) : PR := if b01 z0 = true then (some (z0, F, G)) else none
def mb_statement_227 (fu : Nat) (rc : RC) (F : PF) (G : PG) : PR := (mf_leaves fu F G).bind (fun q => mb_statement_231 fu rc q.1 q.2.1 q.2.2)
def mb_statement_236 (fu : Nat) (rc : RC) (z0 : Int32) (F : PF) (G : PG) : PR := if b01 z0 = true then (some (z0, F, G)) else none
def mb_statement_232 (fu : Nat) (rc : RC) (F : PF) (G : PG) : PR := (mf_returns fu F G).bind (fun q => mb_statement_236 fu rc q.1 q.2.1 q.2.2)
def mb_statement_289 (fu : Nat) (rc : RC) (F : PF) (G : PG) : PR := some (0, F, G)
def mb_statement_305 (fu : Nat) (rc : RC) (z0 : Int32) (F : PF) (G : PG) : PR := if b01 z0 = true then (some (z0, F, G)) else none
def mb_statement_298 (fu : Nat) (rc : RC) (z0 : Int32) (F : PF) (G : PG) : PR := (mf_sign fu 29 F G).bind (fun q => mb_statement_305 fu rc q.1 q.2.1 q.2.2)
def mb_statement_291 (fu : Nat) (rc : RC) (x1 : Int32) (F : PF) (G : PG) : PR := (mf_step fu x1 0 0 F G).bind (fun q => mb_statement_298 fu rc q.1 q.2.1 q.2.2)
def mb_statement_286 (fu : Nat) (rc : RC) (x1 : Int32) (z0 : Int32) (F : PF) (G : PG) : PR := if z0 = (0 : Int32) then mb_statement_289 fu rc F G else mb_statement_291 fu rc x1 F G
def mb_statement_280 (fu : Nat) (rc : RC) (x1 : Int32) (F : PF) (G : PG) : PR := (mf_closeSign fu 23 F G).bind (fun q => mb_statement_286 fu rc x1 q.1 q.2.1 q.2.2)
def mb_statement_277 (fu : Nat) (rc : RC) (x1 : Int32) (z0 : Int32) (F : PF) (G : PG) : PR := if z0 = (0 : Int32) then mb_statement_289 fu rc F G else mb_statement_280 fu rc x1 F G
def mb_statement_273 (fu : Nat) (rc : RC) (x1 : Int32) (F : PF) (G : PG) : PR := (mf_expression fu F G).bind (fun q => mb_statement_277 fu rc x1 q.1 q.2.1 q.2.2)
def mb_statement_270 (fu : Nat) (rc : RC) (x1 : Int32) (z0 : Int32) (F : PF) (G : PG) : PR := if z0 = (0 : Int32) then mb_statement_289 fu rc F G else mb_statement_273 fu rc x1 F G
def mb_statement_264 (fu : Nat) (rc : RC) (x1 : Int32) (F : PF) (G : PG) : PR := (mf_openSign fu 22 F G).bind (fun q => mb_statement_270 fu rc x1 q.1 q.2.1 q.2.2)
def mb_statement_253 (fu : Nat) (rc : RC) (z0 : Int32) (F : PF) (G : PG) : PR := mb_statement_264 fu rc z0 (fup F 42 ((F 42) + (1 : Int32))) G
def mb_statement_251 (fu : Nat) (rc : RC) (F : PF) (G : PG) : PR := mb_statement_253 fu rc 20 F G
def mb_statement_246 (fu : Nat) (rc : RC) (F : PF) (G : PG) : PR := mb_statement_253 fu rc 19 F G
def mb_statement_243 (fu : Nat) (rc : RC) (z0 : Int32) (F : PF) (G : PG) : PR := if z0 = (0 : Int32) then mb_statement_251 fu rc F G else mb_statement_246 fu rc F G
def mb_statement_237 (fu : Nat) (rc : RC) (F : PF) (G : PG) : PR := (mf_isWord fu 12 F G).bind (fun q => mb_statement_243 fu rc q.1 q.2.1 q.2.2)
def mb_statement_311 (fu : Nat) (rc : RC) (z0 : Int32) (F : PF) (G : PG) : PR := if b01 z0 = true then (some (z0, F, G)) else none
def mb_statement_306 (fu : Nat) (rc : RC) (F : PF) (G : PG) : PR := (mf_fails fu 2 F G).bind (fun q => mb_statement_311 fu rc q.1 q.2.1 q.2.2)
def mb_statement_100 (fu : Nat) (rc : RC) (F : PF) (G : PG) : PR := if ixb (F 42) 4002 = true then (if (G 5 (F 42).toNatClampNeg).toInt < 0 ∨ 14 < (G 5 (F 42).toNatClampNeg).toInt then mb_statement_306 fu rc F G else if (G 5 (F 42).toNatClampNeg) = 0 then mb_statement_184 fu rc F G else if (G 5 (F 42).toNatClampNeg) = 1 then mb_statement_184 fu rc F G else if (G 5 (F 42).toNatClampNeg) = 2 then mb_statement_306 fu rc F G else if (G 5 (F 42).toNatClampNeg) = 3 then mb_statement_306 fu rc F G else if (G 5 (F 42).toNatClampNeg) = 4 then mb_statement_207 fu rc F G else if (G 5 (F 42).toNatClampNeg) = 5 then mb_statement_306 fu rc F G else if (G 5 (F 42).toNatClampNeg) = 6 then mb_statement_212 fu rc F G else if (G 5 (F 42).toNatClampNeg) = 7 then mb_statement_217 fu rc F G else if (G 5 (F 42).toNatClampNeg) = 8 then mb_statement_222 fu rc F G else if (G 5 (F 42).toNatClampNeg) = 9 then mb_statement_227 fu rc F G else if (G 5 (F 42).toNatClampNeg) = 10 then mb_statement_227 fu rc F G else if (G 5 (F 42).toNatClampNeg) = 11 then mb_statement_232 fu rc F G else if (G 5 (F 42).toNatClampNeg) = 12 then mb_statement_237 fu rc F G else if (G 5 (F 42).toNatClampNeg) = 13 then mb_statement_306 fu rc F G else mb_statement_237 fu rc F G) else none
def mb_statement_99 (fu : Nat) (rc : RC) (z0 : Int32) (F : PF) (G : PG) : PR := if b01 z0 = true then (some (z0, F, G)) else none
def mb_statement_94 (fu : Nat) (rc : RC) (F : PF) (G : PG) : PR := (mf_fails fu 2 F G).bind (fun q => mb_statement_99 fu rc q.1 q.2.1 q.2.2)
def mb_statement_81 (fu : Nat) (rc : RC) (F : PF) (G : PG) : PR := if ixb (F 42) 4002 = true then (if (G 4 (F 42).toNatClampNeg) = (2 : Int32) then mb_statement_100 fu rc F G else mb_statement_94 fu rc F G) else none
def mb_statement_80 (fu : Nat) (rc : RC) (z0 : Int32) (F : PF) (G : PG) : PR := if b01 z0 = true then (some (z0, F, G)) else none
def mb_statement_79 (fu : Nat) (rc : RC) (F : PF) (G : PG) : PR := mb_statement_80 fu rc 0 F G
def mb_statement_75 (fu : Nat) (rc : RC) (F : PF) (G : PG) : PR := mb_statement_80 fu rc 1 F G
def mb_statement_72 (fu : Nat) (rc : RC) (z0 : Int32) (F : PF) (G : PG) : PR := if z0 = (0 : Int32) then mb_statement_79 fu rc F G else mb_statement_75 fu rc F G
def mb_statement_66 (fu : Nat) (rc : RC) (F : PF) (G : PG) : PR := (mf_sign fu 29 F G).bind (fun q => mb_statement_72 fu rc q.1 q.2.1 q.2.2)
def mb_statement_63 (fu : Nat) (rc : RC) (z0 : Int32) (F : PF) (G : PG) : PR := if z0 = (0 : Int32) then mb_statement_79 fu rc F G else mb_statement_66 fu rc F G
def mb_statement_59 (fu : Nat) (rc : RC) (F : PF) (G : PG) : PR := (mf_simple fu F G).bind (fun q => mb_statement_63 fu rc q.1 q.2.1 q.2.2)
def mb_statement_46 (fu : Nat) (rc : RC) (F : PF) (G : PG) : PR := if ixb (F 42) 4002 = true then (if (G 4 (F 42).toNatClampNeg) = (1 : Int32) then mb_statement_59 fu rc F G else mb_statement_81 fu rc F G) else none
def mb_statement_45 (fu : Nat) (rc : RC) (z0 : Int32) (F : PF) (G : PG) : PR := if b01 z0 = true then (some (z0, F, G)) else none
def mb_statement_39 (fu : Nat) (rc : RC) (F : PF) (G : PG) : PR := (mf_sign fu 29 F G).bind (fun q => mb_statement_45 fu rc q.1 q.2.1 q.2.2)
def mb_statement_36 (fu : Nat) (rc : RC) (z0 : Int32) (F : PF) (G : PG) : PR := if z0 = (0 : Int32) then mb_statement_46 fu rc F G else mb_statement_39 fu rc F G
def mb_statement_30 (fu : Nat) (rc : RC) (F : PF) (G : PG) : PR := (mf_isSign fu 29 F G).bind (fun q => mb_statement_36 fu rc q.1 q.2.1 q.2.2)
def mb_statement_28 (fu : Nat) (rc : RC) (x2 : Int32) (F : PF) (G : PG) : PR := if b01 x2 = true then (some (x2, F, G)) else none
def mb_statement_22 (fu : Nat) (rc : RC) (x1 : Int32) (z0 : Int32) (F : PF) (G : PG) : PR := (mf_ends fu x1 F G).bind (fun q => mb_statement_28 fu rc z0 q.2.1 q.2.2)
def mb_statement_18 (fu : Nat) (rc : RC) (x1 : Int32) (F : PF) (G : PG) : PR := (rc 0 0 0 F G).bind (fun q => mb_statement_22 fu rc x1 q.1 q.2.1 q.2.2)
def mb_statement_9 (fu : Nat) (rc : RC) (F : PF) (G : PG) : PR := (mf_begins fu F G).bind (fun q => mb_statement_18 fu rc (F 15) q.2.1 q.2.2)
def mb_statement_6 (fu : Nat) (rc : RC) (z0 : Int32) (F : PF) (G : PG) : PR := if z0 = (0 : Int32) then mb_statement_30 fu rc F G else mb_statement_9 fu rc F G
def mb_statement_0 (fu : Nat) (rc : RC) (F : PF) (G : PG) : PR := (mf_isSign fu 26 F G).bind (fun q => mb_statement_6 fu rc q.1 q.2.1 q.2.2)
def mh_statement (fu : Nat) (rc : RC) (F : PF) (G : PG) : PR := mb_statement_0 fu rc F G
theorem mw_statement_206 (fu : Nat) (rc : RC) {dd : Nat} (hr : mH2 l v a rc dd) {res : Int32 × PF × PG} (C : mMC p R s m args c A v RX12 cX12_statement 3 (dd + 1 + 307) (60 * (dd + 1) + 18156)) (hret : ∀ (H1 : Heap) (locs1 : List Loc) (ls1 : Array Slot) (pc : Nat), mMW s A v a res.2.1 res.2.2 H1 locs1 → narrow .boolean (.int res.1) = .int res.1 → decode cX12_statement pc = .ok (.ireturn, 1) → W p l e R s m args below meth c H1 locs1 0 0 Q (F0 m pc ls1 [.int res.1])) (z0 : Int32) (F : PF) (G : PG) (hm : mb_statement_206 fu rc z0 F G = some res) {H : Heap} {locs : List Loc} (hw : mMW s A v a F G H locs) {ls : Array Slot} (hl : lv_has ls 3 []) : W p l e R s m args below meth c H locs 0 0 Q (F0 m 206 ls [.int z0]) := by
  have hx := C.1
  have hb := C.2.1
  unfold mb_statement_206 at hm
  obtain ⟨hz, hm⟩ := b01_elim hm
  obtain rfl := Option.some.inj hm
  exact hret _ _ _ _ hw (b01_nar hz) dX12_statement_206
theorem mw_statement_205 (fu : Nat) (rc : RC) {dd : Nat} (hr : mH2 l v a rc dd) {res : Int32 × PF × PG} (C : mMC p R s m args c A v RX12 cX12_statement 3 (dd + 1 + 307) (60 * (dd + 1) + 18156)) (hret : ∀ (H1 : Heap) (locs1 : List Loc) (ls1 : Array Slot) (pc : Nat), mMW s A v a res.2.1 res.2.2 H1 locs1 → narrow .boolean (.int res.1) = .int res.1 → decode cX12_statement pc = .ok (.ireturn, 1) → W p l e R s m args below meth c H1 locs1 0 0 Q (F0 m pc ls1 [.int res.1])) (F : PF) (G : PG) (hm : mb_statement_205 fu rc F G = some res) {H : Heap} {locs : List Loc} (hw : mMW s A v a F G H locs) {ls : Array Slot} (hl : lv_has ls 3 []) : W p l e R s m args below meth c H locs 0 0 Q (F0 m 205 ls []) := by
  have hx := C.1
  have hb := C.2.1
  unfold mb_statement_205 at hm
  refine lv_iconst (v := 0) hx hb dX12_statement_205 (by decide) ?_
  exact mw_statement_206 fu rc hr C hret 0 F G hm hw (lv_sub hl [] rfl)
theorem mw_statement_201 (fu : Nat) (rc : RC) {dd : Nat} (hr : mH2 l v a rc dd) {res : Int32 × PF × PG} (C : mMC p R s m args c A v RX12 cX12_statement 3 (dd + 1 + 307) (60 * (dd + 1) + 18156)) (hret : ∀ (H1 : Heap) (locs1 : List Loc) (ls1 : Array Slot) (pc : Nat), mMW s A v a res.2.1 res.2.2 H1 locs1 → narrow .boolean (.int res.1) = .int res.1 → decode cX12_statement pc = .ok (.ireturn, 1) → W p l e R s m args below meth c H1 locs1 0 0 Q (F0 m pc ls1 [.int res.1])) (F : PF) (G : PG) (hm : mb_statement_201 fu rc F G = some res) {H : Heap} {locs : List Loc} (hw : mMW s A v a F G H locs) {ls : Array Slot} (hl : lv_has ls 3 []) : W p l e R s m args below meth c H locs 0 0 Q (F0 m 201 ls []) := by
  have hx := C.1
  have hb := C.2.1
  unfold mb_statement_201 at hm
  refine lv_iconst (v := 1) hx hb dX12_statement_201 (by decide) ?_
  refine lv_goto (tgt := 206) hx hb dX12_statement_202 (by decide) ?_
  exact mw_statement_206 fu rc hr C hret 1 F G hm hw (lv_sub hl [] rfl)
theorem mw_statement_198 (fu : Nat) (rc : RC) {dd : Nat} (hr : mH2 l v a rc dd) {res : Int32 × PF × PG} (C : mMC p R s m args c A v RX12 cX12_statement 3 (dd + 1 + 307) (60 * (dd + 1) + 18156)) (hret : ∀ (H1 : Heap) (locs1 : List Loc) (ls1 : Array Slot) (pc : Nat), mMW s A v a res.2.1 res.2.2 H1 locs1 → narrow .boolean (.int res.1) = .int res.1 → decode cX12_statement pc = .ok (.ireturn, 1) → W p l e R s m args below meth c H1 locs1 0 0 Q (F0 m pc ls1 [.int res.1])) (z0 : Int32) (F : PF) (G : PG) (hm : mb_statement_198 fu rc z0 F G = some res) {H : Heap} {locs : List Loc} (hw : mMW s A v a F G H locs) {ls : Array Slot} (hl : lv_has ls 3 []) : W p l e R s m args below meth c H locs 0 0 Q (F0 m 198 ls [.int z0]) := by
  have hx := C.1
  have hb := C.2.1
  unfold mb_statement_198 at hm
  refine lv_if_eq (tgt := 205) hx hb dX12_statement_198 (by decide) (fun c_1 => ?_) (fun c_1 => ?_)
  · have hm := (if_pos c_1).symm.trans hm
    exact mw_statement_205 fu rc hr C hret F G hm hw (lv_sub hl [] rfl)
  · have hm := (if_neg c_1).symm.trans hm
    exact mw_statement_201 fu rc hr C hret F G hm hw (lv_sub hl [] rfl)
theorem mw_statement_192 (fu : Nat) (rc : RC) {dd : Nat} (hr : mH2 l v a rc dd) {res : Int32 × PF × PG} (C : mMC p R s m args c A v RX12 cX12_statement 3 (dd + 1 + 307) (60 * (dd + 1) + 18156)) (hret : ∀ (H1 : Heap) (locs1 : List Loc) (ls1 : Array Slot) (pc : Nat), mMW s A v a res.2.1 res.2.2 H1 locs1 → narrow .boolean (.int res.1) = .int res.1 → decode cX12_statement pc = .ok (.ireturn, 1) → W p l e R s m args below meth c H1 locs1 0 0 Q (F0 m pc ls1 [.int res.1])) (F : PF) (G : PG) (hm : mb_statement_192 fu rc F G = some res) {H : Heap} {locs : List Loc} (hw : mMW s A v a F G H locs) {ls : Array Slot} (hl : lv_has ls 3 [(0, .ref (a 212))]) : W p l e R s m args below meth c H locs 0 0 Q (F0 m 192 ls []) := by
  have hx := C.1
  have hb := C.2.1
  unfold mb_statement_192 at hm
  refine lv_aload_n hx hb dX12_statement_192 rfl (lv_at hl 0 rfl) ?_
  refine lv_bipush (v := 29) hx hb dX12_statement_193 (by decide) ?_
  obtain ⟨⟨r1, F1, G1⟩, hc, hm⟩ := bind_elim hm
  refine mcallI (n := 1) (As := [.int 29]) (rest := []) C hw (mk_sign l v a _ fu 29 F G r1 F1 G1 hc) (mrecv_X12 C hw) mm_179 mm_180 mm_181 mm_27 mm_182 (by decide +kernel) rfl (by omega) (by omega) hl.1 rfl (Nat.le_of_ble_eq_true rfl) dX12_statement_195 (fun H locs hw => ?_)
  exact mw_statement_198 fu rc hr C hret r1 F1 G1 hm hw (lv_sub hl [] rfl)
theorem mw_statement_189 (fu : Nat) (rc : RC) {dd : Nat} (hr : mH2 l v a rc dd) {res : Int32 × PF × PG} (C : mMC p R s m args c A v RX12 cX12_statement 3 (dd + 1 + 307) (60 * (dd + 1) + 18156)) (hret : ∀ (H1 : Heap) (locs1 : List Loc) (ls1 : Array Slot) (pc : Nat), mMW s A v a res.2.1 res.2.2 H1 locs1 → narrow .boolean (.int res.1) = .int res.1 → decode cX12_statement pc = .ok (.ireturn, 1) → W p l e R s m args below meth c H1 locs1 0 0 Q (F0 m pc ls1 [.int res.1])) (z0 : Int32) (F : PF) (G : PG) (hm : mb_statement_189 fu rc z0 F G = some res) {H : Heap} {locs : List Loc} (hw : mMW s A v a F G H locs) {ls : Array Slot} (hl : lv_has ls 3 [(0, .ref (a 212))]) : W p l e R s m args below meth c H locs 0 0 Q (F0 m 189 ls [.int z0]) := by
  have hx := C.1
  have hb := C.2.1
  unfold mb_statement_189 at hm
  refine lv_if_eq (tgt := 205) hx hb dX12_statement_189 (by decide) (fun c_1 => ?_) (fun c_1 => ?_)
  · have hm := (if_pos c_1).symm.trans hm
    exact mw_statement_205 fu rc hr C hret F G hm hw (lv_sub hl [] rfl)
  · have hm := (if_neg c_1).symm.trans hm
    exact mw_statement_192 fu rc hr C hret F G hm hw (lv_sub hl [0] rfl)
theorem mw_statement_184 (fu : Nat) (rc : RC) {dd : Nat} (hr : mH2 l v a rc dd) {res : Int32 × PF × PG} (C : mMC p R s m args c A v RX12 cX12_statement 3 (dd + 1 + 307) (60 * (dd + 1) + 18156)) (hret : ∀ (H1 : Heap) (locs1 : List Loc) (ls1 : Array Slot) (pc : Nat), mMW s A v a res.2.1 res.2.2 H1 locs1 → narrow .boolean (.int res.1) = .int res.1 → decode cX12_statement pc = .ok (.ireturn, 1) → W p l e R s m args below meth c H1 locs1 0 0 Q (F0 m pc ls1 [.int res.1])) (F : PF) (G : PG) (hm : mb_statement_184 fu rc F G = some res) {H : Heap} {locs : List Loc} (hw : mMW s A v a F G H locs) {ls : Array Slot} (hl : lv_has ls 3 [(0, .ref (a 212))]) : W p l e R s m args below meth c H locs 0 0 Q (F0 m 184 ls []) := by
  have hx := C.1
  have hb := C.2.1
  unfold mb_statement_184 at hm
  refine lv_aload_n hx hb dX12_statement_184 rfl (lv_at hl 0 rfl) ?_
  refine lv_iconst (v := 1) hx hb dX12_statement_185 (by decide) ?_
  obtain ⟨⟨r1, F1, G1⟩, hc, hm⟩ := bind_elim hm
  refine mcallI (n := 1) (As := [.int 1]) (rest := []) C hw (mk_tellHere l v a _ fu 1 F G r1 F1 G1 hc) (mrecv_X12 C hw) mm_361 mm_362 mm_363 mm_27 mm_364 (by decide +kernel) rfl (by omega) (by omega) hl.1 rfl (Nat.le_of_ble_eq_true rfl) dX12_statement_186 (fun H locs hw => ?_)
  exact mw_statement_189 fu rc hr C hret r1 F1 G1 hm hw (lv_sub hl [0] rfl)
theorem mw_statement_211 (fu : Nat) (rc : RC) {dd : Nat} (hr : mH2 l v a rc dd) {res : Int32 × PF × PG} (C : mMC p R s m args c A v RX12 cX12_statement 3 (dd + 1 + 307) (60 * (dd + 1) + 18156)) (hret : ∀ (H1 : Heap) (locs1 : List Loc) (ls1 : Array Slot) (pc : Nat), mMW s A v a res.2.1 res.2.2 H1 locs1 → narrow .boolean (.int res.1) = .int res.1 → decode cX12_statement pc = .ok (.ireturn, 1) → W p l e R s m args below meth c H1 locs1 0 0 Q (F0 m pc ls1 [.int res.1])) (z0 : Int32) (F : PF) (G : PG) (hm : mb_statement_211 fu rc z0 F G = some res) {H : Heap} {locs : List Loc} (hw : mMW s A v a F G H locs) {ls : Array Slot} (hl : lv_has ls 3 []) : W p l e R s m args below meth c H locs 0 0 Q (F0 m 211 ls [.int z0]) := by
  have hx := C.1
  have hb := C.2.1
  unfold mb_statement_211 at hm
  obtain ⟨hz, hm⟩ := b01_elim hm
  obtain rfl := Option.some.inj hm
  exact hret _ _ _ _ hw (b01_nar hz) dX12_statement_211
theorem mw_statement_207 (fu : Nat) (rc : RC) {dd : Nat} (hr : mH2 l v a rc dd) {res : Int32 × PF × PG} (C : mMC p R s m args c A v RX12 cX12_statement 3 (dd + 1 + 307) (60 * (dd + 1) + 18156)) (hret : ∀ (H1 : Heap) (locs1 : List Loc) (ls1 : Array Slot) (pc : Nat), mMW s A v a res.2.1 res.2.2 H1 locs1 → narrow .boolean (.int res.1) = .int res.1 → decode cX12_statement pc = .ok (.ireturn, 1) → W p l e R s m args below meth c H1 locs1 0 0 Q (F0 m pc ls1 [.int res.1])) (F : PF) (G : PG) (hm : mb_statement_207 fu rc F G = some res) {H : Heap} {locs : List Loc} (hw : mMW s A v a F G H locs) {ls : Array Slot} (hl : lv_has ls 3 [(0, .ref (a 212))]) : W p l e R s m args below meth c H locs 0 0 Q (F0 m 207 ls []) := by
  have hx := C.1
  have hb := C.2.1
  unfold mb_statement_207 at hm
  refine lv_aload_n hx hb dX12_statement_207 rfl (lv_at hl 0 rfl) ?_
  obtain ⟨⟨r1, F1, G1⟩, hc, hm⟩ := bind_elim hm
  refine mcallI (n := 0) (As := []) (rest := []) C hw (hr.2.2.1 _ F G r1 F1 G1 hc) (mrecv_X12 C hw) mm_383 mm_384 mm_385 mm_27 mm_355 (by decide +kernel) rfl (by omega) (by omega) hl.1 rfl (Nat.le_of_ble_eq_true rfl) dX12_statement_208 (fun H locs hw => ?_)
  exact mw_statement_211 fu rc hr C hret r1 F1 G1 hm hw (lv_sub hl [] rfl)
theorem mw_statement_216 (fu : Nat) (rc : RC) {dd : Nat} (hr : mH2 l v a rc dd) {res : Int32 × PF × PG} (C : mMC p R s m args c A v RX12 cX12_statement 3 (dd + 1 + 307) (60 * (dd + 1) + 18156)) (hret : ∀ (H1 : Heap) (locs1 : List Loc) (ls1 : Array Slot) (pc : Nat), mMW s A v a res.2.1 res.2.2 H1 locs1 → narrow .boolean (.int res.1) = .int res.1 → decode cX12_statement pc = .ok (.ireturn, 1) → W p l e R s m args below meth c H1 locs1 0 0 Q (F0 m pc ls1 [.int res.1])) (z0 : Int32) (F : PF) (G : PG) (hm : mb_statement_216 fu rc z0 F G = some res) {H : Heap} {locs : List Loc} (hw : mMW s A v a F G H locs) {ls : Array Slot} (hl : lv_has ls 3 []) : W p l e R s m args below meth c H locs 0 0 Q (F0 m 216 ls [.int z0]) := by
  have hx := C.1
  have hb := C.2.1
  unfold mb_statement_216 at hm
  obtain ⟨hz, hm⟩ := b01_elim hm
  obtain rfl := Option.some.inj hm
  exact hret _ _ _ _ hw (b01_nar hz) dX12_statement_216
theorem mw_statement_212 (fu : Nat) (rc : RC) {dd : Nat} (hr : mH2 l v a rc dd) {res : Int32 × PF × PG} (C : mMC p R s m args c A v RX12 cX12_statement 3 (dd + 1 + 307) (60 * (dd + 1) + 18156)) (hret : ∀ (H1 : Heap) (locs1 : List Loc) (ls1 : Array Slot) (pc : Nat), mMW s A v a res.2.1 res.2.2 H1 locs1 → narrow .boolean (.int res.1) = .int res.1 → decode cX12_statement pc = .ok (.ireturn, 1) → W p l e R s m args below meth c H1 locs1 0 0 Q (F0 m pc ls1 [.int res.1])) (F : PF) (G : PG) (hm : mb_statement_212 fu rc F G = some res) {H : Heap} {locs : List Loc} (hw : mMW s A v a F G H locs) {ls : Array Slot} (hl : lv_has ls 3 [(0, .ref (a 212))]) : W p l e R s m args below meth c H locs 0 0 Q (F0 m 212 ls []) := by
  have hx := C.1
  have hb := C.2.1
  unfold mb_statement_212 at hm
  refine lv_aload_n hx hb dX12_statement_212 rfl (lv_at hl 0 rfl) ?_
  obtain ⟨⟨r1, F1, G1⟩, hc, hm⟩ := bind_elim hm
  refine mcallI (n := 0) (As := []) (rest := []) C hw (hr.2.2.2.2.1 _ F G r1 F1 G1 hc) (mrecv_X12 C hw) mm_386 mm_387 mm_388 mm_27 mm_380 (by decide +kernel) rfl (by omega) (by omega) hl.1 rfl (Nat.le_of_ble_eq_true rfl) dX12_statement_213 (fun H locs hw => ?_)
  exact mw_statement_216 fu rc hr C hret r1 F1 G1 hm hw (lv_sub hl [] rfl)
theorem mw_statement_221 (fu : Nat) (rc : RC) {dd : Nat} (hr : mH2 l v a rc dd) {res : Int32 × PF × PG} (C : mMC p R s m args c A v RX12 cX12_statement 3 (dd + 1 + 307) (60 * (dd + 1) + 18156)) (hret : ∀ (H1 : Heap) (locs1 : List Loc) (ls1 : Array Slot) (pc : Nat), mMW s A v a res.2.1 res.2.2 H1 locs1 → narrow .boolean (.int res.1) = .int res.1 → decode cX12_statement pc = .ok (.ireturn, 1) → W p l e R s m args below meth c H1 locs1 0 0 Q (F0 m pc ls1 [.int res.1])) (z0 : Int32) (F : PF) (G : PG) (hm : mb_statement_221 fu rc z0 F G = some res) {H : Heap} {locs : List Loc} (hw : mMW s A v a F G H locs) {ls : Array Slot} (hl : lv_has ls 3 []) : W p l e R s m args below meth c H locs 0 0 Q (F0 m 221 ls [.int z0]) := by
  have hx := C.1
  have hb := C.2.1
  unfold mb_statement_221 at hm
  obtain ⟨hz, hm⟩ := b01_elim hm
  obtain rfl := Option.some.inj hm
  exact hret _ _ _ _ hw (b01_nar hz) dX12_statement_221
theorem mw_statement_217 (fu : Nat) (rc : RC) {dd : Nat} (hr : mH2 l v a rc dd) {res : Int32 × PF × PG} (C : mMC p R s m args c A v RX12 cX12_statement 3 (dd + 1 + 307) (60 * (dd + 1) + 18156)) (hret : ∀ (H1 : Heap) (locs1 : List Loc) (ls1 : Array Slot) (pc : Nat), mMW s A v a res.2.1 res.2.2 H1 locs1 → narrow .boolean (.int res.1) = .int res.1 → decode cX12_statement pc = .ok (.ireturn, 1) → W p l e R s m args below meth c H1 locs1 0 0 Q (F0 m pc ls1 [.int res.1])) (F : PF) (G : PG) (hm : mb_statement_217 fu rc F G = some res) {H : Heap} {locs : List Loc} (hw : mMW s A v a F G H locs) {ls : Array Slot} (hl : lv_has ls 3 [(0, .ref (a 212))]) : W p l e R s m args below meth c H locs 0 0 Q (F0 m 217 ls []) := by
  have hx := C.1
  have hb := C.2.1
  unfold mb_statement_217 at hm
  refine lv_aload_n hx hb dX12_statement_217 rfl (lv_at hl 0 rfl) ?_
  obtain ⟨⟨r1, F1, G1⟩, hc, hm⟩ := bind_elim hm
  refine mcallI (n := 0) (As := []) (rest := []) C hw (hr.2.2.2.2.2.2.2 _ F G r1 F1 G1 hc) (mrecv_X12 C hw) mm_389 mm_390 mm_391 mm_27 mm_403 (by decide +kernel) rfl (by omega) (by omega) hl.1 rfl (Nat.le_of_ble_eq_true rfl) dX12_statement_218 (fun H locs hw => ?_)
  exact mw_statement_221 fu rc hr C hret r1 F1 G1 hm hw (lv_sub hl [] rfl)
theorem mw_statement_226 (fu : Nat) (rc : RC) {dd : Nat} (hr : mH2 l v a rc dd) {res : Int32 × PF × PG} (C : mMC p R s m args c A v RX12 cX12_statement 3 (dd + 1 + 307) (60 * (dd + 1) + 18156)) (hret : ∀ (H1 : Heap) (locs1 : List Loc) (ls1 : Array Slot) (pc : Nat), mMW s A v a res.2.1 res.2.2 H1 locs1 → narrow .boolean (.int res.1) = .int res.1 → decode cX12_statement pc = .ok (.ireturn, 1) → W p l e R s m args below meth c H1 locs1 0 0 Q (F0 m pc ls1 [.int res.1])) (z0 : Int32) (F : PF) (G : PG) (hm : mb_statement_226 fu rc z0 F G = some res) {H : Heap} {locs : List Loc} (hw : mMW s A v a F G H locs) {ls : Array Slot} (hl : lv_has ls 3 []) : W p l e R s m args below meth c H locs 0 0 Q (F0 m 226 ls [.int z0]) := by
  have hx := C.1
  have hb := C.2.1
  unfold mb_statement_226 at hm
  obtain ⟨hz, hm⟩ := b01_elim hm
  obtain rfl := Option.some.inj hm
  exact hret _ _ _ _ hw (b01_nar hz) dX12_statement_226
theorem mw_statement_222 (fu : Nat) (rc : RC) {dd : Nat} (hr : mH2 l v a rc dd) {res : Int32 × PF × PG} (C : mMC p R s m args c A v RX12 cX12_statement 3 (dd + 1 + 307) (60 * (dd + 1) + 18156)) (hret : ∀ (H1 : Heap) (locs1 : List Loc) (ls1 : Array Slot) (pc : Nat), mMW s A v a res.2.1 res.2.2 H1 locs1 → narrow .boolean (.int res.1) = .int res.1 → decode cX12_statement pc = .ok (.ireturn, 1) → W p l e R s m args below meth c H1 locs1 0 0 Q (F0 m pc ls1 [.int res.1])) (F : PF) (G : PG) (hm : mb_statement_222 fu rc F G = some res) {H : Heap} {locs : List Loc} (hw : mMW s A v a F G H locs) {ls : Array Slot} (hl : lv_has ls 3 [(0, .ref (a 212))]) : W p l e R s m args below meth c H locs 0 0 Q (F0 m 222 ls []) := by
  have hx := C.1
  have hb := C.2.1
  unfold mb_statement_222 at hm
  refine lv_aload_n hx hb dX12_statement_222 rfl (lv_at hl 0 rfl) ?_
  obtain ⟨⟨r1, F1, G1⟩, hc, hm⟩ := bind_elim hm
  refine mcallI (n := 0) (As := []) (rest := []) C hw (hr.2.2.2.1 _ F G r1 F1 G1 hc) (mrecv_X12 C hw) mm_392 mm_393 mm_394 mm_27 mm_360 (by decide +kernel) rfl (by omega) (by omega) hl.1 rfl (Nat.le_of_ble_eq_true rfl) dX12_statement_223 (fun H locs hw => ?_)
  exact mw_statement_226 fu rc hr C hret r1 F1 G1 hm hw (lv_sub hl [] rfl)
theorem mw_statement_231 (fu : Nat) (rc : RC) {dd : Nat} (hr : mH2 l v a rc dd) {res : Int32 × PF × PG} (C : mMC p R s m args c A v RX12 cX12_statement 3 (dd + 1 + 307) (60 * (dd + 1) + 18156)) (hret : ∀ (H1 : Heap) (locs1 : List Loc) (ls1 : Array Slot) (pc : Nat), mMW s A v a res.2.1 res.2.2 H1 locs1 → narrow .boolean (.int res.1) = .int res.1 → decode cX12_statement pc = .ok (.ireturn, 1) → W p l e R s m args below meth c H1 locs1 0 0 Q (F0 m pc ls1 [.int res.1])) (z0 : Int32) (F : PF) (G : PG) (hm : mb_statement_231 fu rc z0 F G = some res) {H : Heap} {locs : List Loc} (hw : mMW s A v a F G H locs) {ls : Array Slot} (hl : lv_has ls 3 []) : W p l e R s m args below meth c H locs 0 0 Q (F0 m 231 ls [.int z0]) := by
  have hx := C.1
  have hb := C.2.1
  unfold mb_statement_231 at hm
  obtain ⟨hz, hm⟩ := b01_elim hm
  obtain rfl := Option.some.inj hm
  exact hret _ _ _ _ hw (b01_nar hz) dX12_statement_231
theorem mw_statement_227 (fu : Nat) (rc : RC) {dd : Nat} (hr : mH2 l v a rc dd) {res : Int32 × PF × PG} (C : mMC p R s m args c A v RX12 cX12_statement 3 (dd + 1 + 307) (60 * (dd + 1) + 18156)) (hret : ∀ (H1 : Heap) (locs1 : List Loc) (ls1 : Array Slot) (pc : Nat), mMW s A v a res.2.1 res.2.2 H1 locs1 → narrow .boolean (.int res.1) = .int res.1 → decode cX12_statement pc = .ok (.ireturn, 1) → W p l e R s m args below meth c H1 locs1 0 0 Q (F0 m pc ls1 [.int res.1])) (F : PF) (G : PG) (hm : mb_statement_227 fu rc F G = some res) {H : Heap} {locs : List Loc} (hw : mMW s A v a F G H locs) {ls : Array Slot} (hl : lv_has ls 3 [(0, .ref (a 212))]) : W p l e R s m args below meth c H locs 0 0 Q (F0 m 227 ls []) := by
  have hx := C.1
  have hb := C.2.1
  unfold mb_statement_227 at hm
  refine lv_aload_n hx hb dX12_statement_227 rfl (lv_at hl 0 rfl) ?_
  obtain ⟨⟨r1, F1, G1⟩, hc, hm⟩ := bind_elim hm
  refine mcallI (n := 0) (As := []) (rest := []) C hw (mk_leaves l v a _ fu F G r1 F1 G1 hc) (mrecv_X12 C hw) mm_395 mm_396 mm_397 mm_27 mm_398 (by decide +kernel) rfl (by omega) (by omega) hl.1 rfl (Nat.le_of_ble_eq_true rfl) dX12_statement_228 (fun H locs hw => ?_)
  exact mw_statement_231 fu rc hr C hret r1 F1 G1 hm hw (lv_sub hl [] rfl)
theorem mw_statement_236 (fu : Nat) (rc : RC) {dd : Nat} (hr : mH2 l v a rc dd) {res : Int32 × PF × PG} (C : mMC p R s m args c A v RX12 cX12_statement 3 (dd + 1 + 307) (60 * (dd + 1) + 18156)) (hret : ∀ (H1 : Heap) (locs1 : List Loc) (ls1 : Array Slot) (pc : Nat), mMW s A v a res.2.1 res.2.2 H1 locs1 → narrow .boolean (.int res.1) = .int res.1 → decode cX12_statement pc = .ok (.ireturn, 1) → W p l e R s m args below meth c H1 locs1 0 0 Q (F0 m pc ls1 [.int res.1])) (z0 : Int32) (F : PF) (G : PG) (hm : mb_statement_236 fu rc z0 F G = some res) {H : Heap} {locs : List Loc} (hw : mMW s A v a F G H locs) {ls : Array Slot} (hl : lv_has ls 3 []) : W p l e R s m args below meth c H locs 0 0 Q (F0 m 236 ls [.int z0]) := by
  have hx := C.1
  have hb := C.2.1
  unfold mb_statement_236 at hm
  obtain ⟨hz, hm⟩ := b01_elim hm
  obtain rfl := Option.some.inj hm
  exact hret _ _ _ _ hw (b01_nar hz) dX12_statement_236
theorem mw_statement_232 (fu : Nat) (rc : RC) {dd : Nat} (hr : mH2 l v a rc dd) {res : Int32 × PF × PG} (C : mMC p R s m args c A v RX12 cX12_statement 3 (dd + 1 + 307) (60 * (dd + 1) + 18156)) (hret : ∀ (H1 : Heap) (locs1 : List Loc) (ls1 : Array Slot) (pc : Nat), mMW s A v a res.2.1 res.2.2 H1 locs1 → narrow .boolean (.int res.1) = .int res.1 → decode cX12_statement pc = .ok (.ireturn, 1) → W p l e R s m args below meth c H1 locs1 0 0 Q (F0 m pc ls1 [.int res.1])) (F : PF) (G : PG) (hm : mb_statement_232 fu rc F G = some res) {H : Heap} {locs : List Loc} (hw : mMW s A v a F G H locs) {ls : Array Slot} (hl : lv_has ls 3 [(0, .ref (a 212))]) : W p l e R s m args below meth c H locs 0 0 Q (F0 m 232 ls []) := by
  have hx := C.1
  have hb := C.2.1
  unfold mb_statement_232 at hm
  refine lv_aload_n hx hb dX12_statement_232 rfl (lv_at hl 0 rfl) ?_
  obtain ⟨⟨r1, F1, G1⟩, hc, hm⟩ := bind_elim hm
  refine mcallI (n := 0) (As := []) (rest := []) C hw (mk_returns l v a _ fu F G r1 F1 G1 hc) (mrecv_X12 C hw) mm_399 mm_400 mm_401 mm_27 mm_402 (by decide +kernel) rfl (by omega) (by omega) hl.1 rfl (Nat.le_of_ble_eq_true rfl) dX12_statement_233 (fun H locs hw => ?_)
  exact mw_statement_236 fu rc hr C hret r1 F1 G1 hm hw (lv_sub hl [] rfl)
theorem mw_statement_289 (fu : Nat) (rc : RC) {dd : Nat} (hr : mH2 l v a rc dd) {res : Int32 × PF × PG} (C : mMC p R s m args c A v RX12 cX12_statement 3 (dd + 1 + 307) (60 * (dd + 1) + 18156)) (hret : ∀ (H1 : Heap) (locs1 : List Loc) (ls1 : Array Slot) (pc : Nat), mMW s A v a res.2.1 res.2.2 H1 locs1 → narrow .boolean (.int res.1) = .int res.1 → decode cX12_statement pc = .ok (.ireturn, 1) → W p l e R s m args below meth c H1 locs1 0 0 Q (F0 m pc ls1 [.int res.1])) (F : PF) (G : PG) (hm : mb_statement_289 fu rc F G = some res) {H : Heap} {locs : List Loc} (hw : mMW s A v a F G H locs) {ls : Array Slot} (hl : lv_has ls 3 []) : W p l e R s m args below meth c H locs 0 0 Q (F0 m 289 ls []) := by
  have hx := C.1
  have hb := C.2.1
  unfold mb_statement_289 at hm
  refine lv_iconst (v := 0) hx hb dX12_statement_289 (by decide) ?_
  obtain rfl := Option.some.inj hm
  exact hret _ _ _ _ hw (b01_nar (v := 0) (Or.inl rfl)) dX12_statement_290
theorem mw_statement_305 (fu : Nat) (rc : RC) {dd : Nat} (hr : mH2 l v a rc dd) {res : Int32 × PF × PG} (C : mMC p R s m args c A v RX12 cX12_statement 3 (dd + 1 + 307) (60 * (dd + 1) + 18156)) (hret : ∀ (H1 : Heap) (locs1 : List Loc) (ls1 : Array Slot) (pc : Nat), mMW s A v a res.2.1 res.2.2 H1 locs1 → narrow .boolean (.int res.1) = .int res.1 → decode cX12_statement pc = .ok (.ireturn, 1) → W p l e R s m args below meth c H1 locs1 0 0 Q (F0 m pc ls1 [.int res.1])) (z0 : Int32) (F : PF) (G : PG) (hm : mb_statement_305 fu rc z0 F G = some res) {H : Heap} {locs : List Loc} (hw : mMW s A v a F G H locs) {ls : Array Slot} (hl : lv_has ls 3 []) : W p l e R s m args below meth c H locs 0 0 Q (F0 m 305 ls [.int z0]) := by
  have hx := C.1
  have hb := C.2.1
  unfold mb_statement_305 at hm
  obtain ⟨hz, hm⟩ := b01_elim hm
  obtain rfl := Option.some.inj hm
  exact hret _ _ _ _ hw (b01_nar hz) dX12_statement_305
theorem mw_statement_298 (fu : Nat) (rc : RC) {dd : Nat} (hr : mH2 l v a rc dd) {res : Int32 × PF × PG} (C : mMC p R s m args c A v RX12 cX12_statement 3 (dd + 1 + 307) (60 * (dd + 1) + 18156)) (hret : ∀ (H1 : Heap) (locs1 : List Loc) (ls1 : Array Slot) (pc : Nat), mMW s A v a res.2.1 res.2.2 H1 locs1 → narrow .boolean (.int res.1) = .int res.1 → decode cX12_statement pc = .ok (.ireturn, 1) → W p l e R s m args below meth c H1 locs1 0 0 Q (F0 m pc ls1 [.int res.1])) (z0 : Int32) (F : PF) (G : PG) (hm : mb_statement_298 fu rc z0 F G = some res) {H : Heap} {locs : List Loc} (hw : mMW s A v a F G H locs) {ls : Array Slot} (hl : lv_has ls 3 [(0, .ref (a 212))]) : W p l e R s m args below meth c H locs 0 0 Q (F0 m 298 ls [.int z0]) := by
  have hx := C.1
  have hb := C.2.1
  unfold mb_statement_298 at hm
  refine lv_pop hx hb dX12_statement_298 rfl ?_
  refine lv_aload_n hx hb dX12_statement_299 rfl (lv_at hl 0 rfl) ?_
  refine lv_bipush (v := 29) hx hb dX12_statement_300 (by decide) ?_
  obtain ⟨⟨r1, F1, G1⟩, hc, hm⟩ := bind_elim hm
  refine mcallI (n := 1) (As := [.int 29]) (rest := []) C hw (mk_sign l v a _ fu 29 F G r1 F1 G1 hc) (mrecv_X12 C hw) mm_179 mm_180 mm_181 mm_27 mm_182 (by decide +kernel) rfl (by omega) (by omega) hl.1 rfl (Nat.le_of_ble_eq_true rfl) dX12_statement_302 (fun H locs hw => ?_)
  exact mw_statement_305 fu rc hr C hret r1 F1 G1 hm hw (lv_sub hl [] rfl)
theorem mw_statement_291 (fu : Nat) (rc : RC) {dd : Nat} (hr : mH2 l v a rc dd) {res : Int32 × PF × PG} (C : mMC p R s m args c A v RX12 cX12_statement 3 (dd + 1 + 307) (60 * (dd + 1) + 18156)) (hret : ∀ (H1 : Heap) (locs1 : List Loc) (ls1 : Array Slot) (pc : Nat), mMW s A v a res.2.1 res.2.2 H1 locs1 → narrow .boolean (.int res.1) = .int res.1 → decode cX12_statement pc = .ok (.ireturn, 1) → W p l e R s m args below meth c H1 locs1 0 0 Q (F0 m pc ls1 [.int res.1])) (x1 : Int32) (F : PF) (G : PG) (hm : mb_statement_291 fu rc x1 F G = some res) {H : Heap} {locs : List Loc} (hw : mMW s A v a F G H locs) {ls : Array Slot} (hl : lv_has ls 3 [(0, .ref (a 212)), (1, .int x1)]) : W p l e R s m args below meth c H locs 0 0 Q (F0 m 291 ls []) := by
  have hx := C.1
  have hb := C.2.1
  unfold mb_statement_291 at hm
  refine lv_aload_n hx hb dX12_statement_291 rfl (lv_at hl 0 rfl) ?_
  refine lv_iload_n hx hb dX12_statement_292 rfl (lv_at hl 1 rfl) ?_
  refine lv_iconst (v := 0) hx hb dX12_statement_293 (by decide) ?_
  refine lv_iconst (v := 0) hx hb dX12_statement_294 (by decide) ?_
  obtain ⟨⟨r1, F1, G1⟩, hc, hm⟩ := bind_elim hm
  refine mcallI (n := 3) (As := [.int x1, .int 0, .int 0]) (rest := []) C hw (mk_step l v a _ fu x1 0 0 F G r1 F1 G1 hc) (mrecv_X12 C hw) mm_203 mm_204 mm_205 mm_27 mm_206 (by decide +kernel) rfl (by omega) (by omega) hl.1 rfl (Nat.le_of_ble_eq_true rfl) dX12_statement_295 (fun H locs hw => ?_)
  exact mw_statement_298 fu rc hr C hret r1 F1 G1 hm hw (lv_sub hl [0] rfl)
theorem mw_statement_286 (fu : Nat) (rc : RC) {dd : Nat} (hr : mH2 l v a rc dd) {res : Int32 × PF × PG} (C : mMC p R s m args c A v RX12 cX12_statement 3 (dd + 1 + 307) (60 * (dd + 1) + 18156)) (hret : ∀ (H1 : Heap) (locs1 : List Loc) (ls1 : Array Slot) (pc : Nat), mMW s A v a res.2.1 res.2.2 H1 locs1 → narrow .boolean (.int res.1) = .int res.1 → decode cX12_statement pc = .ok (.ireturn, 1) → W p l e R s m args below meth c H1 locs1 0 0 Q (F0 m pc ls1 [.int res.1])) (x1 : Int32) (z0 : Int32) (F : PF) (G : PG) (hm : mb_statement_286 fu rc x1 z0 F G = some res) {H : Heap} {locs : List Loc} (hw : mMW s A v a F G H locs) {ls : Array Slot} (hl : lv_has ls 3 [(0, .ref (a 212)), (1, .int x1)]) : W p l e R s m args below meth c H locs 0 0 Q (F0 m 286 ls [.int z0]) := by
  have hx := C.1
  have hb := C.2.1
  unfold mb_statement_286 at hm
  refine lv_if_ne (tgt := 291) hx hb dX12_statement_286 (by decide) (fun c_1 => ?_) (fun c_1 => ?_)
  · have hm := (if_neg c_1).symm.trans hm
    exact mw_statement_291 fu rc hr C hret x1 F G hm hw (lv_sub hl [0, 1] rfl)
  · have hm := (if_pos c_1).symm.trans hm
    exact mw_statement_289 fu rc hr C hret F G hm hw (lv_sub hl [] rfl)
theorem mw_statement_280 (fu : Nat) (rc : RC) {dd : Nat} (hr : mH2 l v a rc dd) {res : Int32 × PF × PG} (C : mMC p R s m args c A v RX12 cX12_statement 3 (dd + 1 + 307) (60 * (dd + 1) + 18156)) (hret : ∀ (H1 : Heap) (locs1 : List Loc) (ls1 : Array Slot) (pc : Nat), mMW s A v a res.2.1 res.2.2 H1 locs1 → narrow .boolean (.int res.1) = .int res.1 → decode cX12_statement pc = .ok (.ireturn, 1) → W p l e R s m args below meth c H1 locs1 0 0 Q (F0 m pc ls1 [.int res.1])) (x1 : Int32) (F : PF) (G : PG) (hm : mb_statement_280 fu rc x1 F G = some res) {H : Heap} {locs : List Loc} (hw : mMW s A v a F G H locs) {ls : Array Slot} (hl : lv_has ls 3 [(0, .ref (a 212)), (1, .int x1)]) : W p l e R s m args below meth c H locs 0 0 Q (F0 m 280 ls []) := by
  have hx := C.1
  have hb := C.2.1
  unfold mb_statement_280 at hm
  refine lv_aload_n hx hb dX12_statement_280 rfl (lv_at hl 0 rfl) ?_
  refine lv_bipush (v := 23) hx hb dX12_statement_281 (by decide) ?_
  obtain ⟨⟨r1, F1, G1⟩, hc, hm⟩ := bind_elim hm
  refine mcallI (n := 1) (As := [.int 23]) (rest := []) C hw (mk_closeSign l v a _ fu 23 F G r1 F1 G1 hc) (mrecv_X12 C hw) mm_248 mm_249 mm_250 mm_27 mm_251 (by decide +kernel) rfl (by omega) (by omega) hl.1 rfl (Nat.le_of_ble_eq_true rfl) dX12_statement_283 (fun H locs hw => ?_)
  exact mw_statement_286 fu rc hr C hret x1 r1 F1 G1 hm hw (lv_sub hl [0, 1] rfl)
theorem mw_statement_277 (fu : Nat) (rc : RC) {dd : Nat} (hr : mH2 l v a rc dd) {res : Int32 × PF × PG} (C : mMC p R s m args c A v RX12 cX12_statement 3 (dd + 1 + 307) (60 * (dd + 1) + 18156)) (hret : ∀ (H1 : Heap) (locs1 : List Loc) (ls1 : Array Slot) (pc : Nat), mMW s A v a res.2.1 res.2.2 H1 locs1 → narrow .boolean (.int res.1) = .int res.1 → decode cX12_statement pc = .ok (.ireturn, 1) → W p l e R s m args below meth c H1 locs1 0 0 Q (F0 m pc ls1 [.int res.1])) (x1 : Int32) (z0 : Int32) (F : PF) (G : PG) (hm : mb_statement_277 fu rc x1 z0 F G = some res) {H : Heap} {locs : List Loc} (hw : mMW s A v a F G H locs) {ls : Array Slot} (hl : lv_has ls 3 [(0, .ref (a 212)), (1, .int x1)]) : W p l e R s m args below meth c H locs 0 0 Q (F0 m 277 ls [.int z0]) := by
  have hx := C.1
  have hb := C.2.1
  unfold mb_statement_277 at hm
  refine lv_if_eq (tgt := 289) hx hb dX12_statement_277 (by decide) (fun c_1 => ?_) (fun c_1 => ?_)
  · have hm := (if_pos c_1).symm.trans hm
    exact mw_statement_289 fu rc hr C hret F G hm hw (lv_sub hl [] rfl)
  · have hm := (if_neg c_1).symm.trans hm
    exact mw_statement_280 fu rc hr C hret x1 F G hm hw (lv_sub hl [0, 1] rfl)
theorem mw_statement_273 (fu : Nat) (rc : RC) {dd : Nat} (hr : mH2 l v a rc dd) {res : Int32 × PF × PG} (C : mMC p R s m args c A v RX12 cX12_statement 3 (dd + 1 + 307) (60 * (dd + 1) + 18156)) (hret : ∀ (H1 : Heap) (locs1 : List Loc) (ls1 : Array Slot) (pc : Nat), mMW s A v a res.2.1 res.2.2 H1 locs1 → narrow .boolean (.int res.1) = .int res.1 → decode cX12_statement pc = .ok (.ireturn, 1) → W p l e R s m args below meth c H1 locs1 0 0 Q (F0 m pc ls1 [.int res.1])) (x1 : Int32) (F : PF) (G : PG) (hm : mb_statement_273 fu rc x1 F G = some res) {H : Heap} {locs : List Loc} (hw : mMW s A v a F G H locs) {ls : Array Slot} (hl : lv_has ls 3 [(0, .ref (a 212)), (1, .int x1)]) : W p l e R s m args below meth c H locs 0 0 Q (F0 m 273 ls []) := by
  have hx := C.1
  have hb := C.2.1
  unfold mb_statement_273 at hm
  refine lv_aload_n hx hb dX12_statement_273 rfl (lv_at hl 0 rfl) ?_
  obtain ⟨⟨r1, F1, G1⟩, hc, hm⟩ := bind_elim hm
  refine mcallI (n := 0) (As := []) (rest := []) C hw (mk_expression l v a _ fu F G r1 F1 G1 hc) (mrecv_X12 C hw) mm_191 mm_192 mm_193 mm_27 mm_194 (by decide +kernel) rfl (by omega) (by omega) hl.1 rfl (Nat.le_of_ble_eq_true rfl) dX12_statement_274 (fun H locs hw => ?_)
  exact mw_statement_277 fu rc hr C hret x1 r1 F1 G1 hm hw (lv_sub hl [0, 1] rfl)
theorem mw_statement_270 (fu : Nat) (rc : RC) {dd : Nat} (hr : mH2 l v a rc dd) {res : Int32 × PF × PG} (C : mMC p R s m args c A v RX12 cX12_statement 3 (dd + 1 + 307) (60 * (dd + 1) + 18156)) (hret : ∀ (H1 : Heap) (locs1 : List Loc) (ls1 : Array Slot) (pc : Nat), mMW s A v a res.2.1 res.2.2 H1 locs1 → narrow .boolean (.int res.1) = .int res.1 → decode cX12_statement pc = .ok (.ireturn, 1) → W p l e R s m args below meth c H1 locs1 0 0 Q (F0 m pc ls1 [.int res.1])) (x1 : Int32) (z0 : Int32) (F : PF) (G : PG) (hm : mb_statement_270 fu rc x1 z0 F G = some res) {H : Heap} {locs : List Loc} (hw : mMW s A v a F G H locs) {ls : Array Slot} (hl : lv_has ls 3 [(0, .ref (a 212)), (1, .int x1)]) : W p l e R s m args below meth c H locs 0 0 Q (F0 m 270 ls [.int z0]) := by
  have hx := C.1
  have hb := C.2.1
  unfold mb_statement_270 at hm
  refine lv_if_eq (tgt := 289) hx hb dX12_statement_270 (by decide) (fun c_1 => ?_) (fun c_1 => ?_)
  · have hm := (if_pos c_1).symm.trans hm
    exact mw_statement_289 fu rc hr C hret F G hm hw (lv_sub hl [] rfl)
  · have hm := (if_neg c_1).symm.trans hm
    exact mw_statement_273 fu rc hr C hret x1 F G hm hw (lv_sub hl [0, 1] rfl)
theorem mw_statement_264 (fu : Nat) (rc : RC) {dd : Nat} (hr : mH2 l v a rc dd) {res : Int32 × PF × PG} (C : mMC p R s m args c A v RX12 cX12_statement 3 (dd + 1 + 307) (60 * (dd + 1) + 18156)) (hret : ∀ (H1 : Heap) (locs1 : List Loc) (ls1 : Array Slot) (pc : Nat), mMW s A v a res.2.1 res.2.2 H1 locs1 → narrow .boolean (.int res.1) = .int res.1 → decode cX12_statement pc = .ok (.ireturn, 1) → W p l e R s m args below meth c H1 locs1 0 0 Q (F0 m pc ls1 [.int res.1])) (x1 : Int32) (F : PF) (G : PG) (hm : mb_statement_264 fu rc x1 F G = some res) {H : Heap} {locs : List Loc} (hw : mMW s A v a F G H locs) {ls : Array Slot} (hl : lv_has ls 3 [(0, .ref (a 212)), (1, .int x1)]) : W p l e R s m args below meth c H locs 0 0 Q (F0 m 264 ls []) := by
  have hx := C.1
  have hb := C.2.1
  unfold mb_statement_264 at hm
  refine lv_aload_n hx hb dX12_statement_264 rfl (lv_at hl 0 rfl) ?_
  refine lv_bipush (v := 22) hx hb dX12_statement_265 (by decide) ?_
  obtain ⟨⟨r1, F1, G1⟩, hc, hm⟩ := bind_elim hm
  refine mcallI (n := 1) (As := [.int 22]) (rest := []) C hw (mk_openSign l v a _ fu 22 F G r1 F1 G1 hc) (mrecv_X12 C hw) mm_241 mm_242 mm_243 mm_27 mm_244 (by decide +kernel) rfl (by omega) (by omega) hl.1 rfl (Nat.le_of_ble_eq_true rfl) dX12_statement_267 (fun H locs hw => ?_)
  exact mw_statement_270 fu rc hr C hret x1 r1 F1 G1 hm hw (lv_sub hl [0, 1] rfl)
theorem mw_statement_253 (fu : Nat) (rc : RC) {dd : Nat} (hr : mH2 l v a rc dd) {res : Int32 × PF × PG} (C : mMC p R s m args c A v RX12 cX12_statement 3 (dd + 1 + 307) (60 * (dd + 1) + 18156)) (hret : ∀ (H1 : Heap) (locs1 : List Loc) (ls1 : Array Slot) (pc : Nat), mMW s A v a res.2.1 res.2.2 H1 locs1 → narrow .boolean (.int res.1) = .int res.1 → decode cX12_statement pc = .ok (.ireturn, 1) → W p l e R s m args below meth c H1 locs1 0 0 Q (F0 m pc ls1 [.int res.1])) (z0 : Int32) (F : PF) (G : PG) (hm : mb_statement_253 fu rc z0 F G = some res) {H : Heap} {locs : List Loc} (hw : mMW s A v a F G H locs) {ls : Array Slot} (hl : lv_has ls 3 [(0, .ref (a 212))]) : W p l e R s m args below meth c H locs 0 0 Q (F0 m 253 ls [.int z0]) := by
  have hx := C.1
  have hb := C.2.1
  unfold mb_statement_253 at hm
  refine lv_istore_n (lv' := [(1, .int z0), (0, .ref (a 212))]) hx hb dX12_statement_253 rfl hl (by decide) rfl (fun ls hl => ?_)
  refine lv_aload_n hx hb dX12_statement_254 rfl (lv_at hl 1 rfl) ?_
  refine lv_dup hx hb dX12_statement_255 rfl ?_
  refine mg_X12_233 C hw dX12_statement_256 ?_
  refine lv_iconst (v := 1) hx hb dX12_statement_259 (by decide) ?_
  refine lv_iadd hx hb dX12_statement_260 ?_
  refine mp_X12_233 C hw dX12_statement_261 (fun H locs hw => ?_)
  exact mw_statement_264 fu rc hr C hret z0 (fup F 42 ((F 42) + (1 : Int32))) G hm hw (lv_sub hl [1, 0] rfl)
theorem mw_statement_251 (fu : Nat) (rc : RC) {dd : Nat} (hr : mH2 l v a rc dd) {res : Int32 × PF × PG} (C : mMC p R s m args c A v RX12 cX12_statement 3 (dd + 1 + 307) (60 * (dd + 1) + 18156)) (hret : ∀ (H1 : Heap) (locs1 : List Loc) (ls1 : Array Slot) (pc : Nat), mMW s A v a res.2.1 res.2.2 H1 locs1 → narrow .boolean (.int res.1) = .int res.1 → decode cX12_statement pc = .ok (.ireturn, 1) → W p l e R s m args below meth c H1 locs1 0 0 Q (F0 m pc ls1 [.int res.1])) (F : PF) (G : PG) (hm : mb_statement_251 fu rc F G = some res) {H : Heap} {locs : List Loc} (hw : mMW s A v a F G H locs) {ls : Array Slot} (hl : lv_has ls 3 [(0, .ref (a 212))]) : W p l e R s m args below meth c H locs 0 0 Q (F0 m 251 ls []) := by
  have hx := C.1
  have hb := C.2.1
  unfold mb_statement_251 at hm
  refine lv_bipush (v := 20) hx hb dX12_statement_251 (by decide) ?_
  exact mw_statement_253 fu rc hr C hret 20 F G hm hw (lv_sub hl [0] rfl)
theorem mw_statement_246 (fu : Nat) (rc : RC) {dd : Nat} (hr : mH2 l v a rc dd) {res : Int32 × PF × PG} (C : mMC p R s m args c A v RX12 cX12_statement 3 (dd + 1 + 307) (60 * (dd + 1) + 18156)) (hret : ∀ (H1 : Heap) (locs1 : List Loc) (ls1 : Array Slot) (pc : Nat), mMW s A v a res.2.1 res.2.2 H1 locs1 → narrow .boolean (.int res.1) = .int res.1 → decode cX12_statement pc = .ok (.ireturn, 1) → W p l e R s m args below meth c H1 locs1 0 0 Q (F0 m pc ls1 [.int res.1])) (F : PF) (G : PG) (hm : mb_statement_246 fu rc F G = some res) {H : Heap} {locs : List Loc} (hw : mMW s A v a F G H locs) {ls : Array Slot} (hl : lv_has ls 3 [(0, .ref (a 212))]) : W p l e R s m args below meth c H locs 0 0 Q (F0 m 246 ls []) := by
  have hx := C.1
  have hb := C.2.1
  unfold mb_statement_246 at hm
  refine lv_bipush (v := 19) hx hb dX12_statement_246 (by decide) ?_
  refine lv_goto (tgt := 253) hx hb dX12_statement_248 (by decide) ?_
  exact mw_statement_253 fu rc hr C hret 19 F G hm hw (lv_sub hl [0] rfl)
theorem mw_statement_243 (fu : Nat) (rc : RC) {dd : Nat} (hr : mH2 l v a rc dd) {res : Int32 × PF × PG} (C : mMC p R s m args c A v RX12 cX12_statement 3 (dd + 1 + 307) (60 * (dd + 1) + 18156)) (hret : ∀ (H1 : Heap) (locs1 : List Loc) (ls1 : Array Slot) (pc : Nat), mMW s A v a res.2.1 res.2.2 H1 locs1 → narrow .boolean (.int res.1) = .int res.1 → decode cX12_statement pc = .ok (.ireturn, 1) → W p l e R s m args below meth c H1 locs1 0 0 Q (F0 m pc ls1 [.int res.1])) (z0 : Int32) (F : PF) (G : PG) (hm : mb_statement_243 fu rc z0 F G = some res) {H : Heap} {locs : List Loc} (hw : mMW s A v a F G H locs) {ls : Array Slot} (hl : lv_has ls 3 [(0, .ref (a 212))]) : W p l e R s m args below meth c H locs 0 0 Q (F0 m 243 ls [.int z0]) := by
  have hx := C.1
  have hb := C.2.1
  unfold mb_statement_243 at hm
  refine lv_if_eq (tgt := 251) hx hb dX12_statement_243 (by decide) (fun c_1 => ?_) (fun c_1 => ?_)
  · have hm := (if_pos c_1).symm.trans hm
    exact mw_statement_251 fu rc hr C hret F G hm hw (lv_sub hl [0] rfl)
  · have hm := (if_neg c_1).symm.trans hm
    exact mw_statement_246 fu rc hr C hret F G hm hw (lv_sub hl [0] rfl)
theorem mw_statement_237 (fu : Nat) (rc : RC) {dd : Nat} (hr : mH2 l v a rc dd) {res : Int32 × PF × PG} (C : mMC p R s m args c A v RX12 cX12_statement 3 (dd + 1 + 307) (60 * (dd + 1) + 18156)) (hret : ∀ (H1 : Heap) (locs1 : List Loc) (ls1 : Array Slot) (pc : Nat), mMW s A v a res.2.1 res.2.2 H1 locs1 → narrow .boolean (.int res.1) = .int res.1 → decode cX12_statement pc = .ok (.ireturn, 1) → W p l e R s m args below meth c H1 locs1 0 0 Q (F0 m pc ls1 [.int res.1])) (F : PF) (G : PG) (hm : mb_statement_237 fu rc F G = some res) {H : Heap} {locs : List Loc} (hw : mMW s A v a F G H locs) {ls : Array Slot} (hl : lv_has ls 3 [(0, .ref (a 212))]) : W p l e R s m args below meth c H locs 0 0 Q (F0 m 237 ls []) := by
  have hx := C.1
  have hb := C.2.1
  unfold mb_statement_237 at hm
  refine lv_aload_n hx hb dX12_statement_237 rfl (lv_at hl 0 rfl) ?_
  refine lv_bipush (v := 12) hx hb dX12_statement_238 (by decide) ?_
  obtain ⟨⟨r1, F1, G1⟩, hc, hm⟩ := bind_elim hm
  refine mcallI (n := 1) (As := [.int 12]) (rest := []) C hw (mk_isWord l v a _ fu 12 F G r1 F1 G1 hc) (mrecv_X12 C hw) mm_162 mm_163 mm_164 mm_27 mm_165 (by decide +kernel) rfl (by omega) (by omega) hl.1 rfl (Nat.le_of_ble_eq_true rfl) dX12_statement_240 (fun H locs hw => ?_)
  exact mw_statement_243 fu rc hr C hret r1 F1 G1 hm hw (lv_sub hl [0] rfl)
theorem mw_statement_311 (fu : Nat) (rc : RC) {dd : Nat} (hr : mH2 l v a rc dd) {res : Int32 × PF × PG} (C : mMC p R s m args c A v RX12 cX12_statement 3 (dd + 1 + 307) (60 * (dd + 1) + 18156)) (hret : ∀ (H1 : Heap) (locs1 : List Loc) (ls1 : Array Slot) (pc : Nat), mMW s A v a res.2.1 res.2.2 H1 locs1 → narrow .boolean (.int res.1) = .int res.1 → decode cX12_statement pc = .ok (.ireturn, 1) → W p l e R s m args below meth c H1 locs1 0 0 Q (F0 m pc ls1 [.int res.1])) (z0 : Int32) (F : PF) (G : PG) (hm : mb_statement_311 fu rc z0 F G = some res) {H : Heap} {locs : List Loc} (hw : mMW s A v a F G H locs) {ls : Array Slot} (hl : lv_has ls 3 []) : W p l e R s m args below meth c H locs 0 0 Q (F0 m 311 ls [.int z0]) := by
  have hx := C.1
  have hb := C.2.1
  unfold mb_statement_311 at hm
  obtain ⟨hz, hm⟩ := b01_elim hm
  obtain rfl := Option.some.inj hm
  exact hret _ _ _ _ hw (b01_nar hz) dX12_statement_311
theorem mw_statement_306 (fu : Nat) (rc : RC) {dd : Nat} (hr : mH2 l v a rc dd) {res : Int32 × PF × PG} (C : mMC p R s m args c A v RX12 cX12_statement 3 (dd + 1 + 307) (60 * (dd + 1) + 18156)) (hret : ∀ (H1 : Heap) (locs1 : List Loc) (ls1 : Array Slot) (pc : Nat), mMW s A v a res.2.1 res.2.2 H1 locs1 → narrow .boolean (.int res.1) = .int res.1 → decode cX12_statement pc = .ok (.ireturn, 1) → W p l e R s m args below meth c H1 locs1 0 0 Q (F0 m pc ls1 [.int res.1])) (F : PF) (G : PG) (hm : mb_statement_306 fu rc F G = some res) {H : Heap} {locs : List Loc} (hw : mMW s A v a F G H locs) {ls : Array Slot} (hl : lv_has ls 3 [(0, .ref (a 212))]) : W p l e R s m args below meth c H locs 0 0 Q (F0 m 306 ls []) := by
  have hx := C.1
  have hb := C.2.1
  unfold mb_statement_306 at hm
  refine lv_aload_n hx hb dX12_statement_306 rfl (lv_at hl 0 rfl) ?_
  refine lv_iconst (v := 2) hx hb dX12_statement_307 (by decide) ?_
  obtain ⟨⟨r1, F1, G1⟩, hc, hm⟩ := bind_elim hm
  refine mcallI (n := 1) (As := [.int 2]) (rest := []) C hw (mk_fails l v a _ fu 2 F G r1 F1 G1 hc) (mrecv_X12 C hw) mm_166 mm_167 mm_168 mm_27 mm_169 (by decide +kernel) rfl (by omega) (by omega) hl.1 rfl (Nat.le_of_ble_eq_true rfl) dX12_statement_308 (fun H locs hw => ?_)
  exact mw_statement_311 fu rc hr C hret r1 F1 G1 hm hw (lv_sub hl [] rfl)
theorem mw_statement_100 (fu : Nat) (rc : RC) {dd : Nat} (hr : mH2 l v a rc dd) {res : Int32 × PF × PG} (C : mMC p R s m args c A v RX12 cX12_statement 3 (dd + 1 + 307) (60 * (dd + 1) + 18156)) (hret : ∀ (H1 : Heap) (locs1 : List Loc) (ls1 : Array Slot) (pc : Nat), mMW s A v a res.2.1 res.2.2 H1 locs1 → narrow .boolean (.int res.1) = .int res.1 → decode cX12_statement pc = .ok (.ireturn, 1) → W p l e R s m args below meth c H1 locs1 0 0 Q (F0 m pc ls1 [.int res.1])) (F : PF) (G : PG) (hm : mb_statement_100 fu rc F G = some res) {H : Heap} {locs : List Loc} (hw : mMW s A v a F G H locs) {ls : Array Slot} (hl : lv_has ls 3 [(0, .ref (a 212))]) : W p l e R s m args below meth c H locs 0 0 Q (F0 m 100 ls []) := by
  have hx := C.1
  have hb := C.2.1
  unfold mb_statement_100 at hm
  refine lv_aload_n hx hb dX12_statement_100 rfl (lv_at hl 0 rfl) ?_
  refine mg_X12_19 C hw dX12_statement_101 ?_
  refine lv_aload_n hx hb dX12_statement_104 rfl (lv_at hl 0 rfl) ?_
  refine mg_X12_233 C hw dX12_statement_105 ?_
  obtain ⟨hi, hm⟩ := ix_elim hm
  refine mal_5 C hw hi dX12_statement_108 ?_
  by_cases c_0 : (G 5 (F 42).toNatClampNeg).toInt < 0 ∨ 14 < (G 5 (F 42).toNatClampNeg).toInt
  · have hm := (if_pos c_0).symm.trans hm
    refine lv_tableOut (tgt := 306) hx hb dX12_statement_109 c_0 (by decide) ?_
    exact mw_statement_306 fu rc hr C hret F G hm hw (lv_sub hl [0] rfl)
  have hm := (if_neg c_0).symm.trans hm
  by_cases c_1 : (G 5 (F 42).toNatClampNeg) = 0
  · have hm := (if_pos c_1).symm.trans hm
    refine my_top 0 c_1 ?_
    refine lv_tableIn (off := 75) (tgt := 184) hx hb dX12_statement_109 (by decide) (by decide) (by decide) (by decide) ?_
    exact mw_statement_184 fu rc hr C hret F G hm hw (lv_sub hl [0] rfl)
  have hm := (if_neg c_1).symm.trans hm
  have n_0 := c_1
  clear c_1
  by_cases c_1 : (G 5 (F 42).toNatClampNeg) = 1
  · have hm := (if_pos c_1).symm.trans hm
    refine my_top 1 c_1 ?_
    refine lv_tableIn (off := 75) (tgt := 184) hx hb dX12_statement_109 (by decide) (by decide) (by decide) (by decide) ?_
    exact mw_statement_184 fu rc hr C hret F G hm hw (lv_sub hl [0] rfl)
  have hm := (if_neg c_1).symm.trans hm
  have n_1 := c_1
  clear c_1
  by_cases c_1 : (G 5 (F 42).toNatClampNeg) = 2
  · have hm := (if_pos c_1).symm.trans hm
    refine my_top 2 c_1 ?_
    refine lv_tableIn (off := 197) (tgt := 306) hx hb dX12_statement_109 (by decide) (by decide) (by decide) (by decide) ?_
    exact mw_statement_306 fu rc hr C hret F G hm hw (lv_sub hl [0] rfl)
  have hm := (if_neg c_1).symm.trans hm
  have n_2 := c_1
  clear c_1
  by_cases c_1 : (G 5 (F 42).toNatClampNeg) = 3
  · have hm := (if_pos c_1).symm.trans hm
    refine my_top 3 c_1 ?_
    refine lv_tableIn (off := 197) (tgt := 306) hx hb dX12_statement_109 (by decide) (by decide) (by decide) (by decide) ?_
    exact mw_statement_306 fu rc hr C hret F G hm hw (lv_sub hl [0] rfl)
  have hm := (if_neg c_1).symm.trans hm
  have n_3 := c_1
  clear c_1
  by_cases c_1 : (G 5 (F 42).toNatClampNeg) = 4
  · have hm := (if_pos c_1).symm.trans hm
    refine my_top 4 c_1 ?_
    refine lv_tableIn (off := 98) (tgt := 207) hx hb dX12_statement_109 (by decide) (by decide) (by decide) (by decide) ?_
    exact mw_statement_207 fu rc hr C hret F G hm hw (lv_sub hl [0] rfl)
  have hm := (if_neg c_1).symm.trans hm
  have n_4 := c_1
  clear c_1
  by_cases c_1 : (G 5 (F 42).toNatClampNeg) = 5
  · have hm := (if_pos c_1).symm.trans hm
    refine my_top 5 c_1 ?_
    refine lv_tableIn (off := 197) (tgt := 306) hx hb dX12_statement_109 (by decide) (by decide) (by decide) (by decide) ?_
    exact mw_statement_306 fu rc hr C hret F G hm hw (lv_sub hl [0] rfl)
  have hm := (if_neg c_1).symm.trans hm
  have n_5 := c_1
  clear c_1
  by_cases c_1 : (G 5 (F 42).toNatClampNeg) = 6
  · have hm := (if_pos c_1).symm.trans hm
    refine my_top 6 c_1 ?_
    refine lv_tableIn (off := 103) (tgt := 212) hx hb dX12_statement_109 (by decide) (by decide) (by decide) (by decide) ?_
    exact mw_statement_212 fu rc hr C hret F G hm hw (lv_sub hl [0] rfl)
  have hm := (if_neg c_1).symm.trans hm
  have n_6 := c_1
  clear c_1
  by_cases c_1 : (G 5 (F 42).toNatClampNeg) = 7
  · have hm := (if_pos c_1).symm.trans hm
    refine my_top 7 c_1 ?_
    refine lv_tableIn (off := 108) (tgt := 217) hx hb dX12_statement_109 (by decide) (by decide) (by decide) (by decide) ?_
    exact mw_statement_217 fu rc hr C hret F G hm hw (lv_sub hl [0] rfl)
  have hm := (if_neg c_1).symm.trans hm
  have n_7 := c_1
  clear c_1
  by_cases c_1 : (G 5 (F 42).toNatClampNeg) = 8
  · have hm := (if_pos c_1).symm.trans hm
    refine my_top 8 c_1 ?_
    refine lv_tableIn (off := 113) (tgt := 222) hx hb dX12_statement_109 (by decide) (by decide) (by decide) (by decide) ?_
    exact mw_statement_222 fu rc hr C hret F G hm hw (lv_sub hl [0] rfl)
  have hm := (if_neg c_1).symm.trans hm
  have n_8 := c_1
  clear c_1
  by_cases c_1 : (G 5 (F 42).toNatClampNeg) = 9
  · have hm := (if_pos c_1).symm.trans hm
    refine my_top 9 c_1 ?_
    refine lv_tableIn (off := 118) (tgt := 227) hx hb dX12_statement_109 (by decide) (by decide) (by decide) (by decide) ?_
    exact mw_statement_227 fu rc hr C hret F G hm hw (lv_sub hl [0] rfl)
  have hm := (if_neg c_1).symm.trans hm
  have n_9 := c_1
  clear c_1
  by_cases c_1 : (G 5 (F 42).toNatClampNeg) = 10
  · have hm := (if_pos c_1).symm.trans hm
    refine my_top 10 c_1 ?_
    refine lv_tableIn (off := 118) (tgt := 227) hx hb dX12_statement_109 (by decide) (by decide) (by decide) (by decide) ?_
    exact mw_statement_227 fu rc hr C hret F G hm hw (lv_sub hl [0] rfl)
  have hm := (if_neg c_1).symm.trans hm
  have n_10 := c_1
  clear c_1
  by_cases c_1 : (G 5 (F 42).toNatClampNeg) = 11
  · have hm := (if_pos c_1).symm.trans hm
    refine my_top 11 c_1 ?_
    refine lv_tableIn (off := 123) (tgt := 232) hx hb dX12_statement_109 (by decide) (by decide) (by decide) (by decide) ?_
    exact mw_statement_232 fu rc hr C hret F G hm hw (lv_sub hl [0] rfl)
  have hm := (if_neg c_1).symm.trans hm
  have n_11 := c_1
  clear c_1
  by_cases c_1 : (G 5 (F 42).toNatClampNeg) = 12
  · have hm := (if_pos c_1).symm.trans hm
    refine my_top 12 c_1 ?_
    refine lv_tableIn (off := 128) (tgt := 237) hx hb dX12_statement_109 (by decide) (by decide) (by decide) (by decide) ?_
    exact mw_statement_237 fu rc hr C hret F G hm hw (lv_sub hl [0] rfl)
  have hm := (if_neg c_1).symm.trans hm
  have n_12 := c_1
  clear c_1
  by_cases c_1 : (G 5 (F 42).toNatClampNeg) = 13
  · have hm := (if_pos c_1).symm.trans hm
    refine my_top 13 c_1 ?_
    refine lv_tableIn (off := 197) (tgt := 306) hx hb dX12_statement_109 (by decide) (by decide) (by decide) (by decide) ?_
    exact mw_statement_306 fu rc hr C hret F G hm hw (lv_sub hl [0] rfl)
  have hm := (if_neg c_1).symm.trans hm
  have n_13 := c_1
  clear c_1
  have c_1 : (G 5 (F 42).toNatClampNeg) = 14 := my_last (l := 0) (k := 14) c_0 (by decide) (fun j hj => match j, hj with | 0, _ => fun h9 => n_0 (Int32.toInt_inj.mp (h9.trans (by decide))) | 1, _ => fun h9 => n_1 (Int32.toInt_inj.mp (h9.trans (by decide))) | 2, _ => fun h9 => n_2 (Int32.toInt_inj.mp (h9.trans (by decide))) | 3, _ => fun h9 => n_3 (Int32.toInt_inj.mp (h9.trans (by decide))) | 4, _ => fun h9 => n_4 (Int32.toInt_inj.mp (h9.trans (by decide))) | 5, _ => fun h9 => n_5 (Int32.toInt_inj.mp (h9.trans (by decide))) | 6, _ => fun h9 => n_6 (Int32.toInt_inj.mp (h9.trans (by decide))) | 7, _ => fun h9 => n_7 (Int32.toInt_inj.mp (h9.trans (by decide))) | 8, _ => fun h9 => n_8 (Int32.toInt_inj.mp (h9.trans (by decide))) | 9, _ => fun h9 => n_9 (Int32.toInt_inj.mp (h9.trans (by decide))) | 10, _ => fun h9 => n_10 (Int32.toInt_inj.mp (h9.trans (by decide))) | 11, _ => fun h9 => n_11 (Int32.toInt_inj.mp (h9.trans (by decide))) | 12, _ => fun h9 => n_12 (Int32.toInt_inj.mp (h9.trans (by decide))) | 13, _ => fun h9 => n_13 (Int32.toInt_inj.mp (h9.trans (by decide))) | q + 14, h => absurd h (by omega)) (by decide)
  refine my_top 14 c_1 ?_
  refine lv_tableIn (off := 128) (tgt := 237) hx hb dX12_statement_109 (by decide) (by decide) (by decide) (by decide) ?_
  exact mw_statement_237 fu rc hr C hret F G hm hw (lv_sub hl [0] rfl)
theorem mw_statement_99 (fu : Nat) (rc : RC) {dd : Nat} (hr : mH2 l v a rc dd) {res : Int32 × PF × PG} (C : mMC p R s m args c A v RX12 cX12_statement 3 (dd + 1 + 307) (60 * (dd + 1) + 18156)) (hret : ∀ (H1 : Heap) (locs1 : List Loc) (ls1 : Array Slot) (pc : Nat), mMW s A v a res.2.1 res.2.2 H1 locs1 → narrow .boolean (.int res.1) = .int res.1 → decode cX12_statement pc = .ok (.ireturn, 1) → W p l e R s m args below meth c H1 locs1 0 0 Q (F0 m pc ls1 [.int res.1])) (z0 : Int32) (F : PF) (G : PG) (hm : mb_statement_99 fu rc z0 F G = some res) {H : Heap} {locs : List Loc} (hw : mMW s A v a F G H locs) {ls : Array Slot} (hl : lv_has ls 3 []) : W p l e R s m args below meth c H locs 0 0 Q (F0 m 99 ls [.int z0]) := by
  have hx := C.1
  have hb := C.2.1
  unfold mb_statement_99 at hm
  obtain ⟨hz, hm⟩ := b01_elim hm
  obtain rfl := Option.some.inj hm
  exact hret _ _ _ _ hw (b01_nar hz) dX12_statement_99
theorem mw_statement_94 (fu : Nat) (rc : RC) {dd : Nat} (hr : mH2 l v a rc dd) {res : Int32 × PF × PG} (C : mMC p R s m args c A v RX12 cX12_statement 3 (dd + 1 + 307) (60 * (dd + 1) + 18156)) (hret : ∀ (H1 : Heap) (locs1 : List Loc) (ls1 : Array Slot) (pc : Nat), mMW s A v a res.2.1 res.2.2 H1 locs1 → narrow .boolean (.int res.1) = .int res.1 → decode cX12_statement pc = .ok (.ireturn, 1) → W p l e R s m args below meth c H1 locs1 0 0 Q (F0 m pc ls1 [.int res.1])) (F : PF) (G : PG) (hm : mb_statement_94 fu rc F G = some res) {H : Heap} {locs : List Loc} (hw : mMW s A v a F G H locs) {ls : Array Slot} (hl : lv_has ls 3 [(0, .ref (a 212))]) : W p l e R s m args below meth c H locs 0 0 Q (F0 m 94 ls []) := by
  have hx := C.1
  have hb := C.2.1
  unfold mb_statement_94 at hm
  refine lv_aload_n hx hb dX12_statement_94 rfl (lv_at hl 0 rfl) ?_
  refine lv_iconst (v := 2) hx hb dX12_statement_95 (by decide) ?_
  obtain ⟨⟨r1, F1, G1⟩, hc, hm⟩ := bind_elim hm
  refine mcallI (n := 1) (As := [.int 2]) (rest := []) C hw (mk_fails l v a _ fu 2 F G r1 F1 G1 hc) (mrecv_X12 C hw) mm_166 mm_167 mm_168 mm_27 mm_169 (by decide +kernel) rfl (by omega) (by omega) hl.1 rfl (Nat.le_of_ble_eq_true rfl) dX12_statement_96 (fun H locs hw => ?_)
  exact mw_statement_99 fu rc hr C hret r1 F1 G1 hm hw (lv_sub hl [] rfl)
theorem mw_statement_81 (fu : Nat) (rc : RC) {dd : Nat} (hr : mH2 l v a rc dd) {res : Int32 × PF × PG} (C : mMC p R s m args c A v RX12 cX12_statement 3 (dd + 1 + 307) (60 * (dd + 1) + 18156)) (hret : ∀ (H1 : Heap) (locs1 : List Loc) (ls1 : Array Slot) (pc : Nat), mMW s A v a res.2.1 res.2.2 H1 locs1 → narrow .boolean (.int res.1) = .int res.1 → decode cX12_statement pc = .ok (.ireturn, 1) → W p l e R s m args below meth c H1 locs1 0 0 Q (F0 m pc ls1 [.int res.1])) (F : PF) (G : PG) (hm : mb_statement_81 fu rc F G = some res) {H : Heap} {locs : List Loc} (hw : mMW s A v a F G H locs) {ls : Array Slot} (hl : lv_has ls 3 [(0, .ref (a 212))]) : W p l e R s m args below meth c H locs 0 0 Q (F0 m 81 ls []) := by
  have hx := C.1
  have hb := C.2.1
  unfold mb_statement_81 at hm
  refine lv_aload_n hx hb dX12_statement_81 rfl (lv_at hl 0 rfl) ?_
  refine mg_X12_16 C hw dX12_statement_82 ?_
  refine lv_aload_n hx hb dX12_statement_85 rfl (lv_at hl 0 rfl) ?_
  refine mg_X12_233 C hw dX12_statement_86 ?_
  obtain ⟨hi, hm⟩ := ix_elim hm
  refine mal_4 C hw hi dX12_statement_89 ?_
  refine lv_iconst (v := 2) hx hb dX12_statement_90 (by decide) ?_
  refine lv_icmp_eq (tgt := 100) hx hb dX12_statement_91 (by decide) (fun c_1 => ?_) (fun c_1 => ?_)
  · have hm := (if_pos c_1).symm.trans hm
    exact mw_statement_100 fu rc hr C hret F G hm hw (lv_sub hl [0] rfl)
  · have hm := (if_neg c_1).symm.trans hm
    exact mw_statement_94 fu rc hr C hret F G hm hw (lv_sub hl [0] rfl)
theorem mw_statement_80 (fu : Nat) (rc : RC) {dd : Nat} (hr : mH2 l v a rc dd) {res : Int32 × PF × PG} (C : mMC p R s m args c A v RX12 cX12_statement 3 (dd + 1 + 307) (60 * (dd + 1) + 18156)) (hret : ∀ (H1 : Heap) (locs1 : List Loc) (ls1 : Array Slot) (pc : Nat), mMW s A v a res.2.1 res.2.2 H1 locs1 → narrow .boolean (.int res.1) = .int res.1 → decode cX12_statement pc = .ok (.ireturn, 1) → W p l e R s m args below meth c H1 locs1 0 0 Q (F0 m pc ls1 [.int res.1])) (z0 : Int32) (F : PF) (G : PG) (hm : mb_statement_80 fu rc z0 F G = some res) {H : Heap} {locs : List Loc} (hw : mMW s A v a F G H locs) {ls : Array Slot} (hl : lv_has ls 3 []) : W p l e R s m args below meth c H locs 0 0 Q (F0 m 80 ls [.int z0]) := by
  have hx := C.1
  have hb := C.2.1
  unfold mb_statement_80 at hm
  obtain ⟨hz, hm⟩ := b01_elim hm
  obtain rfl := Option.some.inj hm
  exact hret _ _ _ _ hw (b01_nar hz) dX12_statement_80
theorem mw_statement_79 (fu : Nat) (rc : RC) {dd : Nat} (hr : mH2 l v a rc dd) {res : Int32 × PF × PG} (C : mMC p R s m args c A v RX12 cX12_statement 3 (dd + 1 + 307) (60 * (dd + 1) + 18156)) (hret : ∀ (H1 : Heap) (locs1 : List Loc) (ls1 : Array Slot) (pc : Nat), mMW s A v a res.2.1 res.2.2 H1 locs1 → narrow .boolean (.int res.1) = .int res.1 → decode cX12_statement pc = .ok (.ireturn, 1) → W p l e R s m args below meth c H1 locs1 0 0 Q (F0 m pc ls1 [.int res.1])) (F : PF) (G : PG) (hm : mb_statement_79 fu rc F G = some res) {H : Heap} {locs : List Loc} (hw : mMW s A v a F G H locs) {ls : Array Slot} (hl : lv_has ls 3 []) : W p l e R s m args below meth c H locs 0 0 Q (F0 m 79 ls []) := by
  have hx := C.1
  have hb := C.2.1
  unfold mb_statement_79 at hm
  refine lv_iconst (v := 0) hx hb dX12_statement_79 (by decide) ?_
  exact mw_statement_80 fu rc hr C hret 0 F G hm hw (lv_sub hl [] rfl)
theorem mw_statement_75 (fu : Nat) (rc : RC) {dd : Nat} (hr : mH2 l v a rc dd) {res : Int32 × PF × PG} (C : mMC p R s m args c A v RX12 cX12_statement 3 (dd + 1 + 307) (60 * (dd + 1) + 18156)) (hret : ∀ (H1 : Heap) (locs1 : List Loc) (ls1 : Array Slot) (pc : Nat), mMW s A v a res.2.1 res.2.2 H1 locs1 → narrow .boolean (.int res.1) = .int res.1 → decode cX12_statement pc = .ok (.ireturn, 1) → W p l e R s m args below meth c H1 locs1 0 0 Q (F0 m pc ls1 [.int res.1])) (F : PF) (G : PG) (hm : mb_statement_75 fu rc F G = some res) {H : Heap} {locs : List Loc} (hw : mMW s A v a F G H locs) {ls : Array Slot} (hl : lv_has ls 3 []) : W p l e R s m args below meth c H locs 0 0 Q (F0 m 75 ls []) := by
  have hx := C.1
  have hb := C.2.1
  unfold mb_statement_75 at hm
  refine lv_iconst (v := 1) hx hb dX12_statement_75 (by decide) ?_
  refine lv_goto (tgt := 80) hx hb dX12_statement_76 (by decide) ?_
  exact mw_statement_80 fu rc hr C hret 1 F G hm hw (lv_sub hl [] rfl)
theorem mw_statement_72 (fu : Nat) (rc : RC) {dd : Nat} (hr : mH2 l v a rc dd) {res : Int32 × PF × PG} (C : mMC p R s m args c A v RX12 cX12_statement 3 (dd + 1 + 307) (60 * (dd + 1) + 18156)) (hret : ∀ (H1 : Heap) (locs1 : List Loc) (ls1 : Array Slot) (pc : Nat), mMW s A v a res.2.1 res.2.2 H1 locs1 → narrow .boolean (.int res.1) = .int res.1 → decode cX12_statement pc = .ok (.ireturn, 1) → W p l e R s m args below meth c H1 locs1 0 0 Q (F0 m pc ls1 [.int res.1])) (z0 : Int32) (F : PF) (G : PG) (hm : mb_statement_72 fu rc z0 F G = some res) {H : Heap} {locs : List Loc} (hw : mMW s A v a F G H locs) {ls : Array Slot} (hl : lv_has ls 3 []) : W p l e R s m args below meth c H locs 0 0 Q (F0 m 72 ls [.int z0]) := by
  have hx := C.1
  have hb := C.2.1
  unfold mb_statement_72 at hm
  refine lv_if_eq (tgt := 79) hx hb dX12_statement_72 (by decide) (fun c_1 => ?_) (fun c_1 => ?_)
  · have hm := (if_pos c_1).symm.trans hm
    exact mw_statement_79 fu rc hr C hret F G hm hw (lv_sub hl [] rfl)
  · have hm := (if_neg c_1).symm.trans hm
    exact mw_statement_75 fu rc hr C hret F G hm hw (lv_sub hl [] rfl)
theorem mw_statement_66 (fu : Nat) (rc : RC) {dd : Nat} (hr : mH2 l v a rc dd) {res : Int32 × PF × PG} (C : mMC p R s m args c A v RX12 cX12_statement 3 (dd + 1 + 307) (60 * (dd + 1) + 18156)) (hret : ∀ (H1 : Heap) (locs1 : List Loc) (ls1 : Array Slot) (pc : Nat), mMW s A v a res.2.1 res.2.2 H1 locs1 → narrow .boolean (.int res.1) = .int res.1 → decode cX12_statement pc = .ok (.ireturn, 1) → W p l e R s m args below meth c H1 locs1 0 0 Q (F0 m pc ls1 [.int res.1])) (F : PF) (G : PG) (hm : mb_statement_66 fu rc F G = some res) {H : Heap} {locs : List Loc} (hw : mMW s A v a F G H locs) {ls : Array Slot} (hl : lv_has ls 3 [(0, .ref (a 212))]) : W p l e R s m args below meth c H locs 0 0 Q (F0 m 66 ls []) := by
  have hx := C.1
  have hb := C.2.1
  unfold mb_statement_66 at hm
  refine lv_aload_n hx hb dX12_statement_66 rfl (lv_at hl 0 rfl) ?_
  refine lv_bipush (v := 29) hx hb dX12_statement_67 (by decide) ?_
  obtain ⟨⟨r1, F1, G1⟩, hc, hm⟩ := bind_elim hm
  refine mcallI (n := 1) (As := [.int 29]) (rest := []) C hw (mk_sign l v a _ fu 29 F G r1 F1 G1 hc) (mrecv_X12 C hw) mm_179 mm_180 mm_181 mm_27 mm_182 (by decide +kernel) rfl (by omega) (by omega) hl.1 rfl (Nat.le_of_ble_eq_true rfl) dX12_statement_69 (fun H locs hw => ?_)
  exact mw_statement_72 fu rc hr C hret r1 F1 G1 hm hw (lv_sub hl [] rfl)
theorem mw_statement_63 (fu : Nat) (rc : RC) {dd : Nat} (hr : mH2 l v a rc dd) {res : Int32 × PF × PG} (C : mMC p R s m args c A v RX12 cX12_statement 3 (dd + 1 + 307) (60 * (dd + 1) + 18156)) (hret : ∀ (H1 : Heap) (locs1 : List Loc) (ls1 : Array Slot) (pc : Nat), mMW s A v a res.2.1 res.2.2 H1 locs1 → narrow .boolean (.int res.1) = .int res.1 → decode cX12_statement pc = .ok (.ireturn, 1) → W p l e R s m args below meth c H1 locs1 0 0 Q (F0 m pc ls1 [.int res.1])) (z0 : Int32) (F : PF) (G : PG) (hm : mb_statement_63 fu rc z0 F G = some res) {H : Heap} {locs : List Loc} (hw : mMW s A v a F G H locs) {ls : Array Slot} (hl : lv_has ls 3 [(0, .ref (a 212))]) : W p l e R s m args below meth c H locs 0 0 Q (F0 m 63 ls [.int z0]) := by
  have hx := C.1
  have hb := C.2.1
  unfold mb_statement_63 at hm
  refine lv_if_eq (tgt := 79) hx hb dX12_statement_63 (by decide) (fun c_1 => ?_) (fun c_1 => ?_)
  · have hm := (if_pos c_1).symm.trans hm
    exact mw_statement_79 fu rc hr C hret F G hm hw (lv_sub hl [] rfl)
  · have hm := (if_neg c_1).symm.trans hm
    exact mw_statement_66 fu rc hr C hret F G hm hw (lv_sub hl [0] rfl)
theorem mw_statement_59 (fu : Nat) (rc : RC) {dd : Nat} (hr : mH2 l v a rc dd) {res : Int32 × PF × PG} (C : mMC p R s m args c A v RX12 cX12_statement 3 (dd + 1 + 307) (60 * (dd + 1) + 18156)) (hret : ∀ (H1 : Heap) (locs1 : List Loc) (ls1 : Array Slot) (pc : Nat), mMW s A v a res.2.1 res.2.2 H1 locs1 → narrow .boolean (.int res.1) = .int res.1 → decode cX12_statement pc = .ok (.ireturn, 1) → W p l e R s m args below meth c H1 locs1 0 0 Q (F0 m pc ls1 [.int res.1])) (F : PF) (G : PG) (hm : mb_statement_59 fu rc F G = some res) {H : Heap} {locs : List Loc} (hw : mMW s A v a F G H locs) {ls : Array Slot} (hl : lv_has ls 3 [(0, .ref (a 212))]) : W p l e R s m args below meth c H locs 0 0 Q (F0 m 59 ls []) := by
  have hx := C.1
  have hb := C.2.1
  unfold mb_statement_59 at hm
  refine lv_aload_n hx hb dX12_statement_59 rfl (lv_at hl 0 rfl) ?_
  obtain ⟨⟨r1, F1, G1⟩, hc, hm⟩ := bind_elim hm
  refine mcallI (n := 0) (As := []) (rest := []) C hw (mk_simple l v a _ fu F G r1 F1 G1 hc) (mrecv_X12 C hw) mm_369 mm_370 mm_371 mm_27 mm_372 (by decide +kernel) rfl (by omega) (by omega) hl.1 rfl (Nat.le_of_ble_eq_true rfl) dX12_statement_60 (fun H locs hw => ?_)
  exact mw_statement_63 fu rc hr C hret r1 F1 G1 hm hw (lv_sub hl [0] rfl)
theorem mw_statement_46 (fu : Nat) (rc : RC) {dd : Nat} (hr : mH2 l v a rc dd) {res : Int32 × PF × PG} (C : mMC p R s m args c A v RX12 cX12_statement 3 (dd + 1 + 307) (60 * (dd + 1) + 18156)) (hret : ∀ (H1 : Heap) (locs1 : List Loc) (ls1 : Array Slot) (pc : Nat), mMW s A v a res.2.1 res.2.2 H1 locs1 → narrow .boolean (.int res.1) = .int res.1 → decode cX12_statement pc = .ok (.ireturn, 1) → W p l e R s m args below meth c H1 locs1 0 0 Q (F0 m pc ls1 [.int res.1])) (F : PF) (G : PG) (hm : mb_statement_46 fu rc F G = some res) {H : Heap} {locs : List Loc} (hw : mMW s A v a F G H locs) {ls : Array Slot} (hl : lv_has ls 3 [(0, .ref (a 212))]) : W p l e R s m args below meth c H locs 0 0 Q (F0 m 46 ls []) := by
  have hx := C.1
  have hb := C.2.1
  unfold mb_statement_46 at hm
  refine lv_aload_n hx hb dX12_statement_46 rfl (lv_at hl 0 rfl) ?_
  refine mg_X12_16 C hw dX12_statement_47 ?_
  refine lv_aload_n hx hb dX12_statement_50 rfl (lv_at hl 0 rfl) ?_
  refine mg_X12_233 C hw dX12_statement_51 ?_
  obtain ⟨hi, hm⟩ := ix_elim hm
  refine mal_4 C hw hi dX12_statement_54 ?_
  refine lv_iconst (v := 1) hx hb dX12_statement_55 (by decide) ?_
  refine lv_icmp_ne (tgt := 81) hx hb dX12_statement_56 (by decide) (fun c_1 => ?_) (fun c_1 => ?_)
  · have hm := (if_neg c_1).symm.trans hm
    exact mw_statement_81 fu rc hr C hret F G hm hw (lv_sub hl [0] rfl)
  · have hm := (if_pos c_1).symm.trans hm
    exact mw_statement_59 fu rc hr C hret F G hm hw (lv_sub hl [0] rfl)
theorem mw_statement_45 (fu : Nat) (rc : RC) {dd : Nat} (hr : mH2 l v a rc dd) {res : Int32 × PF × PG} (C : mMC p R s m args c A v RX12 cX12_statement 3 (dd + 1 + 307) (60 * (dd + 1) + 18156)) (hret : ∀ (H1 : Heap) (locs1 : List Loc) (ls1 : Array Slot) (pc : Nat), mMW s A v a res.2.1 res.2.2 H1 locs1 → narrow .boolean (.int res.1) = .int res.1 → decode cX12_statement pc = .ok (.ireturn, 1) → W p l e R s m args below meth c H1 locs1 0 0 Q (F0 m pc ls1 [.int res.1])) (z0 : Int32) (F : PF) (G : PG) (hm : mb_statement_45 fu rc z0 F G = some res) {H : Heap} {locs : List Loc} (hw : mMW s A v a F G H locs) {ls : Array Slot} (hl : lv_has ls 3 []) : W p l e R s m args below meth c H locs 0 0 Q (F0 m 45 ls [.int z0]) := by
  have hx := C.1
  have hb := C.2.1
  unfold mb_statement_45 at hm
  obtain ⟨hz, hm⟩ := b01_elim hm
  obtain rfl := Option.some.inj hm
  exact hret _ _ _ _ hw (b01_nar hz) dX12_statement_45
theorem mw_statement_39 (fu : Nat) (rc : RC) {dd : Nat} (hr : mH2 l v a rc dd) {res : Int32 × PF × PG} (C : mMC p R s m args c A v RX12 cX12_statement 3 (dd + 1 + 307) (60 * (dd + 1) + 18156)) (hret : ∀ (H1 : Heap) (locs1 : List Loc) (ls1 : Array Slot) (pc : Nat), mMW s A v a res.2.1 res.2.2 H1 locs1 → narrow .boolean (.int res.1) = .int res.1 → decode cX12_statement pc = .ok (.ireturn, 1) → W p l e R s m args below meth c H1 locs1 0 0 Q (F0 m pc ls1 [.int res.1])) (F : PF) (G : PG) (hm : mb_statement_39 fu rc F G = some res) {H : Heap} {locs : List Loc} (hw : mMW s A v a F G H locs) {ls : Array Slot} (hl : lv_has ls 3 [(0, .ref (a 212))]) : W p l e R s m args below meth c H locs 0 0 Q (F0 m 39 ls []) := by
  have hx := C.1
  have hb := C.2.1
  unfold mb_statement_39 at hm
  refine lv_aload_n hx hb dX12_statement_39 rfl (lv_at hl 0 rfl) ?_
  refine lv_bipush (v := 29) hx hb dX12_statement_40 (by decide) ?_
  obtain ⟨⟨r1, F1, G1⟩, hc, hm⟩ := bind_elim hm
  refine mcallI (n := 1) (As := [.int 29]) (rest := []) C hw (mk_sign l v a _ fu 29 F G r1 F1 G1 hc) (mrecv_X12 C hw) mm_179 mm_180 mm_181 mm_27 mm_182 (by decide +kernel) rfl (by omega) (by omega) hl.1 rfl (Nat.le_of_ble_eq_true rfl) dX12_statement_42 (fun H locs hw => ?_)
  exact mw_statement_45 fu rc hr C hret r1 F1 G1 hm hw (lv_sub hl [] rfl)
theorem mw_statement_36 (fu : Nat) (rc : RC) {dd : Nat} (hr : mH2 l v a rc dd) {res : Int32 × PF × PG} (C : mMC p R s m args c A v RX12 cX12_statement 3 (dd + 1 + 307) (60 * (dd + 1) + 18156)) (hret : ∀ (H1 : Heap) (locs1 : List Loc) (ls1 : Array Slot) (pc : Nat), mMW s A v a res.2.1 res.2.2 H1 locs1 → narrow .boolean (.int res.1) = .int res.1 → decode cX12_statement pc = .ok (.ireturn, 1) → W p l e R s m args below meth c H1 locs1 0 0 Q (F0 m pc ls1 [.int res.1])) (z0 : Int32) (F : PF) (G : PG) (hm : mb_statement_36 fu rc z0 F G = some res) {H : Heap} {locs : List Loc} (hw : mMW s A v a F G H locs) {ls : Array Slot} (hl : lv_has ls 3 [(0, .ref (a 212))]) : W p l e R s m args below meth c H locs 0 0 Q (F0 m 36 ls [.int z0]) := by
  have hx := C.1
  have hb := C.2.1
  unfold mb_statement_36 at hm
  refine lv_if_eq (tgt := 46) hx hb dX12_statement_36 (by decide) (fun c_1 => ?_) (fun c_1 => ?_)
  · have hm := (if_pos c_1).symm.trans hm
    exact mw_statement_46 fu rc hr C hret F G hm hw (lv_sub hl [0] rfl)
  · have hm := (if_neg c_1).symm.trans hm
    exact mw_statement_39 fu rc hr C hret F G hm hw (lv_sub hl [0] rfl)
theorem mw_statement_30 (fu : Nat) (rc : RC) {dd : Nat} (hr : mH2 l v a rc dd) {res : Int32 × PF × PG} (C : mMC p R s m args c A v RX12 cX12_statement 3 (dd + 1 + 307) (60 * (dd + 1) + 18156)) (hret : ∀ (H1 : Heap) (locs1 : List Loc) (ls1 : Array Slot) (pc : Nat), mMW s A v a res.2.1 res.2.2 H1 locs1 → narrow .boolean (.int res.1) = .int res.1 → decode cX12_statement pc = .ok (.ireturn, 1) → W p l e R s m args below meth c H1 locs1 0 0 Q (F0 m pc ls1 [.int res.1])) (F : PF) (G : PG) (hm : mb_statement_30 fu rc F G = some res) {H : Heap} {locs : List Loc} (hw : mMW s A v a F G H locs) {ls : Array Slot} (hl : lv_has ls 3 [(0, .ref (a 212))]) : W p l e R s m args below meth c H locs 0 0 Q (F0 m 30 ls []) := by
  have hx := C.1
  have hb := C.2.1
  unfold mb_statement_30 at hm
  refine lv_aload_n hx hb dX12_statement_30 rfl (lv_at hl 0 rfl) ?_
  refine lv_bipush (v := 29) hx hb dX12_statement_31 (by decide) ?_
  obtain ⟨⟨r1, F1, G1⟩, hc, hm⟩ := bind_elim hm
  refine mcallI (n := 1) (As := [.int 29]) (rest := []) C hw (mk_isSign l v a _ fu 29 F G r1 F1 G1 hc) (mrecv_X12 C hw) mm_183 mm_184 mm_185 mm_27 mm_186 (by decide +kernel) rfl (by omega) (by omega) hl.1 rfl (Nat.le_of_ble_eq_true rfl) dX12_statement_33 (fun H locs hw => ?_)
  exact mw_statement_36 fu rc hr C hret r1 F1 G1 hm hw (lv_sub hl [0] rfl)
theorem mw_statement_28 (fu : Nat) (rc : RC) {dd : Nat} (hr : mH2 l v a rc dd) {res : Int32 × PF × PG} (C : mMC p R s m args c A v RX12 cX12_statement 3 (dd + 1 + 307) (60 * (dd + 1) + 18156)) (hret : ∀ (H1 : Heap) (locs1 : List Loc) (ls1 : Array Slot) (pc : Nat), mMW s A v a res.2.1 res.2.2 H1 locs1 → narrow .boolean (.int res.1) = .int res.1 → decode cX12_statement pc = .ok (.ireturn, 1) → W p l e R s m args below meth c H1 locs1 0 0 Q (F0 m pc ls1 [.int res.1])) (x2 : Int32) (F : PF) (G : PG) (hm : mb_statement_28 fu rc x2 F G = some res) {H : Heap} {locs : List Loc} (hw : mMW s A v a F G H locs) {ls : Array Slot} (hl : lv_has ls 3 [(2, .int x2)]) : W p l e R s m args below meth c H locs 0 0 Q (F0 m 28 ls []) := by
  have hx := C.1
  have hb := C.2.1
  unfold mb_statement_28 at hm
  refine lv_iload_n hx hb dX12_statement_28 rfl (lv_at hl 0 rfl) ?_
  obtain ⟨hz, hm⟩ := b01_elim hm
  obtain rfl := Option.some.inj hm
  exact hret _ _ _ _ hw (b01_nar hz) dX12_statement_29
theorem mw_statement_22 (fu : Nat) (rc : RC) {dd : Nat} (hr : mH2 l v a rc dd) {res : Int32 × PF × PG} (C : mMC p R s m args c A v RX12 cX12_statement 3 (dd + 1 + 307) (60 * (dd + 1) + 18156)) (hret : ∀ (H1 : Heap) (locs1 : List Loc) (ls1 : Array Slot) (pc : Nat), mMW s A v a res.2.1 res.2.2 H1 locs1 → narrow .boolean (.int res.1) = .int res.1 → decode cX12_statement pc = .ok (.ireturn, 1) → W p l e R s m args below meth c H1 locs1 0 0 Q (F0 m pc ls1 [.int res.1])) (x1 : Int32) (z0 : Int32) (F : PF) (G : PG) (hm : mb_statement_22 fu rc x1 z0 F G = some res) {H : Heap} {locs : List Loc} (hw : mMW s A v a F G H locs) {ls : Array Slot} (hl : lv_has ls 3 [(0, .ref (a 212)), (1, .int x1)]) : W p l e R s m args below meth c H locs 0 0 Q (F0 m 22 ls [.int z0]) := by
  have hx := C.1
  have hb := C.2.1
  unfold mb_statement_22 at hm
  refine lv_istore_n (lv' := [(2, .int z0), (0, .ref (a 212)), (1, .int x1)]) hx hb dX12_statement_22 rfl hl (by decide) rfl (fun ls hl => ?_)
  refine lv_aload_n hx hb dX12_statement_23 rfl (lv_at hl 1 rfl) ?_
  refine lv_iload_n hx hb dX12_statement_24 rfl (lv_at hl 2 rfl) ?_
  obtain ⟨⟨r1, F1, G1⟩, hc, hm⟩ := bind_elim hm
  refine mcallV (n := 1) (As := [.int x1]) (rest := []) C hw (mk_ends l v a _ fu x1 F G r1 F1 G1 hc) (mrecv_X12 C hw) mm_376 mm_377 mm_378 mm_27 mm_379 (by decide +kernel) rfl (by omega) (by omega) hl.1 rfl (Nat.le_of_ble_eq_true rfl) dX12_statement_25 (fun H locs hw => ?_)
  exact mw_statement_28 fu rc hr C hret z0 F1 G1 hm hw (lv_sub hl [0] rfl)
theorem mw_statement_18 (fu : Nat) (rc : RC) {dd : Nat} (hr : mH2 l v a rc dd) {res : Int32 × PF × PG} (C : mMC p R s m args c A v RX12 cX12_statement 3 (dd + 1 + 307) (60 * (dd + 1) + 18156)) (hret : ∀ (H1 : Heap) (locs1 : List Loc) (ls1 : Array Slot) (pc : Nat), mMW s A v a res.2.1 res.2.2 H1 locs1 → narrow .boolean (.int res.1) = .int res.1 → decode cX12_statement pc = .ok (.ireturn, 1) → W p l e R s m args below meth c H1 locs1 0 0 Q (F0 m pc ls1 [.int res.1])) (x1 : Int32) (F : PF) (G : PG) (hm : mb_statement_18 fu rc x1 F G = some res) {H : Heap} {locs : List Loc} (hw : mMW s A v a F G H locs) {ls : Array Slot} (hl : lv_has ls 3 [(0, .ref (a 212)), (1, .int x1)]) : W p l e R s m args below meth c H locs 0 0 Q (F0 m 18 ls []) := by
  have hx := C.1
  have hb := C.2.1
  unfold mb_statement_18 at hm
  refine lv_aload_n hx hb dX12_statement_18 rfl (lv_at hl 0 rfl) ?_
  obtain ⟨⟨r1, F1, G1⟩, hc, hm⟩ := bind_elim hm
  refine mcallI (n := 0) (As := []) (rest := []) C hw (hr.1 _ F G r1 F1 G1 hc) (mrecv_X12 C hw) mm_338 mm_339 mm_340 mm_27 mm_341 (by decide +kernel) rfl (by omega) (by omega) hl.1 rfl (Nat.le_of_ble_eq_true rfl) dX12_statement_19 (fun H locs hw => ?_)
  exact mw_statement_22 fu rc hr C hret x1 r1 F1 G1 hm hw (lv_sub hl [0, 1] rfl)
theorem mw_statement_9 (fu : Nat) (rc : RC) {dd : Nat} (hr : mH2 l v a rc dd) {res : Int32 × PF × PG} (C : mMC p R s m args c A v RX12 cX12_statement 3 (dd + 1 + 307) (60 * (dd + 1) + 18156)) (hret : ∀ (H1 : Heap) (locs1 : List Loc) (ls1 : Array Slot) (pc : Nat), mMW s A v a res.2.1 res.2.2 H1 locs1 → narrow .boolean (.int res.1) = .int res.1 → decode cX12_statement pc = .ok (.ireturn, 1) → W p l e R s m args below meth c H1 locs1 0 0 Q (F0 m pc ls1 [.int res.1])) (F : PF) (G : PG) (hm : mb_statement_9 fu rc F G = some res) {H : Heap} {locs : List Loc} (hw : mMW s A v a F G H locs) {ls : Array Slot} (hl : lv_has ls 3 [(0, .ref (a 212))]) : W p l e R s m args below meth c H locs 0 0 Q (F0 m 9 ls []) := by
  have hx := C.1
  have hb := C.2.1
  unfold mb_statement_9 at hm
  refine lv_aload_n hx hb dX12_statement_9 rfl (lv_at hl 0 rfl) ?_
  refine mg_X12_282 C hw dX12_statement_10 ?_
  refine lv_istore_n (lv' := [(1, .int (F 15)), (0, .ref (a 212))]) hx hb dX12_statement_13 rfl hl (by decide) rfl (fun ls hl => ?_)
  refine lv_aload_n hx hb dX12_statement_14 rfl (lv_at hl 1 rfl) ?_
  obtain ⟨⟨r1, F1, G1⟩, hc, hm⟩ := bind_elim hm
  refine mcallV (n := 0) (As := []) (rest := []) C hw (mk_begins l v a _ fu F G r1 F1 G1 hc) (mrecv_X12 C hw) mm_330 mm_331 mm_332 mm_27 mm_333 (by decide +kernel) rfl (by omega) (by omega) hl.1 rfl (Nat.le_of_ble_eq_true rfl) dX12_statement_15 (fun H locs hw => ?_)
  exact mw_statement_18 fu rc hr C hret (F 15) F1 G1 hm hw (lv_sub hl [1, 0] rfl)
theorem mw_statement_6 (fu : Nat) (rc : RC) {dd : Nat} (hr : mH2 l v a rc dd) {res : Int32 × PF × PG} (C : mMC p R s m args c A v RX12 cX12_statement 3 (dd + 1 + 307) (60 * (dd + 1) + 18156)) (hret : ∀ (H1 : Heap) (locs1 : List Loc) (ls1 : Array Slot) (pc : Nat), mMW s A v a res.2.1 res.2.2 H1 locs1 → narrow .boolean (.int res.1) = .int res.1 → decode cX12_statement pc = .ok (.ireturn, 1) → W p l e R s m args below meth c H1 locs1 0 0 Q (F0 m pc ls1 [.int res.1])) (z0 : Int32) (F : PF) (G : PG) (hm : mb_statement_6 fu rc z0 F G = some res) {H : Heap} {locs : List Loc} (hw : mMW s A v a F G H locs) {ls : Array Slot} (hl : lv_has ls 3 [(0, .ref (a 212))]) : W p l e R s m args below meth c H locs 0 0 Q (F0 m 6 ls [.int z0]) := by
  have hx := C.1
  have hb := C.2.1
  unfold mb_statement_6 at hm
  refine lv_if_eq (tgt := 30) hx hb dX12_statement_6 (by decide) (fun c_1 => ?_) (fun c_1 => ?_)
  · have hm := (if_pos c_1).symm.trans hm
    exact mw_statement_30 fu rc hr C hret F G hm hw (lv_sub hl [0] rfl)
  · have hm := (if_neg c_1).symm.trans hm
    exact mw_statement_9 fu rc hr C hret F G hm hw (lv_sub hl [0] rfl)
theorem mw_statement_0 (fu : Nat) (rc : RC) {dd : Nat} (hr : mH2 l v a rc dd) {res : Int32 × PF × PG} (C : mMC p R s m args c A v RX12 cX12_statement 3 (dd + 1 + 307) (60 * (dd + 1) + 18156)) (hret : ∀ (H1 : Heap) (locs1 : List Loc) (ls1 : Array Slot) (pc : Nat), mMW s A v a res.2.1 res.2.2 H1 locs1 → narrow .boolean (.int res.1) = .int res.1 → decode cX12_statement pc = .ok (.ireturn, 1) → W p l e R s m args below meth c H1 locs1 0 0 Q (F0 m pc ls1 [.int res.1])) (F : PF) (G : PG) (hm : mb_statement_0 fu rc F G = some res) {H : Heap} {locs : List Loc} (hw : mMW s A v a F G H locs) {ls : Array Slot} (hl : lv_has ls 3 [(0, .ref (a 212))]) : W p l e R s m args below meth c H locs 0 0 Q (F0 m 0 ls []) := by
  have hx := C.1
  have hb := C.2.1
  unfold mb_statement_0 at hm
  refine lv_aload_n hx hb dX12_statement_0 rfl (lv_at hl 0 rfl) ?_
  refine lv_bipush (v := 26) hx hb dX12_statement_1 (by decide) ?_
  obtain ⟨⟨r1, F1, G1⟩, hc, hm⟩ := bind_elim hm
  refine mcallI (n := 1) (As := [.int 26]) (rest := []) C hw (mk_isSign l v a _ fu 26 F G r1 F1 G1 hc) (mrecv_X12 C hw) mm_183 mm_184 mm_185 mm_27 mm_186 (by decide +kernel) rfl (by omega) (by omega) hl.1 rfl (Nat.le_of_ble_eq_true rfl) dX12_statement_3 (fun H locs hw => ?_)
  exact mw_statement_6 fu rc hr C hret r1 F1 G1 hm hw (lv_sub hl [0] rfl)
theorem mq_statement (l : Launch) (v : EV) (a : Nat → Nat) (sz : Nat) (fu : Nat) (rc : RC) {dd : Nat} (hr : mH2 l v a rc dd) (F : PF) (G : PG) (r : Int32) (F1 : PF) (G1 : PG) (hm : mh_statement fu rc F G = some (r, F1, G1)) : mMI l yX12_statement cX12_statement 3 (some .boolean) (dd + 1 + 307) (60 * (dd + 1) + 18156) v a sz [.ref (a 212)] F G r F1 G1 := mMI.of (ty := .boolean) (by decide) rfl (Nat.le_of_ble_eq_true rfl) (fun p e R s m args below meth c Q A H locs ls C hw hl hret => mw_statement_0 fu rc hr (res := (r, F1, G1)) C hret F G hm hw hl)
def mb_turnLoop_20 (fu : Nat) (rc : RC) (F : PF) (G : PG) : PR := some (0, F, G)
def mb_turnLoop_58 (fu : Nat) (rc : RC) (F : PF) (G : PG) : PR := some (0, F, G)
def mb_turnLoop_94 (fu : Nat) (rc : RC) (z0 : Int32) (F : PF) (G : PG) : PR := if b01 z0 = true then (some (z0, F, G)) else none
def mb_turnLoop_88 (fu : Nat) (rc : RC) (F : PF) (G : PG) : PR := (mf_sign fu 29 F G).bind (fun q => mb_turnLoop_94 fu rc q.1 q.2.1 q.2.2)
def mb_turnLoop_78 (fu : Nat) (rc : RC) (F : PF) (G : PG) : PR := mb_turnLoop_88 fu rc (fup F 43 ((F 43) - (1 : Int32))) G
def mb_turnLoop_68 (fu : Nat) (rc : RC) (x2 : Int32) (z0 : Int32) (F : PF) (G : PG) : PR := (mf_settle fu x2 (F 60) F G).bind (fun q => mb_turnLoop_78 fu rc q.2.1 q.2.2)
def mb_turnLoop_60 (fu : Nat) (rc : RC) (x1 : Int32) (x2 : Int32) (F : PF) (G : PG) : PR := (mf_step fu 14 x1 0 F G).bind (fun q => mb_turnLoop_68 fu rc x2 q.1 q.2.1 q.2.2)
def mb_turnLoop_55 (fu : Nat) (rc : RC) (x1 : Int32) (x2 : Int32) (z0 : Int32) (F : PF) (G : PG) : PR := if z0 = (0 : Int32) then mb_turnLoop_58 fu rc F G else mb_turnLoop_60 fu rc x1 x2 F G
def mb_turnLoop_51 (fu : Nat) (rc : RC) (x1 : Int32) (x2 : Int32) (F : PF) (G : PG) : PR := (mf_condition fu F G).bind (fun q => mb_turnLoop_55 fu rc x1 x2 q.1 q.2.1 q.2.2)
def mb_turnLoop_48 (fu : Nat) (rc : RC) (x1 : Int32) (x2 : Int32) (z0 : Int32) (F : PF) (G : PG) : PR := if z0 = (0 : Int32) then mb_turnLoop_58 fu rc F G else mb_turnLoop_51 fu rc x1 x2 F G
def mb_turnLoop_41 (fu : Nat) (rc : RC) (x1 : Int32) (x2 : Int32) (F : PF) (G : PG) : PR := (mf_word fu 6 1 F G).bind (fun q => mb_turnLoop_48 fu rc x1 x2 q.1 q.2.1 q.2.2)
def mb_turnLoop_22 (fu : Nat) (rc : RC) (x1 : Int32) (F : PF) (G : PG) : PR := (mf_settle fu (F 66) (F 60) F G).bind (fun q => mb_turnLoop_41 fu rc x1 (F 65) q.2.1 q.2.2)
def mb_turnLoop_17 (fu : Nat) (rc : RC) (x1 : Int32) (z0 : Int32) (F : PF) (G : PG) : PR := if z0 = (0 : Int32) then mb_turnLoop_20 fu rc F G else mb_turnLoop_22 fu rc x1 F G
def mb_turnLoop_12 (fu : Nat) (rc : RC) (x1 : Int32) (F : PF) (G : PG) : PR := (rc 1 (-1) 0 F G).bind (fun q => mb_turnLoop_17 fu rc x1 q.1 q.2.1 q.2.2)
def mb_turnLoop_9 (fu : Nat) (rc : RC) (x1 : Int32) (z0 : Int32) (F : PF) (G : PG) : PR := if z0 = (0 : Int32) then mb_turnLoop_20 fu rc F G else mb_turnLoop_12 fu rc x1 F G
def mb_turnLoop_0 (fu : Nat) (rc : RC) (F : PF) (G : PG) : PR := (mf_opens fu F G).bind (fun q => mb_turnLoop_9 fu rc (F 60) q.1 q.2.1 q.2.2)
def mh_turnLoop (fu : Nat) (rc : RC) (F : PF) (G : PG) : PR := mb_turnLoop_0 fu rc F G
theorem mw_turnLoop_20 (fu : Nat) (rc : RC) {dd : Nat} (hr : mH2 l v a rc dd) {res : Int32 × PF × PG} (C : mMC p R s m args c A v RX12 cX12_turnLoop 4 (dd + 1 + 307) (60 * (dd + 1) + 18156)) (hret : ∀ (H1 : Heap) (locs1 : List Loc) (ls1 : Array Slot) (pc : Nat), mMW s A v a res.2.1 res.2.2 H1 locs1 → narrow .boolean (.int res.1) = .int res.1 → decode cX12_turnLoop pc = .ok (.ireturn, 1) → W p l e R s m args below meth c H1 locs1 0 0 Q (F0 m pc ls1 [.int res.1])) (F : PF) (G : PG) (hm : mb_turnLoop_20 fu rc F G = some res) {H : Heap} {locs : List Loc} (hw : mMW s A v a F G H locs) {ls : Array Slot} (hl : lv_has ls 4 []) : W p l e R s m args below meth c H locs 0 0 Q (F0 m 20 ls []) := by
  have hx := C.1
  have hb := C.2.1
  unfold mb_turnLoop_20 at hm
  refine lv_iconst (v := 0) hx hb dX12_turnLoop_20 (by decide) ?_
  obtain rfl := Option.some.inj hm
  exact hret _ _ _ _ hw (b01_nar (v := 0) (Or.inl rfl)) dX12_turnLoop_21
theorem mw_turnLoop_58 (fu : Nat) (rc : RC) {dd : Nat} (hr : mH2 l v a rc dd) {res : Int32 × PF × PG} (C : mMC p R s m args c A v RX12 cX12_turnLoop 4 (dd + 1 + 307) (60 * (dd + 1) + 18156)) (hret : ∀ (H1 : Heap) (locs1 : List Loc) (ls1 : Array Slot) (pc : Nat), mMW s A v a res.2.1 res.2.2 H1 locs1 → narrow .boolean (.int res.1) = .int res.1 → decode cX12_turnLoop pc = .ok (.ireturn, 1) → W p l e R s m args below meth c H1 locs1 0 0 Q (F0 m pc ls1 [.int res.1])) (F : PF) (G : PG) (hm : mb_turnLoop_58 fu rc F G = some res) {H : Heap} {locs : List Loc} (hw : mMW s A v a F G H locs) {ls : Array Slot} (hl : lv_has ls 4 []) : W p l e R s m args below meth c H locs 0 0 Q (F0 m 58 ls []) := by
  have hx := C.1
  have hb := C.2.1
  unfold mb_turnLoop_58 at hm
  refine lv_iconst (v := 0) hx hb dX12_turnLoop_58 (by decide) ?_
  obtain rfl := Option.some.inj hm
  exact hret _ _ _ _ hw (b01_nar (v := 0) (Or.inl rfl)) dX12_turnLoop_59
theorem mw_turnLoop_94 (fu : Nat) (rc : RC) {dd : Nat} (hr : mH2 l v a rc dd) {res : Int32 × PF × PG} (C : mMC p R s m args c A v RX12 cX12_turnLoop 4 (dd + 1 + 307) (60 * (dd + 1) + 18156)) (hret : ∀ (H1 : Heap) (locs1 : List Loc) (ls1 : Array Slot) (pc : Nat), mMW s A v a res.2.1 res.2.2 H1 locs1 → narrow .boolean (.int res.1) = .int res.1 → decode cX12_turnLoop pc = .ok (.ireturn, 1) → W p l e R s m args below meth c H1 locs1 0 0 Q (F0 m pc ls1 [.int res.1])) (z0 : Int32) (F : PF) (G : PG) (hm : mb_turnLoop_94 fu rc z0 F G = some res) {H : Heap} {locs : List Loc} (hw : mMW s A v a F G H locs) {ls : Array Slot} (hl : lv_has ls 4 []) : W p l e R s m args below meth c H locs 0 0 Q (F0 m 94 ls [.int z0]) := by
  have hx := C.1
  have hb := C.2.1
  unfold mb_turnLoop_94 at hm
  obtain ⟨hz, hm⟩ := b01_elim hm
  obtain rfl := Option.some.inj hm
  exact hret _ _ _ _ hw (b01_nar hz) dX12_turnLoop_94
theorem mw_turnLoop_88 (fu : Nat) (rc : RC) {dd : Nat} (hr : mH2 l v a rc dd) {res : Int32 × PF × PG} (C : mMC p R s m args c A v RX12 cX12_turnLoop 4 (dd + 1 + 307) (60 * (dd + 1) + 18156)) (hret : ∀ (H1 : Heap) (locs1 : List Loc) (ls1 : Array Slot) (pc : Nat), mMW s A v a res.2.1 res.2.2 H1 locs1 → narrow .boolean (.int res.1) = .int res.1 → decode cX12_turnLoop pc = .ok (.ireturn, 1) → W p l e R s m args below meth c H1 locs1 0 0 Q (F0 m pc ls1 [.int res.1])) (F : PF) (G : PG) (hm : mb_turnLoop_88 fu rc F G = some res) {H : Heap} {locs : List Loc} (hw : mMW s A v a F G H locs) {ls : Array Slot} (hl : lv_has ls 4 [(0, .ref (a 212))]) : W p l e R s m args below meth c H locs 0 0 Q (F0 m 88 ls []) := by
  have hx := C.1
  have hb := C.2.1
  unfold mb_turnLoop_88 at hm
  refine lv_aload_n hx hb dX12_turnLoop_88 rfl (lv_at hl 0 rfl) ?_
  refine lv_bipush (v := 29) hx hb dX12_turnLoop_89 (by decide) ?_
  obtain ⟨⟨r1, F1, G1⟩, hc, hm⟩ := bind_elim hm
  refine mcallI (n := 1) (As := [.int 29]) (rest := []) C hw (mk_sign l v a _ fu 29 F G r1 F1 G1 hc) (mrecv_X12 C hw) mm_179 mm_180 mm_181 mm_27 mm_182 (by decide +kernel) rfl (by omega) (by omega) hl.1 rfl (Nat.le_of_ble_eq_true rfl) dX12_turnLoop_91 (fun H locs hw => ?_)
  exact mw_turnLoop_94 fu rc hr C hret r1 F1 G1 hm hw (lv_sub hl [] rfl)
theorem mw_turnLoop_78 (fu : Nat) (rc : RC) {dd : Nat} (hr : mH2 l v a rc dd) {res : Int32 × PF × PG} (C : mMC p R s m args c A v RX12 cX12_turnLoop 4 (dd + 1 + 307) (60 * (dd + 1) + 18156)) (hret : ∀ (H1 : Heap) (locs1 : List Loc) (ls1 : Array Slot) (pc : Nat), mMW s A v a res.2.1 res.2.2 H1 locs1 → narrow .boolean (.int res.1) = .int res.1 → decode cX12_turnLoop pc = .ok (.ireturn, 1) → W p l e R s m args below meth c H1 locs1 0 0 Q (F0 m pc ls1 [.int res.1])) (F : PF) (G : PG) (hm : mb_turnLoop_78 fu rc F G = some res) {H : Heap} {locs : List Loc} (hw : mMW s A v a F G H locs) {ls : Array Slot} (hl : lv_has ls 4 [(0, .ref (a 212))]) : W p l e R s m args below meth c H locs 0 0 Q (F0 m 78 ls []) := by
  have hx := C.1
  have hb := C.2.1
  unfold mb_turnLoop_78 at hm
  refine lv_aload_n hx hb dX12_turnLoop_78 rfl (lv_at hl 0 rfl) ?_
  refine lv_dup hx hb dX12_turnLoop_79 rfl ?_
  refine mg_X12_266 C hw dX12_turnLoop_80 ?_
  refine lv_iconst (v := 1) hx hb dX12_turnLoop_83 (by decide) ?_
  refine lv_isub hx hb dX12_turnLoop_84 ?_
  refine mp_X12_266 C hw dX12_turnLoop_85 (fun H locs hw => ?_)
  exact mw_turnLoop_88 fu rc hr C hret (fup F 43 ((F 43) - (1 : Int32))) G hm hw (lv_sub hl [0] rfl)
theorem mw_turnLoop_68 (fu : Nat) (rc : RC) {dd : Nat} (hr : mH2 l v a rc dd) {res : Int32 × PF × PG} (C : mMC p R s m args c A v RX12 cX12_turnLoop 4 (dd + 1 + 307) (60 * (dd + 1) + 18156)) (hret : ∀ (H1 : Heap) (locs1 : List Loc) (ls1 : Array Slot) (pc : Nat), mMW s A v a res.2.1 res.2.2 H1 locs1 → narrow .boolean (.int res.1) = .int res.1 → decode cX12_turnLoop pc = .ok (.ireturn, 1) → W p l e R s m args below meth c H1 locs1 0 0 Q (F0 m pc ls1 [.int res.1])) (x2 : Int32) (z0 : Int32) (F : PF) (G : PG) (hm : mb_turnLoop_68 fu rc x2 z0 F G = some res) {H : Heap} {locs : List Loc} (hw : mMW s A v a F G H locs) {ls : Array Slot} (hl : lv_has ls 4 [(0, .ref (a 212)), (2, .int x2)]) : W p l e R s m args below meth c H locs 0 0 Q (F0 m 68 ls [.int z0]) := by
  have hx := C.1
  have hb := C.2.1
  unfold mb_turnLoop_68 at hm
  refine lv_pop hx hb dX12_turnLoop_68 rfl ?_
  refine lv_aload_n hx hb dX12_turnLoop_69 rfl (lv_at hl 0 rfl) ?_
  refine lv_iload_n hx hb dX12_turnLoop_70 rfl (lv_at hl 1 rfl) ?_
  refine lv_aload_n hx hb dX12_turnLoop_71 rfl (lv_at hl 0 rfl) ?_
  refine mg_X12_276 C hw dX12_turnLoop_72 ?_
  obtain ⟨⟨r1, F1, G1⟩, hc, hm⟩ := bind_elim hm
  refine mcallV (n := 2) (As := [.int x2, .int (F 60)]) (rest := []) C hw (mk_settle l v a _ fu x2 (F 60) F G r1 F1 G1 hc) (mrecv_X12 C hw) mm_351 mm_352 mm_353 mm_27 mm_354 (by decide +kernel) rfl (by omega) (by omega) hl.1 rfl (Nat.le_of_ble_eq_true rfl) dX12_turnLoop_75 (fun H locs hw => ?_)
  exact mw_turnLoop_78 fu rc hr C hret F1 G1 hm hw (lv_sub hl [0] rfl)
theorem mw_turnLoop_60 (fu : Nat) (rc : RC) {dd : Nat} (hr : mH2 l v a rc dd) {res : Int32 × PF × PG} (C : mMC p R s m args c A v RX12 cX12_turnLoop 4 (dd + 1 + 307) (60 * (dd + 1) + 18156)) (hret : ∀ (H1 : Heap) (locs1 : List Loc) (ls1 : Array Slot) (pc : Nat), mMW s A v a res.2.1 res.2.2 H1 locs1 → narrow .boolean (.int res.1) = .int res.1 → decode cX12_turnLoop pc = .ok (.ireturn, 1) → W p l e R s m args below meth c H1 locs1 0 0 Q (F0 m pc ls1 [.int res.1])) (x1 : Int32) (x2 : Int32) (F : PF) (G : PG) (hm : mb_turnLoop_60 fu rc x1 x2 F G = some res) {H : Heap} {locs : List Loc} (hw : mMW s A v a F G H locs) {ls : Array Slot} (hl : lv_has ls 4 [(0, .ref (a 212)), (1, .int x1), (2, .int x2)]) : W p l e R s m args below meth c H locs 0 0 Q (F0 m 60 ls []) := by
  have hx := C.1
  have hb := C.2.1
  unfold mb_turnLoop_60 at hm
  refine lv_aload_n hx hb dX12_turnLoop_60 rfl (lv_at hl 0 rfl) ?_
  refine lv_bipush (v := 14) hx hb dX12_turnLoop_61 (by decide) ?_
  refine lv_iload_n hx hb dX12_turnLoop_63 rfl (lv_at hl 1 rfl) ?_
  refine lv_iconst (v := 0) hx hb dX12_turnLoop_64 (by decide) ?_
  obtain ⟨⟨r1, F1, G1⟩, hc, hm⟩ := bind_elim hm
  refine mcallI (n := 3) (As := [.int 14, .int x1, .int 0]) (rest := []) C hw (mk_step l v a _ fu 14 x1 0 F G r1 F1 G1 hc) (mrecv_X12 C hw) mm_203 mm_204 mm_205 mm_27 mm_206 (by decide +kernel) rfl (by omega) (by omega) hl.1 rfl (Nat.le_of_ble_eq_true rfl) dX12_turnLoop_65 (fun H locs hw => ?_)
  exact mw_turnLoop_68 fu rc hr C hret x2 r1 F1 G1 hm hw (lv_sub hl [0, 2] rfl)
theorem mw_turnLoop_55 (fu : Nat) (rc : RC) {dd : Nat} (hr : mH2 l v a rc dd) {res : Int32 × PF × PG} (C : mMC p R s m args c A v RX12 cX12_turnLoop 4 (dd + 1 + 307) (60 * (dd + 1) + 18156)) (hret : ∀ (H1 : Heap) (locs1 : List Loc) (ls1 : Array Slot) (pc : Nat), mMW s A v a res.2.1 res.2.2 H1 locs1 → narrow .boolean (.int res.1) = .int res.1 → decode cX12_turnLoop pc = .ok (.ireturn, 1) → W p l e R s m args below meth c H1 locs1 0 0 Q (F0 m pc ls1 [.int res.1])) (x1 : Int32) (x2 : Int32) (z0 : Int32) (F : PF) (G : PG) (hm : mb_turnLoop_55 fu rc x1 x2 z0 F G = some res) {H : Heap} {locs : List Loc} (hw : mMW s A v a F G H locs) {ls : Array Slot} (hl : lv_has ls 4 [(0, .ref (a 212)), (1, .int x1), (2, .int x2)]) : W p l e R s m args below meth c H locs 0 0 Q (F0 m 55 ls [.int z0]) := by
  have hx := C.1
  have hb := C.2.1
  unfold mb_turnLoop_55 at hm
  refine lv_if_ne (tgt := 60) hx hb dX12_turnLoop_55 (by decide) (fun c_1 => ?_) (fun c_1 => ?_)
  · have hm := (if_neg c_1).symm.trans hm
    exact mw_turnLoop_60 fu rc hr C hret x1 x2 F G hm hw (lv_sub hl [0, 1, 2] rfl)
  · have hm := (if_pos c_1).symm.trans hm
    exact mw_turnLoop_58 fu rc hr C hret F G hm hw (lv_sub hl [] rfl)
theorem mw_turnLoop_51 (fu : Nat) (rc : RC) {dd : Nat} (hr : mH2 l v a rc dd) {res : Int32 × PF × PG} (C : mMC p R s m args c A v RX12 cX12_turnLoop 4 (dd + 1 + 307) (60 * (dd + 1) + 18156)) (hret : ∀ (H1 : Heap) (locs1 : List Loc) (ls1 : Array Slot) (pc : Nat), mMW s A v a res.2.1 res.2.2 H1 locs1 → narrow .boolean (.int res.1) = .int res.1 → decode cX12_turnLoop pc = .ok (.ireturn, 1) → W p l e R s m args below meth c H1 locs1 0 0 Q (F0 m pc ls1 [.int res.1])) (x1 : Int32) (x2 : Int32) (F : PF) (G : PG) (hm : mb_turnLoop_51 fu rc x1 x2 F G = some res) {H : Heap} {locs : List Loc} (hw : mMW s A v a F G H locs) {ls : Array Slot} (hl : lv_has ls 4 [(0, .ref (a 212)), (1, .int x1), (2, .int x2)]) : W p l e R s m args below meth c H locs 0 0 Q (F0 m 51 ls []) := by
  have hx := C.1
  have hb := C.2.1
  unfold mb_turnLoop_51 at hm
  refine lv_aload_n hx hb dX12_turnLoop_51 rfl (lv_at hl 0 rfl) ?_
  obtain ⟨⟨r1, F1, G1⟩, hc, hm⟩ := bind_elim hm
  refine mcallI (n := 0) (As := []) (rest := []) C hw (mk_condition l v a _ fu F G r1 F1 G1 hc) (mrecv_X12 C hw) mm_356 mm_357 mm_358 mm_27 mm_359 (by decide +kernel) rfl (by omega) (by omega) hl.1 rfl (Nat.le_of_ble_eq_true rfl) dX12_turnLoop_52 (fun H locs hw => ?_)
  exact mw_turnLoop_55 fu rc hr C hret x1 x2 r1 F1 G1 hm hw (lv_sub hl [0, 1, 2] rfl)
theorem mw_turnLoop_48 (fu : Nat) (rc : RC) {dd : Nat} (hr : mH2 l v a rc dd) {res : Int32 × PF × PG} (C : mMC p R s m args c A v RX12 cX12_turnLoop 4 (dd + 1 + 307) (60 * (dd + 1) + 18156)) (hret : ∀ (H1 : Heap) (locs1 : List Loc) (ls1 : Array Slot) (pc : Nat), mMW s A v a res.2.1 res.2.2 H1 locs1 → narrow .boolean (.int res.1) = .int res.1 → decode cX12_turnLoop pc = .ok (.ireturn, 1) → W p l e R s m args below meth c H1 locs1 0 0 Q (F0 m pc ls1 [.int res.1])) (x1 : Int32) (x2 : Int32) (z0 : Int32) (F : PF) (G : PG) (hm : mb_turnLoop_48 fu rc x1 x2 z0 F G = some res) {H : Heap} {locs : List Loc} (hw : mMW s A v a F G H locs) {ls : Array Slot} (hl : lv_has ls 4 [(0, .ref (a 212)), (1, .int x1), (2, .int x2)]) : W p l e R s m args below meth c H locs 0 0 Q (F0 m 48 ls [.int z0]) := by
  have hx := C.1
  have hb := C.2.1
  unfold mb_turnLoop_48 at hm
  refine lv_if_eq (tgt := 58) hx hb dX12_turnLoop_48 (by decide) (fun c_1 => ?_) (fun c_1 => ?_)
  · have hm := (if_pos c_1).symm.trans hm
    exact mw_turnLoop_58 fu rc hr C hret F G hm hw (lv_sub hl [] rfl)
  · have hm := (if_neg c_1).symm.trans hm
    exact mw_turnLoop_51 fu rc hr C hret x1 x2 F G hm hw (lv_sub hl [0, 1, 2] rfl)
theorem mw_turnLoop_41 (fu : Nat) (rc : RC) {dd : Nat} (hr : mH2 l v a rc dd) {res : Int32 × PF × PG} (C : mMC p R s m args c A v RX12 cX12_turnLoop 4 (dd + 1 + 307) (60 * (dd + 1) + 18156)) (hret : ∀ (H1 : Heap) (locs1 : List Loc) (ls1 : Array Slot) (pc : Nat), mMW s A v a res.2.1 res.2.2 H1 locs1 → narrow .boolean (.int res.1) = .int res.1 → decode cX12_turnLoop pc = .ok (.ireturn, 1) → W p l e R s m args below meth c H1 locs1 0 0 Q (F0 m pc ls1 [.int res.1])) (x1 : Int32) (x2 : Int32) (F : PF) (G : PG) (hm : mb_turnLoop_41 fu rc x1 x2 F G = some res) {H : Heap} {locs : List Loc} (hw : mMW s A v a F G H locs) {ls : Array Slot} (hl : lv_has ls 4 [(0, .ref (a 212)), (1, .int x1), (2, .int x2)]) : W p l e R s m args below meth c H locs 0 0 Q (F0 m 41 ls []) := by
  have hx := C.1
  have hb := C.2.1
  unfold mb_turnLoop_41 at hm
  refine lv_aload_n hx hb dX12_turnLoop_41 rfl (lv_at hl 0 rfl) ?_
  refine lv_bipush (v := 6) hx hb dX12_turnLoop_42 (by decide) ?_
  refine lv_iconst (v := 1) hx hb dX12_turnLoop_44 (by decide) ?_
  obtain ⟨⟨r1, F1, G1⟩, hc, hm⟩ := bind_elim hm
  refine mcallI (n := 2) (As := [.int 6, .int 1]) (rest := []) C hw (mk_word l v a _ fu 6 1 F G r1 F1 G1 hc) (mrecv_X12 C hw) mm_158 mm_159 mm_160 mm_27 mm_161 (by decide +kernel) rfl (by omega) (by omega) hl.1 rfl (Nat.le_of_ble_eq_true rfl) dX12_turnLoop_45 (fun H locs hw => ?_)
  exact mw_turnLoop_48 fu rc hr C hret x1 x2 r1 F1 G1 hm hw (lv_sub hl [0, 1, 2] rfl)
theorem mw_turnLoop_22 (fu : Nat) (rc : RC) {dd : Nat} (hr : mH2 l v a rc dd) {res : Int32 × PF × PG} (C : mMC p R s m args c A v RX12 cX12_turnLoop 4 (dd + 1 + 307) (60 * (dd + 1) + 18156)) (hret : ∀ (H1 : Heap) (locs1 : List Loc) (ls1 : Array Slot) (pc : Nat), mMW s A v a res.2.1 res.2.2 H1 locs1 → narrow .boolean (.int res.1) = .int res.1 → decode cX12_turnLoop pc = .ok (.ireturn, 1) → W p l e R s m args below meth c H1 locs1 0 0 Q (F0 m pc ls1 [.int res.1])) (x1 : Int32) (F : PF) (G : PG) (hm : mb_turnLoop_22 fu rc x1 F G = some res) {H : Heap} {locs : List Loc} (hw : mMW s A v a F G H locs) {ls : Array Slot} (hl : lv_has ls 4 [(0, .ref (a 212)), (1, .int x1)]) : W p l e R s m args below meth c H locs 0 0 Q (F0 m 22 ls []) := by
  have hx := C.1
  have hb := C.2.1
  unfold mb_turnLoop_22 at hm
  refine lv_aload_n hx hb dX12_turnLoop_22 rfl (lv_at hl 0 rfl) ?_
  refine mg_X12_448 C hw dX12_turnLoop_23 ?_
  refine lv_istore_n (lv' := [(2, .int (F 65)), (0, .ref (a 212)), (1, .int x1)]) hx hb dX12_turnLoop_26 rfl hl (by decide) rfl (fun ls hl => ?_)
  refine lv_aload_n hx hb dX12_turnLoop_27 rfl (lv_at hl 1 rfl) ?_
  refine mg_X12_445 C hw dX12_turnLoop_28 ?_
  refine lv_istore_n (lv' := [(3, .int (F 66)), (2, .int (F 65)), (0, .ref (a 212)), (1, .int x1)]) hx hb dX12_turnLoop_31 rfl hl (by decide) rfl (fun ls hl => ?_)
  refine lv_aload_n hx hb dX12_turnLoop_32 rfl (lv_at hl 2 rfl) ?_
  refine lv_iload_n hx hb dX12_turnLoop_33 rfl (lv_at hl 0 rfl) ?_
  refine lv_aload_n hx hb dX12_turnLoop_34 rfl (lv_at hl 2 rfl) ?_
  refine mg_X12_276 C hw dX12_turnLoop_35 ?_
  obtain ⟨⟨r1, F1, G1⟩, hc, hm⟩ := bind_elim hm
  refine mcallV (n := 2) (As := [.int (F 66), .int (F 60)]) (rest := []) C hw (mk_settle l v a _ fu (F 66) (F 60) F G r1 F1 G1 hc) (mrecv_X12 C hw) mm_351 mm_352 mm_353 mm_27 mm_354 (by decide +kernel) rfl (by omega) (by omega) hl.1 rfl (Nat.le_of_ble_eq_true rfl) dX12_turnLoop_38 (fun H locs hw => ?_)
  exact mw_turnLoop_41 fu rc hr C hret x1 (F 65) F1 G1 hm hw (lv_sub hl [2, 3, 1] rfl)
theorem mw_turnLoop_17 (fu : Nat) (rc : RC) {dd : Nat} (hr : mH2 l v a rc dd) {res : Int32 × PF × PG} (C : mMC p R s m args c A v RX12 cX12_turnLoop 4 (dd + 1 + 307) (60 * (dd + 1) + 18156)) (hret : ∀ (H1 : Heap) (locs1 : List Loc) (ls1 : Array Slot) (pc : Nat), mMW s A v a res.2.1 res.2.2 H1 locs1 → narrow .boolean (.int res.1) = .int res.1 → decode cX12_turnLoop pc = .ok (.ireturn, 1) → W p l e R s m args below meth c H1 locs1 0 0 Q (F0 m pc ls1 [.int res.1])) (x1 : Int32) (z0 : Int32) (F : PF) (G : PG) (hm : mb_turnLoop_17 fu rc x1 z0 F G = some res) {H : Heap} {locs : List Loc} (hw : mMW s A v a F G H locs) {ls : Array Slot} (hl : lv_has ls 4 [(0, .ref (a 212)), (1, .int x1)]) : W p l e R s m args below meth c H locs 0 0 Q (F0 m 17 ls [.int z0]) := by
  have hx := C.1
  have hb := C.2.1
  unfold mb_turnLoop_17 at hm
  refine lv_if_ne (tgt := 22) hx hb dX12_turnLoop_17 (by decide) (fun c_1 => ?_) (fun c_1 => ?_)
  · have hm := (if_neg c_1).symm.trans hm
    exact mw_turnLoop_22 fu rc hr C hret x1 F G hm hw (lv_sub hl [0, 1] rfl)
  · have hm := (if_pos c_1).symm.trans hm
    exact mw_turnLoop_20 fu rc hr C hret F G hm hw (lv_sub hl [] rfl)
theorem mw_turnLoop_12 (fu : Nat) (rc : RC) {dd : Nat} (hr : mH2 l v a rc dd) {res : Int32 × PF × PG} (C : mMC p R s m args c A v RX12 cX12_turnLoop 4 (dd + 1 + 307) (60 * (dd + 1) + 18156)) (hret : ∀ (H1 : Heap) (locs1 : List Loc) (ls1 : Array Slot) (pc : Nat), mMW s A v a res.2.1 res.2.2 H1 locs1 → narrow .boolean (.int res.1) = .int res.1 → decode cX12_turnLoop pc = .ok (.ireturn, 1) → W p l e R s m args below meth c H1 locs1 0 0 Q (F0 m pc ls1 [.int res.1])) (x1 : Int32) (F : PF) (G : PG) (hm : mb_turnLoop_12 fu rc x1 F G = some res) {H : Heap} {locs : List Loc} (hw : mMW s A v a F G H locs) {ls : Array Slot} (hl : lv_has ls 4 [(0, .ref (a 212)), (1, .int x1)]) : W p l e R s m args below meth c H locs 0 0 Q (F0 m 12 ls []) := by
  have hx := C.1
  have hb := C.2.1
  unfold mb_turnLoop_12 at hm
  refine lv_aload_n hx hb dX12_turnLoop_12 rfl (lv_at hl 0 rfl) ?_
  refine lv_iconst (v := (-1)) hx hb dX12_turnLoop_13 (by decide) ?_
  obtain ⟨⟨r1, F1, G1⟩, hc, hm⟩ := bind_elim hm
  refine mcallI (n := 1) (As := [.int (-1)]) (rest := []) C hw (hr.2.1 _ (-1) F G r1 F1 G1 hc) (mrecv_X12 C hw) mm_373 mm_374 mm_375 mm_27 mm_345 (by decide +kernel) rfl (by omega) (by omega) hl.1 rfl (Nat.le_of_ble_eq_true rfl) dX12_turnLoop_14 (fun H locs hw => ?_)
  exact mw_turnLoop_17 fu rc hr C hret x1 r1 F1 G1 hm hw (lv_sub hl [0, 1] rfl)
theorem mw_turnLoop_9 (fu : Nat) (rc : RC) {dd : Nat} (hr : mH2 l v a rc dd) {res : Int32 × PF × PG} (C : mMC p R s m args c A v RX12 cX12_turnLoop 4 (dd + 1 + 307) (60 * (dd + 1) + 18156)) (hret : ∀ (H1 : Heap) (locs1 : List Loc) (ls1 : Array Slot) (pc : Nat), mMW s A v a res.2.1 res.2.2 H1 locs1 → narrow .boolean (.int res.1) = .int res.1 → decode cX12_turnLoop pc = .ok (.ireturn, 1) → W p l e R s m args below meth c H1 locs1 0 0 Q (F0 m pc ls1 [.int res.1])) (x1 : Int32) (z0 : Int32) (F : PF) (G : PG) (hm : mb_turnLoop_9 fu rc x1 z0 F G = some res) {H : Heap} {locs : List Loc} (hw : mMW s A v a F G H locs) {ls : Array Slot} (hl : lv_has ls 4 [(0, .ref (a 212)), (1, .int x1)]) : W p l e R s m args below meth c H locs 0 0 Q (F0 m 9 ls [.int z0]) := by
  have hx := C.1
  have hb := C.2.1
  unfold mb_turnLoop_9 at hm
  refine lv_if_eq (tgt := 20) hx hb dX12_turnLoop_9 (by decide) (fun c_1 => ?_) (fun c_1 => ?_)
  · have hm := (if_pos c_1).symm.trans hm
    exact mw_turnLoop_20 fu rc hr C hret F G hm hw (lv_sub hl [] rfl)
  · have hm := (if_neg c_1).symm.trans hm
    exact mw_turnLoop_12 fu rc hr C hret x1 F G hm hw (lv_sub hl [0, 1] rfl)
theorem mw_turnLoop_0 (fu : Nat) (rc : RC) {dd : Nat} (hr : mH2 l v a rc dd) {res : Int32 × PF × PG} (C : mMC p R s m args c A v RX12 cX12_turnLoop 4 (dd + 1 + 307) (60 * (dd + 1) + 18156)) (hret : ∀ (H1 : Heap) (locs1 : List Loc) (ls1 : Array Slot) (pc : Nat), mMW s A v a res.2.1 res.2.2 H1 locs1 → narrow .boolean (.int res.1) = .int res.1 → decode cX12_turnLoop pc = .ok (.ireturn, 1) → W p l e R s m args below meth c H1 locs1 0 0 Q (F0 m pc ls1 [.int res.1])) (F : PF) (G : PG) (hm : mb_turnLoop_0 fu rc F G = some res) {H : Heap} {locs : List Loc} (hw : mMW s A v a F G H locs) {ls : Array Slot} (hl : lv_has ls 4 [(0, .ref (a 212))]) : W p l e R s m args below meth c H locs 0 0 Q (F0 m 0 ls []) := by
  have hx := C.1
  have hb := C.2.1
  unfold mb_turnLoop_0 at hm
  refine lv_aload_n hx hb dX12_turnLoop_0 rfl (lv_at hl 0 rfl) ?_
  refine mg_X12_276 C hw dX12_turnLoop_1 ?_
  refine lv_istore_n (lv' := [(1, .int (F 60)), (0, .ref (a 212))]) hx hb dX12_turnLoop_4 rfl hl (by decide) rfl (fun ls hl => ?_)
  refine lv_aload_n hx hb dX12_turnLoop_5 rfl (lv_at hl 1 rfl) ?_
  obtain ⟨⟨r1, F1, G1⟩, hc, hm⟩ := bind_elim hm
  refine mcallI (n := 0) (As := []) (rest := []) C hw (mk_opens l v a _ fu F G r1 F1 G1 hc) (mrecv_X12 C hw) mm_199 mm_200 mm_201 mm_27 mm_202 (by decide +kernel) rfl (by omega) (by omega) hl.1 rfl (Nat.le_of_ble_eq_true rfl) dX12_turnLoop_6 (fun H locs hw => ?_)
  exact mw_turnLoop_9 fu rc hr C hret (F 60) r1 F1 G1 hm hw (lv_sub hl [1, 0] rfl)
theorem mq_turnLoop (l : Launch) (v : EV) (a : Nat → Nat) (sz : Nat) (fu : Nat) (rc : RC) {dd : Nat} (hr : mH2 l v a rc dd) (F : PF) (G : PG) (r : Int32) (F1 : PF) (G1 : PG) (hm : mh_turnLoop fu rc F G = some (r, F1, G1)) : mMI l yX12_turnLoop cX12_turnLoop 4 (some .boolean) (dd + 1 + 307) (60 * (dd + 1) + 18156) v a sz [.ref (a 212)] F G r F1 G1 := mMI.of (ty := .boolean) (by decide) rfl (Nat.le_of_ble_eq_true rfl) (fun p e R s m args below meth c Q A H locs ls C hw hl hret => mw_turnLoop_0 fu rc hr (res := (r, F1, G1)) C hret F G hm hw hl)
def mS2 (fu : Nat) : Nat → RC
  | 0 => fun _ _ _ _ _ => none
  | n + 1 => fun i x y F G => if i = 0 then mh_block fu (mS2 fu n) F G else if i = 1 then mh_body fu (mS2 fu n) x F G else if i = 2 then mh_choice fu (mS2 fu n) F G else if i = 3 then mh_counted fu (mS2 fu n) F G else if i = 4 then mh_loop fu (mS2 fu n) F G else if i = 5 then mh_scoped fu (mS2 fu n) F G else if i = 6 then mh_statement fu (mS2 fu n) F G else if i = 7 then mh_turnLoop fu (mS2 fu n) F G else none
theorem mS2_all (l : Launch) (v : EV) (a : Nat → Nat) (fu : Nat) : ∀ dd : Nat, mH2 l v a (mS2 fu dd) dd := by
  intro dd
  induction dd with
  | zero =>
    refine ⟨fun sz F G r F1 G1 h => no_elim h, fun sz x F G r F1 G1 h => no_elim h, fun sz F G r F1 G1 h => no_elim h, fun sz F G r F1 G1 h => no_elim h, fun sz F G r F1 G1 h => no_elim h, fun sz F G r F1 G1 h => no_elim h, fun sz F G r F1 G1 h => no_elim h, fun sz F G r F1 G1 h => no_elim h⟩
  | succ dd ih =>
    exact ⟨fun sz F G r F1 G1 h => mq_block l v a sz fu (mS2 fu dd) ih F G r F1 G1 h, fun sz x F G r F1 G1 h => mq_body l v a sz fu (mS2 fu dd) ih x F G r F1 G1 h, fun sz F G r F1 G1 h => mq_choice l v a sz fu (mS2 fu dd) ih F G r F1 G1 h, fun sz F G r F1 G1 h => mq_counted l v a sz fu (mS2 fu dd) ih F G r F1 G1 h, fun sz F G r F1 G1 h => mq_loop l v a sz fu (mS2 fu dd) ih F G r F1 G1 h, fun sz F G r F1 G1 h => mq_scoped l v a sz fu (mS2 fu dd) ih F G r F1 G1 h, fun sz F G r F1 G1 h => mq_statement l v a sz fu (mS2 fu dd) ih F G r F1 G1 h, fun sz F G r F1 G1 h => mq_turnLoop l v a sz fu (mS2 fu dd) ih F G r F1 G1 h⟩
def mf_block (fu : Nat) (F : PF) (G : PG) : PR := mS2 fu 300 0 0 0 F G
theorem mk_block (l : Launch) (v : EV) (a : Nat → Nat) (sz : Nat) (fu : Nat) (F : PF) (G : PG) (r : Int32) (F1 : PF) (G1 : PG) (hm : mf_block fu F G = some (r, F1, G1)) : mMI l yX12_block cX12_block 1 (some .boolean) 607 36156 v a sz [.ref (a 212)] F G r F1 G1 := (mS2_all l v a fu 300).1 sz F G r F1 G1 hm
def mf_body (fu : Nat) (x : Int32) (F : PF) (G : PG) : PR := mS2 fu 300 1 x 0 F G
theorem mk_body (l : Launch) (v : EV) (a : Nat → Nat) (sz : Nat) (fu : Nat) (x : Int32) (F : PF) (G : PG) (r : Int32) (F1 : PF) (G1 : PG) (hm : mf_body fu x F G = some (r, F1, G1)) : mMI l yX12_body cX12_body 5 (some .boolean) 607 36156 v a sz [.ref (a 212), .int x] F G r F1 G1 := (mS2_all l v a fu 300).2.1 sz x F G r F1 G1 hm
def mf_choice (fu : Nat) (F : PF) (G : PG) : PR := mS2 fu 300 2 0 0 F G
theorem mk_choice (l : Launch) (v : EV) (a : Nat → Nat) (sz : Nat) (fu : Nat) (F : PF) (G : PG) (r : Int32) (F1 : PF) (G1 : PG) (hm : mf_choice fu F G = some (r, F1, G1)) : mMI l yX12_choice cX12_choice 3 (some .boolean) 607 36156 v a sz [.ref (a 212)] F G r F1 G1 := (mS2_all l v a fu 300).2.2.1 sz F G r F1 G1 hm
def mf_counted (fu : Nat) (F : PF) (G : PG) : PR := mS2 fu 300 3 0 0 F G
theorem mk_counted (l : Launch) (v : EV) (a : Nat → Nat) (sz : Nat) (fu : Nat) (F : PF) (G : PG) (r : Int32) (F1 : PF) (G1 : PG) (hm : mf_counted fu F G = some (r, F1, G1)) : mMI l yX12_counted cX12_counted 7 (some .boolean) 607 36156 v a sz [.ref (a 212)] F G r F1 G1 := (mS2_all l v a fu 300).2.2.2.1 sz F G r F1 G1 hm
def mf_loop (fu : Nat) (F : PF) (G : PG) : PR := mS2 fu 300 4 0 0 F G
theorem mk_loop (l : Launch) (v : EV) (a : Nat → Nat) (sz : Nat) (fu : Nat) (F : PF) (G : PG) (r : Int32) (F1 : PF) (G1 : PG) (hm : mf_loop fu F G = some (r, F1, G1)) : mMI l yX12_loop cX12_loop 4 (some .boolean) 607 36156 v a sz [.ref (a 212)] F G r F1 G1 := (mS2_all l v a fu 300).2.2.2.2.1 sz F G r F1 G1 hm
def mf_scoped (fu : Nat) (F : PF) (G : PG) : PR := mS2 fu 300 5 0 0 F G
theorem mk_scoped (l : Launch) (v : EV) (a : Nat → Nat) (sz : Nat) (fu : Nat) (F : PF) (G : PG) (r : Int32) (F1 : PF) (G1 : PG) (hm : mf_scoped fu F G = some (r, F1, G1)) : mMI l yX12_scoped cX12_scoped 3 (some .boolean) 607 36156 v a sz [.ref (a 212)] F G r F1 G1 := (mS2_all l v a fu 300).2.2.2.2.2.1 sz F G r F1 G1 hm
def mf_statement (fu : Nat) (F : PF) (G : PG) : PR := mS2 fu 300 6 0 0 F G
theorem mk_statement (l : Launch) (v : EV) (a : Nat → Nat) (sz : Nat) (fu : Nat) (F : PF) (G : PG) (r : Int32) (F1 : PF) (G1 : PG) (hm : mf_statement fu F G = some (r, F1, G1)) : mMI l yX12_statement cX12_statement 3 (some .boolean) 607 36156 v a sz [.ref (a 212)] F G r F1 G1 := (mS2_all l v a fu 300).2.2.2.2.2.2.1 sz F G r F1 G1 hm
def mf_turnLoop (fu : Nat) (F : PF) (G : PG) : PR := mS2 fu 300 7 0 0 F G
theorem mk_turnLoop (l : Launch) (v : EV) (a : Nat → Nat) (sz : Nat) (fu : Nat) (F : PF) (G : PG) (r : Int32) (F1 : PF) (G1 : PG) (hm : mf_turnLoop fu F G = some (r, F1, G1)) : mMI l yX12_turnLoop cX12_turnLoop 4 (some .boolean) 607 36156 v a sz [.ref (a 212)] F G r F1 G1 := (mS2_all l v a fu 300).2.2.2.2.2.2.2 sz F G r F1 G1 hm
def mb_function_385 (fu : Nat) (F : PF) (G : PG) : PR := some (1, F, G)
def mb_function_380 (fu : Nat) (F : PF) (G : PG) : PR := mb_function_385 fu (fup F 50 (-1 : Int32)) G
def mb_function_375 (fu : Nat) (F : PF) (G : PG) : PR := (mf_ends fu 0 F G).bind (fun q => mb_function_380 fu q.2.1 q.2.2)
def mb_function_365 (fu : Nat) (x1 : Int32) (F : PF) (G : PG) : PR := if ixb x1 500 = true then (mb_function_375 fu F (gup G 29 x1.toNatClampNeg (F 53))) else none
def mb_function_351 (fu : Nat) (x1 : Int32) (x4 : Int32) (z0 : Int32) (F : PF) (G : PG) : PR := if ixb x1 500 = true then (mb_function_365 fu x1 F (gup G 28 x1.toNatClampNeg (x4 + (F 52)))) else none
def mb_function_342 (fu : Nat) (x1 : Int32) (x4 : Int32) (z0 : Int32) (F : PF) (G : PG) : PR := (mf_step fu 17 0 0 F G).bind (fun q => mb_function_351 fu x1 x4 q.1 q.2.1 q.2.2)
def mb_function_335 (fu : Nat) (x1 : Int32) (x4 : Int32) (F : PF) (G : PG) : PR := (mf_step fu 0 0 0 F G).bind (fun q => mb_function_342 fu x1 x4 q.1 q.2.1 q.2.2)
def mb_function_333 (fu : Nat) (F : PF) (G : PG) : PR := some (0, F, G)
def mb_function_330 (fu : Nat) (x1 : Int32) (x4 : Int32) (z0 : Int32) (F : PF) (G : PG) : PR := if z0 = (0 : Int32) then mb_function_333 fu F G else mb_function_335 fu x1 x4 F G
def mb_function_326 (fu : Nat) (x1 : Int32) (x4 : Int32) (F : PF) (G : PG) : PR := (mf_block fu F G).bind (fun q => mb_function_330 fu x1 x4 q.1 q.2.1 q.2.2)
def mb_function_325 (fu : Nat) (z0 : Int32) (F : PF) (G : PG) : PR := if b01 z0 = true then (some (z0, F, G)) else none
def mb_function_320 (fu : Nat) (F : PF) (G : PG) : PR := (mf_fails fu 2 F G).bind (fun q => mb_function_325 fu q.1 q.2.1 q.2.2)
def mb_function_317 (fu : Nat) (x1 : Int32) (x4 : Int32) (z0 : Int32) (F : PF) (G : PG) : PR := if z0 = (0 : Int32) then mb_function_320 fu F G else mb_function_326 fu x1 x4 F G
def mb_function_311 (fu : Nat) (x1 : Int32) (x4 : Int32) (F : PF) (G : PG) : PR := (mf_isSign fu 26 F G).bind (fun q => mb_function_317 fu x1 x4 q.1 q.2.1 q.2.2)
def mb_function_301 (fu : Nat) (x1 : Int32) (x4 : Int32) (F : PF) (G : PG) : PR := if ixb x1 500 = true then (mb_function_311 fu x1 x4 F (gup G 30 x1.toNatClampNeg (F 60))) else none
def mb_function_293 (fu : Nat) (x1 : Int32) (x4 : Int32) (x5 : Int32) (F : PF) (G : PG) : PR := if ixb x1 500 = true then (mb_function_301 fu x1 x4 F (gup G 27 x1.toNatClampNeg x5)) else none
def mb_function_291 (fu : Nat) (F : PF) (G : PG) : PR := some (0, F, G)
def mb_function_288 (fu : Nat) (x1 : Int32) (x4 : Int32) (x5 : Int32) (z0 : Int32) (F : PF) (G : PG) : PR := if z0 = (0 : Int32) then mb_function_291 fu F G else mb_function_293 fu x1 x4 x5 F G
def mb_function_282 (fu : Nat) (x1 : Int32) (x4 : Int32) (x5 : Int32) (F : PF) (G : PG) : PR := (mf_closeSign fu 23 F G).bind (fun q => mb_function_288 fu x1 x4 x5 q.1 q.2.1 q.2.2)
def mb_function_279 (fu : Nat) (ag_177 : Int32 → Int32 → Int32 → Int32 → PF → PG → PR) (x1 : Int32) (x4 : Int32) (x5 : Int32) (x6 : Int32) (F : PF) (G : PG) : PR := ag_177 x1 x4 x5 x6 F G
def mb_function_275 (fu : Nat) (ag_177 : Int32 → Int32 → Int32 → Int32 → PF → PG → PR) (x1 : Int32) (x4 : Int32) (x5 : Int32) (x6 : Int32) (z0 : Int32) (z1 : Int32) (F : PF) (G : PG) : PR := mb_function_279 fu ag_177 x1 x4 x5 x6 (fup F 42 (z1 + z0)) G
def mb_function_274 (fu : Nat) (ag_177 : Int32 → Int32 → Int32 → Int32 → PF → PG → PR) (x1 : Int32) (x4 : Int32) (x5 : Int32) (x6 : Int32) (z0 : Int32) (F : PF) (G : PG) : PR := mb_function_275 fu ag_177 x1 x4 x5 x6 0 z0 F G
def mb_function_270 (fu : Nat) (ag_177 : Int32 → Int32 → Int32 → Int32 → PF → PG → PR) (x1 : Int32) (x4 : Int32) (x5 : Int32) (x6 : Int32) (z0 : Int32) (F : PF) (G : PG) : PR := mb_function_275 fu ag_177 x1 x4 x5 x6 1 z0 F G
def mb_function_258 (fu : Nat) (ag_177 : Int32 → Int32 → Int32 → Int32 → PF → PG → PR) (x1 : Int32) (x4 : Int32) (x5 : Int32) (z0 : Int32) (F : PF) (G : PG) : PR := if z0 = (0 : Int32) then mb_function_274 fu ag_177 x1 x4 x5 z0 (F 42) F G else mb_function_270 fu ag_177 x1 x4 x5 z0 (F 42) F G
def mb_function_246 (fu : Nat) (ag_177 : Int32 → Int32 → Int32 → Int32 → PF → PG → PR) (x1 : Int32) (x5 : Int32) (z0 : Int32) (z1 : Int32) (F : PF) (G : PG) : PR := (mf_isSign fu 28 F G).bind (fun q => mb_function_258 fu ag_177 x1 (z1 + z0) (x5 + 1) q.1 q.2.1 q.2.2)
def mb_function_245 (fu : Nat) (ag_177 : Int32 → Int32 → Int32 → Int32 → PF → PG → PR) (x1 : Int32) (x5 : Int32) (z0 : Int32) (F : PF) (G : PG) : PR := mb_function_246 fu ag_177 x1 x5 2 z0 F G
def mb_function_241 (fu : Nat) (ag_177 : Int32 → Int32 → Int32 → Int32 → PF → PG → PR) (x1 : Int32) (x5 : Int32) (z0 : Int32) (F : PF) (G : PG) : PR := mb_function_246 fu ag_177 x1 x5 1 z0 F G
def mb_function_234 (fu : Nat) (ag_177 : Int32 → Int32 → Int32 → Int32 → PF → PG → PR) (x1 : Int32) (x4 : Int32) (x5 : Int32) (x7 : Int32) (F : PF) (G : PG) : PR := if x7 = (0 : Int32) then mb_function_241 fu ag_177 x1 x5 x4 F G else mb_function_245 fu ag_177 x1 x5 x4 F G
def mb_function_224 (fu : Nat) (ag_177 : Int32 → Int32 → Int32 → Int32 → PF → PG → PR) (x1 : Int32) (x4 : Int32) (x5 : Int32) (x7 : Int32) (F : PF) (G : PG) : PR := mb_function_234 fu ag_177 x1 x4 x5 x7 (fup F 35 ((F 35) + (1 : Int32))) G
def mb_function_213 (fu : Nat) (ag_177 : Int32 → Int32 → Int32 → Int32 → PF → PG → PR) (x1 : Int32) (x4 : Int32) (x5 : Int32) (x7 : Int32) (F : PF) (G : PG) : PR := if ixb (F 35) 900 = true then (mb_function_224 fu ag_177 x1 x4 x5 x7 F (gup G 34 (F 35).toNatClampNeg x7)) else none
def mb_function_206 (fu : Nat) (ag_177 : Int32 → Int32 → Int32 → Int32 → PF → PG → PR) (x1 : Int32) (x4 : Int32) (x5 : Int32) (x7 : Int32) (F : PF) (G : PG) : PR := if (F 46) = (0 : Int32) then mb_function_213 fu ag_177 x1 x4 x5 x7 F G else mb_function_234 fu ag_177 x1 x4 x5 x7 F G
def mb_function_204 (fu : Nat) (F : PF) (G : PG) : PR := some (0, F, G)
def mb_function_195 (fu : Nat) (ag_177 : Int32 → Int32 → Int32 → Int32 → PF → PG → PR) (x1 : Int32) (x4 : Int32) (x5 : Int32) (z0 : Int32) (F : PF) (G : PG) : PR := if (F 44) ≤ (0 : Int32) then mb_function_206 fu ag_177 x1 x4 x5 z0 F G else mb_function_204 fu F G
def mb_function_189 (fu : Nat) (ag_177 : Int32 → Int32 → Int32 → Int32 → PF → PG → PR) (x1 : Int32) (x4 : Int32) (x5 : Int32) (F : PF) (G : PG) : PR := (mf_formalHere fu x5 F G).bind (fun q => mb_function_195 fu ag_177 x1 x4 x5 q.1 q.2.1 q.2.2)
def mb_function_182 (fu : Nat) (ag_177 : Int32 → Int32 → Int32 → Int32 → PF → PG → PR) (x1 : Int32) (x4 : Int32) (x5 : Int32) (F : PF) (G : PG) : PR := if (F 44) = (0 : Int32) then mb_function_189 fu ag_177 x1 x4 x5 F G else mb_function_282 fu x1 x4 x5 F G
def mb_function_177 (fu : Nat) (ag_177 : Int32 → Int32 → Int32 → Int32 → PF → PG → PR) (x1 : Int32) (x4 : Int32) (x5 : Int32) (x6 : Int32) (F : PF) (G : PG) : PR := if x6 = (0 : Int32) then mb_function_282 fu x1 x4 x5 F G else mb_function_182 fu ag_177 x1 x4 x5 F G
def ml_function_177 (fu : Nat) : Nat → Int32 → Int32 → Int32 → Int32 → PF → PG → PR
  | 0 => fun _ _ _ _ _ _ => none
  | n + 1 => fun x1 x4 x5 x6 F G => mb_function_177 fu (ml_function_177 fu n) x1 x4 x5 x6 F G
def mb_function_174 (fu : Nat) (x1 : Int32) (x4 : Int32) (x5 : Int32) (F : PF) (G : PG) : PR := ml_function_177 fu fu x1 x4 x5 1 F G
def mb_function_164 (fu : Nat) (x1 : Int32) (x4 : Int32) (x5 : Int32) (F : PF) (G : PG) : PR := if ixb x1 500 = true then (mb_function_174 fu x1 x4 x5 F (gup G 32 x1.toNatClampNeg (F 42))) else none
def mb_function_157 (fu : Nat) (x1 : Int32) (x4 : Int32) (x5 : Int32) (F : PF) (G : PG) : PR := if (F 46) = (0 : Int32) then mb_function_164 fu x1 x4 x5 F G else mb_function_174 fu x1 x4 x5 F G
def mb_function_154 (fu : Nat) (x1 : Int32) (x4 : Int32) (x5 : Int32) (z0 : Int32) (F : PF) (G : PG) : PR := if z0 = (0 : Int32) then mb_function_157 fu x1 x4 x5 F G else mb_function_282 fu x1 x4 x5 F G
def mb_function_142 (fu : Nat) (x1 : Int32) (F : PF) (G : PG) : PR := (mf_isSign fu 23 F G).bind (fun q => mb_function_154 fu x1 4 0 q.1 q.2.1 q.2.2)
def mb_function_140 (fu : Nat) (F : PF) (G : PG) : PR := some (0, F, G)
def mb_function_137 (fu : Nat) (x1 : Int32) (z0 : Int32) (F : PF) (G : PG) : PR := if z0 = (0 : Int32) then mb_function_140 fu F G else mb_function_142 fu x1 F G
def mb_function_131 (fu : Nat) (x1 : Int32) (F : PF) (G : PG) : PR := (mf_openSign fu 22 F G).bind (fun q => mb_function_137 fu x1 q.1 q.2.1 q.2.2)
def mb_function_127 (fu : Nat) (x1 : Int32) (F : PF) (G : PG) : PR := (mf_begins fu F G).bind (fun q => mb_function_131 fu x1 q.2.1 q.2.2)
def mb_function_122 (fu : Nat) (x1 : Int32) (F : PF) (G : PG) : PR := mb_function_127 fu x1 (fup F 51 (0 : Int32)) G
def mb_function_117 (fu : Nat) (x1 : Int32) (F : PF) (G : PG) : PR := mb_function_122 fu x1 (fup F 53 (0 : Int32)) G
def mb_function_112 (fu : Nat) (x1 : Int32) (F : PF) (G : PG) : PR := mb_function_117 fu x1 (fup F 52 (0 : Int32)) G
def mb_function_107 (fu : Nat) (x1 : Int32) (F : PF) (G : PG) : PR := mb_function_112 fu x1 (fup F 64 (-1 : Int32)) G
def mb_function_102 (fu : Nat) (x1 : Int32) (F : PF) (G : PG) : PR := mb_function_107 fu x1 (fup F 63 (-1 : Int32)) G
def mb_function_97 (fu : Nat) (x1 : Int32) (F : PF) (G : PG) : PR := mb_function_102 fu x1 (fup F 50 x1) G
def mb_function_90 (fu : Nat) (x1 : Int32) (F : PF) (G : PG) : PR := mb_function_97 fu x1 (fup F 24 (x1 + (1 : Int32))) G
def mb_function_83 (fu : Nat) (x1 : Int32) (F : PF) (G : PG) : PR := if ixb x1 500 = true then (mb_function_90 fu x1 F (gup G 32 x1.toNatClampNeg (-1 : Int32))) else none
def mb_function_76 (fu : Nat) (x1 : Int32) (F : PF) (G : PG) : PR := if ixb x1 500 = true then (mb_function_83 fu x1 F (gup G 27 x1.toNatClampNeg (0 : Int32))) else none
def mb_function_66 (fu : Nat) (x1 : Int32) (F : PF) (G : PG) : PR := if ixb x1 500 = true then (mb_function_76 fu x1 F (gup G 31 x1.toNatClampNeg (F 35))) else none
def mb_function_59 (fu : Nat) (x1 : Int32) (x3 : Int32) (F : PF) (G : PG) : PR := if ixb x1 500 = true then (mb_function_66 fu x1 F (gup G 33 x1.toNatClampNeg (vp_nar .boolean x3))) else none
def mb_function_47 (fu : Nat) (x1 : Int32) (x2 : Int32) (x3 : Int32) (F : PF) (G : PG) : PR := if ixb x2 4002 = true then (if ixb x1 500 = true then (mb_function_59 fu x1 x3 F (gup G 26 x1.toNatClampNeg (G 6 x2.toNatClampNeg))) else none) else none
def mb_function_35 (fu : Nat) (x1 : Int32) (x2 : Int32) (x3 : Int32) (F : PF) (G : PG) : PR := if ixb x2 4002 = true then (if ixb x1 500 = true then (mb_function_47 fu x1 x2 x3 F (gup G 25 x1.toNatClampNeg (G 5 x2.toNatClampNeg))) else none) else none
def mb_function_28 (fu : Nat) (x1 : Int32) (x2 : Int32) (x3 : Int32) (F : PF) (G : PG) : PR := if (F 46) = (0 : Int32) then mb_function_35 fu x1 x2 x3 F G else mb_function_97 fu x1 F G
def mb_function_16 (fu : Nat) (x1 : Int32) (x2 : Int32) (x3 : Int32) (F : PF) (G : PG) : PR := if ixb x2 4002 = true then ((mf_note fu 11 (G 6 x2.toNatClampNeg) F G).bind (fun q => mb_function_28 fu x1 x2 x3 q.2.1 q.2.2)) else none
def mb_function_10 (fu : Nat) (x1 : Int32) (x2 : Int32) (x3 : Int32) (F : PF) (G : PG) : PR := if x1 < (40 : Int32) then mb_function_28 fu x1 x2 x3 F G else mb_function_16 fu x1 x2 x3 F G
def mb_function_5 (fu : Nat) (x1 : Int32) (x2 : Int32) (x3 : Int32) (F : PF) (G : PG) : PR := (mf_twice fu x2 F G).bind (fun q => mb_function_10 fu x1 x2 x3 q.2.1 q.2.2)
def mb_function_0 (fu : Nat) (x1 : Int32) (x2 : Int32) (x3 : Int32) (F : PF) (G : PG) : PR := mb_function_5 fu x1 x2 x3 (fup F 61 (1 : Int32)) G
def mf_function (fu : Nat) (x1 : Int32) (x2 : Int32) (x3 : Int32) (F : PF) (G : PG) : PR := mb_function_0 fu x1 x2 x3 F G
theorem mw_function_385 (fu : Nat) {res : Int32 × PF × PG} (C : mMC p R s m args c A v RX12 cX12_function 8 608 36176) (hret : ∀ (H1 : Heap) (locs1 : List Loc) (ls1 : Array Slot) (pc : Nat), mMW s A v a res.2.1 res.2.2 H1 locs1 → narrow .boolean (.int res.1) = .int res.1 → decode cX12_function pc = .ok (.ireturn, 1) → W p l e R s m args below meth c H1 locs1 0 0 Q (F0 m pc ls1 [.int res.1])) (F : PF) (G : PG) (hm : mb_function_385 fu F G = some res) {H : Heap} {locs : List Loc} (hw : mMW s A v a F G H locs) {ls : Array Slot} (hl : lv_has ls 8 []) : W p l e R s m args below meth c H locs 0 0 Q (F0 m 385 ls []) := by
  have hx := C.1
  have hb := C.2.1
  unfold mb_function_385 at hm
  refine lv_iconst (v := 1) hx hb dX12_function_385 (by decide) ?_
  obtain rfl := Option.some.inj hm
  exact hret _ _ _ _ hw (b01_nar (v := 1) (Or.inr rfl)) dX12_function_386
theorem mw_function_380 (fu : Nat) {res : Int32 × PF × PG} (C : mMC p R s m args c A v RX12 cX12_function 8 608 36176) (hret : ∀ (H1 : Heap) (locs1 : List Loc) (ls1 : Array Slot) (pc : Nat), mMW s A v a res.2.1 res.2.2 H1 locs1 → narrow .boolean (.int res.1) = .int res.1 → decode cX12_function pc = .ok (.ireturn, 1) → W p l e R s m args below meth c H1 locs1 0 0 Q (F0 m pc ls1 [.int res.1])) (F : PF) (G : PG) (hm : mb_function_380 fu F G = some res) {H : Heap} {locs : List Loc} (hw : mMW s A v a F G H locs) {ls : Array Slot} (hl : lv_has ls 8 [(0, .ref (a 212))]) : W p l e R s m args below meth c H locs 0 0 Q (F0 m 380 ls []) := by
  have hx := C.1
  have hb := C.2.1
  unfold mb_function_380 at hm
  refine lv_aload_n hx hb dX12_function_380 rfl (lv_at hl 0 rfl) ?_
  refine lv_iconst (v := (-1)) hx hb dX12_function_381 (by decide) ?_
  refine mp_X12_294 C hw dX12_function_382 (fun H locs hw => ?_)
  exact mw_function_385 fu C hret (fup F 50 (-1 : Int32)) G hm hw (lv_sub hl [] rfl)
theorem mw_function_375 (fu : Nat) {res : Int32 × PF × PG} (C : mMC p R s m args c A v RX12 cX12_function 8 608 36176) (hret : ∀ (H1 : Heap) (locs1 : List Loc) (ls1 : Array Slot) (pc : Nat), mMW s A v a res.2.1 res.2.2 H1 locs1 → narrow .boolean (.int res.1) = .int res.1 → decode cX12_function pc = .ok (.ireturn, 1) → W p l e R s m args below meth c H1 locs1 0 0 Q (F0 m pc ls1 [.int res.1])) (F : PF) (G : PG) (hm : mb_function_375 fu F G = some res) {H : Heap} {locs : List Loc} (hw : mMW s A v a F G H locs) {ls : Array Slot} (hl : lv_has ls 8 [(0, .ref (a 212))]) : W p l e R s m args below meth c H locs 0 0 Q (F0 m 375 ls []) := by
  have hx := C.1
  have hb := C.2.1
  unfold mb_function_375 at hm
  refine lv_aload_n hx hb dX12_function_375 rfl (lv_at hl 0 rfl) ?_
  refine lv_iconst (v := 0) hx hb dX12_function_376 (by decide) ?_
  obtain ⟨⟨r1, F1, G1⟩, hc, hm⟩ := bind_elim hm
  refine mcallV (n := 1) (As := [.int 0]) (rest := []) C hw (mk_ends l v a _ fu 0 F G r1 F1 G1 hc) (mrecv_X12 C hw) mm_376 mm_377 mm_378 mm_27 mm_379 (by decide +kernel) rfl (by omega) (by omega) hl.1 rfl (Nat.le_of_ble_eq_true rfl) dX12_function_377 (fun H locs hw => ?_)
  exact mw_function_380 fu C hret F1 G1 hm hw (lv_sub hl [0] rfl)
theorem mw_function_365 (fu : Nat) {res : Int32 × PF × PG} (C : mMC p R s m args c A v RX12 cX12_function 8 608 36176) (hret : ∀ (H1 : Heap) (locs1 : List Loc) (ls1 : Array Slot) (pc : Nat), mMW s A v a res.2.1 res.2.2 H1 locs1 → narrow .boolean (.int res.1) = .int res.1 → decode cX12_function pc = .ok (.ireturn, 1) → W p l e R s m args below meth c H1 locs1 0 0 Q (F0 m pc ls1 [.int res.1])) (x1 : Int32) (F : PF) (G : PG) (hm : mb_function_365 fu x1 F G = some res) {H : Heap} {locs : List Loc} (hw : mMW s A v a F G H locs) {ls : Array Slot} (hl : lv_has ls 8 [(0, .ref (a 212)), (1, .int x1)]) : W p l e R s m args below meth c H locs 0 0 Q (F0 m 365 ls []) := by
  have hx := C.1
  have hb := C.2.1
  unfold mb_function_365 at hm
  refine lv_aload_n hx hb dX12_function_365 rfl (lv_at hl 0 rfl) ?_
  refine mg_X12_74 C hw dX12_function_366 ?_
  refine lv_iload_n hx hb dX12_function_369 rfl (lv_at hl 1 rfl) ?_
  refine lv_aload_n hx hb dX12_function_370 rfl (lv_at hl 0 rfl) ?_
  refine mg_X12_386 C hw dX12_function_371 ?_
  obtain ⟨hi, hm⟩ := ix_elim hm
  refine mas_29 C hw hi dX12_function_374 (fun H locs hw => ?_)
  exact mw_function_375 fu C hret F (gup G 29 x1.toNatClampNeg (F 53)) hm hw (lv_sub hl [0] rfl)
theorem mw_function_351 (fu : Nat) {res : Int32 × PF × PG} (C : mMC p R s m args c A v RX12 cX12_function 8 608 36176) (hret : ∀ (H1 : Heap) (locs1 : List Loc) (ls1 : Array Slot) (pc : Nat), mMW s A v a res.2.1 res.2.2 H1 locs1 → narrow .boolean (.int res.1) = .int res.1 → decode cX12_function pc = .ok (.ireturn, 1) → W p l e R s m args below meth c H1 locs1 0 0 Q (F0 m pc ls1 [.int res.1])) (x1 : Int32) (x4 : Int32) (z0 : Int32) (F : PF) (G : PG) (hm : mb_function_351 fu x1 x4 z0 F G = some res) {H : Heap} {locs : List Loc} (hw : mMW s A v a F G H locs) {ls : Array Slot} (hl : lv_has ls 8 [(0, .ref (a 212)), (1, .int x1), (4, .int x4)]) : W p l e R s m args below meth c H locs 0 0 Q (F0 m 351 ls [.int z0]) := by
  have hx := C.1
  have hb := C.2.1
  unfold mb_function_351 at hm
  refine lv_pop hx hb dX12_function_351 rfl ?_
  refine lv_aload_n hx hb dX12_function_352 rfl (lv_at hl 0 rfl) ?_
  refine mg_X12_71 C hw dX12_function_353 ?_
  refine lv_iload_n hx hb dX12_function_356 rfl (lv_at hl 1 rfl) ?_
  refine lv_iload hx hb dX12_function_357 (lv_at hl 2 rfl) ?_
  refine lv_aload_n hx hb dX12_function_359 rfl (lv_at hl 0 rfl) ?_
  refine mg_X12_383 C hw dX12_function_360 ?_
  refine lv_iadd hx hb dX12_function_363 ?_
  obtain ⟨hi, hm⟩ := ix_elim hm
  refine mas_28 C hw hi dX12_function_364 (fun H locs hw => ?_)
  exact mw_function_365 fu C hret x1 F (gup G 28 x1.toNatClampNeg (x4 + (F 52))) hm hw (lv_sub hl [0, 1] rfl)
theorem mw_function_342 (fu : Nat) {res : Int32 × PF × PG} (C : mMC p R s m args c A v RX12 cX12_function 8 608 36176) (hret : ∀ (H1 : Heap) (locs1 : List Loc) (ls1 : Array Slot) (pc : Nat), mMW s A v a res.2.1 res.2.2 H1 locs1 → narrow .boolean (.int res.1) = .int res.1 → decode cX12_function pc = .ok (.ireturn, 1) → W p l e R s m args below meth c H1 locs1 0 0 Q (F0 m pc ls1 [.int res.1])) (x1 : Int32) (x4 : Int32) (z0 : Int32) (F : PF) (G : PG) (hm : mb_function_342 fu x1 x4 z0 F G = some res) {H : Heap} {locs : List Loc} (hw : mMW s A v a F G H locs) {ls : Array Slot} (hl : lv_has ls 8 [(0, .ref (a 212)), (1, .int x1), (4, .int x4)]) : W p l e R s m args below meth c H locs 0 0 Q (F0 m 342 ls [.int z0]) := by
  have hx := C.1
  have hb := C.2.1
  unfold mb_function_342 at hm
  refine lv_pop hx hb dX12_function_342 rfl ?_
  refine lv_aload_n hx hb dX12_function_343 rfl (lv_at hl 0 rfl) ?_
  refine lv_bipush (v := 17) hx hb dX12_function_344 (by decide) ?_
  refine lv_iconst (v := 0) hx hb dX12_function_346 (by decide) ?_
  refine lv_iconst (v := 0) hx hb dX12_function_347 (by decide) ?_
  obtain ⟨⟨r1, F1, G1⟩, hc, hm⟩ := bind_elim hm
  refine mcallI (n := 3) (As := [.int 17, .int 0, .int 0]) (rest := []) C hw (mk_step l v a _ fu 17 0 0 F G r1 F1 G1 hc) (mrecv_X12 C hw) mm_203 mm_204 mm_205 mm_27 mm_206 (by decide +kernel) rfl (by omega) (by omega) hl.1 rfl (Nat.le_of_ble_eq_true rfl) dX12_function_348 (fun H locs hw => ?_)
  exact mw_function_351 fu C hret x1 x4 r1 F1 G1 hm hw (lv_sub hl [0, 1, 2] rfl)
theorem mw_function_335 (fu : Nat) {res : Int32 × PF × PG} (C : mMC p R s m args c A v RX12 cX12_function 8 608 36176) (hret : ∀ (H1 : Heap) (locs1 : List Loc) (ls1 : Array Slot) (pc : Nat), mMW s A v a res.2.1 res.2.2 H1 locs1 → narrow .boolean (.int res.1) = .int res.1 → decode cX12_function pc = .ok (.ireturn, 1) → W p l e R s m args below meth c H1 locs1 0 0 Q (F0 m pc ls1 [.int res.1])) (x1 : Int32) (x4 : Int32) (F : PF) (G : PG) (hm : mb_function_335 fu x1 x4 F G = some res) {H : Heap} {locs : List Loc} (hw : mMW s A v a F G H locs) {ls : Array Slot} (hl : lv_has ls 8 [(0, .ref (a 212)), (1, .int x1), (4, .int x4)]) : W p l e R s m args below meth c H locs 0 0 Q (F0 m 335 ls []) := by
  have hx := C.1
  have hb := C.2.1
  unfold mb_function_335 at hm
  refine lv_aload_n hx hb dX12_function_335 rfl (lv_at hl 0 rfl) ?_
  refine lv_iconst (v := 0) hx hb dX12_function_336 (by decide) ?_
  refine lv_iconst (v := 0) hx hb dX12_function_337 (by decide) ?_
  refine lv_iconst (v := 0) hx hb dX12_function_338 (by decide) ?_
  obtain ⟨⟨r1, F1, G1⟩, hc, hm⟩ := bind_elim hm
  refine mcallI (n := 3) (As := [.int 0, .int 0, .int 0]) (rest := []) C hw (mk_step l v a _ fu 0 0 0 F G r1 F1 G1 hc) (mrecv_X12 C hw) mm_203 mm_204 mm_205 mm_27 mm_206 (by decide +kernel) rfl (by omega) (by omega) hl.1 rfl (Nat.le_of_ble_eq_true rfl) dX12_function_339 (fun H locs hw => ?_)
  exact mw_function_342 fu C hret x1 x4 r1 F1 G1 hm hw (lv_sub hl [0, 1, 2] rfl)
theorem mw_function_333 (fu : Nat) {res : Int32 × PF × PG} (C : mMC p R s m args c A v RX12 cX12_function 8 608 36176) (hret : ∀ (H1 : Heap) (locs1 : List Loc) (ls1 : Array Slot) (pc : Nat), mMW s A v a res.2.1 res.2.2 H1 locs1 → narrow .boolean (.int res.1) = .int res.1 → decode cX12_function pc = .ok (.ireturn, 1) → W p l e R s m args below meth c H1 locs1 0 0 Q (F0 m pc ls1 [.int res.1])) (F : PF) (G : PG) (hm : mb_function_333 fu F G = some res) {H : Heap} {locs : List Loc} (hw : mMW s A v a F G H locs) {ls : Array Slot} (hl : lv_has ls 8 []) : W p l e R s m args below meth c H locs 0 0 Q (F0 m 333 ls []) := by
  have hx := C.1
  have hb := C.2.1
  unfold mb_function_333 at hm
  refine lv_iconst (v := 0) hx hb dX12_function_333 (by decide) ?_
  obtain rfl := Option.some.inj hm
  exact hret _ _ _ _ hw (b01_nar (v := 0) (Or.inl rfl)) dX12_function_334
theorem mw_function_330 (fu : Nat) {res : Int32 × PF × PG} (C : mMC p R s m args c A v RX12 cX12_function 8 608 36176) (hret : ∀ (H1 : Heap) (locs1 : List Loc) (ls1 : Array Slot) (pc : Nat), mMW s A v a res.2.1 res.2.2 H1 locs1 → narrow .boolean (.int res.1) = .int res.1 → decode cX12_function pc = .ok (.ireturn, 1) → W p l e R s m args below meth c H1 locs1 0 0 Q (F0 m pc ls1 [.int res.1])) (x1 : Int32) (x4 : Int32) (z0 : Int32) (F : PF) (G : PG) (hm : mb_function_330 fu x1 x4 z0 F G = some res) {H : Heap} {locs : List Loc} (hw : mMW s A v a F G H locs) {ls : Array Slot} (hl : lv_has ls 8 [(0, .ref (a 212)), (1, .int x1), (4, .int x4)]) : W p l e R s m args below meth c H locs 0 0 Q (F0 m 330 ls [.int z0]) := by
  have hx := C.1
  have hb := C.2.1
  unfold mb_function_330 at hm
  refine lv_if_ne (tgt := 335) hx hb dX12_function_330 (by decide) (fun c_1 => ?_) (fun c_1 => ?_)
  · have hm := (if_neg c_1).symm.trans hm
    exact mw_function_335 fu C hret x1 x4 F G hm hw (lv_sub hl [0, 1, 2] rfl)
  · have hm := (if_pos c_1).symm.trans hm
    exact mw_function_333 fu C hret F G hm hw (lv_sub hl [] rfl)
theorem mw_function_326 (fu : Nat) {res : Int32 × PF × PG} (C : mMC p R s m args c A v RX12 cX12_function 8 608 36176) (hret : ∀ (H1 : Heap) (locs1 : List Loc) (ls1 : Array Slot) (pc : Nat), mMW s A v a res.2.1 res.2.2 H1 locs1 → narrow .boolean (.int res.1) = .int res.1 → decode cX12_function pc = .ok (.ireturn, 1) → W p l e R s m args below meth c H1 locs1 0 0 Q (F0 m pc ls1 [.int res.1])) (x1 : Int32) (x4 : Int32) (F : PF) (G : PG) (hm : mb_function_326 fu x1 x4 F G = some res) {H : Heap} {locs : List Loc} (hw : mMW s A v a F G H locs) {ls : Array Slot} (hl : lv_has ls 8 [(0, .ref (a 212)), (1, .int x1), (4, .int x4)]) : W p l e R s m args below meth c H locs 0 0 Q (F0 m 326 ls []) := by
  have hx := C.1
  have hb := C.2.1
  unfold mb_function_326 at hm
  refine lv_aload_n hx hb dX12_function_326 rfl (lv_at hl 0 rfl) ?_
  obtain ⟨⟨r1, F1, G1⟩, hc, hm⟩ := bind_elim hm
  refine mcallI (n := 0) (As := []) (rest := []) C hw (mk_block l v a _ fu F G r1 F1 G1 hc) (mrecv_X12 C hw) mm_338 mm_339 mm_340 mm_27 mm_341 (by decide +kernel) rfl (by omega) (by omega) hl.1 rfl (Nat.le_of_ble_eq_true rfl) dX12_function_327 (fun H locs hw => ?_)
  exact mw_function_330 fu C hret x1 x4 r1 F1 G1 hm hw (lv_sub hl [0, 1, 2] rfl)
theorem mw_function_325 (fu : Nat) {res : Int32 × PF × PG} (C : mMC p R s m args c A v RX12 cX12_function 8 608 36176) (hret : ∀ (H1 : Heap) (locs1 : List Loc) (ls1 : Array Slot) (pc : Nat), mMW s A v a res.2.1 res.2.2 H1 locs1 → narrow .boolean (.int res.1) = .int res.1 → decode cX12_function pc = .ok (.ireturn, 1) → W p l e R s m args below meth c H1 locs1 0 0 Q (F0 m pc ls1 [.int res.1])) (z0 : Int32) (F : PF) (G : PG) (hm : mb_function_325 fu z0 F G = some res) {H : Heap} {locs : List Loc} (hw : mMW s A v a F G H locs) {ls : Array Slot} (hl : lv_has ls 8 []) : W p l e R s m args below meth c H locs 0 0 Q (F0 m 325 ls [.int z0]) := by
  have hx := C.1
  have hb := C.2.1
  unfold mb_function_325 at hm
  obtain ⟨hz, hm⟩ := b01_elim hm
  obtain rfl := Option.some.inj hm
  exact hret _ _ _ _ hw (b01_nar hz) dX12_function_325
theorem mw_function_320 (fu : Nat) {res : Int32 × PF × PG} (C : mMC p R s m args c A v RX12 cX12_function 8 608 36176) (hret : ∀ (H1 : Heap) (locs1 : List Loc) (ls1 : Array Slot) (pc : Nat), mMW s A v a res.2.1 res.2.2 H1 locs1 → narrow .boolean (.int res.1) = .int res.1 → decode cX12_function pc = .ok (.ireturn, 1) → W p l e R s m args below meth c H1 locs1 0 0 Q (F0 m pc ls1 [.int res.1])) (F : PF) (G : PG) (hm : mb_function_320 fu F G = some res) {H : Heap} {locs : List Loc} (hw : mMW s A v a F G H locs) {ls : Array Slot} (hl : lv_has ls 8 [(0, .ref (a 212))]) : W p l e R s m args below meth c H locs 0 0 Q (F0 m 320 ls []) := by
  have hx := C.1
  have hb := C.2.1
  unfold mb_function_320 at hm
  refine lv_aload_n hx hb dX12_function_320 rfl (lv_at hl 0 rfl) ?_
  refine lv_iconst (v := 2) hx hb dX12_function_321 (by decide) ?_
  obtain ⟨⟨r1, F1, G1⟩, hc, hm⟩ := bind_elim hm
  refine mcallI (n := 1) (As := [.int 2]) (rest := []) C hw (mk_fails l v a _ fu 2 F G r1 F1 G1 hc) (mrecv_X12 C hw) mm_166 mm_167 mm_168 mm_27 mm_169 (by decide +kernel) rfl (by omega) (by omega) hl.1 rfl (Nat.le_of_ble_eq_true rfl) dX12_function_322 (fun H locs hw => ?_)
  exact mw_function_325 fu C hret r1 F1 G1 hm hw (lv_sub hl [] rfl)
theorem mw_function_317 (fu : Nat) {res : Int32 × PF × PG} (C : mMC p R s m args c A v RX12 cX12_function 8 608 36176) (hret : ∀ (H1 : Heap) (locs1 : List Loc) (ls1 : Array Slot) (pc : Nat), mMW s A v a res.2.1 res.2.2 H1 locs1 → narrow .boolean (.int res.1) = .int res.1 → decode cX12_function pc = .ok (.ireturn, 1) → W p l e R s m args below meth c H1 locs1 0 0 Q (F0 m pc ls1 [.int res.1])) (x1 : Int32) (x4 : Int32) (z0 : Int32) (F : PF) (G : PG) (hm : mb_function_317 fu x1 x4 z0 F G = some res) {H : Heap} {locs : List Loc} (hw : mMW s A v a F G H locs) {ls : Array Slot} (hl : lv_has ls 8 [(0, .ref (a 212)), (1, .int x1), (4, .int x4)]) : W p l e R s m args below meth c H locs 0 0 Q (F0 m 317 ls [.int z0]) := by
  have hx := C.1
  have hb := C.2.1
  unfold mb_function_317 at hm
  refine lv_if_ne (tgt := 326) hx hb dX12_function_317 (by decide) (fun c_1 => ?_) (fun c_1 => ?_)
  · have hm := (if_neg c_1).symm.trans hm
    exact mw_function_326 fu C hret x1 x4 F G hm hw (lv_sub hl [0, 1, 2] rfl)
  · have hm := (if_pos c_1).symm.trans hm
    exact mw_function_320 fu C hret F G hm hw (lv_sub hl [0] rfl)
theorem mw_function_311 (fu : Nat) {res : Int32 × PF × PG} (C : mMC p R s m args c A v RX12 cX12_function 8 608 36176) (hret : ∀ (H1 : Heap) (locs1 : List Loc) (ls1 : Array Slot) (pc : Nat), mMW s A v a res.2.1 res.2.2 H1 locs1 → narrow .boolean (.int res.1) = .int res.1 → decode cX12_function pc = .ok (.ireturn, 1) → W p l e R s m args below meth c H1 locs1 0 0 Q (F0 m pc ls1 [.int res.1])) (x1 : Int32) (x4 : Int32) (F : PF) (G : PG) (hm : mb_function_311 fu x1 x4 F G = some res) {H : Heap} {locs : List Loc} (hw : mMW s A v a F G H locs) {ls : Array Slot} (hl : lv_has ls 8 [(0, .ref (a 212)), (1, .int x1), (4, .int x4)]) : W p l e R s m args below meth c H locs 0 0 Q (F0 m 311 ls []) := by
  have hx := C.1
  have hb := C.2.1
  unfold mb_function_311 at hm
  refine lv_aload_n hx hb dX12_function_311 rfl (lv_at hl 0 rfl) ?_
  refine lv_bipush (v := 26) hx hb dX12_function_312 (by decide) ?_
  obtain ⟨⟨r1, F1, G1⟩, hc, hm⟩ := bind_elim hm
  refine mcallI (n := 1) (As := [.int 26]) (rest := []) C hw (mk_isSign l v a _ fu 26 F G r1 F1 G1 hc) (mrecv_X12 C hw) mm_183 mm_184 mm_185 mm_27 mm_186 (by decide +kernel) rfl (by omega) (by omega) hl.1 rfl (Nat.le_of_ble_eq_true rfl) dX12_function_314 (fun H locs hw => ?_)
  exact mw_function_317 fu C hret x1 x4 r1 F1 G1 hm hw (lv_sub hl [0, 1, 2] rfl)
theorem mw_function_301 (fu : Nat) {res : Int32 × PF × PG} (C : mMC p R s m args c A v RX12 cX12_function 8 608 36176) (hret : ∀ (H1 : Heap) (locs1 : List Loc) (ls1 : Array Slot) (pc : Nat), mMW s A v a res.2.1 res.2.2 H1 locs1 → narrow .boolean (.int res.1) = .int res.1 → decode cX12_function pc = .ok (.ireturn, 1) → W p l e R s m args below meth c H1 locs1 0 0 Q (F0 m pc ls1 [.int res.1])) (x1 : Int32) (x4 : Int32) (F : PF) (G : PG) (hm : mb_function_301 fu x1 x4 F G = some res) {H : Heap} {locs : List Loc} (hw : mMW s A v a F G H locs) {ls : Array Slot} (hl : lv_has ls 8 [(0, .ref (a 212)), (1, .int x1), (4, .int x4)]) : W p l e R s m args below meth c H locs 0 0 Q (F0 m 301 ls []) := by
  have hx := C.1
  have hb := C.2.1
  unfold mb_function_301 at hm
  refine lv_aload_n hx hb dX12_function_301 rfl (lv_at hl 0 rfl) ?_
  refine mg_X12_77 C hw dX12_function_302 ?_
  refine lv_iload_n hx hb dX12_function_305 rfl (lv_at hl 1 rfl) ?_
  refine lv_aload_n hx hb dX12_function_306 rfl (lv_at hl 0 rfl) ?_
  refine mg_X12_276 C hw dX12_function_307 ?_
  obtain ⟨hi, hm⟩ := ix_elim hm
  refine mas_30 C hw hi dX12_function_310 (fun H locs hw => ?_)
  exact mw_function_311 fu C hret x1 x4 F (gup G 30 x1.toNatClampNeg (F 60)) hm hw (lv_sub hl [0, 1, 2] rfl)
theorem mw_function_293 (fu : Nat) {res : Int32 × PF × PG} (C : mMC p R s m args c A v RX12 cX12_function 8 608 36176) (hret : ∀ (H1 : Heap) (locs1 : List Loc) (ls1 : Array Slot) (pc : Nat), mMW s A v a res.2.1 res.2.2 H1 locs1 → narrow .boolean (.int res.1) = .int res.1 → decode cX12_function pc = .ok (.ireturn, 1) → W p l e R s m args below meth c H1 locs1 0 0 Q (F0 m pc ls1 [.int res.1])) (x1 : Int32) (x4 : Int32) (x5 : Int32) (F : PF) (G : PG) (hm : mb_function_293 fu x1 x4 x5 F G = some res) {H : Heap} {locs : List Loc} (hw : mMW s A v a F G H locs) {ls : Array Slot} (hl : lv_has ls 8 [(0, .ref (a 212)), (1, .int x1), (4, .int x4), (5, .int x5)]) : W p l e R s m args below meth c H locs 0 0 Q (F0 m 293 ls []) := by
  have hx := C.1
  have hb := C.2.1
  unfold mb_function_293 at hm
  refine lv_aload_n hx hb dX12_function_293 rfl (lv_at hl 0 rfl) ?_
  refine mg_X12_68 C hw dX12_function_294 ?_
  refine lv_iload_n hx hb dX12_function_297 rfl (lv_at hl 1 rfl) ?_
  refine lv_iload hx hb dX12_function_298 (lv_at hl 3 rfl) ?_
  obtain ⟨hi, hm⟩ := ix_elim hm
  refine mas_27 C hw hi dX12_function_300 (fun H locs hw => ?_)
  exact mw_function_301 fu C hret x1 x4 F (gup G 27 x1.toNatClampNeg x5) hm hw (lv_sub hl [0, 1, 2] rfl)
theorem mw_function_291 (fu : Nat) {res : Int32 × PF × PG} (C : mMC p R s m args c A v RX12 cX12_function 8 608 36176) (hret : ∀ (H1 : Heap) (locs1 : List Loc) (ls1 : Array Slot) (pc : Nat), mMW s A v a res.2.1 res.2.2 H1 locs1 → narrow .boolean (.int res.1) = .int res.1 → decode cX12_function pc = .ok (.ireturn, 1) → W p l e R s m args below meth c H1 locs1 0 0 Q (F0 m pc ls1 [.int res.1])) (F : PF) (G : PG) (hm : mb_function_291 fu F G = some res) {H : Heap} {locs : List Loc} (hw : mMW s A v a F G H locs) {ls : Array Slot} (hl : lv_has ls 8 []) : W p l e R s m args below meth c H locs 0 0 Q (F0 m 291 ls []) := by
  have hx := C.1
  have hb := C.2.1
  unfold mb_function_291 at hm
  refine lv_iconst (v := 0) hx hb dX12_function_291 (by decide) ?_
  obtain rfl := Option.some.inj hm
  exact hret _ _ _ _ hw (b01_nar (v := 0) (Or.inl rfl)) dX12_function_292
theorem mw_function_288 (fu : Nat) {res : Int32 × PF × PG} (C : mMC p R s m args c A v RX12 cX12_function 8 608 36176) (hret : ∀ (H1 : Heap) (locs1 : List Loc) (ls1 : Array Slot) (pc : Nat), mMW s A v a res.2.1 res.2.2 H1 locs1 → narrow .boolean (.int res.1) = .int res.1 → decode cX12_function pc = .ok (.ireturn, 1) → W p l e R s m args below meth c H1 locs1 0 0 Q (F0 m pc ls1 [.int res.1])) (x1 : Int32) (x4 : Int32) (x5 : Int32) (z0 : Int32) (F : PF) (G : PG) (hm : mb_function_288 fu x1 x4 x5 z0 F G = some res) {H : Heap} {locs : List Loc} (hw : mMW s A v a F G H locs) {ls : Array Slot} (hl : lv_has ls 8 [(0, .ref (a 212)), (1, .int x1), (4, .int x4), (5, .int x5)]) : W p l e R s m args below meth c H locs 0 0 Q (F0 m 288 ls [.int z0]) := by
  have hx := C.1
  have hb := C.2.1
  unfold mb_function_288 at hm
  refine lv_if_ne (tgt := 293) hx hb dX12_function_288 (by decide) (fun c_1 => ?_) (fun c_1 => ?_)
  · have hm := (if_neg c_1).symm.trans hm
    exact mw_function_293 fu C hret x1 x4 x5 F G hm hw (lv_sub hl [0, 1, 2, 3] rfl)
  · have hm := (if_pos c_1).symm.trans hm
    exact mw_function_291 fu C hret F G hm hw (lv_sub hl [] rfl)
theorem mw_function_282 (fu : Nat) {res : Int32 × PF × PG} (C : mMC p R s m args c A v RX12 cX12_function 8 608 36176) (hret : ∀ (H1 : Heap) (locs1 : List Loc) (ls1 : Array Slot) (pc : Nat), mMW s A v a res.2.1 res.2.2 H1 locs1 → narrow .boolean (.int res.1) = .int res.1 → decode cX12_function pc = .ok (.ireturn, 1) → W p l e R s m args below meth c H1 locs1 0 0 Q (F0 m pc ls1 [.int res.1])) (x1 : Int32) (x4 : Int32) (x5 : Int32) (F : PF) (G : PG) (hm : mb_function_282 fu x1 x4 x5 F G = some res) {H : Heap} {locs : List Loc} (hw : mMW s A v a F G H locs) {ls : Array Slot} (hl : lv_has ls 8 [(0, .ref (a 212)), (1, .int x1), (4, .int x4), (5, .int x5)]) : W p l e R s m args below meth c H locs 0 0 Q (F0 m 282 ls []) := by
  have hx := C.1
  have hb := C.2.1
  unfold mb_function_282 at hm
  refine lv_aload_n hx hb dX12_function_282 rfl (lv_at hl 0 rfl) ?_
  refine lv_bipush (v := 23) hx hb dX12_function_283 (by decide) ?_
  obtain ⟨⟨r1, F1, G1⟩, hc, hm⟩ := bind_elim hm
  refine mcallI (n := 1) (As := [.int 23]) (rest := []) C hw (mk_closeSign l v a _ fu 23 F G r1 F1 G1 hc) (mrecv_X12 C hw) mm_248 mm_249 mm_250 mm_27 mm_251 (by decide +kernel) rfl (by omega) (by omega) hl.1 rfl (Nat.le_of_ble_eq_true rfl) dX12_function_285 (fun H locs hw => ?_)
  exact mw_function_288 fu C hret x1 x4 x5 r1 F1 G1 hm hw (lv_sub hl [0, 1, 2, 3] rfl)
theorem mw_function_279 (fu : Nat) {res : Int32 × PF × PG} (C : mMC p R s m args c A v RX12 cX12_function 8 608 36176) (hret : ∀ (H1 : Heap) (locs1 : List Loc) (ls1 : Array Slot) (pc : Nat), mMW s A v a res.2.1 res.2.2 H1 locs1 → narrow .boolean (.int res.1) = .int res.1 → decode cX12_function pc = .ok (.ireturn, 1) → W p l e R s m args below meth c H1 locs1 0 0 Q (F0 m pc ls1 [.int res.1])) (ag_177 : Int32 → Int32 → Int32 → Int32 → PF → PG → PR) (hag_177 : ∀ (x1 : Int32) (x4 : Int32) (x5 : Int32) (x6 : Int32) (F : PF) (G : PG), ag_177 x1 x4 x5 x6 F G = some res → ∀ (H : Heap) (locs : List Loc) (ls : Array Slot), mMW s A v a F G H locs → lv_has ls 8 [(0, .ref (a 212)), (1, .int x1), (4, .int x4), (5, .int x5), (6, .int x6)] → W p l e R s m args below meth c H locs 0 0 Q (F0 m 177 ls [])) (x1 : Int32) (x4 : Int32) (x5 : Int32) (x6 : Int32) (F : PF) (G : PG) (hm : mb_function_279 fu ag_177 x1 x4 x5 x6 F G = some res) {H : Heap} {locs : List Loc} (hw : mMW s A v a F G H locs) {ls : Array Slot} (hl : lv_has ls 8 [(0, .ref (a 212)), (1, .int x1), (4, .int x4), (5, .int x5), (6, .int x6)]) : W p l e R s m args below meth c H locs 0 0 Q (F0 m 279 ls []) := by
  have hx := C.1
  have hb := C.2.1
  unfold mb_function_279 at hm
  refine lv_goto (tgt := 177) hx hb dX12_function_279 (by decide) ?_
  exact hag_177 x1 x4 x5 x6 F G hm _ _ _ hw (lv_sub hl [0, 1, 2, 3, 4] rfl)
theorem mw_function_275 (fu : Nat) {res : Int32 × PF × PG} (C : mMC p R s m args c A v RX12 cX12_function 8 608 36176) (hret : ∀ (H1 : Heap) (locs1 : List Loc) (ls1 : Array Slot) (pc : Nat), mMW s A v a res.2.1 res.2.2 H1 locs1 → narrow .boolean (.int res.1) = .int res.1 → decode cX12_function pc = .ok (.ireturn, 1) → W p l e R s m args below meth c H1 locs1 0 0 Q (F0 m pc ls1 [.int res.1])) (ag_177 : Int32 → Int32 → Int32 → Int32 → PF → PG → PR) (hag_177 : ∀ (x1 : Int32) (x4 : Int32) (x5 : Int32) (x6 : Int32) (F : PF) (G : PG), ag_177 x1 x4 x5 x6 F G = some res → ∀ (H : Heap) (locs : List Loc) (ls : Array Slot), mMW s A v a F G H locs → lv_has ls 8 [(0, .ref (a 212)), (1, .int x1), (4, .int x4), (5, .int x5), (6, .int x6)] → W p l e R s m args below meth c H locs 0 0 Q (F0 m 177 ls [])) (x1 : Int32) (x4 : Int32) (x5 : Int32) (x6 : Int32) (z0 : Int32) (z1 : Int32) (F : PF) (G : PG) (hm : mb_function_275 fu ag_177 x1 x4 x5 x6 z0 z1 F G = some res) {H : Heap} {locs : List Loc} (hw : mMW s A v a F G H locs) {ls : Array Slot} (hl : lv_has ls 8 [(0, .ref (a 212)), (1, .int x1), (4, .int x4), (5, .int x5), (6, .int x6)]) : W p l e R s m args below meth c H locs 0 0 Q (F0 m 275 ls [.int z0, .int z1, .ref (a 212)]) := by
  have hx := C.1
  have hb := C.2.1
  unfold mb_function_275 at hm
  refine lv_iadd hx hb dX12_function_275 ?_
  refine mp_X12_233 C hw dX12_function_276 (fun H locs hw => ?_)
  exact mw_function_279 fu C hret ag_177 hag_177 x1 x4 x5 x6 (fup F 42 (z1 + z0)) G hm hw (lv_sub hl [0, 1, 2, 3, 4] rfl)
theorem mw_function_274 (fu : Nat) {res : Int32 × PF × PG} (C : mMC p R s m args c A v RX12 cX12_function 8 608 36176) (hret : ∀ (H1 : Heap) (locs1 : List Loc) (ls1 : Array Slot) (pc : Nat), mMW s A v a res.2.1 res.2.2 H1 locs1 → narrow .boolean (.int res.1) = .int res.1 → decode cX12_function pc = .ok (.ireturn, 1) → W p l e R s m args below meth c H1 locs1 0 0 Q (F0 m pc ls1 [.int res.1])) (ag_177 : Int32 → Int32 → Int32 → Int32 → PF → PG → PR) (hag_177 : ∀ (x1 : Int32) (x4 : Int32) (x5 : Int32) (x6 : Int32) (F : PF) (G : PG), ag_177 x1 x4 x5 x6 F G = some res → ∀ (H : Heap) (locs : List Loc) (ls : Array Slot), mMW s A v a F G H locs → lv_has ls 8 [(0, .ref (a 212)), (1, .int x1), (4, .int x4), (5, .int x5), (6, .int x6)] → W p l e R s m args below meth c H locs 0 0 Q (F0 m 177 ls [])) (x1 : Int32) (x4 : Int32) (x5 : Int32) (x6 : Int32) (z0 : Int32) (F : PF) (G : PG) (hm : mb_function_274 fu ag_177 x1 x4 x5 x6 z0 F G = some res) {H : Heap} {locs : List Loc} (hw : mMW s A v a F G H locs) {ls : Array Slot} (hl : lv_has ls 8 [(0, .ref (a 212)), (1, .int x1), (4, .int x4), (5, .int x5), (6, .int x6)]) : W p l e R s m args below meth c H locs 0 0 Q (F0 m 274 ls [.int z0, .ref (a 212)]) := by
  have hx := C.1
  have hb := C.2.1
  unfold mb_function_274 at hm
  refine lv_iconst (v := 0) hx hb dX12_function_274 (by decide) ?_
  exact mw_function_275 fu C hret ag_177 hag_177 x1 x4 x5 x6 0 z0 F G hm hw (lv_sub hl [0, 1, 2, 3, 4] rfl)
theorem mw_function_270 (fu : Nat) {res : Int32 × PF × PG} (C : mMC p R s m args c A v RX12 cX12_function 8 608 36176) (hret : ∀ (H1 : Heap) (locs1 : List Loc) (ls1 : Array Slot) (pc : Nat), mMW s A v a res.2.1 res.2.2 H1 locs1 → narrow .boolean (.int res.1) = .int res.1 → decode cX12_function pc = .ok (.ireturn, 1) → W p l e R s m args below meth c H1 locs1 0 0 Q (F0 m pc ls1 [.int res.1])) (ag_177 : Int32 → Int32 → Int32 → Int32 → PF → PG → PR) (hag_177 : ∀ (x1 : Int32) (x4 : Int32) (x5 : Int32) (x6 : Int32) (F : PF) (G : PG), ag_177 x1 x4 x5 x6 F G = some res → ∀ (H : Heap) (locs : List Loc) (ls : Array Slot), mMW s A v a F G H locs → lv_has ls 8 [(0, .ref (a 212)), (1, .int x1), (4, .int x4), (5, .int x5), (6, .int x6)] → W p l e R s m args below meth c H locs 0 0 Q (F0 m 177 ls [])) (x1 : Int32) (x4 : Int32) (x5 : Int32) (x6 : Int32) (z0 : Int32) (F : PF) (G : PG) (hm : mb_function_270 fu ag_177 x1 x4 x5 x6 z0 F G = some res) {H : Heap} {locs : List Loc} (hw : mMW s A v a F G H locs) {ls : Array Slot} (hl : lv_has ls 8 [(0, .ref (a 212)), (1, .int x1), (4, .int x4), (5, .int x5), (6, .int x6)]) : W p l e R s m args below meth c H locs 0 0 Q (F0 m 270 ls [.int z0, .ref (a 212)]) := by
  have hx := C.1
  have hb := C.2.1
  unfold mb_function_270 at hm
  refine lv_iconst (v := 1) hx hb dX12_function_270 (by decide) ?_
  refine lv_goto (tgt := 275) hx hb dX12_function_271 (by decide) ?_
  exact mw_function_275 fu C hret ag_177 hag_177 x1 x4 x5 x6 1 z0 F G hm hw (lv_sub hl [0, 1, 2, 3, 4] rfl)
theorem mw_function_258 (fu : Nat) {res : Int32 × PF × PG} (C : mMC p R s m args c A v RX12 cX12_function 8 608 36176) (hret : ∀ (H1 : Heap) (locs1 : List Loc) (ls1 : Array Slot) (pc : Nat), mMW s A v a res.2.1 res.2.2 H1 locs1 → narrow .boolean (.int res.1) = .int res.1 → decode cX12_function pc = .ok (.ireturn, 1) → W p l e R s m args below meth c H1 locs1 0 0 Q (F0 m pc ls1 [.int res.1])) (ag_177 : Int32 → Int32 → Int32 → Int32 → PF → PG → PR) (hag_177 : ∀ (x1 : Int32) (x4 : Int32) (x5 : Int32) (x6 : Int32) (F : PF) (G : PG), ag_177 x1 x4 x5 x6 F G = some res → ∀ (H : Heap) (locs : List Loc) (ls : Array Slot), mMW s A v a F G H locs → lv_has ls 8 [(0, .ref (a 212)), (1, .int x1), (4, .int x4), (5, .int x5), (6, .int x6)] → W p l e R s m args below meth c H locs 0 0 Q (F0 m 177 ls [])) (x1 : Int32) (x4 : Int32) (x5 : Int32) (z0 : Int32) (F : PF) (G : PG) (hm : mb_function_258 fu ag_177 x1 x4 x5 z0 F G = some res) {H : Heap} {locs : List Loc} (hw : mMW s A v a F G H locs) {ls : Array Slot} (hl : lv_has ls 8 [(0, .ref (a 212)), (1, .int x1), (4, .int x4), (5, .int x5)]) : W p l e R s m args below meth c H locs 0 0 Q (F0 m 258 ls [.int z0]) := by
  have hx := C.1
  have hb := C.2.1
  unfold mb_function_258 at hm
  refine lv_istore (lv' := [(6, .int z0), (0, .ref (a 212)), (1, .int x1), (4, .int x4), (5, .int x5)]) hx hb dX12_function_258 hl (by decide) rfl (fun ls hl => ?_)
  refine lv_aload_n hx hb dX12_function_260 rfl (lv_at hl 1 rfl) ?_
  refine lv_dup hx hb dX12_function_261 rfl ?_
  refine mg_X12_233 C hw dX12_function_262 ?_
  refine lv_iload hx hb dX12_function_265 (lv_at hl 0 rfl) ?_
  refine lv_if_eq (tgt := 274) hx hb dX12_function_267 (by decide) (fun c_1 => ?_) (fun c_1 => ?_)
  · have hm := (if_pos c_1).symm.trans hm
    exact mw_function_274 fu C hret ag_177 hag_177 x1 x4 x5 z0 (F 42) F G hm hw (lv_sub hl [1, 2, 3, 4, 0] rfl)
  · have hm := (if_neg c_1).symm.trans hm
    exact mw_function_270 fu C hret ag_177 hag_177 x1 x4 x5 z0 (F 42) F G hm hw (lv_sub hl [1, 2, 3, 4, 0] rfl)
theorem mw_function_246 (fu : Nat) {res : Int32 × PF × PG} (C : mMC p R s m args c A v RX12 cX12_function 8 608 36176) (hret : ∀ (H1 : Heap) (locs1 : List Loc) (ls1 : Array Slot) (pc : Nat), mMW s A v a res.2.1 res.2.2 H1 locs1 → narrow .boolean (.int res.1) = .int res.1 → decode cX12_function pc = .ok (.ireturn, 1) → W p l e R s m args below meth c H1 locs1 0 0 Q (F0 m pc ls1 [.int res.1])) (ag_177 : Int32 → Int32 → Int32 → Int32 → PF → PG → PR) (hag_177 : ∀ (x1 : Int32) (x4 : Int32) (x5 : Int32) (x6 : Int32) (F : PF) (G : PG), ag_177 x1 x4 x5 x6 F G = some res → ∀ (H : Heap) (locs : List Loc) (ls : Array Slot), mMW s A v a F G H locs → lv_has ls 8 [(0, .ref (a 212)), (1, .int x1), (4, .int x4), (5, .int x5), (6, .int x6)] → W p l e R s m args below meth c H locs 0 0 Q (F0 m 177 ls [])) (x1 : Int32) (x5 : Int32) (z0 : Int32) (z1 : Int32) (F : PF) (G : PG) (hm : mb_function_246 fu ag_177 x1 x5 z0 z1 F G = some res) {H : Heap} {locs : List Loc} (hw : mMW s A v a F G H locs) {ls : Array Slot} (hl : lv_has ls 8 [(0, .ref (a 212)), (1, .int x1), (5, .int x5)]) : W p l e R s m args below meth c H locs 0 0 Q (F0 m 246 ls [.int z0, .int z1]) := by
  have hx := C.1
  have hb := C.2.1
  unfold mb_function_246 at hm
  refine lv_iadd hx hb dX12_function_246 ?_
  refine lv_istore (lv' := [(4, .int (z1 + z0)), (0, .ref (a 212)), (1, .int x1), (5, .int x5)]) hx hb dX12_function_247 hl (by decide) rfl (fun ls hl => ?_)
  refine lv_iinc (v := (x5 + 1)) (lv' := [(5, .int (x5 + 1)), (4, .int (z1 + z0)), (0, .ref (a 212)), (1, .int x1)]) hx hb dX12_function_249 hl (k := 3) rfl (by rfl) (by decide) rfl (fun ls hl => ?_)
  refine lv_aload_n hx hb dX12_function_252 rfl (lv_at hl 2 rfl) ?_
  refine lv_bipush (v := 28) hx hb dX12_function_253 (by decide) ?_
  obtain ⟨⟨r1, F1, G1⟩, hc, hm⟩ := bind_elim hm
  refine mcallI (n := 1) (As := [.int 28]) (rest := []) C hw (mk_isSign l v a _ fu 28 F G r1 F1 G1 hc) (mrecv_X12 C hw) mm_183 mm_184 mm_185 mm_27 mm_186 (by decide +kernel) rfl (by omega) (by omega) hl.1 rfl (Nat.le_of_ble_eq_true rfl) dX12_function_255 (fun H locs hw => ?_)
  exact mw_function_258 fu C hret ag_177 hag_177 x1 (z1 + z0) (x5 + 1) r1 F1 G1 hm hw (lv_sub hl [2, 3, 1, 0] rfl)
theorem mw_function_245 (fu : Nat) {res : Int32 × PF × PG} (C : mMC p R s m args c A v RX12 cX12_function 8 608 36176) (hret : ∀ (H1 : Heap) (locs1 : List Loc) (ls1 : Array Slot) (pc : Nat), mMW s A v a res.2.1 res.2.2 H1 locs1 → narrow .boolean (.int res.1) = .int res.1 → decode cX12_function pc = .ok (.ireturn, 1) → W p l e R s m args below meth c H1 locs1 0 0 Q (F0 m pc ls1 [.int res.1])) (ag_177 : Int32 → Int32 → Int32 → Int32 → PF → PG → PR) (hag_177 : ∀ (x1 : Int32) (x4 : Int32) (x5 : Int32) (x6 : Int32) (F : PF) (G : PG), ag_177 x1 x4 x5 x6 F G = some res → ∀ (H : Heap) (locs : List Loc) (ls : Array Slot), mMW s A v a F G H locs → lv_has ls 8 [(0, .ref (a 212)), (1, .int x1), (4, .int x4), (5, .int x5), (6, .int x6)] → W p l e R s m args below meth c H locs 0 0 Q (F0 m 177 ls [])) (x1 : Int32) (x5 : Int32) (z0 : Int32) (F : PF) (G : PG) (hm : mb_function_245 fu ag_177 x1 x5 z0 F G = some res) {H : Heap} {locs : List Loc} (hw : mMW s A v a F G H locs) {ls : Array Slot} (hl : lv_has ls 8 [(0, .ref (a 212)), (1, .int x1), (5, .int x5)]) : W p l e R s m args below meth c H locs 0 0 Q (F0 m 245 ls [.int z0]) := by
  have hx := C.1
  have hb := C.2.1
  unfold mb_function_245 at hm
  refine lv_iconst (v := 2) hx hb dX12_function_245 (by decide) ?_
  exact mw_function_246 fu C hret ag_177 hag_177 x1 x5 2 z0 F G hm hw (lv_sub hl [0, 1, 2] rfl)
theorem mw_function_241 (fu : Nat) {res : Int32 × PF × PG} (C : mMC p R s m args c A v RX12 cX12_function 8 608 36176) (hret : ∀ (H1 : Heap) (locs1 : List Loc) (ls1 : Array Slot) (pc : Nat), mMW s A v a res.2.1 res.2.2 H1 locs1 → narrow .boolean (.int res.1) = .int res.1 → decode cX12_function pc = .ok (.ireturn, 1) → W p l e R s m args below meth c H1 locs1 0 0 Q (F0 m pc ls1 [.int res.1])) (ag_177 : Int32 → Int32 → Int32 → Int32 → PF → PG → PR) (hag_177 : ∀ (x1 : Int32) (x4 : Int32) (x5 : Int32) (x6 : Int32) (F : PF) (G : PG), ag_177 x1 x4 x5 x6 F G = some res → ∀ (H : Heap) (locs : List Loc) (ls : Array Slot), mMW s A v a F G H locs → lv_has ls 8 [(0, .ref (a 212)), (1, .int x1), (4, .int x4), (5, .int x5), (6, .int x6)] → W p l e R s m args below meth c H locs 0 0 Q (F0 m 177 ls [])) (x1 : Int32) (x5 : Int32) (z0 : Int32) (F : PF) (G : PG) (hm : mb_function_241 fu ag_177 x1 x5 z0 F G = some res) {H : Heap} {locs : List Loc} (hw : mMW s A v a F G H locs) {ls : Array Slot} (hl : lv_has ls 8 [(0, .ref (a 212)), (1, .int x1), (5, .int x5)]) : W p l e R s m args below meth c H locs 0 0 Q (F0 m 241 ls [.int z0]) := by
  have hx := C.1
  have hb := C.2.1
  unfold mb_function_241 at hm
  refine lv_iconst (v := 1) hx hb dX12_function_241 (by decide) ?_
  refine lv_goto (tgt := 246) hx hb dX12_function_242 (by decide) ?_
  exact mw_function_246 fu C hret ag_177 hag_177 x1 x5 1 z0 F G hm hw (lv_sub hl [0, 1, 2] rfl)
theorem mw_function_234 (fu : Nat) {res : Int32 × PF × PG} (C : mMC p R s m args c A v RX12 cX12_function 8 608 36176) (hret : ∀ (H1 : Heap) (locs1 : List Loc) (ls1 : Array Slot) (pc : Nat), mMW s A v a res.2.1 res.2.2 H1 locs1 → narrow .boolean (.int res.1) = .int res.1 → decode cX12_function pc = .ok (.ireturn, 1) → W p l e R s m args below meth c H1 locs1 0 0 Q (F0 m pc ls1 [.int res.1])) (ag_177 : Int32 → Int32 → Int32 → Int32 → PF → PG → PR) (hag_177 : ∀ (x1 : Int32) (x4 : Int32) (x5 : Int32) (x6 : Int32) (F : PF) (G : PG), ag_177 x1 x4 x5 x6 F G = some res → ∀ (H : Heap) (locs : List Loc) (ls : Array Slot), mMW s A v a F G H locs → lv_has ls 8 [(0, .ref (a 212)), (1, .int x1), (4, .int x4), (5, .int x5), (6, .int x6)] → W p l e R s m args below meth c H locs 0 0 Q (F0 m 177 ls [])) (x1 : Int32) (x4 : Int32) (x5 : Int32) (x7 : Int32) (F : PF) (G : PG) (hm : mb_function_234 fu ag_177 x1 x4 x5 x7 F G = some res) {H : Heap} {locs : List Loc} (hw : mMW s A v a F G H locs) {ls : Array Slot} (hl : lv_has ls 8 [(0, .ref (a 212)), (1, .int x1), (4, .int x4), (5, .int x5), (7, .int x7)]) : W p l e R s m args below meth c H locs 0 0 Q (F0 m 234 ls []) := by
  have hx := C.1
  have hb := C.2.1
  unfold mb_function_234 at hm
  refine lv_iload hx hb dX12_function_234 (lv_at hl 2 rfl) ?_
  refine lv_iload hx hb dX12_function_236 (lv_at hl 4 rfl) ?_
  refine lv_if_ne (tgt := 245) hx hb dX12_function_238 (by decide) (fun c_1 => ?_) (fun c_1 => ?_)
  · have hm := (if_neg c_1).symm.trans hm
    exact mw_function_245 fu C hret ag_177 hag_177 x1 x5 x4 F G hm hw (lv_sub hl [0, 1, 3] rfl)
  · have hm := (if_pos c_1).symm.trans hm
    exact mw_function_241 fu C hret ag_177 hag_177 x1 x5 x4 F G hm hw (lv_sub hl [0, 1, 3] rfl)
theorem mw_function_224 (fu : Nat) {res : Int32 × PF × PG} (C : mMC p R s m args c A v RX12 cX12_function 8 608 36176) (hret : ∀ (H1 : Heap) (locs1 : List Loc) (ls1 : Array Slot) (pc : Nat), mMW s A v a res.2.1 res.2.2 H1 locs1 → narrow .boolean (.int res.1) = .int res.1 → decode cX12_function pc = .ok (.ireturn, 1) → W p l e R s m args below meth c H1 locs1 0 0 Q (F0 m pc ls1 [.int res.1])) (ag_177 : Int32 → Int32 → Int32 → Int32 → PF → PG → PR) (hag_177 : ∀ (x1 : Int32) (x4 : Int32) (x5 : Int32) (x6 : Int32) (F : PF) (G : PG), ag_177 x1 x4 x5 x6 F G = some res → ∀ (H : Heap) (locs : List Loc) (ls : Array Slot), mMW s A v a F G H locs → lv_has ls 8 [(0, .ref (a 212)), (1, .int x1), (4, .int x4), (5, .int x5), (6, .int x6)] → W p l e R s m args below meth c H locs 0 0 Q (F0 m 177 ls [])) (x1 : Int32) (x4 : Int32) (x5 : Int32) (x7 : Int32) (F : PF) (G : PG) (hm : mb_function_224 fu ag_177 x1 x4 x5 x7 F G = some res) {H : Heap} {locs : List Loc} (hw : mMW s A v a F G H locs) {ls : Array Slot} (hl : lv_has ls 8 [(0, .ref (a 212)), (1, .int x1), (4, .int x4), (5, .int x5), (7, .int x7)]) : W p l e R s m args below meth c H locs 0 0 Q (F0 m 224 ls []) := by
  have hx := C.1
  have hb := C.2.1
  unfold mb_function_224 at hm
  refine lv_aload_n hx hb dX12_function_224 rfl (lv_at hl 0 rfl) ?_
  refine lv_dup hx hb dX12_function_225 rfl ?_
  refine mg_X12_300 C hw dX12_function_226 ?_
  refine lv_iconst (v := 1) hx hb dX12_function_229 (by decide) ?_
  refine lv_iadd hx hb dX12_function_230 ?_
  refine mp_X12_300 C hw dX12_function_231 (fun H locs hw => ?_)
  exact mw_function_234 fu C hret ag_177 hag_177 x1 x4 x5 x7 (fup F 35 ((F 35) + (1 : Int32))) G hm hw (lv_sub hl [0, 1, 2, 3, 4] rfl)
theorem mw_function_213 (fu : Nat) {res : Int32 × PF × PG} (C : mMC p R s m args c A v RX12 cX12_function 8 608 36176) (hret : ∀ (H1 : Heap) (locs1 : List Loc) (ls1 : Array Slot) (pc : Nat), mMW s A v a res.2.1 res.2.2 H1 locs1 → narrow .boolean (.int res.1) = .int res.1 → decode cX12_function pc = .ok (.ireturn, 1) → W p l e R s m args below meth c H1 locs1 0 0 Q (F0 m pc ls1 [.int res.1])) (ag_177 : Int32 → Int32 → Int32 → Int32 → PF → PG → PR) (hag_177 : ∀ (x1 : Int32) (x4 : Int32) (x5 : Int32) (x6 : Int32) (F : PF) (G : PG), ag_177 x1 x4 x5 x6 F G = some res → ∀ (H : Heap) (locs : List Loc) (ls : Array Slot), mMW s A v a F G H locs → lv_has ls 8 [(0, .ref (a 212)), (1, .int x1), (4, .int x4), (5, .int x5), (6, .int x6)] → W p l e R s m args below meth c H locs 0 0 Q (F0 m 177 ls [])) (x1 : Int32) (x4 : Int32) (x5 : Int32) (x7 : Int32) (F : PF) (G : PG) (hm : mb_function_213 fu ag_177 x1 x4 x5 x7 F G = some res) {H : Heap} {locs : List Loc} (hw : mMW s A v a F G H locs) {ls : Array Slot} (hl : lv_has ls 8 [(0, .ref (a 212)), (1, .int x1), (4, .int x4), (5, .int x5), (7, .int x7)]) : W p l e R s m args below meth c H locs 0 0 Q (F0 m 213 ls []) := by
  have hx := C.1
  have hb := C.2.1
  unfold mb_function_213 at hm
  refine lv_aload_n hx hb dX12_function_213 rfl (lv_at hl 0 rfl) ?_
  refine mg_X12_89 C hw dX12_function_214 ?_
  refine lv_aload_n hx hb dX12_function_217 rfl (lv_at hl 0 rfl) ?_
  refine mg_X12_300 C hw dX12_function_218 ?_
  refine lv_iload hx hb dX12_function_221 (lv_at hl 4 rfl) ?_
  obtain ⟨hi, hm⟩ := ix_elim hm
  refine mas_34 C hw hi dX12_function_223 (fun H locs hw => ?_)
  exact mw_function_224 fu C hret ag_177 hag_177 x1 x4 x5 x7 F (gup G 34 (F 35).toNatClampNeg x7) hm hw (lv_sub hl [0, 1, 2, 3, 4] rfl)
theorem mw_function_206 (fu : Nat) {res : Int32 × PF × PG} (C : mMC p R s m args c A v RX12 cX12_function 8 608 36176) (hret : ∀ (H1 : Heap) (locs1 : List Loc) (ls1 : Array Slot) (pc : Nat), mMW s A v a res.2.1 res.2.2 H1 locs1 → narrow .boolean (.int res.1) = .int res.1 → decode cX12_function pc = .ok (.ireturn, 1) → W p l e R s m args below meth c H1 locs1 0 0 Q (F0 m pc ls1 [.int res.1])) (ag_177 : Int32 → Int32 → Int32 → Int32 → PF → PG → PR) (hag_177 : ∀ (x1 : Int32) (x4 : Int32) (x5 : Int32) (x6 : Int32) (F : PF) (G : PG), ag_177 x1 x4 x5 x6 F G = some res → ∀ (H : Heap) (locs : List Loc) (ls : Array Slot), mMW s A v a F G H locs → lv_has ls 8 [(0, .ref (a 212)), (1, .int x1), (4, .int x4), (5, .int x5), (6, .int x6)] → W p l e R s m args below meth c H locs 0 0 Q (F0 m 177 ls [])) (x1 : Int32) (x4 : Int32) (x5 : Int32) (x7 : Int32) (F : PF) (G : PG) (hm : mb_function_206 fu ag_177 x1 x4 x5 x7 F G = some res) {H : Heap} {locs : List Loc} (hw : mMW s A v a F G H locs) {ls : Array Slot} (hl : lv_has ls 8 [(0, .ref (a 212)), (1, .int x1), (4, .int x4), (5, .int x5), (7, .int x7)]) : W p l e R s m args below meth c H locs 0 0 Q (F0 m 206 ls []) := by
  have hx := C.1
  have hb := C.2.1
  unfold mb_function_206 at hm
  refine lv_aload_n hx hb dX12_function_206 rfl (lv_at hl 0 rfl) ?_
  refine mg_X12_245 C hw dX12_function_207 ?_
  refine lv_if_ne (tgt := 234) hx hb dX12_function_210 (by decide) (fun c_1 => ?_) (fun c_1 => ?_)
  · have hm := (if_neg c_1).symm.trans hm
    exact mw_function_234 fu C hret ag_177 hag_177 x1 x4 x5 x7 F G hm hw (lv_sub hl [0, 1, 2, 3, 4] rfl)
  · have hm := (if_pos c_1).symm.trans hm
    exact mw_function_213 fu C hret ag_177 hag_177 x1 x4 x5 x7 F G hm hw (lv_sub hl [0, 1, 2, 3, 4] rfl)
theorem mw_function_204 (fu : Nat) {res : Int32 × PF × PG} (C : mMC p R s m args c A v RX12 cX12_function 8 608 36176) (hret : ∀ (H1 : Heap) (locs1 : List Loc) (ls1 : Array Slot) (pc : Nat), mMW s A v a res.2.1 res.2.2 H1 locs1 → narrow .boolean (.int res.1) = .int res.1 → decode cX12_function pc = .ok (.ireturn, 1) → W p l e R s m args below meth c H1 locs1 0 0 Q (F0 m pc ls1 [.int res.1])) (F : PF) (G : PG) (hm : mb_function_204 fu F G = some res) {H : Heap} {locs : List Loc} (hw : mMW s A v a F G H locs) {ls : Array Slot} (hl : lv_has ls 8 []) : W p l e R s m args below meth c H locs 0 0 Q (F0 m 204 ls []) := by
  have hx := C.1
  have hb := C.2.1
  unfold mb_function_204 at hm
  refine lv_iconst (v := 0) hx hb dX12_function_204 (by decide) ?_
  obtain rfl := Option.some.inj hm
  exact hret _ _ _ _ hw (b01_nar (v := 0) (Or.inl rfl)) dX12_function_205
theorem mw_function_195 (fu : Nat) {res : Int32 × PF × PG} (C : mMC p R s m args c A v RX12 cX12_function 8 608 36176) (hret : ∀ (H1 : Heap) (locs1 : List Loc) (ls1 : Array Slot) (pc : Nat), mMW s A v a res.2.1 res.2.2 H1 locs1 → narrow .boolean (.int res.1) = .int res.1 → decode cX12_function pc = .ok (.ireturn, 1) → W p l e R s m args below meth c H1 locs1 0 0 Q (F0 m pc ls1 [.int res.1])) (ag_177 : Int32 → Int32 → Int32 → Int32 → PF → PG → PR) (hag_177 : ∀ (x1 : Int32) (x4 : Int32) (x5 : Int32) (x6 : Int32) (F : PF) (G : PG), ag_177 x1 x4 x5 x6 F G = some res → ∀ (H : Heap) (locs : List Loc) (ls : Array Slot), mMW s A v a F G H locs → lv_has ls 8 [(0, .ref (a 212)), (1, .int x1), (4, .int x4), (5, .int x5), (6, .int x6)] → W p l e R s m args below meth c H locs 0 0 Q (F0 m 177 ls [])) (x1 : Int32) (x4 : Int32) (x5 : Int32) (z0 : Int32) (F : PF) (G : PG) (hm : mb_function_195 fu ag_177 x1 x4 x5 z0 F G = some res) {H : Heap} {locs : List Loc} (hw : mMW s A v a F G H locs) {ls : Array Slot} (hl : lv_has ls 8 [(0, .ref (a 212)), (1, .int x1), (4, .int x4), (5, .int x5)]) : W p l e R s m args below meth c H locs 0 0 Q (F0 m 195 ls [.int z0]) := by
  have hx := C.1
  have hb := C.2.1
  unfold mb_function_195 at hm
  refine lv_istore (lv' := [(7, .int z0), (0, .ref (a 212)), (1, .int x1), (4, .int x4), (5, .int x5)]) hx hb dX12_function_195 hl (by decide) rfl (fun ls hl => ?_)
  refine lv_aload_n hx hb dX12_function_197 rfl (lv_at hl 1 rfl) ?_
  refine mg_X12_230 C hw dX12_function_198 ?_
  refine lv_if_le (tgt := 206) hx hb dX12_function_201 (by decide) (fun c_1 => ?_) (fun c_1 => ?_)
  · have hm := (if_pos c_1).symm.trans hm
    exact mw_function_206 fu C hret ag_177 hag_177 x1 x4 x5 z0 F G hm hw (lv_sub hl [1, 2, 3, 4, 0] rfl)
  · have hm := (if_neg c_1).symm.trans hm
    exact mw_function_204 fu C hret F G hm hw (lv_sub hl [] rfl)
theorem mw_function_189 (fu : Nat) {res : Int32 × PF × PG} (C : mMC p R s m args c A v RX12 cX12_function 8 608 36176) (hret : ∀ (H1 : Heap) (locs1 : List Loc) (ls1 : Array Slot) (pc : Nat), mMW s A v a res.2.1 res.2.2 H1 locs1 → narrow .boolean (.int res.1) = .int res.1 → decode cX12_function pc = .ok (.ireturn, 1) → W p l e R s m args below meth c H1 locs1 0 0 Q (F0 m pc ls1 [.int res.1])) (ag_177 : Int32 → Int32 → Int32 → Int32 → PF → PG → PR) (hag_177 : ∀ (x1 : Int32) (x4 : Int32) (x5 : Int32) (x6 : Int32) (F : PF) (G : PG), ag_177 x1 x4 x5 x6 F G = some res → ∀ (H : Heap) (locs : List Loc) (ls : Array Slot), mMW s A v a F G H locs → lv_has ls 8 [(0, .ref (a 212)), (1, .int x1), (4, .int x4), (5, .int x5), (6, .int x6)] → W p l e R s m args below meth c H locs 0 0 Q (F0 m 177 ls [])) (x1 : Int32) (x4 : Int32) (x5 : Int32) (F : PF) (G : PG) (hm : mb_function_189 fu ag_177 x1 x4 x5 F G = some res) {H : Heap} {locs : List Loc} (hw : mMW s A v a F G H locs) {ls : Array Slot} (hl : lv_has ls 8 [(0, .ref (a 212)), (1, .int x1), (4, .int x4), (5, .int x5)]) : W p l e R s m args below meth c H locs 0 0 Q (F0 m 189 ls []) := by
  have hx := C.1
  have hb := C.2.1
  unfold mb_function_189 at hm
  refine lv_aload_n hx hb dX12_function_189 rfl (lv_at hl 0 rfl) ?_
  refine lv_iload hx hb dX12_function_190 (lv_at hl 3 rfl) ?_
  obtain ⟨⟨r1, F1, G1⟩, hc, hm⟩ := bind_elim hm
  refine mcallI (n := 1) (As := [.int x5]) (rest := []) C hw (mk_formalHere l v a _ fu x5 F G r1 F1 G1 hc) (mrecv_X12 C hw) mm_334 mm_335 mm_336 mm_27 mm_337 (by decide +kernel) rfl (by omega) (by omega) hl.1 rfl (Nat.le_of_ble_eq_true rfl) dX12_function_192 (fun H locs hw => ?_)
  exact mw_function_195 fu C hret ag_177 hag_177 x1 x4 x5 r1 F1 G1 hm hw (lv_sub hl [0, 1, 2, 3] rfl)
theorem mw_function_182 (fu : Nat) {res : Int32 × PF × PG} (C : mMC p R s m args c A v RX12 cX12_function 8 608 36176) (hret : ∀ (H1 : Heap) (locs1 : List Loc) (ls1 : Array Slot) (pc : Nat), mMW s A v a res.2.1 res.2.2 H1 locs1 → narrow .boolean (.int res.1) = .int res.1 → decode cX12_function pc = .ok (.ireturn, 1) → W p l e R s m args below meth c H1 locs1 0 0 Q (F0 m pc ls1 [.int res.1])) (ag_177 : Int32 → Int32 → Int32 → Int32 → PF → PG → PR) (hag_177 : ∀ (x1 : Int32) (x4 : Int32) (x5 : Int32) (x6 : Int32) (F : PF) (G : PG), ag_177 x1 x4 x5 x6 F G = some res → ∀ (H : Heap) (locs : List Loc) (ls : Array Slot), mMW s A v a F G H locs → lv_has ls 8 [(0, .ref (a 212)), (1, .int x1), (4, .int x4), (5, .int x5), (6, .int x6)] → W p l e R s m args below meth c H locs 0 0 Q (F0 m 177 ls [])) (x1 : Int32) (x4 : Int32) (x5 : Int32) (F : PF) (G : PG) (hm : mb_function_182 fu ag_177 x1 x4 x5 F G = some res) {H : Heap} {locs : List Loc} (hw : mMW s A v a F G H locs) {ls : Array Slot} (hl : lv_has ls 8 [(0, .ref (a 212)), (1, .int x1), (4, .int x4), (5, .int x5)]) : W p l e R s m args below meth c H locs 0 0 Q (F0 m 182 ls []) := by
  have hx := C.1
  have hb := C.2.1
  unfold mb_function_182 at hm
  refine lv_aload_n hx hb dX12_function_182 rfl (lv_at hl 0 rfl) ?_
  refine mg_X12_230 C hw dX12_function_183 ?_
  refine lv_if_ne (tgt := 282) hx hb dX12_function_186 (by decide) (fun c_1 => ?_) (fun c_1 => ?_)
  · have hm := (if_neg c_1).symm.trans hm
    exact mw_function_282 fu C hret x1 x4 x5 F G hm hw (lv_sub hl [0, 1, 2, 3] rfl)
  · have hm := (if_pos c_1).symm.trans hm
    exact mw_function_189 fu C hret ag_177 hag_177 x1 x4 x5 F G hm hw (lv_sub hl [0, 1, 2, 3] rfl)
theorem mw_function_177 (fu : Nat) {res : Int32 × PF × PG} (C : mMC p R s m args c A v RX12 cX12_function 8 608 36176) (hret : ∀ (H1 : Heap) (locs1 : List Loc) (ls1 : Array Slot) (pc : Nat), mMW s A v a res.2.1 res.2.2 H1 locs1 → narrow .boolean (.int res.1) = .int res.1 → decode cX12_function pc = .ok (.ireturn, 1) → W p l e R s m args below meth c H1 locs1 0 0 Q (F0 m pc ls1 [.int res.1])) (ag_177 : Int32 → Int32 → Int32 → Int32 → PF → PG → PR) (hag_177 : ∀ (x1 : Int32) (x4 : Int32) (x5 : Int32) (x6 : Int32) (F : PF) (G : PG), ag_177 x1 x4 x5 x6 F G = some res → ∀ (H : Heap) (locs : List Loc) (ls : Array Slot), mMW s A v a F G H locs → lv_has ls 8 [(0, .ref (a 212)), (1, .int x1), (4, .int x4), (5, .int x5), (6, .int x6)] → W p l e R s m args below meth c H locs 0 0 Q (F0 m 177 ls [])) (x1 : Int32) (x4 : Int32) (x5 : Int32) (x6 : Int32) (F : PF) (G : PG) (hm : mb_function_177 fu ag_177 x1 x4 x5 x6 F G = some res) {H : Heap} {locs : List Loc} (hw : mMW s A v a F G H locs) {ls : Array Slot} (hl : lv_has ls 8 [(0, .ref (a 212)), (1, .int x1), (4, .int x4), (5, .int x5), (6, .int x6)]) : W p l e R s m args below meth c H locs 0 0 Q (F0 m 177 ls []) := by
  have hx := C.1
  have hb := C.2.1
  unfold mb_function_177 at hm
  refine lv_iload hx hb dX12_function_177 (lv_at hl 4 rfl) ?_
  refine lv_if_eq (tgt := 282) hx hb dX12_function_179 (by decide) (fun c_1 => ?_) (fun c_1 => ?_)
  · have hm := (if_pos c_1).symm.trans hm
    exact mw_function_282 fu C hret x1 x4 x5 F G hm hw (lv_sub hl [0, 1, 2, 3] rfl)
  · have hm := (if_neg c_1).symm.trans hm
    exact mw_function_182 fu C hret ag_177 hag_177 x1 x4 x5 F G hm hw (lv_sub hl [0, 1, 2, 3] rfl)
theorem mwl_function_177 (fu : Nat) {res : Int32 × PF × PG} (C : mMC p R s m args c A v RX12 cX12_function 8 608 36176) (hret : ∀ (H1 : Heap) (locs1 : List Loc) (ls1 : Array Slot) (pc : Nat), mMW s A v a res.2.1 res.2.2 H1 locs1 → narrow .boolean (.int res.1) = .int res.1 → decode cX12_function pc = .ok (.ireturn, 1) → W p l e R s m args below meth c H1 locs1 0 0 Q (F0 m pc ls1 [.int res.1])) : ∀ (n : Nat) (x1 : Int32) (x4 : Int32) (x5 : Int32) (x6 : Int32) (F : PF) (G : PG) (hm : ml_function_177 fu n x1 x4 x5 x6 F G = some res) {H : Heap} {locs : List Loc} (hw : mMW s A v a F G H locs) {ls : Array Slot} (hl : lv_has ls 8 [(0, .ref (a 212)), (1, .int x1), (4, .int x4), (5, .int x5), (6, .int x6)]), W p l e R s m args below meth c H locs 0 0 Q (F0 m 177 ls []) := by
  intro n
  induction n with
  | zero =>
    intro x1 x4 x5 x6 F G hm
    exact no_elim (show (none : PR) = some res from hm)
  | succ n ih =>
    intro x1 x4 x5 x6 F G hm H locs hw ls hl
    exact mw_function_177 fu C hret (ml_function_177 fu n) (fun x1 x4 x5 x6 F G hm H locs ls hw hl => ih x1 x4 x5 x6 F G hm hw hl) x1 x4 x5 x6 F G hm hw hl
theorem mw_function_174 (fu : Nat) {res : Int32 × PF × PG} (C : mMC p R s m args c A v RX12 cX12_function 8 608 36176) (hret : ∀ (H1 : Heap) (locs1 : List Loc) (ls1 : Array Slot) (pc : Nat), mMW s A v a res.2.1 res.2.2 H1 locs1 → narrow .boolean (.int res.1) = .int res.1 → decode cX12_function pc = .ok (.ireturn, 1) → W p l e R s m args below meth c H1 locs1 0 0 Q (F0 m pc ls1 [.int res.1])) (x1 : Int32) (x4 : Int32) (x5 : Int32) (F : PF) (G : PG) (hm : mb_function_174 fu x1 x4 x5 F G = some res) {H : Heap} {locs : List Loc} (hw : mMW s A v a F G H locs) {ls : Array Slot} (hl : lv_has ls 8 [(0, .ref (a 212)), (1, .int x1), (4, .int x4), (5, .int x5)]) : W p l e R s m args below meth c H locs 0 0 Q (F0 m 174 ls []) := by
  have hx := C.1
  have hb := C.2.1
  unfold mb_function_174 at hm
  refine lv_iconst (v := 1) hx hb dX12_function_174 (by decide) ?_
  refine lv_istore (lv' := [(6, .int 1), (0, .ref (a 212)), (1, .int x1), (4, .int x4), (5, .int x5)]) hx hb dX12_function_175 hl (by decide) rfl (fun ls hl => ?_)
  exact mwl_function_177 fu C hret fu x1 x4 x5 1 F G hm hw (lv_sub hl [1, 2, 3, 4, 0] rfl)
theorem mw_function_164 (fu : Nat) {res : Int32 × PF × PG} (C : mMC p R s m args c A v RX12 cX12_function 8 608 36176) (hret : ∀ (H1 : Heap) (locs1 : List Loc) (ls1 : Array Slot) (pc : Nat), mMW s A v a res.2.1 res.2.2 H1 locs1 → narrow .boolean (.int res.1) = .int res.1 → decode cX12_function pc = .ok (.ireturn, 1) → W p l e R s m args below meth c H1 locs1 0 0 Q (F0 m pc ls1 [.int res.1])) (x1 : Int32) (x4 : Int32) (x5 : Int32) (F : PF) (G : PG) (hm : mb_function_164 fu x1 x4 x5 F G = some res) {H : Heap} {locs : List Loc} (hw : mMW s A v a F G H locs) {ls : Array Slot} (hl : lv_has ls 8 [(0, .ref (a 212)), (1, .int x1), (4, .int x4), (5, .int x5)]) : W p l e R s m args below meth c H locs 0 0 Q (F0 m 164 ls []) := by
  have hx := C.1
  have hb := C.2.1
  unfold mb_function_164 at hm
  refine lv_aload_n hx hb dX12_function_164 rfl (lv_at hl 0 rfl) ?_
  refine mg_X12_83 C hw dX12_function_165 ?_
  refine lv_iload_n hx hb dX12_function_168 rfl (lv_at hl 1 rfl) ?_
  refine lv_aload_n hx hb dX12_function_169 rfl (lv_at hl 0 rfl) ?_
  refine mg_X12_233 C hw dX12_function_170 ?_
  obtain ⟨hi, hm⟩ := ix_elim hm
  refine mas_32 C hw hi dX12_function_173 (fun H locs hw => ?_)
  exact mw_function_174 fu C hret x1 x4 x5 F (gup G 32 x1.toNatClampNeg (F 42)) hm hw (lv_sub hl [0, 1, 2, 3] rfl)
theorem mw_function_157 (fu : Nat) {res : Int32 × PF × PG} (C : mMC p R s m args c A v RX12 cX12_function 8 608 36176) (hret : ∀ (H1 : Heap) (locs1 : List Loc) (ls1 : Array Slot) (pc : Nat), mMW s A v a res.2.1 res.2.2 H1 locs1 → narrow .boolean (.int res.1) = .int res.1 → decode cX12_function pc = .ok (.ireturn, 1) → W p l e R s m args below meth c H1 locs1 0 0 Q (F0 m pc ls1 [.int res.1])) (x1 : Int32) (x4 : Int32) (x5 : Int32) (F : PF) (G : PG) (hm : mb_function_157 fu x1 x4 x5 F G = some res) {H : Heap} {locs : List Loc} (hw : mMW s A v a F G H locs) {ls : Array Slot} (hl : lv_has ls 8 [(0, .ref (a 212)), (1, .int x1), (4, .int x4), (5, .int x5)]) : W p l e R s m args below meth c H locs 0 0 Q (F0 m 157 ls []) := by
  have hx := C.1
  have hb := C.2.1
  unfold mb_function_157 at hm
  refine lv_aload_n hx hb dX12_function_157 rfl (lv_at hl 0 rfl) ?_
  refine mg_X12_245 C hw dX12_function_158 ?_
  refine lv_if_ne (tgt := 174) hx hb dX12_function_161 (by decide) (fun c_1 => ?_) (fun c_1 => ?_)
  · have hm := (if_neg c_1).symm.trans hm
    exact mw_function_174 fu C hret x1 x4 x5 F G hm hw (lv_sub hl [0, 1, 2, 3] rfl)
  · have hm := (if_pos c_1).symm.trans hm
    exact mw_function_164 fu C hret x1 x4 x5 F G hm hw (lv_sub hl [0, 1, 2, 3] rfl)
theorem mw_function_154 (fu : Nat) {res : Int32 × PF × PG} (C : mMC p R s m args c A v RX12 cX12_function 8 608 36176) (hret : ∀ (H1 : Heap) (locs1 : List Loc) (ls1 : Array Slot) (pc : Nat), mMW s A v a res.2.1 res.2.2 H1 locs1 → narrow .boolean (.int res.1) = .int res.1 → decode cX12_function pc = .ok (.ireturn, 1) → W p l e R s m args below meth c H1 locs1 0 0 Q (F0 m pc ls1 [.int res.1])) (x1 : Int32) (x4 : Int32) (x5 : Int32) (z0 : Int32) (F : PF) (G : PG) (hm : mb_function_154 fu x1 x4 x5 z0 F G = some res) {H : Heap} {locs : List Loc} (hw : mMW s A v a F G H locs) {ls : Array Slot} (hl : lv_has ls 8 [(0, .ref (a 212)), (1, .int x1), (4, .int x4), (5, .int x5)]) : W p l e R s m args below meth c H locs 0 0 Q (F0 m 154 ls [.int z0]) := by
  have hx := C.1
  have hb := C.2.1
  unfold mb_function_154 at hm
  refine lv_if_ne (tgt := 282) hx hb dX12_function_154 (by decide) (fun c_1 => ?_) (fun c_1 => ?_)
  · have hm := (if_neg c_1).symm.trans hm
    exact mw_function_282 fu C hret x1 x4 x5 F G hm hw (lv_sub hl [0, 1, 2, 3] rfl)
  · have hm := (if_pos c_1).symm.trans hm
    exact mw_function_157 fu C hret x1 x4 x5 F G hm hw (lv_sub hl [0, 1, 2, 3] rfl)
theorem mw_function_142 (fu : Nat) {res : Int32 × PF × PG} (C : mMC p R s m args c A v RX12 cX12_function 8 608 36176) (hret : ∀ (H1 : Heap) (locs1 : List Loc) (ls1 : Array Slot) (pc : Nat), mMW s A v a res.2.1 res.2.2 H1 locs1 → narrow .boolean (.int res.1) = .int res.1 → decode cX12_function pc = .ok (.ireturn, 1) → W p l e R s m args below meth c H1 locs1 0 0 Q (F0 m pc ls1 [.int res.1])) (x1 : Int32) (F : PF) (G : PG) (hm : mb_function_142 fu x1 F G = some res) {H : Heap} {locs : List Loc} (hw : mMW s A v a F G H locs) {ls : Array Slot} (hl : lv_has ls 8 [(0, .ref (a 212)), (1, .int x1)]) : W p l e R s m args below meth c H locs 0 0 Q (F0 m 142 ls []) := by
  have hx := C.1
  have hb := C.2.1
  unfold mb_function_142 at hm
  refine lv_iconst (v := 4) hx hb dX12_function_142 (by decide) ?_
  refine lv_istore (lv' := [(4, .int 4), (0, .ref (a 212)), (1, .int x1)]) hx hb dX12_function_143 hl (by decide) rfl (fun ls hl => ?_)
  refine lv_iconst (v := 0) hx hb dX12_function_145 (by decide) ?_
  refine lv_istore (lv' := [(5, .int 0), (4, .int 4), (0, .ref (a 212)), (1, .int x1)]) hx hb dX12_function_146 hl (by decide) rfl (fun ls hl => ?_)
  refine lv_aload_n hx hb dX12_function_148 rfl (lv_at hl 2 rfl) ?_
  refine lv_bipush (v := 23) hx hb dX12_function_149 (by decide) ?_
  obtain ⟨⟨r1, F1, G1⟩, hc, hm⟩ := bind_elim hm
  refine mcallI (n := 1) (As := [.int 23]) (rest := []) C hw (mk_isSign l v a _ fu 23 F G r1 F1 G1 hc) (mrecv_X12 C hw) mm_183 mm_184 mm_185 mm_27 mm_186 (by decide +kernel) rfl (by omega) (by omega) hl.1 rfl (Nat.le_of_ble_eq_true rfl) dX12_function_151 (fun H locs hw => ?_)
  exact mw_function_154 fu C hret x1 4 0 r1 F1 G1 hm hw (lv_sub hl [2, 3, 1, 0] rfl)
theorem mw_function_140 (fu : Nat) {res : Int32 × PF × PG} (C : mMC p R s m args c A v RX12 cX12_function 8 608 36176) (hret : ∀ (H1 : Heap) (locs1 : List Loc) (ls1 : Array Slot) (pc : Nat), mMW s A v a res.2.1 res.2.2 H1 locs1 → narrow .boolean (.int res.1) = .int res.1 → decode cX12_function pc = .ok (.ireturn, 1) → W p l e R s m args below meth c H1 locs1 0 0 Q (F0 m pc ls1 [.int res.1])) (F : PF) (G : PG) (hm : mb_function_140 fu F G = some res) {H : Heap} {locs : List Loc} (hw : mMW s A v a F G H locs) {ls : Array Slot} (hl : lv_has ls 8 []) : W p l e R s m args below meth c H locs 0 0 Q (F0 m 140 ls []) := by
  have hx := C.1
  have hb := C.2.1
  unfold mb_function_140 at hm
  refine lv_iconst (v := 0) hx hb dX12_function_140 (by decide) ?_
  obtain rfl := Option.some.inj hm
  exact hret _ _ _ _ hw (b01_nar (v := 0) (Or.inl rfl)) dX12_function_141
theorem mw_function_137 (fu : Nat) {res : Int32 × PF × PG} (C : mMC p R s m args c A v RX12 cX12_function 8 608 36176) (hret : ∀ (H1 : Heap) (locs1 : List Loc) (ls1 : Array Slot) (pc : Nat), mMW s A v a res.2.1 res.2.2 H1 locs1 → narrow .boolean (.int res.1) = .int res.1 → decode cX12_function pc = .ok (.ireturn, 1) → W p l e R s m args below meth c H1 locs1 0 0 Q (F0 m pc ls1 [.int res.1])) (x1 : Int32) (z0 : Int32) (F : PF) (G : PG) (hm : mb_function_137 fu x1 z0 F G = some res) {H : Heap} {locs : List Loc} (hw : mMW s A v a F G H locs) {ls : Array Slot} (hl : lv_has ls 8 [(0, .ref (a 212)), (1, .int x1)]) : W p l e R s m args below meth c H locs 0 0 Q (F0 m 137 ls [.int z0]) := by
  have hx := C.1
  have hb := C.2.1
  unfold mb_function_137 at hm
  refine lv_if_ne (tgt := 142) hx hb dX12_function_137 (by decide) (fun c_1 => ?_) (fun c_1 => ?_)
  · have hm := (if_neg c_1).symm.trans hm
    exact mw_function_142 fu C hret x1 F G hm hw (lv_sub hl [0, 1] rfl)
  · have hm := (if_pos c_1).symm.trans hm
    exact mw_function_140 fu C hret F G hm hw (lv_sub hl [] rfl)
theorem mw_function_131 (fu : Nat) {res : Int32 × PF × PG} (C : mMC p R s m args c A v RX12 cX12_function 8 608 36176) (hret : ∀ (H1 : Heap) (locs1 : List Loc) (ls1 : Array Slot) (pc : Nat), mMW s A v a res.2.1 res.2.2 H1 locs1 → narrow .boolean (.int res.1) = .int res.1 → decode cX12_function pc = .ok (.ireturn, 1) → W p l e R s m args below meth c H1 locs1 0 0 Q (F0 m pc ls1 [.int res.1])) (x1 : Int32) (F : PF) (G : PG) (hm : mb_function_131 fu x1 F G = some res) {H : Heap} {locs : List Loc} (hw : mMW s A v a F G H locs) {ls : Array Slot} (hl : lv_has ls 8 [(0, .ref (a 212)), (1, .int x1)]) : W p l e R s m args below meth c H locs 0 0 Q (F0 m 131 ls []) := by
  have hx := C.1
  have hb := C.2.1
  unfold mb_function_131 at hm
  refine lv_aload_n hx hb dX12_function_131 rfl (lv_at hl 0 rfl) ?_
  refine lv_bipush (v := 22) hx hb dX12_function_132 (by decide) ?_
  obtain ⟨⟨r1, F1, G1⟩, hc, hm⟩ := bind_elim hm
  refine mcallI (n := 1) (As := [.int 22]) (rest := []) C hw (mk_openSign l v a _ fu 22 F G r1 F1 G1 hc) (mrecv_X12 C hw) mm_241 mm_242 mm_243 mm_27 mm_244 (by decide +kernel) rfl (by omega) (by omega) hl.1 rfl (Nat.le_of_ble_eq_true rfl) dX12_function_134 (fun H locs hw => ?_)
  exact mw_function_137 fu C hret x1 r1 F1 G1 hm hw (lv_sub hl [0, 1] rfl)
theorem mw_function_127 (fu : Nat) {res : Int32 × PF × PG} (C : mMC p R s m args c A v RX12 cX12_function 8 608 36176) (hret : ∀ (H1 : Heap) (locs1 : List Loc) (ls1 : Array Slot) (pc : Nat), mMW s A v a res.2.1 res.2.2 H1 locs1 → narrow .boolean (.int res.1) = .int res.1 → decode cX12_function pc = .ok (.ireturn, 1) → W p l e R s m args below meth c H1 locs1 0 0 Q (F0 m pc ls1 [.int res.1])) (x1 : Int32) (F : PF) (G : PG) (hm : mb_function_127 fu x1 F G = some res) {H : Heap} {locs : List Loc} (hw : mMW s A v a F G H locs) {ls : Array Slot} (hl : lv_has ls 8 [(0, .ref (a 212)), (1, .int x1)]) : W p l e R s m args below meth c H locs 0 0 Q (F0 m 127 ls []) := by
  have hx := C.1
  have hb := C.2.1
  unfold mb_function_127 at hm
  refine lv_aload_n hx hb dX12_function_127 rfl (lv_at hl 0 rfl) ?_
  obtain ⟨⟨r1, F1, G1⟩, hc, hm⟩ := bind_elim hm
  refine mcallV (n := 0) (As := []) (rest := []) C hw (mk_begins l v a _ fu F G r1 F1 G1 hc) (mrecv_X12 C hw) mm_330 mm_331 mm_332 mm_27 mm_333 (by decide +kernel) rfl (by omega) (by omega) hl.1 rfl (Nat.le_of_ble_eq_true rfl) dX12_function_128 (fun H locs hw => ?_)
  exact mw_function_131 fu C hret x1 F1 G1 hm hw (lv_sub hl [0, 1] rfl)
theorem mw_function_122 (fu : Nat) {res : Int32 × PF × PG} (C : mMC p R s m args c A v RX12 cX12_function 8 608 36176) (hret : ∀ (H1 : Heap) (locs1 : List Loc) (ls1 : Array Slot) (pc : Nat), mMW s A v a res.2.1 res.2.2 H1 locs1 → narrow .boolean (.int res.1) = .int res.1 → decode cX12_function pc = .ok (.ireturn, 1) → W p l e R s m args below meth c H1 locs1 0 0 Q (F0 m pc ls1 [.int res.1])) (x1 : Int32) (F : PF) (G : PG) (hm : mb_function_122 fu x1 F G = some res) {H : Heap} {locs : List Loc} (hw : mMW s A v a F G H locs) {ls : Array Slot} (hl : lv_has ls 8 [(0, .ref (a 212)), (1, .int x1)]) : W p l e R s m args below meth c H locs 0 0 Q (F0 m 122 ls []) := by
  have hx := C.1
  have hb := C.2.1
  unfold mb_function_122 at hm
  refine lv_aload_n hx hb dX12_function_122 rfl (lv_at hl 0 rfl) ?_
  refine lv_iconst (v := 0) hx hb dX12_function_123 (by decide) ?_
  refine mp_X12_389 C hw dX12_function_124 (fun H locs hw => ?_)
  exact mw_function_127 fu C hret x1 (fup F 51 (0 : Int32)) G hm hw (lv_sub hl [0, 1] rfl)
theorem mw_function_117 (fu : Nat) {res : Int32 × PF × PG} (C : mMC p R s m args c A v RX12 cX12_function 8 608 36176) (hret : ∀ (H1 : Heap) (locs1 : List Loc) (ls1 : Array Slot) (pc : Nat), mMW s A v a res.2.1 res.2.2 H1 locs1 → narrow .boolean (.int res.1) = .int res.1 → decode cX12_function pc = .ok (.ireturn, 1) → W p l e R s m args below meth c H1 locs1 0 0 Q (F0 m pc ls1 [.int res.1])) (x1 : Int32) (F : PF) (G : PG) (hm : mb_function_117 fu x1 F G = some res) {H : Heap} {locs : List Loc} (hw : mMW s A v a F G H locs) {ls : Array Slot} (hl : lv_has ls 8 [(0, .ref (a 212)), (1, .int x1)]) : W p l e R s m args below meth c H locs 0 0 Q (F0 m 117 ls []) := by
  have hx := C.1
  have hb := C.2.1
  unfold mb_function_117 at hm
  refine lv_aload_n hx hb dX12_function_117 rfl (lv_at hl 0 rfl) ?_
  refine lv_iconst (v := 0) hx hb dX12_function_118 (by decide) ?_
  refine mp_X12_386 C hw dX12_function_119 (fun H locs hw => ?_)
  exact mw_function_122 fu C hret x1 (fup F 53 (0 : Int32)) G hm hw (lv_sub hl [0, 1] rfl)
theorem mw_function_112 (fu : Nat) {res : Int32 × PF × PG} (C : mMC p R s m args c A v RX12 cX12_function 8 608 36176) (hret : ∀ (H1 : Heap) (locs1 : List Loc) (ls1 : Array Slot) (pc : Nat), mMW s A v a res.2.1 res.2.2 H1 locs1 → narrow .boolean (.int res.1) = .int res.1 → decode cX12_function pc = .ok (.ireturn, 1) → W p l e R s m args below meth c H1 locs1 0 0 Q (F0 m pc ls1 [.int res.1])) (x1 : Int32) (F : PF) (G : PG) (hm : mb_function_112 fu x1 F G = some res) {H : Heap} {locs : List Loc} (hw : mMW s A v a F G H locs) {ls : Array Slot} (hl : lv_has ls 8 [(0, .ref (a 212)), (1, .int x1)]) : W p l e R s m args below meth c H locs 0 0 Q (F0 m 112 ls []) := by
  have hx := C.1
  have hb := C.2.1
  unfold mb_function_112 at hm
  refine lv_aload_n hx hb dX12_function_112 rfl (lv_at hl 0 rfl) ?_
  refine lv_iconst (v := 0) hx hb dX12_function_113 (by decide) ?_
  refine mp_X12_383 C hw dX12_function_114 (fun H locs hw => ?_)
  exact mw_function_117 fu C hret x1 (fup F 52 (0 : Int32)) G hm hw (lv_sub hl [0, 1] rfl)
theorem mw_function_107 (fu : Nat) {res : Int32 × PF × PG} (C : mMC p R s m args c A v RX12 cX12_function 8 608 36176) (hret : ∀ (H1 : Heap) (locs1 : List Loc) (ls1 : Array Slot) (pc : Nat), mMW s A v a res.2.1 res.2.2 H1 locs1 → narrow .boolean (.int res.1) = .int res.1 → decode cX12_function pc = .ok (.ireturn, 1) → W p l e R s m args below meth c H1 locs1 0 0 Q (F0 m pc ls1 [.int res.1])) (x1 : Int32) (F : PF) (G : PG) (hm : mb_function_107 fu x1 F G = some res) {H : Heap} {locs : List Loc} (hw : mMW s A v a F G H locs) {ls : Array Slot} (hl : lv_has ls 8 [(0, .ref (a 212)), (1, .int x1)]) : W p l e R s m args below meth c H locs 0 0 Q (F0 m 107 ls []) := by
  have hx := C.1
  have hb := C.2.1
  unfold mb_function_107 at hm
  refine lv_aload_n hx hb dX12_function_107 rfl (lv_at hl 0 rfl) ?_
  refine lv_iconst (v := (-1)) hx hb dX12_function_108 (by decide) ?_
  refine mp_X12_380 C hw dX12_function_109 (fun H locs hw => ?_)
  exact mw_function_112 fu C hret x1 (fup F 64 (-1 : Int32)) G hm hw (lv_sub hl [0, 1] rfl)
theorem mw_function_102 (fu : Nat) {res : Int32 × PF × PG} (C : mMC p R s m args c A v RX12 cX12_function 8 608 36176) (hret : ∀ (H1 : Heap) (locs1 : List Loc) (ls1 : Array Slot) (pc : Nat), mMW s A v a res.2.1 res.2.2 H1 locs1 → narrow .boolean (.int res.1) = .int res.1 → decode cX12_function pc = .ok (.ireturn, 1) → W p l e R s m args below meth c H1 locs1 0 0 Q (F0 m pc ls1 [.int res.1])) (x1 : Int32) (F : PF) (G : PG) (hm : mb_function_102 fu x1 F G = some res) {H : Heap} {locs : List Loc} (hw : mMW s A v a F G H locs) {ls : Array Slot} (hl : lv_has ls 8 [(0, .ref (a 212)), (1, .int x1)]) : W p l e R s m args below meth c H locs 0 0 Q (F0 m 102 ls []) := by
  have hx := C.1
  have hb := C.2.1
  unfold mb_function_102 at hm
  refine lv_aload_n hx hb dX12_function_102 rfl (lv_at hl 0 rfl) ?_
  refine lv_iconst (v := (-1)) hx hb dX12_function_103 (by decide) ?_
  refine mp_X12_377 C hw dX12_function_104 (fun H locs hw => ?_)
  exact mw_function_107 fu C hret x1 (fup F 63 (-1 : Int32)) G hm hw (lv_sub hl [0, 1] rfl)
theorem mw_function_97 (fu : Nat) {res : Int32 × PF × PG} (C : mMC p R s m args c A v RX12 cX12_function 8 608 36176) (hret : ∀ (H1 : Heap) (locs1 : List Loc) (ls1 : Array Slot) (pc : Nat), mMW s A v a res.2.1 res.2.2 H1 locs1 → narrow .boolean (.int res.1) = .int res.1 → decode cX12_function pc = .ok (.ireturn, 1) → W p l e R s m args below meth c H1 locs1 0 0 Q (F0 m pc ls1 [.int res.1])) (x1 : Int32) (F : PF) (G : PG) (hm : mb_function_97 fu x1 F G = some res) {H : Heap} {locs : List Loc} (hw : mMW s A v a F G H locs) {ls : Array Slot} (hl : lv_has ls 8 [(0, .ref (a 212)), (1, .int x1)]) : W p l e R s m args below meth c H locs 0 0 Q (F0 m 97 ls []) := by
  have hx := C.1
  have hb := C.2.1
  unfold mb_function_97 at hm
  refine lv_aload_n hx hb dX12_function_97 rfl (lv_at hl 0 rfl) ?_
  refine lv_iload_n hx hb dX12_function_98 rfl (lv_at hl 1 rfl) ?_
  refine mp_X12_294 C hw dX12_function_99 (fun H locs hw => ?_)
  exact mw_function_102 fu C hret x1 (fup F 50 x1) G hm hw (lv_sub hl [0, 1] rfl)
theorem mw_function_90 (fu : Nat) {res : Int32 × PF × PG} (C : mMC p R s m args c A v RX12 cX12_function 8 608 36176) (hret : ∀ (H1 : Heap) (locs1 : List Loc) (ls1 : Array Slot) (pc : Nat), mMW s A v a res.2.1 res.2.2 H1 locs1 → narrow .boolean (.int res.1) = .int res.1 → decode cX12_function pc = .ok (.ireturn, 1) → W p l e R s m args below meth c H1 locs1 0 0 Q (F0 m pc ls1 [.int res.1])) (x1 : Int32) (F : PF) (G : PG) (hm : mb_function_90 fu x1 F G = some res) {H : Heap} {locs : List Loc} (hw : mMW s A v a F G H locs) {ls : Array Slot} (hl : lv_has ls 8 [(0, .ref (a 212)), (1, .int x1)]) : W p l e R s m args below meth c H locs 0 0 Q (F0 m 90 ls []) := by
  have hx := C.1
  have hb := C.2.1
  unfold mb_function_90 at hm
  refine lv_aload_n hx hb dX12_function_90 rfl (lv_at hl 0 rfl) ?_
  refine lv_iload_n hx hb dX12_function_91 rfl (lv_at hl 1 rfl) ?_
  refine lv_iconst (v := 1) hx hb dX12_function_92 (by decide) ?_
  refine lv_iadd hx hb dX12_function_93 ?_
  refine mp_X12_297 C hw dX12_function_94 (fun H locs hw => ?_)
  exact mw_function_97 fu C hret x1 (fup F 24 (x1 + (1 : Int32))) G hm hw (lv_sub hl [0, 1] rfl)
theorem mw_function_83 (fu : Nat) {res : Int32 × PF × PG} (C : mMC p R s m args c A v RX12 cX12_function 8 608 36176) (hret : ∀ (H1 : Heap) (locs1 : List Loc) (ls1 : Array Slot) (pc : Nat), mMW s A v a res.2.1 res.2.2 H1 locs1 → narrow .boolean (.int res.1) = .int res.1 → decode cX12_function pc = .ok (.ireturn, 1) → W p l e R s m args below meth c H1 locs1 0 0 Q (F0 m pc ls1 [.int res.1])) (x1 : Int32) (F : PF) (G : PG) (hm : mb_function_83 fu x1 F G = some res) {H : Heap} {locs : List Loc} (hw : mMW s A v a F G H locs) {ls : Array Slot} (hl : lv_has ls 8 [(0, .ref (a 212)), (1, .int x1)]) : W p l e R s m args below meth c H locs 0 0 Q (F0 m 83 ls []) := by
  have hx := C.1
  have hb := C.2.1
  unfold mb_function_83 at hm
  refine lv_aload_n hx hb dX12_function_83 rfl (lv_at hl 0 rfl) ?_
  refine mg_X12_83 C hw dX12_function_84 ?_
  refine lv_iload_n hx hb dX12_function_87 rfl (lv_at hl 1 rfl) ?_
  refine lv_iconst (v := (-1)) hx hb dX12_function_88 (by decide) ?_
  obtain ⟨hi, hm⟩ := ix_elim hm
  refine mas_32 C hw hi dX12_function_89 (fun H locs hw => ?_)
  exact mw_function_90 fu C hret x1 F (gup G 32 x1.toNatClampNeg (-1 : Int32)) hm hw (lv_sub hl [0, 1] rfl)
theorem mw_function_76 (fu : Nat) {res : Int32 × PF × PG} (C : mMC p R s m args c A v RX12 cX12_function 8 608 36176) (hret : ∀ (H1 : Heap) (locs1 : List Loc) (ls1 : Array Slot) (pc : Nat), mMW s A v a res.2.1 res.2.2 H1 locs1 → narrow .boolean (.int res.1) = .int res.1 → decode cX12_function pc = .ok (.ireturn, 1) → W p l e R s m args below meth c H1 locs1 0 0 Q (F0 m pc ls1 [.int res.1])) (x1 : Int32) (F : PF) (G : PG) (hm : mb_function_76 fu x1 F G = some res) {H : Heap} {locs : List Loc} (hw : mMW s A v a F G H locs) {ls : Array Slot} (hl : lv_has ls 8 [(0, .ref (a 212)), (1, .int x1)]) : W p l e R s m args below meth c H locs 0 0 Q (F0 m 76 ls []) := by
  have hx := C.1
  have hb := C.2.1
  unfold mb_function_76 at hm
  refine lv_aload_n hx hb dX12_function_76 rfl (lv_at hl 0 rfl) ?_
  refine mg_X12_68 C hw dX12_function_77 ?_
  refine lv_iload_n hx hb dX12_function_80 rfl (lv_at hl 1 rfl) ?_
  refine lv_iconst (v := 0) hx hb dX12_function_81 (by decide) ?_
  obtain ⟨hi, hm⟩ := ix_elim hm
  refine mas_27 C hw hi dX12_function_82 (fun H locs hw => ?_)
  exact mw_function_83 fu C hret x1 F (gup G 27 x1.toNatClampNeg (0 : Int32)) hm hw (lv_sub hl [0, 1] rfl)
theorem mw_function_66 (fu : Nat) {res : Int32 × PF × PG} (C : mMC p R s m args c A v RX12 cX12_function 8 608 36176) (hret : ∀ (H1 : Heap) (locs1 : List Loc) (ls1 : Array Slot) (pc : Nat), mMW s A v a res.2.1 res.2.2 H1 locs1 → narrow .boolean (.int res.1) = .int res.1 → decode cX12_function pc = .ok (.ireturn, 1) → W p l e R s m args below meth c H1 locs1 0 0 Q (F0 m pc ls1 [.int res.1])) (x1 : Int32) (F : PF) (G : PG) (hm : mb_function_66 fu x1 F G = some res) {H : Heap} {locs : List Loc} (hw : mMW s A v a F G H locs) {ls : Array Slot} (hl : lv_has ls 8 [(0, .ref (a 212)), (1, .int x1)]) : W p l e R s m args below meth c H locs 0 0 Q (F0 m 66 ls []) := by
  have hx := C.1
  have hb := C.2.1
  unfold mb_function_66 at hm
  refine lv_aload_n hx hb dX12_function_66 rfl (lv_at hl 0 rfl) ?_
  refine mg_X12_80 C hw dX12_function_67 ?_
  refine lv_iload_n hx hb dX12_function_70 rfl (lv_at hl 1 rfl) ?_
  refine lv_aload_n hx hb dX12_function_71 rfl (lv_at hl 0 rfl) ?_
  refine mg_X12_300 C hw dX12_function_72 ?_
  obtain ⟨hi, hm⟩ := ix_elim hm
  refine mas_31 C hw hi dX12_function_75 (fun H locs hw => ?_)
  exact mw_function_76 fu C hret x1 F (gup G 31 x1.toNatClampNeg (F 35)) hm hw (lv_sub hl [0, 1] rfl)
theorem mw_function_59 (fu : Nat) {res : Int32 × PF × PG} (C : mMC p R s m args c A v RX12 cX12_function 8 608 36176) (hret : ∀ (H1 : Heap) (locs1 : List Loc) (ls1 : Array Slot) (pc : Nat), mMW s A v a res.2.1 res.2.2 H1 locs1 → narrow .boolean (.int res.1) = .int res.1 → decode cX12_function pc = .ok (.ireturn, 1) → W p l e R s m args below meth c H1 locs1 0 0 Q (F0 m pc ls1 [.int res.1])) (x1 : Int32) (x3 : Int32) (F : PF) (G : PG) (hm : mb_function_59 fu x1 x3 F G = some res) {H : Heap} {locs : List Loc} (hw : mMW s A v a F G H locs) {ls : Array Slot} (hl : lv_has ls 8 [(0, .ref (a 212)), (1, .int x1), (3, .int x3)]) : W p l e R s m args below meth c H locs 0 0 Q (F0 m 59 ls []) := by
  have hx := C.1
  have hb := C.2.1
  unfold mb_function_59 at hm
  refine lv_aload_n hx hb dX12_function_59 rfl (lv_at hl 0 rfl) ?_
  refine mg_X12_86 C hw dX12_function_60 ?_
  refine lv_iload_n hx hb dX12_function_63 rfl (lv_at hl 1 rfl) ?_
  refine lv_iload_n hx hb dX12_function_64 rfl (lv_at hl 2 rfl) ?_
  obtain ⟨hi, hm⟩ := ix_elim hm
  refine mas_33 C hw hi dX12_function_65 (fun H locs hw => ?_)
  exact mw_function_66 fu C hret x1 F (gup G 33 x1.toNatClampNeg (vp_nar .boolean x3)) hm hw (lv_sub hl [0, 1] rfl)
theorem mw_function_47 (fu : Nat) {res : Int32 × PF × PG} (C : mMC p R s m args c A v RX12 cX12_function 8 608 36176) (hret : ∀ (H1 : Heap) (locs1 : List Loc) (ls1 : Array Slot) (pc : Nat), mMW s A v a res.2.1 res.2.2 H1 locs1 → narrow .boolean (.int res.1) = .int res.1 → decode cX12_function pc = .ok (.ireturn, 1) → W p l e R s m args below meth c H1 locs1 0 0 Q (F0 m pc ls1 [.int res.1])) (x1 : Int32) (x2 : Int32) (x3 : Int32) (F : PF) (G : PG) (hm : mb_function_47 fu x1 x2 x3 F G = some res) {H : Heap} {locs : List Loc} (hw : mMW s A v a F G H locs) {ls : Array Slot} (hl : lv_has ls 8 [(0, .ref (a 212)), (1, .int x1), (2, .int x2), (3, .int x3)]) : W p l e R s m args below meth c H locs 0 0 Q (F0 m 47 ls []) := by
  have hx := C.1
  have hb := C.2.1
  unfold mb_function_47 at hm
  refine lv_aload_n hx hb dX12_function_47 rfl (lv_at hl 0 rfl) ?_
  refine mg_X12_65 C hw dX12_function_48 ?_
  refine lv_iload_n hx hb dX12_function_51 rfl (lv_at hl 1 rfl) ?_
  refine lv_aload_n hx hb dX12_function_52 rfl (lv_at hl 0 rfl) ?_
  refine mg_X12_22 C hw dX12_function_53 ?_
  refine lv_iload_n hx hb dX12_function_56 rfl (lv_at hl 2 rfl) ?_
  obtain ⟨hi, hm⟩ := ix_elim hm
  refine mal_6 C hw hi dX12_function_57 ?_
  obtain ⟨hi, hm⟩ := ix_elim hm
  refine mas_26 C hw hi dX12_function_58 (fun H locs hw => ?_)
  exact mw_function_59 fu C hret x1 x3 F (gup G 26 x1.toNatClampNeg (G 6 x2.toNatClampNeg)) hm hw (lv_sub hl [0, 1, 3] rfl)
theorem mw_function_35 (fu : Nat) {res : Int32 × PF × PG} (C : mMC p R s m args c A v RX12 cX12_function 8 608 36176) (hret : ∀ (H1 : Heap) (locs1 : List Loc) (ls1 : Array Slot) (pc : Nat), mMW s A v a res.2.1 res.2.2 H1 locs1 → narrow .boolean (.int res.1) = .int res.1 → decode cX12_function pc = .ok (.ireturn, 1) → W p l e R s m args below meth c H1 locs1 0 0 Q (F0 m pc ls1 [.int res.1])) (x1 : Int32) (x2 : Int32) (x3 : Int32) (F : PF) (G : PG) (hm : mb_function_35 fu x1 x2 x3 F G = some res) {H : Heap} {locs : List Loc} (hw : mMW s A v a F G H locs) {ls : Array Slot} (hl : lv_has ls 8 [(0, .ref (a 212)), (1, .int x1), (2, .int x2), (3, .int x3)]) : W p l e R s m args below meth c H locs 0 0 Q (F0 m 35 ls []) := by
  have hx := C.1
  have hb := C.2.1
  unfold mb_function_35 at hm
  refine lv_aload_n hx hb dX12_function_35 rfl (lv_at hl 0 rfl) ?_
  refine mg_X12_62 C hw dX12_function_36 ?_
  refine lv_iload_n hx hb dX12_function_39 rfl (lv_at hl 1 rfl) ?_
  refine lv_aload_n hx hb dX12_function_40 rfl (lv_at hl 0 rfl) ?_
  refine mg_X12_19 C hw dX12_function_41 ?_
  refine lv_iload_n hx hb dX12_function_44 rfl (lv_at hl 2 rfl) ?_
  obtain ⟨hi, hm⟩ := ix_elim hm
  refine mal_5 C hw hi dX12_function_45 ?_
  obtain ⟨hi, hm⟩ := ix_elim hm
  refine mas_25 C hw hi dX12_function_46 (fun H locs hw => ?_)
  exact mw_function_47 fu C hret x1 x2 x3 F (gup G 25 x1.toNatClampNeg (G 5 x2.toNatClampNeg)) hm hw (lv_sub hl [0, 1, 2, 3] rfl)
theorem mw_function_28 (fu : Nat) {res : Int32 × PF × PG} (C : mMC p R s m args c A v RX12 cX12_function 8 608 36176) (hret : ∀ (H1 : Heap) (locs1 : List Loc) (ls1 : Array Slot) (pc : Nat), mMW s A v a res.2.1 res.2.2 H1 locs1 → narrow .boolean (.int res.1) = .int res.1 → decode cX12_function pc = .ok (.ireturn, 1) → W p l e R s m args below meth c H1 locs1 0 0 Q (F0 m pc ls1 [.int res.1])) (x1 : Int32) (x2 : Int32) (x3 : Int32) (F : PF) (G : PG) (hm : mb_function_28 fu x1 x2 x3 F G = some res) {H : Heap} {locs : List Loc} (hw : mMW s A v a F G H locs) {ls : Array Slot} (hl : lv_has ls 8 [(0, .ref (a 212)), (1, .int x1), (2, .int x2), (3, .int x3)]) : W p l e R s m args below meth c H locs 0 0 Q (F0 m 28 ls []) := by
  have hx := C.1
  have hb := C.2.1
  unfold mb_function_28 at hm
  refine lv_aload_n hx hb dX12_function_28 rfl (lv_at hl 0 rfl) ?_
  refine mg_X12_245 C hw dX12_function_29 ?_
  refine lv_if_ne (tgt := 97) hx hb dX12_function_32 (by decide) (fun c_1 => ?_) (fun c_1 => ?_)
  · have hm := (if_neg c_1).symm.trans hm
    exact mw_function_97 fu C hret x1 F G hm hw (lv_sub hl [0, 1] rfl)
  · have hm := (if_pos c_1).symm.trans hm
    exact mw_function_35 fu C hret x1 x2 x3 F G hm hw (lv_sub hl [0, 1, 2, 3] rfl)
theorem mw_function_16 (fu : Nat) {res : Int32 × PF × PG} (C : mMC p R s m args c A v RX12 cX12_function 8 608 36176) (hret : ∀ (H1 : Heap) (locs1 : List Loc) (ls1 : Array Slot) (pc : Nat), mMW s A v a res.2.1 res.2.2 H1 locs1 → narrow .boolean (.int res.1) = .int res.1 → decode cX12_function pc = .ok (.ireturn, 1) → W p l e R s m args below meth c H1 locs1 0 0 Q (F0 m pc ls1 [.int res.1])) (x1 : Int32) (x2 : Int32) (x3 : Int32) (F : PF) (G : PG) (hm : mb_function_16 fu x1 x2 x3 F G = some res) {H : Heap} {locs : List Loc} (hw : mMW s A v a F G H locs) {ls : Array Slot} (hl : lv_has ls 8 [(0, .ref (a 212)), (1, .int x1), (2, .int x2), (3, .int x3)]) : W p l e R s m args below meth c H locs 0 0 Q (F0 m 16 ls []) := by
  have hx := C.1
  have hb := C.2.1
  unfold mb_function_16 at hm
  refine lv_aload_n hx hb dX12_function_16 rfl (lv_at hl 0 rfl) ?_
  refine lv_bipush (v := 11) hx hb dX12_function_17 (by decide) ?_
  refine lv_aload_n hx hb dX12_function_19 rfl (lv_at hl 0 rfl) ?_
  refine mg_X12_22 C hw dX12_function_20 ?_
  refine lv_iload_n hx hb dX12_function_23 rfl (lv_at hl 2 rfl) ?_
  obtain ⟨hi, hm⟩ := ix_elim hm
  refine mal_6 C hw hi dX12_function_24 ?_
  obtain ⟨⟨r1, F1, G1⟩, hc, hm⟩ := bind_elim hm
  refine mcallV (n := 2) (As := [.int 11, .int (G 6 x2.toNatClampNeg)]) (rest := []) C hw (mk_note l v a _ fu 11 (G 6 x2.toNatClampNeg) F G r1 F1 G1 hc) (mrecv_X12 C hw) mm_220 mm_221 mm_222 mm_27 mm_223 (by decide +kernel) rfl (by omega) (by omega) hl.1 rfl (Nat.le_of_ble_eq_true rfl) dX12_function_25 (fun H locs hw => ?_)
  exact mw_function_28 fu C hret x1 x2 x3 F1 G1 hm hw (lv_sub hl [0, 1, 2, 3] rfl)
theorem mw_function_10 (fu : Nat) {res : Int32 × PF × PG} (C : mMC p R s m args c A v RX12 cX12_function 8 608 36176) (hret : ∀ (H1 : Heap) (locs1 : List Loc) (ls1 : Array Slot) (pc : Nat), mMW s A v a res.2.1 res.2.2 H1 locs1 → narrow .boolean (.int res.1) = .int res.1 → decode cX12_function pc = .ok (.ireturn, 1) → W p l e R s m args below meth c H1 locs1 0 0 Q (F0 m pc ls1 [.int res.1])) (x1 : Int32) (x2 : Int32) (x3 : Int32) (F : PF) (G : PG) (hm : mb_function_10 fu x1 x2 x3 F G = some res) {H : Heap} {locs : List Loc} (hw : mMW s A v a F G H locs) {ls : Array Slot} (hl : lv_has ls 8 [(0, .ref (a 212)), (1, .int x1), (2, .int x2), (3, .int x3)]) : W p l e R s m args below meth c H locs 0 0 Q (F0 m 10 ls []) := by
  have hx := C.1
  have hb := C.2.1
  unfold mb_function_10 at hm
  refine lv_iload_n hx hb dX12_function_10 rfl (lv_at hl 1 rfl) ?_
  refine lv_bipush (v := 40) hx hb dX12_function_11 (by decide) ?_
  refine lv_icmp_lt (tgt := 28) hx hb dX12_function_13 (by decide) (fun c_1 => ?_) (fun c_1 => ?_)
  · have hm := (if_pos c_1).symm.trans hm
    exact mw_function_28 fu C hret x1 x2 x3 F G hm hw (lv_sub hl [0, 1, 2, 3] rfl)
  · have hm := (if_neg c_1).symm.trans hm
    exact mw_function_16 fu C hret x1 x2 x3 F G hm hw (lv_sub hl [0, 1, 2, 3] rfl)
theorem mw_function_5 (fu : Nat) {res : Int32 × PF × PG} (C : mMC p R s m args c A v RX12 cX12_function 8 608 36176) (hret : ∀ (H1 : Heap) (locs1 : List Loc) (ls1 : Array Slot) (pc : Nat), mMW s A v a res.2.1 res.2.2 H1 locs1 → narrow .boolean (.int res.1) = .int res.1 → decode cX12_function pc = .ok (.ireturn, 1) → W p l e R s m args below meth c H1 locs1 0 0 Q (F0 m pc ls1 [.int res.1])) (x1 : Int32) (x2 : Int32) (x3 : Int32) (F : PF) (G : PG) (hm : mb_function_5 fu x1 x2 x3 F G = some res) {H : Heap} {locs : List Loc} (hw : mMW s A v a F G H locs) {ls : Array Slot} (hl : lv_has ls 8 [(0, .ref (a 212)), (1, .int x1), (2, .int x2), (3, .int x3)]) : W p l e R s m args below meth c H locs 0 0 Q (F0 m 5 ls []) := by
  have hx := C.1
  have hb := C.2.1
  unfold mb_function_5 at hm
  refine lv_aload_n hx hb dX12_function_5 rfl (lv_at hl 0 rfl) ?_
  refine lv_iload_n hx hb dX12_function_6 rfl (lv_at hl 2 rfl) ?_
  obtain ⟨⟨r1, F1, G1⟩, hc, hm⟩ := bind_elim hm
  refine mcallV (n := 1) (As := [.int x2]) (rest := []) C hw (mk_twice l v a _ fu x2 F G r1 F1 G1 hc) (mrecv_X12 C hw) mm_310 mm_311 mm_312 mm_27 mm_313 (by decide +kernel) rfl (by omega) (by omega) hl.1 rfl (Nat.le_of_ble_eq_true rfl) dX12_function_7 (fun H locs hw => ?_)
  exact mw_function_10 fu C hret x1 x2 x3 F1 G1 hm hw (lv_sub hl [0, 1, 2, 3] rfl)
theorem mw_function_0 (fu : Nat) {res : Int32 × PF × PG} (C : mMC p R s m args c A v RX12 cX12_function 8 608 36176) (hret : ∀ (H1 : Heap) (locs1 : List Loc) (ls1 : Array Slot) (pc : Nat), mMW s A v a res.2.1 res.2.2 H1 locs1 → narrow .boolean (.int res.1) = .int res.1 → decode cX12_function pc = .ok (.ireturn, 1) → W p l e R s m args below meth c H1 locs1 0 0 Q (F0 m pc ls1 [.int res.1])) (x1 : Int32) (x2 : Int32) (x3 : Int32) (F : PF) (G : PG) (hm : mb_function_0 fu x1 x2 x3 F G = some res) {H : Heap} {locs : List Loc} (hw : mMW s A v a F G H locs) {ls : Array Slot} (hl : lv_has ls 8 [(0, .ref (a 212)), (1, .int x1), (2, .int x2), (3, .int x3)]) : W p l e R s m args below meth c H locs 0 0 Q (F0 m 0 ls []) := by
  have hx := C.1
  have hb := C.2.1
  unfold mb_function_0 at hm
  refine lv_aload_n hx hb dX12_function_0 rfl (lv_at hl 0 rfl) ?_
  refine lv_iconst (v := 1) hx hb dX12_function_1 (by decide) ?_
  refine mp_X12_306 C hw (by decide) dX12_function_2 (fun H locs hw => ?_)
  exact mw_function_5 fu C hret x1 x2 x3 (fup F 61 (1 : Int32)) G hm hw (lv_sub hl [0, 1, 2, 3] rfl)
theorem mk_function (l : Launch) (v : EV) (a : Nat → Nat) (sz : Nat) (fu : Nat) (x1 : Int32) (x2 : Int32) (x3 : Int32) (F : PF) (G : PG) (r : Int32) (F1 : PF) (G1 : PG) (hm : mf_function fu x1 x2 x3 F G = some (r, F1, G1)) : mMI l yX12_function cX12_function 8 (some .boolean) 608 36176 v a sz [.ref (a 212), .int x1, .int x2, .int x3] F G r F1 G1 := mMI.of (ty := .boolean) (by decide) rfl (Nat.le_of_ble_eq_true rfl) (fun p e R s m args below meth c Q A H locs ls C hw hl hret => mw_function_0 fu (res := (r, F1, G1)) C hret x1 x2 x3 F G hm hw hl)
def mb_tells_293 (fu : Nat) (z0 : Int32) (F : PF) (G : PG) : PR := if b01 z0 = true then (some (z0, F, G)) else none
def mb_tells_292 (fu : Nat) (F : PF) (G : PG) : PR := mb_tells_293 fu 0 F G
def mb_tells_288 (fu : Nat) (F : PF) (G : PG) : PR := mb_tells_293 fu 1 F G
def mb_tells_285 (fu : Nat) (z0 : Int32) (F : PF) (G : PG) : PR := if z0 = (0 : Int32) then mb_tells_292 fu F G else mb_tells_288 fu F G
def mb_tells_279 (fu : Nat) (F : PF) (G : PG) : PR := (mf_sign fu 29 F G).bind (fun q => mb_tells_285 fu q.1 q.2.1 q.2.2)
def mb_tells_276 (fu : Nat) (z0 : Int32) (F : PF) (G : PG) : PR := if z0 = (0 : Int32) then mb_tells_292 fu F G else mb_tells_279 fu F G
def mb_tells_269 (fu : Nat) (x3 : Int32) (x4 : Int32) (F : PF) (G : PG) : PR := (mf_array fu x4 x3 F G).bind (fun q => mb_tells_276 fu q.1 q.2.1 q.2.2)
def mb_tells_268 (fu : Nat) (z0 : Int32) (F : PF) (G : PG) : PR := if b01 z0 = true then (some (z0, F, G)) else none
def mb_tells_262 (fu : Nat) (F : PF) (G : PG) : PR := (mf_sign fu 29 F G).bind (fun q => mb_tells_268 fu q.1 q.2.1 q.2.2)
def mb_tells_256 (fu : Nat) (z0 : Int32) (z2 : Int32) (z3 : Int32) (z4 : Int32) (F : PF) (G : PG) : PR := if ixb z0 2001 = true then ((mf_declare fu z4 z3 z2 (G 39 z0.toNatClampNeg) 1 0 F G).bind (fun q => mb_tells_262 fu q.2.1 q.2.2)) else none
def mb_tells_239 (fu : Nat) (x4 : Int32) (x5 : Int32) (F : PF) (G : PG) : PR := mb_tells_256 fu (if (2000 : Int32) < x5 then (2000 : Int32) else x5) 0 1 x4 F G
def mb_tells_225 (fu : Nat) (x4 : Int32) (x5 : Int32) (x6 : Int32) (F : PF) (G : PG) : PR := if ixb x5 2001 = true then (if ixb (G 39 x5.toNatClampNeg) 8008 = true then (mb_tells_239 fu x4 x5 F (gup G 41 (G 39 x5.toNatClampNeg).toNatClampNeg x6)) else none) else none
def mb_tells_217 (fu : Nat) (x4 : Int32) (x5 : Int32) (x6 : Int32) (F : PF) (G : PG) : PR := if (2000 : Int32) ≤ x5 then mb_tells_239 fu x4 x5 F G else mb_tells_225 fu x4 x5 x6 F G
def mb_tells_210 (fu : Nat) (x4 : Int32) (x5 : Int32) (x6 : Int32) (F : PF) (G : PG) : PR := if (F 46) ≤ (0 : Int32) then mb_tells_239 fu x4 x5 F G else mb_tells_217 fu x4 x5 x6 F G
def mb_tells_208 (fu : Nat) (F : PF) (G : PG) : PR := some (0, F, G)
def mb_tells_199 (fu : Nat) (x4 : Int32) (x5 : Int32) (z0 : Int32) (F : PF) (G : PG) : PR := if (F 44) ≤ (0 : Int32) then mb_tells_210 fu x4 x5 z0 F G else mb_tells_208 fu F G
def mb_tells_195 (fu : Nat) (x4 : Int32) (x5 : Int32) (F : PF) (G : PG) : PR := (mf_value fu F G).bind (fun q => mb_tells_199 fu x4 x5 q.1 q.2.1 q.2.2)
def mb_tells_183 (fu : Nat) (x4 : Int32) (z0 : Int32) (F : PF) (G : PG) : PR := mb_tells_195 fu x4 z0 (fup F 42 ((F 42) + (1 : Int32))) G
def mb_tells_177 (fu : Nat) (x4 : Int32) (F : PF) (G : PG) : PR := (mf_globalAt fu x4 F G).bind (fun q => mb_tells_183 fu x4 q.1 q.2.1 q.2.2)
def mb_tells_174 (fu : Nat) (x3 : Int32) (x4 : Int32) (z0 : Int32) (F : PF) (G : PG) : PR := if z0 = (0 : Int32) then mb_tells_269 fu x3 x4 F G else mb_tells_177 fu x4 F G
def mb_tells_168 (fu : Nat) (x3 : Int32) (x4 : Int32) (F : PF) (G : PG) : PR := (mf_isSign fu 32 F G).bind (fun q => mb_tells_174 fu x3 x4 q.1 q.2.1 q.2.2)
def mb_tells_164 (fu : Nat) (x3 : Int32) (x4 : Int32) (F : PF) (G : PG) : PR := if x3 = (0 : Int32) then mb_tells_168 fu x3 x4 F G else mb_tells_269 fu x3 x4 F G
def mb_tells_163 (fu : Nat) (z0 : Int32) (F : PF) (G : PG) : PR := if b01 z0 = true then (some (z0, F, G)) else none
def mb_tells_162 (fu : Nat) (F : PF) (G : PG) : PR := mb_tells_163 fu 0 F G
def mb_tells_158 (fu : Nat) (F : PF) (G : PG) : PR := mb_tells_163 fu 1 F G
def mb_tells_155 (fu : Nat) (z0 : Int32) (F : PF) (G : PG) : PR := if z0 = (0 : Int32) then mb_tells_162 fu F G else mb_tells_158 fu F G
def mb_tells_149 (fu : Nat) (F : PF) (G : PG) : PR := (mf_sign fu 29 F G).bind (fun q => mb_tells_155 fu q.1 q.2.1 q.2.2)
def mb_tells_146 (fu : Nat) (z0 : Int32) (F : PF) (G : PG) : PR := if z0 = (0 : Int32) then mb_tells_162 fu F G else mb_tells_149 fu F G
def mb_tells_140 (fu : Nat) (x4 : Int32) (F : PF) (G : PG) : PR := (mf_globalInt fu x4 F G).bind (fun q => mb_tells_146 fu q.1 q.2.1 q.2.2)
def mb_tells_137 (fu : Nat) (x3 : Int32) (x4 : Int32) (z0 : Int32) (F : PF) (G : PG) : PR := if z0 = (0 : Int32) then mb_tells_164 fu x3 x4 F G else mb_tells_140 fu x4 F G
def mb_tells_131 (fu : Nat) (x3 : Int32) (x4 : Int32) (F : PF) (G : PG) : PR := (mf_isSign fu 29 F G).bind (fun q => mb_tells_137 fu x3 x4 q.1 q.2.1 q.2.2)
def mb_tells_127 (fu : Nat) (x3 : Int32) (x4 : Int32) (F : PF) (G : PG) : PR := if x3 = (0 : Int32) then mb_tells_131 fu x3 x4 F G else mb_tells_164 fu x3 x4 F G
def mb_tells_126 (fu : Nat) (z0 : Int32) (F : PF) (G : PG) : PR := if b01 z0 = true then (some (z0, F, G)) else none
def mb_tells_121 (fu : Nat) (F : PF) (G : PG) : PR := (mf_fails fu 2 F G).bind (fun q => mb_tells_126 fu q.1 q.2.1 q.2.2)
def mb_tells_117 (fu : Nat) (x2 : Int32) (x3 : Int32) (x4 : Int32) (F : PF) (G : PG) : PR := if x2 = (0 : Int32) then mb_tells_127 fu x3 x4 F G else mb_tells_121 fu F G
def mb_tells_116 (fu : Nat) (z0 : Int32) (F : PF) (G : PG) : PR := if b01 z0 = true then (some (z0, F, G)) else none
def mb_tells_108 (fu : Nat) (x1 : Int32) (x2 : Int32) (x4 : Int32) (F : PF) (G : PG) : PR := (mf_function fu x1 x4 x2 F G).bind (fun q => mb_tells_116 fu q.1 q.2.1 q.2.2)
def mb_tells_105 (fu : Nat) (x1 : Int32) (x2 : Int32) (x3 : Int32) (x4 : Int32) (z0 : Int32) (F : PF) (G : PG) : PR := if z0 = (0 : Int32) then mb_tells_117 fu x2 x3 x4 F G else mb_tells_108 fu x1 x2 x4 F G
def mb_tells_99 (fu : Nat) (x1 : Int32) (x2 : Int32) (x3 : Int32) (x4 : Int32) (F : PF) (G : PG) : PR := (mf_isSign fu 22 F G).bind (fun q => mb_tells_105 fu x1 x2 x3 x4 q.1 q.2.1 q.2.2)
def mb_tells_95 (fu : Nat) (x1 : Int32) (x2 : Int32) (x3 : Int32) (x4 : Int32) (F : PF) (G : PG) : PR := if x3 = (0 : Int32) then mb_tells_99 fu x1 x2 x3 x4 F G else mb_tells_117 fu x2 x3 x4 F G
def mb_tells_93 (fu : Nat) (F : PF) (G : PG) : PR := some (0, F, G)
def mb_tells_84 (fu : Nat) (x1 : Int32) (x2 : Int32) (x3 : Int32) (z0 : Int32) (F : PF) (G : PG) : PR := if (F 44) ≤ (0 : Int32) then mb_tells_95 fu x1 x2 x3 z0 F G else mb_tells_93 fu F G
def mb_tells_80 (fu : Nat) (x1 : Int32) (x2 : Int32) (x3 : Int32) (F : PF) (G : PG) : PR := (mf_name fu F G).bind (fun q => mb_tells_84 fu x1 x2 x3 q.1 q.2.1 q.2.2)
def mb_tells_70 (fu : Nat) (x1 : Int32) (x2 : Int32) (x3 : Int32) (F : PF) (G : PG) : PR := mb_tells_80 fu x1 x2 x3 (fup F 42 ((F 42) + (1 : Int32))) G
def mb_tells_69 (fu : Nat) (z0 : Int32) (F : PF) (G : PG) : PR := if b01 z0 = true then (some (z0, F, G)) else none
def mb_tells_64 (fu : Nat) (F : PF) (G : PG) : PR := (mf_fails fu 2 F G).bind (fun q => mb_tells_69 fu q.1 q.2.1 q.2.2)
def mb_tells_61 (fu : Nat) (x1 : Int32) (x2 : Int32) (x3 : Int32) (z0 : Int32) (F : PF) (G : PG) : PR := if z0 = (0 : Int32) then mb_tells_64 fu F G else mb_tells_70 fu x1 x2 x3 F G
def mb_tells_56 (fu : Nat) (x1 : Int32) (x2 : Int32) (x3 : Int32) (F : PF) (G : PG) : PR := (mf_isWord fu 0 F G).bind (fun q => mb_tells_61 fu x1 x2 x3 q.1 q.2.1 q.2.2)
def mb_tells_52 (fu : Nat) (x1 : Int32) (x2 : Int32) (x3 : Int32) (F : PF) (G : PG) : PR := if x3 = (0 : Int32) then mb_tells_56 fu x1 x2 x3 F G else mb_tells_70 fu x1 x2 x3 F G
def mb_tells_47 (fu : Nat) (x1 : Int32) (x2 : Int32) (z0 : Int32) (F : PF) (G : PG) : PR := if x2 = (0 : Int32) then mb_tells_52 fu x1 x2 z0 F G else mb_tells_70 fu x1 x2 z0 F G
def mb_tells_41 (fu : Nat) (x1 : Int32) (z0 : Int32) (F : PF) (G : PG) : PR := (mf_isWord fu 1 F G).bind (fun q => mb_tells_47 fu x1 z0 q.1 q.2.1 q.2.2)
def mb_tells_36 (fu : Nat) (x1 : Int32) (F : PF) (G : PG) : PR := (mf_isWord fu 2 F G).bind (fun q => mb_tells_41 fu x1 q.1 q.2.1 q.2.2)
def mb_tells_35 (fu : Nat) (z0 : Int32) (F : PF) (G : PG) : PR := if b01 z0 = true then (some (z0, F, G)) else none
def mb_tells_34 (fu : Nat) (F : PF) (G : PG) : PR := mb_tells_35 fu 0 F G
def mb_tells_30 (fu : Nat) (F : PF) (G : PG) : PR := mb_tells_35 fu 1 F G
def mb_tells_27 (fu : Nat) (z0 : Int32) (F : PF) (G : PG) : PR := if z0 = (0 : Int32) then mb_tells_34 fu F G else mb_tells_30 fu F G
def mb_tells_23 (fu : Nat) (F : PF) (G : PG) : PR := (mf_constantTold fu F G).bind (fun q => mb_tells_27 fu q.1 q.2.1 q.2.2)
def mb_tells_20 (fu : Nat) (z0 : Int32) (F : PF) (G : PG) : PR := if z0 = (0 : Int32) then mb_tells_34 fu F G else mb_tells_23 fu F G
def mb_tells_14 (fu : Nat) (F : PF) (G : PG) : PR := (mf_word fu 0 1 F G).bind (fun q => mb_tells_20 fu q.1 q.2.1 q.2.2)
def mb_tells_11 (fu : Nat) (x1 : Int32) (z0 : Int32) (F : PF) (G : PG) : PR := if z0 = (0 : Int32) then mb_tells_36 fu x1 F G else mb_tells_14 fu F G
def mb_tells_5 (fu : Nat) (x1 : Int32) (F : PF) (G : PG) : PR := (mf_word fu 3 0 F G).bind (fun q => mb_tells_11 fu x1 q.1 q.2.1 q.2.2)
def mb_tells_0 (fu : Nat) (x1 : Int32) (F : PF) (G : PG) : PR := mb_tells_5 fu x1 (fup F 61 (0 : Int32)) G
def mf_tells (fu : Nat) (x1 : Int32) (F : PF) (G : PG) : PR := mb_tells_0 fu x1 F G
theorem mw_tells_293 (fu : Nat) {res : Int32 × PF × PG} (C : mMC p R s m args c A v RX12 cX12_tells 7 609 36203) (hret : ∀ (H1 : Heap) (locs1 : List Loc) (ls1 : Array Slot) (pc : Nat), mMW s A v a res.2.1 res.2.2 H1 locs1 → narrow .boolean (.int res.1) = .int res.1 → decode cX12_tells pc = .ok (.ireturn, 1) → W p l e R s m args below meth c H1 locs1 0 0 Q (F0 m pc ls1 [.int res.1])) (z0 : Int32) (F : PF) (G : PG) (hm : mb_tells_293 fu z0 F G = some res) {H : Heap} {locs : List Loc} (hw : mMW s A v a F G H locs) {ls : Array Slot} (hl : lv_has ls 7 []) : W p l e R s m args below meth c H locs 0 0 Q (F0 m 293 ls [.int z0]) := by
  have hx := C.1
  have hb := C.2.1
  unfold mb_tells_293 at hm
  obtain ⟨hz, hm⟩ := b01_elim hm
  obtain rfl := Option.some.inj hm
  exact hret _ _ _ _ hw (b01_nar hz) dX12_tells_293
theorem mw_tells_292 (fu : Nat) {res : Int32 × PF × PG} (C : mMC p R s m args c A v RX12 cX12_tells 7 609 36203) (hret : ∀ (H1 : Heap) (locs1 : List Loc) (ls1 : Array Slot) (pc : Nat), mMW s A v a res.2.1 res.2.2 H1 locs1 → narrow .boolean (.int res.1) = .int res.1 → decode cX12_tells pc = .ok (.ireturn, 1) → W p l e R s m args below meth c H1 locs1 0 0 Q (F0 m pc ls1 [.int res.1])) (F : PF) (G : PG) (hm : mb_tells_292 fu F G = some res) {H : Heap} {locs : List Loc} (hw : mMW s A v a F G H locs) {ls : Array Slot} (hl : lv_has ls 7 []) : W p l e R s m args below meth c H locs 0 0 Q (F0 m 292 ls []) := by
  have hx := C.1
  have hb := C.2.1
  unfold mb_tells_292 at hm
  refine lv_iconst (v := 0) hx hb dX12_tells_292 (by decide) ?_
  exact mw_tells_293 fu C hret 0 F G hm hw (lv_sub hl [] rfl)
theorem mw_tells_288 (fu : Nat) {res : Int32 × PF × PG} (C : mMC p R s m args c A v RX12 cX12_tells 7 609 36203) (hret : ∀ (H1 : Heap) (locs1 : List Loc) (ls1 : Array Slot) (pc : Nat), mMW s A v a res.2.1 res.2.2 H1 locs1 → narrow .boolean (.int res.1) = .int res.1 → decode cX12_tells pc = .ok (.ireturn, 1) → W p l e R s m args below meth c H1 locs1 0 0 Q (F0 m pc ls1 [.int res.1])) (F : PF) (G : PG) (hm : mb_tells_288 fu F G = some res) {H : Heap} {locs : List Loc} (hw : mMW s A v a F G H locs) {ls : Array Slot} (hl : lv_has ls 7 []) : W p l e R s m args below meth c H locs 0 0 Q (F0 m 288 ls []) := by
  have hx := C.1
  have hb := C.2.1
  unfold mb_tells_288 at hm
  refine lv_iconst (v := 1) hx hb dX12_tells_288 (by decide) ?_
  refine lv_goto (tgt := 293) hx hb dX12_tells_289 (by decide) ?_
  exact mw_tells_293 fu C hret 1 F G hm hw (lv_sub hl [] rfl)
theorem mw_tells_285 (fu : Nat) {res : Int32 × PF × PG} (C : mMC p R s m args c A v RX12 cX12_tells 7 609 36203) (hret : ∀ (H1 : Heap) (locs1 : List Loc) (ls1 : Array Slot) (pc : Nat), mMW s A v a res.2.1 res.2.2 H1 locs1 → narrow .boolean (.int res.1) = .int res.1 → decode cX12_tells pc = .ok (.ireturn, 1) → W p l e R s m args below meth c H1 locs1 0 0 Q (F0 m pc ls1 [.int res.1])) (z0 : Int32) (F : PF) (G : PG) (hm : mb_tells_285 fu z0 F G = some res) {H : Heap} {locs : List Loc} (hw : mMW s A v a F G H locs) {ls : Array Slot} (hl : lv_has ls 7 []) : W p l e R s m args below meth c H locs 0 0 Q (F0 m 285 ls [.int z0]) := by
  have hx := C.1
  have hb := C.2.1
  unfold mb_tells_285 at hm
  refine lv_if_eq (tgt := 292) hx hb dX12_tells_285 (by decide) (fun c_1 => ?_) (fun c_1 => ?_)
  · have hm := (if_pos c_1).symm.trans hm
    exact mw_tells_292 fu C hret F G hm hw (lv_sub hl [] rfl)
  · have hm := (if_neg c_1).symm.trans hm
    exact mw_tells_288 fu C hret F G hm hw (lv_sub hl [] rfl)
theorem mw_tells_279 (fu : Nat) {res : Int32 × PF × PG} (C : mMC p R s m args c A v RX12 cX12_tells 7 609 36203) (hret : ∀ (H1 : Heap) (locs1 : List Loc) (ls1 : Array Slot) (pc : Nat), mMW s A v a res.2.1 res.2.2 H1 locs1 → narrow .boolean (.int res.1) = .int res.1 → decode cX12_tells pc = .ok (.ireturn, 1) → W p l e R s m args below meth c H1 locs1 0 0 Q (F0 m pc ls1 [.int res.1])) (F : PF) (G : PG) (hm : mb_tells_279 fu F G = some res) {H : Heap} {locs : List Loc} (hw : mMW s A v a F G H locs) {ls : Array Slot} (hl : lv_has ls 7 [(0, .ref (a 212))]) : W p l e R s m args below meth c H locs 0 0 Q (F0 m 279 ls []) := by
  have hx := C.1
  have hb := C.2.1
  unfold mb_tells_279 at hm
  refine lv_aload_n hx hb dX12_tells_279 rfl (lv_at hl 0 rfl) ?_
  refine lv_bipush (v := 29) hx hb dX12_tells_280 (by decide) ?_
  obtain ⟨⟨r1, F1, G1⟩, hc, hm⟩ := bind_elim hm
  refine mcallI (n := 1) (As := [.int 29]) (rest := []) C hw (mk_sign l v a _ fu 29 F G r1 F1 G1 hc) (mrecv_X12 C hw) mm_179 mm_180 mm_181 mm_27 mm_182 (by decide +kernel) rfl (by omega) (by omega) hl.1 rfl (Nat.le_of_ble_eq_true rfl) dX12_tells_282 (fun H locs hw => ?_)
  exact mw_tells_285 fu C hret r1 F1 G1 hm hw (lv_sub hl [] rfl)
theorem mw_tells_276 (fu : Nat) {res : Int32 × PF × PG} (C : mMC p R s m args c A v RX12 cX12_tells 7 609 36203) (hret : ∀ (H1 : Heap) (locs1 : List Loc) (ls1 : Array Slot) (pc : Nat), mMW s A v a res.2.1 res.2.2 H1 locs1 → narrow .boolean (.int res.1) = .int res.1 → decode cX12_tells pc = .ok (.ireturn, 1) → W p l e R s m args below meth c H1 locs1 0 0 Q (F0 m pc ls1 [.int res.1])) (z0 : Int32) (F : PF) (G : PG) (hm : mb_tells_276 fu z0 F G = some res) {H : Heap} {locs : List Loc} (hw : mMW s A v a F G H locs) {ls : Array Slot} (hl : lv_has ls 7 [(0, .ref (a 212))]) : W p l e R s m args below meth c H locs 0 0 Q (F0 m 276 ls [.int z0]) := by
  have hx := C.1
  have hb := C.2.1
  unfold mb_tells_276 at hm
  refine lv_if_eq (tgt := 292) hx hb dX12_tells_276 (by decide) (fun c_1 => ?_) (fun c_1 => ?_)
  · have hm := (if_pos c_1).symm.trans hm
    exact mw_tells_292 fu C hret F G hm hw (lv_sub hl [] rfl)
  · have hm := (if_neg c_1).symm.trans hm
    exact mw_tells_279 fu C hret F G hm hw (lv_sub hl [0] rfl)
theorem mw_tells_269 (fu : Nat) {res : Int32 × PF × PG} (C : mMC p R s m args c A v RX12 cX12_tells 7 609 36203) (hret : ∀ (H1 : Heap) (locs1 : List Loc) (ls1 : Array Slot) (pc : Nat), mMW s A v a res.2.1 res.2.2 H1 locs1 → narrow .boolean (.int res.1) = .int res.1 → decode cX12_tells pc = .ok (.ireturn, 1) → W p l e R s m args below meth c H1 locs1 0 0 Q (F0 m pc ls1 [.int res.1])) (x3 : Int32) (x4 : Int32) (F : PF) (G : PG) (hm : mb_tells_269 fu x3 x4 F G = some res) {H : Heap} {locs : List Loc} (hw : mMW s A v a F G H locs) {ls : Array Slot} (hl : lv_has ls 7 [(0, .ref (a 212)), (3, .int x3), (4, .int x4)]) : W p l e R s m args below meth c H locs 0 0 Q (F0 m 269 ls []) := by
  have hx := C.1
  have hb := C.2.1
  unfold mb_tells_269 at hm
  refine lv_aload_n hx hb dX12_tells_269 rfl (lv_at hl 0 rfl) ?_
  refine lv_iload hx hb dX12_tells_270 (lv_at hl 2 rfl) ?_
  refine lv_iload_n hx hb dX12_tells_272 rfl (lv_at hl 1 rfl) ?_
  obtain ⟨⟨r1, F1, G1⟩, hc, hm⟩ := bind_elim hm
  refine mcallI (n := 2) (As := [.int x4, .int x3]) (rest := []) C hw (mk_array l v a _ fu x4 x3 F G r1 F1 G1 hc) (mrecv_X12 C hw) mm_414 mm_415 mm_416 mm_27 mm_417 (by decide +kernel) rfl (by omega) (by omega) hl.1 rfl (Nat.le_of_ble_eq_true rfl) dX12_tells_273 (fun H locs hw => ?_)
  exact mw_tells_276 fu C hret r1 F1 G1 hm hw (lv_sub hl [0] rfl)
theorem mw_tells_268 (fu : Nat) {res : Int32 × PF × PG} (C : mMC p R s m args c A v RX12 cX12_tells 7 609 36203) (hret : ∀ (H1 : Heap) (locs1 : List Loc) (ls1 : Array Slot) (pc : Nat), mMW s A v a res.2.1 res.2.2 H1 locs1 → narrow .boolean (.int res.1) = .int res.1 → decode cX12_tells pc = .ok (.ireturn, 1) → W p l e R s m args below meth c H1 locs1 0 0 Q (F0 m pc ls1 [.int res.1])) (z0 : Int32) (F : PF) (G : PG) (hm : mb_tells_268 fu z0 F G = some res) {H : Heap} {locs : List Loc} (hw : mMW s A v a F G H locs) {ls : Array Slot} (hl : lv_has ls 7 []) : W p l e R s m args below meth c H locs 0 0 Q (F0 m 268 ls [.int z0]) := by
  have hx := C.1
  have hb := C.2.1
  unfold mb_tells_268 at hm
  obtain ⟨hz, hm⟩ := b01_elim hm
  obtain rfl := Option.some.inj hm
  exact hret _ _ _ _ hw (b01_nar hz) dX12_tells_268
theorem mw_tells_262 (fu : Nat) {res : Int32 × PF × PG} (C : mMC p R s m args c A v RX12 cX12_tells 7 609 36203) (hret : ∀ (H1 : Heap) (locs1 : List Loc) (ls1 : Array Slot) (pc : Nat), mMW s A v a res.2.1 res.2.2 H1 locs1 → narrow .boolean (.int res.1) = .int res.1 → decode cX12_tells pc = .ok (.ireturn, 1) → W p l e R s m args below meth c H1 locs1 0 0 Q (F0 m pc ls1 [.int res.1])) (F : PF) (G : PG) (hm : mb_tells_262 fu F G = some res) {H : Heap} {locs : List Loc} (hw : mMW s A v a F G H locs) {ls : Array Slot} (hl : lv_has ls 7 [(0, .ref (a 212))]) : W p l e R s m args below meth c H locs 0 0 Q (F0 m 262 ls []) := by
  have hx := C.1
  have hb := C.2.1
  unfold mb_tells_262 at hm
  refine lv_aload_n hx hb dX12_tells_262 rfl (lv_at hl 0 rfl) ?_
  refine lv_bipush (v := 29) hx hb dX12_tells_263 (by decide) ?_
  obtain ⟨⟨r1, F1, G1⟩, hc, hm⟩ := bind_elim hm
  refine mcallI (n := 1) (As := [.int 29]) (rest := []) C hw (mk_sign l v a _ fu 29 F G r1 F1 G1 hc) (mrecv_X12 C hw) mm_179 mm_180 mm_181 mm_27 mm_182 (by decide +kernel) rfl (by omega) (by omega) hl.1 rfl (Nat.le_of_ble_eq_true rfl) dX12_tells_265 (fun H locs hw => ?_)
  exact mw_tells_268 fu C hret r1 F1 G1 hm hw (lv_sub hl [] rfl)
theorem mw_tells_256 (fu : Nat) {res : Int32 × PF × PG} (C : mMC p R s m args c A v RX12 cX12_tells 7 609 36203) (hret : ∀ (H1 : Heap) (locs1 : List Loc) (ls1 : Array Slot) (pc : Nat), mMW s A v a res.2.1 res.2.2 H1 locs1 → narrow .boolean (.int res.1) = .int res.1 → decode cX12_tells pc = .ok (.ireturn, 1) → W p l e R s m args below meth c H1 locs1 0 0 Q (F0 m pc ls1 [.int res.1])) (z0 : Int32) (z2 : Int32) (z3 : Int32) (z4 : Int32) (F : PF) (G : PG) (hm : mb_tells_256 fu z0 z2 z3 z4 F G = some res) {H : Heap} {locs : List Loc} (hw : mMW s A v a F G H locs) {ls : Array Slot} (hl : lv_has ls 7 [(0, .ref (a 212))]) : W p l e R s m args below meth c H locs 0 0 Q (F0 m 256 ls [.int z0, .ref (a 39), .int z2, .int z3, .int z4, .ref (a 212)]) := by
  have hx := C.1
  have hb := C.2.1
  unfold mb_tells_256 at hm
  obtain ⟨hi, hm⟩ := ix_elim hm
  refine mal_39 C hw hi dX12_tells_256 ?_
  refine lv_iconst (v := 1) hx hb dX12_tells_257 (by decide) ?_
  refine lv_iconst (v := 0) hx hb dX12_tells_258 (by decide) ?_
  obtain ⟨⟨r1, F1, G1⟩, hc, hm⟩ := bind_elim hm
  refine mcallV (n := 6) (As := [.int z4, .int z3, .int z2, .int (G 39 z0.toNatClampNeg), .int 1, .int 0]) (rest := []) C hw (mk_declare l v a _ fu z4 z3 z2 (G 39 z0.toNatClampNeg) 1 0 F G r1 F1 G1 hc) (mrecv_X12 C hw) mm_314 mm_315 mm_316 mm_27 mm_317 (by decide +kernel) rfl (by omega) (by omega) hl.1 rfl (Nat.le_of_ble_eq_true rfl) dX12_tells_259 (fun H locs hw => ?_)
  exact mw_tells_262 fu C hret F1 G1 hm hw (lv_sub hl [0] rfl)
theorem mw_tells_239 (fu : Nat) {res : Int32 × PF × PG} (C : mMC p R s m args c A v RX12 cX12_tells 7 609 36203) (hret : ∀ (H1 : Heap) (locs1 : List Loc) (ls1 : Array Slot) (pc : Nat), mMW s A v a res.2.1 res.2.2 H1 locs1 → narrow .boolean (.int res.1) = .int res.1 → decode cX12_tells pc = .ok (.ireturn, 1) → W p l e R s m args below meth c H1 locs1 0 0 Q (F0 m pc ls1 [.int res.1])) (x4 : Int32) (x5 : Int32) (F : PF) (G : PG) (hm : mb_tells_239 fu x4 x5 F G = some res) {H : Heap} {locs : List Loc} (hw : mMW s A v a F G H locs) {ls : Array Slot} (hl : lv_has ls 7 [(0, .ref (a 212)), (4, .int x4), (5, .int x5)]) : W p l e R s m args below meth c H locs 0 0 Q (F0 m 239 ls []) := by
  have hx := C.1
  have hb := C.2.1
  unfold mb_tells_239 at hm
  refine lv_aload_n hx hb dX12_tells_239 rfl (lv_at hl 0 rfl) ?_
  refine lv_iload hx hb dX12_tells_240 (lv_at hl 1 rfl) ?_
  refine lv_iconst (v := 1) hx hb dX12_tells_242 (by decide) ?_
  refine lv_iconst (v := 0) hx hb dX12_tells_243 (by decide) ?_
  refine lv_aload_n hx hb dX12_tells_244 rfl (lv_at hl 0 rfl) ?_
  refine mg_X12_95 C hw dX12_tells_245 ?_
  refine lv_iload hx hb dX12_tells_248 (lv_at hl 2 rfl) ?_
  refine lv_sipush (v := 2000) hx hb dX12_tells_250 (by decide) ?_
  refine va_mmin hx hb (C.2.2.1.trans hl.1.symm) C.2.2.2.1 (C.2.2.2.2.1 _ mm_154) (C.2.2.2.2.1 _ mm_155) (C.2.2.2.2.1 _ mm_156) (C.2.2.2.2.1 _ mm_157) (Nat.le_trans (by omega) C.2.2.2.2.2.2.2.1) (Nat.le_trans (by simp only [List.map, List.sum_cons, List.sum_nil, Value.category]; omega) C.2.2.2.2.2.2.2.2.1) (Nat.zero_le _) (Nat.zero_le _) dX12_tells_253 ?_
  exact mw_tells_256 fu C hret (if (2000 : Int32) < x5 then (2000 : Int32) else x5) 0 1 x4 F G hm hw (lv_sub hl [0] rfl)
theorem mw_tells_225 (fu : Nat) {res : Int32 × PF × PG} (C : mMC p R s m args c A v RX12 cX12_tells 7 609 36203) (hret : ∀ (H1 : Heap) (locs1 : List Loc) (ls1 : Array Slot) (pc : Nat), mMW s A v a res.2.1 res.2.2 H1 locs1 → narrow .boolean (.int res.1) = .int res.1 → decode cX12_tells pc = .ok (.ireturn, 1) → W p l e R s m args below meth c H1 locs1 0 0 Q (F0 m pc ls1 [.int res.1])) (x4 : Int32) (x5 : Int32) (x6 : Int32) (F : PF) (G : PG) (hm : mb_tells_225 fu x4 x5 x6 F G = some res) {H : Heap} {locs : List Loc} (hw : mMW s A v a F G H locs) {ls : Array Slot} (hl : lv_has ls 7 [(0, .ref (a 212)), (4, .int x4), (5, .int x5), (6, .int x6)]) : W p l e R s m args below meth c H locs 0 0 Q (F0 m 225 ls []) := by
  have hx := C.1
  have hb := C.2.1
  unfold mb_tells_225 at hm
  refine lv_aload_n hx hb dX12_tells_225 rfl (lv_at hl 0 rfl) ?_
  refine mg_X12_101 C hw dX12_tells_226 ?_
  refine lv_aload_n hx hb dX12_tells_229 rfl (lv_at hl 0 rfl) ?_
  refine mg_X12_95 C hw dX12_tells_230 ?_
  refine lv_iload hx hb dX12_tells_233 (lv_at hl 2 rfl) ?_
  obtain ⟨hi, hm⟩ := ix_elim hm
  refine mal_39 C hw hi dX12_tells_235 ?_
  refine lv_iload hx hb dX12_tells_236 (lv_at hl 3 rfl) ?_
  obtain ⟨hi, hm⟩ := ix_elim hm
  refine mas_41 C hw hi dX12_tells_238 (fun H locs hw => ?_)
  exact mw_tells_239 fu C hret x4 x5 F (gup G 41 (G 39 x5.toNatClampNeg).toNatClampNeg x6) hm hw (lv_sub hl [0, 1, 2] rfl)
theorem mw_tells_217 (fu : Nat) {res : Int32 × PF × PG} (C : mMC p R s m args c A v RX12 cX12_tells 7 609 36203) (hret : ∀ (H1 : Heap) (locs1 : List Loc) (ls1 : Array Slot) (pc : Nat), mMW s A v a res.2.1 res.2.2 H1 locs1 → narrow .boolean (.int res.1) = .int res.1 → decode cX12_tells pc = .ok (.ireturn, 1) → W p l e R s m args below meth c H1 locs1 0 0 Q (F0 m pc ls1 [.int res.1])) (x4 : Int32) (x5 : Int32) (x6 : Int32) (F : PF) (G : PG) (hm : mb_tells_217 fu x4 x5 x6 F G = some res) {H : Heap} {locs : List Loc} (hw : mMW s A v a F G H locs) {ls : Array Slot} (hl : lv_has ls 7 [(0, .ref (a 212)), (4, .int x4), (5, .int x5), (6, .int x6)]) : W p l e R s m args below meth c H locs 0 0 Q (F0 m 217 ls []) := by
  have hx := C.1
  have hb := C.2.1
  unfold mb_tells_217 at hm
  refine lv_iload hx hb dX12_tells_217 (lv_at hl 2 rfl) ?_
  refine lv_sipush (v := 2000) hx hb dX12_tells_219 (by decide) ?_
  refine lv_icmp_ge (tgt := 239) hx hb dX12_tells_222 (by decide) (fun c_1 => ?_) (fun c_1 => ?_)
  · have hm := (if_pos c_1).symm.trans hm
    exact mw_tells_239 fu C hret x4 x5 F G hm hw (lv_sub hl [0, 1, 2] rfl)
  · have hm := (if_neg c_1).symm.trans hm
    exact mw_tells_225 fu C hret x4 x5 x6 F G hm hw (lv_sub hl [0, 1, 2, 3] rfl)
theorem mw_tells_210 (fu : Nat) {res : Int32 × PF × PG} (C : mMC p R s m args c A v RX12 cX12_tells 7 609 36203) (hret : ∀ (H1 : Heap) (locs1 : List Loc) (ls1 : Array Slot) (pc : Nat), mMW s A v a res.2.1 res.2.2 H1 locs1 → narrow .boolean (.int res.1) = .int res.1 → decode cX12_tells pc = .ok (.ireturn, 1) → W p l e R s m args below meth c H1 locs1 0 0 Q (F0 m pc ls1 [.int res.1])) (x4 : Int32) (x5 : Int32) (x6 : Int32) (F : PF) (G : PG) (hm : mb_tells_210 fu x4 x5 x6 F G = some res) {H : Heap} {locs : List Loc} (hw : mMW s A v a F G H locs) {ls : Array Slot} (hl : lv_has ls 7 [(0, .ref (a 212)), (4, .int x4), (5, .int x5), (6, .int x6)]) : W p l e R s m args below meth c H locs 0 0 Q (F0 m 210 ls []) := by
  have hx := C.1
  have hb := C.2.1
  unfold mb_tells_210 at hm
  refine lv_aload_n hx hb dX12_tells_210 rfl (lv_at hl 0 rfl) ?_
  refine mg_X12_245 C hw dX12_tells_211 ?_
  refine lv_if_le (tgt := 239) hx hb dX12_tells_214 (by decide) (fun c_1 => ?_) (fun c_1 => ?_)
  · have hm := (if_pos c_1).symm.trans hm
    exact mw_tells_239 fu C hret x4 x5 F G hm hw (lv_sub hl [0, 1, 2] rfl)
  · have hm := (if_neg c_1).symm.trans hm
    exact mw_tells_217 fu C hret x4 x5 x6 F G hm hw (lv_sub hl [0, 1, 2, 3] rfl)
theorem mw_tells_208 (fu : Nat) {res : Int32 × PF × PG} (C : mMC p R s m args c A v RX12 cX12_tells 7 609 36203) (hret : ∀ (H1 : Heap) (locs1 : List Loc) (ls1 : Array Slot) (pc : Nat), mMW s A v a res.2.1 res.2.2 H1 locs1 → narrow .boolean (.int res.1) = .int res.1 → decode cX12_tells pc = .ok (.ireturn, 1) → W p l e R s m args below meth c H1 locs1 0 0 Q (F0 m pc ls1 [.int res.1])) (F : PF) (G : PG) (hm : mb_tells_208 fu F G = some res) {H : Heap} {locs : List Loc} (hw : mMW s A v a F G H locs) {ls : Array Slot} (hl : lv_has ls 7 []) : W p l e R s m args below meth c H locs 0 0 Q (F0 m 208 ls []) := by
  have hx := C.1
  have hb := C.2.1
  unfold mb_tells_208 at hm
  refine lv_iconst (v := 0) hx hb dX12_tells_208 (by decide) ?_
  obtain rfl := Option.some.inj hm
  exact hret _ _ _ _ hw (b01_nar (v := 0) (Or.inl rfl)) dX12_tells_209
theorem mw_tells_199 (fu : Nat) {res : Int32 × PF × PG} (C : mMC p R s m args c A v RX12 cX12_tells 7 609 36203) (hret : ∀ (H1 : Heap) (locs1 : List Loc) (ls1 : Array Slot) (pc : Nat), mMW s A v a res.2.1 res.2.2 H1 locs1 → narrow .boolean (.int res.1) = .int res.1 → decode cX12_tells pc = .ok (.ireturn, 1) → W p l e R s m args below meth c H1 locs1 0 0 Q (F0 m pc ls1 [.int res.1])) (x4 : Int32) (x5 : Int32) (z0 : Int32) (F : PF) (G : PG) (hm : mb_tells_199 fu x4 x5 z0 F G = some res) {H : Heap} {locs : List Loc} (hw : mMW s A v a F G H locs) {ls : Array Slot} (hl : lv_has ls 7 [(0, .ref (a 212)), (4, .int x4), (5, .int x5)]) : W p l e R s m args below meth c H locs 0 0 Q (F0 m 199 ls [.int z0]) := by
  have hx := C.1
  have hb := C.2.1
  unfold mb_tells_199 at hm
  refine lv_istore (lv' := [(6, .int z0), (0, .ref (a 212)), (4, .int x4), (5, .int x5)]) hx hb dX12_tells_199 hl (by decide) rfl (fun ls hl => ?_)
  refine lv_aload_n hx hb dX12_tells_201 rfl (lv_at hl 1 rfl) ?_
  refine mg_X12_230 C hw dX12_tells_202 ?_
  refine lv_if_le (tgt := 210) hx hb dX12_tells_205 (by decide) (fun c_1 => ?_) (fun c_1 => ?_)
  · have hm := (if_pos c_1).symm.trans hm
    exact mw_tells_210 fu C hret x4 x5 z0 F G hm hw (lv_sub hl [1, 2, 3, 0] rfl)
  · have hm := (if_neg c_1).symm.trans hm
    exact mw_tells_208 fu C hret F G hm hw (lv_sub hl [] rfl)
theorem mw_tells_195 (fu : Nat) {res : Int32 × PF × PG} (C : mMC p R s m args c A v RX12 cX12_tells 7 609 36203) (hret : ∀ (H1 : Heap) (locs1 : List Loc) (ls1 : Array Slot) (pc : Nat), mMW s A v a res.2.1 res.2.2 H1 locs1 → narrow .boolean (.int res.1) = .int res.1 → decode cX12_tells pc = .ok (.ireturn, 1) → W p l e R s m args below meth c H1 locs1 0 0 Q (F0 m pc ls1 [.int res.1])) (x4 : Int32) (x5 : Int32) (F : PF) (G : PG) (hm : mb_tells_195 fu x4 x5 F G = some res) {H : Heap} {locs : List Loc} (hw : mMW s A v a F G H locs) {ls : Array Slot} (hl : lv_has ls 7 [(0, .ref (a 212)), (4, .int x4), (5, .int x5)]) : W p l e R s m args below meth c H locs 0 0 Q (F0 m 195 ls []) := by
  have hx := C.1
  have hb := C.2.1
  unfold mb_tells_195 at hm
  refine lv_aload_n hx hb dX12_tells_195 rfl (lv_at hl 0 rfl) ?_
  obtain ⟨⟨r1, F1, G1⟩, hc, hm⟩ := bind_elim hm
  refine mcallI (n := 0) (As := []) (rest := []) C hw (mk_value l v a _ fu F G r1 F1 G1 hc) (mrecv_X12 C hw) mm_187 mm_188 mm_189 mm_27 mm_190 (by decide +kernel) rfl (by omega) (by omega) hl.1 rfl (Nat.le_of_ble_eq_true rfl) dX12_tells_196 (fun H locs hw => ?_)
  exact mw_tells_199 fu C hret x4 x5 r1 F1 G1 hm hw (lv_sub hl [0, 1, 2] rfl)
theorem mw_tells_183 (fu : Nat) {res : Int32 × PF × PG} (C : mMC p R s m args c A v RX12 cX12_tells 7 609 36203) (hret : ∀ (H1 : Heap) (locs1 : List Loc) (ls1 : Array Slot) (pc : Nat), mMW s A v a res.2.1 res.2.2 H1 locs1 → narrow .boolean (.int res.1) = .int res.1 → decode cX12_tells pc = .ok (.ireturn, 1) → W p l e R s m args below meth c H1 locs1 0 0 Q (F0 m pc ls1 [.int res.1])) (x4 : Int32) (z0 : Int32) (F : PF) (G : PG) (hm : mb_tells_183 fu x4 z0 F G = some res) {H : Heap} {locs : List Loc} (hw : mMW s A v a F G H locs) {ls : Array Slot} (hl : lv_has ls 7 [(0, .ref (a 212)), (4, .int x4)]) : W p l e R s m args below meth c H locs 0 0 Q (F0 m 183 ls [.int z0]) := by
  have hx := C.1
  have hb := C.2.1
  unfold mb_tells_183 at hm
  refine lv_istore (lv' := [(5, .int z0), (0, .ref (a 212)), (4, .int x4)]) hx hb dX12_tells_183 hl (by decide) rfl (fun ls hl => ?_)
  refine lv_aload_n hx hb dX12_tells_185 rfl (lv_at hl 1 rfl) ?_
  refine lv_dup hx hb dX12_tells_186 rfl ?_
  refine mg_X12_233 C hw dX12_tells_187 ?_
  refine lv_iconst (v := 1) hx hb dX12_tells_190 (by decide) ?_
  refine lv_iadd hx hb dX12_tells_191 ?_
  refine mp_X12_233 C hw dX12_tells_192 (fun H locs hw => ?_)
  exact mw_tells_195 fu C hret x4 z0 (fup F 42 ((F 42) + (1 : Int32))) G hm hw (lv_sub hl [1, 2, 0] rfl)
theorem mw_tells_177 (fu : Nat) {res : Int32 × PF × PG} (C : mMC p R s m args c A v RX12 cX12_tells 7 609 36203) (hret : ∀ (H1 : Heap) (locs1 : List Loc) (ls1 : Array Slot) (pc : Nat), mMW s A v a res.2.1 res.2.2 H1 locs1 → narrow .boolean (.int res.1) = .int res.1 → decode cX12_tells pc = .ok (.ireturn, 1) → W p l e R s m args below meth c H1 locs1 0 0 Q (F0 m pc ls1 [.int res.1])) (x4 : Int32) (F : PF) (G : PG) (hm : mb_tells_177 fu x4 F G = some res) {H : Heap} {locs : List Loc} (hw : mMW s A v a F G H locs) {ls : Array Slot} (hl : lv_has ls 7 [(0, .ref (a 212)), (4, .int x4)]) : W p l e R s m args below meth c H locs 0 0 Q (F0 m 177 ls []) := by
  have hx := C.1
  have hb := C.2.1
  unfold mb_tells_177 at hm
  refine lv_aload_n hx hb dX12_tells_177 rfl (lv_at hl 0 rfl) ?_
  refine lv_iload hx hb dX12_tells_178 (lv_at hl 1 rfl) ?_
  obtain ⟨⟨r1, F1, G1⟩, hc, hm⟩ := bind_elim hm
  refine mcallI (n := 1) (As := [.int x4]) (rest := []) C hw (mk_globalAt l v a _ fu x4 F G r1 F1 G1 hc) (mrecv_X12 C hw) mm_408 mm_409 mm_410 mm_27 mm_411 (by decide +kernel) rfl (by omega) (by omega) hl.1 rfl (Nat.le_of_ble_eq_true rfl) dX12_tells_180 (fun H locs hw => ?_)
  exact mw_tells_183 fu C hret x4 r1 F1 G1 hm hw (lv_sub hl [0, 1] rfl)
theorem mw_tells_174 (fu : Nat) {res : Int32 × PF × PG} (C : mMC p R s m args c A v RX12 cX12_tells 7 609 36203) (hret : ∀ (H1 : Heap) (locs1 : List Loc) (ls1 : Array Slot) (pc : Nat), mMW s A v a res.2.1 res.2.2 H1 locs1 → narrow .boolean (.int res.1) = .int res.1 → decode cX12_tells pc = .ok (.ireturn, 1) → W p l e R s m args below meth c H1 locs1 0 0 Q (F0 m pc ls1 [.int res.1])) (x3 : Int32) (x4 : Int32) (z0 : Int32) (F : PF) (G : PG) (hm : mb_tells_174 fu x3 x4 z0 F G = some res) {H : Heap} {locs : List Loc} (hw : mMW s A v a F G H locs) {ls : Array Slot} (hl : lv_has ls 7 [(0, .ref (a 212)), (3, .int x3), (4, .int x4)]) : W p l e R s m args below meth c H locs 0 0 Q (F0 m 174 ls [.int z0]) := by
  have hx := C.1
  have hb := C.2.1
  unfold mb_tells_174 at hm
  refine lv_if_eq (tgt := 269) hx hb dX12_tells_174 (by decide) (fun c_1 => ?_) (fun c_1 => ?_)
  · have hm := (if_pos c_1).symm.trans hm
    exact mw_tells_269 fu C hret x3 x4 F G hm hw (lv_sub hl [0, 1, 2] rfl)
  · have hm := (if_neg c_1).symm.trans hm
    exact mw_tells_177 fu C hret x4 F G hm hw (lv_sub hl [0, 2] rfl)
theorem mw_tells_168 (fu : Nat) {res : Int32 × PF × PG} (C : mMC p R s m args c A v RX12 cX12_tells 7 609 36203) (hret : ∀ (H1 : Heap) (locs1 : List Loc) (ls1 : Array Slot) (pc : Nat), mMW s A v a res.2.1 res.2.2 H1 locs1 → narrow .boolean (.int res.1) = .int res.1 → decode cX12_tells pc = .ok (.ireturn, 1) → W p l e R s m args below meth c H1 locs1 0 0 Q (F0 m pc ls1 [.int res.1])) (x3 : Int32) (x4 : Int32) (F : PF) (G : PG) (hm : mb_tells_168 fu x3 x4 F G = some res) {H : Heap} {locs : List Loc} (hw : mMW s A v a F G H locs) {ls : Array Slot} (hl : lv_has ls 7 [(0, .ref (a 212)), (3, .int x3), (4, .int x4)]) : W p l e R s m args below meth c H locs 0 0 Q (F0 m 168 ls []) := by
  have hx := C.1
  have hb := C.2.1
  unfold mb_tells_168 at hm
  refine lv_aload_n hx hb dX12_tells_168 rfl (lv_at hl 0 rfl) ?_
  refine lv_bipush (v := 32) hx hb dX12_tells_169 (by decide) ?_
  obtain ⟨⟨r1, F1, G1⟩, hc, hm⟩ := bind_elim hm
  refine mcallI (n := 1) (As := [.int 32]) (rest := []) C hw (mk_isSign l v a _ fu 32 F G r1 F1 G1 hc) (mrecv_X12 C hw) mm_183 mm_184 mm_185 mm_27 mm_186 (by decide +kernel) rfl (by omega) (by omega) hl.1 rfl (Nat.le_of_ble_eq_true rfl) dX12_tells_171 (fun H locs hw => ?_)
  exact mw_tells_174 fu C hret x3 x4 r1 F1 G1 hm hw (lv_sub hl [0, 1, 2] rfl)
theorem mw_tells_164 (fu : Nat) {res : Int32 × PF × PG} (C : mMC p R s m args c A v RX12 cX12_tells 7 609 36203) (hret : ∀ (H1 : Heap) (locs1 : List Loc) (ls1 : Array Slot) (pc : Nat), mMW s A v a res.2.1 res.2.2 H1 locs1 → narrow .boolean (.int res.1) = .int res.1 → decode cX12_tells pc = .ok (.ireturn, 1) → W p l e R s m args below meth c H1 locs1 0 0 Q (F0 m pc ls1 [.int res.1])) (x3 : Int32) (x4 : Int32) (F : PF) (G : PG) (hm : mb_tells_164 fu x3 x4 F G = some res) {H : Heap} {locs : List Loc} (hw : mMW s A v a F G H locs) {ls : Array Slot} (hl : lv_has ls 7 [(0, .ref (a 212)), (3, .int x3), (4, .int x4)]) : W p l e R s m args below meth c H locs 0 0 Q (F0 m 164 ls []) := by
  have hx := C.1
  have hb := C.2.1
  unfold mb_tells_164 at hm
  refine lv_iload_n hx hb dX12_tells_164 rfl (lv_at hl 1 rfl) ?_
  refine lv_if_ne (tgt := 269) hx hb dX12_tells_165 (by decide) (fun c_1 => ?_) (fun c_1 => ?_)
  · have hm := (if_neg c_1).symm.trans hm
    exact mw_tells_269 fu C hret x3 x4 F G hm hw (lv_sub hl [0, 1, 2] rfl)
  · have hm := (if_pos c_1).symm.trans hm
    exact mw_tells_168 fu C hret x3 x4 F G hm hw (lv_sub hl [0, 1, 2] rfl)
theorem mw_tells_163 (fu : Nat) {res : Int32 × PF × PG} (C : mMC p R s m args c A v RX12 cX12_tells 7 609 36203) (hret : ∀ (H1 : Heap) (locs1 : List Loc) (ls1 : Array Slot) (pc : Nat), mMW s A v a res.2.1 res.2.2 H1 locs1 → narrow .boolean (.int res.1) = .int res.1 → decode cX12_tells pc = .ok (.ireturn, 1) → W p l e R s m args below meth c H1 locs1 0 0 Q (F0 m pc ls1 [.int res.1])) (z0 : Int32) (F : PF) (G : PG) (hm : mb_tells_163 fu z0 F G = some res) {H : Heap} {locs : List Loc} (hw : mMW s A v a F G H locs) {ls : Array Slot} (hl : lv_has ls 7 []) : W p l e R s m args below meth c H locs 0 0 Q (F0 m 163 ls [.int z0]) := by
  have hx := C.1
  have hb := C.2.1
  unfold mb_tells_163 at hm
  obtain ⟨hz, hm⟩ := b01_elim hm
  obtain rfl := Option.some.inj hm
  exact hret _ _ _ _ hw (b01_nar hz) dX12_tells_163
theorem mw_tells_162 (fu : Nat) {res : Int32 × PF × PG} (C : mMC p R s m args c A v RX12 cX12_tells 7 609 36203) (hret : ∀ (H1 : Heap) (locs1 : List Loc) (ls1 : Array Slot) (pc : Nat), mMW s A v a res.2.1 res.2.2 H1 locs1 → narrow .boolean (.int res.1) = .int res.1 → decode cX12_tells pc = .ok (.ireturn, 1) → W p l e R s m args below meth c H1 locs1 0 0 Q (F0 m pc ls1 [.int res.1])) (F : PF) (G : PG) (hm : mb_tells_162 fu F G = some res) {H : Heap} {locs : List Loc} (hw : mMW s A v a F G H locs) {ls : Array Slot} (hl : lv_has ls 7 []) : W p l e R s m args below meth c H locs 0 0 Q (F0 m 162 ls []) := by
  have hx := C.1
  have hb := C.2.1
  unfold mb_tells_162 at hm
  refine lv_iconst (v := 0) hx hb dX12_tells_162 (by decide) ?_
  exact mw_tells_163 fu C hret 0 F G hm hw (lv_sub hl [] rfl)
theorem mw_tells_158 (fu : Nat) {res : Int32 × PF × PG} (C : mMC p R s m args c A v RX12 cX12_tells 7 609 36203) (hret : ∀ (H1 : Heap) (locs1 : List Loc) (ls1 : Array Slot) (pc : Nat), mMW s A v a res.2.1 res.2.2 H1 locs1 → narrow .boolean (.int res.1) = .int res.1 → decode cX12_tells pc = .ok (.ireturn, 1) → W p l e R s m args below meth c H1 locs1 0 0 Q (F0 m pc ls1 [.int res.1])) (F : PF) (G : PG) (hm : mb_tells_158 fu F G = some res) {H : Heap} {locs : List Loc} (hw : mMW s A v a F G H locs) {ls : Array Slot} (hl : lv_has ls 7 []) : W p l e R s m args below meth c H locs 0 0 Q (F0 m 158 ls []) := by
  have hx := C.1
  have hb := C.2.1
  unfold mb_tells_158 at hm
  refine lv_iconst (v := 1) hx hb dX12_tells_158 (by decide) ?_
  refine lv_goto (tgt := 163) hx hb dX12_tells_159 (by decide) ?_
  exact mw_tells_163 fu C hret 1 F G hm hw (lv_sub hl [] rfl)
theorem mw_tells_155 (fu : Nat) {res : Int32 × PF × PG} (C : mMC p R s m args c A v RX12 cX12_tells 7 609 36203) (hret : ∀ (H1 : Heap) (locs1 : List Loc) (ls1 : Array Slot) (pc : Nat), mMW s A v a res.2.1 res.2.2 H1 locs1 → narrow .boolean (.int res.1) = .int res.1 → decode cX12_tells pc = .ok (.ireturn, 1) → W p l e R s m args below meth c H1 locs1 0 0 Q (F0 m pc ls1 [.int res.1])) (z0 : Int32) (F : PF) (G : PG) (hm : mb_tells_155 fu z0 F G = some res) {H : Heap} {locs : List Loc} (hw : mMW s A v a F G H locs) {ls : Array Slot} (hl : lv_has ls 7 []) : W p l e R s m args below meth c H locs 0 0 Q (F0 m 155 ls [.int z0]) := by
  have hx := C.1
  have hb := C.2.1
  unfold mb_tells_155 at hm
  refine lv_if_eq (tgt := 162) hx hb dX12_tells_155 (by decide) (fun c_1 => ?_) (fun c_1 => ?_)
  · have hm := (if_pos c_1).symm.trans hm
    exact mw_tells_162 fu C hret F G hm hw (lv_sub hl [] rfl)
  · have hm := (if_neg c_1).symm.trans hm
    exact mw_tells_158 fu C hret F G hm hw (lv_sub hl [] rfl)
theorem mw_tells_149 (fu : Nat) {res : Int32 × PF × PG} (C : mMC p R s m args c A v RX12 cX12_tells 7 609 36203) (hret : ∀ (H1 : Heap) (locs1 : List Loc) (ls1 : Array Slot) (pc : Nat), mMW s A v a res.2.1 res.2.2 H1 locs1 → narrow .boolean (.int res.1) = .int res.1 → decode cX12_tells pc = .ok (.ireturn, 1) → W p l e R s m args below meth c H1 locs1 0 0 Q (F0 m pc ls1 [.int res.1])) (F : PF) (G : PG) (hm : mb_tells_149 fu F G = some res) {H : Heap} {locs : List Loc} (hw : mMW s A v a F G H locs) {ls : Array Slot} (hl : lv_has ls 7 [(0, .ref (a 212))]) : W p l e R s m args below meth c H locs 0 0 Q (F0 m 149 ls []) := by
  have hx := C.1
  have hb := C.2.1
  unfold mb_tells_149 at hm
  refine lv_aload_n hx hb dX12_tells_149 rfl (lv_at hl 0 rfl) ?_
  refine lv_bipush (v := 29) hx hb dX12_tells_150 (by decide) ?_
  obtain ⟨⟨r1, F1, G1⟩, hc, hm⟩ := bind_elim hm
  refine mcallI (n := 1) (As := [.int 29]) (rest := []) C hw (mk_sign l v a _ fu 29 F G r1 F1 G1 hc) (mrecv_X12 C hw) mm_179 mm_180 mm_181 mm_27 mm_182 (by decide +kernel) rfl (by omega) (by omega) hl.1 rfl (Nat.le_of_ble_eq_true rfl) dX12_tells_152 (fun H locs hw => ?_)
  exact mw_tells_155 fu C hret r1 F1 G1 hm hw (lv_sub hl [] rfl)
theorem mw_tells_146 (fu : Nat) {res : Int32 × PF × PG} (C : mMC p R s m args c A v RX12 cX12_tells 7 609 36203) (hret : ∀ (H1 : Heap) (locs1 : List Loc) (ls1 : Array Slot) (pc : Nat), mMW s A v a res.2.1 res.2.2 H1 locs1 → narrow .boolean (.int res.1) = .int res.1 → decode cX12_tells pc = .ok (.ireturn, 1) → W p l e R s m args below meth c H1 locs1 0 0 Q (F0 m pc ls1 [.int res.1])) (z0 : Int32) (F : PF) (G : PG) (hm : mb_tells_146 fu z0 F G = some res) {H : Heap} {locs : List Loc} (hw : mMW s A v a F G H locs) {ls : Array Slot} (hl : lv_has ls 7 [(0, .ref (a 212))]) : W p l e R s m args below meth c H locs 0 0 Q (F0 m 146 ls [.int z0]) := by
  have hx := C.1
  have hb := C.2.1
  unfold mb_tells_146 at hm
  refine lv_if_eq (tgt := 162) hx hb dX12_tells_146 (by decide) (fun c_1 => ?_) (fun c_1 => ?_)
  · have hm := (if_pos c_1).symm.trans hm
    exact mw_tells_162 fu C hret F G hm hw (lv_sub hl [] rfl)
  · have hm := (if_neg c_1).symm.trans hm
    exact mw_tells_149 fu C hret F G hm hw (lv_sub hl [0] rfl)
theorem mw_tells_140 (fu : Nat) {res : Int32 × PF × PG} (C : mMC p R s m args c A v RX12 cX12_tells 7 609 36203) (hret : ∀ (H1 : Heap) (locs1 : List Loc) (ls1 : Array Slot) (pc : Nat), mMW s A v a res.2.1 res.2.2 H1 locs1 → narrow .boolean (.int res.1) = .int res.1 → decode cX12_tells pc = .ok (.ireturn, 1) → W p l e R s m args below meth c H1 locs1 0 0 Q (F0 m pc ls1 [.int res.1])) (x4 : Int32) (F : PF) (G : PG) (hm : mb_tells_140 fu x4 F G = some res) {H : Heap} {locs : List Loc} (hw : mMW s A v a F G H locs) {ls : Array Slot} (hl : lv_has ls 7 [(0, .ref (a 212)), (4, .int x4)]) : W p l e R s m args below meth c H locs 0 0 Q (F0 m 140 ls []) := by
  have hx := C.1
  have hb := C.2.1
  unfold mb_tells_140 at hm
  refine lv_aload_n hx hb dX12_tells_140 rfl (lv_at hl 0 rfl) ?_
  refine lv_iload hx hb dX12_tells_141 (lv_at hl 1 rfl) ?_
  obtain ⟨⟨r1, F1, G1⟩, hc, hm⟩ := bind_elim hm
  refine mcallI (n := 1) (As := [.int x4]) (rest := []) C hw (mk_globalInt l v a _ fu x4 F G r1 F1 G1 hc) (mrecv_X12 C hw) mm_404 mm_405 mm_406 mm_27 mm_407 (by decide +kernel) rfl (by omega) (by omega) hl.1 rfl (Nat.le_of_ble_eq_true rfl) dX12_tells_143 (fun H locs hw => ?_)
  exact mw_tells_146 fu C hret r1 F1 G1 hm hw (lv_sub hl [0] rfl)
theorem mw_tells_137 (fu : Nat) {res : Int32 × PF × PG} (C : mMC p R s m args c A v RX12 cX12_tells 7 609 36203) (hret : ∀ (H1 : Heap) (locs1 : List Loc) (ls1 : Array Slot) (pc : Nat), mMW s A v a res.2.1 res.2.2 H1 locs1 → narrow .boolean (.int res.1) = .int res.1 → decode cX12_tells pc = .ok (.ireturn, 1) → W p l e R s m args below meth c H1 locs1 0 0 Q (F0 m pc ls1 [.int res.1])) (x3 : Int32) (x4 : Int32) (z0 : Int32) (F : PF) (G : PG) (hm : mb_tells_137 fu x3 x4 z0 F G = some res) {H : Heap} {locs : List Loc} (hw : mMW s A v a F G H locs) {ls : Array Slot} (hl : lv_has ls 7 [(0, .ref (a 212)), (3, .int x3), (4, .int x4)]) : W p l e R s m args below meth c H locs 0 0 Q (F0 m 137 ls [.int z0]) := by
  have hx := C.1
  have hb := C.2.1
  unfold mb_tells_137 at hm
  refine lv_if_eq (tgt := 164) hx hb dX12_tells_137 (by decide) (fun c_1 => ?_) (fun c_1 => ?_)
  · have hm := (if_pos c_1).symm.trans hm
    exact mw_tells_164 fu C hret x3 x4 F G hm hw (lv_sub hl [0, 1, 2] rfl)
  · have hm := (if_neg c_1).symm.trans hm
    exact mw_tells_140 fu C hret x4 F G hm hw (lv_sub hl [0, 2] rfl)
theorem mw_tells_131 (fu : Nat) {res : Int32 × PF × PG} (C : mMC p R s m args c A v RX12 cX12_tells 7 609 36203) (hret : ∀ (H1 : Heap) (locs1 : List Loc) (ls1 : Array Slot) (pc : Nat), mMW s A v a res.2.1 res.2.2 H1 locs1 → narrow .boolean (.int res.1) = .int res.1 → decode cX12_tells pc = .ok (.ireturn, 1) → W p l e R s m args below meth c H1 locs1 0 0 Q (F0 m pc ls1 [.int res.1])) (x3 : Int32) (x4 : Int32) (F : PF) (G : PG) (hm : mb_tells_131 fu x3 x4 F G = some res) {H : Heap} {locs : List Loc} (hw : mMW s A v a F G H locs) {ls : Array Slot} (hl : lv_has ls 7 [(0, .ref (a 212)), (3, .int x3), (4, .int x4)]) : W p l e R s m args below meth c H locs 0 0 Q (F0 m 131 ls []) := by
  have hx := C.1
  have hb := C.2.1
  unfold mb_tells_131 at hm
  refine lv_aload_n hx hb dX12_tells_131 rfl (lv_at hl 0 rfl) ?_
  refine lv_bipush (v := 29) hx hb dX12_tells_132 (by decide) ?_
  obtain ⟨⟨r1, F1, G1⟩, hc, hm⟩ := bind_elim hm
  refine mcallI (n := 1) (As := [.int 29]) (rest := []) C hw (mk_isSign l v a _ fu 29 F G r1 F1 G1 hc) (mrecv_X12 C hw) mm_183 mm_184 mm_185 mm_27 mm_186 (by decide +kernel) rfl (by omega) (by omega) hl.1 rfl (Nat.le_of_ble_eq_true rfl) dX12_tells_134 (fun H locs hw => ?_)
  exact mw_tells_137 fu C hret x3 x4 r1 F1 G1 hm hw (lv_sub hl [0, 1, 2] rfl)
theorem mw_tells_127 (fu : Nat) {res : Int32 × PF × PG} (C : mMC p R s m args c A v RX12 cX12_tells 7 609 36203) (hret : ∀ (H1 : Heap) (locs1 : List Loc) (ls1 : Array Slot) (pc : Nat), mMW s A v a res.2.1 res.2.2 H1 locs1 → narrow .boolean (.int res.1) = .int res.1 → decode cX12_tells pc = .ok (.ireturn, 1) → W p l e R s m args below meth c H1 locs1 0 0 Q (F0 m pc ls1 [.int res.1])) (x3 : Int32) (x4 : Int32) (F : PF) (G : PG) (hm : mb_tells_127 fu x3 x4 F G = some res) {H : Heap} {locs : List Loc} (hw : mMW s A v a F G H locs) {ls : Array Slot} (hl : lv_has ls 7 [(0, .ref (a 212)), (3, .int x3), (4, .int x4)]) : W p l e R s m args below meth c H locs 0 0 Q (F0 m 127 ls []) := by
  have hx := C.1
  have hb := C.2.1
  unfold mb_tells_127 at hm
  refine lv_iload_n hx hb dX12_tells_127 rfl (lv_at hl 1 rfl) ?_
  refine lv_if_ne (tgt := 164) hx hb dX12_tells_128 (by decide) (fun c_1 => ?_) (fun c_1 => ?_)
  · have hm := (if_neg c_1).symm.trans hm
    exact mw_tells_164 fu C hret x3 x4 F G hm hw (lv_sub hl [0, 1, 2] rfl)
  · have hm := (if_pos c_1).symm.trans hm
    exact mw_tells_131 fu C hret x3 x4 F G hm hw (lv_sub hl [0, 1, 2] rfl)
theorem mw_tells_126 (fu : Nat) {res : Int32 × PF × PG} (C : mMC p R s m args c A v RX12 cX12_tells 7 609 36203) (hret : ∀ (H1 : Heap) (locs1 : List Loc) (ls1 : Array Slot) (pc : Nat), mMW s A v a res.2.1 res.2.2 H1 locs1 → narrow .boolean (.int res.1) = .int res.1 → decode cX12_tells pc = .ok (.ireturn, 1) → W p l e R s m args below meth c H1 locs1 0 0 Q (F0 m pc ls1 [.int res.1])) (z0 : Int32) (F : PF) (G : PG) (hm : mb_tells_126 fu z0 F G = some res) {H : Heap} {locs : List Loc} (hw : mMW s A v a F G H locs) {ls : Array Slot} (hl : lv_has ls 7 []) : W p l e R s m args below meth c H locs 0 0 Q (F0 m 126 ls [.int z0]) := by
  have hx := C.1
  have hb := C.2.1
  unfold mb_tells_126 at hm
  obtain ⟨hz, hm⟩ := b01_elim hm
  obtain rfl := Option.some.inj hm
  exact hret _ _ _ _ hw (b01_nar hz) dX12_tells_126
theorem mw_tells_121 (fu : Nat) {res : Int32 × PF × PG} (C : mMC p R s m args c A v RX12 cX12_tells 7 609 36203) (hret : ∀ (H1 : Heap) (locs1 : List Loc) (ls1 : Array Slot) (pc : Nat), mMW s A v a res.2.1 res.2.2 H1 locs1 → narrow .boolean (.int res.1) = .int res.1 → decode cX12_tells pc = .ok (.ireturn, 1) → W p l e R s m args below meth c H1 locs1 0 0 Q (F0 m pc ls1 [.int res.1])) (F : PF) (G : PG) (hm : mb_tells_121 fu F G = some res) {H : Heap} {locs : List Loc} (hw : mMW s A v a F G H locs) {ls : Array Slot} (hl : lv_has ls 7 [(0, .ref (a 212))]) : W p l e R s m args below meth c H locs 0 0 Q (F0 m 121 ls []) := by
  have hx := C.1
  have hb := C.2.1
  unfold mb_tells_121 at hm
  refine lv_aload_n hx hb dX12_tells_121 rfl (lv_at hl 0 rfl) ?_
  refine lv_iconst (v := 2) hx hb dX12_tells_122 (by decide) ?_
  obtain ⟨⟨r1, F1, G1⟩, hc, hm⟩ := bind_elim hm
  refine mcallI (n := 1) (As := [.int 2]) (rest := []) C hw (mk_fails l v a _ fu 2 F G r1 F1 G1 hc) (mrecv_X12 C hw) mm_166 mm_167 mm_168 mm_27 mm_169 (by decide +kernel) rfl (by omega) (by omega) hl.1 rfl (Nat.le_of_ble_eq_true rfl) dX12_tells_123 (fun H locs hw => ?_)
  exact mw_tells_126 fu C hret r1 F1 G1 hm hw (lv_sub hl [] rfl)
theorem mw_tells_117 (fu : Nat) {res : Int32 × PF × PG} (C : mMC p R s m args c A v RX12 cX12_tells 7 609 36203) (hret : ∀ (H1 : Heap) (locs1 : List Loc) (ls1 : Array Slot) (pc : Nat), mMW s A v a res.2.1 res.2.2 H1 locs1 → narrow .boolean (.int res.1) = .int res.1 → decode cX12_tells pc = .ok (.ireturn, 1) → W p l e R s m args below meth c H1 locs1 0 0 Q (F0 m pc ls1 [.int res.1])) (x2 : Int32) (x3 : Int32) (x4 : Int32) (F : PF) (G : PG) (hm : mb_tells_117 fu x2 x3 x4 F G = some res) {H : Heap} {locs : List Loc} (hw : mMW s A v a F G H locs) {ls : Array Slot} (hl : lv_has ls 7 [(0, .ref (a 212)), (2, .int x2), (3, .int x3), (4, .int x4)]) : W p l e R s m args below meth c H locs 0 0 Q (F0 m 117 ls []) := by
  have hx := C.1
  have hb := C.2.1
  unfold mb_tells_117 at hm
  refine lv_iload_n hx hb dX12_tells_117 rfl (lv_at hl 1 rfl) ?_
  refine lv_if_eq (tgt := 127) hx hb dX12_tells_118 (by decide) (fun c_1 => ?_) (fun c_1 => ?_)
  · have hm := (if_pos c_1).symm.trans hm
    exact mw_tells_127 fu C hret x3 x4 F G hm hw (lv_sub hl [0, 2, 3] rfl)
  · have hm := (if_neg c_1).symm.trans hm
    exact mw_tells_121 fu C hret F G hm hw (lv_sub hl [0] rfl)
theorem mw_tells_116 (fu : Nat) {res : Int32 × PF × PG} (C : mMC p R s m args c A v RX12 cX12_tells 7 609 36203) (hret : ∀ (H1 : Heap) (locs1 : List Loc) (ls1 : Array Slot) (pc : Nat), mMW s A v a res.2.1 res.2.2 H1 locs1 → narrow .boolean (.int res.1) = .int res.1 → decode cX12_tells pc = .ok (.ireturn, 1) → W p l e R s m args below meth c H1 locs1 0 0 Q (F0 m pc ls1 [.int res.1])) (z0 : Int32) (F : PF) (G : PG) (hm : mb_tells_116 fu z0 F G = some res) {H : Heap} {locs : List Loc} (hw : mMW s A v a F G H locs) {ls : Array Slot} (hl : lv_has ls 7 []) : W p l e R s m args below meth c H locs 0 0 Q (F0 m 116 ls [.int z0]) := by
  have hx := C.1
  have hb := C.2.1
  unfold mb_tells_116 at hm
  obtain ⟨hz, hm⟩ := b01_elim hm
  obtain rfl := Option.some.inj hm
  exact hret _ _ _ _ hw (b01_nar hz) dX12_tells_116
theorem mw_tells_108 (fu : Nat) {res : Int32 × PF × PG} (C : mMC p R s m args c A v RX12 cX12_tells 7 609 36203) (hret : ∀ (H1 : Heap) (locs1 : List Loc) (ls1 : Array Slot) (pc : Nat), mMW s A v a res.2.1 res.2.2 H1 locs1 → narrow .boolean (.int res.1) = .int res.1 → decode cX12_tells pc = .ok (.ireturn, 1) → W p l e R s m args below meth c H1 locs1 0 0 Q (F0 m pc ls1 [.int res.1])) (x1 : Int32) (x2 : Int32) (x4 : Int32) (F : PF) (G : PG) (hm : mb_tells_108 fu x1 x2 x4 F G = some res) {H : Heap} {locs : List Loc} (hw : mMW s A v a F G H locs) {ls : Array Slot} (hl : lv_has ls 7 [(0, .ref (a 212)), (1, .int x1), (2, .int x2), (4, .int x4)]) : W p l e R s m args below meth c H locs 0 0 Q (F0 m 108 ls []) := by
  have hx := C.1
  have hb := C.2.1
  unfold mb_tells_108 at hm
  refine lv_aload_n hx hb dX12_tells_108 rfl (lv_at hl 0 rfl) ?_
  refine lv_iload_n hx hb dX12_tells_109 rfl (lv_at hl 1 rfl) ?_
  refine lv_iload hx hb dX12_tells_110 (lv_at hl 3 rfl) ?_
  refine lv_iload_n hx hb dX12_tells_112 rfl (lv_at hl 2 rfl) ?_
  obtain ⟨⟨r1, F1, G1⟩, hc, hm⟩ := bind_elim hm
  refine mcallI (n := 3) (As := [.int x1, .int x4, .int x2]) (rest := []) C hw (mk_function l v a _ fu x1 x4 x2 F G r1 F1 G1 hc) (mrecv_X12 C hw) mm_318 mm_319 mm_320 mm_27 mm_321 (by decide +kernel) rfl (by omega) (by omega) hl.1 rfl (Nat.le_of_ble_eq_true rfl) dX12_tells_113 (fun H locs hw => ?_)
  exact mw_tells_116 fu C hret r1 F1 G1 hm hw (lv_sub hl [] rfl)
theorem mw_tells_105 (fu : Nat) {res : Int32 × PF × PG} (C : mMC p R s m args c A v RX12 cX12_tells 7 609 36203) (hret : ∀ (H1 : Heap) (locs1 : List Loc) (ls1 : Array Slot) (pc : Nat), mMW s A v a res.2.1 res.2.2 H1 locs1 → narrow .boolean (.int res.1) = .int res.1 → decode cX12_tells pc = .ok (.ireturn, 1) → W p l e R s m args below meth c H1 locs1 0 0 Q (F0 m pc ls1 [.int res.1])) (x1 : Int32) (x2 : Int32) (x3 : Int32) (x4 : Int32) (z0 : Int32) (F : PF) (G : PG) (hm : mb_tells_105 fu x1 x2 x3 x4 z0 F G = some res) {H : Heap} {locs : List Loc} (hw : mMW s A v a F G H locs) {ls : Array Slot} (hl : lv_has ls 7 [(0, .ref (a 212)), (1, .int x1), (2, .int x2), (3, .int x3), (4, .int x4)]) : W p l e R s m args below meth c H locs 0 0 Q (F0 m 105 ls [.int z0]) := by
  have hx := C.1
  have hb := C.2.1
  unfold mb_tells_105 at hm
  refine lv_if_eq (tgt := 117) hx hb dX12_tells_105 (by decide) (fun c_1 => ?_) (fun c_1 => ?_)
  · have hm := (if_pos c_1).symm.trans hm
    exact mw_tells_117 fu C hret x2 x3 x4 F G hm hw (lv_sub hl [0, 2, 3, 4] rfl)
  · have hm := (if_neg c_1).symm.trans hm
    exact mw_tells_108 fu C hret x1 x2 x4 F G hm hw (lv_sub hl [0, 1, 2, 4] rfl)
theorem mw_tells_99 (fu : Nat) {res : Int32 × PF × PG} (C : mMC p R s m args c A v RX12 cX12_tells 7 609 36203) (hret : ∀ (H1 : Heap) (locs1 : List Loc) (ls1 : Array Slot) (pc : Nat), mMW s A v a res.2.1 res.2.2 H1 locs1 → narrow .boolean (.int res.1) = .int res.1 → decode cX12_tells pc = .ok (.ireturn, 1) → W p l e R s m args below meth c H1 locs1 0 0 Q (F0 m pc ls1 [.int res.1])) (x1 : Int32) (x2 : Int32) (x3 : Int32) (x4 : Int32) (F : PF) (G : PG) (hm : mb_tells_99 fu x1 x2 x3 x4 F G = some res) {H : Heap} {locs : List Loc} (hw : mMW s A v a F G H locs) {ls : Array Slot} (hl : lv_has ls 7 [(0, .ref (a 212)), (1, .int x1), (2, .int x2), (3, .int x3), (4, .int x4)]) : W p l e R s m args below meth c H locs 0 0 Q (F0 m 99 ls []) := by
  have hx := C.1
  have hb := C.2.1
  unfold mb_tells_99 at hm
  refine lv_aload_n hx hb dX12_tells_99 rfl (lv_at hl 0 rfl) ?_
  refine lv_bipush (v := 22) hx hb dX12_tells_100 (by decide) ?_
  obtain ⟨⟨r1, F1, G1⟩, hc, hm⟩ := bind_elim hm
  refine mcallI (n := 1) (As := [.int 22]) (rest := []) C hw (mk_isSign l v a _ fu 22 F G r1 F1 G1 hc) (mrecv_X12 C hw) mm_183 mm_184 mm_185 mm_27 mm_186 (by decide +kernel) rfl (by omega) (by omega) hl.1 rfl (Nat.le_of_ble_eq_true rfl) dX12_tells_102 (fun H locs hw => ?_)
  exact mw_tells_105 fu C hret x1 x2 x3 x4 r1 F1 G1 hm hw (lv_sub hl [0, 1, 2, 3, 4] rfl)
theorem mw_tells_95 (fu : Nat) {res : Int32 × PF × PG} (C : mMC p R s m args c A v RX12 cX12_tells 7 609 36203) (hret : ∀ (H1 : Heap) (locs1 : List Loc) (ls1 : Array Slot) (pc : Nat), mMW s A v a res.2.1 res.2.2 H1 locs1 → narrow .boolean (.int res.1) = .int res.1 → decode cX12_tells pc = .ok (.ireturn, 1) → W p l e R s m args below meth c H1 locs1 0 0 Q (F0 m pc ls1 [.int res.1])) (x1 : Int32) (x2 : Int32) (x3 : Int32) (x4 : Int32) (F : PF) (G : PG) (hm : mb_tells_95 fu x1 x2 x3 x4 F G = some res) {H : Heap} {locs : List Loc} (hw : mMW s A v a F G H locs) {ls : Array Slot} (hl : lv_has ls 7 [(0, .ref (a 212)), (1, .int x1), (2, .int x2), (3, .int x3), (4, .int x4)]) : W p l e R s m args below meth c H locs 0 0 Q (F0 m 95 ls []) := by
  have hx := C.1
  have hb := C.2.1
  unfold mb_tells_95 at hm
  refine lv_iload_n hx hb dX12_tells_95 rfl (lv_at hl 3 rfl) ?_
  refine lv_if_ne (tgt := 117) hx hb dX12_tells_96 (by decide) (fun c_1 => ?_) (fun c_1 => ?_)
  · have hm := (if_neg c_1).symm.trans hm
    exact mw_tells_117 fu C hret x2 x3 x4 F G hm hw (lv_sub hl [0, 2, 3, 4] rfl)
  · have hm := (if_pos c_1).symm.trans hm
    exact mw_tells_99 fu C hret x1 x2 x3 x4 F G hm hw (lv_sub hl [0, 1, 2, 3, 4] rfl)
theorem mw_tells_93 (fu : Nat) {res : Int32 × PF × PG} (C : mMC p R s m args c A v RX12 cX12_tells 7 609 36203) (hret : ∀ (H1 : Heap) (locs1 : List Loc) (ls1 : Array Slot) (pc : Nat), mMW s A v a res.2.1 res.2.2 H1 locs1 → narrow .boolean (.int res.1) = .int res.1 → decode cX12_tells pc = .ok (.ireturn, 1) → W p l e R s m args below meth c H1 locs1 0 0 Q (F0 m pc ls1 [.int res.1])) (F : PF) (G : PG) (hm : mb_tells_93 fu F G = some res) {H : Heap} {locs : List Loc} (hw : mMW s A v a F G H locs) {ls : Array Slot} (hl : lv_has ls 7 []) : W p l e R s m args below meth c H locs 0 0 Q (F0 m 93 ls []) := by
  have hx := C.1
  have hb := C.2.1
  unfold mb_tells_93 at hm
  refine lv_iconst (v := 0) hx hb dX12_tells_93 (by decide) ?_
  obtain rfl := Option.some.inj hm
  exact hret _ _ _ _ hw (b01_nar (v := 0) (Or.inl rfl)) dX12_tells_94
theorem mw_tells_84 (fu : Nat) {res : Int32 × PF × PG} (C : mMC p R s m args c A v RX12 cX12_tells 7 609 36203) (hret : ∀ (H1 : Heap) (locs1 : List Loc) (ls1 : Array Slot) (pc : Nat), mMW s A v a res.2.1 res.2.2 H1 locs1 → narrow .boolean (.int res.1) = .int res.1 → decode cX12_tells pc = .ok (.ireturn, 1) → W p l e R s m args below meth c H1 locs1 0 0 Q (F0 m pc ls1 [.int res.1])) (x1 : Int32) (x2 : Int32) (x3 : Int32) (z0 : Int32) (F : PF) (G : PG) (hm : mb_tells_84 fu x1 x2 x3 z0 F G = some res) {H : Heap} {locs : List Loc} (hw : mMW s A v a F G H locs) {ls : Array Slot} (hl : lv_has ls 7 [(0, .ref (a 212)), (1, .int x1), (2, .int x2), (3, .int x3)]) : W p l e R s m args below meth c H locs 0 0 Q (F0 m 84 ls [.int z0]) := by
  have hx := C.1
  have hb := C.2.1
  unfold mb_tells_84 at hm
  refine lv_istore (lv' := [(4, .int z0), (0, .ref (a 212)), (1, .int x1), (2, .int x2), (3, .int x3)]) hx hb dX12_tells_84 hl (by decide) rfl (fun ls hl => ?_)
  refine lv_aload_n hx hb dX12_tells_86 rfl (lv_at hl 1 rfl) ?_
  refine mg_X12_230 C hw dX12_tells_87 ?_
  refine lv_if_le (tgt := 95) hx hb dX12_tells_90 (by decide) (fun c_1 => ?_) (fun c_1 => ?_)
  · have hm := (if_pos c_1).symm.trans hm
    exact mw_tells_95 fu C hret x1 x2 x3 z0 F G hm hw (lv_sub hl [1, 2, 3, 4, 0] rfl)
  · have hm := (if_neg c_1).symm.trans hm
    exact mw_tells_93 fu C hret F G hm hw (lv_sub hl [] rfl)
theorem mw_tells_80 (fu : Nat) {res : Int32 × PF × PG} (C : mMC p R s m args c A v RX12 cX12_tells 7 609 36203) (hret : ∀ (H1 : Heap) (locs1 : List Loc) (ls1 : Array Slot) (pc : Nat), mMW s A v a res.2.1 res.2.2 H1 locs1 → narrow .boolean (.int res.1) = .int res.1 → decode cX12_tells pc = .ok (.ireturn, 1) → W p l e R s m args below meth c H1 locs1 0 0 Q (F0 m pc ls1 [.int res.1])) (x1 : Int32) (x2 : Int32) (x3 : Int32) (F : PF) (G : PG) (hm : mb_tells_80 fu x1 x2 x3 F G = some res) {H : Heap} {locs : List Loc} (hw : mMW s A v a F G H locs) {ls : Array Slot} (hl : lv_has ls 7 [(0, .ref (a 212)), (1, .int x1), (2, .int x2), (3, .int x3)]) : W p l e R s m args below meth c H locs 0 0 Q (F0 m 80 ls []) := by
  have hx := C.1
  have hb := C.2.1
  unfold mb_tells_80 at hm
  refine lv_aload_n hx hb dX12_tells_80 rfl (lv_at hl 0 rfl) ?_
  obtain ⟨⟨r1, F1, G1⟩, hc, hm⟩ := bind_elim hm
  refine mcallI (n := 0) (As := []) (rest := []) C hw (mk_name l v a _ fu F G r1 F1 G1 hc) (mrecv_X12 C hw) mm_175 mm_176 mm_177 mm_27 mm_178 (by decide +kernel) rfl (by omega) (by omega) hl.1 rfl (Nat.le_of_ble_eq_true rfl) dX12_tells_81 (fun H locs hw => ?_)
  exact mw_tells_84 fu C hret x1 x2 x3 r1 F1 G1 hm hw (lv_sub hl [0, 1, 2, 3] rfl)
theorem mw_tells_70 (fu : Nat) {res : Int32 × PF × PG} (C : mMC p R s m args c A v RX12 cX12_tells 7 609 36203) (hret : ∀ (H1 : Heap) (locs1 : List Loc) (ls1 : Array Slot) (pc : Nat), mMW s A v a res.2.1 res.2.2 H1 locs1 → narrow .boolean (.int res.1) = .int res.1 → decode cX12_tells pc = .ok (.ireturn, 1) → W p l e R s m args below meth c H1 locs1 0 0 Q (F0 m pc ls1 [.int res.1])) (x1 : Int32) (x2 : Int32) (x3 : Int32) (F : PF) (G : PG) (hm : mb_tells_70 fu x1 x2 x3 F G = some res) {H : Heap} {locs : List Loc} (hw : mMW s A v a F G H locs) {ls : Array Slot} (hl : lv_has ls 7 [(0, .ref (a 212)), (1, .int x1), (2, .int x2), (3, .int x3)]) : W p l e R s m args below meth c H locs 0 0 Q (F0 m 70 ls []) := by
  have hx := C.1
  have hb := C.2.1
  unfold mb_tells_70 at hm
  refine lv_aload_n hx hb dX12_tells_70 rfl (lv_at hl 0 rfl) ?_
  refine lv_dup hx hb dX12_tells_71 rfl ?_
  refine mg_X12_233 C hw dX12_tells_72 ?_
  refine lv_iconst (v := 1) hx hb dX12_tells_75 (by decide) ?_
  refine lv_iadd hx hb dX12_tells_76 ?_
  refine mp_X12_233 C hw dX12_tells_77 (fun H locs hw => ?_)
  exact mw_tells_80 fu C hret x1 x2 x3 (fup F 42 ((F 42) + (1 : Int32))) G hm hw (lv_sub hl [0, 1, 2, 3] rfl)
theorem mw_tells_69 (fu : Nat) {res : Int32 × PF × PG} (C : mMC p R s m args c A v RX12 cX12_tells 7 609 36203) (hret : ∀ (H1 : Heap) (locs1 : List Loc) (ls1 : Array Slot) (pc : Nat), mMW s A v a res.2.1 res.2.2 H1 locs1 → narrow .boolean (.int res.1) = .int res.1 → decode cX12_tells pc = .ok (.ireturn, 1) → W p l e R s m args below meth c H1 locs1 0 0 Q (F0 m pc ls1 [.int res.1])) (z0 : Int32) (F : PF) (G : PG) (hm : mb_tells_69 fu z0 F G = some res) {H : Heap} {locs : List Loc} (hw : mMW s A v a F G H locs) {ls : Array Slot} (hl : lv_has ls 7 []) : W p l e R s m args below meth c H locs 0 0 Q (F0 m 69 ls [.int z0]) := by
  have hx := C.1
  have hb := C.2.1
  unfold mb_tells_69 at hm
  obtain ⟨hz, hm⟩ := b01_elim hm
  obtain rfl := Option.some.inj hm
  exact hret _ _ _ _ hw (b01_nar hz) dX12_tells_69
theorem mw_tells_64 (fu : Nat) {res : Int32 × PF × PG} (C : mMC p R s m args c A v RX12 cX12_tells 7 609 36203) (hret : ∀ (H1 : Heap) (locs1 : List Loc) (ls1 : Array Slot) (pc : Nat), mMW s A v a res.2.1 res.2.2 H1 locs1 → narrow .boolean (.int res.1) = .int res.1 → decode cX12_tells pc = .ok (.ireturn, 1) → W p l e R s m args below meth c H1 locs1 0 0 Q (F0 m pc ls1 [.int res.1])) (F : PF) (G : PG) (hm : mb_tells_64 fu F G = some res) {H : Heap} {locs : List Loc} (hw : mMW s A v a F G H locs) {ls : Array Slot} (hl : lv_has ls 7 [(0, .ref (a 212))]) : W p l e R s m args below meth c H locs 0 0 Q (F0 m 64 ls []) := by
  have hx := C.1
  have hb := C.2.1
  unfold mb_tells_64 at hm
  refine lv_aload_n hx hb dX12_tells_64 rfl (lv_at hl 0 rfl) ?_
  refine lv_iconst (v := 2) hx hb dX12_tells_65 (by decide) ?_
  obtain ⟨⟨r1, F1, G1⟩, hc, hm⟩ := bind_elim hm
  refine mcallI (n := 1) (As := [.int 2]) (rest := []) C hw (mk_fails l v a _ fu 2 F G r1 F1 G1 hc) (mrecv_X12 C hw) mm_166 mm_167 mm_168 mm_27 mm_169 (by decide +kernel) rfl (by omega) (by omega) hl.1 rfl (Nat.le_of_ble_eq_true rfl) dX12_tells_66 (fun H locs hw => ?_)
  exact mw_tells_69 fu C hret r1 F1 G1 hm hw (lv_sub hl [] rfl)
theorem mw_tells_61 (fu : Nat) {res : Int32 × PF × PG} (C : mMC p R s m args c A v RX12 cX12_tells 7 609 36203) (hret : ∀ (H1 : Heap) (locs1 : List Loc) (ls1 : Array Slot) (pc : Nat), mMW s A v a res.2.1 res.2.2 H1 locs1 → narrow .boolean (.int res.1) = .int res.1 → decode cX12_tells pc = .ok (.ireturn, 1) → W p l e R s m args below meth c H1 locs1 0 0 Q (F0 m pc ls1 [.int res.1])) (x1 : Int32) (x2 : Int32) (x3 : Int32) (z0 : Int32) (F : PF) (G : PG) (hm : mb_tells_61 fu x1 x2 x3 z0 F G = some res) {H : Heap} {locs : List Loc} (hw : mMW s A v a F G H locs) {ls : Array Slot} (hl : lv_has ls 7 [(0, .ref (a 212)), (1, .int x1), (2, .int x2), (3, .int x3)]) : W p l e R s m args below meth c H locs 0 0 Q (F0 m 61 ls [.int z0]) := by
  have hx := C.1
  have hb := C.2.1
  unfold mb_tells_61 at hm
  refine lv_if_ne (tgt := 70) hx hb dX12_tells_61 (by decide) (fun c_1 => ?_) (fun c_1 => ?_)
  · have hm := (if_neg c_1).symm.trans hm
    exact mw_tells_70 fu C hret x1 x2 x3 F G hm hw (lv_sub hl [0, 1, 2, 3] rfl)
  · have hm := (if_pos c_1).symm.trans hm
    exact mw_tells_64 fu C hret F G hm hw (lv_sub hl [0] rfl)
theorem mw_tells_56 (fu : Nat) {res : Int32 × PF × PG} (C : mMC p R s m args c A v RX12 cX12_tells 7 609 36203) (hret : ∀ (H1 : Heap) (locs1 : List Loc) (ls1 : Array Slot) (pc : Nat), mMW s A v a res.2.1 res.2.2 H1 locs1 → narrow .boolean (.int res.1) = .int res.1 → decode cX12_tells pc = .ok (.ireturn, 1) → W p l e R s m args below meth c H1 locs1 0 0 Q (F0 m pc ls1 [.int res.1])) (x1 : Int32) (x2 : Int32) (x3 : Int32) (F : PF) (G : PG) (hm : mb_tells_56 fu x1 x2 x3 F G = some res) {H : Heap} {locs : List Loc} (hw : mMW s A v a F G H locs) {ls : Array Slot} (hl : lv_has ls 7 [(0, .ref (a 212)), (1, .int x1), (2, .int x2), (3, .int x3)]) : W p l e R s m args below meth c H locs 0 0 Q (F0 m 56 ls []) := by
  have hx := C.1
  have hb := C.2.1
  unfold mb_tells_56 at hm
  refine lv_aload_n hx hb dX12_tells_56 rfl (lv_at hl 0 rfl) ?_
  refine lv_iconst (v := 0) hx hb dX12_tells_57 (by decide) ?_
  obtain ⟨⟨r1, F1, G1⟩, hc, hm⟩ := bind_elim hm
  refine mcallI (n := 1) (As := [.int 0]) (rest := []) C hw (mk_isWord l v a _ fu 0 F G r1 F1 G1 hc) (mrecv_X12 C hw) mm_162 mm_163 mm_164 mm_27 mm_165 (by decide +kernel) rfl (by omega) (by omega) hl.1 rfl (Nat.le_of_ble_eq_true rfl) dX12_tells_58 (fun H locs hw => ?_)
  exact mw_tells_61 fu C hret x1 x2 x3 r1 F1 G1 hm hw (lv_sub hl [0, 1, 2, 3] rfl)
theorem mw_tells_52 (fu : Nat) {res : Int32 × PF × PG} (C : mMC p R s m args c A v RX12 cX12_tells 7 609 36203) (hret : ∀ (H1 : Heap) (locs1 : List Loc) (ls1 : Array Slot) (pc : Nat), mMW s A v a res.2.1 res.2.2 H1 locs1 → narrow .boolean (.int res.1) = .int res.1 → decode cX12_tells pc = .ok (.ireturn, 1) → W p l e R s m args below meth c H1 locs1 0 0 Q (F0 m pc ls1 [.int res.1])) (x1 : Int32) (x2 : Int32) (x3 : Int32) (F : PF) (G : PG) (hm : mb_tells_52 fu x1 x2 x3 F G = some res) {H : Heap} {locs : List Loc} (hw : mMW s A v a F G H locs) {ls : Array Slot} (hl : lv_has ls 7 [(0, .ref (a 212)), (1, .int x1), (2, .int x2), (3, .int x3)]) : W p l e R s m args below meth c H locs 0 0 Q (F0 m 52 ls []) := by
  have hx := C.1
  have hb := C.2.1
  unfold mb_tells_52 at hm
  refine lv_iload_n hx hb dX12_tells_52 rfl (lv_at hl 3 rfl) ?_
  refine lv_if_ne (tgt := 70) hx hb dX12_tells_53 (by decide) (fun c_1 => ?_) (fun c_1 => ?_)
  · have hm := (if_neg c_1).symm.trans hm
    exact mw_tells_70 fu C hret x1 x2 x3 F G hm hw (lv_sub hl [0, 1, 2, 3] rfl)
  · have hm := (if_pos c_1).symm.trans hm
    exact mw_tells_56 fu C hret x1 x2 x3 F G hm hw (lv_sub hl [0, 1, 2, 3] rfl)
theorem mw_tells_47 (fu : Nat) {res : Int32 × PF × PG} (C : mMC p R s m args c A v RX12 cX12_tells 7 609 36203) (hret : ∀ (H1 : Heap) (locs1 : List Loc) (ls1 : Array Slot) (pc : Nat), mMW s A v a res.2.1 res.2.2 H1 locs1 → narrow .boolean (.int res.1) = .int res.1 → decode cX12_tells pc = .ok (.ireturn, 1) → W p l e R s m args below meth c H1 locs1 0 0 Q (F0 m pc ls1 [.int res.1])) (x1 : Int32) (x2 : Int32) (z0 : Int32) (F : PF) (G : PG) (hm : mb_tells_47 fu x1 x2 z0 F G = some res) {H : Heap} {locs : List Loc} (hw : mMW s A v a F G H locs) {ls : Array Slot} (hl : lv_has ls 7 [(0, .ref (a 212)), (1, .int x1), (2, .int x2)]) : W p l e R s m args below meth c H locs 0 0 Q (F0 m 47 ls [.int z0]) := by
  have hx := C.1
  have hb := C.2.1
  unfold mb_tells_47 at hm
  refine lv_istore_n (lv' := [(3, .int z0), (0, .ref (a 212)), (1, .int x1), (2, .int x2)]) hx hb dX12_tells_47 rfl hl (by decide) rfl (fun ls hl => ?_)
  refine lv_iload_n hx hb dX12_tells_48 rfl (lv_at hl 3 rfl) ?_
  refine lv_if_ne (tgt := 70) hx hb dX12_tells_49 (by decide) (fun c_1 => ?_) (fun c_1 => ?_)
  · have hm := (if_neg c_1).symm.trans hm
    exact mw_tells_70 fu C hret x1 x2 z0 F G hm hw (lv_sub hl [1, 2, 3, 0] rfl)
  · have hm := (if_pos c_1).symm.trans hm
    exact mw_tells_52 fu C hret x1 x2 z0 F G hm hw (lv_sub hl [1, 2, 3, 0] rfl)
theorem mw_tells_41 (fu : Nat) {res : Int32 × PF × PG} (C : mMC p R s m args c A v RX12 cX12_tells 7 609 36203) (hret : ∀ (H1 : Heap) (locs1 : List Loc) (ls1 : Array Slot) (pc : Nat), mMW s A v a res.2.1 res.2.2 H1 locs1 → narrow .boolean (.int res.1) = .int res.1 → decode cX12_tells pc = .ok (.ireturn, 1) → W p l e R s m args below meth c H1 locs1 0 0 Q (F0 m pc ls1 [.int res.1])) (x1 : Int32) (z0 : Int32) (F : PF) (G : PG) (hm : mb_tells_41 fu x1 z0 F G = some res) {H : Heap} {locs : List Loc} (hw : mMW s A v a F G H locs) {ls : Array Slot} (hl : lv_has ls 7 [(0, .ref (a 212)), (1, .int x1)]) : W p l e R s m args below meth c H locs 0 0 Q (F0 m 41 ls [.int z0]) := by
  have hx := C.1
  have hb := C.2.1
  unfold mb_tells_41 at hm
  refine lv_istore_n (lv' := [(2, .int z0), (0, .ref (a 212)), (1, .int x1)]) hx hb dX12_tells_41 rfl hl (by decide) rfl (fun ls hl => ?_)
  refine lv_aload_n hx hb dX12_tells_42 rfl (lv_at hl 1 rfl) ?_
  refine lv_iconst (v := 1) hx hb dX12_tells_43 (by decide) ?_
  obtain ⟨⟨r1, F1, G1⟩, hc, hm⟩ := bind_elim hm
  refine mcallI (n := 1) (As := [.int 1]) (rest := []) C hw (mk_isWord l v a _ fu 1 F G r1 F1 G1 hc) (mrecv_X12 C hw) mm_162 mm_163 mm_164 mm_27 mm_165 (by decide +kernel) rfl (by omega) (by omega) hl.1 rfl (Nat.le_of_ble_eq_true rfl) dX12_tells_44 (fun H locs hw => ?_)
  exact mw_tells_47 fu C hret x1 z0 r1 F1 G1 hm hw (lv_sub hl [1, 2, 0] rfl)
theorem mw_tells_36 (fu : Nat) {res : Int32 × PF × PG} (C : mMC p R s m args c A v RX12 cX12_tells 7 609 36203) (hret : ∀ (H1 : Heap) (locs1 : List Loc) (ls1 : Array Slot) (pc : Nat), mMW s A v a res.2.1 res.2.2 H1 locs1 → narrow .boolean (.int res.1) = .int res.1 → decode cX12_tells pc = .ok (.ireturn, 1) → W p l e R s m args below meth c H1 locs1 0 0 Q (F0 m pc ls1 [.int res.1])) (x1 : Int32) (F : PF) (G : PG) (hm : mb_tells_36 fu x1 F G = some res) {H : Heap} {locs : List Loc} (hw : mMW s A v a F G H locs) {ls : Array Slot} (hl : lv_has ls 7 [(0, .ref (a 212)), (1, .int x1)]) : W p l e R s m args below meth c H locs 0 0 Q (F0 m 36 ls []) := by
  have hx := C.1
  have hb := C.2.1
  unfold mb_tells_36 at hm
  refine lv_aload_n hx hb dX12_tells_36 rfl (lv_at hl 0 rfl) ?_
  refine lv_iconst (v := 2) hx hb dX12_tells_37 (by decide) ?_
  obtain ⟨⟨r1, F1, G1⟩, hc, hm⟩ := bind_elim hm
  refine mcallI (n := 1) (As := [.int 2]) (rest := []) C hw (mk_isWord l v a _ fu 2 F G r1 F1 G1 hc) (mrecv_X12 C hw) mm_162 mm_163 mm_164 mm_27 mm_165 (by decide +kernel) rfl (by omega) (by omega) hl.1 rfl (Nat.le_of_ble_eq_true rfl) dX12_tells_38 (fun H locs hw => ?_)
  exact mw_tells_41 fu C hret x1 r1 F1 G1 hm hw (lv_sub hl [0, 1] rfl)
theorem mw_tells_35 (fu : Nat) {res : Int32 × PF × PG} (C : mMC p R s m args c A v RX12 cX12_tells 7 609 36203) (hret : ∀ (H1 : Heap) (locs1 : List Loc) (ls1 : Array Slot) (pc : Nat), mMW s A v a res.2.1 res.2.2 H1 locs1 → narrow .boolean (.int res.1) = .int res.1 → decode cX12_tells pc = .ok (.ireturn, 1) → W p l e R s m args below meth c H1 locs1 0 0 Q (F0 m pc ls1 [.int res.1])) (z0 : Int32) (F : PF) (G : PG) (hm : mb_tells_35 fu z0 F G = some res) {H : Heap} {locs : List Loc} (hw : mMW s A v a F G H locs) {ls : Array Slot} (hl : lv_has ls 7 []) : W p l e R s m args below meth c H locs 0 0 Q (F0 m 35 ls [.int z0]) := by
  have hx := C.1
  have hb := C.2.1
  unfold mb_tells_35 at hm
  obtain ⟨hz, hm⟩ := b01_elim hm
  obtain rfl := Option.some.inj hm
  exact hret _ _ _ _ hw (b01_nar hz) dX12_tells_35
theorem mw_tells_34 (fu : Nat) {res : Int32 × PF × PG} (C : mMC p R s m args c A v RX12 cX12_tells 7 609 36203) (hret : ∀ (H1 : Heap) (locs1 : List Loc) (ls1 : Array Slot) (pc : Nat), mMW s A v a res.2.1 res.2.2 H1 locs1 → narrow .boolean (.int res.1) = .int res.1 → decode cX12_tells pc = .ok (.ireturn, 1) → W p l e R s m args below meth c H1 locs1 0 0 Q (F0 m pc ls1 [.int res.1])) (F : PF) (G : PG) (hm : mb_tells_34 fu F G = some res) {H : Heap} {locs : List Loc} (hw : mMW s A v a F G H locs) {ls : Array Slot} (hl : lv_has ls 7 []) : W p l e R s m args below meth c H locs 0 0 Q (F0 m 34 ls []) := by
  have hx := C.1
  have hb := C.2.1
  unfold mb_tells_34 at hm
  refine lv_iconst (v := 0) hx hb dX12_tells_34 (by decide) ?_
  exact mw_tells_35 fu C hret 0 F G hm hw (lv_sub hl [] rfl)
theorem mw_tells_30 (fu : Nat) {res : Int32 × PF × PG} (C : mMC p R s m args c A v RX12 cX12_tells 7 609 36203) (hret : ∀ (H1 : Heap) (locs1 : List Loc) (ls1 : Array Slot) (pc : Nat), mMW s A v a res.2.1 res.2.2 H1 locs1 → narrow .boolean (.int res.1) = .int res.1 → decode cX12_tells pc = .ok (.ireturn, 1) → W p l e R s m args below meth c H1 locs1 0 0 Q (F0 m pc ls1 [.int res.1])) (F : PF) (G : PG) (hm : mb_tells_30 fu F G = some res) {H : Heap} {locs : List Loc} (hw : mMW s A v a F G H locs) {ls : Array Slot} (hl : lv_has ls 7 []) : W p l e R s m args below meth c H locs 0 0 Q (F0 m 30 ls []) := by
  have hx := C.1
  have hb := C.2.1
  unfold mb_tells_30 at hm
  refine lv_iconst (v := 1) hx hb dX12_tells_30 (by decide) ?_
  refine lv_goto (tgt := 35) hx hb dX12_tells_31 (by decide) ?_
  exact mw_tells_35 fu C hret 1 F G hm hw (lv_sub hl [] rfl)
theorem mw_tells_27 (fu : Nat) {res : Int32 × PF × PG} (C : mMC p R s m args c A v RX12 cX12_tells 7 609 36203) (hret : ∀ (H1 : Heap) (locs1 : List Loc) (ls1 : Array Slot) (pc : Nat), mMW s A v a res.2.1 res.2.2 H1 locs1 → narrow .boolean (.int res.1) = .int res.1 → decode cX12_tells pc = .ok (.ireturn, 1) → W p l e R s m args below meth c H1 locs1 0 0 Q (F0 m pc ls1 [.int res.1])) (z0 : Int32) (F : PF) (G : PG) (hm : mb_tells_27 fu z0 F G = some res) {H : Heap} {locs : List Loc} (hw : mMW s A v a F G H locs) {ls : Array Slot} (hl : lv_has ls 7 []) : W p l e R s m args below meth c H locs 0 0 Q (F0 m 27 ls [.int z0]) := by
  have hx := C.1
  have hb := C.2.1
  unfold mb_tells_27 at hm
  refine lv_if_eq (tgt := 34) hx hb dX12_tells_27 (by decide) (fun c_1 => ?_) (fun c_1 => ?_)
  · have hm := (if_pos c_1).symm.trans hm
    exact mw_tells_34 fu C hret F G hm hw (lv_sub hl [] rfl)
  · have hm := (if_neg c_1).symm.trans hm
    exact mw_tells_30 fu C hret F G hm hw (lv_sub hl [] rfl)
theorem mw_tells_23 (fu : Nat) {res : Int32 × PF × PG} (C : mMC p R s m args c A v RX12 cX12_tells 7 609 36203) (hret : ∀ (H1 : Heap) (locs1 : List Loc) (ls1 : Array Slot) (pc : Nat), mMW s A v a res.2.1 res.2.2 H1 locs1 → narrow .boolean (.int res.1) = .int res.1 → decode cX12_tells pc = .ok (.ireturn, 1) → W p l e R s m args below meth c H1 locs1 0 0 Q (F0 m pc ls1 [.int res.1])) (F : PF) (G : PG) (hm : mb_tells_23 fu F G = some res) {H : Heap} {locs : List Loc} (hw : mMW s A v a F G H locs) {ls : Array Slot} (hl : lv_has ls 7 [(0, .ref (a 212))]) : W p l e R s m args below meth c H locs 0 0 Q (F0 m 23 ls []) := by
  have hx := C.1
  have hb := C.2.1
  unfold mb_tells_23 at hm
  refine lv_aload_n hx hb dX12_tells_23 rfl (lv_at hl 0 rfl) ?_
  obtain ⟨⟨r1, F1, G1⟩, hc, hm⟩ := bind_elim hm
  refine mcallI (n := 0) (As := []) (rest := []) C hw (mk_constantTold l v a _ fu F G r1 F1 G1 hc) (mrecv_X12 C hw) mm_170 mm_171 mm_172 mm_27 mm_173 (by decide +kernel) rfl (by omega) (by omega) hl.1 rfl (Nat.le_of_ble_eq_true rfl) dX12_tells_24 (fun H locs hw => ?_)
  exact mw_tells_27 fu C hret r1 F1 G1 hm hw (lv_sub hl [] rfl)
theorem mw_tells_20 (fu : Nat) {res : Int32 × PF × PG} (C : mMC p R s m args c A v RX12 cX12_tells 7 609 36203) (hret : ∀ (H1 : Heap) (locs1 : List Loc) (ls1 : Array Slot) (pc : Nat), mMW s A v a res.2.1 res.2.2 H1 locs1 → narrow .boolean (.int res.1) = .int res.1 → decode cX12_tells pc = .ok (.ireturn, 1) → W p l e R s m args below meth c H1 locs1 0 0 Q (F0 m pc ls1 [.int res.1])) (z0 : Int32) (F : PF) (G : PG) (hm : mb_tells_20 fu z0 F G = some res) {H : Heap} {locs : List Loc} (hw : mMW s A v a F G H locs) {ls : Array Slot} (hl : lv_has ls 7 [(0, .ref (a 212))]) : W p l e R s m args below meth c H locs 0 0 Q (F0 m 20 ls [.int z0]) := by
  have hx := C.1
  have hb := C.2.1
  unfold mb_tells_20 at hm
  refine lv_if_eq (tgt := 34) hx hb dX12_tells_20 (by decide) (fun c_1 => ?_) (fun c_1 => ?_)
  · have hm := (if_pos c_1).symm.trans hm
    exact mw_tells_34 fu C hret F G hm hw (lv_sub hl [] rfl)
  · have hm := (if_neg c_1).symm.trans hm
    exact mw_tells_23 fu C hret F G hm hw (lv_sub hl [0] rfl)
theorem mw_tells_14 (fu : Nat) {res : Int32 × PF × PG} (C : mMC p R s m args c A v RX12 cX12_tells 7 609 36203) (hret : ∀ (H1 : Heap) (locs1 : List Loc) (ls1 : Array Slot) (pc : Nat), mMW s A v a res.2.1 res.2.2 H1 locs1 → narrow .boolean (.int res.1) = .int res.1 → decode cX12_tells pc = .ok (.ireturn, 1) → W p l e R s m args below meth c H1 locs1 0 0 Q (F0 m pc ls1 [.int res.1])) (F : PF) (G : PG) (hm : mb_tells_14 fu F G = some res) {H : Heap} {locs : List Loc} (hw : mMW s A v a F G H locs) {ls : Array Slot} (hl : lv_has ls 7 [(0, .ref (a 212))]) : W p l e R s m args below meth c H locs 0 0 Q (F0 m 14 ls []) := by
  have hx := C.1
  have hb := C.2.1
  unfold mb_tells_14 at hm
  refine lv_aload_n hx hb dX12_tells_14 rfl (lv_at hl 0 rfl) ?_
  refine lv_iconst (v := 0) hx hb dX12_tells_15 (by decide) ?_
  refine lv_iconst (v := 1) hx hb dX12_tells_16 (by decide) ?_
  obtain ⟨⟨r1, F1, G1⟩, hc, hm⟩ := bind_elim hm
  refine mcallI (n := 2) (As := [.int 0, .int 1]) (rest := []) C hw (mk_word l v a _ fu 0 1 F G r1 F1 G1 hc) (mrecv_X12 C hw) mm_158 mm_159 mm_160 mm_27 mm_161 (by decide +kernel) rfl (by omega) (by omega) hl.1 rfl (Nat.le_of_ble_eq_true rfl) dX12_tells_17 (fun H locs hw => ?_)
  exact mw_tells_20 fu C hret r1 F1 G1 hm hw (lv_sub hl [0] rfl)
theorem mw_tells_11 (fu : Nat) {res : Int32 × PF × PG} (C : mMC p R s m args c A v RX12 cX12_tells 7 609 36203) (hret : ∀ (H1 : Heap) (locs1 : List Loc) (ls1 : Array Slot) (pc : Nat), mMW s A v a res.2.1 res.2.2 H1 locs1 → narrow .boolean (.int res.1) = .int res.1 → decode cX12_tells pc = .ok (.ireturn, 1) → W p l e R s m args below meth c H1 locs1 0 0 Q (F0 m pc ls1 [.int res.1])) (x1 : Int32) (z0 : Int32) (F : PF) (G : PG) (hm : mb_tells_11 fu x1 z0 F G = some res) {H : Heap} {locs : List Loc} (hw : mMW s A v a F G H locs) {ls : Array Slot} (hl : lv_has ls 7 [(0, .ref (a 212)), (1, .int x1)]) : W p l e R s m args below meth c H locs 0 0 Q (F0 m 11 ls [.int z0]) := by
  have hx := C.1
  have hb := C.2.1
  unfold mb_tells_11 at hm
  refine lv_if_eq (tgt := 36) hx hb dX12_tells_11 (by decide) (fun c_1 => ?_) (fun c_1 => ?_)
  · have hm := (if_pos c_1).symm.trans hm
    exact mw_tells_36 fu C hret x1 F G hm hw (lv_sub hl [0, 1] rfl)
  · have hm := (if_neg c_1).symm.trans hm
    exact mw_tells_14 fu C hret F G hm hw (lv_sub hl [0] rfl)
theorem mw_tells_5 (fu : Nat) {res : Int32 × PF × PG} (C : mMC p R s m args c A v RX12 cX12_tells 7 609 36203) (hret : ∀ (H1 : Heap) (locs1 : List Loc) (ls1 : Array Slot) (pc : Nat), mMW s A v a res.2.1 res.2.2 H1 locs1 → narrow .boolean (.int res.1) = .int res.1 → decode cX12_tells pc = .ok (.ireturn, 1) → W p l e R s m args below meth c H1 locs1 0 0 Q (F0 m pc ls1 [.int res.1])) (x1 : Int32) (F : PF) (G : PG) (hm : mb_tells_5 fu x1 F G = some res) {H : Heap} {locs : List Loc} (hw : mMW s A v a F G H locs) {ls : Array Slot} (hl : lv_has ls 7 [(0, .ref (a 212)), (1, .int x1)]) : W p l e R s m args below meth c H locs 0 0 Q (F0 m 5 ls []) := by
  have hx := C.1
  have hb := C.2.1
  unfold mb_tells_5 at hm
  refine lv_aload_n hx hb dX12_tells_5 rfl (lv_at hl 0 rfl) ?_
  refine lv_iconst (v := 3) hx hb dX12_tells_6 (by decide) ?_
  refine lv_iconst (v := 0) hx hb dX12_tells_7 (by decide) ?_
  obtain ⟨⟨r1, F1, G1⟩, hc, hm⟩ := bind_elim hm
  refine mcallI (n := 2) (As := [.int 3, .int 0]) (rest := []) C hw (mk_word l v a _ fu 3 0 F G r1 F1 G1 hc) (mrecv_X12 C hw) mm_158 mm_159 mm_160 mm_27 mm_161 (by decide +kernel) rfl (by omega) (by omega) hl.1 rfl (Nat.le_of_ble_eq_true rfl) dX12_tells_8 (fun H locs hw => ?_)
  exact mw_tells_11 fu C hret x1 r1 F1 G1 hm hw (lv_sub hl [0, 1] rfl)
theorem mw_tells_0 (fu : Nat) {res : Int32 × PF × PG} (C : mMC p R s m args c A v RX12 cX12_tells 7 609 36203) (hret : ∀ (H1 : Heap) (locs1 : List Loc) (ls1 : Array Slot) (pc : Nat), mMW s A v a res.2.1 res.2.2 H1 locs1 → narrow .boolean (.int res.1) = .int res.1 → decode cX12_tells pc = .ok (.ireturn, 1) → W p l e R s m args below meth c H1 locs1 0 0 Q (F0 m pc ls1 [.int res.1])) (x1 : Int32) (F : PF) (G : PG) (hm : mb_tells_0 fu x1 F G = some res) {H : Heap} {locs : List Loc} (hw : mMW s A v a F G H locs) {ls : Array Slot} (hl : lv_has ls 7 [(0, .ref (a 212)), (1, .int x1)]) : W p l e R s m args below meth c H locs 0 0 Q (F0 m 0 ls []) := by
  have hx := C.1
  have hb := C.2.1
  unfold mb_tells_0 at hm
  refine lv_aload_n hx hb dX12_tells_0 rfl (lv_at hl 0 rfl) ?_
  refine lv_iconst (v := 0) hx hb dX12_tells_1 (by decide) ?_
  refine mp_X12_306 C hw (by decide) dX12_tells_2 (fun H locs hw => ?_)
  exact mw_tells_5 fu C hret x1 (fup F 61 (0 : Int32)) G hm hw (lv_sub hl [0, 1] rfl)
theorem mk_tells (l : Launch) (v : EV) (a : Nat → Nat) (sz : Nat) (fu : Nat) (x1 : Int32) (F : PF) (G : PG) (r : Int32) (F1 : PF) (G1 : PG) (hm : mf_tells fu x1 F G = some (r, F1, G1)) : mMI l yX12_tells cX12_tells 7 (some .boolean) 609 36203 v a sz [.ref (a 212), .int x1] F G r F1 G1 := mMI.of (ty := .boolean) (by decide) rfl (Nat.le_of_ble_eq_true rfl) (fun p e R s m args below meth c Q A H locs ls C hw hl hret => mw_tells_0 fu (res := (r, F1, G1)) C hret x1 F G hm hw hl)
def mb_texts_155 (fu : Nat) (z0 : Int32) (F : PF) (G : PG) : PR := if b01 z0 = true then (some (z0, F, G)) else none
def mb_texts_154 (fu : Nat) (F : PF) (G : PG) : PR := mb_texts_155 fu 0 F G
def mb_texts_150 (fu : Nat) (F : PF) (G : PG) : PR := mb_texts_155 fu 1 F G
def mb_texts_147 (fu : Nat) (z0 : Int32) (F : PF) (G : PG) : PR := if z0 = (0 : Int32) then mb_texts_154 fu F G else mb_texts_150 fu F G
def mb_texts_142 (fu : Nat) (F : PF) (G : PG) : PR := (mf_fails fu 1 F G).bind (fun q => mb_texts_147 fu q.1 q.2.1 q.2.2)
def mb_texts_134 (fu : Nat) (F : PF) (G : PG) : PR := if (F 8) = (-1 : Int32) then mb_texts_150 fu F G else mb_texts_142 fu F G
def mb_texts_127 (fu : Nat) (F : PF) (G : PG) : PR := if (F 44) = (0 : Int32) then mb_texts_134 fu F G else mb_texts_154 fu F G
def mb_texts_122 (fu : Nat) (ag_87 : Int32 → Int32 → PF → PG → PR) (x2 : Int32) (z0 : Int32) (z1 : Int32) (F : PF) (G : PG) : PR := ag_87 (z1 + z0) x2 F G
def mb_texts_121 (fu : Nat) (ag_87 : Int32 → Int32 → PF → PG → PR) (x2 : Int32) (z0 : Int32) (F : PF) (G : PG) : PR := mb_texts_122 fu ag_87 x2 0 z0 F G
def mb_texts_117 (fu : Nat) (ag_87 : Int32 → Int32 → PF → PG → PR) (x2 : Int32) (z0 : Int32) (F : PF) (G : PG) : PR := mb_texts_122 fu ag_87 x2 1 z0 F G
def mb_texts_108 (fu : Nat) (ag_87 : Int32 → Int32 → PF → PG → PR) (x1 : Int32) (z0 : Int32) (F : PF) (G : PG) : PR := if (F 61) = (0 : Int32) then mb_texts_121 fu ag_87 z0 x1 F G else mb_texts_117 fu ag_87 z0 x1 F G
def mb_texts_103 (fu : Nat) (ag_87 : Int32 → Int32 → PF → PG → PR) (x1 : Int32) (F : PF) (G : PG) : PR := (mf_tells fu x1 F G).bind (fun q => mb_texts_108 fu ag_87 x1 q.1 q.2.1 q.2.2)
def mb_texts_91 (fu : Nat) (ag_87 : Int32 → Int32 → PF → PG → PR) (x1 : Int32) (F : PF) (G : PG) : PR := if ixb (F 42) 4002 = true then (if (G 4 (F 42).toNatClampNeg) = (0 : Int32) then mb_texts_127 fu F G else mb_texts_103 fu ag_87 x1 F G) else none
def mb_texts_87 (fu : Nat) (ag_87 : Int32 → Int32 → PF → PG → PR) (x1 : Int32) (x2 : Int32) (F : PF) (G : PG) : PR := if x2 = (0 : Int32) then mb_texts_127 fu F G else mb_texts_91 fu ag_87 x1 F G
def ml_texts_87 (fu : Nat) : Nat → Int32 → Int32 → PF → PG → PR
  | 0 => fun _ _ _ _ => none
  | n + 1 => fun x1 x2 F G => mb_texts_87 fu (ml_texts_87 fu n) x1 x2 F G
def mb_texts_85 (fu : Nat) (x1 : Int32) (F : PF) (G : PG) : PR := ml_texts_87 fu fu x1 1 F G
def mb_texts_82 (fu : Nat) (x1 : Int32) (z0 : Int32) (F : PF) (G : PG) : PR := mb_texts_85 fu x1 (fup F 35 z0) G
def mb_texts_78 (fu : Nat) (x1 : Int32) (F : PF) (G : PG) : PR := mb_texts_82 fu x1 (F 35) F G
def mb_texts_74 (fu : Nat) (x1 : Int32) (F : PF) (G : PG) : PR := mb_texts_82 fu x1 0 F G
def mb_texts_64 (fu : Nat) (F : PF) (G : PG) : PR := if (F 46) = (0 : Int32) then mb_texts_74 fu 0 F G else mb_texts_78 fu 0 F G
def mb_texts_61 (fu : Nat) (z0 : Int32) (F : PF) (G : PG) : PR := mb_texts_64 fu (fup F 24 z0) G
def mb_texts_57 (fu : Nat) (F : PF) (G : PG) : PR := mb_texts_61 fu (F 24) F G
def mb_texts_53 (fu : Nat) (F : PF) (G : PG) : PR := mb_texts_61 fu 0 F G
def mb_texts_45 (fu : Nat) (F : PF) (G : PG) : PR := if (F 46) = (0 : Int32) then mb_texts_53 fu F G else mb_texts_57 fu F G
def mb_texts_40 (fu : Nat) (F : PF) (G : PG) : PR := mb_texts_45 fu (fup F 50 (-1 : Int32)) G
def mb_texts_35 (fu : Nat) (F : PF) (G : PG) : PR := mb_texts_40 fu (fup F 37 (0 : Int32)) G
def mb_texts_30 (fu : Nat) (F : PF) (G : PG) : PR := mb_texts_35 fu (fup F 36 (0 : Int32)) G
def mb_texts_25 (fu : Nat) (F : PF) (G : PG) : PR := mb_texts_30 fu (fup F 70 (0 : Int32)) G
def mb_texts_20 (fu : Nat) (F : PF) (G : PG) : PR := mb_texts_25 fu (fup F 60 (0 : Int32)) G
def mb_texts_15 (fu : Nat) (F : PF) (G : PG) : PR := mb_texts_20 fu (fup F 15 (0 : Int32)) G
def mb_texts_10 (fu : Nat) (F : PF) (G : PG) : PR := mb_texts_15 fu (fup F 14 (0 : Int32)) G
def mb_texts_5 (fu : Nat) (F : PF) (G : PG) : PR := mb_texts_10 fu (fup F 43 (0 : Int32)) G
def mb_texts_0 (fu : Nat) (F : PF) (G : PG) : PR := mb_texts_5 fu (fup F 42 (0 : Int32)) G
def mf_texts (fu : Nat) (F : PF) (G : PG) : PR := mb_texts_0 fu F G
theorem mw_texts_155 (fu : Nat) {res : Int32 × PF × PG} (C : mMC p R s m args c A v RX12 cX12_texts 3 610 36229) (hret : ∀ (H1 : Heap) (locs1 : List Loc) (ls1 : Array Slot) (pc : Nat), mMW s A v a res.2.1 res.2.2 H1 locs1 → narrow .boolean (.int res.1) = .int res.1 → decode cX12_texts pc = .ok (.ireturn, 1) → W p l e R s m args below meth c H1 locs1 0 0 Q (F0 m pc ls1 [.int res.1])) (z0 : Int32) (F : PF) (G : PG) (hm : mb_texts_155 fu z0 F G = some res) {H : Heap} {locs : List Loc} (hw : mMW s A v a F G H locs) {ls : Array Slot} (hl : lv_has ls 3 []) : W p l e R s m args below meth c H locs 0 0 Q (F0 m 155 ls [.int z0]) := by
  have hx := C.1
  have hb := C.2.1
  unfold mb_texts_155 at hm
  obtain ⟨hz, hm⟩ := b01_elim hm
  obtain rfl := Option.some.inj hm
  exact hret _ _ _ _ hw (b01_nar hz) dX12_texts_155
theorem mw_texts_154 (fu : Nat) {res : Int32 × PF × PG} (C : mMC p R s m args c A v RX12 cX12_texts 3 610 36229) (hret : ∀ (H1 : Heap) (locs1 : List Loc) (ls1 : Array Slot) (pc : Nat), mMW s A v a res.2.1 res.2.2 H1 locs1 → narrow .boolean (.int res.1) = .int res.1 → decode cX12_texts pc = .ok (.ireturn, 1) → W p l e R s m args below meth c H1 locs1 0 0 Q (F0 m pc ls1 [.int res.1])) (F : PF) (G : PG) (hm : mb_texts_154 fu F G = some res) {H : Heap} {locs : List Loc} (hw : mMW s A v a F G H locs) {ls : Array Slot} (hl : lv_has ls 3 []) : W p l e R s m args below meth c H locs 0 0 Q (F0 m 154 ls []) := by
  have hx := C.1
  have hb := C.2.1
  unfold mb_texts_154 at hm
  refine lv_iconst (v := 0) hx hb dX12_texts_154 (by decide) ?_
  exact mw_texts_155 fu C hret 0 F G hm hw (lv_sub hl [] rfl)
theorem mw_texts_150 (fu : Nat) {res : Int32 × PF × PG} (C : mMC p R s m args c A v RX12 cX12_texts 3 610 36229) (hret : ∀ (H1 : Heap) (locs1 : List Loc) (ls1 : Array Slot) (pc : Nat), mMW s A v a res.2.1 res.2.2 H1 locs1 → narrow .boolean (.int res.1) = .int res.1 → decode cX12_texts pc = .ok (.ireturn, 1) → W p l e R s m args below meth c H1 locs1 0 0 Q (F0 m pc ls1 [.int res.1])) (F : PF) (G : PG) (hm : mb_texts_150 fu F G = some res) {H : Heap} {locs : List Loc} (hw : mMW s A v a F G H locs) {ls : Array Slot} (hl : lv_has ls 3 []) : W p l e R s m args below meth c H locs 0 0 Q (F0 m 150 ls []) := by
  have hx := C.1
  have hb := C.2.1
  unfold mb_texts_150 at hm
  refine lv_iconst (v := 1) hx hb dX12_texts_150 (by decide) ?_
  refine lv_goto (tgt := 155) hx hb dX12_texts_151 (by decide) ?_
  exact mw_texts_155 fu C hret 1 F G hm hw (lv_sub hl [] rfl)
theorem mw_texts_147 (fu : Nat) {res : Int32 × PF × PG} (C : mMC p R s m args c A v RX12 cX12_texts 3 610 36229) (hret : ∀ (H1 : Heap) (locs1 : List Loc) (ls1 : Array Slot) (pc : Nat), mMW s A v a res.2.1 res.2.2 H1 locs1 → narrow .boolean (.int res.1) = .int res.1 → decode cX12_texts pc = .ok (.ireturn, 1) → W p l e R s m args below meth c H1 locs1 0 0 Q (F0 m pc ls1 [.int res.1])) (z0 : Int32) (F : PF) (G : PG) (hm : mb_texts_147 fu z0 F G = some res) {H : Heap} {locs : List Loc} (hw : mMW s A v a F G H locs) {ls : Array Slot} (hl : lv_has ls 3 []) : W p l e R s m args below meth c H locs 0 0 Q (F0 m 147 ls [.int z0]) := by
  have hx := C.1
  have hb := C.2.1
  unfold mb_texts_147 at hm
  refine lv_if_eq (tgt := 154) hx hb dX12_texts_147 (by decide) (fun c_1 => ?_) (fun c_1 => ?_)
  · have hm := (if_pos c_1).symm.trans hm
    exact mw_texts_154 fu C hret F G hm hw (lv_sub hl [] rfl)
  · have hm := (if_neg c_1).symm.trans hm
    exact mw_texts_150 fu C hret F G hm hw (lv_sub hl [] rfl)
theorem mw_texts_142 (fu : Nat) {res : Int32 × PF × PG} (C : mMC p R s m args c A v RX12 cX12_texts 3 610 36229) (hret : ∀ (H1 : Heap) (locs1 : List Loc) (ls1 : Array Slot) (pc : Nat), mMW s A v a res.2.1 res.2.2 H1 locs1 → narrow .boolean (.int res.1) = .int res.1 → decode cX12_texts pc = .ok (.ireturn, 1) → W p l e R s m args below meth c H1 locs1 0 0 Q (F0 m pc ls1 [.int res.1])) (F : PF) (G : PG) (hm : mb_texts_142 fu F G = some res) {H : Heap} {locs : List Loc} (hw : mMW s A v a F G H locs) {ls : Array Slot} (hl : lv_has ls 3 [(0, .ref (a 212))]) : W p l e R s m args below meth c H locs 0 0 Q (F0 m 142 ls []) := by
  have hx := C.1
  have hb := C.2.1
  unfold mb_texts_142 at hm
  refine lv_aload_n hx hb dX12_texts_142 rfl (lv_at hl 0 rfl) ?_
  refine lv_iconst (v := 1) hx hb dX12_texts_143 (by decide) ?_
  obtain ⟨⟨r1, F1, G1⟩, hc, hm⟩ := bind_elim hm
  refine mcallI (n := 1) (As := [.int 1]) (rest := []) C hw (mk_fails l v a _ fu 1 F G r1 F1 G1 hc) (mrecv_X12 C hw) mm_166 mm_167 mm_168 mm_27 mm_169 (by decide +kernel) rfl (by omega) (by omega) hl.1 rfl (Nat.le_of_ble_eq_true rfl) dX12_texts_144 (fun H locs hw => ?_)
  exact mw_texts_147 fu C hret r1 F1 G1 hm hw (lv_sub hl [] rfl)
theorem mw_texts_134 (fu : Nat) {res : Int32 × PF × PG} (C : mMC p R s m args c A v RX12 cX12_texts 3 610 36229) (hret : ∀ (H1 : Heap) (locs1 : List Loc) (ls1 : Array Slot) (pc : Nat), mMW s A v a res.2.1 res.2.2 H1 locs1 → narrow .boolean (.int res.1) = .int res.1 → decode cX12_texts pc = .ok (.ireturn, 1) → W p l e R s m args below meth c H1 locs1 0 0 Q (F0 m pc ls1 [.int res.1])) (F : PF) (G : PG) (hm : mb_texts_134 fu F G = some res) {H : Heap} {locs : List Loc} (hw : mMW s A v a F G H locs) {ls : Array Slot} (hl : lv_has ls 3 [(0, .ref (a 212))]) : W p l e R s m args below meth c H locs 0 0 Q (F0 m 134 ls []) := by
  have hx := C.1
  have hb := C.2.1
  unfold mb_texts_134 at hm
  refine lv_aload_n hx hb dX12_texts_134 rfl (lv_at hl 0 rfl) ?_
  refine mg_X12_184 C hw dX12_texts_135 ?_
  refine lv_iconst (v := (-1)) hx hb dX12_texts_138 (by decide) ?_
  refine lv_icmp_eq (tgt := 150) hx hb dX12_texts_139 (by decide) (fun c_1 => ?_) (fun c_1 => ?_)
  · have hm := (if_pos c_1).symm.trans hm
    exact mw_texts_150 fu C hret F G hm hw (lv_sub hl [] rfl)
  · have hm := (if_neg c_1).symm.trans hm
    exact mw_texts_142 fu C hret F G hm hw (lv_sub hl [0] rfl)
theorem mw_texts_127 (fu : Nat) {res : Int32 × PF × PG} (C : mMC p R s m args c A v RX12 cX12_texts 3 610 36229) (hret : ∀ (H1 : Heap) (locs1 : List Loc) (ls1 : Array Slot) (pc : Nat), mMW s A v a res.2.1 res.2.2 H1 locs1 → narrow .boolean (.int res.1) = .int res.1 → decode cX12_texts pc = .ok (.ireturn, 1) → W p l e R s m args below meth c H1 locs1 0 0 Q (F0 m pc ls1 [.int res.1])) (F : PF) (G : PG) (hm : mb_texts_127 fu F G = some res) {H : Heap} {locs : List Loc} (hw : mMW s A v a F G H locs) {ls : Array Slot} (hl : lv_has ls 3 [(0, .ref (a 212))]) : W p l e R s m args below meth c H locs 0 0 Q (F0 m 127 ls []) := by
  have hx := C.1
  have hb := C.2.1
  unfold mb_texts_127 at hm
  refine lv_aload_n hx hb dX12_texts_127 rfl (lv_at hl 0 rfl) ?_
  refine mg_X12_230 C hw dX12_texts_128 ?_
  refine lv_if_ne (tgt := 154) hx hb dX12_texts_131 (by decide) (fun c_1 => ?_) (fun c_1 => ?_)
  · have hm := (if_neg c_1).symm.trans hm
    exact mw_texts_154 fu C hret F G hm hw (lv_sub hl [] rfl)
  · have hm := (if_pos c_1).symm.trans hm
    exact mw_texts_134 fu C hret F G hm hw (lv_sub hl [0] rfl)
theorem mw_texts_122 (fu : Nat) {res : Int32 × PF × PG} (C : mMC p R s m args c A v RX12 cX12_texts 3 610 36229) (hret : ∀ (H1 : Heap) (locs1 : List Loc) (ls1 : Array Slot) (pc : Nat), mMW s A v a res.2.1 res.2.2 H1 locs1 → narrow .boolean (.int res.1) = .int res.1 → decode cX12_texts pc = .ok (.ireturn, 1) → W p l e R s m args below meth c H1 locs1 0 0 Q (F0 m pc ls1 [.int res.1])) (ag_87 : Int32 → Int32 → PF → PG → PR) (hag_87 : ∀ (x1 : Int32) (x2 : Int32) (F : PF) (G : PG), ag_87 x1 x2 F G = some res → ∀ (H : Heap) (locs : List Loc) (ls : Array Slot), mMW s A v a F G H locs → lv_has ls 3 [(0, .ref (a 212)), (1, .int x1), (2, .int x2)] → W p l e R s m args below meth c H locs 0 0 Q (F0 m 87 ls [])) (x2 : Int32) (z0 : Int32) (z1 : Int32) (F : PF) (G : PG) (hm : mb_texts_122 fu ag_87 x2 z0 z1 F G = some res) {H : Heap} {locs : List Loc} (hw : mMW s A v a F G H locs) {ls : Array Slot} (hl : lv_has ls 3 [(0, .ref (a 212)), (2, .int x2)]) : W p l e R s m args below meth c H locs 0 0 Q (F0 m 122 ls [.int z0, .int z1]) := by
  have hx := C.1
  have hb := C.2.1
  unfold mb_texts_122 at hm
  refine lv_iadd hx hb dX12_texts_122 ?_
  refine lv_istore_n (lv' := [(1, .int (z1 + z0)), (0, .ref (a 212)), (2, .int x2)]) hx hb dX12_texts_123 rfl hl (by decide) rfl (fun ls hl => ?_)
  refine lv_goto (tgt := 87) hx hb dX12_texts_124 (by decide) ?_
  exact hag_87 (z1 + z0) x2 F G hm _ _ _ hw (lv_sub hl [1, 0, 2] rfl)
theorem mw_texts_121 (fu : Nat) {res : Int32 × PF × PG} (C : mMC p R s m args c A v RX12 cX12_texts 3 610 36229) (hret : ∀ (H1 : Heap) (locs1 : List Loc) (ls1 : Array Slot) (pc : Nat), mMW s A v a res.2.1 res.2.2 H1 locs1 → narrow .boolean (.int res.1) = .int res.1 → decode cX12_texts pc = .ok (.ireturn, 1) → W p l e R s m args below meth c H1 locs1 0 0 Q (F0 m pc ls1 [.int res.1])) (ag_87 : Int32 → Int32 → PF → PG → PR) (hag_87 : ∀ (x1 : Int32) (x2 : Int32) (F : PF) (G : PG), ag_87 x1 x2 F G = some res → ∀ (H : Heap) (locs : List Loc) (ls : Array Slot), mMW s A v a F G H locs → lv_has ls 3 [(0, .ref (a 212)), (1, .int x1), (2, .int x2)] → W p l e R s m args below meth c H locs 0 0 Q (F0 m 87 ls [])) (x2 : Int32) (z0 : Int32) (F : PF) (G : PG) (hm : mb_texts_121 fu ag_87 x2 z0 F G = some res) {H : Heap} {locs : List Loc} (hw : mMW s A v a F G H locs) {ls : Array Slot} (hl : lv_has ls 3 [(0, .ref (a 212)), (2, .int x2)]) : W p l e R s m args below meth c H locs 0 0 Q (F0 m 121 ls [.int z0]) := by
  have hx := C.1
  have hb := C.2.1
  unfold mb_texts_121 at hm
  refine lv_iconst (v := 0) hx hb dX12_texts_121 (by decide) ?_
  exact mw_texts_122 fu C hret ag_87 hag_87 x2 0 z0 F G hm hw (lv_sub hl [0, 1] rfl)
theorem mw_texts_117 (fu : Nat) {res : Int32 × PF × PG} (C : mMC p R s m args c A v RX12 cX12_texts 3 610 36229) (hret : ∀ (H1 : Heap) (locs1 : List Loc) (ls1 : Array Slot) (pc : Nat), mMW s A v a res.2.1 res.2.2 H1 locs1 → narrow .boolean (.int res.1) = .int res.1 → decode cX12_texts pc = .ok (.ireturn, 1) → W p l e R s m args below meth c H1 locs1 0 0 Q (F0 m pc ls1 [.int res.1])) (ag_87 : Int32 → Int32 → PF → PG → PR) (hag_87 : ∀ (x1 : Int32) (x2 : Int32) (F : PF) (G : PG), ag_87 x1 x2 F G = some res → ∀ (H : Heap) (locs : List Loc) (ls : Array Slot), mMW s A v a F G H locs → lv_has ls 3 [(0, .ref (a 212)), (1, .int x1), (2, .int x2)] → W p l e R s m args below meth c H locs 0 0 Q (F0 m 87 ls [])) (x2 : Int32) (z0 : Int32) (F : PF) (G : PG) (hm : mb_texts_117 fu ag_87 x2 z0 F G = some res) {H : Heap} {locs : List Loc} (hw : mMW s A v a F G H locs) {ls : Array Slot} (hl : lv_has ls 3 [(0, .ref (a 212)), (2, .int x2)]) : W p l e R s m args below meth c H locs 0 0 Q (F0 m 117 ls [.int z0]) := by
  have hx := C.1
  have hb := C.2.1
  unfold mb_texts_117 at hm
  refine lv_iconst (v := 1) hx hb dX12_texts_117 (by decide) ?_
  refine lv_goto (tgt := 122) hx hb dX12_texts_118 (by decide) ?_
  exact mw_texts_122 fu C hret ag_87 hag_87 x2 1 z0 F G hm hw (lv_sub hl [0, 1] rfl)
theorem mw_texts_108 (fu : Nat) {res : Int32 × PF × PG} (C : mMC p R s m args c A v RX12 cX12_texts 3 610 36229) (hret : ∀ (H1 : Heap) (locs1 : List Loc) (ls1 : Array Slot) (pc : Nat), mMW s A v a res.2.1 res.2.2 H1 locs1 → narrow .boolean (.int res.1) = .int res.1 → decode cX12_texts pc = .ok (.ireturn, 1) → W p l e R s m args below meth c H1 locs1 0 0 Q (F0 m pc ls1 [.int res.1])) (ag_87 : Int32 → Int32 → PF → PG → PR) (hag_87 : ∀ (x1 : Int32) (x2 : Int32) (F : PF) (G : PG), ag_87 x1 x2 F G = some res → ∀ (H : Heap) (locs : List Loc) (ls : Array Slot), mMW s A v a F G H locs → lv_has ls 3 [(0, .ref (a 212)), (1, .int x1), (2, .int x2)] → W p l e R s m args below meth c H locs 0 0 Q (F0 m 87 ls [])) (x1 : Int32) (z0 : Int32) (F : PF) (G : PG) (hm : mb_texts_108 fu ag_87 x1 z0 F G = some res) {H : Heap} {locs : List Loc} (hw : mMW s A v a F G H locs) {ls : Array Slot} (hl : lv_has ls 3 [(0, .ref (a 212)), (1, .int x1)]) : W p l e R s m args below meth c H locs 0 0 Q (F0 m 108 ls [.int z0]) := by
  have hx := C.1
  have hb := C.2.1
  unfold mb_texts_108 at hm
  refine lv_istore_n (lv' := [(2, .int z0), (0, .ref (a 212)), (1, .int x1)]) hx hb dX12_texts_108 rfl hl (by decide) rfl (fun ls hl => ?_)
  refine lv_iload_n hx hb dX12_texts_109 rfl (lv_at hl 2 rfl) ?_
  refine lv_aload_n hx hb dX12_texts_110 rfl (lv_at hl 1 rfl) ?_
  refine mg_X12_306 C hw dX12_texts_111 ?_
  refine lv_if_eq (tgt := 121) hx hb dX12_texts_114 (by decide) (fun c_1 => ?_) (fun c_1 => ?_)
  · have hm := (if_pos c_1).symm.trans hm
    exact mw_texts_121 fu C hret ag_87 hag_87 z0 x1 F G hm hw (lv_sub hl [1, 0] rfl)
  · have hm := (if_neg c_1).symm.trans hm
    exact mw_texts_117 fu C hret ag_87 hag_87 z0 x1 F G hm hw (lv_sub hl [1, 0] rfl)
theorem mw_texts_103 (fu : Nat) {res : Int32 × PF × PG} (C : mMC p R s m args c A v RX12 cX12_texts 3 610 36229) (hret : ∀ (H1 : Heap) (locs1 : List Loc) (ls1 : Array Slot) (pc : Nat), mMW s A v a res.2.1 res.2.2 H1 locs1 → narrow .boolean (.int res.1) = .int res.1 → decode cX12_texts pc = .ok (.ireturn, 1) → W p l e R s m args below meth c H1 locs1 0 0 Q (F0 m pc ls1 [.int res.1])) (ag_87 : Int32 → Int32 → PF → PG → PR) (hag_87 : ∀ (x1 : Int32) (x2 : Int32) (F : PF) (G : PG), ag_87 x1 x2 F G = some res → ∀ (H : Heap) (locs : List Loc) (ls : Array Slot), mMW s A v a F G H locs → lv_has ls 3 [(0, .ref (a 212)), (1, .int x1), (2, .int x2)] → W p l e R s m args below meth c H locs 0 0 Q (F0 m 87 ls [])) (x1 : Int32) (F : PF) (G : PG) (hm : mb_texts_103 fu ag_87 x1 F G = some res) {H : Heap} {locs : List Loc} (hw : mMW s A v a F G H locs) {ls : Array Slot} (hl : lv_has ls 3 [(0, .ref (a 212)), (1, .int x1)]) : W p l e R s m args below meth c H locs 0 0 Q (F0 m 103 ls []) := by
  have hx := C.1
  have hb := C.2.1
  unfold mb_texts_103 at hm
  refine lv_aload_n hx hb dX12_texts_103 rfl (lv_at hl 0 rfl) ?_
  refine lv_iload_n hx hb dX12_texts_104 rfl (lv_at hl 1 rfl) ?_
  obtain ⟨⟨r1, F1, G1⟩, hc, hm⟩ := bind_elim hm
  refine mcallI (n := 1) (As := [.int x1]) (rest := []) C hw (mk_tells l v a _ fu x1 F G r1 F1 G1 hc) (mrecv_X12 C hw) mm_148 mm_149 mm_150 mm_27 mm_151 (by decide +kernel) rfl (by omega) (by omega) hl.1 rfl (Nat.le_of_ble_eq_true rfl) dX12_texts_105 (fun H locs hw => ?_)
  exact mw_texts_108 fu C hret ag_87 hag_87 x1 r1 F1 G1 hm hw (lv_sub hl [0, 1] rfl)
theorem mw_texts_91 (fu : Nat) {res : Int32 × PF × PG} (C : mMC p R s m args c A v RX12 cX12_texts 3 610 36229) (hret : ∀ (H1 : Heap) (locs1 : List Loc) (ls1 : Array Slot) (pc : Nat), mMW s A v a res.2.1 res.2.2 H1 locs1 → narrow .boolean (.int res.1) = .int res.1 → decode cX12_texts pc = .ok (.ireturn, 1) → W p l e R s m args below meth c H1 locs1 0 0 Q (F0 m pc ls1 [.int res.1])) (ag_87 : Int32 → Int32 → PF → PG → PR) (hag_87 : ∀ (x1 : Int32) (x2 : Int32) (F : PF) (G : PG), ag_87 x1 x2 F G = some res → ∀ (H : Heap) (locs : List Loc) (ls : Array Slot), mMW s A v a F G H locs → lv_has ls 3 [(0, .ref (a 212)), (1, .int x1), (2, .int x2)] → W p l e R s m args below meth c H locs 0 0 Q (F0 m 87 ls [])) (x1 : Int32) (F : PF) (G : PG) (hm : mb_texts_91 fu ag_87 x1 F G = some res) {H : Heap} {locs : List Loc} (hw : mMW s A v a F G H locs) {ls : Array Slot} (hl : lv_has ls 3 [(0, .ref (a 212)), (1, .int x1)]) : W p l e R s m args below meth c H locs 0 0 Q (F0 m 91 ls []) := by
  have hx := C.1
  have hb := C.2.1
  unfold mb_texts_91 at hm
  refine lv_aload_n hx hb dX12_texts_91 rfl (lv_at hl 0 rfl) ?_
  refine mg_X12_16 C hw dX12_texts_92 ?_
  refine lv_aload_n hx hb dX12_texts_95 rfl (lv_at hl 0 rfl) ?_
  refine mg_X12_233 C hw dX12_texts_96 ?_
  obtain ⟨hi, hm⟩ := ix_elim hm
  refine mal_4 C hw hi dX12_texts_99 ?_
  refine lv_if_eq (tgt := 127) hx hb dX12_texts_100 (by decide) (fun c_1 => ?_) (fun c_1 => ?_)
  · have hm := (if_pos c_1).symm.trans hm
    exact mw_texts_127 fu C hret F G hm hw (lv_sub hl [0] rfl)
  · have hm := (if_neg c_1).symm.trans hm
    exact mw_texts_103 fu C hret ag_87 hag_87 x1 F G hm hw (lv_sub hl [0, 1] rfl)
theorem mw_texts_87 (fu : Nat) {res : Int32 × PF × PG} (C : mMC p R s m args c A v RX12 cX12_texts 3 610 36229) (hret : ∀ (H1 : Heap) (locs1 : List Loc) (ls1 : Array Slot) (pc : Nat), mMW s A v a res.2.1 res.2.2 H1 locs1 → narrow .boolean (.int res.1) = .int res.1 → decode cX12_texts pc = .ok (.ireturn, 1) → W p l e R s m args below meth c H1 locs1 0 0 Q (F0 m pc ls1 [.int res.1])) (ag_87 : Int32 → Int32 → PF → PG → PR) (hag_87 : ∀ (x1 : Int32) (x2 : Int32) (F : PF) (G : PG), ag_87 x1 x2 F G = some res → ∀ (H : Heap) (locs : List Loc) (ls : Array Slot), mMW s A v a F G H locs → lv_has ls 3 [(0, .ref (a 212)), (1, .int x1), (2, .int x2)] → W p l e R s m args below meth c H locs 0 0 Q (F0 m 87 ls [])) (x1 : Int32) (x2 : Int32) (F : PF) (G : PG) (hm : mb_texts_87 fu ag_87 x1 x2 F G = some res) {H : Heap} {locs : List Loc} (hw : mMW s A v a F G H locs) {ls : Array Slot} (hl : lv_has ls 3 [(0, .ref (a 212)), (1, .int x1), (2, .int x2)]) : W p l e R s m args below meth c H locs 0 0 Q (F0 m 87 ls []) := by
  have hx := C.1
  have hb := C.2.1
  unfold mb_texts_87 at hm
  refine lv_iload_n hx hb dX12_texts_87 rfl (lv_at hl 2 rfl) ?_
  refine lv_if_eq (tgt := 127) hx hb dX12_texts_88 (by decide) (fun c_1 => ?_) (fun c_1 => ?_)
  · have hm := (if_pos c_1).symm.trans hm
    exact mw_texts_127 fu C hret F G hm hw (lv_sub hl [0] rfl)
  · have hm := (if_neg c_1).symm.trans hm
    exact mw_texts_91 fu C hret ag_87 hag_87 x1 F G hm hw (lv_sub hl [0, 1] rfl)
theorem mwl_texts_87 (fu : Nat) {res : Int32 × PF × PG} (C : mMC p R s m args c A v RX12 cX12_texts 3 610 36229) (hret : ∀ (H1 : Heap) (locs1 : List Loc) (ls1 : Array Slot) (pc : Nat), mMW s A v a res.2.1 res.2.2 H1 locs1 → narrow .boolean (.int res.1) = .int res.1 → decode cX12_texts pc = .ok (.ireturn, 1) → W p l e R s m args below meth c H1 locs1 0 0 Q (F0 m pc ls1 [.int res.1])) : ∀ (n : Nat) (x1 : Int32) (x2 : Int32) (F : PF) (G : PG) (hm : ml_texts_87 fu n x1 x2 F G = some res) {H : Heap} {locs : List Loc} (hw : mMW s A v a F G H locs) {ls : Array Slot} (hl : lv_has ls 3 [(0, .ref (a 212)), (1, .int x1), (2, .int x2)]), W p l e R s m args below meth c H locs 0 0 Q (F0 m 87 ls []) := by
  intro n
  induction n with
  | zero =>
    intro x1 x2 F G hm
    exact no_elim (show (none : PR) = some res from hm)
  | succ n ih =>
    intro x1 x2 F G hm H locs hw ls hl
    exact mw_texts_87 fu C hret (ml_texts_87 fu n) (fun x1 x2 F G hm H locs ls hw hl => ih x1 x2 F G hm hw hl) x1 x2 F G hm hw hl
theorem mw_texts_85 (fu : Nat) {res : Int32 × PF × PG} (C : mMC p R s m args c A v RX12 cX12_texts 3 610 36229) (hret : ∀ (H1 : Heap) (locs1 : List Loc) (ls1 : Array Slot) (pc : Nat), mMW s A v a res.2.1 res.2.2 H1 locs1 → narrow .boolean (.int res.1) = .int res.1 → decode cX12_texts pc = .ok (.ireturn, 1) → W p l e R s m args below meth c H1 locs1 0 0 Q (F0 m pc ls1 [.int res.1])) (x1 : Int32) (F : PF) (G : PG) (hm : mb_texts_85 fu x1 F G = some res) {H : Heap} {locs : List Loc} (hw : mMW s A v a F G H locs) {ls : Array Slot} (hl : lv_has ls 3 [(0, .ref (a 212)), (1, .int x1)]) : W p l e R s m args below meth c H locs 0 0 Q (F0 m 85 ls []) := by
  have hx := C.1
  have hb := C.2.1
  unfold mb_texts_85 at hm
  refine lv_iconst (v := 1) hx hb dX12_texts_85 (by decide) ?_
  refine lv_istore_n (lv' := [(2, .int 1), (0, .ref (a 212)), (1, .int x1)]) hx hb dX12_texts_86 rfl hl (by decide) rfl (fun ls hl => ?_)
  exact mwl_texts_87 fu C hret fu x1 1 F G hm hw (lv_sub hl [1, 2, 0] rfl)
theorem mw_texts_82 (fu : Nat) {res : Int32 × PF × PG} (C : mMC p R s m args c A v RX12 cX12_texts 3 610 36229) (hret : ∀ (H1 : Heap) (locs1 : List Loc) (ls1 : Array Slot) (pc : Nat), mMW s A v a res.2.1 res.2.2 H1 locs1 → narrow .boolean (.int res.1) = .int res.1 → decode cX12_texts pc = .ok (.ireturn, 1) → W p l e R s m args below meth c H1 locs1 0 0 Q (F0 m pc ls1 [.int res.1])) (x1 : Int32) (z0 : Int32) (F : PF) (G : PG) (hm : mb_texts_82 fu x1 z0 F G = some res) {H : Heap} {locs : List Loc} (hw : mMW s A v a F G H locs) {ls : Array Slot} (hl : lv_has ls 3 [(0, .ref (a 212)), (1, .int x1)]) : W p l e R s m args below meth c H locs 0 0 Q (F0 m 82 ls [.int z0, .ref (a 212)]) := by
  have hx := C.1
  have hb := C.2.1
  unfold mb_texts_82 at hm
  refine mp_X12_300 C hw dX12_texts_82 (fun H locs hw => ?_)
  exact mw_texts_85 fu C hret x1 (fup F 35 z0) G hm hw (lv_sub hl [0, 1] rfl)
theorem mw_texts_78 (fu : Nat) {res : Int32 × PF × PG} (C : mMC p R s m args c A v RX12 cX12_texts 3 610 36229) (hret : ∀ (H1 : Heap) (locs1 : List Loc) (ls1 : Array Slot) (pc : Nat), mMW s A v a res.2.1 res.2.2 H1 locs1 → narrow .boolean (.int res.1) = .int res.1 → decode cX12_texts pc = .ok (.ireturn, 1) → W p l e R s m args below meth c H1 locs1 0 0 Q (F0 m pc ls1 [.int res.1])) (x1 : Int32) (F : PF) (G : PG) (hm : mb_texts_78 fu x1 F G = some res) {H : Heap} {locs : List Loc} (hw : mMW s A v a F G H locs) {ls : Array Slot} (hl : lv_has ls 3 [(0, .ref (a 212)), (1, .int x1)]) : W p l e R s m args below meth c H locs 0 0 Q (F0 m 78 ls [.ref (a 212)]) := by
  have hx := C.1
  have hb := C.2.1
  unfold mb_texts_78 at hm
  refine lv_aload_n hx hb dX12_texts_78 rfl (lv_at hl 0 rfl) ?_
  refine mg_X12_300 C hw dX12_texts_79 ?_
  exact mw_texts_82 fu C hret x1 (F 35) F G hm hw (lv_sub hl [0, 1] rfl)
theorem mw_texts_74 (fu : Nat) {res : Int32 × PF × PG} (C : mMC p R s m args c A v RX12 cX12_texts 3 610 36229) (hret : ∀ (H1 : Heap) (locs1 : List Loc) (ls1 : Array Slot) (pc : Nat), mMW s A v a res.2.1 res.2.2 H1 locs1 → narrow .boolean (.int res.1) = .int res.1 → decode cX12_texts pc = .ok (.ireturn, 1) → W p l e R s m args below meth c H1 locs1 0 0 Q (F0 m pc ls1 [.int res.1])) (x1 : Int32) (F : PF) (G : PG) (hm : mb_texts_74 fu x1 F G = some res) {H : Heap} {locs : List Loc} (hw : mMW s A v a F G H locs) {ls : Array Slot} (hl : lv_has ls 3 [(0, .ref (a 212)), (1, .int x1)]) : W p l e R s m args below meth c H locs 0 0 Q (F0 m 74 ls [.ref (a 212)]) := by
  have hx := C.1
  have hb := C.2.1
  unfold mb_texts_74 at hm
  refine lv_iconst (v := 0) hx hb dX12_texts_74 (by decide) ?_
  refine lv_goto (tgt := 82) hx hb dX12_texts_75 (by decide) ?_
  exact mw_texts_82 fu C hret x1 0 F G hm hw (lv_sub hl [0, 1] rfl)
theorem mw_texts_64 (fu : Nat) {res : Int32 × PF × PG} (C : mMC p R s m args c A v RX12 cX12_texts 3 610 36229) (hret : ∀ (H1 : Heap) (locs1 : List Loc) (ls1 : Array Slot) (pc : Nat), mMW s A v a res.2.1 res.2.2 H1 locs1 → narrow .boolean (.int res.1) = .int res.1 → decode cX12_texts pc = .ok (.ireturn, 1) → W p l e R s m args below meth c H1 locs1 0 0 Q (F0 m pc ls1 [.int res.1])) (F : PF) (G : PG) (hm : mb_texts_64 fu F G = some res) {H : Heap} {locs : List Loc} (hw : mMW s A v a F G H locs) {ls : Array Slot} (hl : lv_has ls 3 [(0, .ref (a 212))]) : W p l e R s m args below meth c H locs 0 0 Q (F0 m 64 ls []) := by
  have hx := C.1
  have hb := C.2.1
  unfold mb_texts_64 at hm
  refine lv_iconst (v := 0) hx hb dX12_texts_64 (by decide) ?_
  refine lv_istore_n (lv' := [(1, .int 0), (0, .ref (a 212))]) hx hb dX12_texts_65 rfl hl (by decide) rfl (fun ls hl => ?_)
  refine lv_aload_n hx hb dX12_texts_66 rfl (lv_at hl 1 rfl) ?_
  refine lv_aload_n hx hb dX12_texts_67 rfl (lv_at hl 1 rfl) ?_
  refine mg_X12_245 C hw dX12_texts_68 ?_
  refine lv_if_ne (tgt := 78) hx hb dX12_texts_71 (by decide) (fun c_1 => ?_) (fun c_1 => ?_)
  · have hm := (if_neg c_1).symm.trans hm
    exact mw_texts_78 fu C hret 0 F G hm hw (lv_sub hl [1, 0] rfl)
  · have hm := (if_pos c_1).symm.trans hm
    exact mw_texts_74 fu C hret 0 F G hm hw (lv_sub hl [1, 0] rfl)
theorem mw_texts_61 (fu : Nat) {res : Int32 × PF × PG} (C : mMC p R s m args c A v RX12 cX12_texts 3 610 36229) (hret : ∀ (H1 : Heap) (locs1 : List Loc) (ls1 : Array Slot) (pc : Nat), mMW s A v a res.2.1 res.2.2 H1 locs1 → narrow .boolean (.int res.1) = .int res.1 → decode cX12_texts pc = .ok (.ireturn, 1) → W p l e R s m args below meth c H1 locs1 0 0 Q (F0 m pc ls1 [.int res.1])) (z0 : Int32) (F : PF) (G : PG) (hm : mb_texts_61 fu z0 F G = some res) {H : Heap} {locs : List Loc} (hw : mMW s A v a F G H locs) {ls : Array Slot} (hl : lv_has ls 3 [(0, .ref (a 212))]) : W p l e R s m args below meth c H locs 0 0 Q (F0 m 61 ls [.int z0, .ref (a 212)]) := by
  have hx := C.1
  have hb := C.2.1
  unfold mb_texts_61 at hm
  refine mp_X12_297 C hw dX12_texts_61 (fun H locs hw => ?_)
  exact mw_texts_64 fu C hret (fup F 24 z0) G hm hw (lv_sub hl [0] rfl)
theorem mw_texts_57 (fu : Nat) {res : Int32 × PF × PG} (C : mMC p R s m args c A v RX12 cX12_texts 3 610 36229) (hret : ∀ (H1 : Heap) (locs1 : List Loc) (ls1 : Array Slot) (pc : Nat), mMW s A v a res.2.1 res.2.2 H1 locs1 → narrow .boolean (.int res.1) = .int res.1 → decode cX12_texts pc = .ok (.ireturn, 1) → W p l e R s m args below meth c H1 locs1 0 0 Q (F0 m pc ls1 [.int res.1])) (F : PF) (G : PG) (hm : mb_texts_57 fu F G = some res) {H : Heap} {locs : List Loc} (hw : mMW s A v a F G H locs) {ls : Array Slot} (hl : lv_has ls 3 [(0, .ref (a 212))]) : W p l e R s m args below meth c H locs 0 0 Q (F0 m 57 ls [.ref (a 212)]) := by
  have hx := C.1
  have hb := C.2.1
  unfold mb_texts_57 at hm
  refine lv_aload_n hx hb dX12_texts_57 rfl (lv_at hl 0 rfl) ?_
  refine mg_X12_297 C hw dX12_texts_58 ?_
  exact mw_texts_61 fu C hret (F 24) F G hm hw (lv_sub hl [0] rfl)
theorem mw_texts_53 (fu : Nat) {res : Int32 × PF × PG} (C : mMC p R s m args c A v RX12 cX12_texts 3 610 36229) (hret : ∀ (H1 : Heap) (locs1 : List Loc) (ls1 : Array Slot) (pc : Nat), mMW s A v a res.2.1 res.2.2 H1 locs1 → narrow .boolean (.int res.1) = .int res.1 → decode cX12_texts pc = .ok (.ireturn, 1) → W p l e R s m args below meth c H1 locs1 0 0 Q (F0 m pc ls1 [.int res.1])) (F : PF) (G : PG) (hm : mb_texts_53 fu F G = some res) {H : Heap} {locs : List Loc} (hw : mMW s A v a F G H locs) {ls : Array Slot} (hl : lv_has ls 3 [(0, .ref (a 212))]) : W p l e R s m args below meth c H locs 0 0 Q (F0 m 53 ls [.ref (a 212)]) := by
  have hx := C.1
  have hb := C.2.1
  unfold mb_texts_53 at hm
  refine lv_iconst (v := 0) hx hb dX12_texts_53 (by decide) ?_
  refine lv_goto (tgt := 61) hx hb dX12_texts_54 (by decide) ?_
  exact mw_texts_61 fu C hret 0 F G hm hw (lv_sub hl [0] rfl)
theorem mw_texts_45 (fu : Nat) {res : Int32 × PF × PG} (C : mMC p R s m args c A v RX12 cX12_texts 3 610 36229) (hret : ∀ (H1 : Heap) (locs1 : List Loc) (ls1 : Array Slot) (pc : Nat), mMW s A v a res.2.1 res.2.2 H1 locs1 → narrow .boolean (.int res.1) = .int res.1 → decode cX12_texts pc = .ok (.ireturn, 1) → W p l e R s m args below meth c H1 locs1 0 0 Q (F0 m pc ls1 [.int res.1])) (F : PF) (G : PG) (hm : mb_texts_45 fu F G = some res) {H : Heap} {locs : List Loc} (hw : mMW s A v a F G H locs) {ls : Array Slot} (hl : lv_has ls 3 [(0, .ref (a 212))]) : W p l e R s m args below meth c H locs 0 0 Q (F0 m 45 ls []) := by
  have hx := C.1
  have hb := C.2.1
  unfold mb_texts_45 at hm
  refine lv_aload_n hx hb dX12_texts_45 rfl (lv_at hl 0 rfl) ?_
  refine lv_aload_n hx hb dX12_texts_46 rfl (lv_at hl 0 rfl) ?_
  refine mg_X12_245 C hw dX12_texts_47 ?_
  refine lv_if_ne (tgt := 57) hx hb dX12_texts_50 (by decide) (fun c_1 => ?_) (fun c_1 => ?_)
  · have hm := (if_neg c_1).symm.trans hm
    exact mw_texts_57 fu C hret F G hm hw (lv_sub hl [0] rfl)
  · have hm := (if_pos c_1).symm.trans hm
    exact mw_texts_53 fu C hret F G hm hw (lv_sub hl [0] rfl)
theorem mw_texts_40 (fu : Nat) {res : Int32 × PF × PG} (C : mMC p R s m args c A v RX12 cX12_texts 3 610 36229) (hret : ∀ (H1 : Heap) (locs1 : List Loc) (ls1 : Array Slot) (pc : Nat), mMW s A v a res.2.1 res.2.2 H1 locs1 → narrow .boolean (.int res.1) = .int res.1 → decode cX12_texts pc = .ok (.ireturn, 1) → W p l e R s m args below meth c H1 locs1 0 0 Q (F0 m pc ls1 [.int res.1])) (F : PF) (G : PG) (hm : mb_texts_40 fu F G = some res) {H : Heap} {locs : List Loc} (hw : mMW s A v a F G H locs) {ls : Array Slot} (hl : lv_has ls 3 [(0, .ref (a 212))]) : W p l e R s m args below meth c H locs 0 0 Q (F0 m 40 ls []) := by
  have hx := C.1
  have hb := C.2.1
  unfold mb_texts_40 at hm
  refine lv_aload_n hx hb dX12_texts_40 rfl (lv_at hl 0 rfl) ?_
  refine lv_iconst (v := (-1)) hx hb dX12_texts_41 (by decide) ?_
  refine mp_X12_294 C hw dX12_texts_42 (fun H locs hw => ?_)
  exact mw_texts_45 fu C hret (fup F 50 (-1 : Int32)) G hm hw (lv_sub hl [0] rfl)
theorem mw_texts_35 (fu : Nat) {res : Int32 × PF × PG} (C : mMC p R s m args c A v RX12 cX12_texts 3 610 36229) (hret : ∀ (H1 : Heap) (locs1 : List Loc) (ls1 : Array Slot) (pc : Nat), mMW s A v a res.2.1 res.2.2 H1 locs1 → narrow .boolean (.int res.1) = .int res.1 → decode cX12_texts pc = .ok (.ireturn, 1) → W p l e R s m args below meth c H1 locs1 0 0 Q (F0 m pc ls1 [.int res.1])) (F : PF) (G : PG) (hm : mb_texts_35 fu F G = some res) {H : Heap} {locs : List Loc} (hw : mMW s A v a F G H locs) {ls : Array Slot} (hl : lv_has ls 3 [(0, .ref (a 212))]) : W p l e R s m args below meth c H locs 0 0 Q (F0 m 35 ls []) := by
  have hx := C.1
  have hb := C.2.1
  unfold mb_texts_35 at hm
  refine lv_aload_n hx hb dX12_texts_35 rfl (lv_at hl 0 rfl) ?_
  refine lv_iconst (v := 0) hx hb dX12_texts_36 (by decide) ?_
  refine mp_X12_291 C hw dX12_texts_37 (fun H locs hw => ?_)
  exact mw_texts_40 fu C hret (fup F 37 (0 : Int32)) G hm hw (lv_sub hl [0] rfl)
theorem mw_texts_30 (fu : Nat) {res : Int32 × PF × PG} (C : mMC p R s m args c A v RX12 cX12_texts 3 610 36229) (hret : ∀ (H1 : Heap) (locs1 : List Loc) (ls1 : Array Slot) (pc : Nat), mMW s A v a res.2.1 res.2.2 H1 locs1 → narrow .boolean (.int res.1) = .int res.1 → decode cX12_texts pc = .ok (.ireturn, 1) → W p l e R s m args below meth c H1 locs1 0 0 Q (F0 m pc ls1 [.int res.1])) (F : PF) (G : PG) (hm : mb_texts_30 fu F G = some res) {H : Heap} {locs : List Loc} (hw : mMW s A v a F G H locs) {ls : Array Slot} (hl : lv_has ls 3 [(0, .ref (a 212))]) : W p l e R s m args below meth c H locs 0 0 Q (F0 m 30 ls []) := by
  have hx := C.1
  have hb := C.2.1
  unfold mb_texts_30 at hm
  refine lv_aload_n hx hb dX12_texts_30 rfl (lv_at hl 0 rfl) ?_
  refine lv_iconst (v := 0) hx hb dX12_texts_31 (by decide) ?_
  refine mp_X12_288 C hw dX12_texts_32 (fun H locs hw => ?_)
  exact mw_texts_35 fu C hret (fup F 36 (0 : Int32)) G hm hw (lv_sub hl [0] rfl)
theorem mw_texts_25 (fu : Nat) {res : Int32 × PF × PG} (C : mMC p R s m args c A v RX12 cX12_texts 3 610 36229) (hret : ∀ (H1 : Heap) (locs1 : List Loc) (ls1 : Array Slot) (pc : Nat), mMW s A v a res.2.1 res.2.2 H1 locs1 → narrow .boolean (.int res.1) = .int res.1 → decode cX12_texts pc = .ok (.ireturn, 1) → W p l e R s m args below meth c H1 locs1 0 0 Q (F0 m pc ls1 [.int res.1])) (F : PF) (G : PG) (hm : mb_texts_25 fu F G = some res) {H : Heap} {locs : List Loc} (hw : mMW s A v a F G H locs) {ls : Array Slot} (hl : lv_has ls 3 [(0, .ref (a 212))]) : W p l e R s m args below meth c H locs 0 0 Q (F0 m 25 ls []) := by
  have hx := C.1
  have hb := C.2.1
  unfold mb_texts_25 at hm
  refine lv_aload_n hx hb dX12_texts_25 rfl (lv_at hl 0 rfl) ?_
  refine lv_iconst (v := 0) hx hb dX12_texts_26 (by decide) ?_
  refine mp_X12_285 C hw dX12_texts_27 (fun H locs hw => ?_)
  exact mw_texts_30 fu C hret (fup F 70 (0 : Int32)) G hm hw (lv_sub hl [0] rfl)
theorem mw_texts_20 (fu : Nat) {res : Int32 × PF × PG} (C : mMC p R s m args c A v RX12 cX12_texts 3 610 36229) (hret : ∀ (H1 : Heap) (locs1 : List Loc) (ls1 : Array Slot) (pc : Nat), mMW s A v a res.2.1 res.2.2 H1 locs1 → narrow .boolean (.int res.1) = .int res.1 → decode cX12_texts pc = .ok (.ireturn, 1) → W p l e R s m args below meth c H1 locs1 0 0 Q (F0 m pc ls1 [.int res.1])) (F : PF) (G : PG) (hm : mb_texts_20 fu F G = some res) {H : Heap} {locs : List Loc} (hw : mMW s A v a F G H locs) {ls : Array Slot} (hl : lv_has ls 3 [(0, .ref (a 212))]) : W p l e R s m args below meth c H locs 0 0 Q (F0 m 20 ls []) := by
  have hx := C.1
  have hb := C.2.1
  unfold mb_texts_20 at hm
  refine lv_aload_n hx hb dX12_texts_20 rfl (lv_at hl 0 rfl) ?_
  refine lv_iconst (v := 0) hx hb dX12_texts_21 (by decide) ?_
  refine mp_X12_276 C hw dX12_texts_22 (fun H locs hw => ?_)
  exact mw_texts_25 fu C hret (fup F 60 (0 : Int32)) G hm hw (lv_sub hl [0] rfl)
theorem mw_texts_15 (fu : Nat) {res : Int32 × PF × PG} (C : mMC p R s m args c A v RX12 cX12_texts 3 610 36229) (hret : ∀ (H1 : Heap) (locs1 : List Loc) (ls1 : Array Slot) (pc : Nat), mMW s A v a res.2.1 res.2.2 H1 locs1 → narrow .boolean (.int res.1) = .int res.1 → decode cX12_texts pc = .ok (.ireturn, 1) → W p l e R s m args below meth c H1 locs1 0 0 Q (F0 m pc ls1 [.int res.1])) (F : PF) (G : PG) (hm : mb_texts_15 fu F G = some res) {H : Heap} {locs : List Loc} (hw : mMW s A v a F G H locs) {ls : Array Slot} (hl : lv_has ls 3 [(0, .ref (a 212))]) : W p l e R s m args below meth c H locs 0 0 Q (F0 m 15 ls []) := by
  have hx := C.1
  have hb := C.2.1
  unfold mb_texts_15 at hm
  refine lv_aload_n hx hb dX12_texts_15 rfl (lv_at hl 0 rfl) ?_
  refine lv_iconst (v := 0) hx hb dX12_texts_16 (by decide) ?_
  refine mp_X12_282 C hw dX12_texts_17 (fun H locs hw => ?_)
  exact mw_texts_20 fu C hret (fup F 15 (0 : Int32)) G hm hw (lv_sub hl [0] rfl)
theorem mw_texts_10 (fu : Nat) {res : Int32 × PF × PG} (C : mMC p R s m args c A v RX12 cX12_texts 3 610 36229) (hret : ∀ (H1 : Heap) (locs1 : List Loc) (ls1 : Array Slot) (pc : Nat), mMW s A v a res.2.1 res.2.2 H1 locs1 → narrow .boolean (.int res.1) = .int res.1 → decode cX12_texts pc = .ok (.ireturn, 1) → W p l e R s m args below meth c H1 locs1 0 0 Q (F0 m pc ls1 [.int res.1])) (F : PF) (G : PG) (hm : mb_texts_10 fu F G = some res) {H : Heap} {locs : List Loc} (hw : mMW s A v a F G H locs) {ls : Array Slot} (hl : lv_has ls 3 [(0, .ref (a 212))]) : W p l e R s m args below meth c H locs 0 0 Q (F0 m 10 ls []) := by
  have hx := C.1
  have hb := C.2.1
  unfold mb_texts_10 at hm
  refine lv_aload_n hx hb dX12_texts_10 rfl (lv_at hl 0 rfl) ?_
  refine lv_iconst (v := 0) hx hb dX12_texts_11 (by decide) ?_
  refine mp_X12_279 C hw dX12_texts_12 (fun H locs hw => ?_)
  exact mw_texts_15 fu C hret (fup F 14 (0 : Int32)) G hm hw (lv_sub hl [0] rfl)
theorem mw_texts_5 (fu : Nat) {res : Int32 × PF × PG} (C : mMC p R s m args c A v RX12 cX12_texts 3 610 36229) (hret : ∀ (H1 : Heap) (locs1 : List Loc) (ls1 : Array Slot) (pc : Nat), mMW s A v a res.2.1 res.2.2 H1 locs1 → narrow .boolean (.int res.1) = .int res.1 → decode cX12_texts pc = .ok (.ireturn, 1) → W p l e R s m args below meth c H1 locs1 0 0 Q (F0 m pc ls1 [.int res.1])) (F : PF) (G : PG) (hm : mb_texts_5 fu F G = some res) {H : Heap} {locs : List Loc} (hw : mMW s A v a F G H locs) {ls : Array Slot} (hl : lv_has ls 3 [(0, .ref (a 212))]) : W p l e R s m args below meth c H locs 0 0 Q (F0 m 5 ls []) := by
  have hx := C.1
  have hb := C.2.1
  unfold mb_texts_5 at hm
  refine lv_aload_n hx hb dX12_texts_5 rfl (lv_at hl 0 rfl) ?_
  refine lv_iconst (v := 0) hx hb dX12_texts_6 (by decide) ?_
  refine mp_X12_266 C hw dX12_texts_7 (fun H locs hw => ?_)
  exact mw_texts_10 fu C hret (fup F 43 (0 : Int32)) G hm hw (lv_sub hl [0] rfl)
theorem mw_texts_0 (fu : Nat) {res : Int32 × PF × PG} (C : mMC p R s m args c A v RX12 cX12_texts 3 610 36229) (hret : ∀ (H1 : Heap) (locs1 : List Loc) (ls1 : Array Slot) (pc : Nat), mMW s A v a res.2.1 res.2.2 H1 locs1 → narrow .boolean (.int res.1) = .int res.1 → decode cX12_texts pc = .ok (.ireturn, 1) → W p l e R s m args below meth c H1 locs1 0 0 Q (F0 m pc ls1 [.int res.1])) (F : PF) (G : PG) (hm : mb_texts_0 fu F G = some res) {H : Heap} {locs : List Loc} (hw : mMW s A v a F G H locs) {ls : Array Slot} (hl : lv_has ls 3 [(0, .ref (a 212))]) : W p l e R s m args below meth c H locs 0 0 Q (F0 m 0 ls []) := by
  have hx := C.1
  have hb := C.2.1
  unfold mb_texts_0 at hm
  refine lv_aload_n hx hb dX12_texts_0 rfl (lv_at hl 0 rfl) ?_
  refine lv_iconst (v := 0) hx hb dX12_texts_1 (by decide) ?_
  refine mp_X12_233 C hw dX12_texts_2 (fun H locs hw => ?_)
  exact mw_texts_5 fu C hret (fup F 42 (0 : Int32)) G hm hw (lv_sub hl [0] rfl)
theorem mk_texts (l : Launch) (v : EV) (a : Nat → Nat) (sz : Nat) (fu : Nat) (F : PF) (G : PG) (r : Int32) (F1 : PF) (G1 : PG) (hm : mf_texts fu F G = some (r, F1, G1)) : mMI l yX12_texts cX12_texts 3 (some .boolean) 610 36229 v a sz [.ref (a 212)] F G r F1 G1 := mMI.of (ty := .boolean) (by decide) rfl (Nat.le_of_ble_eq_true rfl) (fun p e R s m args below meth c Q A H locs ls C hw hl hret => mw_texts_0 fu (res := (r, F1, G1)) C hret F G hm hw hl)
end MB
