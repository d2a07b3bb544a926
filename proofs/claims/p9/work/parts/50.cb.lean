section MB
variable {p : Program} {l : Launch} {e : Env} {R : Room} {s : State} {m : MethodId} {args : Array Value} {below : List Frame} {meth : Method} {c : Code} {H : Heap} {locs : List Loc} {Q : State → Prop} {A : Nat → Prop} {v : EV} {a : Nat → Nat} {b ce : Nat} {own : String} {cc : ByteArray} {nL fr lo : Nat} {K0 : PF}
def cb_X4_forStatement_303 (fu : Nat) (rc : RC) (F : PF) (G : PG) : PR := some (0, F, G)
def cb_X4_forStatement_296 (fu : Nat) (rc : RC) (F : PF) (G : PG) : PR := (cf_X2_closes fu F G).bind (fun q => cb_X4_forStatement_303 fu rc q.2.1 q.2.2)
def cb_X4_forStatement_291 (fu : Nat) (rc : RC) (x2 : Int32) (F : PF) (G : PG) : PR := cb_X4_forStatement_296 fu rc (fup F 31 x2) G
def cb_X4_forStatement_286 (fu : Nat) (rc : RC) (x1 : Int32) (x2 : Int32) (F : PF) (G : PG) : PR := cb_X4_forStatement_291 fu rc x2 (fup F 30 x1) G
def cb_X4_forStatement_279 (fu : Nat) (rc : RC) (x1 : Int32) (x2 : Int32) (F : PF) (G : PG) : PR := (cf_X5_leave fu F G).bind (fun q => cb_X4_forStatement_286 fu rc x1 x2 q.2.1 q.2.2)
def cb_X4_forStatement_261 (fu : Nat) (rc : RC) (x1 : Int32) (x2 : Int32) (F : PF) (G : PG) : PR := (cf_X1_aim fu (F 30) (F 6) F G).bind (fun q => cb_X4_forStatement_279 fu rc x1 x2 q.2.1 q.2.2)
def cb_X4_forStatement_245 (fu : Nat) (rc : RC) (x1 : Int32) (x2 : Int32) (x5 : Int32) (F : PF) (G : PG) : PR := (cf_X1_aim fu x5 (F 6) F G).bind (fun q => cb_X4_forStatement_261 fu rc x1 x2 q.2.1 q.2.2)
def cb_X4_forStatement_232 (fu : Nat) (rc : RC) (x1 : Int32) (x2 : Int32) (x5 : Int32) (x7 : Int32) (F : PF) (G : PG) : PR := (cf_X1_aim fu (F 31) x7 F G).bind (fun q => cb_X4_forStatement_245 fu rc x1 x2 x5 q.2.1 q.2.2)
def cb_X4_forStatement_221 (fu : Nat) (rc : RC) (x1 : Int32) (x2 : Int32) (x5 : Int32) (x7 : Int32) (F : PF) (G : PG) : PR := (cf_X1_addPair fu 84 x7 F G).bind (fun q => cb_X4_forStatement_232 fu rc x1 x2 x5 x7 q.2.1 q.2.2)
def cb_X4_forStatement_217 (fu : Nat) (rc : RC) (x1 : Int32) (x2 : Int32) (x5 : Int32) (x7 : Int32) (F : PF) (G : PG) : PR := (rc 5 0 0 F G).bind (fun q => cb_X4_forStatement_221 fu rc x1 x2 x5 x7 q.2.1 q.2.2)
def cb_X4_forStatement_201 (fu : Nat) (rc : RC) (x1 : Int32) (x2 : Int32) (x5 : Int32) (x6 : Int32) (x7 : Int32) (F : PF) (G : PG) : PR := (cf_X1_aim fu x6 (F 6) F G).bind (fun q => cb_X4_forStatement_217 fu rc x1 x2 x5 x7 q.2.1 q.2.2)
def cb_X4_forStatement_192 (fu : Nat) (rc : RC) (x1 : Int32) (x2 : Int32) (x5 : Int32) (x6 : Int32) (x7 : Int32) (F : PF) (G : PG) : PR := (cf_X2_closesWith fu 20 F G).bind (fun q => cb_X4_forStatement_201 fu rc x1 x2 x5 x6 x7 q.2.1 q.2.2)
def cb_X4_forStatement_181 (fu : Nat) (rc : RC) (x1 : Int32) (x2 : Int32) (x4 : Int32) (x5 : Int32) (x6 : Int32) (x7 : Int32) (F : PF) (G : PG) : PR := (cf_X1_addPair fu 84 x4 F G).bind (fun q => cb_X4_forStatement_192 fu rc x1 x2 x5 x6 x7 q.2.1 q.2.2)
def cb_X4_forStatement_177 (fu : Nat) (rc : RC) (x1 : Int32) (x2 : Int32) (x4 : Int32) (x5 : Int32) (x6 : Int32) (x7 : Int32) (F : PF) (G : PG) : PR := (cf_X4_simple fu F G).bind (fun q => cb_X4_forStatement_181 fu rc x1 x2 x4 x5 x6 x7 q.2.1 q.2.2)
def cb_X4_forStatement_154 (fu : Nat) (rc : RC) (x1 : Int32) (x2 : Int32) (x4 : Int32) (x5 : Int32) (z0 : Int32) (F : PF) (G : PG) : PR := if (F 11) = (20 : Int32) then cb_X4_forStatement_181 fu rc x1 x2 x4 x5 z0 (F 6) F G else cb_X4_forStatement_177 fu rc x1 x2 x4 x5 z0 (F 6) F G
def cb_X4_forStatement_144 (fu : Nat) (rc : RC) (x1 : Int32) (x2 : Int32) (x4 : Int32) (x5 : Int32) (F : PF) (G : PG) : PR := (cf_X1_addJump fu 84 (-1) F G).bind (fun q => cb_X4_forStatement_154 fu rc x1 x2 x4 x5 q.1 q.2.1 q.2.2)
def cb_X4_forStatement_135 (fu : Nat) (rc : RC) (x1 : Int32) (x2 : Int32) (x4 : Int32) (x5 : Int32) (F : PF) (G : PG) : PR := (cf_X2_expect fu 26 F G).bind (fun q => cb_X4_forStatement_144 fu rc x1 x2 x4 x5 q.2.1 q.2.2)
def cb_X4_forStatement_133 (fu : Nat) (rc : RC) (x1 : Int32) (x2 : Int32) (x4 : Int32) (z0 : Int32) (F : PF) (G : PG) : PR := cb_X4_forStatement_135 fu rc x1 x2 x4 z0 F G
def cb_X4_forStatement_123 (fu : Nat) (rc : RC) (x1 : Int32) (x2 : Int32) (x4 : Int32) (F : PF) (G : PG) : PR := (cf_X1_addJump fu 86 (-1) F G).bind (fun q => cb_X4_forStatement_133 fu rc x1 x2 x4 q.1 q.2.1 q.2.2)
def cb_X4_forStatement_116 (fu : Nat) (rc : RC) (x1 : Int32) (x2 : Int32) (x4 : Int32) (F : PF) (G : PG) : PR := (cf_X3_expression fu F G).bind (fun q => cb_X4_forStatement_123 fu rc x1 x2 x4 q.2.1 q.2.2)
def cb_X4_forStatement_92 (fu : Nat) (rc : RC) (x1 : Int32) (x2 : Int32) (F : PF) (G : PG) : PR := if (F 11) = (26 : Int32) then cb_X4_forStatement_135 fu rc x1 x2 (F 6) (-1) F G else cb_X4_forStatement_116 fu rc x1 x2 (F 6) F G
def cb_X4_forStatement_83 (fu : Nat) (rc : RC) (x1 : Int32) (x2 : Int32) (F : PF) (G : PG) : PR := (cf_X2_expect fu 26 F G).bind (fun q => cb_X4_forStatement_92 fu rc x1 x2 q.2.1 q.2.2)
def cb_X4_forStatement_79 (fu : Nat) (rc : RC) (x1 : Int32) (x2 : Int32) (F : PF) (G : PG) : PR := (cf_X4_simple fu F G).bind (fun q => cb_X4_forStatement_83 fu rc x1 x2 q.2.1 q.2.2)
def cb_X4_forStatement_67 (fu : Nat) (rc : RC) (x1 : Int32) (x2 : Int32) (F : PF) (G : PG) : PR := if (F 11) = (26 : Int32) then cb_X4_forStatement_83 fu rc x1 x2 F G else cb_X4_forStatement_79 fu rc x1 x2 F G
def cb_X4_forStatement_63 (fu : Nat) (rc : RC) (x1 : Int32) (x2 : Int32) (x3 : Int32) (F : PF) (G : PG) : PR := if x3 = (0 : Int32) then cb_X4_forStatement_83 fu rc x1 x2 F G else cb_X4_forStatement_67 fu rc x1 x2 F G
def cb_X4_forStatement_60 (fu : Nat) (rc : RC) (x1 : Int32) (x2 : Int32) (F : PF) (G : PG) : PR := cb_X4_forStatement_83 fu rc x1 x2 F G
def cb_X4_forStatement_55 (fu : Nat) (rc : RC) (x1 : Int32) (x2 : Int32) (F : PF) (G : PG) : PR := (cf_X4_localTold fu 1 F G).bind (fun q => cb_X4_forStatement_60 fu rc x1 x2 q.2.1 q.2.2)
def cb_X4_forStatement_44 (fu : Nat) (rc : RC) (x1 : Int32) (x2 : Int32) (x3 : Int32) (F : PF) (G : PG) : PR := if (F 11) = (4 : Int32) then cb_X4_forStatement_55 fu rc x1 x2 F G else cb_X4_forStatement_63 fu rc x1 x2 x3 F G
def cb_X4_forStatement_39 (fu : Nat) (rc : RC) (x1 : Int32) (x2 : Int32) (z0 : Int32) (F : PF) (G : PG) : PR := if z0 = (0 : Int32) then cb_X4_forStatement_63 fu rc x1 x2 z0 F G else cb_X4_forStatement_44 fu rc x1 x2 z0 F G
def cb_X4_forStatement_30 (fu : Nat) (rc : RC) (x1 : Int32) (x2 : Int32) (F : PF) (G : PG) : PR := (cf_X2_opens fu 19 F G).bind (fun q => cb_X4_forStatement_39 fu rc x1 x2 q.1 q.2.1 q.2.2)
def cb_X4_forStatement_13 (fu : Nat) (rc : RC) (F : PF) (G : PG) : PR := (cf_X5_enter fu F G).bind (fun q => cb_X4_forStatement_30 fu rc (F 30) (F 31) q.2.1 q.2.2)
def cb_X4_forStatement_12 (fu : Nat) (rc : RC) (F : PF) (G : PG) : PR := some (0, F, G)
def cb_X4_forStatement_9 (fu : Nat) (rc : RC) (z0 : Int32) (F : PF) (G : PG) : PR := if z0 = (0 : Int32) then cb_X4_forStatement_12 fu rc F G else cb_X4_forStatement_13 fu rc F G
def cb_X4_forStatement_0 (fu : Nat) (rc : RC) (F : PF) (G : PG) : PR := (cf_X2_opens fu 12 F G).bind (fun q => cb_X4_forStatement_9 fu rc q.1 q.2.1 q.2.2)
def ch_X4_forStatement (fu : Nat) (rc : RC) (F : PF) (G : PG) : PR := cb_X4_forStatement_0 fu rc F G
theorem cn_X4_forStatement_303 (fu : Nat) (rc : RC) (hrn : ∀ (i : Nat) (x y : Int32) (F : PF) (G : PG) (q : Int32 × PF × PG), rc i x y F G = some q → xn F ≤ xn q.2.1) {res : Int32 × PF × PG} (F : PF) (G : PG) (hm : cb_X4_forStatement_303 fu rc F G = some res) : xn F ≤ xn res.2.1 := by
  unfold cb_X4_forStatement_303 at hm
  obtain rfl := Option.some.inj hm
  exact Nat.le_refl _
theorem cw_X4_forStatement_303 (fu : Nat) (rc : RC) {dd : Nat} (hr : cH2 l v a rc dd) (hrn : ∀ (i : Nat) (x y : Int32) (F : PF) (G : PG) (q : Int32 × PF × PG), rc i x y F G = some q → xn F ≤ xn q.2.1) {res : Int32 × PF × PG} (C : cMC p R s m args c A v RX4 cX4_forStatement 8 (dd + 1 + 305) (60 * (dd + 1) + 18119) (xn res.2.1 - xn K0)) (hret : ∀ (b1 : Nat) (H1 : Heap) (locs1 : List Loc) (ls1 : Array Slot) (pc : Nat), cMW s A v a b1 K0 res.2.1 res.2.2 H1 locs1 → decode cX4_forStatement pc = .ok (.return_, 1) → W p l e R s m args below meth c H1 locs1 (xn res.2.1 - xn K0) (2 * (xn res.2.1 - xn K0)) Q (F0 m pc ls1 [])) (F : PF) (G : PG) (hm : cb_X4_forStatement_303 fu rc F G = some res) {b : Nat} {H : Heap} {locs : List Loc} (hw : cMW s A v a b K0 F G H locs) {ls : Array Slot} (hl : lv_has ls 8 []) : W p l e R s m args below meth c H locs (xn F - xn K0) (2 * (xn F - xn K0)) Q (F0 m 303 ls []) := by
  have hx := C.1
  have hb := C.2.1
  unfold cb_X4_forStatement_303 at hm
  obtain rfl := Option.some.inj hm
  exact hret _ _ _ _ _ hw dX4_forStatement_303
theorem cn_X4_forStatement_296 (fu : Nat) (rc : RC) (hrn : ∀ (i : Nat) (x y : Int32) (F : PF) (G : PG) (q : Int32 × PF × PG), rc i x y F G = some q → xn F ≤ xn q.2.1) {res : Int32 × PF × PG} (F : PF) (G : PG) (hm : cb_X4_forStatement_296 fu rc F G = some res) : xn F ≤ xn res.2.1 := by
  unfold cb_X4_forStatement_296 at hm
  obtain ⟨⟨r1, F1, G1⟩, hc, hm⟩ := bind_elim hm
  exact Nat.le_trans (cn_X2_closes fu F G _ hc) (cn_X4_forStatement_303 fu rc hrn F1 G1 hm)
theorem cw_X4_forStatement_296 (fu : Nat) (rc : RC) {dd : Nat} (hr : cH2 l v a rc dd) (hrn : ∀ (i : Nat) (x y : Int32) (F : PF) (G : PG) (q : Int32 × PF × PG), rc i x y F G = some q → xn F ≤ xn q.2.1) {res : Int32 × PF × PG} (C : cMC p R s m args c A v RX4 cX4_forStatement 8 (dd + 1 + 305) (60 * (dd + 1) + 18119) (xn res.2.1 - xn K0)) (hret : ∀ (b1 : Nat) (H1 : Heap) (locs1 : List Loc) (ls1 : Array Slot) (pc : Nat), cMW s A v a b1 K0 res.2.1 res.2.2 H1 locs1 → decode cX4_forStatement pc = .ok (.return_, 1) → W p l e R s m args below meth c H1 locs1 (xn res.2.1 - xn K0) (2 * (xn res.2.1 - xn K0)) Q (F0 m pc ls1 [])) (F : PF) (G : PG) (hm : cb_X4_forStatement_296 fu rc F G = some res) {b : Nat} {H : Heap} {locs : List Loc} (hw : cMW s A v a b K0 F G H locs) {ls : Array Slot} (hl : lv_has ls 8 [(0, .ref (a 204))]) : W p l e R s m args below meth c H locs (xn F - xn K0) (2 * (xn F - xn K0)) Q (F0 m 296 ls []) := by
  have hx := C.1
  have hb := C.2.1
  unfold cb_X4_forStatement_296 at hm
  refine lv_aload_n hx hb dX4_forStatement_296 rfl (lv_at hl 0 rfl) ?_
  refine cg_X4_9 C hw dX4_forStatement_297 ?_
  obtain ⟨⟨r1, F1, G1⟩, hc, hm⟩ := bind_elim hm
  refine ccallV (n := 0) (As := []) (rest := []) C hw (ck_X2_closes l v a _ _ fu F G r1 F1 G1 hc) (cn_X2_closes fu F G _ hc) (Nat.sub_le_sub_right (cn_X4_forStatement_303 fu rc hrn F1 G1 hm) _) (crecv_X2 C hw) cm_661 cm_380 cm_381 cm_307 cm_382 (by decide +kernel) rfl (by omega) (by omega) hl.1 rfl (Nat.le_of_ble_eq_true rfl) dX4_forStatement_300 (fun b H locs hw => ?_)
  exact cw_X4_forStatement_303 fu rc hr hrn C hret F1 G1 hm hw (lv_sub hl [] rfl)
theorem cn_X4_forStatement_291 (fu : Nat) (rc : RC) (hrn : ∀ (i : Nat) (x y : Int32) (F : PF) (G : PG) (q : Int32 × PF × PG), rc i x y F G = some q → xn F ≤ xn q.2.1) {res : Int32 × PF × PG} (x2 : Int32) (F : PF) (G : PG) (hm : cb_X4_forStatement_291 fu rc x2 F G = some res) : xn F ≤ xn res.2.1 := by
  unfold cb_X4_forStatement_291 at hm
  exact Nat.le_trans (Nat.le_of_eq (xn_fup (by decide)).symm) (cn_X4_forStatement_296 fu rc hrn (fup F 31 x2) G hm)
theorem cw_X4_forStatement_291 (fu : Nat) (rc : RC) {dd : Nat} (hr : cH2 l v a rc dd) (hrn : ∀ (i : Nat) (x y : Int32) (F : PF) (G : PG) (q : Int32 × PF × PG), rc i x y F G = some q → xn F ≤ xn q.2.1) {res : Int32 × PF × PG} (C : cMC p R s m args c A v RX4 cX4_forStatement 8 (dd + 1 + 305) (60 * (dd + 1) + 18119) (xn res.2.1 - xn K0)) (hret : ∀ (b1 : Nat) (H1 : Heap) (locs1 : List Loc) (ls1 : Array Slot) (pc : Nat), cMW s A v a b1 K0 res.2.1 res.2.2 H1 locs1 → decode cX4_forStatement pc = .ok (.return_, 1) → W p l e R s m args below meth c H1 locs1 (xn res.2.1 - xn K0) (2 * (xn res.2.1 - xn K0)) Q (F0 m pc ls1 [])) (x2 : Int32) (F : PF) (G : PG) (hm : cb_X4_forStatement_291 fu rc x2 F G = some res) {b : Nat} {H : Heap} {locs : List Loc} (hw : cMW s A v a b K0 F G H locs) {ls : Array Slot} (hl : lv_has ls 8 [(0, .ref (a 204)), (2, .int x2)]) : W p l e R s m args below meth c H locs (xn F - xn K0) (2 * (xn F - xn K0)) Q (F0 m 291 ls []) := by
  have hx := C.1
  have hb := C.2.1
  unfold cb_X4_forStatement_291 at hm
  refine lv_aload_n hx hb dX4_forStatement_291 rfl (lv_at hl 0 rfl) ?_
  refine lv_iload_n hx hb dX4_forStatement_292 rfl (lv_at hl 1 rfl) ?_
  refine cp_X4_122 C hw dX4_forStatement_293 (fun H locs hw => ?_)
  exact cw_X4_forStatement_296 fu rc hr hrn C hret (fup F 31 x2) G hm hw (lv_sub hl [0] rfl)
theorem cn_X4_forStatement_286 (fu : Nat) (rc : RC) (hrn : ∀ (i : Nat) (x y : Int32) (F : PF) (G : PG) (q : Int32 × PF × PG), rc i x y F G = some q → xn F ≤ xn q.2.1) {res : Int32 × PF × PG} (x1 : Int32) (x2 : Int32) (F : PF) (G : PG) (hm : cb_X4_forStatement_286 fu rc x1 x2 F G = some res) : xn F ≤ xn res.2.1 := by
  unfold cb_X4_forStatement_286 at hm
  exact Nat.le_trans (Nat.le_of_eq (xn_fup (by decide)).symm) (cn_X4_forStatement_291 fu rc hrn x2 (fup F 30 x1) G hm)
theorem cw_X4_forStatement_286 (fu : Nat) (rc : RC) {dd : Nat} (hr : cH2 l v a rc dd) (hrn : ∀ (i : Nat) (x y : Int32) (F : PF) (G : PG) (q : Int32 × PF × PG), rc i x y F G = some q → xn F ≤ xn q.2.1) {res : Int32 × PF × PG} (C : cMC p R s m args c A v RX4 cX4_forStatement 8 (dd + 1 + 305) (60 * (dd + 1) + 18119) (xn res.2.1 - xn K0)) (hret : ∀ (b1 : Nat) (H1 : Heap) (locs1 : List Loc) (ls1 : Array Slot) (pc : Nat), cMW s A v a b1 K0 res.2.1 res.2.2 H1 locs1 → decode cX4_forStatement pc = .ok (.return_, 1) → W p l e R s m args below meth c H1 locs1 (xn res.2.1 - xn K0) (2 * (xn res.2.1 - xn K0)) Q (F0 m pc ls1 [])) (x1 : Int32) (x2 : Int32) (F : PF) (G : PG) (hm : cb_X4_forStatement_286 fu rc x1 x2 F G = some res) {b : Nat} {H : Heap} {locs : List Loc} (hw : cMW s A v a b K0 F G H locs) {ls : Array Slot} (hl : lv_has ls 8 [(0, .ref (a 204)), (1, .int x1), (2, .int x2)]) : W p l e R s m args below meth c H locs (xn F - xn K0) (2 * (xn F - xn K0)) Q (F0 m 286 ls []) := by
  have hx := C.1
  have hb := C.2.1
  unfold cb_X4_forStatement_286 at hm
  refine lv_aload_n hx hb dX4_forStatement_286 rfl (lv_at hl 0 rfl) ?_
  refine lv_iload_n hx hb dX4_forStatement_287 rfl (lv_at hl 1 rfl) ?_
  refine cp_X4_119 C hw dX4_forStatement_288 (fun H locs hw => ?_)
  exact cw_X4_forStatement_291 fu rc hr hrn C hret x2 (fup F 30 x1) G hm hw (lv_sub hl [0, 2] rfl)
theorem cn_X4_forStatement_279 (fu : Nat) (rc : RC) (hrn : ∀ (i : Nat) (x y : Int32) (F : PF) (G : PG) (q : Int32 × PF × PG), rc i x y F G = some q → xn F ≤ xn q.2.1) {res : Int32 × PF × PG} (x1 : Int32) (x2 : Int32) (F : PF) (G : PG) (hm : cb_X4_forStatement_279 fu rc x1 x2 F G = some res) : xn F ≤ xn res.2.1 := by
  unfold cb_X4_forStatement_279 at hm
  obtain ⟨⟨r1, F1, G1⟩, hc, hm⟩ := bind_elim hm
  exact Nat.le_trans (cn_X5_leave fu F G _ hc) (cn_X4_forStatement_286 fu rc hrn x1 x2 F1 G1 hm)
theorem cw_X4_forStatement_279 (fu : Nat) (rc : RC) {dd : Nat} (hr : cH2 l v a rc dd) (hrn : ∀ (i : Nat) (x y : Int32) (F : PF) (G : PG) (q : Int32 × PF × PG), rc i x y F G = some q → xn F ≤ xn q.2.1) {res : Int32 × PF × PG} (C : cMC p R s m args c A v RX4 cX4_forStatement 8 (dd + 1 + 305) (60 * (dd + 1) + 18119) (xn res.2.1 - xn K0)) (hret : ∀ (b1 : Nat) (H1 : Heap) (locs1 : List Loc) (ls1 : Array Slot) (pc : Nat), cMW s A v a b1 K0 res.2.1 res.2.2 H1 locs1 → decode cX4_forStatement pc = .ok (.return_, 1) → W p l e R s m args below meth c H1 locs1 (xn res.2.1 - xn K0) (2 * (xn res.2.1 - xn K0)) Q (F0 m pc ls1 [])) (x1 : Int32) (x2 : Int32) (F : PF) (G : PG) (hm : cb_X4_forStatement_279 fu rc x1 x2 F G = some res) {b : Nat} {H : Heap} {locs : List Loc} (hw : cMW s A v a b K0 F G H locs) {ls : Array Slot} (hl : lv_has ls 8 [(0, .ref (a 204)), (1, .int x1), (2, .int x2)]) : W p l e R s m args below meth c H locs (xn F - xn K0) (2 * (xn F - xn K0)) Q (F0 m 279 ls []) := by
  have hx := C.1
  have hb := C.2.1
  unfold cb_X4_forStatement_279 at hm
  refine lv_aload_n hx hb dX4_forStatement_279 rfl (lv_at hl 0 rfl) ?_
  refine cg_X4_15 C hw dX4_forStatement_280 ?_
  obtain ⟨⟨r1, F1, G1⟩, hc, hm⟩ := bind_elim hm
  refine ccallV (n := 0) (As := []) (rest := []) C hw (ck_X5_leave l v a _ _ fu F G r1 F1 G1 hc) (cn_X5_leave fu F G _ hc) (Nat.sub_le_sub_right (cn_X4_forStatement_286 fu rc hrn x1 x2 F1 G1 hm) _) (crecv_X5 C hw) cm_719 cm_720 cm_721 cm_266 cm_722 (by decide +kernel) rfl (by omega) (by omega) hl.1 rfl (Nat.le_of_ble_eq_true rfl) dX4_forStatement_283 (fun b H locs hw => ?_)
  exact cw_X4_forStatement_286 fu rc hr hrn C hret x1 x2 F1 G1 hm hw (lv_sub hl [0, 1, 2] rfl)
theorem cn_X4_forStatement_261 (fu : Nat) (rc : RC) (hrn : ∀ (i : Nat) (x y : Int32) (F : PF) (G : PG) (q : Int32 × PF × PG), rc i x y F G = some q → xn F ≤ xn q.2.1) {res : Int32 × PF × PG} (x1 : Int32) (x2 : Int32) (F : PF) (G : PG) (hm : cb_X4_forStatement_261 fu rc x1 x2 F G = some res) : xn F ≤ xn res.2.1 := by
  unfold cb_X4_forStatement_261 at hm
  obtain ⟨⟨r1, F1, G1⟩, hc, hm⟩ := bind_elim hm
  exact Nat.le_trans (cn_X1_aim fu (F 30) (F 6) F G _ hc) (cn_X4_forStatement_279 fu rc hrn x1 x2 F1 G1 hm)
theorem cw_X4_forStatement_261 (fu : Nat) (rc : RC) {dd : Nat} (hr : cH2 l v a rc dd) (hrn : ∀ (i : Nat) (x y : Int32) (F : PF) (G : PG) (q : Int32 × PF × PG), rc i x y F G = some q → xn F ≤ xn q.2.1) {res : Int32 × PF × PG} (C : cMC p R s m args c A v RX4 cX4_forStatement 8 (dd + 1 + 305) (60 * (dd + 1) + 18119) (xn res.2.1 - xn K0)) (hret : ∀ (b1 : Nat) (H1 : Heap) (locs1 : List Loc) (ls1 : Array Slot) (pc : Nat), cMW s A v a b1 K0 res.2.1 res.2.2 H1 locs1 → decode cX4_forStatement pc = .ok (.return_, 1) → W p l e R s m args below meth c H1 locs1 (xn res.2.1 - xn K0) (2 * (xn res.2.1 - xn K0)) Q (F0 m pc ls1 [])) (x1 : Int32) (x2 : Int32) (F : PF) (G : PG) (hm : cb_X4_forStatement_261 fu rc x1 x2 F G = some res) {b : Nat} {H : Heap} {locs : List Loc} (hw : cMW s A v a b K0 F G H locs) {ls : Array Slot} (hl : lv_has ls 8 [(0, .ref (a 204)), (1, .int x1), (2, .int x2)]) : W p l e R s m args below meth c H locs (xn F - xn K0) (2 * (xn F - xn K0)) Q (F0 m 261 ls []) := by
  have hx := C.1
  have hb := C.2.1
  unfold cb_X4_forStatement_261 at hm
  refine lv_aload_n hx hb dX4_forStatement_261 rfl (lv_at hl 0 rfl) ?_
  refine cg_X4_19 C hw dX4_forStatement_262 ?_
  refine lv_aload_n hx hb dX4_forStatement_265 rfl (lv_at hl 0 rfl) ?_
  refine cg_X4_119 C hw dX4_forStatement_266 ?_
  refine lv_aload_n hx hb dX4_forStatement_269 rfl (lv_at hl 0 rfl) ?_
  refine cg_X4_19 C hw dX4_forStatement_270 ?_
  refine cg_X4_43 C hw dX4_forStatement_273 ?_
  obtain ⟨⟨r1, F1, G1⟩, hc, hm⟩ := bind_elim hm
  refine ccallV (n := 2) (As := [.int (F 30), .int (F 6)]) (rest := []) C hw (ck_X1_aim l v a _ _ fu (F 30) (F 6) F G r1 F1 G1 hc) (cn_X1_aim fu (F 30) (F 6) F G _ hc) (Nat.sub_le_sub_right (cn_X4_forStatement_279 fu rc hrn x1 x2 F1 G1 hm) _) (crecv_X1 C hw) cm_654 cm_376 cm_377 cm_369 cm_378 (by decide +kernel) rfl (by omega) (by omega) hl.1 rfl (Nat.le_of_ble_eq_true rfl) dX4_forStatement_276 (fun b H locs hw => ?_)
  exact cw_X4_forStatement_279 fu rc hr hrn C hret x1 x2 F1 G1 hm hw (lv_sub hl [0, 1, 2] rfl)
theorem cn_X4_forStatement_245 (fu : Nat) (rc : RC) (hrn : ∀ (i : Nat) (x y : Int32) (F : PF) (G : PG) (q : Int32 × PF × PG), rc i x y F G = some q → xn F ≤ xn q.2.1) {res : Int32 × PF × PG} (x1 : Int32) (x2 : Int32) (x5 : Int32) (F : PF) (G : PG) (hm : cb_X4_forStatement_245 fu rc x1 x2 x5 F G = some res) : xn F ≤ xn res.2.1 := by
  unfold cb_X4_forStatement_245 at hm
  obtain ⟨⟨r1, F1, G1⟩, hc, hm⟩ := bind_elim hm
  exact Nat.le_trans (cn_X1_aim fu x5 (F 6) F G _ hc) (cn_X4_forStatement_261 fu rc hrn x1 x2 F1 G1 hm)
theorem cw_X4_forStatement_245 (fu : Nat) (rc : RC) {dd : Nat} (hr : cH2 l v a rc dd) (hrn : ∀ (i : Nat) (x y : Int32) (F : PF) (G : PG) (q : Int32 × PF × PG), rc i x y F G = some q → xn F ≤ xn q.2.1) {res : Int32 × PF × PG} (C : cMC p R s m args c A v RX4 cX4_forStatement 8 (dd + 1 + 305) (60 * (dd + 1) + 18119) (xn res.2.1 - xn K0)) (hret : ∀ (b1 : Nat) (H1 : Heap) (locs1 : List Loc) (ls1 : Array Slot) (pc : Nat), cMW s A v a b1 K0 res.2.1 res.2.2 H1 locs1 → decode cX4_forStatement pc = .ok (.return_, 1) → W p l e R s m args below meth c H1 locs1 (xn res.2.1 - xn K0) (2 * (xn res.2.1 - xn K0)) Q (F0 m pc ls1 [])) (x1 : Int32) (x2 : Int32) (x5 : Int32) (F : PF) (G : PG) (hm : cb_X4_forStatement_245 fu rc x1 x2 x5 F G = some res) {b : Nat} {H : Heap} {locs : List Loc} (hw : cMW s A v a b K0 F G H locs) {ls : Array Slot} (hl : lv_has ls 8 [(0, .ref (a 204)), (1, .int x1), (2, .int x2), (5, .int x5)]) : W p l e R s m args below meth c H locs (xn F - xn K0) (2 * (xn F - xn K0)) Q (F0 m 245 ls []) := by
  have hx := C.1
  have hb := C.2.1
  unfold cb_X4_forStatement_245 at hm
  refine lv_aload_n hx hb dX4_forStatement_245 rfl (lv_at hl 0 rfl) ?_
  refine cg_X4_19 C hw dX4_forStatement_246 ?_
  refine lv_iload hx hb dX4_forStatement_249 (lv_at hl 3 rfl) ?_
  refine lv_aload_n hx hb dX4_forStatement_251 rfl (lv_at hl 0 rfl) ?_
  refine cg_X4_19 C hw dX4_forStatement_252 ?_
  refine cg_X4_43 C hw dX4_forStatement_255 ?_
  obtain ⟨⟨r1, F1, G1⟩, hc, hm⟩ := bind_elim hm
  refine ccallV (n := 2) (As := [.int x5, .int (F 6)]) (rest := []) C hw (ck_X1_aim l v a _ _ fu x5 (F 6) F G r1 F1 G1 hc) (cn_X1_aim fu x5 (F 6) F G _ hc) (Nat.sub_le_sub_right (cn_X4_forStatement_261 fu rc hrn x1 x2 F1 G1 hm) _) (crecv_X1 C hw) cm_654 cm_376 cm_377 cm_369 cm_378 (by decide +kernel) rfl (by omega) (by omega) hl.1 rfl (Nat.le_of_ble_eq_true rfl) dX4_forStatement_258 (fun b H locs hw => ?_)
  exact cw_X4_forStatement_261 fu rc hr hrn C hret x1 x2 F1 G1 hm hw (lv_sub hl [0, 1, 2] rfl)
theorem cn_X4_forStatement_232 (fu : Nat) (rc : RC) (hrn : ∀ (i : Nat) (x y : Int32) (F : PF) (G : PG) (q : Int32 × PF × PG), rc i x y F G = some q → xn F ≤ xn q.2.1) {res : Int32 × PF × PG} (x1 : Int32) (x2 : Int32) (x5 : Int32) (x7 : Int32) (F : PF) (G : PG) (hm : cb_X4_forStatement_232 fu rc x1 x2 x5 x7 F G = some res) : xn F ≤ xn res.2.1 := by
  unfold cb_X4_forStatement_232 at hm
  obtain ⟨⟨r1, F1, G1⟩, hc, hm⟩ := bind_elim hm
  exact Nat.le_trans (cn_X1_aim fu (F 31) x7 F G _ hc) (cn_X4_forStatement_245 fu rc hrn x1 x2 x5 F1 G1 hm)
theorem cw_X4_forStatement_232 (fu : Nat) (rc : RC) {dd : Nat} (hr : cH2 l v a rc dd) (hrn : ∀ (i : Nat) (x y : Int32) (F : PF) (G : PG) (q : Int32 × PF × PG), rc i x y F G = some q → xn F ≤ xn q.2.1) {res : Int32 × PF × PG} (C : cMC p R s m args c A v RX4 cX4_forStatement 8 (dd + 1 + 305) (60 * (dd + 1) + 18119) (xn res.2.1 - xn K0)) (hret : ∀ (b1 : Nat) (H1 : Heap) (locs1 : List Loc) (ls1 : Array Slot) (pc : Nat), cMW s A v a b1 K0 res.2.1 res.2.2 H1 locs1 → decode cX4_forStatement pc = .ok (.return_, 1) → W p l e R s m args below meth c H1 locs1 (xn res.2.1 - xn K0) (2 * (xn res.2.1 - xn K0)) Q (F0 m pc ls1 [])) (x1 : Int32) (x2 : Int32) (x5 : Int32) (x7 : Int32) (F : PF) (G : PG) (hm : cb_X4_forStatement_232 fu rc x1 x2 x5 x7 F G = some res) {b : Nat} {H : Heap} {locs : List Loc} (hw : cMW s A v a b K0 F G H locs) {ls : Array Slot} (hl : lv_has ls 8 [(0, .ref (a 204)), (1, .int x1), (2, .int x2), (5, .int x5), (7, .int x7)]) : W p l e R s m args below meth c H locs (xn F - xn K0) (2 * (xn F - xn K0)) Q (F0 m 232 ls []) := by
  have hx := C.1
  have hb := C.2.1
  unfold cb_X4_forStatement_232 at hm
  refine lv_aload_n hx hb dX4_forStatement_232 rfl (lv_at hl 0 rfl) ?_
  refine cg_X4_19 C hw dX4_forStatement_233 ?_
  refine lv_aload_n hx hb dX4_forStatement_236 rfl (lv_at hl 0 rfl) ?_
  refine cg_X4_122 C hw dX4_forStatement_237 ?_
  refine lv_iload hx hb dX4_forStatement_240 (lv_at hl 4 rfl) ?_
  obtain ⟨⟨r1, F1, G1⟩, hc, hm⟩ := bind_elim hm
  refine ccallV (n := 2) (As := [.int (F 31), .int x7]) (rest := []) C hw (ck_X1_aim l v a _ _ fu (F 31) x7 F G r1 F1 G1 hc) (cn_X1_aim fu (F 31) x7 F G _ hc) (Nat.sub_le_sub_right (cn_X4_forStatement_245 fu rc hrn x1 x2 x5 F1 G1 hm) _) (crecv_X1 C hw) cm_654 cm_376 cm_377 cm_369 cm_378 (by decide +kernel) rfl (by omega) (by omega) hl.1 rfl (Nat.le_of_ble_eq_true rfl) dX4_forStatement_242 (fun b H locs hw => ?_)
  exact cw_X4_forStatement_245 fu rc hr hrn C hret x1 x2 x5 F1 G1 hm hw (lv_sub hl [0, 1, 2, 3] rfl)
theorem cn_X4_forStatement_221 (fu : Nat) (rc : RC) (hrn : ∀ (i : Nat) (x y : Int32) (F : PF) (G : PG) (q : Int32 × PF × PG), rc i x y F G = some q → xn F ≤ xn q.2.1) {res : Int32 × PF × PG} (x1 : Int32) (x2 : Int32) (x5 : Int32) (x7 : Int32) (F : PF) (G : PG) (hm : cb_X4_forStatement_221 fu rc x1 x2 x5 x7 F G = some res) : xn F ≤ xn res.2.1 := by
  unfold cb_X4_forStatement_221 at hm
  obtain ⟨⟨r1, F1, G1⟩, hc, hm⟩ := bind_elim hm
  exact Nat.le_trans (cn_X1_addPair fu 84 x7 F G _ hc) (cn_X4_forStatement_232 fu rc hrn x1 x2 x5 x7 F1 G1 hm)
theorem cw_X4_forStatement_221 (fu : Nat) (rc : RC) {dd : Nat} (hr : cH2 l v a rc dd) (hrn : ∀ (i : Nat) (x y : Int32) (F : PF) (G : PG) (q : Int32 × PF × PG), rc i x y F G = some q → xn F ≤ xn q.2.1) {res : Int32 × PF × PG} (C : cMC p R s m args c A v RX4 cX4_forStatement 8 (dd + 1 + 305) (60 * (dd + 1) + 18119) (xn res.2.1 - xn K0)) (hret : ∀ (b1 : Nat) (H1 : Heap) (locs1 : List Loc) (ls1 : Array Slot) (pc : Nat), cMW s A v a b1 K0 res.2.1 res.2.2 H1 locs1 → decode cX4_forStatement pc = .ok (.return_, 1) → W p l e R s m args below meth c H1 locs1 (xn res.2.1 - xn K0) (2 * (xn res.2.1 - xn K0)) Q (F0 m pc ls1 [])) (x1 : Int32) (x2 : Int32) (x5 : Int32) (x7 : Int32) (F : PF) (G : PG) (hm : cb_X4_forStatement_221 fu rc x1 x2 x5 x7 F G = some res) {b : Nat} {H : Heap} {locs : List Loc} (hw : cMW s A v a b K0 F G H locs) {ls : Array Slot} (hl : lv_has ls 8 [(0, .ref (a 204)), (1, .int x1), (2, .int x2), (5, .int x5), (7, .int x7)]) : W p l e R s m args below meth c H locs (xn F - xn K0) (2 * (xn F - xn K0)) Q (F0 m 221 ls []) := by
  have hx := C.1
  have hb := C.2.1
  unfold cb_X4_forStatement_221 at hm
  refine lv_aload_n hx hb dX4_forStatement_221 rfl (lv_at hl 0 rfl) ?_
  refine cg_X4_19 C hw dX4_forStatement_222 ?_
  refine lv_bipush (v := 84) hx hb dX4_forStatement_225 (by decide) ?_
  refine lv_iload hx hb dX4_forStatement_227 (lv_at hl 4 rfl) ?_
  obtain ⟨⟨r1, F1, G1⟩, hc, hm⟩ := bind_elim hm
  refine ccallV (n := 2) (As := [.int 84, .int x7]) (rest := []) C hw (ck_X1_addPair l v a _ _ fu 84 x7 F G r1 F1 G1 hc) (cn_X1_addPair fu 84 x7 F G _ hc) (Nat.sub_le_sub_right (cn_X4_forStatement_232 fu rc hrn x1 x2 x5 x7 F1 G1 hm) _) (crecv_X1 C hw) cm_660 cm_449 cm_450 cm_369 cm_451 (by decide +kernel) rfl (by omega) (by omega) hl.1 rfl (Nat.le_of_ble_eq_true rfl) dX4_forStatement_229 (fun b H locs hw => ?_)
  exact cw_X4_forStatement_232 fu rc hr hrn C hret x1 x2 x5 x7 F1 G1 hm hw (lv_sub hl [0, 1, 2, 3, 4] rfl)
theorem cn_X4_forStatement_217 (fu : Nat) (rc : RC) (hrn : ∀ (i : Nat) (x y : Int32) (F : PF) (G : PG) (q : Int32 × PF × PG), rc i x y F G = some q → xn F ≤ xn q.2.1) {res : Int32 × PF × PG} (x1 : Int32) (x2 : Int32) (x5 : Int32) (x7 : Int32) (F : PF) (G : PG) (hm : cb_X4_forStatement_217 fu rc x1 x2 x5 x7 F G = some res) : xn F ≤ xn res.2.1 := by
  unfold cb_X4_forStatement_217 at hm
  obtain ⟨⟨r1, F1, G1⟩, hc, hm⟩ := bind_elim hm
  exact Nat.le_trans (hrn _ _ _ _ _ _ hc) (cn_X4_forStatement_221 fu rc hrn x1 x2 x5 x7 F1 G1 hm)
theorem cw_X4_forStatement_217 (fu : Nat) (rc : RC) {dd : Nat} (hr : cH2 l v a rc dd) (hrn : ∀ (i : Nat) (x y : Int32) (F : PF) (G : PG) (q : Int32 × PF × PG), rc i x y F G = some q → xn F ≤ xn q.2.1) {res : Int32 × PF × PG} (C : cMC p R s m args c A v RX4 cX4_forStatement 8 (dd + 1 + 305) (60 * (dd + 1) + 18119) (xn res.2.1 - xn K0)) (hret : ∀ (b1 : Nat) (H1 : Heap) (locs1 : List Loc) (ls1 : Array Slot) (pc : Nat), cMW s A v a b1 K0 res.2.1 res.2.2 H1 locs1 → decode cX4_forStatement pc = .ok (.return_, 1) → W p l e R s m args below meth c H1 locs1 (xn res.2.1 - xn K0) (2 * (xn res.2.1 - xn K0)) Q (F0 m pc ls1 [])) (x1 : Int32) (x2 : Int32) (x5 : Int32) (x7 : Int32) (F : PF) (G : PG) (hm : cb_X4_forStatement_217 fu rc x1 x2 x5 x7 F G = some res) {b : Nat} {H : Heap} {locs : List Loc} (hw : cMW s A v a b K0 F G H locs) {ls : Array Slot} (hl : lv_has ls 8 [(0, .ref (a 204)), (1, .int x1), (2, .int x2), (5, .int x5), (7, .int x7)]) : W p l e R s m args below meth c H locs (xn F - xn K0) (2 * (xn F - xn K0)) Q (F0 m 217 ls []) := by
  have hx := C.1
  have hb := C.2.1
  unfold cb_X4_forStatement_217 at hm
  refine lv_aload_n hx hb dX4_forStatement_217 rfl (lv_at hl 0 rfl) ?_
  obtain ⟨⟨r1, F1, G1⟩, hc, hm⟩ := bind_elim hm
  refine ccallV (n := 0) (As := []) (rest := []) C hw (hr.2.2.2.2.2.1 _ _ F G r1 F1 G1 hc) (hrn _ _ _ _ _ _ hc) (Nat.sub_le_sub_right (cn_X4_forStatement_221 fu rc hrn x1 x2 x5 x7 F1 G1 hm) _) (crecv_X4 C hw) cm_651 cm_652 cm_653 cm_244 cm_728 (by decide +kernel) rfl (by omega) (by omega) hl.1 rfl (Nat.le_of_ble_eq_true rfl) dX4_forStatement_218 (fun b H locs hw => ?_)
  exact cw_X4_forStatement_221 fu rc hr hrn C hret x1 x2 x5 x7 F1 G1 hm hw (lv_sub hl [0, 1, 2, 3, 4] rfl)
theorem cn_X4_forStatement_201 (fu : Nat) (rc : RC) (hrn : ∀ (i : Nat) (x y : Int32) (F : PF) (G : PG) (q : Int32 × PF × PG), rc i x y F G = some q → xn F ≤ xn q.2.1) {res : Int32 × PF × PG} (x1 : Int32) (x2 : Int32) (x5 : Int32) (x6 : Int32) (x7 : Int32) (F : PF) (G : PG) (hm : cb_X4_forStatement_201 fu rc x1 x2 x5 x6 x7 F G = some res) : xn F ≤ xn res.2.1 := by
  unfold cb_X4_forStatement_201 at hm
  obtain ⟨⟨r1, F1, G1⟩, hc, hm⟩ := bind_elim hm
  exact Nat.le_trans (cn_X1_aim fu x6 (F 6) F G _ hc) (cn_X4_forStatement_217 fu rc hrn x1 x2 x5 x7 F1 G1 hm)
theorem cw_X4_forStatement_201 (fu : Nat) (rc : RC) {dd : Nat} (hr : cH2 l v a rc dd) (hrn : ∀ (i : Nat) (x y : Int32) (F : PF) (G : PG) (q : Int32 × PF × PG), rc i x y F G = some q → xn F ≤ xn q.2.1) {res : Int32 × PF × PG} (C : cMC p R s m args c A v RX4 cX4_forStatement 8 (dd + 1 + 305) (60 * (dd + 1) + 18119) (xn res.2.1 - xn K0)) (hret : ∀ (b1 : Nat) (H1 : Heap) (locs1 : List Loc) (ls1 : Array Slot) (pc : Nat), cMW s A v a b1 K0 res.2.1 res.2.2 H1 locs1 → decode cX4_forStatement pc = .ok (.return_, 1) → W p l e R s m args below meth c H1 locs1 (xn res.2.1 - xn K0) (2 * (xn res.2.1 - xn K0)) Q (F0 m pc ls1 [])) (x1 : Int32) (x2 : Int32) (x5 : Int32) (x6 : Int32) (x7 : Int32) (F : PF) (G : PG) (hm : cb_X4_forStatement_201 fu rc x1 x2 x5 x6 x7 F G = some res) {b : Nat} {H : Heap} {locs : List Loc} (hw : cMW s A v a b K0 F G H locs) {ls : Array Slot} (hl : lv_has ls 8 [(0, .ref (a 204)), (1, .int x1), (2, .int x2), (5, .int x5), (6, .int x6), (7, .int x7)]) : W p l e R s m args below meth c H locs (xn F - xn K0) (2 * (xn F - xn K0)) Q (F0 m 201 ls []) := by
  have hx := C.1
  have hb := C.2.1
  unfold cb_X4_forStatement_201 at hm
  refine lv_aload_n hx hb dX4_forStatement_201 rfl (lv_at hl 0 rfl) ?_
  refine cg_X4_19 C hw dX4_forStatement_202 ?_
  refine lv_iload hx hb dX4_forStatement_205 (lv_at hl 4 rfl) ?_
  refine lv_aload_n hx hb dX4_forStatement_207 rfl (lv_at hl 0 rfl) ?_
  refine cg_X4_19 C hw dX4_forStatement_208 ?_
  refine cg_X4_43 C hw dX4_forStatement_211 ?_
  obtain ⟨⟨r1, F1, G1⟩, hc, hm⟩ := bind_elim hm
  refine ccallV (n := 2) (As := [.int x6, .int (F 6)]) (rest := []) C hw (ck_X1_aim l v a _ _ fu x6 (F 6) F G r1 F1 G1 hc) (cn_X1_aim fu x6 (F 6) F G _ hc) (Nat.sub_le_sub_right (cn_X4_forStatement_217 fu rc hrn x1 x2 x5 x7 F1 G1 hm) _) (crecv_X1 C hw) cm_654 cm_376 cm_377 cm_369 cm_378 (by decide +kernel) rfl (by omega) (by omega) hl.1 rfl (Nat.le_of_ble_eq_true rfl) dX4_forStatement_214 (fun b H locs hw => ?_)
  exact cw_X4_forStatement_217 fu rc hr hrn C hret x1 x2 x5 x7 F1 G1 hm hw (lv_sub hl [0, 1, 2, 3, 5] rfl)
theorem cn_X4_forStatement_192 (fu : Nat) (rc : RC) (hrn : ∀ (i : Nat) (x y : Int32) (F : PF) (G : PG) (q : Int32 × PF × PG), rc i x y F G = some q → xn F ≤ xn q.2.1) {res : Int32 × PF × PG} (x1 : Int32) (x2 : Int32) (x5 : Int32) (x6 : Int32) (x7 : Int32) (F : PF) (G : PG) (hm : cb_X4_forStatement_192 fu rc x1 x2 x5 x6 x7 F G = some res) : xn F ≤ xn res.2.1 := by
  unfold cb_X4_forStatement_192 at hm
  obtain ⟨⟨r1, F1, G1⟩, hc, hm⟩ := bind_elim hm
  exact Nat.le_trans (cn_X2_closesWith fu 20 F G _ hc) (cn_X4_forStatement_201 fu rc hrn x1 x2 x5 x6 x7 F1 G1 hm)
theorem cw_X4_forStatement_192 (fu : Nat) (rc : RC) {dd : Nat} (hr : cH2 l v a rc dd) (hrn : ∀ (i : Nat) (x y : Int32) (F : PF) (G : PG) (q : Int32 × PF × PG), rc i x y F G = some q → xn F ≤ xn q.2.1) {res : Int32 × PF × PG} (C : cMC p R s m args c A v RX4 cX4_forStatement 8 (dd + 1 + 305) (60 * (dd + 1) + 18119) (xn res.2.1 - xn K0)) (hret : ∀ (b1 : Nat) (H1 : Heap) (locs1 : List Loc) (ls1 : Array Slot) (pc : Nat), cMW s A v a b1 K0 res.2.1 res.2.2 H1 locs1 → decode cX4_forStatement pc = .ok (.return_, 1) → W p l e R s m args below meth c H1 locs1 (xn res.2.1 - xn K0) (2 * (xn res.2.1 - xn K0)) Q (F0 m pc ls1 [])) (x1 : Int32) (x2 : Int32) (x5 : Int32) (x6 : Int32) (x7 : Int32) (F : PF) (G : PG) (hm : cb_X4_forStatement_192 fu rc x1 x2 x5 x6 x7 F G = some res) {b : Nat} {H : Heap} {locs : List Loc} (hw : cMW s A v a b K0 F G H locs) {ls : Array Slot} (hl : lv_has ls 8 [(0, .ref (a 204)), (1, .int x1), (2, .int x2), (5, .int x5), (6, .int x6), (7, .int x7)]) : W p l e R s m args below meth c H locs (xn F - xn K0) (2 * (xn F - xn K0)) Q (F0 m 192 ls []) := by
  have hx := C.1
  have hb := C.2.1
  unfold cb_X4_forStatement_192 at hm
  refine lv_aload_n hx hb dX4_forStatement_192 rfl (lv_at hl 0 rfl) ?_
  refine cg_X4_9 C hw dX4_forStatement_193 ?_
  refine lv_bipush (v := 20) hx hb dX4_forStatement_196 (by decide) ?_
  obtain ⟨⟨r1, F1, G1⟩, hc, hm⟩ := bind_elim hm
  refine ccallV (n := 1) (As := [.int 20]) (rest := []) C hw (ck_X2_closesWith l v a _ _ fu 20 F G r1 F1 G1 hc) (cn_X2_closesWith fu 20 F G _ hc) (Nat.sub_le_sub_right (cn_X4_forStatement_201 fu rc hrn x1 x2 x5 x6 x7 F1 G1 hm) _) (crecv_X2 C hw) cm_629 cm_459 cm_460 cm_307 cm_461 (by decide +kernel) rfl (by omega) (by omega) hl.1 rfl (Nat.le_of_ble_eq_true rfl) dX4_forStatement_198 (fun b H locs hw => ?_)
  exact cw_X4_forStatement_201 fu rc hr hrn C hret x1 x2 x5 x6 x7 F1 G1 hm hw (lv_sub hl [0, 1, 2, 3, 4, 5] rfl)
theorem cn_X4_forStatement_181 (fu : Nat) (rc : RC) (hrn : ∀ (i : Nat) (x y : Int32) (F : PF) (G : PG) (q : Int32 × PF × PG), rc i x y F G = some q → xn F ≤ xn q.2.1) {res : Int32 × PF × PG} (x1 : Int32) (x2 : Int32) (x4 : Int32) (x5 : Int32) (x6 : Int32) (x7 : Int32) (F : PF) (G : PG) (hm : cb_X4_forStatement_181 fu rc x1 x2 x4 x5 x6 x7 F G = some res) : xn F ≤ xn res.2.1 := by
  unfold cb_X4_forStatement_181 at hm
  obtain ⟨⟨r1, F1, G1⟩, hc, hm⟩ := bind_elim hm
  exact Nat.le_trans (cn_X1_addPair fu 84 x4 F G _ hc) (cn_X4_forStatement_192 fu rc hrn x1 x2 x5 x6 x7 F1 G1 hm)
theorem cw_X4_forStatement_181 (fu : Nat) (rc : RC) {dd : Nat} (hr : cH2 l v a rc dd) (hrn : ∀ (i : Nat) (x y : Int32) (F : PF) (G : PG) (q : Int32 × PF × PG), rc i x y F G = some q → xn F ≤ xn q.2.1) {res : Int32 × PF × PG} (C : cMC p R s m args c A v RX4 cX4_forStatement 8 (dd + 1 + 305) (60 * (dd + 1) + 18119) (xn res.2.1 - xn K0)) (hret : ∀ (b1 : Nat) (H1 : Heap) (locs1 : List Loc) (ls1 : Array Slot) (pc : Nat), cMW s A v a b1 K0 res.2.1 res.2.2 H1 locs1 → decode cX4_forStatement pc = .ok (.return_, 1) → W p l e R s m args below meth c H1 locs1 (xn res.2.1 - xn K0) (2 * (xn res.2.1 - xn K0)) Q (F0 m pc ls1 [])) (x1 : Int32) (x2 : Int32) (x4 : Int32) (x5 : Int32) (x6 : Int32) (x7 : Int32) (F : PF) (G : PG) (hm : cb_X4_forStatement_181 fu rc x1 x2 x4 x5 x6 x7 F G = some res) {b : Nat} {H : Heap} {locs : List Loc} (hw : cMW s A v a b K0 F G H locs) {ls : Array Slot} (hl : lv_has ls 8 [(0, .ref (a 204)), (1, .int x1), (2, .int x2), (4, .int x4), (5, .int x5), (6, .int x6), (7, .int x7)]) : W p l e R s m args below meth c H locs (xn F - xn K0) (2 * (xn F - xn K0)) Q (F0 m 181 ls []) := by
  have hx := C.1
  have hb := C.2.1
  unfold cb_X4_forStatement_181 at hm
  refine lv_aload_n hx hb dX4_forStatement_181 rfl (lv_at hl 0 rfl) ?_
  refine cg_X4_19 C hw dX4_forStatement_182 ?_
  refine lv_bipush (v := 84) hx hb dX4_forStatement_185 (by decide) ?_
  refine lv_iload hx hb dX4_forStatement_187 (lv_at hl 3 rfl) ?_
  obtain ⟨⟨r1, F1, G1⟩, hc, hm⟩ := bind_elim hm
  refine ccallV (n := 2) (As := [.int 84, .int x4]) (rest := []) C hw (ck_X1_addPair l v a _ _ fu 84 x4 F G r1 F1 G1 hc) (cn_X1_addPair fu 84 x4 F G _ hc) (Nat.sub_le_sub_right (cn_X4_forStatement_192 fu rc hrn x1 x2 x5 x6 x7 F1 G1 hm) _) (crecv_X1 C hw) cm_660 cm_449 cm_450 cm_369 cm_451 (by decide +kernel) rfl (by omega) (by omega) hl.1 rfl (Nat.le_of_ble_eq_true rfl) dX4_forStatement_189 (fun b H locs hw => ?_)
  exact cw_X4_forStatement_192 fu rc hr hrn C hret x1 x2 x5 x6 x7 F1 G1 hm hw (lv_sub hl [0, 1, 2, 4, 5, 6] rfl)
theorem cn_X4_forStatement_177 (fu : Nat) (rc : RC) (hrn : ∀ (i : Nat) (x y : Int32) (F : PF) (G : PG) (q : Int32 × PF × PG), rc i x y F G = some q → xn F ≤ xn q.2.1) {res : Int32 × PF × PG} (x1 : Int32) (x2 : Int32) (x4 : Int32) (x5 : Int32) (x6 : Int32) (x7 : Int32) (F : PF) (G : PG) (hm : cb_X4_forStatement_177 fu rc x1 x2 x4 x5 x6 x7 F G = some res) : xn F ≤ xn res.2.1 := by
  unfold cb_X4_forStatement_177 at hm
  obtain ⟨⟨r1, F1, G1⟩, hc, hm⟩ := bind_elim hm
  exact Nat.le_trans (cn_X4_simple fu F G _ hc) (cn_X4_forStatement_181 fu rc hrn x1 x2 x4 x5 x6 x7 F1 G1 hm)
theorem cw_X4_forStatement_177 (fu : Nat) (rc : RC) {dd : Nat} (hr : cH2 l v a rc dd) (hrn : ∀ (i : Nat) (x y : Int32) (F : PF) (G : PG) (q : Int32 × PF × PG), rc i x y F G = some q → xn F ≤ xn q.2.1) {res : Int32 × PF × PG} (C : cMC p R s m args c A v RX4 cX4_forStatement 8 (dd + 1 + 305) (60 * (dd + 1) + 18119) (xn res.2.1 - xn K0)) (hret : ∀ (b1 : Nat) (H1 : Heap) (locs1 : List Loc) (ls1 : Array Slot) (pc : Nat), cMW s A v a b1 K0 res.2.1 res.2.2 H1 locs1 → decode cX4_forStatement pc = .ok (.return_, 1) → W p l e R s m args below meth c H1 locs1 (xn res.2.1 - xn K0) (2 * (xn res.2.1 - xn K0)) Q (F0 m pc ls1 [])) (x1 : Int32) (x2 : Int32) (x4 : Int32) (x5 : Int32) (x6 : Int32) (x7 : Int32) (F : PF) (G : PG) (hm : cb_X4_forStatement_177 fu rc x1 x2 x4 x5 x6 x7 F G = some res) {b : Nat} {H : Heap} {locs : List Loc} (hw : cMW s A v a b K0 F G H locs) {ls : Array Slot} (hl : lv_has ls 8 [(0, .ref (a 204)), (1, .int x1), (2, .int x2), (4, .int x4), (5, .int x5), (6, .int x6), (7, .int x7)]) : W p l e R s m args below meth c H locs (xn F - xn K0) (2 * (xn F - xn K0)) Q (F0 m 177 ls []) := by
  have hx := C.1
  have hb := C.2.1
  unfold cb_X4_forStatement_177 at hm
  refine lv_aload_n hx hb dX4_forStatement_177 rfl (lv_at hl 0 rfl) ?_
  obtain ⟨⟨r1, F1, G1⟩, hc, hm⟩ := bind_elim hm
  refine ccallV (n := 0) (As := []) (rest := []) C hw (ck_X4_simple l v a _ _ fu F G r1 F1 G1 hc) (cn_X4_simple fu F G _ hc) (Nat.sub_le_sub_right (cn_X4_forStatement_181 fu rc hrn x1 x2 x4 x5 x6 x7 F1 G1 hm) _) (crecv_X4 C hw) cm_692 cm_693 cm_694 cm_244 cm_695 (by decide +kernel) rfl (by omega) (by omega) hl.1 rfl (Nat.le_of_ble_eq_true rfl) dX4_forStatement_178 (fun b H locs hw => ?_)
  exact cw_X4_forStatement_181 fu rc hr hrn C hret x1 x2 x4 x5 x6 x7 F1 G1 hm hw (lv_sub hl [0, 1, 2, 3, 4, 5, 6] rfl)
theorem cn_X4_forStatement_154 (fu : Nat) (rc : RC) (hrn : ∀ (i : Nat) (x y : Int32) (F : PF) (G : PG) (q : Int32 × PF × PG), rc i x y F G = some q → xn F ≤ xn q.2.1) {res : Int32 × PF × PG} (x1 : Int32) (x2 : Int32) (x4 : Int32) (x5 : Int32) (z0 : Int32) (F : PF) (G : PG) (hm : cb_X4_forStatement_154 fu rc x1 x2 x4 x5 z0 F G = some res) : xn F ≤ xn res.2.1 := by
  unfold cb_X4_forStatement_154 at hm
  by_cases c_1 : (F 11) = (20 : Int32)
  · have hm := (if_pos c_1).symm.trans hm
    exact (cn_X4_forStatement_181 fu rc hrn x1 x2 x4 x5 z0 (F 6) F G hm)
  · have hm := (if_neg c_1).symm.trans hm
    exact (cn_X4_forStatement_177 fu rc hrn x1 x2 x4 x5 z0 (F 6) F G hm)
theorem cw_X4_forStatement_154 (fu : Nat) (rc : RC) {dd : Nat} (hr : cH2 l v a rc dd) (hrn : ∀ (i : Nat) (x y : Int32) (F : PF) (G : PG) (q : Int32 × PF × PG), rc i x y F G = some q → xn F ≤ xn q.2.1) {res : Int32 × PF × PG} (C : cMC p R s m args c A v RX4 cX4_forStatement 8 (dd + 1 + 305) (60 * (dd + 1) + 18119) (xn res.2.1 - xn K0)) (hret : ∀ (b1 : Nat) (H1 : Heap) (locs1 : List Loc) (ls1 : Array Slot) (pc : Nat), cMW s A v a b1 K0 res.2.1 res.2.2 H1 locs1 → decode cX4_forStatement pc = .ok (.return_, 1) → W p l e R s m args below meth c H1 locs1 (xn res.2.1 - xn K0) (2 * (xn res.2.1 - xn K0)) Q (F0 m pc ls1 [])) (x1 : Int32) (x2 : Int32) (x4 : Int32) (x5 : Int32) (z0 : Int32) (F : PF) (G : PG) (hm : cb_X4_forStatement_154 fu rc x1 x2 x4 x5 z0 F G = some res) {b : Nat} {H : Heap} {locs : List Loc} (hw : cMW s A v a b K0 F G H locs) {ls : Array Slot} (hl : lv_has ls 8 [(0, .ref (a 204)), (1, .int x1), (2, .int x2), (4, .int x4), (5, .int x5)]) : W p l e R s m args below meth c H locs (xn F - xn K0) (2 * (xn F - xn K0)) Q (F0 m 154 ls [.int z0]) := by
  have hx := C.1
  have hb := C.2.1
  unfold cb_X4_forStatement_154 at hm
  refine lv_istore (lv' := [(6, .int z0), (0, .ref (a 204)), (1, .int x1), (2, .int x2), (4, .int x4), (5, .int x5)]) hx hb dX4_forStatement_154 hl (by decide) rfl (fun ls hl => ?_)
  refine lv_aload_n hx hb dX4_forStatement_156 rfl (lv_at hl 1 rfl) ?_
  refine cg_X4_19 C hw dX4_forStatement_157 ?_
  refine cg_X4_43 C hw dX4_forStatement_160 ?_
  refine lv_istore (lv' := [(7, .int (F 6)), (6, .int z0), (0, .ref (a 204)), (1, .int x1), (2, .int x2), (4, .int x4), (5, .int x5)]) hx hb dX4_forStatement_163 hl (by decide) rfl (fun ls hl => ?_)
  refine lv_aload_n hx hb dX4_forStatement_165 rfl (lv_at hl 2 rfl) ?_
  refine cg_X4_9 C hw dX4_forStatement_166 ?_
  refine cg_X4_52 C hw dX4_forStatement_169 ?_
  refine lv_bipush (v := 20) hx hb dX4_forStatement_172 (by decide) ?_
  refine lv_icmp_eq (tgt := 181) hx hb dX4_forStatement_174 (by decide) (fun c_1 => ?_) (fun c_1 => ?_)
  · have hm := (if_pos c_1).symm.trans hm
    exact cw_X4_forStatement_181 fu rc hr hrn C hret x1 x2 x4 x5 z0 (F 6) F G hm hw (lv_sub hl [2, 3, 4, 5, 6, 1, 0] rfl)
  · have hm := (if_neg c_1).symm.trans hm
    exact cw_X4_forStatement_177 fu rc hr hrn C hret x1 x2 x4 x5 z0 (F 6) F G hm hw (lv_sub hl [2, 3, 4, 5, 6, 1, 0] rfl)
theorem cn_X4_forStatement_144 (fu : Nat) (rc : RC) (hrn : ∀ (i : Nat) (x y : Int32) (F : PF) (G : PG) (q : Int32 × PF × PG), rc i x y F G = some q → xn F ≤ xn q.2.1) {res : Int32 × PF × PG} (x1 : Int32) (x2 : Int32) (x4 : Int32) (x5 : Int32) (F : PF) (G : PG) (hm : cb_X4_forStatement_144 fu rc x1 x2 x4 x5 F G = some res) : xn F ≤ xn res.2.1 := by
  unfold cb_X4_forStatement_144 at hm
  obtain ⟨⟨r1, F1, G1⟩, hc, hm⟩ := bind_elim hm
  exact Nat.le_trans (cn_X1_addJump fu 84 (-1) F G _ hc) (cn_X4_forStatement_154 fu rc hrn x1 x2 x4 x5 r1 F1 G1 hm)
theorem cw_X4_forStatement_144 (fu : Nat) (rc : RC) {dd : Nat} (hr : cH2 l v a rc dd) (hrn : ∀ (i : Nat) (x y : Int32) (F : PF) (G : PG) (q : Int32 × PF × PG), rc i x y F G = some q → xn F ≤ xn q.2.1) {res : Int32 × PF × PG} (C : cMC p R s m args c A v RX4 cX4_forStatement 8 (dd + 1 + 305) (60 * (dd + 1) + 18119) (xn res.2.1 - xn K0)) (hret : ∀ (b1 : Nat) (H1 : Heap) (locs1 : List Loc) (ls1 : Array Slot) (pc : Nat), cMW s A v a b1 K0 res.2.1 res.2.2 H1 locs1 → decode cX4_forStatement pc = .ok (.return_, 1) → W p l e R s m args below meth c H1 locs1 (xn res.2.1 - xn K0) (2 * (xn res.2.1 - xn K0)) Q (F0 m pc ls1 [])) (x1 : Int32) (x2 : Int32) (x4 : Int32) (x5 : Int32) (F : PF) (G : PG) (hm : cb_X4_forStatement_144 fu rc x1 x2 x4 x5 F G = some res) {b : Nat} {H : Heap} {locs : List Loc} (hw : cMW s A v a b K0 F G H locs) {ls : Array Slot} (hl : lv_has ls 8 [(0, .ref (a 204)), (1, .int x1), (2, .int x2), (4, .int x4), (5, .int x5)]) : W p l e R s m args below meth c H locs (xn F - xn K0) (2 * (xn F - xn K0)) Q (F0 m 144 ls []) := by
  have hx := C.1
  have hb := C.2.1
  unfold cb_X4_forStatement_144 at hm
  refine lv_aload_n hx hb dX4_forStatement_144 rfl (lv_at hl 0 rfl) ?_
  refine cg_X4_19 C hw dX4_forStatement_145 ?_
  refine lv_bipush (v := 84) hx hb dX4_forStatement_148 (by decide) ?_
  refine lv_iconst (v := (-1)) hx hb dX4_forStatement_150 (by decide) ?_
  obtain ⟨⟨r1, F1, G1⟩, hc, hm⟩ := bind_elim hm
  refine ccallI (n := 2) (As := [.int 84, .int (-1)]) (rest := []) C hw (ck_X1_addJump l v a _ _ fu 84 (-1) F G r1 F1 G1 hc) (cn_X1_addJump fu 84 (-1) F G _ hc) (Nat.sub_le_sub_right (cn_X4_forStatement_154 fu rc hrn x1 x2 x4 x5 r1 F1 G1 hm) _) (crecv_X1 C hw) cm_718 cm_367 cm_368 cm_369 cm_370 (by decide +kernel) rfl (by omega) (by omega) hl.1 rfl (Nat.le_of_ble_eq_true rfl) dX4_forStatement_151 (fun b H locs hw => ?_)
  exact cw_X4_forStatement_154 fu rc hr hrn C hret x1 x2 x4 x5 r1 F1 G1 hm hw (lv_sub hl [0, 1, 2, 3, 4] rfl)
theorem cn_X4_forStatement_135 (fu : Nat) (rc : RC) (hrn : ∀ (i : Nat) (x y : Int32) (F : PF) (G : PG) (q : Int32 × PF × PG), rc i x y F G = some q → xn F ≤ xn q.2.1) {res : Int32 × PF × PG} (x1 : Int32) (x2 : Int32) (x4 : Int32) (x5 : Int32) (F : PF) (G : PG) (hm : cb_X4_forStatement_135 fu rc x1 x2 x4 x5 F G = some res) : xn F ≤ xn res.2.1 := by
  unfold cb_X4_forStatement_135 at hm
  obtain ⟨⟨r1, F1, G1⟩, hc, hm⟩ := bind_elim hm
  exact Nat.le_trans (cn_X2_expect fu 26 F G _ hc) (cn_X4_forStatement_144 fu rc hrn x1 x2 x4 x5 F1 G1 hm)
theorem cw_X4_forStatement_135 (fu : Nat) (rc : RC) {dd : Nat} (hr : cH2 l v a rc dd) (hrn : ∀ (i : Nat) (x y : Int32) (F : PF) (G : PG) (q : Int32 × PF × PG), rc i x y F G = some q → xn F ≤ xn q.2.1) {res : Int32 × PF × PG} (C : cMC p R s m args c A v RX4 cX4_forStatement 8 (dd + 1 + 305) (60 * (dd + 1) + 18119) (xn res.2.1 - xn K0)) (hret : ∀ (b1 : Nat) (H1 : Heap) (locs1 : List Loc) (ls1 : Array Slot) (pc : Nat), cMW s A v a b1 K0 res.2.1 res.2.2 H1 locs1 → decode cX4_forStatement pc = .ok (.return_, 1) → W p l e R s m args below meth c H1 locs1 (xn res.2.1 - xn K0) (2 * (xn res.2.1 - xn K0)) Q (F0 m pc ls1 [])) (x1 : Int32) (x2 : Int32) (x4 : Int32) (x5 : Int32) (F : PF) (G : PG) (hm : cb_X4_forStatement_135 fu rc x1 x2 x4 x5 F G = some res) {b : Nat} {H : Heap} {locs : List Loc} (hw : cMW s A v a b K0 F G H locs) {ls : Array Slot} (hl : lv_has ls 8 [(0, .ref (a 204)), (1, .int x1), (2, .int x2), (4, .int x4), (5, .int x5)]) : W p l e R s m args below meth c H locs (xn F - xn K0) (2 * (xn F - xn K0)) Q (F0 m 135 ls []) := by
  have hx := C.1
  have hb := C.2.1
  unfold cb_X4_forStatement_135 at hm
  refine lv_aload_n hx hb dX4_forStatement_135 rfl (lv_at hl 0 rfl) ?_
  refine cg_X4_9 C hw dX4_forStatement_136 ?_
  refine lv_bipush (v := 26) hx hb dX4_forStatement_139 (by decide) ?_
  obtain ⟨⟨r1, F1, G1⟩, hc, hm⟩ := bind_elim hm
  refine ccallV (n := 1) (As := [.int 26]) (rest := []) C hw (ck_X2_expect l v a _ _ fu 26 F G r1 F1 G1 hc) (cn_X2_expect fu 26 F G _ hc) (Nat.sub_le_sub_right (cn_X4_forStatement_144 fu rc hrn x1 x2 x4 x5 F1 G1 hm) _) (crecv_X2 C hw) cm_332 cm_333 cm_334 cm_307 cm_335 (by decide +kernel) rfl (by omega) (by omega) hl.1 rfl (Nat.le_of_ble_eq_true rfl) dX4_forStatement_141 (fun b H locs hw => ?_)
  exact cw_X4_forStatement_144 fu rc hr hrn C hret x1 x2 x4 x5 F1 G1 hm hw (lv_sub hl [0, 1, 2, 3, 4] rfl)
theorem cn_X4_forStatement_133 (fu : Nat) (rc : RC) (hrn : ∀ (i : Nat) (x y : Int32) (F : PF) (G : PG) (q : Int32 × PF × PG), rc i x y F G = some q → xn F ≤ xn q.2.1) {res : Int32 × PF × PG} (x1 : Int32) (x2 : Int32) (x4 : Int32) (z0 : Int32) (F : PF) (G : PG) (hm : cb_X4_forStatement_133 fu rc x1 x2 x4 z0 F G = some res) : xn F ≤ xn res.2.1 := by
  unfold cb_X4_forStatement_133 at hm
  exact (cn_X4_forStatement_135 fu rc hrn x1 x2 x4 z0 F G hm)
theorem cw_X4_forStatement_133 (fu : Nat) (rc : RC) {dd : Nat} (hr : cH2 l v a rc dd) (hrn : ∀ (i : Nat) (x y : Int32) (F : PF) (G : PG) (q : Int32 × PF × PG), rc i x y F G = some q → xn F ≤ xn q.2.1) {res : Int32 × PF × PG} (C : cMC p R s m args c A v RX4 cX4_forStatement 8 (dd + 1 + 305) (60 * (dd + 1) + 18119) (xn res.2.1 - xn K0)) (hret : ∀ (b1 : Nat) (H1 : Heap) (locs1 : List Loc) (ls1 : Array Slot) (pc : Nat), cMW s A v a b1 K0 res.2.1 res.2.2 H1 locs1 → decode cX4_forStatement pc = .ok (.return_, 1) → W p l e R s m args below meth c H1 locs1 (xn res.2.1 - xn K0) (2 * (xn res.2.1 - xn K0)) Q (F0 m pc ls1 [])) (x1 : Int32) (x2 : Int32) (x4 : Int32) (z0 : Int32) (F : PF) (G : PG) (hm : cb_X4_forStatement_133 fu rc x1 x2 x4 z0 F G = some res) {b : Nat} {H : Heap} {locs : List Loc} (hw : cMW s A v a b K0 F G H locs) {ls : Array Slot} (hl : lv_has ls 8 [(0, .ref (a 204)), (1, .int x1), (2, .int x2), (4, .int x4)]) : W p l e R s m args below meth c H locs (xn F - xn K0) (2 * (xn F - xn K0)) Q (F0 m 133 ls [.int z0]) := by
  have hx := C.1
  have hb := C.2.1
  unfold cb_X4_forStatement_133 at hm
  refine lv_istore (lv' := [(5, .int z0), (0, .ref (a 204)), (1, .int x1), (2, .int x2), (4, .int x4)]) hx hb dX4_forStatement_133 hl (by decide) rfl (fun ls hl => ?_)
  exact cw_X4_forStatement_135 fu rc hr hrn C hret x1 x2 x4 z0 F G hm hw (lv_sub hl [1, 2, 3, 4, 0] rfl)
theorem cn_X4_forStatement_123 (fu : Nat) (rc : RC) (hrn : ∀ (i : Nat) (x y : Int32) (F : PF) (G : PG) (q : Int32 × PF × PG), rc i x y F G = some q → xn F ≤ xn q.2.1) {res : Int32 × PF × PG} (x1 : Int32) (x2 : Int32) (x4 : Int32) (F : PF) (G : PG) (hm : cb_X4_forStatement_123 fu rc x1 x2 x4 F G = some res) : xn F ≤ xn res.2.1 := by
  unfold cb_X4_forStatement_123 at hm
  obtain ⟨⟨r1, F1, G1⟩, hc, hm⟩ := bind_elim hm
  exact Nat.le_trans (cn_X1_addJump fu 86 (-1) F G _ hc) (cn_X4_forStatement_133 fu rc hrn x1 x2 x4 r1 F1 G1 hm)
theorem cw_X4_forStatement_123 (fu : Nat) (rc : RC) {dd : Nat} (hr : cH2 l v a rc dd) (hrn : ∀ (i : Nat) (x y : Int32) (F : PF) (G : PG) (q : Int32 × PF × PG), rc i x y F G = some q → xn F ≤ xn q.2.1) {res : Int32 × PF × PG} (C : cMC p R s m args c A v RX4 cX4_forStatement 8 (dd + 1 + 305) (60 * (dd + 1) + 18119) (xn res.2.1 - xn K0)) (hret : ∀ (b1 : Nat) (H1 : Heap) (locs1 : List Loc) (ls1 : Array Slot) (pc : Nat), cMW s A v a b1 K0 res.2.1 res.2.2 H1 locs1 → decode cX4_forStatement pc = .ok (.return_, 1) → W p l e R s m args below meth c H1 locs1 (xn res.2.1 - xn K0) (2 * (xn res.2.1 - xn K0)) Q (F0 m pc ls1 [])) (x1 : Int32) (x2 : Int32) (x4 : Int32) (F : PF) (G : PG) (hm : cb_X4_forStatement_123 fu rc x1 x2 x4 F G = some res) {b : Nat} {H : Heap} {locs : List Loc} (hw : cMW s A v a b K0 F G H locs) {ls : Array Slot} (hl : lv_has ls 8 [(0, .ref (a 204)), (1, .int x1), (2, .int x2), (4, .int x4)]) : W p l e R s m args below meth c H locs (xn F - xn K0) (2 * (xn F - xn K0)) Q (F0 m 123 ls []) := by
  have hx := C.1
  have hb := C.2.1
  unfold cb_X4_forStatement_123 at hm
  refine lv_aload_n hx hb dX4_forStatement_123 rfl (lv_at hl 0 rfl) ?_
  refine cg_X4_19 C hw dX4_forStatement_124 ?_
  refine lv_bipush (v := 86) hx hb dX4_forStatement_127 (by decide) ?_
  refine lv_iconst (v := (-1)) hx hb dX4_forStatement_129 (by decide) ?_
  obtain ⟨⟨r1, F1, G1⟩, hc, hm⟩ := bind_elim hm
  refine ccallI (n := 2) (As := [.int 86, .int (-1)]) (rest := []) C hw (ck_X1_addJump l v a _ _ fu 86 (-1) F G r1 F1 G1 hc) (cn_X1_addJump fu 86 (-1) F G _ hc) (Nat.sub_le_sub_right (cn_X4_forStatement_133 fu rc hrn x1 x2 x4 r1 F1 G1 hm) _) (crecv_X1 C hw) cm_718 cm_367 cm_368 cm_369 cm_370 (by decide +kernel) rfl (by omega) (by omega) hl.1 rfl (Nat.le_of_ble_eq_true rfl) dX4_forStatement_130 (fun b H locs hw => ?_)
  exact cw_X4_forStatement_133 fu rc hr hrn C hret x1 x2 x4 r1 F1 G1 hm hw (lv_sub hl [0, 1, 2, 3] rfl)
theorem cn_X4_forStatement_116 (fu : Nat) (rc : RC) (hrn : ∀ (i : Nat) (x y : Int32) (F : PF) (G : PG) (q : Int32 × PF × PG), rc i x y F G = some q → xn F ≤ xn q.2.1) {res : Int32 × PF × PG} (x1 : Int32) (x2 : Int32) (x4 : Int32) (F : PF) (G : PG) (hm : cb_X4_forStatement_116 fu rc x1 x2 x4 F G = some res) : xn F ≤ xn res.2.1 := by
  unfold cb_X4_forStatement_116 at hm
  obtain ⟨⟨r1, F1, G1⟩, hc, hm⟩ := bind_elim hm
  exact Nat.le_trans (cn_X3_expression fu F G _ hc) (cn_X4_forStatement_123 fu rc hrn x1 x2 x4 F1 G1 hm)
theorem cw_X4_forStatement_116 (fu : Nat) (rc : RC) {dd : Nat} (hr : cH2 l v a rc dd) (hrn : ∀ (i : Nat) (x y : Int32) (F : PF) (G : PG) (q : Int32 × PF × PG), rc i x y F G = some q → xn F ≤ xn q.2.1) {res : Int32 × PF × PG} (C : cMC p R s m args c A v RX4 cX4_forStatement 8 (dd + 1 + 305) (60 * (dd + 1) + 18119) (xn res.2.1 - xn K0)) (hret : ∀ (b1 : Nat) (H1 : Heap) (locs1 : List Loc) (ls1 : Array Slot) (pc : Nat), cMW s A v a b1 K0 res.2.1 res.2.2 H1 locs1 → decode cX4_forStatement pc = .ok (.return_, 1) → W p l e R s m args below meth c H1 locs1 (xn res.2.1 - xn K0) (2 * (xn res.2.1 - xn K0)) Q (F0 m pc ls1 [])) (x1 : Int32) (x2 : Int32) (x4 : Int32) (F : PF) (G : PG) (hm : cb_X4_forStatement_116 fu rc x1 x2 x4 F G = some res) {b : Nat} {H : Heap} {locs : List Loc} (hw : cMW s A v a b K0 F G H locs) {ls : Array Slot} (hl : lv_has ls 8 [(0, .ref (a 204)), (1, .int x1), (2, .int x2), (4, .int x4)]) : W p l e R s m args below meth c H locs (xn F - xn K0) (2 * (xn F - xn K0)) Q (F0 m 116 ls []) := by
  have hx := C.1
  have hb := C.2.1
  unfold cb_X4_forStatement_116 at hm
  refine lv_aload_n hx hb dX4_forStatement_116 rfl (lv_at hl 0 rfl) ?_
  refine cg_X4_27 C hw dX4_forStatement_117 ?_
  obtain ⟨⟨r1, F1, G1⟩, hc, hm⟩ := bind_elim hm
  refine ccallV (n := 0) (As := []) (rest := []) C hw (ck_X3_expression l v a _ _ fu F G r1 F1 G1 hc) (cn_X3_expression fu F G _ hc) (Nat.sub_le_sub_right (cn_X4_forStatement_123 fu rc hrn x1 x2 x4 F1 G1 hm) _) (crecv_X3 C hw) cm_659 cm_354 cm_355 cm_301 cm_356 (by decide +kernel) rfl (by omega) (by omega) hl.1 rfl (Nat.le_of_ble_eq_true rfl) dX4_forStatement_120 (fun b H locs hw => ?_)
  exact cw_X4_forStatement_123 fu rc hr hrn C hret x1 x2 x4 F1 G1 hm hw (lv_sub hl [0, 1, 2, 3] rfl)
theorem cn_X4_forStatement_92 (fu : Nat) (rc : RC) (hrn : ∀ (i : Nat) (x y : Int32) (F : PF) (G : PG) (q : Int32 × PF × PG), rc i x y F G = some q → xn F ≤ xn q.2.1) {res : Int32 × PF × PG} (x1 : Int32) (x2 : Int32) (F : PF) (G : PG) (hm : cb_X4_forStatement_92 fu rc x1 x2 F G = some res) : xn F ≤ xn res.2.1 := by
  unfold cb_X4_forStatement_92 at hm
  by_cases c_1 : (F 11) = (26 : Int32)
  · have hm := (if_pos c_1).symm.trans hm
    exact (cn_X4_forStatement_135 fu rc hrn x1 x2 (F 6) (-1) F G hm)
  · have hm := (if_neg c_1).symm.trans hm
    exact (cn_X4_forStatement_116 fu rc hrn x1 x2 (F 6) F G hm)
theorem cw_X4_forStatement_92 (fu : Nat) (rc : RC) {dd : Nat} (hr : cH2 l v a rc dd) (hrn : ∀ (i : Nat) (x y : Int32) (F : PF) (G : PG) (q : Int32 × PF × PG), rc i x y F G = some q → xn F ≤ xn q.2.1) {res : Int32 × PF × PG} (C : cMC p R s m args c A v RX4 cX4_forStatement 8 (dd + 1 + 305) (60 * (dd + 1) + 18119) (xn res.2.1 - xn K0)) (hret : ∀ (b1 : Nat) (H1 : Heap) (locs1 : List Loc) (ls1 : Array Slot) (pc : Nat), cMW s A v a b1 K0 res.2.1 res.2.2 H1 locs1 → decode cX4_forStatement pc = .ok (.return_, 1) → W p l e R s m args below meth c H1 locs1 (xn res.2.1 - xn K0) (2 * (xn res.2.1 - xn K0)) Q (F0 m pc ls1 [])) (x1 : Int32) (x2 : Int32) (F : PF) (G : PG) (hm : cb_X4_forStatement_92 fu rc x1 x2 F G = some res) {b : Nat} {H : Heap} {locs : List Loc} (hw : cMW s A v a b K0 F G H locs) {ls : Array Slot} (hl : lv_has ls 8 [(0, .ref (a 204)), (1, .int x1), (2, .int x2)]) : W p l e R s m args below meth c H locs (xn F - xn K0) (2 * (xn F - xn K0)) Q (F0 m 92 ls []) := by
  have hx := C.1
  have hb := C.2.1
  unfold cb_X4_forStatement_92 at hm
  refine lv_aload_n hx hb dX4_forStatement_92 rfl (lv_at hl 0 rfl) ?_
  refine cg_X4_19 C hw dX4_forStatement_93 ?_
  refine cg_X4_43 C hw dX4_forStatement_96 ?_
  refine lv_istore (lv' := [(4, .int (F 6)), (0, .ref (a 204)), (1, .int x1), (2, .int x2)]) hx hb dX4_forStatement_99 hl (by decide) rfl (fun ls hl => ?_)
  refine lv_iconst (v := (-1)) hx hb dX4_forStatement_101 (by decide) ?_
  refine lv_istore (lv' := [(5, .int (-1)), (4, .int (F 6)), (0, .ref (a 204)), (1, .int x1), (2, .int x2)]) hx hb dX4_forStatement_102 hl (by decide) rfl (fun ls hl => ?_)
  refine lv_aload_n hx hb dX4_forStatement_104 rfl (lv_at hl 2 rfl) ?_
  refine cg_X4_9 C hw dX4_forStatement_105 ?_
  refine cg_X4_52 C hw dX4_forStatement_108 ?_
  refine lv_bipush (v := 26) hx hb dX4_forStatement_111 (by decide) ?_
  refine lv_icmp_eq (tgt := 135) hx hb dX4_forStatement_113 (by decide) (fun c_1 => ?_) (fun c_1 => ?_)
  · have hm := (if_pos c_1).symm.trans hm
    exact cw_X4_forStatement_135 fu rc hr hrn C hret x1 x2 (F 6) (-1) F G hm hw (lv_sub hl [2, 3, 4, 1, 0] rfl)
  · have hm := (if_neg c_1).symm.trans hm
    exact cw_X4_forStatement_116 fu rc hr hrn C hret x1 x2 (F 6) F G hm hw (lv_sub hl [2, 3, 4, 1] rfl)
theorem cn_X4_forStatement_83 (fu : Nat) (rc : RC) (hrn : ∀ (i : Nat) (x y : Int32) (F : PF) (G : PG) (q : Int32 × PF × PG), rc i x y F G = some q → xn F ≤ xn q.2.1) {res : Int32 × PF × PG} (x1 : Int32) (x2 : Int32) (F : PF) (G : PG) (hm : cb_X4_forStatement_83 fu rc x1 x2 F G = some res) : xn F ≤ xn res.2.1 := by
  unfold cb_X4_forStatement_83 at hm
  obtain ⟨⟨r1, F1, G1⟩, hc, hm⟩ := bind_elim hm
  exact Nat.le_trans (cn_X2_expect fu 26 F G _ hc) (cn_X4_forStatement_92 fu rc hrn x1 x2 F1 G1 hm)
theorem cw_X4_forStatement_83 (fu : Nat) (rc : RC) {dd : Nat} (hr : cH2 l v a rc dd) (hrn : ∀ (i : Nat) (x y : Int32) (F : PF) (G : PG) (q : Int32 × PF × PG), rc i x y F G = some q → xn F ≤ xn q.2.1) {res : Int32 × PF × PG} (C : cMC p R s m args c A v RX4 cX4_forStatement 8 (dd + 1 + 305) (60 * (dd + 1) + 18119) (xn res.2.1 - xn K0)) (hret : ∀ (b1 : Nat) (H1 : Heap) (locs1 : List Loc) (ls1 : Array Slot) (pc : Nat), cMW s A v a b1 K0 res.2.1 res.2.2 H1 locs1 → decode cX4_forStatement pc = .ok (.return_, 1) → W p l e R s m args below meth c H1 locs1 (xn res.2.1 - xn K0) (2 * (xn res.2.1 - xn K0)) Q (F0 m pc ls1 [])) (x1 : Int32) (x2 : Int32) (F : PF) (G : PG) (hm : cb_X4_forStatement_83 fu rc x1 x2 F G = some res) {b : Nat} {H : Heap} {locs : List Loc} (hw : cMW s A v a b K0 F G H locs) {ls : Array Slot} (hl : lv_has ls 8 [(0, .ref (a 204)), (1, .int x1), (2, .int x2)]) : W p l e R s m args below meth c H locs (xn F - xn K0) (2 * (xn F - xn K0)) Q (F0 m 83 ls []) := by
  have hx := C.1
  have hb := C.2.1
  unfold cb_X4_forStatement_83 at hm
  refine lv_aload_n hx hb dX4_forStatement_83 rfl (lv_at hl 0 rfl) ?_
  refine cg_X4_9 C hw dX4_forStatement_84 ?_
  refine lv_bipush (v := 26) hx hb dX4_forStatement_87 (by decide) ?_
  obtain ⟨⟨r1, F1, G1⟩, hc, hm⟩ := bind_elim hm
  refine ccallV (n := 1) (As := [.int 26]) (rest := []) C hw (ck_X2_expect l v a _ _ fu 26 F G r1 F1 G1 hc) (cn_X2_expect fu 26 F G _ hc) (Nat.sub_le_sub_right (cn_X4_forStatement_92 fu rc hrn x1 x2 F1 G1 hm) _) (crecv_X2 C hw) cm_332 cm_333 cm_334 cm_307 cm_335 (by decide +kernel) rfl (by omega) (by omega) hl.1 rfl (Nat.le_of_ble_eq_true rfl) dX4_forStatement_89 (fun b H locs hw => ?_)
  exact cw_X4_forStatement_92 fu rc hr hrn C hret x1 x2 F1 G1 hm hw (lv_sub hl [0, 1, 2] rfl)
theorem cn_X4_forStatement_79 (fu : Nat) (rc : RC) (hrn : ∀ (i : Nat) (x y : Int32) (F : PF) (G : PG) (q : Int32 × PF × PG), rc i x y F G = some q → xn F ≤ xn q.2.1) {res : Int32 × PF × PG} (x1 : Int32) (x2 : Int32) (F : PF) (G : PG) (hm : cb_X4_forStatement_79 fu rc x1 x2 F G = some res) : xn F ≤ xn res.2.1 := by
  unfold cb_X4_forStatement_79 at hm
  obtain ⟨⟨r1, F1, G1⟩, hc, hm⟩ := bind_elim hm
  exact Nat.le_trans (cn_X4_simple fu F G _ hc) (cn_X4_forStatement_83 fu rc hrn x1 x2 F1 G1 hm)
theorem cw_X4_forStatement_79 (fu : Nat) (rc : RC) {dd : Nat} (hr : cH2 l v a rc dd) (hrn : ∀ (i : Nat) (x y : Int32) (F : PF) (G : PG) (q : Int32 × PF × PG), rc i x y F G = some q → xn F ≤ xn q.2.1) {res : Int32 × PF × PG} (C : cMC p R s m args c A v RX4 cX4_forStatement 8 (dd + 1 + 305) (60 * (dd + 1) + 18119) (xn res.2.1 - xn K0)) (hret : ∀ (b1 : Nat) (H1 : Heap) (locs1 : List Loc) (ls1 : Array Slot) (pc : Nat), cMW s A v a b1 K0 res.2.1 res.2.2 H1 locs1 → decode cX4_forStatement pc = .ok (.return_, 1) → W p l e R s m args below meth c H1 locs1 (xn res.2.1 - xn K0) (2 * (xn res.2.1 - xn K0)) Q (F0 m pc ls1 [])) (x1 : Int32) (x2 : Int32) (F : PF) (G : PG) (hm : cb_X4_forStatement_79 fu rc x1 x2 F G = some res) {b : Nat} {H : Heap} {locs : List Loc} (hw : cMW s A v a b K0 F G H locs) {ls : Array Slot} (hl : lv_has ls 8 [(0, .ref (a 204)), (1, .int x1), (2, .int x2)]) : W p l e R s m args below meth c H locs (xn F - xn K0) (2 * (xn F - xn K0)) Q (F0 m 79 ls []) := by
  have hx := C.1
  have hb := C.2.1
  unfold cb_X4_forStatement_79 at hm
  refine lv_aload_n hx hb dX4_forStatement_79 rfl (lv_at hl 0 rfl) ?_
  obtain ⟨⟨r1, F1, G1⟩, hc, hm⟩ := bind_elim hm
  refine ccallV (n := 0) (As := []) (rest := []) C hw (ck_X4_simple l v a _ _ fu F G r1 F1 G1 hc) (cn_X4_simple fu F G _ hc) (Nat.sub_le_sub_right (cn_X4_forStatement_83 fu rc hrn x1 x2 F1 G1 hm) _) (crecv_X4 C hw) cm_692 cm_693 cm_694 cm_244 cm_695 (by decide +kernel) rfl (by omega) (by omega) hl.1 rfl (Nat.le_of_ble_eq_true rfl) dX4_forStatement_80 (fun b H locs hw => ?_)
  exact cw_X4_forStatement_83 fu rc hr hrn C hret x1 x2 F1 G1 hm hw (lv_sub hl [0, 1, 2] rfl)
theorem cn_X4_forStatement_67 (fu : Nat) (rc : RC) (hrn : ∀ (i : Nat) (x y : Int32) (F : PF) (G : PG) (q : Int32 × PF × PG), rc i x y F G = some q → xn F ≤ xn q.2.1) {res : Int32 × PF × PG} (x1 : Int32) (x2 : Int32) (F : PF) (G : PG) (hm : cb_X4_forStatement_67 fu rc x1 x2 F G = some res) : xn F ≤ xn res.2.1 := by
  unfold cb_X4_forStatement_67 at hm
  by_cases c_1 : (F 11) = (26 : Int32)
  · have hm := (if_pos c_1).symm.trans hm
    exact (cn_X4_forStatement_83 fu rc hrn x1 x2 F G hm)
  · have hm := (if_neg c_1).symm.trans hm
    exact (cn_X4_forStatement_79 fu rc hrn x1 x2 F G hm)
theorem cw_X4_forStatement_67 (fu : Nat) (rc : RC) {dd : Nat} (hr : cH2 l v a rc dd) (hrn : ∀ (i : Nat) (x y : Int32) (F : PF) (G : PG) (q : Int32 × PF × PG), rc i x y F G = some q → xn F ≤ xn q.2.1) {res : Int32 × PF × PG} (C : cMC p R s m args c A v RX4 cX4_forStatement 8 (dd + 1 + 305) (60 * (dd + 1) + 18119) (xn res.2.1 - xn K0)) (hret : ∀ (b1 : Nat) (H1 : Heap) (locs1 : List Loc) (ls1 : Array Slot) (pc : Nat), cMW s A v a b1 K0 res.2.1 res.2.2 H1 locs1 → decode cX4_forStatement pc = .ok (.return_, 1) → W p l e R s m args below meth c H1 locs1 (xn res.2.1 - xn K0) (2 * (xn res.2.1 - xn K0)) Q (F0 m pc ls1 [])) (x1 : Int32) (x2 : Int32) (F : PF) (G : PG) (hm : cb_X4_forStatement_67 fu rc x1 x2 F G = some res) {b : Nat} {H : Heap} {locs : List Loc} (hw : cMW s A v a b K0 F G H locs) {ls : Array Slot} (hl : lv_has ls 8 [(0, .ref (a 204)), (1, .int x1), (2, .int x2)]) : W p l e R s m args below meth c H locs (xn F - xn K0) (2 * (xn F - xn K0)) Q (F0 m 67 ls []) := by
  have hx := C.1
  have hb := C.2.1
  unfold cb_X4_forStatement_67 at hm
  refine lv_aload_n hx hb dX4_forStatement_67 rfl (lv_at hl 0 rfl) ?_
  refine cg_X4_9 C hw dX4_forStatement_68 ?_
  refine cg_X4_52 C hw dX4_forStatement_71 ?_
  refine lv_bipush (v := 26) hx hb dX4_forStatement_74 (by decide) ?_
  refine lv_icmp_eq (tgt := 83) hx hb dX4_forStatement_76 (by decide) (fun c_1 => ?_) (fun c_1 => ?_)
  · have hm := (if_pos c_1).symm.trans hm
    exact cw_X4_forStatement_83 fu rc hr hrn C hret x1 x2 F G hm hw (lv_sub hl [0, 1, 2] rfl)
  · have hm := (if_neg c_1).symm.trans hm
    exact cw_X4_forStatement_79 fu rc hr hrn C hret x1 x2 F G hm hw (lv_sub hl [0, 1, 2] rfl)
theorem cn_X4_forStatement_63 (fu : Nat) (rc : RC) (hrn : ∀ (i : Nat) (x y : Int32) (F : PF) (G : PG) (q : Int32 × PF × PG), rc i x y F G = some q → xn F ≤ xn q.2.1) {res : Int32 × PF × PG} (x1 : Int32) (x2 : Int32) (x3 : Int32) (F : PF) (G : PG) (hm : cb_X4_forStatement_63 fu rc x1 x2 x3 F G = some res) : xn F ≤ xn res.2.1 := by
  unfold cb_X4_forStatement_63 at hm
  by_cases c_1 : x3 = (0 : Int32)
  · have hm := (if_pos c_1).symm.trans hm
    exact (cn_X4_forStatement_83 fu rc hrn x1 x2 F G hm)
  · have hm := (if_neg c_1).symm.trans hm
    exact (cn_X4_forStatement_67 fu rc hrn x1 x2 F G hm)
theorem cw_X4_forStatement_63 (fu : Nat) (rc : RC) {dd : Nat} (hr : cH2 l v a rc dd) (hrn : ∀ (i : Nat) (x y : Int32) (F : PF) (G : PG) (q : Int32 × PF × PG), rc i x y F G = some q → xn F ≤ xn q.2.1) {res : Int32 × PF × PG} (C : cMC p R s m args c A v RX4 cX4_forStatement 8 (dd + 1 + 305) (60 * (dd + 1) + 18119) (xn res.2.1 - xn K0)) (hret : ∀ (b1 : Nat) (H1 : Heap) (locs1 : List Loc) (ls1 : Array Slot) (pc : Nat), cMW s A v a b1 K0 res.2.1 res.2.2 H1 locs1 → decode cX4_forStatement pc = .ok (.return_, 1) → W p l e R s m args below meth c H1 locs1 (xn res.2.1 - xn K0) (2 * (xn res.2.1 - xn K0)) Q (F0 m pc ls1 [])) (x1 : Int32) (x2 : Int32) (x3 : Int32) (F : PF) (G : PG) (hm : cb_X4_forStatement_63 fu rc x1 x2 x3 F G = some res) {b : Nat} {H : Heap} {locs : List Loc} (hw : cMW s A v a b K0 F G H locs) {ls : Array Slot} (hl : lv_has ls 8 [(0, .ref (a 204)), (1, .int x1), (2, .int x2), (3, .int x3)]) : W p l e R s m args below meth c H locs (xn F - xn K0) (2 * (xn F - xn K0)) Q (F0 m 63 ls []) := by
  have hx := C.1
  have hb := C.2.1
  unfold cb_X4_forStatement_63 at hm
  refine lv_iload_n hx hb dX4_forStatement_63 rfl (lv_at hl 3 rfl) ?_
  refine lv_if_eq (tgt := 83) hx hb dX4_forStatement_64 (by decide) (fun c_1 => ?_) (fun c_1 => ?_)
  · have hm := (if_pos c_1).symm.trans hm
    exact cw_X4_forStatement_83 fu rc hr hrn C hret x1 x2 F G hm hw (lv_sub hl [0, 1, 2] rfl)
  · have hm := (if_neg c_1).symm.trans hm
    exact cw_X4_forStatement_67 fu rc hr hrn C hret x1 x2 F G hm hw (lv_sub hl [0, 1, 2] rfl)
theorem cn_X4_forStatement_60 (fu : Nat) (rc : RC) (hrn : ∀ (i : Nat) (x y : Int32) (F : PF) (G : PG) (q : Int32 × PF × PG), rc i x y F G = some q → xn F ≤ xn q.2.1) {res : Int32 × PF × PG} (x1 : Int32) (x2 : Int32) (F : PF) (G : PG) (hm : cb_X4_forStatement_60 fu rc x1 x2 F G = some res) : xn F ≤ xn res.2.1 := by
  unfold cb_X4_forStatement_60 at hm
  exact (cn_X4_forStatement_83 fu rc hrn x1 x2 F G hm)
theorem cw_X4_forStatement_60 (fu : Nat) (rc : RC) {dd : Nat} (hr : cH2 l v a rc dd) (hrn : ∀ (i : Nat) (x y : Int32) (F : PF) (G : PG) (q : Int32 × PF × PG), rc i x y F G = some q → xn F ≤ xn q.2.1) {res : Int32 × PF × PG} (C : cMC p R s m args c A v RX4 cX4_forStatement 8 (dd + 1 + 305) (60 * (dd + 1) + 18119) (xn res.2.1 - xn K0)) (hret : ∀ (b1 : Nat) (H1 : Heap) (locs1 : List Loc) (ls1 : Array Slot) (pc : Nat), cMW s A v a b1 K0 res.2.1 res.2.2 H1 locs1 → decode cX4_forStatement pc = .ok (.return_, 1) → W p l e R s m args below meth c H1 locs1 (xn res.2.1 - xn K0) (2 * (xn res.2.1 - xn K0)) Q (F0 m pc ls1 [])) (x1 : Int32) (x2 : Int32) (F : PF) (G : PG) (hm : cb_X4_forStatement_60 fu rc x1 x2 F G = some res) {b : Nat} {H : Heap} {locs : List Loc} (hw : cMW s A v a b K0 F G H locs) {ls : Array Slot} (hl : lv_has ls 8 [(0, .ref (a 204)), (1, .int x1), (2, .int x2)]) : W p l e R s m args below meth c H locs (xn F - xn K0) (2 * (xn F - xn K0)) Q (F0 m 60 ls []) := by
  have hx := C.1
  have hb := C.2.1
  unfold cb_X4_forStatement_60 at hm
  refine lv_goto (tgt := 83) hx hb dX4_forStatement_60 (by decide) ?_
  exact cw_X4_forStatement_83 fu rc hr hrn C hret x1 x2 F G hm hw (lv_sub hl [0, 1, 2] rfl)
theorem cn_X4_forStatement_55 (fu : Nat) (rc : RC) (hrn : ∀ (i : Nat) (x y : Int32) (F : PF) (G : PG) (q : Int32 × PF × PG), rc i x y F G = some q → xn F ≤ xn q.2.1) {res : Int32 × PF × PG} (x1 : Int32) (x2 : Int32) (F : PF) (G : PG) (hm : cb_X4_forStatement_55 fu rc x1 x2 F G = some res) : xn F ≤ xn res.2.1 := by
  unfold cb_X4_forStatement_55 at hm
  obtain ⟨⟨r1, F1, G1⟩, hc, hm⟩ := bind_elim hm
  exact Nat.le_trans (cn_X4_localTold fu 1 F G _ hc) (cn_X4_forStatement_60 fu rc hrn x1 x2 F1 G1 hm)
theorem cw_X4_forStatement_55 (fu : Nat) (rc : RC) {dd : Nat} (hr : cH2 l v a rc dd) (hrn : ∀ (i : Nat) (x y : Int32) (F : PF) (G : PG) (q : Int32 × PF × PG), rc i x y F G = some q → xn F ≤ xn q.2.1) {res : Int32 × PF × PG} (C : cMC p R s m args c A v RX4 cX4_forStatement 8 (dd + 1 + 305) (60 * (dd + 1) + 18119) (xn res.2.1 - xn K0)) (hret : ∀ (b1 : Nat) (H1 : Heap) (locs1 : List Loc) (ls1 : Array Slot) (pc : Nat), cMW s A v a b1 K0 res.2.1 res.2.2 H1 locs1 → decode cX4_forStatement pc = .ok (.return_, 1) → W p l e R s m args below meth c H1 locs1 (xn res.2.1 - xn K0) (2 * (xn res.2.1 - xn K0)) Q (F0 m pc ls1 [])) (x1 : Int32) (x2 : Int32) (F : PF) (G : PG) (hm : cb_X4_forStatement_55 fu rc x1 x2 F G = some res) {b : Nat} {H : Heap} {locs : List Loc} (hw : cMW s A v a b K0 F G H locs) {ls : Array Slot} (hl : lv_has ls 8 [(0, .ref (a 204)), (1, .int x1), (2, .int x2)]) : W p l e R s m args below meth c H locs (xn F - xn K0) (2 * (xn F - xn K0)) Q (F0 m 55 ls []) := by
  have hx := C.1
  have hb := C.2.1
  unfold cb_X4_forStatement_55 at hm
  refine lv_aload_n hx hb dX4_forStatement_55 rfl (lv_at hl 0 rfl) ?_
  refine lv_iconst (v := 1) hx hb dX4_forStatement_56 (by decide) ?_
  obtain ⟨⟨r1, F1, G1⟩, hc, hm⟩ := bind_elim hm
  refine ccallV (n := 1) (As := [.int 1]) (rest := []) C hw (ck_X4_localTold l v a _ _ fu 1 F G r1 F1 G1 hc) (cn_X4_localTold fu 1 F G _ hc) (Nat.sub_le_sub_right (cn_X4_forStatement_60 fu rc hrn x1 x2 F1 G1 hm) _) (crecv_X4 C hw) cm_664 cm_665 cm_666 cm_244 cm_667 (by decide +kernel) rfl (by omega) (by omega) hl.1 rfl (Nat.le_of_ble_eq_true rfl) dX4_forStatement_57 (fun b H locs hw => ?_)
  exact cw_X4_forStatement_60 fu rc hr hrn C hret x1 x2 F1 G1 hm hw (lv_sub hl [0, 1, 2] rfl)
theorem cn_X4_forStatement_44 (fu : Nat) (rc : RC) (hrn : ∀ (i : Nat) (x y : Int32) (F : PF) (G : PG) (q : Int32 × PF × PG), rc i x y F G = some q → xn F ≤ xn q.2.1) {res : Int32 × PF × PG} (x1 : Int32) (x2 : Int32) (x3 : Int32) (F : PF) (G : PG) (hm : cb_X4_forStatement_44 fu rc x1 x2 x3 F G = some res) : xn F ≤ xn res.2.1 := by
  unfold cb_X4_forStatement_44 at hm
  by_cases c_1 : (F 11) = (4 : Int32)
  · have hm := (if_pos c_1).symm.trans hm
    exact (cn_X4_forStatement_55 fu rc hrn x1 x2 F G hm)
  · have hm := (if_neg c_1).symm.trans hm
    exact (cn_X4_forStatement_63 fu rc hrn x1 x2 x3 F G hm)
theorem cw_X4_forStatement_44 (fu : Nat) (rc : RC) {dd : Nat} (hr : cH2 l v a rc dd) (hrn : ∀ (i : Nat) (x y : Int32) (F : PF) (G : PG) (q : Int32 × PF × PG), rc i x y F G = some q → xn F ≤ xn q.2.1) {res : Int32 × PF × PG} (C : cMC p R s m args c A v RX4 cX4_forStatement 8 (dd + 1 + 305) (60 * (dd + 1) + 18119) (xn res.2.1 - xn K0)) (hret : ∀ (b1 : Nat) (H1 : Heap) (locs1 : List Loc) (ls1 : Array Slot) (pc : Nat), cMW s A v a b1 K0 res.2.1 res.2.2 H1 locs1 → decode cX4_forStatement pc = .ok (.return_, 1) → W p l e R s m args below meth c H1 locs1 (xn res.2.1 - xn K0) (2 * (xn res.2.1 - xn K0)) Q (F0 m pc ls1 [])) (x1 : Int32) (x2 : Int32) (x3 : Int32) (F : PF) (G : PG) (hm : cb_X4_forStatement_44 fu rc x1 x2 x3 F G = some res) {b : Nat} {H : Heap} {locs : List Loc} (hw : cMW s A v a b K0 F G H locs) {ls : Array Slot} (hl : lv_has ls 8 [(0, .ref (a 204)), (1, .int x1), (2, .int x2), (3, .int x3)]) : W p l e R s m args below meth c H locs (xn F - xn K0) (2 * (xn F - xn K0)) Q (F0 m 44 ls []) := by
  have hx := C.1
  have hb := C.2.1
  unfold cb_X4_forStatement_44 at hm
  refine lv_aload_n hx hb dX4_forStatement_44 rfl (lv_at hl 0 rfl) ?_
  refine cg_X4_9 C hw dX4_forStatement_45 ?_
  refine cg_X4_52 C hw dX4_forStatement_48 ?_
  refine lv_iconst (v := 4) hx hb dX4_forStatement_51 (by decide) ?_
  refine lv_icmp_ne (tgt := 63) hx hb dX4_forStatement_52 (by decide) (fun c_1 => ?_) (fun c_1 => ?_)
  · have hm := (if_neg c_1).symm.trans hm
    exact cw_X4_forStatement_63 fu rc hr hrn C hret x1 x2 x3 F G hm hw (lv_sub hl [0, 1, 2, 3] rfl)
  · have hm := (if_pos c_1).symm.trans hm
    exact cw_X4_forStatement_55 fu rc hr hrn C hret x1 x2 F G hm hw (lv_sub hl [0, 1, 2] rfl)
theorem cn_X4_forStatement_39 (fu : Nat) (rc : RC) (hrn : ∀ (i : Nat) (x y : Int32) (F : PF) (G : PG) (q : Int32 × PF × PG), rc i x y F G = some q → xn F ≤ xn q.2.1) {res : Int32 × PF × PG} (x1 : Int32) (x2 : Int32) (z0 : Int32) (F : PF) (G : PG) (hm : cb_X4_forStatement_39 fu rc x1 x2 z0 F G = some res) : xn F ≤ xn res.2.1 := by
  unfold cb_X4_forStatement_39 at hm
  by_cases c_1 : z0 = (0 : Int32)
  · have hm := (if_pos c_1).symm.trans hm
    exact (cn_X4_forStatement_63 fu rc hrn x1 x2 z0 F G hm)
  · have hm := (if_neg c_1).symm.trans hm
    exact (cn_X4_forStatement_44 fu rc hrn x1 x2 z0 F G hm)
theorem cw_X4_forStatement_39 (fu : Nat) (rc : RC) {dd : Nat} (hr : cH2 l v a rc dd) (hrn : ∀ (i : Nat) (x y : Int32) (F : PF) (G : PG) (q : Int32 × PF × PG), rc i x y F G = some q → xn F ≤ xn q.2.1) {res : Int32 × PF × PG} (C : cMC p R s m args c A v RX4 cX4_forStatement 8 (dd + 1 + 305) (60 * (dd + 1) + 18119) (xn res.2.1 - xn K0)) (hret : ∀ (b1 : Nat) (H1 : Heap) (locs1 : List Loc) (ls1 : Array Slot) (pc : Nat), cMW s A v a b1 K0 res.2.1 res.2.2 H1 locs1 → decode cX4_forStatement pc = .ok (.return_, 1) → W p l e R s m args below meth c H1 locs1 (xn res.2.1 - xn K0) (2 * (xn res.2.1 - xn K0)) Q (F0 m pc ls1 [])) (x1 : Int32) (x2 : Int32) (z0 : Int32) (F : PF) (G : PG) (hm : cb_X4_forStatement_39 fu rc x1 x2 z0 F G = some res) {b : Nat} {H : Heap} {locs : List Loc} (hw : cMW s A v a b K0 F G H locs) {ls : Array Slot} (hl : lv_has ls 8 [(0, .ref (a 204)), (1, .int x1), (2, .int x2)]) : W p l e R s m args below meth c H locs (xn F - xn K0) (2 * (xn F - xn K0)) Q (F0 m 39 ls [.int z0]) := by
  have hx := C.1
  have hb := C.2.1
  unfold cb_X4_forStatement_39 at hm
  refine lv_istore_n (lv' := [(3, .int z0), (0, .ref (a 204)), (1, .int x1), (2, .int x2)]) hx hb dX4_forStatement_39 rfl hl (by decide) rfl (fun ls hl => ?_)
  refine lv_iload_n hx hb dX4_forStatement_40 rfl (lv_at hl 0 rfl) ?_
  refine lv_if_eq (tgt := 63) hx hb dX4_forStatement_41 (by decide) (fun c_1 => ?_) (fun c_1 => ?_)
  · have hm := (if_pos c_1).symm.trans hm
    exact cw_X4_forStatement_63 fu rc hr hrn C hret x1 x2 z0 F G hm hw (lv_sub hl [1, 2, 3, 0] rfl)
  · have hm := (if_neg c_1).symm.trans hm
    exact cw_X4_forStatement_44 fu rc hr hrn C hret x1 x2 z0 F G hm hw (lv_sub hl [1, 2, 3, 0] rfl)
theorem cn_X4_forStatement_30 (fu : Nat) (rc : RC) (hrn : ∀ (i : Nat) (x y : Int32) (F : PF) (G : PG) (q : Int32 × PF × PG), rc i x y F G = some q → xn F ≤ xn q.2.1) {res : Int32 × PF × PG} (x1 : Int32) (x2 : Int32) (F : PF) (G : PG) (hm : cb_X4_forStatement_30 fu rc x1 x2 F G = some res) : xn F ≤ xn res.2.1 := by
  unfold cb_X4_forStatement_30 at hm
  obtain ⟨⟨r1, F1, G1⟩, hc, hm⟩ := bind_elim hm
  exact Nat.le_trans (cn_X2_opens fu 19 F G _ hc) (cn_X4_forStatement_39 fu rc hrn x1 x2 r1 F1 G1 hm)
theorem cw_X4_forStatement_30 (fu : Nat) (rc : RC) {dd : Nat} (hr : cH2 l v a rc dd) (hrn : ∀ (i : Nat) (x y : Int32) (F : PF) (G : PG) (q : Int32 × PF × PG), rc i x y F G = some q → xn F ≤ xn q.2.1) {res : Int32 × PF × PG} (C : cMC p R s m args c A v RX4 cX4_forStatement 8 (dd + 1 + 305) (60 * (dd + 1) + 18119) (xn res.2.1 - xn K0)) (hret : ∀ (b1 : Nat) (H1 : Heap) (locs1 : List Loc) (ls1 : Array Slot) (pc : Nat), cMW s A v a b1 K0 res.2.1 res.2.2 H1 locs1 → decode cX4_forStatement pc = .ok (.return_, 1) → W p l e R s m args below meth c H1 locs1 (xn res.2.1 - xn K0) (2 * (xn res.2.1 - xn K0)) Q (F0 m pc ls1 [])) (x1 : Int32) (x2 : Int32) (F : PF) (G : PG) (hm : cb_X4_forStatement_30 fu rc x1 x2 F G = some res) {b : Nat} {H : Heap} {locs : List Loc} (hw : cMW s A v a b K0 F G H locs) {ls : Array Slot} (hl : lv_has ls 8 [(0, .ref (a 204)), (1, .int x1), (2, .int x2)]) : W p l e R s m args below meth c H locs (xn F - xn K0) (2 * (xn F - xn K0)) Q (F0 m 30 ls []) := by
  have hx := C.1
  have hb := C.2.1
  unfold cb_X4_forStatement_30 at hm
  refine lv_aload_n hx hb dX4_forStatement_30 rfl (lv_at hl 0 rfl) ?_
  refine cg_X4_9 C hw dX4_forStatement_31 ?_
  refine lv_bipush (v := 19) hx hb dX4_forStatement_34 (by decide) ?_
  obtain ⟨⟨r1, F1, G1⟩, hc, hm⟩ := bind_elim hm
  refine ccallI (n := 1) (As := [.int 19]) (rest := []) C hw (ck_X2_opens l v a _ _ fu 19 F G r1 F1 G1 hc) (cn_X2_opens fu 19 F G _ hc) (Nat.sub_le_sub_right (cn_X4_forStatement_39 fu rc hrn x1 x2 r1 F1 G1 hm) _) (crecv_X2 C hw) cm_623 cm_363 cm_364 cm_307 cm_365 (by decide +kernel) rfl (by omega) (by omega) hl.1 rfl (Nat.le_of_ble_eq_true rfl) dX4_forStatement_36 (fun b H locs hw => ?_)
  exact cw_X4_forStatement_39 fu rc hr hrn C hret x1 x2 r1 F1 G1 hm hw (lv_sub hl [0, 1, 2] rfl)
theorem cn_X4_forStatement_13 (fu : Nat) (rc : RC) (hrn : ∀ (i : Nat) (x y : Int32) (F : PF) (G : PG) (q : Int32 × PF × PG), rc i x y F G = some q → xn F ≤ xn q.2.1) {res : Int32 × PF × PG} (F : PF) (G : PG) (hm : cb_X4_forStatement_13 fu rc F G = some res) : xn F ≤ xn res.2.1 := by
  unfold cb_X4_forStatement_13 at hm
  obtain ⟨⟨r1, F1, G1⟩, hc, hm⟩ := bind_elim hm
  exact Nat.le_trans (cn_X5_enter fu F G _ hc) (cn_X4_forStatement_30 fu rc hrn (F 30) (F 31) F1 G1 hm)
theorem cw_X4_forStatement_13 (fu : Nat) (rc : RC) {dd : Nat} (hr : cH2 l v a rc dd) (hrn : ∀ (i : Nat) (x y : Int32) (F : PF) (G : PG) (q : Int32 × PF × PG), rc i x y F G = some q → xn F ≤ xn q.2.1) {res : Int32 × PF × PG} (C : cMC p R s m args c A v RX4 cX4_forStatement 8 (dd + 1 + 305) (60 * (dd + 1) + 18119) (xn res.2.1 - xn K0)) (hret : ∀ (b1 : Nat) (H1 : Heap) (locs1 : List Loc) (ls1 : Array Slot) (pc : Nat), cMW s A v a b1 K0 res.2.1 res.2.2 H1 locs1 → decode cX4_forStatement pc = .ok (.return_, 1) → W p l e R s m args below meth c H1 locs1 (xn res.2.1 - xn K0) (2 * (xn res.2.1 - xn K0)) Q (F0 m pc ls1 [])) (F : PF) (G : PG) (hm : cb_X4_forStatement_13 fu rc F G = some res) {b : Nat} {H : Heap} {locs : List Loc} (hw : cMW s A v a b K0 F G H locs) {ls : Array Slot} (hl : lv_has ls 8 [(0, .ref (a 204))]) : W p l e R s m args below meth c H locs (xn F - xn K0) (2 * (xn F - xn K0)) Q (F0 m 13 ls []) := by
  have hx := C.1
  have hb := C.2.1
  unfold cb_X4_forStatement_13 at hm
  refine lv_aload_n hx hb dX4_forStatement_13 rfl (lv_at hl 0 rfl) ?_
  refine cg_X4_119 C hw dX4_forStatement_14 ?_
  refine lv_istore_n (lv' := [(1, .int (F 30)), (0, .ref (a 204))]) hx hb dX4_forStatement_17 rfl hl (by decide) rfl (fun ls hl => ?_)
  refine lv_aload_n hx hb dX4_forStatement_18 rfl (lv_at hl 1 rfl) ?_
  refine cg_X4_122 C hw dX4_forStatement_19 ?_
  refine lv_istore_n (lv' := [(2, .int (F 31)), (1, .int (F 30)), (0, .ref (a 204))]) hx hb dX4_forStatement_22 rfl hl (by decide) rfl (fun ls hl => ?_)
  refine lv_aload_n hx hb dX4_forStatement_23 rfl (lv_at hl 2 rfl) ?_
  refine cg_X4_15 C hw dX4_forStatement_24 ?_
  obtain ⟨⟨r1, F1, G1⟩, hc, hm⟩ := bind_elim hm
  refine ccallV (n := 0) (As := []) (rest := []) C hw (ck_X5_enter l v a _ _ fu F G r1 F1 G1 hc) (cn_X5_enter fu F G _ hc) (Nat.sub_le_sub_right (cn_X4_forStatement_30 fu rc hrn (F 30) (F 31) F1 G1 hm) _) (crecv_X5 C hw) cm_663 cm_616 cm_617 cm_266 cm_618 (by decide +kernel) rfl (by omega) (by omega) hl.1 rfl (Nat.le_of_ble_eq_true rfl) dX4_forStatement_27 (fun b H locs hw => ?_)
  exact cw_X4_forStatement_30 fu rc hr hrn C hret (F 30) (F 31) F1 G1 hm hw (lv_sub hl [2, 1, 0] rfl)
theorem cn_X4_forStatement_12 (fu : Nat) (rc : RC) (hrn : ∀ (i : Nat) (x y : Int32) (F : PF) (G : PG) (q : Int32 × PF × PG), rc i x y F G = some q → xn F ≤ xn q.2.1) {res : Int32 × PF × PG} (F : PF) (G : PG) (hm : cb_X4_forStatement_12 fu rc F G = some res) : xn F ≤ xn res.2.1 := by
  unfold cb_X4_forStatement_12 at hm
  obtain rfl := Option.some.inj hm
  exact Nat.le_refl _
theorem cw_X4_forStatement_12 (fu : Nat) (rc : RC) {dd : Nat} (hr : cH2 l v a rc dd) (hrn : ∀ (i : Nat) (x y : Int32) (F : PF) (G : PG) (q : Int32 × PF × PG), rc i x y F G = some q → xn F ≤ xn q.2.1) {res : Int32 × PF × PG} (C : cMC p R s m args c A v RX4 cX4_forStatement 8 (dd + 1 + 305) (60 * (dd + 1) + 18119) (xn res.2.1 - xn K0)) (hret : ∀ (b1 : Nat) (H1 : Heap) (locs1 : List Loc) (ls1 : Array Slot) (pc : Nat), cMW s A v a b1 K0 res.2.1 res.2.2 H1 locs1 → decode cX4_forStatement pc = .ok (.return_, 1) → W p l e R s m args below meth c H1 locs1 (xn res.2.1 - xn K0) (2 * (xn res.2.1 - xn K0)) Q (F0 m pc ls1 [])) (F : PF) (G : PG) (hm : cb_X4_forStatement_12 fu rc F G = some res) {b : Nat} {H : Heap} {locs : List Loc} (hw : cMW s A v a b K0 F G H locs) {ls : Array Slot} (hl : lv_has ls 8 []) : W p l e R s m args below meth c H locs (xn F - xn K0) (2 * (xn F - xn K0)) Q (F0 m 12 ls []) := by
  have hx := C.1
  have hb := C.2.1
  unfold cb_X4_forStatement_12 at hm
  obtain rfl := Option.some.inj hm
  exact hret _ _ _ _ _ hw dX4_forStatement_12
theorem cn_X4_forStatement_9 (fu : Nat) (rc : RC) (hrn : ∀ (i : Nat) (x y : Int32) (F : PF) (G : PG) (q : Int32 × PF × PG), rc i x y F G = some q → xn F ≤ xn q.2.1) {res : Int32 × PF × PG} (z0 : Int32) (F : PF) (G : PG) (hm : cb_X4_forStatement_9 fu rc z0 F G = some res) : xn F ≤ xn res.2.1 := by
  unfold cb_X4_forStatement_9 at hm
  by_cases c_1 : z0 = (0 : Int32)
  · have hm := (if_pos c_1).symm.trans hm
    exact (cn_X4_forStatement_12 fu rc hrn F G hm)
  · have hm := (if_neg c_1).symm.trans hm
    exact (cn_X4_forStatement_13 fu rc hrn F G hm)
theorem cw_X4_forStatement_9 (fu : Nat) (rc : RC) {dd : Nat} (hr : cH2 l v a rc dd) (hrn : ∀ (i : Nat) (x y : Int32) (F : PF) (G : PG) (q : Int32 × PF × PG), rc i x y F G = some q → xn F ≤ xn q.2.1) {res : Int32 × PF × PG} (C : cMC p R s m args c A v RX4 cX4_forStatement 8 (dd + 1 + 305) (60 * (dd + 1) + 18119) (xn res.2.1 - xn K0)) (hret : ∀ (b1 : Nat) (H1 : Heap) (locs1 : List Loc) (ls1 : Array Slot) (pc : Nat), cMW s A v a b1 K0 res.2.1 res.2.2 H1 locs1 → decode cX4_forStatement pc = .ok (.return_, 1) → W p l e R s m args below meth c H1 locs1 (xn res.2.1 - xn K0) (2 * (xn res.2.1 - xn K0)) Q (F0 m pc ls1 [])) (z0 : Int32) (F : PF) (G : PG) (hm : cb_X4_forStatement_9 fu rc z0 F G = some res) {b : Nat} {H : Heap} {locs : List Loc} (hw : cMW s A v a b K0 F G H locs) {ls : Array Slot} (hl : lv_has ls 8 [(0, .ref (a 204))]) : W p l e R s m args below meth c H locs (xn F - xn K0) (2 * (xn F - xn K0)) Q (F0 m 9 ls [.int z0]) := by
  have hx := C.1
  have hb := C.2.1
  unfold cb_X4_forStatement_9 at hm
  refine lv_if_ne (tgt := 13) hx hb dX4_forStatement_9 (by decide) (fun c_1 => ?_) (fun c_1 => ?_)
  · have hm := (if_neg c_1).symm.trans hm
    exact cw_X4_forStatement_13 fu rc hr hrn C hret F G hm hw (lv_sub hl [0] rfl)
  · have hm := (if_pos c_1).symm.trans hm
    exact cw_X4_forStatement_12 fu rc hr hrn C hret F G hm hw (lv_sub hl [] rfl)
theorem cn_X4_forStatement_0 (fu : Nat) (rc : RC) (hrn : ∀ (i : Nat) (x y : Int32) (F : PF) (G : PG) (q : Int32 × PF × PG), rc i x y F G = some q → xn F ≤ xn q.2.1) {res : Int32 × PF × PG} (F : PF) (G : PG) (hm : cb_X4_forStatement_0 fu rc F G = some res) : xn F ≤ xn res.2.1 := by
  unfold cb_X4_forStatement_0 at hm
  obtain ⟨⟨r1, F1, G1⟩, hc, hm⟩ := bind_elim hm
  exact Nat.le_trans (cn_X2_opens fu 12 F G _ hc) (cn_X4_forStatement_9 fu rc hrn r1 F1 G1 hm)
theorem cw_X4_forStatement_0 (fu : Nat) (rc : RC) {dd : Nat} (hr : cH2 l v a rc dd) (hrn : ∀ (i : Nat) (x y : Int32) (F : PF) (G : PG) (q : Int32 × PF × PG), rc i x y F G = some q → xn F ≤ xn q.2.1) {res : Int32 × PF × PG} (C : cMC p R s m args c A v RX4 cX4_forStatement 8 (dd + 1 + 305) (60 * (dd + 1) + 18119) (xn res.2.1 - xn K0)) (hret : ∀ (b1 : Nat) (H1 : Heap) (locs1 : List Loc) (ls1 : Array Slot) (pc : Nat), cMW s A v a b1 K0 res.2.1 res.2.2 H1 locs1 → decode cX4_forStatement pc = .ok (.return_, 1) → W p l e R s m args below meth c H1 locs1 (xn res.2.1 - xn K0) (2 * (xn res.2.1 - xn K0)) Q (F0 m pc ls1 [])) (F : PF) (G : PG) (hm : cb_X4_forStatement_0 fu rc F G = some res) {b : Nat} {H : Heap} {locs : List Loc} (hw : cMW s A v a b K0 F G H locs) {ls : Array Slot} (hl : lv_has ls 8 [(0, .ref (a 204))]) : W p l e R s m args below meth c H locs (xn F - xn K0) (2 * (xn F - xn K0)) Q (F0 m 0 ls []) := by
  have hx := C.1
  have hb := C.2.1
  unfold cb_X4_forStatement_0 at hm
  refine lv_aload_n hx hb dX4_forStatement_0 rfl (lv_at hl 0 rfl) ?_
  refine cg_X4_9 C hw dX4_forStatement_1 ?_
  refine lv_bipush (v := 12) hx hb dX4_forStatement_4 (by decide) ?_
  obtain ⟨⟨r1, F1, G1⟩, hc, hm⟩ := bind_elim hm
  refine ccallI (n := 1) (As := [.int 12]) (rest := []) C hw (ck_X2_opens l v a _ _ fu 12 F G r1 F1 G1 hc) (cn_X2_opens fu 12 F G _ hc) (Nat.sub_le_sub_right (cn_X4_forStatement_9 fu rc hrn r1 F1 G1 hm) _) (crecv_X2 C hw) cm_623 cm_363 cm_364 cm_307 cm_365 (by decide +kernel) rfl (by omega) (by omega) hl.1 rfl (Nat.le_of_ble_eq_true rfl) dX4_forStatement_6 (fun b H locs hw => ?_)
  exact cw_X4_forStatement_9 fu rc hr hrn C hret r1 F1 G1 hm hw (lv_sub hl [0] rfl)
theorem cm_X4_forStatement (fu : Nat) (rc : RC) (hrn : ∀ (i : Nat) (x y : Int32) (F : PF) (G : PG) (q : Int32 × PF × PG), rc i x y F G = some q → xn F ≤ xn q.2.1) (F : PF) (G : PG) (q : Int32 × PF × PG) (hm : ch_X4_forStatement fu rc F G = some q) : xn F ≤ xn q.2.1 := cn_X4_forStatement_0 fu rc hrn F G hm
theorem cq_X4_forStatement (l : Launch) (v : EV) (a : Nat → Nat) (b sz : Nat) (fu : Nat) (rc : RC) {dd : Nat} (hr : cH2 l v a rc dd) (hrn : ∀ (i : Nat) (x y : Int32) (F : PF) (G : PG) (q : Int32 × PF × PG), rc i x y F G = some q → xn F ≤ xn q.2.1) (F : PF) (G : PG) (r : Int32) (F1 : PF) (G1 : PG) (hm : ch_X4_forStatement fu rc F G = some (r, F1, G1)) : cMV l yX4_forStatement cX4_forStatement 8 (dd + 1 + 305) (60 * (dd + 1) + 18119) v a b sz [.ref (a 204)] F G F1 G1 := cMV.of (by decide) (Nat.le_of_ble_eq_true rfl) (fun p e R s m args below meth c Q A H locs ls C hw hl hret => cw_X4_forStatement_0 fu rc hr hrn (res := (r, F1, G1)) C hret F G hm hw hl)
def cb_X4_ifStatement_121 (fu : Nat) (rc : RC) (F : PF) (G : PG) : PR := some (0, F, G)
def cb_X4_ifStatement_114 (fu : Nat) (rc : RC) (F : PF) (G : PG) : PR := (cf_X2_closes fu F G).bind (fun q => cb_X4_ifStatement_121 fu rc q.2.1 q.2.2)
def cb_X4_ifStatement_99 (fu : Nat) (rc : RC) (x1 : Int32) (F : PF) (G : PG) : PR := (cf_X1_aim fu x1 (F 6) F G).bind (fun q => cb_X4_ifStatement_114 fu rc q.2.1 q.2.2)
def cb_X4_ifStatement_96 (fu : Nat) (rc : RC) (F : PF) (G : PG) : PR := cb_X4_ifStatement_114 fu rc F G
def cb_X4_ifStatement_81 (fu : Nat) (rc : RC) (x2 : Int32) (F : PF) (G : PG) : PR := (cf_X1_aim fu x2 (F 6) F G).bind (fun q => cb_X4_ifStatement_96 fu rc q.2.1 q.2.2)
def cb_X4_ifStatement_77 (fu : Nat) (rc : RC) (x2 : Int32) (F : PF) (G : PG) : PR := (rc 4 0 0 F G).bind (fun q => cb_X4_ifStatement_81 fu rc x2 q.2.1 q.2.2)
def cb_X4_ifStatement_61 (fu : Nat) (rc : RC) (x1 : Int32) (z0 : Int32) (F : PF) (G : PG) : PR := (cf_X1_aim fu x1 (F 6) F G).bind (fun q => cb_X4_ifStatement_77 fu rc z0 q.2.1 q.2.2)
def cb_X4_ifStatement_51 (fu : Nat) (rc : RC) (x1 : Int32) (F : PF) (G : PG) : PR := (cf_X1_addJump fu 84 (-1) F G).bind (fun q => cb_X4_ifStatement_61 fu rc x1 q.1 q.2.1 q.2.2)
def cb_X4_ifStatement_44 (fu : Nat) (rc : RC) (x1 : Int32) (F : PF) (G : PG) : PR := (cf_X2_next fu F G).bind (fun q => cb_X4_ifStatement_51 fu rc x1 q.2.1 q.2.2)
def cb_X4_ifStatement_32 (fu : Nat) (rc : RC) (x1 : Int32) (F : PF) (G : PG) : PR := if (F 11) = (9 : Int32) then cb_X4_ifStatement_44 fu rc x1 F G else cb_X4_ifStatement_99 fu rc x1 F G
def cb_X4_ifStatement_27 (fu : Nat) (rc : RC) (z0 : Int32) (F : PF) (G : PG) : PR := (rc 4 0 0 F G).bind (fun q => cb_X4_ifStatement_32 fu rc z0 q.2.1 q.2.2)
def cb_X4_ifStatement_17 (fu : Nat) (rc : RC) (F : PF) (G : PG) : PR := (cf_X1_addJump fu 86 (-1) F G).bind (fun q => cb_X4_ifStatement_27 fu rc q.1 q.2.1 q.2.2)
def cb_X4_ifStatement_13 (fu : Nat) (rc : RC) (F : PF) (G : PG) : PR := (cf_X4_condition fu F G).bind (fun q => cb_X4_ifStatement_17 fu rc q.2.1 q.2.2)
def cb_X4_ifStatement_12 (fu : Nat) (rc : RC) (F : PF) (G : PG) : PR := some (0, F, G)
def cb_X4_ifStatement_9 (fu : Nat) (rc : RC) (z0 : Int32) (F : PF) (G : PG) : PR := if z0 = (0 : Int32) then cb_X4_ifStatement_12 fu rc F G else cb_X4_ifStatement_13 fu rc F G
def cb_X4_ifStatement_0 (fu : Nat) (rc : RC) (F : PF) (G : PG) : PR := (cf_X2_opens fu 8 F G).bind (fun q => cb_X4_ifStatement_9 fu rc q.1 q.2.1 q.2.2)
def ch_X4_ifStatement (fu : Nat) (rc : RC) (F : PF) (G : PG) : PR := cb_X4_ifStatement_0 fu rc F G
theorem cn_X4_ifStatement_121 (fu : Nat) (rc : RC) (hrn : ∀ (i : Nat) (x y : Int32) (F : PF) (G : PG) (q : Int32 × PF × PG), rc i x y F G = some q → xn F ≤ xn q.2.1) {res : Int32 × PF × PG} (F : PF) (G : PG) (hm : cb_X4_ifStatement_121 fu rc F G = some res) : xn F ≤ xn res.2.1 := by
  unfold cb_X4_ifStatement_121 at hm
  obtain rfl := Option.some.inj hm
  exact Nat.le_refl _
theorem cw_X4_ifStatement_121 (fu : Nat) (rc : RC) {dd : Nat} (hr : cH2 l v a rc dd) (hrn : ∀ (i : Nat) (x y : Int32) (F : PF) (G : PG) (q : Int32 × PF × PG), rc i x y F G = some q → xn F ≤ xn q.2.1) {res : Int32 × PF × PG} (C : cMC p R s m args c A v RX4 cX4_ifStatement 3 (dd + 1 + 305) (60 * (dd + 1) + 18119) (xn res.2.1 - xn K0)) (hret : ∀ (b1 : Nat) (H1 : Heap) (locs1 : List Loc) (ls1 : Array Slot) (pc : Nat), cMW s A v a b1 K0 res.2.1 res.2.2 H1 locs1 → decode cX4_ifStatement pc = .ok (.return_, 1) → W p l e R s m args below meth c H1 locs1 (xn res.2.1 - xn K0) (2 * (xn res.2.1 - xn K0)) Q (F0 m pc ls1 [])) (F : PF) (G : PG) (hm : cb_X4_ifStatement_121 fu rc F G = some res) {b : Nat} {H : Heap} {locs : List Loc} (hw : cMW s A v a b K0 F G H locs) {ls : Array Slot} (hl : lv_has ls 3 []) : W p l e R s m args below meth c H locs (xn F - xn K0) (2 * (xn F - xn K0)) Q (F0 m 121 ls []) := by
  have hx := C.1
  have hb := C.2.1
  unfold cb_X4_ifStatement_121 at hm
  obtain rfl := Option.some.inj hm
  exact hret _ _ _ _ _ hw dX4_ifStatement_121
theorem cn_X4_ifStatement_114 (fu : Nat) (rc : RC) (hrn : ∀ (i : Nat) (x y : Int32) (F : PF) (G : PG) (q : Int32 × PF × PG), rc i x y F G = some q → xn F ≤ xn q.2.1) {res : Int32 × PF × PG} (F : PF) (G : PG) (hm : cb_X4_ifStatement_114 fu rc F G = some res) : xn F ≤ xn res.2.1 := by
  unfold cb_X4_ifStatement_114 at hm
  obtain ⟨⟨r1, F1, G1⟩, hc, hm⟩ := bind_elim hm
  exact Nat.le_trans (cn_X2_closes fu F G _ hc) (cn_X4_ifStatement_121 fu rc hrn F1 G1 hm)
theorem cw_X4_ifStatement_114 (fu : Nat) (rc : RC) {dd : Nat} (hr : cH2 l v a rc dd) (hrn : ∀ (i : Nat) (x y : Int32) (F : PF) (G : PG) (q : Int32 × PF × PG), rc i x y F G = some q → xn F ≤ xn q.2.1) {res : Int32 × PF × PG} (C : cMC p R s m args c A v RX4 cX4_ifStatement 3 (dd + 1 + 305) (60 * (dd + 1) + 18119) (xn res.2.1 - xn K0)) (hret : ∀ (b1 : Nat) (H1 : Heap) (locs1 : List Loc) (ls1 : Array Slot) (pc : Nat), cMW s A v a b1 K0 res.2.1 res.2.2 H1 locs1 → decode cX4_ifStatement pc = .ok (.return_, 1) → W p l e R s m args below meth c H1 locs1 (xn res.2.1 - xn K0) (2 * (xn res.2.1 - xn K0)) Q (F0 m pc ls1 [])) (F : PF) (G : PG) (hm : cb_X4_ifStatement_114 fu rc F G = some res) {b : Nat} {H : Heap} {locs : List Loc} (hw : cMW s A v a b K0 F G H locs) {ls : Array Slot} (hl : lv_has ls 3 [(0, .ref (a 204))]) : W p l e R s m args below meth c H locs (xn F - xn K0) (2 * (xn F - xn K0)) Q (F0 m 114 ls []) := by
  have hx := C.1
  have hb := C.2.1
  unfold cb_X4_ifStatement_114 at hm
  refine lv_aload_n hx hb dX4_ifStatement_114 rfl (lv_at hl 0 rfl) ?_
  refine cg_X4_9 C hw dX4_ifStatement_115 ?_
  obtain ⟨⟨r1, F1, G1⟩, hc, hm⟩ := bind_elim hm
  refine ccallV (n := 0) (As := []) (rest := []) C hw (ck_X2_closes l v a _ _ fu F G r1 F1 G1 hc) (cn_X2_closes fu F G _ hc) (Nat.sub_le_sub_right (cn_X4_ifStatement_121 fu rc hrn F1 G1 hm) _) (crecv_X2 C hw) cm_661 cm_380 cm_381 cm_307 cm_382 (by decide +kernel) rfl (by omega) (by omega) hl.1 rfl (Nat.le_of_ble_eq_true rfl) dX4_ifStatement_118 (fun b H locs hw => ?_)
  exact cw_X4_ifStatement_121 fu rc hr hrn C hret F1 G1 hm hw (lv_sub hl [] rfl)
theorem cn_X4_ifStatement_99 (fu : Nat) (rc : RC) (hrn : ∀ (i : Nat) (x y : Int32) (F : PF) (G : PG) (q : Int32 × PF × PG), rc i x y F G = some q → xn F ≤ xn q.2.1) {res : Int32 × PF × PG} (x1 : Int32) (F : PF) (G : PG) (hm : cb_X4_ifStatement_99 fu rc x1 F G = some res) : xn F ≤ xn res.2.1 := by
  unfold cb_X4_ifStatement_99 at hm
  obtain ⟨⟨r1, F1, G1⟩, hc, hm⟩ := bind_elim hm
  exact Nat.le_trans (cn_X1_aim fu x1 (F 6) F G _ hc) (cn_X4_ifStatement_114 fu rc hrn F1 G1 hm)
theorem cw_X4_ifStatement_99 (fu : Nat) (rc : RC) {dd : Nat} (hr : cH2 l v a rc dd) (hrn : ∀ (i : Nat) (x y : Int32) (F : PF) (G : PG) (q : Int32 × PF × PG), rc i x y F G = some q → xn F ≤ xn q.2.1) {res : Int32 × PF × PG} (C : cMC p R s m args c A v RX4 cX4_ifStatement 3 (dd + 1 + 305) (60 * (dd + 1) + 18119) (xn res.2.1 - xn K0)) (hret : ∀ (b1 : Nat) (H1 : Heap) (locs1 : List Loc) (ls1 : Array Slot) (pc : Nat), cMW s A v a b1 K0 res.2.1 res.2.2 H1 locs1 → decode cX4_ifStatement pc = .ok (.return_, 1) → W p l e R s m args below meth c H1 locs1 (xn res.2.1 - xn K0) (2 * (xn res.2.1 - xn K0)) Q (F0 m pc ls1 [])) (x1 : Int32) (F : PF) (G : PG) (hm : cb_X4_ifStatement_99 fu rc x1 F G = some res) {b : Nat} {H : Heap} {locs : List Loc} (hw : cMW s A v a b K0 F G H locs) {ls : Array Slot} (hl : lv_has ls 3 [(0, .ref (a 204)), (1, .int x1)]) : W p l e R s m args below meth c H locs (xn F - xn K0) (2 * (xn F - xn K0)) Q (F0 m 99 ls []) := by
  have hx := C.1
  have hb := C.2.1
  unfold cb_X4_ifStatement_99 at hm
  refine lv_aload_n hx hb dX4_ifStatement_99 rfl (lv_at hl 0 rfl) ?_
  refine cg_X4_19 C hw dX4_ifStatement_100 ?_
  refine lv_iload_n hx hb dX4_ifStatement_103 rfl (lv_at hl 1 rfl) ?_
  refine lv_aload_n hx hb dX4_ifStatement_104 rfl (lv_at hl 0 rfl) ?_
  refine cg_X4_19 C hw dX4_ifStatement_105 ?_
  refine cg_X4_43 C hw dX4_ifStatement_108 ?_
  obtain ⟨⟨r1, F1, G1⟩, hc, hm⟩ := bind_elim hm
  refine ccallV (n := 2) (As := [.int x1, .int (F 6)]) (rest := []) C hw (ck_X1_aim l v a _ _ fu x1 (F 6) F G r1 F1 G1 hc) (cn_X1_aim fu x1 (F 6) F G _ hc) (Nat.sub_le_sub_right (cn_X4_ifStatement_114 fu rc hrn F1 G1 hm) _) (crecv_X1 C hw) cm_654 cm_376 cm_377 cm_369 cm_378 (by decide +kernel) rfl (by omega) (by omega) hl.1 rfl (Nat.le_of_ble_eq_true rfl) dX4_ifStatement_111 (fun b H locs hw => ?_)
  exact cw_X4_ifStatement_114 fu rc hr hrn C hret F1 G1 hm hw (lv_sub hl [0] rfl)
theorem cn_X4_ifStatement_96 (fu : Nat) (rc : RC) (hrn : ∀ (i : Nat) (x y : Int32) (F : PF) (G : PG) (q : Int32 × PF × PG), rc i x y F G = some q → xn F ≤ xn q.2.1) {res : Int32 × PF × PG} (F : PF) (G : PG) (hm : cb_X4_ifStatement_96 fu rc F G = some res) : xn F ≤ xn res.2.1 := by
  unfold cb_X4_ifStatement_96 at hm
  exact (cn_X4_ifStatement_114 fu rc hrn F G hm)
theorem cw_X4_ifStatement_96 (fu : Nat) (rc : RC) {dd : Nat} (hr : cH2 l v a rc dd) (hrn : ∀ (i : Nat) (x y : Int32) (F : PF) (G : PG) (q : Int32 × PF × PG), rc i x y F G = some q → xn F ≤ xn q.2.1) {res : Int32 × PF × PG} (C : cMC p R s m args c A v RX4 cX4_ifStatement 3 (dd + 1 + 305) (60 * (dd + 1) + 18119) (xn res.2.1 - xn K0)) (hret : ∀ (b1 : Nat) (H1 : Heap) (locs1 : List Loc) (ls1 : Array Slot) (pc : Nat), cMW s A v a b1 K0 res.2.1 res.2.2 H1 locs1 → decode cX4_ifStatement pc = .ok (.return_, 1) → W p l e R s m args below meth c H1 locs1 (xn res.2.1 - xn K0) (2 * (xn res.2.1 - xn K0)) Q (F0 m pc ls1 [])) (F : PF) (G : PG) (hm : cb_X4_ifStatement_96 fu rc F G = some res) {b : Nat} {H : Heap} {locs : List Loc} (hw : cMW s A v a b K0 F G H locs) {ls : Array Slot} (hl : lv_has ls 3 [(0, .ref (a 204))]) : W p l e R s m args below meth c H locs (xn F - xn K0) (2 * (xn F - xn K0)) Q (F0 m 96 ls []) := by
  have hx := C.1
  have hb := C.2.1
  unfold cb_X4_ifStatement_96 at hm
  refine lv_goto (tgt := 114) hx hb dX4_ifStatement_96 (by decide) ?_
  exact cw_X4_ifStatement_114 fu rc hr hrn C hret F G hm hw (lv_sub hl [0] rfl)
theorem cn_X4_ifStatement_81 (fu : Nat) (rc : RC) (hrn : ∀ (i : Nat) (x y : Int32) (F : PF) (G : PG) (q : Int32 × PF × PG), rc i x y F G = some q → xn F ≤ xn q.2.1) {res : Int32 × PF × PG} (x2 : Int32) (F : PF) (G : PG) (hm : cb_X4_ifStatement_81 fu rc x2 F G = some res) : xn F ≤ xn res.2.1 := by
  unfold cb_X4_ifStatement_81 at hm
  obtain ⟨⟨r1, F1, G1⟩, hc, hm⟩ := bind_elim hm
  exact Nat.le_trans (cn_X1_aim fu x2 (F 6) F G _ hc) (cn_X4_ifStatement_96 fu rc hrn F1 G1 hm)
theorem cw_X4_ifStatement_81 (fu : Nat) (rc : RC) {dd : Nat} (hr : cH2 l v a rc dd) (hrn : ∀ (i : Nat) (x y : Int32) (F : PF) (G : PG) (q : Int32 × PF × PG), rc i x y F G = some q → xn F ≤ xn q.2.1) {res : Int32 × PF × PG} (C : cMC p R s m args c A v RX4 cX4_ifStatement 3 (dd + 1 + 305) (60 * (dd + 1) + 18119) (xn res.2.1 - xn K0)) (hret : ∀ (b1 : Nat) (H1 : Heap) (locs1 : List Loc) (ls1 : Array Slot) (pc : Nat), cMW s A v a b1 K0 res.2.1 res.2.2 H1 locs1 → decode cX4_ifStatement pc = .ok (.return_, 1) → W p l e R s m args below meth c H1 locs1 (xn res.2.1 - xn K0) (2 * (xn res.2.1 - xn K0)) Q (F0 m pc ls1 [])) (x2 : Int32) (F : PF) (G : PG) (hm : cb_X4_ifStatement_81 fu rc x2 F G = some res) {b : Nat} {H : Heap} {locs : List Loc} (hw : cMW s A v a b K0 F G H locs) {ls : Array Slot} (hl : lv_has ls 3 [(0, .ref (a 204)), (2, .int x2)]) : W p l e R s m args below meth c H locs (xn F - xn K0) (2 * (xn F - xn K0)) Q (F0 m 81 ls []) := by
  have hx := C.1
  have hb := C.2.1
  unfold cb_X4_ifStatement_81 at hm
  refine lv_aload_n hx hb dX4_ifStatement_81 rfl (lv_at hl 0 rfl) ?_
  refine cg_X4_19 C hw dX4_ifStatement_82 ?_
  refine lv_iload_n hx hb dX4_ifStatement_85 rfl (lv_at hl 1 rfl) ?_
  refine lv_aload_n hx hb dX4_ifStatement_86 rfl (lv_at hl 0 rfl) ?_
  refine cg_X4_19 C hw dX4_ifStatement_87 ?_
  refine cg_X4_43 C hw dX4_ifStatement_90 ?_
  obtain ⟨⟨r1, F1, G1⟩, hc, hm⟩ := bind_elim hm
  refine ccallV (n := 2) (As := [.int x2, .int (F 6)]) (rest := []) C hw (ck_X1_aim l v a _ _ fu x2 (F 6) F G r1 F1 G1 hc) (cn_X1_aim fu x2 (F 6) F G _ hc) (Nat.sub_le_sub_right (cn_X4_ifStatement_96 fu rc hrn F1 G1 hm) _) (crecv_X1 C hw) cm_654 cm_376 cm_377 cm_369 cm_378 (by decide +kernel) rfl (by omega) (by omega) hl.1 rfl (Nat.le_of_ble_eq_true rfl) dX4_ifStatement_93 (fun b H locs hw => ?_)
  exact cw_X4_ifStatement_96 fu rc hr hrn C hret F1 G1 hm hw (lv_sub hl [0] rfl)
theorem cn_X4_ifStatement_77 (fu : Nat) (rc : RC) (hrn : ∀ (i : Nat) (x y : Int32) (F : PF) (G : PG) (q : Int32 × PF × PG), rc i x y F G = some q → xn F ≤ xn q.2.1) {res : Int32 × PF × PG} (x2 : Int32) (F : PF) (G : PG) (hm : cb_X4_ifStatement_77 fu rc x2 F G = some res) : xn F ≤ xn res.2.1 := by
  unfold cb_X4_ifStatement_77 at hm
  obtain ⟨⟨r1, F1, G1⟩, hc, hm⟩ := bind_elim hm
  exact Nat.le_trans (hrn _ _ _ _ _ _ hc) (cn_X4_ifStatement_81 fu rc hrn x2 F1 G1 hm)
theorem cw_X4_ifStatement_77 (fu : Nat) (rc : RC) {dd : Nat} (hr : cH2 l v a rc dd) (hrn : ∀ (i : Nat) (x y : Int32) (F : PF) (G : PG) (q : Int32 × PF × PG), rc i x y F G = some q → xn F ≤ xn q.2.1) {res : Int32 × PF × PG} (C : cMC p R s m args c A v RX4 cX4_ifStatement 3 (dd + 1 + 305) (60 * (dd + 1) + 18119) (xn res.2.1 - xn K0)) (hret : ∀ (b1 : Nat) (H1 : Heap) (locs1 : List Loc) (ls1 : Array Slot) (pc : Nat), cMW s A v a b1 K0 res.2.1 res.2.2 H1 locs1 → decode cX4_ifStatement pc = .ok (.return_, 1) → W p l e R s m args below meth c H1 locs1 (xn res.2.1 - xn K0) (2 * (xn res.2.1 - xn K0)) Q (F0 m pc ls1 [])) (x2 : Int32) (F : PF) (G : PG) (hm : cb_X4_ifStatement_77 fu rc x2 F G = some res) {b : Nat} {H : Heap} {locs : List Loc} (hw : cMW s A v a b K0 F G H locs) {ls : Array Slot} (hl : lv_has ls 3 [(0, .ref (a 204)), (2, .int x2)]) : W p l e R s m args below meth c H locs (xn F - xn K0) (2 * (xn F - xn K0)) Q (F0 m 77 ls []) := by
  have hx := C.1
  have hb := C.2.1
  unfold cb_X4_ifStatement_77 at hm
  refine lv_aload_n hx hb dX4_ifStatement_77 rfl (lv_at hl 0 rfl) ?_
  obtain ⟨⟨r1, F1, G1⟩, hc, hm⟩ := bind_elim hm
  refine ccallV (n := 0) (As := []) (rest := []) C hw (hr.2.2.2.2.1 _ _ F G r1 F1 G1 hc) (hrn _ _ _ _ _ _ hc) (Nat.sub_le_sub_right (cn_X4_ifStatement_81 fu rc hrn x2 F1 G1 hm) _) (crecv_X4 C hw) cm_724 cm_725 cm_726 cm_244 cm_727 (by decide +kernel) rfl (by omega) (by omega) hl.1 rfl (Nat.le_of_ble_eq_true rfl) dX4_ifStatement_78 (fun b H locs hw => ?_)
  exact cw_X4_ifStatement_81 fu rc hr hrn C hret x2 F1 G1 hm hw (lv_sub hl [0, 1] rfl)
theorem cn_X4_ifStatement_61 (fu : Nat) (rc : RC) (hrn : ∀ (i : Nat) (x y : Int32) (F : PF) (G : PG) (q : Int32 × PF × PG), rc i x y F G = some q → xn F ≤ xn q.2.1) {res : Int32 × PF × PG} (x1 : Int32) (z0 : Int32) (F : PF) (G : PG) (hm : cb_X4_ifStatement_61 fu rc x1 z0 F G = some res) : xn F ≤ xn res.2.1 := by
  unfold cb_X4_ifStatement_61 at hm
  obtain ⟨⟨r1, F1, G1⟩, hc, hm⟩ := bind_elim hm
  exact Nat.le_trans (cn_X1_aim fu x1 (F 6) F G _ hc) (cn_X4_ifStatement_77 fu rc hrn z0 F1 G1 hm)
theorem cw_X4_ifStatement_61 (fu : Nat) (rc : RC) {dd : Nat} (hr : cH2 l v a rc dd) (hrn : ∀ (i : Nat) (x y : Int32) (F : PF) (G : PG) (q : Int32 × PF × PG), rc i x y F G = some q → xn F ≤ xn q.2.1) {res : Int32 × PF × PG} (C : cMC p R s m args c A v RX4 cX4_ifStatement 3 (dd + 1 + 305) (60 * (dd + 1) + 18119) (xn res.2.1 - xn K0)) (hret : ∀ (b1 : Nat) (H1 : Heap) (locs1 : List Loc) (ls1 : Array Slot) (pc : Nat), cMW s A v a b1 K0 res.2.1 res.2.2 H1 locs1 → decode cX4_ifStatement pc = .ok (.return_, 1) → W p l e R s m args below meth c H1 locs1 (xn res.2.1 - xn K0) (2 * (xn res.2.1 - xn K0)) Q (F0 m pc ls1 [])) (x1 : Int32) (z0 : Int32) (F : PF) (G : PG) (hm : cb_X4_ifStatement_61 fu rc x1 z0 F G = some res) {b : Nat} {H : Heap} {locs : List Loc} (hw : cMW s A v a b K0 F G H locs) {ls : Array Slot} (hl : lv_has ls 3 [(0, .ref (a 204)), (1, .int x1)]) : W p l e R s m args below meth c H locs (xn F - xn K0) (2 * (xn F - xn K0)) Q (F0 m 61 ls [.int z0]) := by
  have hx := C.1
  have hb := C.2.1
  unfold cb_X4_ifStatement_61 at hm
  refine lv_istore_n (lv' := [(2, .int z0), (0, .ref (a 204)), (1, .int x1)]) hx hb dX4_ifStatement_61 rfl hl (by decide) rfl (fun ls hl => ?_)
  refine lv_aload_n hx hb dX4_ifStatement_62 rfl (lv_at hl 1 rfl) ?_
  refine cg_X4_19 C hw dX4_ifStatement_63 ?_
  refine lv_iload_n hx hb dX4_ifStatement_66 rfl (lv_at hl 2 rfl) ?_
  refine lv_aload_n hx hb dX4_ifStatement_67 rfl (lv_at hl 1 rfl) ?_
  refine cg_X4_19 C hw dX4_ifStatement_68 ?_
  refine cg_X4_43 C hw dX4_ifStatement_71 ?_
  obtain ⟨⟨r1, F1, G1⟩, hc, hm⟩ := bind_elim hm
  refine ccallV (n := 2) (As := [.int x1, .int (F 6)]) (rest := []) C hw (ck_X1_aim l v a _ _ fu x1 (F 6) F G r1 F1 G1 hc) (cn_X1_aim fu x1 (F 6) F G _ hc) (Nat.sub_le_sub_right (cn_X4_ifStatement_77 fu rc hrn z0 F1 G1 hm) _) (crecv_X1 C hw) cm_654 cm_376 cm_377 cm_369 cm_378 (by decide +kernel) rfl (by omega) (by omega) hl.1 rfl (Nat.le_of_ble_eq_true rfl) dX4_ifStatement_74 (fun b H locs hw => ?_)
  exact cw_X4_ifStatement_77 fu rc hr hrn C hret z0 F1 G1 hm hw (lv_sub hl [1, 0] rfl)
theorem cn_X4_ifStatement_51 (fu : Nat) (rc : RC) (hrn : ∀ (i : Nat) (x y : Int32) (F : PF) (G : PG) (q : Int32 × PF × PG), rc i x y F G = some q → xn F ≤ xn q.2.1) {res : Int32 × PF × PG} (x1 : Int32) (F : PF) (G : PG) (hm : cb_X4_ifStatement_51 fu rc x1 F G = some res) : xn F ≤ xn res.2.1 := by
  unfold cb_X4_ifStatement_51 at hm
  obtain ⟨⟨r1, F1, G1⟩, hc, hm⟩ := bind_elim hm
  exact Nat.le_trans (cn_X1_addJump fu 84 (-1) F G _ hc) (cn_X4_ifStatement_61 fu rc hrn x1 r1 F1 G1 hm)
theorem cw_X4_ifStatement_51 (fu : Nat) (rc : RC) {dd : Nat} (hr : cH2 l v a rc dd) (hrn : ∀ (i : Nat) (x y : Int32) (F : PF) (G : PG) (q : Int32 × PF × PG), rc i x y F G = some q → xn F ≤ xn q.2.1) {res : Int32 × PF × PG} (C : cMC p R s m args c A v RX4 cX4_ifStatement 3 (dd + 1 + 305) (60 * (dd + 1) + 18119) (xn res.2.1 - xn K0)) (hret : ∀ (b1 : Nat) (H1 : Heap) (locs1 : List Loc) (ls1 : Array Slot) (pc : Nat), cMW s A v a b1 K0 res.2.1 res.2.2 H1 locs1 → decode cX4_ifStatement pc = .ok (.return_, 1) → W p l e R s m args below meth c H1 locs1 (xn res.2.1 - xn K0) (2 * (xn res.2.1 - xn K0)) Q (F0 m pc ls1 [])) (x1 : Int32) (F : PF) (G : PG) (hm : cb_X4_ifStatement_51 fu rc x1 F G = some res) {b : Nat} {H : Heap} {locs : List Loc} (hw : cMW s A v a b K0 F G H locs) {ls : Array Slot} (hl : lv_has ls 3 [(0, .ref (a 204)), (1, .int x1)]) : W p l e R s m args below meth c H locs (xn F - xn K0) (2 * (xn F - xn K0)) Q (F0 m 51 ls []) := by
  have hx := C.1
  have hb := C.2.1
  unfold cb_X4_ifStatement_51 at hm
  refine lv_aload_n hx hb dX4_ifStatement_51 rfl (lv_at hl 0 rfl) ?_
  refine cg_X4_19 C hw dX4_ifStatement_52 ?_
  refine lv_bipush (v := 84) hx hb dX4_ifStatement_55 (by decide) ?_
  refine lv_iconst (v := (-1)) hx hb dX4_ifStatement_57 (by decide) ?_
  obtain ⟨⟨r1, F1, G1⟩, hc, hm⟩ := bind_elim hm
  refine ccallI (n := 2) (As := [.int 84, .int (-1)]) (rest := []) C hw (ck_X1_addJump l v a _ _ fu 84 (-1) F G r1 F1 G1 hc) (cn_X1_addJump fu 84 (-1) F G _ hc) (Nat.sub_le_sub_right (cn_X4_ifStatement_61 fu rc hrn x1 r1 F1 G1 hm) _) (crecv_X1 C hw) cm_718 cm_367 cm_368 cm_369 cm_370 (by decide +kernel) rfl (by omega) (by omega) hl.1 rfl (Nat.le_of_ble_eq_true rfl) dX4_ifStatement_58 (fun b H locs hw => ?_)
  exact cw_X4_ifStatement_61 fu rc hr hrn C hret x1 r1 F1 G1 hm hw (lv_sub hl [0, 1] rfl)
theorem cn_X4_ifStatement_44 (fu : Nat) (rc : RC) (hrn : ∀ (i : Nat) (x y : Int32) (F : PF) (G : PG) (q : Int32 × PF × PG), rc i x y F G = some q → xn F ≤ xn q.2.1) {res : Int32 × PF × PG} (x1 : Int32) (F : PF) (G : PG) (hm : cb_X4_ifStatement_44 fu rc x1 F G = some res) : xn F ≤ xn res.2.1 := by
  unfold cb_X4_ifStatement_44 at hm
  obtain ⟨⟨r1, F1, G1⟩, hc, hm⟩ := bind_elim hm
  exact Nat.le_trans (cn_X2_next fu F G _ hc) (cn_X4_ifStatement_51 fu rc hrn x1 F1 G1 hm)
theorem cw_X4_ifStatement_44 (fu : Nat) (rc : RC) {dd : Nat} (hr : cH2 l v a rc dd) (hrn : ∀ (i : Nat) (x y : Int32) (F : PF) (G : PG) (q : Int32 × PF × PG), rc i x y F G = some q → xn F ≤ xn q.2.1) {res : Int32 × PF × PG} (C : cMC p R s m args c A v RX4 cX4_ifStatement 3 (dd + 1 + 305) (60 * (dd + 1) + 18119) (xn res.2.1 - xn K0)) (hret : ∀ (b1 : Nat) (H1 : Heap) (locs1 : List Loc) (ls1 : Array Slot) (pc : Nat), cMW s A v a b1 K0 res.2.1 res.2.2 H1 locs1 → decode cX4_ifStatement pc = .ok (.return_, 1) → W p l e R s m args below meth c H1 locs1 (xn res.2.1 - xn K0) (2 * (xn res.2.1 - xn K0)) Q (F0 m pc ls1 [])) (x1 : Int32) (F : PF) (G : PG) (hm : cb_X4_ifStatement_44 fu rc x1 F G = some res) {b : Nat} {H : Heap} {locs : List Loc} (hw : cMW s A v a b K0 F G H locs) {ls : Array Slot} (hl : lv_has ls 3 [(0, .ref (a 204)), (1, .int x1)]) : W p l e R s m args below meth c H locs (xn F - xn K0) (2 * (xn F - xn K0)) Q (F0 m 44 ls []) := by
  have hx := C.1
  have hb := C.2.1
  unfold cb_X4_ifStatement_44 at hm
  refine lv_aload_n hx hb dX4_ifStatement_44 rfl (lv_at hl 0 rfl) ?_
  refine cg_X4_9 C hw dX4_ifStatement_45 ?_
  obtain ⟨⟨r1, F1, G1⟩, hc, hm⟩ := bind_elim hm
  refine ccallV (n := 0) (As := []) (rest := []) C hw (ck_X2_next l v a _ _ fu F G r1 F1 G1 hc) (cn_X2_next fu F G _ hc) (Nat.sub_le_sub_right (cn_X4_ifStatement_51 fu rc hrn x1 F1 G1 hm) _) (crecv_X2 C hw) cm_320 cm_321 cm_322 cm_307 cm_323 (by decide +kernel) rfl (by omega) (by omega) hl.1 rfl (Nat.le_of_ble_eq_true rfl) dX4_ifStatement_48 (fun b H locs hw => ?_)
  exact cw_X4_ifStatement_51 fu rc hr hrn C hret x1 F1 G1 hm hw (lv_sub hl [0, 1] rfl)
theorem cn_X4_ifStatement_32 (fu : Nat) (rc : RC) (hrn : ∀ (i : Nat) (x y : Int32) (F : PF) (G : PG) (q : Int32 × PF × PG), rc i x y F G = some q → xn F ≤ xn q.2.1) {res : Int32 × PF × PG} (x1 : Int32) (F : PF) (G : PG) (hm : cb_X4_ifStatement_32 fu rc x1 F G = some res) : xn F ≤ xn res.2.1 := by
  unfold cb_X4_ifStatement_32 at hm
  by_cases c_1 : (F 11) = (9 : Int32)
  · have hm := (if_pos c_1).symm.trans hm
    exact (cn_X4_ifStatement_44 fu rc hrn x1 F G hm)
  · have hm := (if_neg c_1).symm.trans hm
    exact (cn_X4_ifStatement_99 fu rc hrn x1 F G hm)
theorem cw_X4_ifStatement_32 (fu : Nat) (rc : RC) {dd : Nat} (hr : cH2 l v a rc dd) (hrn : ∀ (i : Nat) (x y : Int32) (F : PF) (G : PG) (q : Int32 × PF × PG), rc i x y F G = some q → xn F ≤ xn q.2.1) {res : Int32 × PF × PG} (C : cMC p R s m args c A v RX4 cX4_ifStatement 3 (dd + 1 + 305) (60 * (dd + 1) + 18119) (xn res.2.1 - xn K0)) (hret : ∀ (b1 : Nat) (H1 : Heap) (locs1 : List Loc) (ls1 : Array Slot) (pc : Nat), cMW s A v a b1 K0 res.2.1 res.2.2 H1 locs1 → decode cX4_ifStatement pc = .ok (.return_, 1) → W p l e R s m args below meth c H1 locs1 (xn res.2.1 - xn K0) (2 * (xn res.2.1 - xn K0)) Q (F0 m pc ls1 [])) (x1 : Int32) (F : PF) (G : PG) (hm : cb_X4_ifStatement_32 fu rc x1 F G = some res) {b : Nat} {H : Heap} {locs : List Loc} (hw : cMW s A v a b K0 F G H locs) {ls : Array Slot} (hl : lv_has ls 3 [(0, .ref (a 204)), (1, .int x1)]) : W p l e R s m args below meth c H locs (xn F - xn K0) (2 * (xn F - xn K0)) Q (F0 m 32 ls []) := by
  have hx := C.1
  have hb := C.2.1
  unfold cb_X4_ifStatement_32 at hm
  refine lv_aload_n hx hb dX4_ifStatement_32 rfl (lv_at hl 0 rfl) ?_
  refine cg_X4_9 C hw dX4_ifStatement_33 ?_
  refine cg_X4_52 C hw dX4_ifStatement_36 ?_
  refine lv_bipush (v := 9) hx hb dX4_ifStatement_39 (by decide) ?_
  refine lv_icmp_ne (tgt := 99) hx hb dX4_ifStatement_41 (by decide) (fun c_1 => ?_) (fun c_1 => ?_)
  · have hm := (if_neg c_1).symm.trans hm
    exact cw_X4_ifStatement_99 fu rc hr hrn C hret x1 F G hm hw (lv_sub hl [0, 1] rfl)
  · have hm := (if_pos c_1).symm.trans hm
    exact cw_X4_ifStatement_44 fu rc hr hrn C hret x1 F G hm hw (lv_sub hl [0, 1] rfl)
theorem cn_X4_ifStatement_27 (fu : Nat) (rc : RC) (hrn : ∀ (i : Nat) (x y : Int32) (F : PF) (G : PG) (q : Int32 × PF × PG), rc i x y F G = some q → xn F ≤ xn q.2.1) {res : Int32 × PF × PG} (z0 : Int32) (F : PF) (G : PG) (hm : cb_X4_ifStatement_27 fu rc z0 F G = some res) : xn F ≤ xn res.2.1 := by
  unfold cb_X4_ifStatement_27 at hm
  obtain ⟨⟨r1, F1, G1⟩, hc, hm⟩ := bind_elim hm
  exact Nat.le_trans (hrn _ _ _ _ _ _ hc) (cn_X4_ifStatement_32 fu rc hrn z0 F1 G1 hm)
theorem cw_X4_ifStatement_27 (fu : Nat) (rc : RC) {dd : Nat} (hr : cH2 l v a rc dd) (hrn : ∀ (i : Nat) (x y : Int32) (F : PF) (G : PG) (q : Int32 × PF × PG), rc i x y F G = some q → xn F ≤ xn q.2.1) {res : Int32 × PF × PG} (C : cMC p R s m args c A v RX4 cX4_ifStatement 3 (dd + 1 + 305) (60 * (dd + 1) + 18119) (xn res.2.1 - xn K0)) (hret : ∀ (b1 : Nat) (H1 : Heap) (locs1 : List Loc) (ls1 : Array Slot) (pc : Nat), cMW s A v a b1 K0 res.2.1 res.2.2 H1 locs1 → decode cX4_ifStatement pc = .ok (.return_, 1) → W p l e R s m args below meth c H1 locs1 (xn res.2.1 - xn K0) (2 * (xn res.2.1 - xn K0)) Q (F0 m pc ls1 [])) (z0 : Int32) (F : PF) (G : PG) (hm : cb_X4_ifStatement_27 fu rc z0 F G = some res) {b : Nat} {H : Heap} {locs : List Loc} (hw : cMW s A v a b K0 F G H locs) {ls : Array Slot} (hl : lv_has ls 3 [(0, .ref (a 204))]) : W p l e R s m args below meth c H locs (xn F - xn K0) (2 * (xn F - xn K0)) Q (F0 m 27 ls [.int z0]) := by
  have hx := C.1
  have hb := C.2.1
  unfold cb_X4_ifStatement_27 at hm
  refine lv_istore_n (lv' := [(1, .int z0), (0, .ref (a 204))]) hx hb dX4_ifStatement_27 rfl hl (by decide) rfl (fun ls hl => ?_)
  refine lv_aload_n hx hb dX4_ifStatement_28 rfl (lv_at hl 1 rfl) ?_
  obtain ⟨⟨r1, F1, G1⟩, hc, hm⟩ := bind_elim hm
  refine ccallV (n := 0) (As := []) (rest := []) C hw (hr.2.2.2.2.1 _ _ F G r1 F1 G1 hc) (hrn _ _ _ _ _ _ hc) (Nat.sub_le_sub_right (cn_X4_ifStatement_32 fu rc hrn z0 F1 G1 hm) _) (crecv_X4 C hw) cm_724 cm_725 cm_726 cm_244 cm_727 (by decide +kernel) rfl (by omega) (by omega) hl.1 rfl (Nat.le_of_ble_eq_true rfl) dX4_ifStatement_29 (fun b H locs hw => ?_)
  exact cw_X4_ifStatement_32 fu rc hr hrn C hret z0 F1 G1 hm hw (lv_sub hl [1, 0] rfl)
theorem cn_X4_ifStatement_17 (fu : Nat) (rc : RC) (hrn : ∀ (i : Nat) (x y : Int32) (F : PF) (G : PG) (q : Int32 × PF × PG), rc i x y F G = some q → xn F ≤ xn q.2.1) {res : Int32 × PF × PG} (F : PF) (G : PG) (hm : cb_X4_ifStatement_17 fu rc F G = some res) : xn F ≤ xn res.2.1 := by
  unfold cb_X4_ifStatement_17 at hm
  obtain ⟨⟨r1, F1, G1⟩, hc, hm⟩ := bind_elim hm
  exact Nat.le_trans (cn_X1_addJump fu 86 (-1) F G _ hc) (cn_X4_ifStatement_27 fu rc hrn r1 F1 G1 hm)
theorem cw_X4_ifStatement_17 (fu : Nat) (rc : RC) {dd : Nat} (hr : cH2 l v a rc dd) (hrn : ∀ (i : Nat) (x y : Int32) (F : PF) (G : PG) (q : Int32 × PF × PG), rc i x y F G = some q → xn F ≤ xn q.2.1) {res : Int32 × PF × PG} (C : cMC p R s m args c A v RX4 cX4_ifStatement 3 (dd + 1 + 305) (60 * (dd + 1) + 18119) (xn res.2.1 - xn K0)) (hret : ∀ (b1 : Nat) (H1 : Heap) (locs1 : List Loc) (ls1 : Array Slot) (pc : Nat), cMW s A v a b1 K0 res.2.1 res.2.2 H1 locs1 → decode cX4_ifStatement pc = .ok (.return_, 1) → W p l e R s m args below meth c H1 locs1 (xn res.2.1 - xn K0) (2 * (xn res.2.1 - xn K0)) Q (F0 m pc ls1 [])) (F : PF) (G : PG) (hm : cb_X4_ifStatement_17 fu rc F G = some res) {b : Nat} {H : Heap} {locs : List Loc} (hw : cMW s A v a b K0 F G H locs) {ls : Array Slot} (hl : lv_has ls 3 [(0, .ref (a 204))]) : W p l e R s m args below meth c H locs (xn F - xn K0) (2 * (xn F - xn K0)) Q (F0 m 17 ls []) := by
  have hx := C.1
  have hb := C.2.1
  unfold cb_X4_ifStatement_17 at hm
  refine lv_aload_n hx hb dX4_ifStatement_17 rfl (lv_at hl 0 rfl) ?_
  refine cg_X4_19 C hw dX4_ifStatement_18 ?_
  refine lv_bipush (v := 86) hx hb dX4_ifStatement_21 (by decide) ?_
  refine lv_iconst (v := (-1)) hx hb dX4_ifStatement_23 (by decide) ?_
  obtain ⟨⟨r1, F1, G1⟩, hc, hm⟩ := bind_elim hm
  refine ccallI (n := 2) (As := [.int 86, .int (-1)]) (rest := []) C hw (ck_X1_addJump l v a _ _ fu 86 (-1) F G r1 F1 G1 hc) (cn_X1_addJump fu 86 (-1) F G _ hc) (Nat.sub_le_sub_right (cn_X4_ifStatement_27 fu rc hrn r1 F1 G1 hm) _) (crecv_X1 C hw) cm_718 cm_367 cm_368 cm_369 cm_370 (by decide +kernel) rfl (by omega) (by omega) hl.1 rfl (Nat.le_of_ble_eq_true rfl) dX4_ifStatement_24 (fun b H locs hw => ?_)
  exact cw_X4_ifStatement_27 fu rc hr hrn C hret r1 F1 G1 hm hw (lv_sub hl [0] rfl)
theorem cn_X4_ifStatement_13 (fu : Nat) (rc : RC) (hrn : ∀ (i : Nat) (x y : Int32) (F : PF) (G : PG) (q : Int32 × PF × PG), rc i x y F G = some q → xn F ≤ xn q.2.1) {res : Int32 × PF × PG} (F : PF) (G : PG) (hm : cb_X4_ifStatement_13 fu rc F G = some res) : xn F ≤ xn res.2.1 := by
  unfold cb_X4_ifStatement_13 at hm
  obtain ⟨⟨r1, F1, G1⟩, hc, hm⟩ := bind_elim hm
  exact Nat.le_trans (cn_X4_condition fu F G _ hc) (cn_X4_ifStatement_17 fu rc hrn F1 G1 hm)
theorem cw_X4_ifStatement_13 (fu : Nat) (rc : RC) {dd : Nat} (hr : cH2 l v a rc dd) (hrn : ∀ (i : Nat) (x y : Int32) (F : PF) (G : PG) (q : Int32 × PF × PG), rc i x y F G = some q → xn F ≤ xn q.2.1) {res : Int32 × PF × PG} (C : cMC p R s m args c A v RX4 cX4_ifStatement 3 (dd + 1 + 305) (60 * (dd + 1) + 18119) (xn res.2.1 - xn K0)) (hret : ∀ (b1 : Nat) (H1 : Heap) (locs1 : List Loc) (ls1 : Array Slot) (pc : Nat), cMW s A v a b1 K0 res.2.1 res.2.2 H1 locs1 → decode cX4_ifStatement pc = .ok (.return_, 1) → W p l e R s m args below meth c H1 locs1 (xn res.2.1 - xn K0) (2 * (xn res.2.1 - xn K0)) Q (F0 m pc ls1 [])) (F : PF) (G : PG) (hm : cb_X4_ifStatement_13 fu rc F G = some res) {b : Nat} {H : Heap} {locs : List Loc} (hw : cMW s A v a b K0 F G H locs) {ls : Array Slot} (hl : lv_has ls 3 [(0, .ref (a 204))]) : W p l e R s m args below meth c H locs (xn F - xn K0) (2 * (xn F - xn K0)) Q (F0 m 13 ls []) := by
  have hx := C.1
  have hb := C.2.1
  unfold cb_X4_ifStatement_13 at hm
  refine lv_aload_n hx hb dX4_ifStatement_13 rfl (lv_at hl 0 rfl) ?_
  obtain ⟨⟨r1, F1, G1⟩, hc, hm⟩ := bind_elim hm
  refine ccallV (n := 0) (As := []) (rest := []) C hw (ck_X4_condition l v a _ _ fu F G r1 F1 G1 hc) (cn_X4_condition fu F G _ hc) (Nat.sub_le_sub_right (cn_X4_ifStatement_17 fu rc hrn F1 G1 hm) _) (crecv_X4 C hw) cm_655 cm_656 cm_657 cm_244 cm_658 (by decide +kernel) rfl (by omega) (by omega) hl.1 rfl (Nat.le_of_ble_eq_true rfl) dX4_ifStatement_14 (fun b H locs hw => ?_)
  exact cw_X4_ifStatement_17 fu rc hr hrn C hret F1 G1 hm hw (lv_sub hl [0] rfl)
theorem cn_X4_ifStatement_12 (fu : Nat) (rc : RC) (hrn : ∀ (i : Nat) (x y : Int32) (F : PF) (G : PG) (q : Int32 × PF × PG), rc i x y F G = some q → xn F ≤ xn q.2.1) {res : Int32 × PF × PG} (F : PF) (G : PG) (hm : cb_X4_ifStatement_12 fu rc F G = some res) : xn F ≤ xn res.2.1 := by
  unfold cb_X4_ifStatement_12 at hm
  obtain rfl := Option.some.inj hm
  exact Nat.le_refl _
theorem cw_X4_ifStatement_12 (fu : Nat) (rc : RC) {dd : Nat} (hr : cH2 l v a rc dd) (hrn : ∀ (i : Nat) (x y : Int32) (F : PF) (G : PG) (q : Int32 × PF × PG), rc i x y F G = some q → xn F ≤ xn q.2.1) {res : Int32 × PF × PG} (C : cMC p R s m args c A v RX4 cX4_ifStatement 3 (dd + 1 + 305) (60 * (dd + 1) + 18119) (xn res.2.1 - xn K0)) (hret : ∀ (b1 : Nat) (H1 : Heap) (locs1 : List Loc) (ls1 : Array Slot) (pc : Nat), cMW s A v a b1 K0 res.2.1 res.2.2 H1 locs1 → decode cX4_ifStatement pc = .ok (.return_, 1) → W p l e R s m args below meth c H1 locs1 (xn res.2.1 - xn K0) (2 * (xn res.2.1 - xn K0)) Q (F0 m pc ls1 [])) (F : PF) (G : PG) (hm : cb_X4_ifStatement_12 fu rc F G = some res) {b : Nat} {H : Heap} {locs : List Loc} (hw : cMW s A v a b K0 F G H locs) {ls : Array Slot} (hl : lv_has ls 3 []) : W p l e R s m args below meth c H locs (xn F - xn K0) (2 * (xn F - xn K0)) Q (F0 m 12 ls []) := by
  have hx := C.1
  have hb := C.2.1
  unfold cb_X4_ifStatement_12 at hm
  obtain rfl := Option.some.inj hm
  exact hret _ _ _ _ _ hw dX4_ifStatement_12
theorem cn_X4_ifStatement_9 (fu : Nat) (rc : RC) (hrn : ∀ (i : Nat) (x y : Int32) (F : PF) (G : PG) (q : Int32 × PF × PG), rc i x y F G = some q → xn F ≤ xn q.2.1) {res : Int32 × PF × PG} (z0 : Int32) (F : PF) (G : PG) (hm : cb_X4_ifStatement_9 fu rc z0 F G = some res) : xn F ≤ xn res.2.1 := by
  unfold cb_X4_ifStatement_9 at hm
  by_cases c_1 : z0 = (0 : Int32)
  · have hm := (if_pos c_1).symm.trans hm
    exact (cn_X4_ifStatement_12 fu rc hrn F G hm)
  · have hm := (if_neg c_1).symm.trans hm
    exact (cn_X4_ifStatement_13 fu rc hrn F G hm)
theorem cw_X4_ifStatement_9 (fu : Nat) (rc : RC) {dd : Nat} (hr : cH2 l v a rc dd) (hrn : ∀ (i : Nat) (x y : Int32) (F : PF) (G : PG) (q : Int32 × PF × PG), rc i x y F G = some q → xn F ≤ xn q.2.1) {res : Int32 × PF × PG} (C : cMC p R s m args c A v RX4 cX4_ifStatement 3 (dd + 1 + 305) (60 * (dd + 1) + 18119) (xn res.2.1 - xn K0)) (hret : ∀ (b1 : Nat) (H1 : Heap) (locs1 : List Loc) (ls1 : Array Slot) (pc : Nat), cMW s A v a b1 K0 res.2.1 res.2.2 H1 locs1 → decode cX4_ifStatement pc = .ok (.return_, 1) → W p l e R s m args below meth c H1 locs1 (xn res.2.1 - xn K0) (2 * (xn res.2.1 - xn K0)) Q (F0 m pc ls1 [])) (z0 : Int32) (F : PF) (G : PG) (hm : cb_X4_ifStatement_9 fu rc z0 F G = some res) {b : Nat} {H : Heap} {locs : List Loc} (hw : cMW s A v a b K0 F G H locs) {ls : Array Slot} (hl : lv_has ls 3 [(0, .ref (a 204))]) : W p l e R s m args below meth c H locs (xn F - xn K0) (2 * (xn F - xn K0)) Q (F0 m 9 ls [.int z0]) := by
  have hx := C.1
  have hb := C.2.1
  unfold cb_X4_ifStatement_9 at hm
  refine lv_if_ne (tgt := 13) hx hb dX4_ifStatement_9 (by decide) (fun c_1 => ?_) (fun c_1 => ?_)
  · have hm := (if_neg c_1).symm.trans hm
    exact cw_X4_ifStatement_13 fu rc hr hrn C hret F G hm hw (lv_sub hl [0] rfl)
  · have hm := (if_pos c_1).symm.trans hm
    exact cw_X4_ifStatement_12 fu rc hr hrn C hret F G hm hw (lv_sub hl [] rfl)
theorem cn_X4_ifStatement_0 (fu : Nat) (rc : RC) (hrn : ∀ (i : Nat) (x y : Int32) (F : PF) (G : PG) (q : Int32 × PF × PG), rc i x y F G = some q → xn F ≤ xn q.2.1) {res : Int32 × PF × PG} (F : PF) (G : PG) (hm : cb_X4_ifStatement_0 fu rc F G = some res) : xn F ≤ xn res.2.1 := by
  unfold cb_X4_ifStatement_0 at hm
  obtain ⟨⟨r1, F1, G1⟩, hc, hm⟩ := bind_elim hm
  exact Nat.le_trans (cn_X2_opens fu 8 F G _ hc) (cn_X4_ifStatement_9 fu rc hrn r1 F1 G1 hm)
theorem cw_X4_ifStatement_0 (fu : Nat) (rc : RC) {dd : Nat} (hr : cH2 l v a rc dd) (hrn : ∀ (i : Nat) (x y : Int32) (F : PF) (G : PG) (q : Int32 × PF × PG), rc i x y F G = some q → xn F ≤ xn q.2.1) {res : Int32 × PF × PG} (C : cMC p R s m args c A v RX4 cX4_ifStatement 3 (dd + 1 + 305) (60 * (dd + 1) + 18119) (xn res.2.1 - xn K0)) (hret : ∀ (b1 : Nat) (H1 : Heap) (locs1 : List Loc) (ls1 : Array Slot) (pc : Nat), cMW s A v a b1 K0 res.2.1 res.2.2 H1 locs1 → decode cX4_ifStatement pc = .ok (.return_, 1) → W p l e R s m args below meth c H1 locs1 (xn res.2.1 - xn K0) (2 * (xn res.2.1 - xn K0)) Q (F0 m pc ls1 [])) (F : PF) (G : PG) (hm : cb_X4_ifStatement_0 fu rc F G = some res) {b : Nat} {H : Heap} {locs : List Loc} (hw : cMW s A v a b K0 F G H locs) {ls : Array Slot} (hl : lv_has ls 3 [(0, .ref (a 204))]) : W p l e R s m args below meth c H locs (xn F - xn K0) (2 * (xn F - xn K0)) Q (F0 m 0 ls []) := by
  have hx := C.1
  have hb := C.2.1
  unfold cb_X4_ifStatement_0 at hm
  refine lv_aload_n hx hb dX4_ifStatement_0 rfl (lv_at hl 0 rfl) ?_
  refine cg_X4_9 C hw dX4_ifStatement_1 ?_
  refine lv_bipush (v := 8) hx hb dX4_ifStatement_4 (by decide) ?_
  obtain ⟨⟨r1, F1, G1⟩, hc, hm⟩ := bind_elim hm
  refine ccallI (n := 1) (As := [.int 8]) (rest := []) C hw (ck_X2_opens l v a _ _ fu 8 F G r1 F1 G1 hc) (cn_X2_opens fu 8 F G _ hc) (Nat.sub_le_sub_right (cn_X4_ifStatement_9 fu rc hrn r1 F1 G1 hm) _) (crecv_X2 C hw) cm_623 cm_363 cm_364 cm_307 cm_365 (by decide +kernel) rfl (by omega) (by omega) hl.1 rfl (Nat.le_of_ble_eq_true rfl) dX4_ifStatement_6 (fun b H locs hw => ?_)
  exact cw_X4_ifStatement_9 fu rc hr hrn C hret r1 F1 G1 hm hw (lv_sub hl [0] rfl)
theorem cm_X4_ifStatement (fu : Nat) (rc : RC) (hrn : ∀ (i : Nat) (x y : Int32) (F : PF) (G : PG) (q : Int32 × PF × PG), rc i x y F G = some q → xn F ≤ xn q.2.1) (F : PF) (G : PG) (q : Int32 × PF × PG) (hm : ch_X4_ifStatement fu rc F G = some q) : xn F ≤ xn q.2.1 := cn_X4_ifStatement_0 fu rc hrn F G hm
theorem cq_X4_ifStatement (l : Launch) (v : EV) (a : Nat → Nat) (b sz : Nat) (fu : Nat) (rc : RC) {dd : Nat} (hr : cH2 l v a rc dd) (hrn : ∀ (i : Nat) (x y : Int32) (F : PF) (G : PG) (q : Int32 × PF × PG), rc i x y F G = some q → xn F ≤ xn q.2.1) (F : PF) (G : PG) (r : Int32) (F1 : PF) (G1 : PG) (hm : ch_X4_ifStatement fu rc F G = some (r, F1, G1)) : cMV l yX4_ifStatement cX4_ifStatement 3 (dd + 1 + 305) (60 * (dd + 1) + 18119) v a b sz [.ref (a 204)] F G F1 G1 := cMV.of (by decide) (Nat.le_of_ble_eq_true rfl) (fun p e R s m args below meth c Q A H locs ls C hw hl hret => cw_X4_ifStatement_0 fu rc hr hrn (res := (r, F1, G1)) C hret F G hm hw hl)
def cb_X4_inner_18 (fu : Nat) (rc : RC) (F : PF) (G : PG) : PR := some (0, F, G)
def cb_X4_inner_11 (fu : Nat) (rc : RC) (F : PF) (G : PG) : PR := (cf_X5_leave fu F G).bind (fun q => cb_X4_inner_18 fu rc q.2.1 q.2.2)
def cb_X4_inner_7 (fu : Nat) (rc : RC) (F : PF) (G : PG) : PR := (rc 6 0 0 F G).bind (fun q => cb_X4_inner_11 fu rc q.2.1 q.2.2)
def cb_X4_inner_0 (fu : Nat) (rc : RC) (F : PF) (G : PG) : PR := (cf_X5_enter fu F G).bind (fun q => cb_X4_inner_7 fu rc q.2.1 q.2.2)
def ch_X4_inner (fu : Nat) (rc : RC) (F : PF) (G : PG) : PR := cb_X4_inner_0 fu rc F G
theorem cn_X4_inner_18 (fu : Nat) (rc : RC) (hrn : ∀ (i : Nat) (x y : Int32) (F : PF) (G : PG) (q : Int32 × PF × PG), rc i x y F G = some q → xn F ≤ xn q.2.1) {res : Int32 × PF × PG} (F : PF) (G : PG) (hm : cb_X4_inner_18 fu rc F G = some res) : xn F ≤ xn res.2.1 := by
  unfold cb_X4_inner_18 at hm
  obtain rfl := Option.some.inj hm
  exact Nat.le_refl _
theorem cw_X4_inner_18 (fu : Nat) (rc : RC) {dd : Nat} (hr : cH2 l v a rc dd) (hrn : ∀ (i : Nat) (x y : Int32) (F : PF) (G : PG) (q : Int32 × PF × PG), rc i x y F G = some q → xn F ≤ xn q.2.1) {res : Int32 × PF × PG} (C : cMC p R s m args c A v RX4 cX4_inner 1 (dd + 1 + 305) (60 * (dd + 1) + 18119) (xn res.2.1 - xn K0)) (hret : ∀ (b1 : Nat) (H1 : Heap) (locs1 : List Loc) (ls1 : Array Slot) (pc : Nat), cMW s A v a b1 K0 res.2.1 res.2.2 H1 locs1 → decode cX4_inner pc = .ok (.return_, 1) → W p l e R s m args below meth c H1 locs1 (xn res.2.1 - xn K0) (2 * (xn res.2.1 - xn K0)) Q (F0 m pc ls1 [])) (F : PF) (G : PG) (hm : cb_X4_inner_18 fu rc F G = some res) {b : Nat} {H : Heap} {locs : List Loc} (hw : cMW s A v a b K0 F G H locs) {ls : Array Slot} (hl : lv_has ls 1 []) : W p l e R s m args below meth c H locs (xn F - xn K0) (2 * (xn F - xn K0)) Q (F0 m 18 ls []) := by
  have hx := C.1
  have hb := C.2.1
  unfold cb_X4_inner_18 at hm
  obtain rfl := Option.some.inj hm
  exact hret _ _ _ _ _ hw dX4_inner_18
theorem cn_X4_inner_11 (fu : Nat) (rc : RC) (hrn : ∀ (i : Nat) (x y : Int32) (F : PF) (G : PG) (q : Int32 × PF × PG), rc i x y F G = some q → xn F ≤ xn q.2.1) {res : Int32 × PF × PG} (F : PF) (G : PG) (hm : cb_X4_inner_11 fu rc F G = some res) : xn F ≤ xn res.2.1 := by
  unfold cb_X4_inner_11 at hm
  obtain ⟨⟨r1, F1, G1⟩, hc, hm⟩ := bind_elim hm
  exact Nat.le_trans (cn_X5_leave fu F G _ hc) (cn_X4_inner_18 fu rc hrn F1 G1 hm)
theorem cw_X4_inner_11 (fu : Nat) (rc : RC) {dd : Nat} (hr : cH2 l v a rc dd) (hrn : ∀ (i : Nat) (x y : Int32) (F : PF) (G : PG) (q : Int32 × PF × PG), rc i x y F G = some q → xn F ≤ xn q.2.1) {res : Int32 × PF × PG} (C : cMC p R s m args c A v RX4 cX4_inner 1 (dd + 1 + 305) (60 * (dd + 1) + 18119) (xn res.2.1 - xn K0)) (hret : ∀ (b1 : Nat) (H1 : Heap) (locs1 : List Loc) (ls1 : Array Slot) (pc : Nat), cMW s A v a b1 K0 res.2.1 res.2.2 H1 locs1 → decode cX4_inner pc = .ok (.return_, 1) → W p l e R s m args below meth c H1 locs1 (xn res.2.1 - xn K0) (2 * (xn res.2.1 - xn K0)) Q (F0 m pc ls1 [])) (F : PF) (G : PG) (hm : cb_X4_inner_11 fu rc F G = some res) {b : Nat} {H : Heap} {locs : List Loc} (hw : cMW s A v a b K0 F G H locs) {ls : Array Slot} (hl : lv_has ls 1 [(0, .ref (a 204))]) : W p l e R s m args below meth c H locs (xn F - xn K0) (2 * (xn F - xn K0)) Q (F0 m 11 ls []) := by
  have hx := C.1
  have hb := C.2.1
  unfold cb_X4_inner_11 at hm
  refine lv_aload_n hx hb dX4_inner_11 rfl (lv_at hl 0 rfl) ?_
  refine cg_X4_15 C hw dX4_inner_12 ?_
  obtain ⟨⟨r1, F1, G1⟩, hc, hm⟩ := bind_elim hm
  refine ccallV (n := 0) (As := []) (rest := []) C hw (ck_X5_leave l v a _ _ fu F G r1 F1 G1 hc) (cn_X5_leave fu F G _ hc) (Nat.sub_le_sub_right (cn_X4_inner_18 fu rc hrn F1 G1 hm) _) (crecv_X5 C hw) cm_719 cm_720 cm_721 cm_266 cm_722 (by decide +kernel) rfl (by omega) (by omega) hl.1 rfl (Nat.le_of_ble_eq_true rfl) dX4_inner_15 (fun b H locs hw => ?_)
  exact cw_X4_inner_18 fu rc hr hrn C hret F1 G1 hm hw (lv_sub hl [] rfl)
theorem cn_X4_inner_7 (fu : Nat) (rc : RC) (hrn : ∀ (i : Nat) (x y : Int32) (F : PF) (G : PG) (q : Int32 × PF × PG), rc i x y F G = some q → xn F ≤ xn q.2.1) {res : Int32 × PF × PG} (F : PF) (G : PG) (hm : cb_X4_inner_7 fu rc F G = some res) : xn F ≤ xn res.2.1 := by
  unfold cb_X4_inner_7 at hm
  obtain ⟨⟨r1, F1, G1⟩, hc, hm⟩ := bind_elim hm
  exact Nat.le_trans (hrn _ _ _ _ _ _ hc) (cn_X4_inner_11 fu rc hrn F1 G1 hm)
theorem cw_X4_inner_7 (fu : Nat) (rc : RC) {dd : Nat} (hr : cH2 l v a rc dd) (hrn : ∀ (i : Nat) (x y : Int32) (F : PF) (G : PG) (q : Int32 × PF × PG), rc i x y F G = some q → xn F ≤ xn q.2.1) {res : Int32 × PF × PG} (C : cMC p R s m args c A v RX4 cX4_inner 1 (dd + 1 + 305) (60 * (dd + 1) + 18119) (xn res.2.1 - xn K0)) (hret : ∀ (b1 : Nat) (H1 : Heap) (locs1 : List Loc) (ls1 : Array Slot) (pc : Nat), cMW s A v a b1 K0 res.2.1 res.2.2 H1 locs1 → decode cX4_inner pc = .ok (.return_, 1) → W p l e R s m args below meth c H1 locs1 (xn res.2.1 - xn K0) (2 * (xn res.2.1 - xn K0)) Q (F0 m pc ls1 [])) (F : PF) (G : PG) (hm : cb_X4_inner_7 fu rc F G = some res) {b : Nat} {H : Heap} {locs : List Loc} (hw : cMW s A v a b K0 F G H locs) {ls : Array Slot} (hl : lv_has ls 1 [(0, .ref (a 204))]) : W p l e R s m args below meth c H locs (xn F - xn K0) (2 * (xn F - xn K0)) Q (F0 m 7 ls []) := by
  have hx := C.1
  have hb := C.2.1
  unfold cb_X4_inner_7 at hm
  refine lv_aload_n hx hb dX4_inner_7 rfl (lv_at hl 0 rfl) ?_
  obtain ⟨⟨r1, F1, G1⟩, hc, hm⟩ := bind_elim hm
  refine ccallV (n := 0) (As := []) (rest := []) C hw (hr.2.2.2.2.2.2.1 _ _ F G r1 F1 G1 hc) (hrn _ _ _ _ _ _ hc) (Nat.sub_le_sub_right (cn_X4_inner_11 fu rc hrn F1 G1 hm) _) (crecv_X4 C hw) cm_647 cm_648 cm_649 cm_244 cm_729 (by decide +kernel) rfl (by omega) (by omega) hl.1 rfl (Nat.le_of_ble_eq_true rfl) dX4_inner_8 (fun b H locs hw => ?_)
  exact cw_X4_inner_11 fu rc hr hrn C hret F1 G1 hm hw (lv_sub hl [0] rfl)
theorem cn_X4_inner_0 (fu : Nat) (rc : RC) (hrn : ∀ (i : Nat) (x y : Int32) (F : PF) (G : PG) (q : Int32 × PF × PG), rc i x y F G = some q → xn F ≤ xn q.2.1) {res : Int32 × PF × PG} (F : PF) (G : PG) (hm : cb_X4_inner_0 fu rc F G = some res) : xn F ≤ xn res.2.1 := by
  unfold cb_X4_inner_0 at hm
  obtain ⟨⟨r1, F1, G1⟩, hc, hm⟩ := bind_elim hm
  exact Nat.le_trans (cn_X5_enter fu F G _ hc) (cn_X4_inner_7 fu rc hrn F1 G1 hm)
theorem cw_X4_inner_0 (fu : Nat) (rc : RC) {dd : Nat} (hr : cH2 l v a rc dd) (hrn : ∀ (i : Nat) (x y : Int32) (F : PF) (G : PG) (q : Int32 × PF × PG), rc i x y F G = some q → xn F ≤ xn q.2.1) {res : Int32 × PF × PG} (C : cMC p R s m args c A v RX4 cX4_inner 1 (dd + 1 + 305) (60 * (dd + 1) + 18119) (xn res.2.1 - xn K0)) (hret : ∀ (b1 : Nat) (H1 : Heap) (locs1 : List Loc) (ls1 : Array Slot) (pc : Nat), cMW s A v a b1 K0 res.2.1 res.2.2 H1 locs1 → decode cX4_inner pc = .ok (.return_, 1) → W p l e R s m args below meth c H1 locs1 (xn res.2.1 - xn K0) (2 * (xn res.2.1 - xn K0)) Q (F0 m pc ls1 [])) (F : PF) (G : PG) (hm : cb_X4_inner_0 fu rc F G = some res) {b : Nat} {H : Heap} {locs : List Loc} (hw : cMW s A v a b K0 F G H locs) {ls : Array Slot} (hl : lv_has ls 1 [(0, .ref (a 204))]) : W p l e R s m args below meth c H locs (xn F - xn K0) (2 * (xn F - xn K0)) Q (F0 m 0 ls []) := by
  have hx := C.1
  have hb := C.2.1
  unfold cb_X4_inner_0 at hm
  refine lv_aload_n hx hb dX4_inner_0 rfl (lv_at hl 0 rfl) ?_
  refine cg_X4_15 C hw dX4_inner_1 ?_
  obtain ⟨⟨r1, F1, G1⟩, hc, hm⟩ := bind_elim hm
  refine ccallV (n := 0) (As := []) (rest := []) C hw (ck_X5_enter l v a _ _ fu F G r1 F1 G1 hc) (cn_X5_enter fu F G _ hc) (Nat.sub_le_sub_right (cn_X4_inner_7 fu rc hrn F1 G1 hm) _) (crecv_X5 C hw) cm_663 cm_616 cm_617 cm_266 cm_618 (by decide +kernel) rfl (by omega) (by omega) hl.1 rfl (Nat.le_of_ble_eq_true rfl) dX4_inner_4 (fun b H locs hw => ?_)
  exact cw_X4_inner_7 fu rc hr hrn C hret F1 G1 hm hw (lv_sub hl [0] rfl)
theorem cm_X4_inner (fu : Nat) (rc : RC) (hrn : ∀ (i : Nat) (x y : Int32) (F : PF) (G : PG) (q : Int32 × PF × PG), rc i x y F G = some q → xn F ≤ xn q.2.1) (F : PF) (G : PG) (q : Int32 × PF × PG) (hm : ch_X4_inner fu rc F G = some q) : xn F ≤ xn q.2.1 := cn_X4_inner_0 fu rc hrn F G hm
theorem cq_X4_inner (l : Launch) (v : EV) (a : Nat → Nat) (b sz : Nat) (fu : Nat) (rc : RC) {dd : Nat} (hr : cH2 l v a rc dd) (hrn : ∀ (i : Nat) (x y : Int32) (F : PF) (G : PG) (q : Int32 × PF × PG), rc i x y F G = some q → xn F ≤ xn q.2.1) (F : PF) (G : PG) (r : Int32) (F1 : PF) (G1 : PG) (hm : ch_X4_inner fu rc F G = some (r, F1, G1)) : cMV l yX4_inner cX4_inner 1 (dd + 1 + 305) (60 * (dd + 1) + 18119) v a b sz [.ref (a 204)] F G F1 G1 := cMV.of (by decide) (Nat.le_of_ble_eq_true rfl) (fun p e R s m args below meth c Q A H locs ls C hw hl hret => cw_X4_inner_0 fu rc hr hrn (res := (r, F1, G1)) C hret F G hm hw hl)
def cb_X4_loopBody_43 (fu : Nat) (rc : RC) (F : PF) (G : PG) : PR := some (0, F, G)
def cb_X4_loopBody_33 (fu : Nat) (rc : RC) (F : PF) (G : PG) : PR := cb_X4_loopBody_43 fu rc (fup F 29 ((F 29) - (1 : Int32))) G
def cb_X4_loopBody_29 (fu : Nat) (rc : RC) (F : PF) (G : PG) : PR := (rc 4 0 0 F G).bind (fun q => cb_X4_loopBody_33 fu rc q.2.1 q.2.2)
def cb_X4_loopBody_20 (fu : Nat) (rc : RC) (F : PF) (G : PG) : PR := (cf_X1_add fu 89 F G).bind (fun q => cb_X4_loopBody_29 fu rc q.2.1 q.2.2)
def cb_X4_loopBody_10 (fu : Nat) (rc : RC) (F : PF) (G : PG) : PR := cb_X4_loopBody_20 fu rc (fup F 29 ((F 29) + (1 : Int32))) G
def cb_X4_loopBody_5 (fu : Nat) (rc : RC) (F : PF) (G : PG) : PR := cb_X4_loopBody_10 fu rc (fup F 31 (-1 : Int32)) G
def cb_X4_loopBody_0 (fu : Nat) (rc : RC) (F : PF) (G : PG) : PR := cb_X4_loopBody_5 fu rc (fup F 30 (-1 : Int32)) G
def ch_X4_loopBody (fu : Nat) (rc : RC) (F : PF) (G : PG) : PR := cb_X4_loopBody_0 fu rc F G
theorem cn_X4_loopBody_43 (fu : Nat) (rc : RC) (hrn : ∀ (i : Nat) (x y : Int32) (F : PF) (G : PG) (q : Int32 × PF × PG), rc i x y F G = some q → xn F ≤ xn q.2.1) {res : Int32 × PF × PG} (F : PF) (G : PG) (hm : cb_X4_loopBody_43 fu rc F G = some res) : xn F ≤ xn res.2.1 := by
  unfold cb_X4_loopBody_43 at hm
  obtain rfl := Option.some.inj hm
  exact Nat.le_refl _
theorem cw_X4_loopBody_43 (fu : Nat) (rc : RC) {dd : Nat} (hr : cH2 l v a rc dd) (hrn : ∀ (i : Nat) (x y : Int32) (F : PF) (G : PG) (q : Int32 × PF × PG), rc i x y F G = some q → xn F ≤ xn q.2.1) {res : Int32 × PF × PG} (C : cMC p R s m args c A v RX4 cX4_loopBody 1 (dd + 1 + 305) (60 * (dd + 1) + 18119) (xn res.2.1 - xn K0)) (hret : ∀ (b1 : Nat) (H1 : Heap) (locs1 : List Loc) (ls1 : Array Slot) (pc : Nat), cMW s A v a b1 K0 res.2.1 res.2.2 H1 locs1 → decode cX4_loopBody pc = .ok (.return_, 1) → W p l e R s m args below meth c H1 locs1 (xn res.2.1 - xn K0) (2 * (xn res.2.1 - xn K0)) Q (F0 m pc ls1 [])) (F : PF) (G : PG) (hm : cb_X4_loopBody_43 fu rc F G = some res) {b : Nat} {H : Heap} {locs : List Loc} (hw : cMW s A v a b K0 F G H locs) {ls : Array Slot} (hl : lv_has ls 1 []) : W p l e R s m args below meth c H locs (xn F - xn K0) (2 * (xn F - xn K0)) Q (F0 m 43 ls []) := by
  have hx := C.1
  have hb := C.2.1
  unfold cb_X4_loopBody_43 at hm
  obtain rfl := Option.some.inj hm
  exact hret _ _ _ _ _ hw dX4_loopBody_43
theorem cn_X4_loopBody_33 (fu : Nat) (rc : RC) (hrn : ∀ (i : Nat) (x y : Int32) (F : PF) (G : PG) (q : Int32 × PF × PG), rc i x y F G = some q → xn F ≤ xn q.2.1) {res : Int32 × PF × PG} (F : PF) (G : PG) (hm : cb_X4_loopBody_33 fu rc F G = some res) : xn F ≤ xn res.2.1 := by
  unfold cb_X4_loopBody_33 at hm
  exact Nat.le_trans (Nat.le_of_eq (xn_fup (by decide)).symm) (cn_X4_loopBody_43 fu rc hrn (fup F 29 ((F 29) - (1 : Int32))) G hm)
theorem cw_X4_loopBody_33 (fu : Nat) (rc : RC) {dd : Nat} (hr : cH2 l v a rc dd) (hrn : ∀ (i : Nat) (x y : Int32) (F : PF) (G : PG) (q : Int32 × PF × PG), rc i x y F G = some q → xn F ≤ xn q.2.1) {res : Int32 × PF × PG} (C : cMC p R s m args c A v RX4 cX4_loopBody 1 (dd + 1 + 305) (60 * (dd + 1) + 18119) (xn res.2.1 - xn K0)) (hret : ∀ (b1 : Nat) (H1 : Heap) (locs1 : List Loc) (ls1 : Array Slot) (pc : Nat), cMW s A v a b1 K0 res.2.1 res.2.2 H1 locs1 → decode cX4_loopBody pc = .ok (.return_, 1) → W p l e R s m args below meth c H1 locs1 (xn res.2.1 - xn K0) (2 * (xn res.2.1 - xn K0)) Q (F0 m pc ls1 [])) (F : PF) (G : PG) (hm : cb_X4_loopBody_33 fu rc F G = some res) {b : Nat} {H : Heap} {locs : List Loc} (hw : cMW s A v a b K0 F G H locs) {ls : Array Slot} (hl : lv_has ls 1 [(0, .ref (a 204))]) : W p l e R s m args below meth c H locs (xn F - xn K0) (2 * (xn F - xn K0)) Q (F0 m 33 ls []) := by
  have hx := C.1
  have hb := C.2.1
  unfold cb_X4_loopBody_33 at hm
  refine lv_aload_n hx hb dX4_loopBody_33 rfl (lv_at hl 0 rfl) ?_
  refine lv_dup hx hb dX4_loopBody_34 rfl ?_
  refine cg_X4_116 C hw dX4_loopBody_35 ?_
  refine lv_iconst (v := 1) hx hb dX4_loopBody_38 (by decide) ?_
  refine lv_isub hx hb dX4_loopBody_39 ?_
  refine cp_X4_116 C hw dX4_loopBody_40 (fun H locs hw => ?_)
  exact cw_X4_loopBody_43 fu rc hr hrn C hret (fup F 29 ((F 29) - (1 : Int32))) G hm hw (lv_sub hl [] rfl)
theorem cn_X4_loopBody_29 (fu : Nat) (rc : RC) (hrn : ∀ (i : Nat) (x y : Int32) (F : PF) (G : PG) (q : Int32 × PF × PG), rc i x y F G = some q → xn F ≤ xn q.2.1) {res : Int32 × PF × PG} (F : PF) (G : PG) (hm : cb_X4_loopBody_29 fu rc F G = some res) : xn F ≤ xn res.2.1 := by
  unfold cb_X4_loopBody_29 at hm
  obtain ⟨⟨r1, F1, G1⟩, hc, hm⟩ := bind_elim hm
  exact Nat.le_trans (hrn _ _ _ _ _ _ hc) (cn_X4_loopBody_33 fu rc hrn F1 G1 hm)
theorem cw_X4_loopBody_29 (fu : Nat) (rc : RC) {dd : Nat} (hr : cH2 l v a rc dd) (hrn : ∀ (i : Nat) (x y : Int32) (F : PF) (G : PG) (q : Int32 × PF × PG), rc i x y F G = some q → xn F ≤ xn q.2.1) {res : Int32 × PF × PG} (C : cMC p R s m args c A v RX4 cX4_loopBody 1 (dd + 1 + 305) (60 * (dd + 1) + 18119) (xn res.2.1 - xn K0)) (hret : ∀ (b1 : Nat) (H1 : Heap) (locs1 : List Loc) (ls1 : Array Slot) (pc : Nat), cMW s A v a b1 K0 res.2.1 res.2.2 H1 locs1 → decode cX4_loopBody pc = .ok (.return_, 1) → W p l e R s m args below meth c H1 locs1 (xn res.2.1 - xn K0) (2 * (xn res.2.1 - xn K0)) Q (F0 m pc ls1 [])) (F : PF) (G : PG) (hm : cb_X4_loopBody_29 fu rc F G = some res) {b : Nat} {H : Heap} {locs : List Loc} (hw : cMW s A v a b K0 F G H locs) {ls : Array Slot} (hl : lv_has ls 1 [(0, .ref (a 204))]) : W p l e R s m args below meth c H locs (xn F - xn K0) (2 * (xn F - xn K0)) Q (F0 m 29 ls []) := by
  have hx := C.1
  have hb := C.2.1
  unfold cb_X4_loopBody_29 at hm
  refine lv_aload_n hx hb dX4_loopBody_29 rfl (lv_at hl 0 rfl) ?_
  obtain ⟨⟨r1, F1, G1⟩, hc, hm⟩ := bind_elim hm
  refine ccallV (n := 0) (As := []) (rest := []) C hw (hr.2.2.2.2.1 _ _ F G r1 F1 G1 hc) (hrn _ _ _ _ _ _ hc) (Nat.sub_le_sub_right (cn_X4_loopBody_33 fu rc hrn F1 G1 hm) _) (crecv_X4 C hw) cm_724 cm_725 cm_726 cm_244 cm_727 (by decide +kernel) rfl (by omega) (by omega) hl.1 rfl (Nat.le_of_ble_eq_true rfl) dX4_loopBody_30 (fun b H locs hw => ?_)
  exact cw_X4_loopBody_33 fu rc hr hrn C hret F1 G1 hm hw (lv_sub hl [0] rfl)
theorem cn_X4_loopBody_20 (fu : Nat) (rc : RC) (hrn : ∀ (i : Nat) (x y : Int32) (F : PF) (G : PG) (q : Int32 × PF × PG), rc i x y F G = some q → xn F ≤ xn q.2.1) {res : Int32 × PF × PG} (F : PF) (G : PG) (hm : cb_X4_loopBody_20 fu rc F G = some res) : xn F ≤ xn res.2.1 := by
  unfold cb_X4_loopBody_20 at hm
  obtain ⟨⟨r1, F1, G1⟩, hc, hm⟩ := bind_elim hm
  exact Nat.le_trans (cn_X1_add fu 89 F G _ hc) (cn_X4_loopBody_29 fu rc hrn F1 G1 hm)
theorem cw_X4_loopBody_20 (fu : Nat) (rc : RC) {dd : Nat} (hr : cH2 l v a rc dd) (hrn : ∀ (i : Nat) (x y : Int32) (F : PF) (G : PG) (q : Int32 × PF × PG), rc i x y F G = some q → xn F ≤ xn q.2.1) {res : Int32 × PF × PG} (C : cMC p R s m args c A v RX4 cX4_loopBody 1 (dd + 1 + 305) (60 * (dd + 1) + 18119) (xn res.2.1 - xn K0)) (hret : ∀ (b1 : Nat) (H1 : Heap) (locs1 : List Loc) (ls1 : Array Slot) (pc : Nat), cMW s A v a b1 K0 res.2.1 res.2.2 H1 locs1 → decode cX4_loopBody pc = .ok (.return_, 1) → W p l e R s m args below meth c H1 locs1 (xn res.2.1 - xn K0) (2 * (xn res.2.1 - xn K0)) Q (F0 m pc ls1 [])) (F : PF) (G : PG) (hm : cb_X4_loopBody_20 fu rc F G = some res) {b : Nat} {H : Heap} {locs : List Loc} (hw : cMW s A v a b K0 F G H locs) {ls : Array Slot} (hl : lv_has ls 1 [(0, .ref (a 204))]) : W p l e R s m args below meth c H locs (xn F - xn K0) (2 * (xn F - xn K0)) Q (F0 m 20 ls []) := by
  have hx := C.1
  have hb := C.2.1
  unfold cb_X4_loopBody_20 at hm
  refine lv_aload_n hx hb dX4_loopBody_20 rfl (lv_at hl 0 rfl) ?_
  refine cg_X4_19 C hw dX4_loopBody_21 ?_
  refine lv_bipush (v := 89) hx hb dX4_loopBody_24 (by decide) ?_
  obtain ⟨⟨r1, F1, G1⟩, hc, hm⟩ := bind_elim hm
  refine ccallV (n := 1) (As := [.int 89]) (rest := []) C hw (ck_X1_add l v a _ _ fu 89 F G r1 F1 G1 hc) (cn_X1_add fu 89 F G _ hc) (Nat.sub_le_sub_right (cn_X4_loopBody_29 fu rc hrn F1 G1 hm) _) (crecv_X1 C hw) cm_687 cm_453 cm_454 cm_369 cm_455 (by decide +kernel) rfl (by omega) (by omega) hl.1 rfl (Nat.le_of_ble_eq_true rfl) dX4_loopBody_26 (fun b H locs hw => ?_)
  exact cw_X4_loopBody_29 fu rc hr hrn C hret F1 G1 hm hw (lv_sub hl [0] rfl)
theorem cn_X4_loopBody_10 (fu : Nat) (rc : RC) (hrn : ∀ (i : Nat) (x y : Int32) (F : PF) (G : PG) (q : Int32 × PF × PG), rc i x y F G = some q → xn F ≤ xn q.2.1) {res : Int32 × PF × PG} (F : PF) (G : PG) (hm : cb_X4_loopBody_10 fu rc F G = some res) : xn F ≤ xn res.2.1 := by
  unfold cb_X4_loopBody_10 at hm
  exact Nat.le_trans (Nat.le_of_eq (xn_fup (by decide)).symm) (cn_X4_loopBody_20 fu rc hrn (fup F 29 ((F 29) + (1 : Int32))) G hm)
theorem cw_X4_loopBody_10 (fu : Nat) (rc : RC) {dd : Nat} (hr : cH2 l v a rc dd) (hrn : ∀ (i : Nat) (x y : Int32) (F : PF) (G : PG) (q : Int32 × PF × PG), rc i x y F G = some q → xn F ≤ xn q.2.1) {res : Int32 × PF × PG} (C : cMC p R s m args c A v RX4 cX4_loopBody 1 (dd + 1 + 305) (60 * (dd + 1) + 18119) (xn res.2.1 - xn K0)) (hret : ∀ (b1 : Nat) (H1 : Heap) (locs1 : List Loc) (ls1 : Array Slot) (pc : Nat), cMW s A v a b1 K0 res.2.1 res.2.2 H1 locs1 → decode cX4_loopBody pc = .ok (.return_, 1) → W p l e R s m args below meth c H1 locs1 (xn res.2.1 - xn K0) (2 * (xn res.2.1 - xn K0)) Q (F0 m pc ls1 [])) (F : PF) (G : PG) (hm : cb_X4_loopBody_10 fu rc F G = some res) {b : Nat} {H : Heap} {locs : List Loc} (hw : cMW s A v a b K0 F G H locs) {ls : Array Slot} (hl : lv_has ls 1 [(0, .ref (a 204))]) : W p l e R s m args below meth c H locs (xn F - xn K0) (2 * (xn F - xn K0)) Q (F0 m 10 ls []) := by
  have hx := C.1
  have hb := C.2.1
  unfold cb_X4_loopBody_10 at hm
  refine lv_aload_n hx hb dX4_loopBody_10 rfl (lv_at hl 0 rfl) ?_
  refine lv_dup hx hb dX4_loopBody_11 rfl ?_
  refine cg_X4_116 C hw dX4_loopBody_12 ?_
  refine lv_iconst (v := 1) hx hb dX4_loopBody_15 (by decide) ?_
  refine lv_iadd hx hb dX4_loopBody_16 ?_
  refine cp_X4_116 C hw dX4_loopBody_17 (fun H locs hw => ?_)
  exact cw_X4_loopBody_20 fu rc hr hrn C hret (fup F 29 ((F 29) + (1 : Int32))) G hm hw (lv_sub hl [0] rfl)
theorem cn_X4_loopBody_5 (fu : Nat) (rc : RC) (hrn : ∀ (i : Nat) (x y : Int32) (F : PF) (G : PG) (q : Int32 × PF × PG), rc i x y F G = some q → xn F ≤ xn q.2.1) {res : Int32 × PF × PG} (F : PF) (G : PG) (hm : cb_X4_loopBody_5 fu rc F G = some res) : xn F ≤ xn res.2.1 := by
  unfold cb_X4_loopBody_5 at hm
  exact Nat.le_trans (Nat.le_of_eq (xn_fup (by decide)).symm) (cn_X4_loopBody_10 fu rc hrn (fup F 31 (-1 : Int32)) G hm)
theorem cw_X4_loopBody_5 (fu : Nat) (rc : RC) {dd : Nat} (hr : cH2 l v a rc dd) (hrn : ∀ (i : Nat) (x y : Int32) (F : PF) (G : PG) (q : Int32 × PF × PG), rc i x y F G = some q → xn F ≤ xn q.2.1) {res : Int32 × PF × PG} (C : cMC p R s m args c A v RX4 cX4_loopBody 1 (dd + 1 + 305) (60 * (dd + 1) + 18119) (xn res.2.1 - xn K0)) (hret : ∀ (b1 : Nat) (H1 : Heap) (locs1 : List Loc) (ls1 : Array Slot) (pc : Nat), cMW s A v a b1 K0 res.2.1 res.2.2 H1 locs1 → decode cX4_loopBody pc = .ok (.return_, 1) → W p l e R s m args below meth c H1 locs1 (xn res.2.1 - xn K0) (2 * (xn res.2.1 - xn K0)) Q (F0 m pc ls1 [])) (F : PF) (G : PG) (hm : cb_X4_loopBody_5 fu rc F G = some res) {b : Nat} {H : Heap} {locs : List Loc} (hw : cMW s A v a b K0 F G H locs) {ls : Array Slot} (hl : lv_has ls 1 [(0, .ref (a 204))]) : W p l e R s m args below meth c H locs (xn F - xn K0) (2 * (xn F - xn K0)) Q (F0 m 5 ls []) := by
  have hx := C.1
  have hb := C.2.1
  unfold cb_X4_loopBody_5 at hm
  refine lv_aload_n hx hb dX4_loopBody_5 rfl (lv_at hl 0 rfl) ?_
  refine lv_iconst (v := (-1)) hx hb dX4_loopBody_6 (by decide) ?_
  refine cp_X4_122 C hw dX4_loopBody_7 (fun H locs hw => ?_)
  exact cw_X4_loopBody_10 fu rc hr hrn C hret (fup F 31 (-1 : Int32)) G hm hw (lv_sub hl [0] rfl)
theorem cn_X4_loopBody_0 (fu : Nat) (rc : RC) (hrn : ∀ (i : Nat) (x y : Int32) (F : PF) (G : PG) (q : Int32 × PF × PG), rc i x y F G = some q → xn F ≤ xn q.2.1) {res : Int32 × PF × PG} (F : PF) (G : PG) (hm : cb_X4_loopBody_0 fu rc F G = some res) : xn F ≤ xn res.2.1 := by
  unfold cb_X4_loopBody_0 at hm
  exact Nat.le_trans (Nat.le_of_eq (xn_fup (by decide)).symm) (cn_X4_loopBody_5 fu rc hrn (fup F 30 (-1 : Int32)) G hm)
theorem cw_X4_loopBody_0 (fu : Nat) (rc : RC) {dd : Nat} (hr : cH2 l v a rc dd) (hrn : ∀ (i : Nat) (x y : Int32) (F : PF) (G : PG) (q : Int32 × PF × PG), rc i x y F G = some q → xn F ≤ xn q.2.1) {res : Int32 × PF × PG} (C : cMC p R s m args c A v RX4 cX4_loopBody 1 (dd + 1 + 305) (60 * (dd + 1) + 18119) (xn res.2.1 - xn K0)) (hret : ∀ (b1 : Nat) (H1 : Heap) (locs1 : List Loc) (ls1 : Array Slot) (pc : Nat), cMW s A v a b1 K0 res.2.1 res.2.2 H1 locs1 → decode cX4_loopBody pc = .ok (.return_, 1) → W p l e R s m args below meth c H1 locs1 (xn res.2.1 - xn K0) (2 * (xn res.2.1 - xn K0)) Q (F0 m pc ls1 [])) (F : PF) (G : PG) (hm : cb_X4_loopBody_0 fu rc F G = some res) {b : Nat} {H : Heap} {locs : List Loc} (hw : cMW s A v a b K0 F G H locs) {ls : Array Slot} (hl : lv_has ls 1 [(0, .ref (a 204))]) : W p l e R s m args below meth c H locs (xn F - xn K0) (2 * (xn F - xn K0)) Q (F0 m 0 ls []) := by
  have hx := C.1
  have hb := C.2.1
  unfold cb_X4_loopBody_0 at hm
  refine lv_aload_n hx hb dX4_loopBody_0 rfl (lv_at hl 0 rfl) ?_
  refine lv_iconst (v := (-1)) hx hb dX4_loopBody_1 (by decide) ?_
  refine cp_X4_119 C hw dX4_loopBody_2 (fun H locs hw => ?_)
  exact cw_X4_loopBody_5 fu rc hr hrn C hret (fup F 30 (-1 : Int32)) G hm hw (lv_sub hl [0] rfl)
theorem cm_X4_loopBody (fu : Nat) (rc : RC) (hrn : ∀ (i : Nat) (x y : Int32) (F : PF) (G : PG) (q : Int32 × PF × PG), rc i x y F G = some q → xn F ≤ xn q.2.1) (F : PF) (G : PG) (q : Int32 × PF × PG) (hm : ch_X4_loopBody fu rc F G = some q) : xn F ≤ xn q.2.1 := cn_X4_loopBody_0 fu rc hrn F G hm
theorem cq_X4_loopBody (l : Launch) (v : EV) (a : Nat → Nat) (b sz : Nat) (fu : Nat) (rc : RC) {dd : Nat} (hr : cH2 l v a rc dd) (hrn : ∀ (i : Nat) (x y : Int32) (F : PF) (G : PG) (q : Int32 × PF × PG), rc i x y F G = some q → xn F ≤ xn q.2.1) (F : PF) (G : PG) (r : Int32) (F1 : PF) (G1 : PG) (hm : ch_X4_loopBody fu rc F G = some (r, F1, G1)) : cMV l yX4_loopBody cX4_loopBody 1 (dd + 1 + 305) (60 * (dd + 1) + 18119) v a b sz [.ref (a 204)] F G F1 G1 := cMV.of (by decide) (Nat.le_of_ble_eq_true rfl) (fun p e R s m args below meth c Q A H locs ls C hw hl hret => cw_X4_loopBody_0 fu rc hr hrn (res := (r, F1, G1)) C hret F G hm hw hl)
def cb_X4_statement_222 (fu : Nat) (rc : RC) (F : PF) (G : PG) : PR := some (0, F, G)
def cb_X4_statement_130 (fu : Nat) (rc : RC) (F : PF) (G : PG) : PR := cb_X4_statement_222 fu rc F G
def cb_X4_statement_123 (fu : Nat) (rc : RC) (F : PF) (G : PG) : PR := (cf_X5_leave fu F G).bind (fun q => cb_X4_statement_130 fu rc q.2.1 q.2.2)
def cb_X4_statement_119 (fu : Nat) (rc : RC) (F : PF) (G : PG) : PR := (rc 0 0 0 F G).bind (fun q => cb_X4_statement_123 fu rc q.2.1 q.2.2)
def cb_X4_statement_112 (fu : Nat) (rc : RC) (F : PF) (G : PG) : PR := (cf_X5_enter fu F G).bind (fun q => cb_X4_statement_119 fu rc q.2.1 q.2.2)
def cb_X4_statement_140 (fu : Nat) (rc : RC) (F : PF) (G : PG) : PR := cb_X4_statement_222 fu rc F G
def cb_X4_statement_133 (fu : Nat) (rc : RC) (F : PF) (G : PG) : PR := (cf_X2_next fu F G).bind (fun q => cb_X4_statement_140 fu rc q.2.1 q.2.2)
def cb_X4_statement_157 (fu : Nat) (rc : RC) (F : PF) (G : PG) : PR := cb_X4_statement_222 fu rc F G
def cb_X4_statement_148 (fu : Nat) (rc : RC) (F : PF) (G : PG) : PR := (cf_X2_expect fu 26 F G).bind (fun q => cb_X4_statement_157 fu rc q.2.1 q.2.2)
def cb_X4_statement_143 (fu : Nat) (rc : RC) (F : PF) (G : PG) : PR := (cf_X4_localTold fu 0 F G).bind (fun q => cb_X4_statement_148 fu rc q.2.1 q.2.2)
def cb_X4_statement_164 (fu : Nat) (rc : RC) (F : PF) (G : PG) : PR := cb_X4_statement_222 fu rc F G
def cb_X4_statement_160 (fu : Nat) (rc : RC) (F : PF) (G : PG) : PR := (rc 3 0 0 F G).bind (fun q => cb_X4_statement_164 fu rc q.2.1 q.2.2)
def cb_X4_statement_171 (fu : Nat) (rc : RC) (F : PF) (G : PG) : PR := cb_X4_statement_222 fu rc F G
def cb_X4_statement_167 (fu : Nat) (rc : RC) (F : PF) (G : PG) : PR := (rc 7 0 0 F G).bind (fun q => cb_X4_statement_171 fu rc q.2.1 q.2.2)
def cb_X4_statement_178 (fu : Nat) (rc : RC) (F : PF) (G : PG) : PR := cb_X4_statement_222 fu rc F G
def cb_X4_statement_174 (fu : Nat) (rc : RC) (F : PF) (G : PG) : PR := (rc 1 0 0 F G).bind (fun q => cb_X4_statement_178 fu rc q.2.1 q.2.2)
def cb_X4_statement_185 (fu : Nat) (rc : RC) (F : PF) (G : PG) : PR := cb_X4_statement_222 fu rc F G
def cb_X4_statement_181 (fu : Nat) (rc : RC) (F : PF) (G : PG) : PR := (rc 2 0 0 F G).bind (fun q => cb_X4_statement_185 fu rc q.2.1 q.2.2)
def cb_X4_statement_192 (fu : Nat) (rc : RC) (F : PF) (G : PG) : PR := cb_X4_statement_222 fu rc F G
def cb_X4_statement_188 (fu : Nat) (rc : RC) (F : PF) (G : PG) : PR := (cf_X4_leap fu F G).bind (fun q => cb_X4_statement_192 fu rc q.2.1 q.2.2)
def cb_X4_statement_199 (fu : Nat) (rc : RC) (F : PF) (G : PG) : PR := cb_X4_statement_222 fu rc F G
def cb_X4_statement_195 (fu : Nat) (rc : RC) (F : PF) (G : PG) : PR := (cf_X4_returnStatement fu F G).bind (fun q => cb_X4_statement_199 fu rc q.2.1 q.2.2)
def cb_X4_statement_206 (fu : Nat) (rc : RC) (F : PF) (G : PG) : PR := cb_X4_statement_222 fu rc F G
def cb_X4_statement_202 (fu : Nat) (rc : RC) (F : PF) (G : PG) : PR := (cf_X4_handOut fu F G).bind (fun q => cb_X4_statement_206 fu rc q.2.1 q.2.2)
def cb_X4_statement_213 (fu : Nat) (rc : RC) (F : PF) (G : PG) : PR := (cf_X2_expect fu 26 F G).bind (fun q => cb_X4_statement_222 fu rc q.2.1 q.2.2)
def cb_X4_statement_209 (fu : Nat) (rc : RC) (F : PF) (G : PG) : PR := (cf_X4_simple fu F G).bind (fun q => cb_X4_statement_213 fu rc q.2.1 q.2.2)
def cb_X4_statement_0 (fu : Nat) (rc : RC) (F : PF) (G : PG) : PR := if (F 11).toInt < 4 ∨ 26 < (F 11).toInt then cb_X4_statement_209 fu rc F G else if (F 11) = 4 then cb_X4_statement_143 fu rc F G else if (F 11) = 5 then cb_X4_statement_143 fu rc F G else if (F 11) = 6 then cb_X4_statement_209 fu rc F G else if (F 11) = 7 then cb_X4_statement_209 fu rc F G else if (F 11) = 8 then cb_X4_statement_160 fu rc F G else if (F 11) = 9 then cb_X4_statement_209 fu rc F G else if (F 11) = 10 then cb_X4_statement_167 fu rc F G else if (F 11) = 11 then cb_X4_statement_174 fu rc F G else if (F 11) = 12 then cb_X4_statement_181 fu rc F G else if (F 11) = 13 then cb_X4_statement_188 fu rc F G else if (F 11) = 14 then cb_X4_statement_188 fu rc F G else if (F 11) = 15 then cb_X4_statement_195 fu rc F G else if (F 11) = 16 then cb_X4_statement_202 fu rc F G else if (F 11) = 17 then cb_X4_statement_209 fu rc F G else if (F 11) = 18 then cb_X4_statement_202 fu rc F G else if (F 11) = 19 then cb_X4_statement_209 fu rc F G else if (F 11) = 20 then cb_X4_statement_209 fu rc F G else if (F 11) = 21 then cb_X4_statement_209 fu rc F G else if (F 11) = 22 then cb_X4_statement_209 fu rc F G else if (F 11) = 23 then cb_X4_statement_112 fu rc F G else if (F 11) = 24 then cb_X4_statement_209 fu rc F G else if (F 11) = 25 then cb_X4_statement_209 fu rc F G else cb_X4_statement_133 fu rc F G
def ch_X4_statement (fu : Nat) (rc : RC) (F : PF) (G : PG) : PR := cb_X4_statement_0 fu rc F G
theorem cn_X4_statement_222 (fu : Nat) (rc : RC) (hrn : ∀ (i : Nat) (x y : Int32) (F : PF) (G : PG) (q : Int32 × PF × PG), rc i x y F G = some q → xn F ≤ xn q.2.1) {res : Int32 × PF × PG} (F : PF) (G : PG) (hm : cb_X4_statement_222 fu rc F G = some res) : xn F ≤ xn res.2.1 := by
  unfold cb_X4_statement_222 at hm
  obtain rfl := Option.some.inj hm
  exact Nat.le_refl _
theorem cw_X4_statement_222 (fu : Nat) (rc : RC) {dd : Nat} (hr : cH2 l v a rc dd) (hrn : ∀ (i : Nat) (x y : Int32) (F : PF) (G : PG) (q : Int32 × PF × PG), rc i x y F G = some q → xn F ≤ xn q.2.1) {res : Int32 × PF × PG} (C : cMC p R s m args c A v RX4 cX4_statement 1 (dd + 1 + 305) (60 * (dd + 1) + 18119) (xn res.2.1 - xn K0)) (hret : ∀ (b1 : Nat) (H1 : Heap) (locs1 : List Loc) (ls1 : Array Slot) (pc : Nat), cMW s A v a b1 K0 res.2.1 res.2.2 H1 locs1 → decode cX4_statement pc = .ok (.return_, 1) → W p l e R s m args below meth c H1 locs1 (xn res.2.1 - xn K0) (2 * (xn res.2.1 - xn K0)) Q (F0 m pc ls1 [])) (F : PF) (G : PG) (hm : cb_X4_statement_222 fu rc F G = some res) {b : Nat} {H : Heap} {locs : List Loc} (hw : cMW s A v a b K0 F G H locs) {ls : Array Slot} (hl : lv_has ls 1 []) : W p l e R s m args below meth c H locs (xn F - xn K0) (2 * (xn F - xn K0)) Q (F0 m 222 ls []) := by
  have hx := C.1
  have hb := C.2.1
  unfold cb_X4_statement_222 at hm
  obtain rfl := Option.some.inj hm
  exact hret _ _ _ _ _ hw dX4_statement_222
theorem cn_X4_statement_130 (fu : Nat) (rc : RC) (hrn : ∀ (i : Nat) (x y : Int32) (F : PF) (G : PG) (q : Int32 × PF × PG), rc i x y F G = some q → xn F ≤ xn q.2.1) {res : Int32 × PF × PG} (F : PF) (G : PG) (hm : cb_X4_statement_130 fu rc F G = some res) : xn F ≤ xn res.2.1 := by
  unfold cb_X4_statement_130 at hm
  exact (cn_X4_statement_222 fu rc hrn F G hm)
theorem cw_X4_statement_130 (fu : Nat) (rc : RC) {dd : Nat} (hr : cH2 l v a rc dd) (hrn : ∀ (i : Nat) (x y : Int32) (F : PF) (G : PG) (q : Int32 × PF × PG), rc i x y F G = some q → xn F ≤ xn q.2.1) {res : Int32 × PF × PG} (C : cMC p R s m args c A v RX4 cX4_statement 1 (dd + 1 + 305) (60 * (dd + 1) + 18119) (xn res.2.1 - xn K0)) (hret : ∀ (b1 : Nat) (H1 : Heap) (locs1 : List Loc) (ls1 : Array Slot) (pc : Nat), cMW s A v a b1 K0 res.2.1 res.2.2 H1 locs1 → decode cX4_statement pc = .ok (.return_, 1) → W p l e R s m args below meth c H1 locs1 (xn res.2.1 - xn K0) (2 * (xn res.2.1 - xn K0)) Q (F0 m pc ls1 [])) (F : PF) (G : PG) (hm : cb_X4_statement_130 fu rc F G = some res) {b : Nat} {H : Heap} {locs : List Loc} (hw : cMW s A v a b K0 F G H locs) {ls : Array Slot} (hl : lv_has ls 1 []) : W p l e R s m args below meth c H locs (xn F - xn K0) (2 * (xn F - xn K0)) Q (F0 m 130 ls []) := by
  have hx := C.1
  have hb := C.2.1
  unfold cb_X4_statement_130 at hm
  refine lv_goto (tgt := 222) hx hb dX4_statement_130 (by decide) ?_
  exact cw_X4_statement_222 fu rc hr hrn C hret F G hm hw (lv_sub hl [] rfl)
theorem cn_X4_statement_123 (fu : Nat) (rc : RC) (hrn : ∀ (i : Nat) (x y : Int32) (F : PF) (G : PG) (q : Int32 × PF × PG), rc i x y F G = some q → xn F ≤ xn q.2.1) {res : Int32 × PF × PG} (F : PF) (G : PG) (hm : cb_X4_statement_123 fu rc F G = some res) : xn F ≤ xn res.2.1 := by
  unfold cb_X4_statement_123 at hm
  obtain ⟨⟨r1, F1, G1⟩, hc, hm⟩ := bind_elim hm
  exact Nat.le_trans (cn_X5_leave fu F G _ hc) (cn_X4_statement_130 fu rc hrn F1 G1 hm)
theorem cw_X4_statement_123 (fu : Nat) (rc : RC) {dd : Nat} (hr : cH2 l v a rc dd) (hrn : ∀ (i : Nat) (x y : Int32) (F : PF) (G : PG) (q : Int32 × PF × PG), rc i x y F G = some q → xn F ≤ xn q.2.1) {res : Int32 × PF × PG} (C : cMC p R s m args c A v RX4 cX4_statement 1 (dd + 1 + 305) (60 * (dd + 1) + 18119) (xn res.2.1 - xn K0)) (hret : ∀ (b1 : Nat) (H1 : Heap) (locs1 : List Loc) (ls1 : Array Slot) (pc : Nat), cMW s A v a b1 K0 res.2.1 res.2.2 H1 locs1 → decode cX4_statement pc = .ok (.return_, 1) → W p l e R s m args below meth c H1 locs1 (xn res.2.1 - xn K0) (2 * (xn res.2.1 - xn K0)) Q (F0 m pc ls1 [])) (F : PF) (G : PG) (hm : cb_X4_statement_123 fu rc F G = some res) {b : Nat} {H : Heap} {locs : List Loc} (hw : cMW s A v a b K0 F G H locs) {ls : Array Slot} (hl : lv_has ls 1 [(0, .ref (a 204))]) : W p l e R s m args below meth c H locs (xn F - xn K0) (2 * (xn F - xn K0)) Q (F0 m 123 ls []) := by
  have hx := C.1
  have hb := C.2.1
  unfold cb_X4_statement_123 at hm
  refine lv_aload_n hx hb dX4_statement_123 rfl (lv_at hl 0 rfl) ?_
  refine cg_X4_15 C hw dX4_statement_124 ?_
  obtain ⟨⟨r1, F1, G1⟩, hc, hm⟩ := bind_elim hm
  refine ccallV (n := 0) (As := []) (rest := []) C hw (ck_X5_leave l v a _ _ fu F G r1 F1 G1 hc) (cn_X5_leave fu F G _ hc) (Nat.sub_le_sub_right (cn_X4_statement_130 fu rc hrn F1 G1 hm) _) (crecv_X5 C hw) cm_719 cm_720 cm_721 cm_266 cm_722 (by decide +kernel) rfl (by omega) (by omega) hl.1 rfl (Nat.le_of_ble_eq_true rfl) dX4_statement_127 (fun b H locs hw => ?_)
  exact cw_X4_statement_130 fu rc hr hrn C hret F1 G1 hm hw (lv_sub hl [] rfl)
theorem cn_X4_statement_119 (fu : Nat) (rc : RC) (hrn : ∀ (i : Nat) (x y : Int32) (F : PF) (G : PG) (q : Int32 × PF × PG), rc i x y F G = some q → xn F ≤ xn q.2.1) {res : Int32 × PF × PG} (F : PF) (G : PG) (hm : cb_X4_statement_119 fu rc F G = some res) : xn F ≤ xn res.2.1 := by
  unfold cb_X4_statement_119 at hm
  obtain ⟨⟨r1, F1, G1⟩, hc, hm⟩ := bind_elim hm
  exact Nat.le_trans (hrn _ _ _ _ _ _ hc) (cn_X4_statement_123 fu rc hrn F1 G1 hm)
theorem cw_X4_statement_119 (fu : Nat) (rc : RC) {dd : Nat} (hr : cH2 l v a rc dd) (hrn : ∀ (i : Nat) (x y : Int32) (F : PF) (G : PG) (q : Int32 × PF × PG), rc i x y F G = some q → xn F ≤ xn q.2.1) {res : Int32 × PF × PG} (C : cMC p R s m args c A v RX4 cX4_statement 1 (dd + 1 + 305) (60 * (dd + 1) + 18119) (xn res.2.1 - xn K0)) (hret : ∀ (b1 : Nat) (H1 : Heap) (locs1 : List Loc) (ls1 : Array Slot) (pc : Nat), cMW s A v a b1 K0 res.2.1 res.2.2 H1 locs1 → decode cX4_statement pc = .ok (.return_, 1) → W p l e R s m args below meth c H1 locs1 (xn res.2.1 - xn K0) (2 * (xn res.2.1 - xn K0)) Q (F0 m pc ls1 [])) (F : PF) (G : PG) (hm : cb_X4_statement_119 fu rc F G = some res) {b : Nat} {H : Heap} {locs : List Loc} (hw : cMW s A v a b K0 F G H locs) {ls : Array Slot} (hl : lv_has ls 1 [(0, .ref (a 204))]) : W p l e R s m args below meth c H locs (xn F - xn K0) (2 * (xn F - xn K0)) Q (F0 m 119 ls []) := by
  have hx := C.1
  have hb := C.2.1
  unfold cb_X4_statement_119 at hm
  refine lv_aload_n hx hb dX4_statement_119 rfl (lv_at hl 0 rfl) ?_
  obtain ⟨⟨r1, F1, G1⟩, hc, hm⟩ := bind_elim hm
  refine ccallV (n := 0) (As := []) (rest := []) C hw (hr.1 _ _ F G r1 F1 G1 hc) (hrn _ _ _ _ _ _ hc) (Nat.sub_le_sub_right (cn_X4_statement_123 fu rc hrn F1 G1 hm) _) (crecv_X4 C hw) cm_643 cm_644 cm_645 cm_244 cm_646 (by decide +kernel) rfl (by omega) (by omega) hl.1 rfl (Nat.le_of_ble_eq_true rfl) dX4_statement_120 (fun b H locs hw => ?_)
  exact cw_X4_statement_123 fu rc hr hrn C hret F1 G1 hm hw (lv_sub hl [0] rfl)
theorem cn_X4_statement_112 (fu : Nat) (rc : RC) (hrn : ∀ (i : Nat) (x y : Int32) (F : PF) (G : PG) (q : Int32 × PF × PG), rc i x y F G = some q → xn F ≤ xn q.2.1) {res : Int32 × PF × PG} (F : PF) (G : PG) (hm : cb_X4_statement_112 fu rc F G = some res) : xn F ≤ xn res.2.1 := by
  unfold cb_X4_statement_112 at hm
  obtain ⟨⟨r1, F1, G1⟩, hc, hm⟩ := bind_elim hm
  exact Nat.le_trans (cn_X5_enter fu F G _ hc) (cn_X4_statement_119 fu rc hrn F1 G1 hm)
theorem cw_X4_statement_112 (fu : Nat) (rc : RC) {dd : Nat} (hr : cH2 l v a rc dd) (hrn : ∀ (i : Nat) (x y : Int32) (F : PF) (G : PG) (q : Int32 × PF × PG), rc i x y F G = some q → xn F ≤ xn q.2.1) {res : Int32 × PF × PG} (C : cMC p R s m args c A v RX4 cX4_statement 1 (dd + 1 + 305) (60 * (dd + 1) + 18119) (xn res.2.1 - xn K0)) (hret : ∀ (b1 : Nat) (H1 : Heap) (locs1 : List Loc) (ls1 : Array Slot) (pc : Nat), cMW s A v a b1 K0 res.2.1 res.2.2 H1 locs1 → decode cX4_statement pc = .ok (.return_, 1) → W p l e R s m args below meth c H1 locs1 (xn res.2.1 - xn K0) (2 * (xn res.2.1 - xn K0)) Q (F0 m pc ls1 [])) (F : PF) (G : PG) (hm : cb_X4_statement_112 fu rc F G = some res) {b : Nat} {H : Heap} {locs : List Loc} (hw : cMW s A v a b K0 F G H locs) {ls : Array Slot} (hl : lv_has ls 1 [(0, .ref (a 204))]) : W p l e R s m args below meth c H locs (xn F - xn K0) (2 * (xn F - xn K0)) Q (F0 m 112 ls []) := by
  have hx := C.1
  have hb := C.2.1
  unfold cb_X4_statement_112 at hm
  refine lv_aload_n hx hb dX4_statement_112 rfl (lv_at hl 0 rfl) ?_
  refine cg_X4_15 C hw dX4_statement_113 ?_
  obtain ⟨⟨r1, F1, G1⟩, hc, hm⟩ := bind_elim hm
  refine ccallV (n := 0) (As := []) (rest := []) C hw (ck_X5_enter l v a _ _ fu F G r1 F1 G1 hc) (cn_X5_enter fu F G _ hc) (Nat.sub_le_sub_right (cn_X4_statement_119 fu rc hrn F1 G1 hm) _) (crecv_X5 C hw) cm_663 cm_616 cm_617 cm_266 cm_618 (by decide +kernel) rfl (by omega) (by omega) hl.1 rfl (Nat.le_of_ble_eq_true rfl) dX4_statement_116 (fun b H locs hw => ?_)
  exact cw_X4_statement_119 fu rc hr hrn C hret F1 G1 hm hw (lv_sub hl [0] rfl)
theorem cn_X4_statement_140 (fu : Nat) (rc : RC) (hrn : ∀ (i : Nat) (x y : Int32) (F : PF) (G : PG) (q : Int32 × PF × PG), rc i x y F G = some q → xn F ≤ xn q.2.1) {res : Int32 × PF × PG} (F : PF) (G : PG) (hm : cb_X4_statement_140 fu rc F G = some res) : xn F ≤ xn res.2.1 := by
  unfold cb_X4_statement_140 at hm
  exact (cn_X4_statement_222 fu rc hrn F G hm)
theorem cw_X4_statement_140 (fu : Nat) (rc : RC) {dd : Nat} (hr : cH2 l v a rc dd) (hrn : ∀ (i : Nat) (x y : Int32) (F : PF) (G : PG) (q : Int32 × PF × PG), rc i x y F G = some q → xn F ≤ xn q.2.1) {res : Int32 × PF × PG} (C : cMC p R s m args c A v RX4 cX4_statement 1 (dd + 1 + 305) (60 * (dd + 1) + 18119) (xn res.2.1 - xn K0)) (hret : ∀ (b1 : Nat) (H1 : Heap) (locs1 : List Loc) (ls1 : Array Slot) (pc : Nat), cMW s A v a b1 K0 res.2.1 res.2.2 H1 locs1 → decode cX4_statement pc = .ok (.return_, 1) → W p l e R s m args below meth c H1 locs1 (xn res.2.1 - xn K0) (2 * (xn res.2.1 - xn K0)) Q (F0 m pc ls1 [])) (F : PF) (G : PG) (hm : cb_X4_statement_140 fu rc F G = some res) {b : Nat} {H : Heap} {locs : List Loc} (hw : cMW s A v a b K0 F G H locs) {ls : Array Slot} (hl : lv_has ls 1 []) : W p l e R s m args below meth c H locs (xn F - xn K0) (2 * (xn F - xn K0)) Q (F0 m 140 ls []) := by
  have hx := C.1
  have hb := C.2.1
  unfold cb_X4_statement_140 at hm
  refine lv_goto (tgt := 222) hx hb dX4_statement_140 (by decide) ?_
  exact cw_X4_statement_222 fu rc hr hrn C hret F G hm hw (lv_sub hl [] rfl)
theorem cn_X4_statement_133 (fu : Nat) (rc : RC) (hrn : ∀ (i : Nat) (x y : Int32) (F : PF) (G : PG) (q : Int32 × PF × PG), rc i x y F G = some q → xn F ≤ xn q.2.1) {res : Int32 × PF × PG} (F : PF) (G : PG) (hm : cb_X4_statement_133 fu rc F G = some res) : xn F ≤ xn res.2.1 := by
  unfold cb_X4_statement_133 at hm
  obtain ⟨⟨r1, F1, G1⟩, hc, hm⟩ := bind_elim hm
  exact Nat.le_trans (cn_X2_next fu F G _ hc) (cn_X4_statement_140 fu rc hrn F1 G1 hm)
theorem cw_X4_statement_133 (fu : Nat) (rc : RC) {dd : Nat} (hr : cH2 l v a rc dd) (hrn : ∀ (i : Nat) (x y : Int32) (F : PF) (G : PG) (q : Int32 × PF × PG), rc i x y F G = some q → xn F ≤ xn q.2.1) {res : Int32 × PF × PG} (C : cMC p R s m args c A v RX4 cX4_statement 1 (dd + 1 + 305) (60 * (dd + 1) + 18119) (xn res.2.1 - xn K0)) (hret : ∀ (b1 : Nat) (H1 : Heap) (locs1 : List Loc) (ls1 : Array Slot) (pc : Nat), cMW s A v a b1 K0 res.2.1 res.2.2 H1 locs1 → decode cX4_statement pc = .ok (.return_, 1) → W p l e R s m args below meth c H1 locs1 (xn res.2.1 - xn K0) (2 * (xn res.2.1 - xn K0)) Q (F0 m pc ls1 [])) (F : PF) (G : PG) (hm : cb_X4_statement_133 fu rc F G = some res) {b : Nat} {H : Heap} {locs : List Loc} (hw : cMW s A v a b K0 F G H locs) {ls : Array Slot} (hl : lv_has ls 1 [(0, .ref (a 204))]) : W p l e R s m args below meth c H locs (xn F - xn K0) (2 * (xn F - xn K0)) Q (F0 m 133 ls []) := by
  have hx := C.1
  have hb := C.2.1
  unfold cb_X4_statement_133 at hm
  refine lv_aload_n hx hb dX4_statement_133 rfl (lv_at hl 0 rfl) ?_
  refine cg_X4_9 C hw dX4_statement_134 ?_
  obtain ⟨⟨r1, F1, G1⟩, hc, hm⟩ := bind_elim hm
  refine ccallV (n := 0) (As := []) (rest := []) C hw (ck_X2_next l v a _ _ fu F G r1 F1 G1 hc) (cn_X2_next fu F G _ hc) (Nat.sub_le_sub_right (cn_X4_statement_140 fu rc hrn F1 G1 hm) _) (crecv_X2 C hw) cm_320 cm_321 cm_322 cm_307 cm_323 (by decide +kernel) rfl (by omega) (by omega) hl.1 rfl (Nat.le_of_ble_eq_true rfl) dX4_statement_137 (fun b H locs hw => ?_)
  exact cw_X4_statement_140 fu rc hr hrn C hret F1 G1 hm hw (lv_sub hl [] rfl)
theorem cn_X4_statement_157 (fu : Nat) (rc : RC) (hrn : ∀ (i : Nat) (x y : Int32) (F : PF) (G : PG) (q : Int32 × PF × PG), rc i x y F G = some q → xn F ≤ xn q.2.1) {res : Int32 × PF × PG} (F : PF) (G : PG) (hm : cb_X4_statement_157 fu rc F G = some res) : xn F ≤ xn res.2.1 := by
  unfold cb_X4_statement_157 at hm
  exact (cn_X4_statement_222 fu rc hrn F G hm)
theorem cw_X4_statement_157 (fu : Nat) (rc : RC) {dd : Nat} (hr : cH2 l v a rc dd) (hrn : ∀ (i : Nat) (x y : Int32) (F : PF) (G : PG) (q : Int32 × PF × PG), rc i x y F G = some q → xn F ≤ xn q.2.1) {res : Int32 × PF × PG} (C : cMC p R s m args c A v RX4 cX4_statement 1 (dd + 1 + 305) (60 * (dd + 1) + 18119) (xn res.2.1 - xn K0)) (hret : ∀ (b1 : Nat) (H1 : Heap) (locs1 : List Loc) (ls1 : Array Slot) (pc : Nat), cMW s A v a b1 K0 res.2.1 res.2.2 H1 locs1 → decode cX4_statement pc = .ok (.return_, 1) → W p l e R s m args below meth c H1 locs1 (xn res.2.1 - xn K0) (2 * (xn res.2.1 - xn K0)) Q (F0 m pc ls1 [])) (F : PF) (G : PG) (hm : cb_X4_statement_157 fu rc F G = some res) {b : Nat} {H : Heap} {locs : List Loc} (hw : cMW s A v a b K0 F G H locs) {ls : Array Slot} (hl : lv_has ls 1 []) : W p l e R s m args below meth c H locs (xn F - xn K0) (2 * (xn F - xn K0)) Q (F0 m 157 ls []) := by
  have hx := C.1
  have hb := C.2.1
  unfold cb_X4_statement_157 at hm
  refine lv_goto (tgt := 222) hx hb dX4_statement_157 (by decide) ?_
  exact cw_X4_statement_222 fu rc hr hrn C hret F G hm hw (lv_sub hl [] rfl)
theorem cn_X4_statement_148 (fu : Nat) (rc : RC) (hrn : ∀ (i : Nat) (x y : Int32) (F : PF) (G : PG) (q : Int32 × PF × PG), rc i x y F G = some q → xn F ≤ xn q.2.1) {res : Int32 × PF × PG} (F : PF) (G : PG) (hm : cb_X4_statement_148 fu rc F G = some res) : xn F ≤ xn res.2.1 := by
  unfold cb_X4_statement_148 at hm
  obtain ⟨⟨r1, F1, G1⟩, hc, hm⟩ := bind_elim hm
  exact Nat.le_trans (cn_X2_expect fu 26 F G _ hc) (cn_X4_statement_157 fu rc hrn F1 G1 hm)
theorem cw_X4_statement_148 (fu : Nat) (rc : RC) {dd : Nat} (hr : cH2 l v a rc dd) (hrn : ∀ (i : Nat) (x y : Int32) (F : PF) (G : PG) (q : Int32 × PF × PG), rc i x y F G = some q → xn F ≤ xn q.2.1) {res : Int32 × PF × PG} (C : cMC p R s m args c A v RX4 cX4_statement 1 (dd + 1 + 305) (60 * (dd + 1) + 18119) (xn res.2.1 - xn K0)) (hret : ∀ (b1 : Nat) (H1 : Heap) (locs1 : List Loc) (ls1 : Array Slot) (pc : Nat), cMW s A v a b1 K0 res.2.1 res.2.2 H1 locs1 → decode cX4_statement pc = .ok (.return_, 1) → W p l e R s m args below meth c H1 locs1 (xn res.2.1 - xn K0) (2 * (xn res.2.1 - xn K0)) Q (F0 m pc ls1 [])) (F : PF) (G : PG) (hm : cb_X4_statement_148 fu rc F G = some res) {b : Nat} {H : Heap} {locs : List Loc} (hw : cMW s A v a b K0 F G H locs) {ls : Array Slot} (hl : lv_has ls 1 [(0, .ref (a 204))]) : W p l e R s m args below meth c H locs (xn F - xn K0) (2 * (xn F - xn K0)) Q (F0 m 148 ls []) := by
  have hx := C.1
  have hb := C.2.1
  unfold cb_X4_statement_148 at hm
  refine lv_aload_n hx hb dX4_statement_148 rfl (lv_at hl 0 rfl) ?_
  refine cg_X4_9 C hw dX4_statement_149 ?_
  refine lv_bipush (v := 26) hx hb dX4_statement_152 (by decide) ?_
  obtain ⟨⟨r1, F1, G1⟩, hc, hm⟩ := bind_elim hm
  refine ccallV (n := 1) (As := [.int 26]) (rest := []) C hw (ck_X2_expect l v a _ _ fu 26 F G r1 F1 G1 hc) (cn_X2_expect fu 26 F G _ hc) (Nat.sub_le_sub_right (cn_X4_statement_157 fu rc hrn F1 G1 hm) _) (crecv_X2 C hw) cm_332 cm_333 cm_334 cm_307 cm_335 (by decide +kernel) rfl (by omega) (by omega) hl.1 rfl (Nat.le_of_ble_eq_true rfl) dX4_statement_154 (fun b H locs hw => ?_)
  exact cw_X4_statement_157 fu rc hr hrn C hret F1 G1 hm hw (lv_sub hl [] rfl)
theorem cn_X4_statement_143 (fu : Nat) (rc : RC) (hrn : ∀ (i : Nat) (x y : Int32) (F : PF) (G : PG) (q : Int32 × PF × PG), rc i x y F G = some q → xn F ≤ xn q.2.1) {res : Int32 × PF × PG} (F : PF) (G : PG) (hm : cb_X4_statement_143 fu rc F G = some res) : xn F ≤ xn res.2.1 := by
  unfold cb_X4_statement_143 at hm
  obtain ⟨⟨r1, F1, G1⟩, hc, hm⟩ := bind_elim hm
  exact Nat.le_trans (cn_X4_localTold fu 0 F G _ hc) (cn_X4_statement_148 fu rc hrn F1 G1 hm)
theorem cw_X4_statement_143 (fu : Nat) (rc : RC) {dd : Nat} (hr : cH2 l v a rc dd) (hrn : ∀ (i : Nat) (x y : Int32) (F : PF) (G : PG) (q : Int32 × PF × PG), rc i x y F G = some q → xn F ≤ xn q.2.1) {res : Int32 × PF × PG} (C : cMC p R s m args c A v RX4 cX4_statement 1 (dd + 1 + 305) (60 * (dd + 1) + 18119) (xn res.2.1 - xn K0)) (hret : ∀ (b1 : Nat) (H1 : Heap) (locs1 : List Loc) (ls1 : Array Slot) (pc : Nat), cMW s A v a b1 K0 res.2.1 res.2.2 H1 locs1 → decode cX4_statement pc = .ok (.return_, 1) → W p l e R s m args below meth c H1 locs1 (xn res.2.1 - xn K0) (2 * (xn res.2.1 - xn K0)) Q (F0 m pc ls1 [])) (F : PF) (G : PG) (hm : cb_X4_statement_143 fu rc F G = some res) {b : Nat} {H : Heap} {locs : List Loc} (hw : cMW s A v a b K0 F G H locs) {ls : Array Slot} (hl : lv_has ls 1 [(0, .ref (a 204))]) : W p l e R s m args below meth c H locs (xn F - xn K0) (2 * (xn F - xn K0)) Q (F0 m 143 ls []) := by
  have hx := C.1
  have hb := C.2.1
  unfold cb_X4_statement_143 at hm
  refine lv_aload_n hx hb dX4_statement_143 rfl (lv_at hl 0 rfl) ?_
  refine lv_iconst (v := 0) hx hb dX4_statement_144 (by decide) ?_
  obtain ⟨⟨r1, F1, G1⟩, hc, hm⟩ := bind_elim hm
  refine ccallV (n := 1) (As := [.int 0]) (rest := []) C hw (ck_X4_localTold l v a _ _ fu 0 F G r1 F1 G1 hc) (cn_X4_localTold fu 0 F G _ hc) (Nat.sub_le_sub_right (cn_X4_statement_148 fu rc hrn F1 G1 hm) _) (crecv_X4 C hw) cm_664 cm_665 cm_666 cm_244 cm_667 (by decide +kernel) rfl (by omega) (by omega) hl.1 rfl (Nat.le_of_ble_eq_true rfl) dX4_statement_145 (fun b H locs hw => ?_)
  exact cw_X4_statement_148 fu rc hr hrn C hret F1 G1 hm hw (lv_sub hl [0] rfl)
theorem cn_X4_statement_164 (fu : Nat) (rc : RC) (hrn : ∀ (i : Nat) (x y : Int32) (F : PF) (G : PG) (q : Int32 × PF × PG), rc i x y F G = some q → xn F ≤ xn q.2.1) {res : Int32 × PF × PG} (F : PF) (G : PG) (hm : cb_X4_statement_164 fu rc F G = some res) : xn F ≤ xn res.2.1 := by
  unfold cb_X4_statement_164 at hm
  exact (cn_X4_statement_222 fu rc hrn F G hm)
theorem cw_X4_statement_164 (fu : Nat) (rc : RC) {dd : Nat} (hr : cH2 l v a rc dd) (hrn : ∀ (i : Nat) (x y : Int32) (F : PF) (G : PG) (q : Int32 × PF × PG), rc i x y F G = some q → xn F ≤ xn q.2.1) {res : Int32 × PF × PG} (C : cMC p R s m args c A v RX4 cX4_statement 1 (dd + 1 + 305) (60 * (dd + 1) + 18119) (xn res.2.1 - xn K0)) (hret : ∀ (b1 : Nat) (H1 : Heap) (locs1 : List Loc) (ls1 : Array Slot) (pc : Nat), cMW s A v a b1 K0 res.2.1 res.2.2 H1 locs1 → decode cX4_statement pc = .ok (.return_, 1) → W p l e R s m args below meth c H1 locs1 (xn res.2.1 - xn K0) (2 * (xn res.2.1 - xn K0)) Q (F0 m pc ls1 [])) (F : PF) (G : PG) (hm : cb_X4_statement_164 fu rc F G = some res) {b : Nat} {H : Heap} {locs : List Loc} (hw : cMW s A v a b K0 F G H locs) {ls : Array Slot} (hl : lv_has ls 1 []) : W p l e R s m args below meth c H locs (xn F - xn K0) (2 * (xn F - xn K0)) Q (F0 m 164 ls []) := by
  have hx := C.1
  have hb := C.2.1
  unfold cb_X4_statement_164 at hm
  refine lv_goto (tgt := 222) hx hb dX4_statement_164 (by decide) ?_
  exact cw_X4_statement_222 fu rc hr hrn C hret F G hm hw (lv_sub hl [] rfl)
theorem cn_X4_statement_160 (fu : Nat) (rc : RC) (hrn : ∀ (i : Nat) (x y : Int32) (F : PF) (G : PG) (q : Int32 × PF × PG), rc i x y F G = some q → xn F ≤ xn q.2.1) {res : Int32 × PF × PG} (F : PF) (G : PG) (hm : cb_X4_statement_160 fu rc F G = some res) : xn F ≤ xn res.2.1 := by
  unfold cb_X4_statement_160 at hm
  obtain ⟨⟨r1, F1, G1⟩, hc, hm⟩ := bind_elim hm
  exact Nat.le_trans (hrn _ _ _ _ _ _ hc) (cn_X4_statement_164 fu rc hrn F1 G1 hm)
theorem cw_X4_statement_160 (fu : Nat) (rc : RC) {dd : Nat} (hr : cH2 l v a rc dd) (hrn : ∀ (i : Nat) (x y : Int32) (F : PF) (G : PG) (q : Int32 × PF × PG), rc i x y F G = some q → xn F ≤ xn q.2.1) {res : Int32 × PF × PG} (C : cMC p R s m args c A v RX4 cX4_statement 1 (dd + 1 + 305) (60 * (dd + 1) + 18119) (xn res.2.1 - xn K0)) (hret : ∀ (b1 : Nat) (H1 : Heap) (locs1 : List Loc) (ls1 : Array Slot) (pc : Nat), cMW s A v a b1 K0 res.2.1 res.2.2 H1 locs1 → decode cX4_statement pc = .ok (.return_, 1) → W p l e R s m args below meth c H1 locs1 (xn res.2.1 - xn K0) (2 * (xn res.2.1 - xn K0)) Q (F0 m pc ls1 [])) (F : PF) (G : PG) (hm : cb_X4_statement_160 fu rc F G = some res) {b : Nat} {H : Heap} {locs : List Loc} (hw : cMW s A v a b K0 F G H locs) {ls : Array Slot} (hl : lv_has ls 1 [(0, .ref (a 204))]) : W p l e R s m args below meth c H locs (xn F - xn K0) (2 * (xn F - xn K0)) Q (F0 m 160 ls []) := by
  have hx := C.1
  have hb := C.2.1
  unfold cb_X4_statement_160 at hm
  refine lv_aload_n hx hb dX4_statement_160 rfl (lv_at hl 0 rfl) ?_
  obtain ⟨⟨r1, F1, G1⟩, hc, hm⟩ := bind_elim hm
  refine ccallV (n := 0) (As := []) (rest := []) C hw (hr.2.2.2.1 _ _ F G r1 F1 G1 hc) (hrn _ _ _ _ _ _ hc) (Nat.sub_le_sub_right (cn_X4_statement_164 fu rc hrn F1 G1 hm) _) (crecv_X4 C hw) cm_730 cm_731 cm_732 cm_244 cm_723 (by decide +kernel) rfl (by omega) (by omega) hl.1 rfl (Nat.le_of_ble_eq_true rfl) dX4_statement_161 (fun b H locs hw => ?_)
  exact cw_X4_statement_164 fu rc hr hrn C hret F1 G1 hm hw (lv_sub hl [] rfl)
theorem cn_X4_statement_171 (fu : Nat) (rc : RC) (hrn : ∀ (i : Nat) (x y : Int32) (F : PF) (G : PG) (q : Int32 × PF × PG), rc i x y F G = some q → xn F ≤ xn q.2.1) {res : Int32 × PF × PG} (F : PF) (G : PG) (hm : cb_X4_statement_171 fu rc F G = some res) : xn F ≤ xn res.2.1 := by
  unfold cb_X4_statement_171 at hm
  exact (cn_X4_statement_222 fu rc hrn F G hm)
theorem cw_X4_statement_171 (fu : Nat) (rc : RC) {dd : Nat} (hr : cH2 l v a rc dd) (hrn : ∀ (i : Nat) (x y : Int32) (F : PF) (G : PG) (q : Int32 × PF × PG), rc i x y F G = some q → xn F ≤ xn q.2.1) {res : Int32 × PF × PG} (C : cMC p R s m args c A v RX4 cX4_statement 1 (dd + 1 + 305) (60 * (dd + 1) + 18119) (xn res.2.1 - xn K0)) (hret : ∀ (b1 : Nat) (H1 : Heap) (locs1 : List Loc) (ls1 : Array Slot) (pc : Nat), cMW s A v a b1 K0 res.2.1 res.2.2 H1 locs1 → decode cX4_statement pc = .ok (.return_, 1) → W p l e R s m args below meth c H1 locs1 (xn res.2.1 - xn K0) (2 * (xn res.2.1 - xn K0)) Q (F0 m pc ls1 [])) (F : PF) (G : PG) (hm : cb_X4_statement_171 fu rc F G = some res) {b : Nat} {H : Heap} {locs : List Loc} (hw : cMW s A v a b K0 F G H locs) {ls : Array Slot} (hl : lv_has ls 1 []) : W p l e R s m args below meth c H locs (xn F - xn K0) (2 * (xn F - xn K0)) Q (F0 m 171 ls []) := by
  have hx := C.1
  have hb := C.2.1
  unfold cb_X4_statement_171 at hm
  refine lv_goto (tgt := 222) hx hb dX4_statement_171 (by decide) ?_
  exact cw_X4_statement_222 fu rc hr hrn C hret F G hm hw (lv_sub hl [] rfl)
theorem cn_X4_statement_167 (fu : Nat) (rc : RC) (hrn : ∀ (i : Nat) (x y : Int32) (F : PF) (G : PG) (q : Int32 × PF × PG), rc i x y F G = some q → xn F ≤ xn q.2.1) {res : Int32 × PF × PG} (F : PF) (G : PG) (hm : cb_X4_statement_167 fu rc F G = some res) : xn F ≤ xn res.2.1 := by
  unfold cb_X4_statement_167 at hm
  obtain ⟨⟨r1, F1, G1⟩, hc, hm⟩ := bind_elim hm
  exact Nat.le_trans (hrn _ _ _ _ _ _ hc) (cn_X4_statement_171 fu rc hrn F1 G1 hm)
theorem cw_X4_statement_167 (fu : Nat) (rc : RC) {dd : Nat} (hr : cH2 l v a rc dd) (hrn : ∀ (i : Nat) (x y : Int32) (F : PF) (G : PG) (q : Int32 × PF × PG), rc i x y F G = some q → xn F ≤ xn q.2.1) {res : Int32 × PF × PG} (C : cMC p R s m args c A v RX4 cX4_statement 1 (dd + 1 + 305) (60 * (dd + 1) + 18119) (xn res.2.1 - xn K0)) (hret : ∀ (b1 : Nat) (H1 : Heap) (locs1 : List Loc) (ls1 : Array Slot) (pc : Nat), cMW s A v a b1 K0 res.2.1 res.2.2 H1 locs1 → decode cX4_statement pc = .ok (.return_, 1) → W p l e R s m args below meth c H1 locs1 (xn res.2.1 - xn K0) (2 * (xn res.2.1 - xn K0)) Q (F0 m pc ls1 [])) (F : PF) (G : PG) (hm : cb_X4_statement_167 fu rc F G = some res) {b : Nat} {H : Heap} {locs : List Loc} (hw : cMW s A v a b K0 F G H locs) {ls : Array Slot} (hl : lv_has ls 1 [(0, .ref (a 204))]) : W p l e R s m args below meth c H locs (xn F - xn K0) (2 * (xn F - xn K0)) Q (F0 m 167 ls []) := by
  have hx := C.1
  have hb := C.2.1
  unfold cb_X4_statement_167 at hm
  refine lv_aload_n hx hb dX4_statement_167 rfl (lv_at hl 0 rfl) ?_
  obtain ⟨⟨r1, F1, G1⟩, hc, hm⟩ := bind_elim hm
  refine ccallV (n := 0) (As := []) (rest := []) C hw (hr.2.2.2.2.2.2.2 _ _ F G r1 F1 G1 hc) (hrn _ _ _ _ _ _ hc) (Nat.sub_le_sub_right (cn_X4_statement_171 fu rc hrn F1 G1 hm) _) (crecv_X4 C hw) cm_733 cm_734 cm_735 cm_244 cm_755 (by decide +kernel) rfl (by omega) (by omega) hl.1 rfl (Nat.le_of_ble_eq_true rfl) dX4_statement_168 (fun b H locs hw => ?_)
  exact cw_X4_statement_171 fu rc hr hrn C hret F1 G1 hm hw (lv_sub hl [] rfl)
theorem cn_X4_statement_178 (fu : Nat) (rc : RC) (hrn : ∀ (i : Nat) (x y : Int32) (F : PF) (G : PG) (q : Int32 × PF × PG), rc i x y F G = some q → xn F ≤ xn q.2.1) {res : Int32 × PF × PG} (F : PF) (G : PG) (hm : cb_X4_statement_178 fu rc F G = some res) : xn F ≤ xn res.2.1 := by
  unfold cb_X4_statement_178 at hm
  exact (cn_X4_statement_222 fu rc hrn F G hm)
theorem cw_X4_statement_178 (fu : Nat) (rc : RC) {dd : Nat} (hr : cH2 l v a rc dd) (hrn : ∀ (i : Nat) (x y : Int32) (F : PF) (G : PG) (q : Int32 × PF × PG), rc i x y F G = some q → xn F ≤ xn q.2.1) {res : Int32 × PF × PG} (C : cMC p R s m args c A v RX4 cX4_statement 1 (dd + 1 + 305) (60 * (dd + 1) + 18119) (xn res.2.1 - xn K0)) (hret : ∀ (b1 : Nat) (H1 : Heap) (locs1 : List Loc) (ls1 : Array Slot) (pc : Nat), cMW s A v a b1 K0 res.2.1 res.2.2 H1 locs1 → decode cX4_statement pc = .ok (.return_, 1) → W p l e R s m args below meth c H1 locs1 (xn res.2.1 - xn K0) (2 * (xn res.2.1 - xn K0)) Q (F0 m pc ls1 [])) (F : PF) (G : PG) (hm : cb_X4_statement_178 fu rc F G = some res) {b : Nat} {H : Heap} {locs : List Loc} (hw : cMW s A v a b K0 F G H locs) {ls : Array Slot} (hl : lv_has ls 1 []) : W p l e R s m args below meth c H locs (xn F - xn K0) (2 * (xn F - xn K0)) Q (F0 m 178 ls []) := by
  have hx := C.1
  have hb := C.2.1
  unfold cb_X4_statement_178 at hm
  refine lv_goto (tgt := 222) hx hb dX4_statement_178 (by decide) ?_
  exact cw_X4_statement_222 fu rc hr hrn C hret F G hm hw (lv_sub hl [] rfl)
theorem cn_X4_statement_174 (fu : Nat) (rc : RC) (hrn : ∀ (i : Nat) (x y : Int32) (F : PF) (G : PG) (q : Int32 × PF × PG), rc i x y F G = some q → xn F ≤ xn q.2.1) {res : Int32 × PF × PG} (F : PF) (G : PG) (hm : cb_X4_statement_174 fu rc F G = some res) : xn F ≤ xn res.2.1 := by
  unfold cb_X4_statement_174 at hm
  obtain ⟨⟨r1, F1, G1⟩, hc, hm⟩ := bind_elim hm
  exact Nat.le_trans (hrn _ _ _ _ _ _ hc) (cn_X4_statement_178 fu rc hrn F1 G1 hm)
theorem cw_X4_statement_174 (fu : Nat) (rc : RC) {dd : Nat} (hr : cH2 l v a rc dd) (hrn : ∀ (i : Nat) (x y : Int32) (F : PF) (G : PG) (q : Int32 × PF × PG), rc i x y F G = some q → xn F ≤ xn q.2.1) {res : Int32 × PF × PG} (C : cMC p R s m args c A v RX4 cX4_statement 1 (dd + 1 + 305) (60 * (dd + 1) + 18119) (xn res.2.1 - xn K0)) (hret : ∀ (b1 : Nat) (H1 : Heap) (locs1 : List Loc) (ls1 : Array Slot) (pc : Nat), cMW s A v a b1 K0 res.2.1 res.2.2 H1 locs1 → decode cX4_statement pc = .ok (.return_, 1) → W p l e R s m args below meth c H1 locs1 (xn res.2.1 - xn K0) (2 * (xn res.2.1 - xn K0)) Q (F0 m pc ls1 [])) (F : PF) (G : PG) (hm : cb_X4_statement_174 fu rc F G = some res) {b : Nat} {H : Heap} {locs : List Loc} (hw : cMW s A v a b K0 F G H locs) {ls : Array Slot} (hl : lv_has ls 1 [(0, .ref (a 204))]) : W p l e R s m args below meth c H locs (xn F - xn K0) (2 * (xn F - xn K0)) Q (F0 m 174 ls []) := by
  have hx := C.1
  have hb := C.2.1
  unfold cb_X4_statement_174 at hm
  refine lv_aload_n hx hb dX4_statement_174 rfl (lv_at hl 0 rfl) ?_
  obtain ⟨⟨r1, F1, G1⟩, hc, hm⟩ := bind_elim hm
  refine ccallV (n := 0) (As := []) (rest := []) C hw (hr.2.1 _ _ F G r1 F1 G1 hc) (hrn _ _ _ _ _ _ hc) (Nat.sub_le_sub_right (cn_X4_statement_178 fu rc hrn F1 G1 hm) _) (crecv_X4 C hw) cm_736 cm_737 cm_738 cm_244 cm_650 (by decide +kernel) rfl (by omega) (by omega) hl.1 rfl (Nat.le_of_ble_eq_true rfl) dX4_statement_175 (fun b H locs hw => ?_)
  exact cw_X4_statement_178 fu rc hr hrn C hret F1 G1 hm hw (lv_sub hl [] rfl)
theorem cn_X4_statement_185 (fu : Nat) (rc : RC) (hrn : ∀ (i : Nat) (x y : Int32) (F : PF) (G : PG) (q : Int32 × PF × PG), rc i x y F G = some q → xn F ≤ xn q.2.1) {res : Int32 × PF × PG} (F : PF) (G : PG) (hm : cb_X4_statement_185 fu rc F G = some res) : xn F ≤ xn res.2.1 := by
  unfold cb_X4_statement_185 at hm
  exact (cn_X4_statement_222 fu rc hrn F G hm)
theorem cw_X4_statement_185 (fu : Nat) (rc : RC) {dd : Nat} (hr : cH2 l v a rc dd) (hrn : ∀ (i : Nat) (x y : Int32) (F : PF) (G : PG) (q : Int32 × PF × PG), rc i x y F G = some q → xn F ≤ xn q.2.1) {res : Int32 × PF × PG} (C : cMC p R s m args c A v RX4 cX4_statement 1 (dd + 1 + 305) (60 * (dd + 1) + 18119) (xn res.2.1 - xn K0)) (hret : ∀ (b1 : Nat) (H1 : Heap) (locs1 : List Loc) (ls1 : Array Slot) (pc : Nat), cMW s A v a b1 K0 res.2.1 res.2.2 H1 locs1 → decode cX4_statement pc = .ok (.return_, 1) → W p l e R s m args below meth c H1 locs1 (xn res.2.1 - xn K0) (2 * (xn res.2.1 - xn K0)) Q (F0 m pc ls1 [])) (F : PF) (G : PG) (hm : cb_X4_statement_185 fu rc F G = some res) {b : Nat} {H : Heap} {locs : List Loc} (hw : cMW s A v a b K0 F G H locs) {ls : Array Slot} (hl : lv_has ls 1 []) : W p l e R s m args below meth c H locs (xn F - xn K0) (2 * (xn F - xn K0)) Q (F0 m 185 ls []) := by
  have hx := C.1
  have hb := C.2.1
  unfold cb_X4_statement_185 at hm
  refine lv_goto (tgt := 222) hx hb dX4_statement_185 (by decide) ?_
  exact cw_X4_statement_222 fu rc hr hrn C hret F G hm hw (lv_sub hl [] rfl)
theorem cn_X4_statement_181 (fu : Nat) (rc : RC) (hrn : ∀ (i : Nat) (x y : Int32) (F : PF) (G : PG) (q : Int32 × PF × PG), rc i x y F G = some q → xn F ≤ xn q.2.1) {res : Int32 × PF × PG} (F : PF) (G : PG) (hm : cb_X4_statement_181 fu rc F G = some res) : xn F ≤ xn res.2.1 := by
  unfold cb_X4_statement_181 at hm
  obtain ⟨⟨r1, F1, G1⟩, hc, hm⟩ := bind_elim hm
  exact Nat.le_trans (hrn _ _ _ _ _ _ hc) (cn_X4_statement_185 fu rc hrn F1 G1 hm)
theorem cw_X4_statement_181 (fu : Nat) (rc : RC) {dd : Nat} (hr : cH2 l v a rc dd) (hrn : ∀ (i : Nat) (x y : Int32) (F : PF) (G : PG) (q : Int32 × PF × PG), rc i x y F G = some q → xn F ≤ xn q.2.1) {res : Int32 × PF × PG} (C : cMC p R s m args c A v RX4 cX4_statement 1 (dd + 1 + 305) (60 * (dd + 1) + 18119) (xn res.2.1 - xn K0)) (hret : ∀ (b1 : Nat) (H1 : Heap) (locs1 : List Loc) (ls1 : Array Slot) (pc : Nat), cMW s A v a b1 K0 res.2.1 res.2.2 H1 locs1 → decode cX4_statement pc = .ok (.return_, 1) → W p l e R s m args below meth c H1 locs1 (xn res.2.1 - xn K0) (2 * (xn res.2.1 - xn K0)) Q (F0 m pc ls1 [])) (F : PF) (G : PG) (hm : cb_X4_statement_181 fu rc F G = some res) {b : Nat} {H : Heap} {locs : List Loc} (hw : cMW s A v a b K0 F G H locs) {ls : Array Slot} (hl : lv_has ls 1 [(0, .ref (a 204))]) : W p l e R s m args below meth c H locs (xn F - xn K0) (2 * (xn F - xn K0)) Q (F0 m 181 ls []) := by
  have hx := C.1
  have hb := C.2.1
  unfold cb_X4_statement_181 at hm
  refine lv_aload_n hx hb dX4_statement_181 rfl (lv_at hl 0 rfl) ?_
  obtain ⟨⟨r1, F1, G1⟩, hc, hm⟩ := bind_elim hm
  refine ccallV (n := 0) (As := []) (rest := []) C hw (hr.2.2.1 _ _ F G r1 F1 G1 hc) (hrn _ _ _ _ _ _ hc) (Nat.sub_le_sub_right (cn_X4_statement_185 fu rc hrn F1 G1 hm) _) (crecv_X4 C hw) cm_739 cm_740 cm_741 cm_244 cm_662 (by decide +kernel) rfl (by omega) (by omega) hl.1 rfl (Nat.le_of_ble_eq_true rfl) dX4_statement_182 (fun b H locs hw => ?_)
  exact cw_X4_statement_185 fu rc hr hrn C hret F1 G1 hm hw (lv_sub hl [] rfl)
theorem cn_X4_statement_192 (fu : Nat) (rc : RC) (hrn : ∀ (i : Nat) (x y : Int32) (F : PF) (G : PG) (q : Int32 × PF × PG), rc i x y F G = some q → xn F ≤ xn q.2.1) {res : Int32 × PF × PG} (F : PF) (G : PG) (hm : cb_X4_statement_192 fu rc F G = some res) : xn F ≤ xn res.2.1 := by
  unfold cb_X4_statement_192 at hm
  exact (cn_X4_statement_222 fu rc hrn F G hm)
theorem cw_X4_statement_192 (fu : Nat) (rc : RC) {dd : Nat} (hr : cH2 l v a rc dd) (hrn : ∀ (i : Nat) (x y : Int32) (F : PF) (G : PG) (q : Int32 × PF × PG), rc i x y F G = some q → xn F ≤ xn q.2.1) {res : Int32 × PF × PG} (C : cMC p R s m args c A v RX4 cX4_statement 1 (dd + 1 + 305) (60 * (dd + 1) + 18119) (xn res.2.1 - xn K0)) (hret : ∀ (b1 : Nat) (H1 : Heap) (locs1 : List Loc) (ls1 : Array Slot) (pc : Nat), cMW s A v a b1 K0 res.2.1 res.2.2 H1 locs1 → decode cX4_statement pc = .ok (.return_, 1) → W p l e R s m args below meth c H1 locs1 (xn res.2.1 - xn K0) (2 * (xn res.2.1 - xn K0)) Q (F0 m pc ls1 [])) (F : PF) (G : PG) (hm : cb_X4_statement_192 fu rc F G = some res) {b : Nat} {H : Heap} {locs : List Loc} (hw : cMW s A v a b K0 F G H locs) {ls : Array Slot} (hl : lv_has ls 1 []) : W p l e R s m args below meth c H locs (xn F - xn K0) (2 * (xn F - xn K0)) Q (F0 m 192 ls []) := by
  have hx := C.1
  have hb := C.2.1
  unfold cb_X4_statement_192 at hm
  refine lv_goto (tgt := 222) hx hb dX4_statement_192 (by decide) ?_
  exact cw_X4_statement_222 fu rc hr hrn C hret F G hm hw (lv_sub hl [] rfl)
theorem cn_X4_statement_188 (fu : Nat) (rc : RC) (hrn : ∀ (i : Nat) (x y : Int32) (F : PF) (G : PG) (q : Int32 × PF × PG), rc i x y F G = some q → xn F ≤ xn q.2.1) {res : Int32 × PF × PG} (F : PF) (G : PG) (hm : cb_X4_statement_188 fu rc F G = some res) : xn F ≤ xn res.2.1 := by
  unfold cb_X4_statement_188 at hm
  obtain ⟨⟨r1, F1, G1⟩, hc, hm⟩ := bind_elim hm
  exact Nat.le_trans (cn_X4_leap fu F G _ hc) (cn_X4_statement_192 fu rc hrn F1 G1 hm)
theorem cw_X4_statement_188 (fu : Nat) (rc : RC) {dd : Nat} (hr : cH2 l v a rc dd) (hrn : ∀ (i : Nat) (x y : Int32) (F : PF) (G : PG) (q : Int32 × PF × PG), rc i x y F G = some q → xn F ≤ xn q.2.1) {res : Int32 × PF × PG} (C : cMC p R s m args c A v RX4 cX4_statement 1 (dd + 1 + 305) (60 * (dd + 1) + 18119) (xn res.2.1 - xn K0)) (hret : ∀ (b1 : Nat) (H1 : Heap) (locs1 : List Loc) (ls1 : Array Slot) (pc : Nat), cMW s A v a b1 K0 res.2.1 res.2.2 H1 locs1 → decode cX4_statement pc = .ok (.return_, 1) → W p l e R s m args below meth c H1 locs1 (xn res.2.1 - xn K0) (2 * (xn res.2.1 - xn K0)) Q (F0 m pc ls1 [])) (F : PF) (G : PG) (hm : cb_X4_statement_188 fu rc F G = some res) {b : Nat} {H : Heap} {locs : List Loc} (hw : cMW s A v a b K0 F G H locs) {ls : Array Slot} (hl : lv_has ls 1 [(0, .ref (a 204))]) : W p l e R s m args below meth c H locs (xn F - xn K0) (2 * (xn F - xn K0)) Q (F0 m 188 ls []) := by
  have hx := C.1
  have hb := C.2.1
  unfold cb_X4_statement_188 at hm
  refine lv_aload_n hx hb dX4_statement_188 rfl (lv_at hl 0 rfl) ?_
  obtain ⟨⟨r1, F1, G1⟩, hc, hm⟩ := bind_elim hm
  refine ccallV (n := 0) (As := []) (rest := []) C hw (ck_X4_leap l v a _ _ fu F G r1 F1 G1 hc) (cn_X4_leap fu F G _ hc) (Nat.sub_le_sub_right (cn_X4_statement_192 fu rc hrn F1 G1 hm) _) (crecv_X4 C hw) cm_742 cm_743 cm_744 cm_244 cm_745 (by decide +kernel) rfl (by omega) (by omega) hl.1 rfl (Nat.le_of_ble_eq_true rfl) dX4_statement_189 (fun b H locs hw => ?_)
  exact cw_X4_statement_192 fu rc hr hrn C hret F1 G1 hm hw (lv_sub hl [] rfl)
theorem cn_X4_statement_199 (fu : Nat) (rc : RC) (hrn : ∀ (i : Nat) (x y : Int32) (F : PF) (G : PG) (q : Int32 × PF × PG), rc i x y F G = some q → xn F ≤ xn q.2.1) {res : Int32 × PF × PG} (F : PF) (G : PG) (hm : cb_X4_statement_199 fu rc F G = some res) : xn F ≤ xn res.2.1 := by
  unfold cb_X4_statement_199 at hm
  exact (cn_X4_statement_222 fu rc hrn F G hm)
theorem cw_X4_statement_199 (fu : Nat) (rc : RC) {dd : Nat} (hr : cH2 l v a rc dd) (hrn : ∀ (i : Nat) (x y : Int32) (F : PF) (G : PG) (q : Int32 × PF × PG), rc i x y F G = some q → xn F ≤ xn q.2.1) {res : Int32 × PF × PG} (C : cMC p R s m args c A v RX4 cX4_statement 1 (dd + 1 + 305) (60 * (dd + 1) + 18119) (xn res.2.1 - xn K0)) (hret : ∀ (b1 : Nat) (H1 : Heap) (locs1 : List Loc) (ls1 : Array Slot) (pc : Nat), cMW s A v a b1 K0 res.2.1 res.2.2 H1 locs1 → decode cX4_statement pc = .ok (.return_, 1) → W p l e R s m args below meth c H1 locs1 (xn res.2.1 - xn K0) (2 * (xn res.2.1 - xn K0)) Q (F0 m pc ls1 [])) (F : PF) (G : PG) (hm : cb_X4_statement_199 fu rc F G = some res) {b : Nat} {H : Heap} {locs : List Loc} (hw : cMW s A v a b K0 F G H locs) {ls : Array Slot} (hl : lv_has ls 1 []) : W p l e R s m args below meth c H locs (xn F - xn K0) (2 * (xn F - xn K0)) Q (F0 m 199 ls []) := by
  have hx := C.1
  have hb := C.2.1
  unfold cb_X4_statement_199 at hm
  refine lv_goto (tgt := 222) hx hb dX4_statement_199 (by decide) ?_
  exact cw_X4_statement_222 fu rc hr hrn C hret F G hm hw (lv_sub hl [] rfl)
theorem cn_X4_statement_195 (fu : Nat) (rc : RC) (hrn : ∀ (i : Nat) (x y : Int32) (F : PF) (G : PG) (q : Int32 × PF × PG), rc i x y F G = some q → xn F ≤ xn q.2.1) {res : Int32 × PF × PG} (F : PF) (G : PG) (hm : cb_X4_statement_195 fu rc F G = some res) : xn F ≤ xn res.2.1 := by
  unfold cb_X4_statement_195 at hm
  obtain ⟨⟨r1, F1, G1⟩, hc, hm⟩ := bind_elim hm
  exact Nat.le_trans (cn_X4_returnStatement fu F G _ hc) (cn_X4_statement_199 fu rc hrn F1 G1 hm)
theorem cw_X4_statement_195 (fu : Nat) (rc : RC) {dd : Nat} (hr : cH2 l v a rc dd) (hrn : ∀ (i : Nat) (x y : Int32) (F : PF) (G : PG) (q : Int32 × PF × PG), rc i x y F G = some q → xn F ≤ xn q.2.1) {res : Int32 × PF × PG} (C : cMC p R s m args c A v RX4 cX4_statement 1 (dd + 1 + 305) (60 * (dd + 1) + 18119) (xn res.2.1 - xn K0)) (hret : ∀ (b1 : Nat) (H1 : Heap) (locs1 : List Loc) (ls1 : Array Slot) (pc : Nat), cMW s A v a b1 K0 res.2.1 res.2.2 H1 locs1 → decode cX4_statement pc = .ok (.return_, 1) → W p l e R s m args below meth c H1 locs1 (xn res.2.1 - xn K0) (2 * (xn res.2.1 - xn K0)) Q (F0 m pc ls1 [])) (F : PF) (G : PG) (hm : cb_X4_statement_195 fu rc F G = some res) {b : Nat} {H : Heap} {locs : List Loc} (hw : cMW s A v a b K0 F G H locs) {ls : Array Slot} (hl : lv_has ls 1 [(0, .ref (a 204))]) : W p l e R s m args below meth c H locs (xn F - xn K0) (2 * (xn F - xn K0)) Q (F0 m 195 ls []) := by
  have hx := C.1
  have hb := C.2.1
  unfold cb_X4_statement_195 at hm
  refine lv_aload_n hx hb dX4_statement_195 rfl (lv_at hl 0 rfl) ?_
  obtain ⟨⟨r1, F1, G1⟩, hc, hm⟩ := bind_elim hm
  refine ccallV (n := 0) (As := []) (rest := []) C hw (ck_X4_returnStatement l v a _ _ fu F G r1 F1 G1 hc) (cn_X4_returnStatement fu F G _ hc) (Nat.sub_le_sub_right (cn_X4_statement_199 fu rc hrn F1 G1 hm) _) (crecv_X4 C hw) cm_746 cm_747 cm_748 cm_244 cm_749 (by decide +kernel) rfl (by omega) (by omega) hl.1 rfl (Nat.le_of_ble_eq_true rfl) dX4_statement_196 (fun b H locs hw => ?_)
  exact cw_X4_statement_199 fu rc hr hrn C hret F1 G1 hm hw (lv_sub hl [] rfl)
theorem cn_X4_statement_206 (fu : Nat) (rc : RC) (hrn : ∀ (i : Nat) (x y : Int32) (F : PF) (G : PG) (q : Int32 × PF × PG), rc i x y F G = some q → xn F ≤ xn q.2.1) {res : Int32 × PF × PG} (F : PF) (G : PG) (hm : cb_X4_statement_206 fu rc F G = some res) : xn F ≤ xn res.2.1 := by
  unfold cb_X4_statement_206 at hm
  exact (cn_X4_statement_222 fu rc hrn F G hm)
theorem cw_X4_statement_206 (fu : Nat) (rc : RC) {dd : Nat} (hr : cH2 l v a rc dd) (hrn : ∀ (i : Nat) (x y : Int32) (F : PF) (G : PG) (q : Int32 × PF × PG), rc i x y F G = some q → xn F ≤ xn q.2.1) {res : Int32 × PF × PG} (C : cMC p R s m args c A v RX4 cX4_statement 1 (dd + 1 + 305) (60 * (dd + 1) + 18119) (xn res.2.1 - xn K0)) (hret : ∀ (b1 : Nat) (H1 : Heap) (locs1 : List Loc) (ls1 : Array Slot) (pc : Nat), cMW s A v a b1 K0 res.2.1 res.2.2 H1 locs1 → decode cX4_statement pc = .ok (.return_, 1) → W p l e R s m args below meth c H1 locs1 (xn res.2.1 - xn K0) (2 * (xn res.2.1 - xn K0)) Q (F0 m pc ls1 [])) (F : PF) (G : PG) (hm : cb_X4_statement_206 fu rc F G = some res) {b : Nat} {H : Heap} {locs : List Loc} (hw : cMW s A v a b K0 F G H locs) {ls : Array Slot} (hl : lv_has ls 1 []) : W p l e R s m args below meth c H locs (xn F - xn K0) (2 * (xn F - xn K0)) Q (F0 m 206 ls []) := by
  have hx := C.1
  have hb := C.2.1
  unfold cb_X4_statement_206 at hm
  refine lv_goto (tgt := 222) hx hb dX4_statement_206 (by decide) ?_
  exact cw_X4_statement_222 fu rc hr hrn C hret F G hm hw (lv_sub hl [] rfl)
theorem cn_X4_statement_202 (fu : Nat) (rc : RC) (hrn : ∀ (i : Nat) (x y : Int32) (F : PF) (G : PG) (q : Int32 × PF × PG), rc i x y F G = some q → xn F ≤ xn q.2.1) {res : Int32 × PF × PG} (F : PF) (G : PG) (hm : cb_X4_statement_202 fu rc F G = some res) : xn F ≤ xn res.2.1 := by
  unfold cb_X4_statement_202 at hm
  obtain ⟨⟨r1, F1, G1⟩, hc, hm⟩ := bind_elim hm
  exact Nat.le_trans (cn_X4_handOut fu F G _ hc) (cn_X4_statement_206 fu rc hrn F1 G1 hm)
theorem cw_X4_statement_202 (fu : Nat) (rc : RC) {dd : Nat} (hr : cH2 l v a rc dd) (hrn : ∀ (i : Nat) (x y : Int32) (F : PF) (G : PG) (q : Int32 × PF × PG), rc i x y F G = some q → xn F ≤ xn q.2.1) {res : Int32 × PF × PG} (C : cMC p R s m args c A v RX4 cX4_statement 1 (dd + 1 + 305) (60 * (dd + 1) + 18119) (xn res.2.1 - xn K0)) (hret : ∀ (b1 : Nat) (H1 : Heap) (locs1 : List Loc) (ls1 : Array Slot) (pc : Nat), cMW s A v a b1 K0 res.2.1 res.2.2 H1 locs1 → decode cX4_statement pc = .ok (.return_, 1) → W p l e R s m args below meth c H1 locs1 (xn res.2.1 - xn K0) (2 * (xn res.2.1 - xn K0)) Q (F0 m pc ls1 [])) (F : PF) (G : PG) (hm : cb_X4_statement_202 fu rc F G = some res) {b : Nat} {H : Heap} {locs : List Loc} (hw : cMW s A v a b K0 F G H locs) {ls : Array Slot} (hl : lv_has ls 1 [(0, .ref (a 204))]) : W p l e R s m args below meth c H locs (xn F - xn K0) (2 * (xn F - xn K0)) Q (F0 m 202 ls []) := by
  have hx := C.1
  have hb := C.2.1
  unfold cb_X4_statement_202 at hm
  refine lv_aload_n hx hb dX4_statement_202 rfl (lv_at hl 0 rfl) ?_
  obtain ⟨⟨r1, F1, G1⟩, hc, hm⟩ := bind_elim hm
  refine ccallV (n := 0) (As := []) (rest := []) C hw (ck_X4_handOut l v a _ _ fu F G r1 F1 G1 hc) (cn_X4_handOut fu F G _ hc) (Nat.sub_le_sub_right (cn_X4_statement_206 fu rc hrn F1 G1 hm) _) (crecv_X4 C hw) cm_751 cm_752 cm_753 cm_244 cm_754 (by decide +kernel) rfl (by omega) (by omega) hl.1 rfl (Nat.le_of_ble_eq_true rfl) dX4_statement_203 (fun b H locs hw => ?_)
  exact cw_X4_statement_206 fu rc hr hrn C hret F1 G1 hm hw (lv_sub hl [] rfl)
theorem cn_X4_statement_213 (fu : Nat) (rc : RC) (hrn : ∀ (i : Nat) (x y : Int32) (F : PF) (G : PG) (q : Int32 × PF × PG), rc i x y F G = some q → xn F ≤ xn q.2.1) {res : Int32 × PF × PG} (F : PF) (G : PG) (hm : cb_X4_statement_213 fu rc F G = some res) : xn F ≤ xn res.2.1 := by
  unfold cb_X4_statement_213 at hm
  obtain ⟨⟨r1, F1, G1⟩, hc, hm⟩ := bind_elim hm
  exact Nat.le_trans (cn_X2_expect fu 26 F G _ hc) (cn_X4_statement_222 fu rc hrn F1 G1 hm)
theorem cw_X4_statement_213 (fu : Nat) (rc : RC) {dd : Nat} (hr : cH2 l v a rc dd) (hrn : ∀ (i : Nat) (x y : Int32) (F : PF) (G : PG) (q : Int32 × PF × PG), rc i x y F G = some q → xn F ≤ xn q.2.1) {res : Int32 × PF × PG} (C : cMC p R s m args c A v RX4 cX4_statement 1 (dd + 1 + 305) (60 * (dd + 1) + 18119) (xn res.2.1 - xn K0)) (hret : ∀ (b1 : Nat) (H1 : Heap) (locs1 : List Loc) (ls1 : Array Slot) (pc : Nat), cMW s A v a b1 K0 res.2.1 res.2.2 H1 locs1 → decode cX4_statement pc = .ok (.return_, 1) → W p l e R s m args below meth c H1 locs1 (xn res.2.1 - xn K0) (2 * (xn res.2.1 - xn K0)) Q (F0 m pc ls1 [])) (F : PF) (G : PG) (hm : cb_X4_statement_213 fu rc F G = some res) {b : Nat} {H : Heap} {locs : List Loc} (hw : cMW s A v a b K0 F G H locs) {ls : Array Slot} (hl : lv_has ls 1 [(0, .ref (a 204))]) : W p l e R s m args below meth c H locs (xn F - xn K0) (2 * (xn F - xn K0)) Q (F0 m 213 ls []) := by
  have hx := C.1
  have hb := C.2.1
  unfold cb_X4_statement_213 at hm
  refine lv_aload_n hx hb dX4_statement_213 rfl (lv_at hl 0 rfl) ?_
  refine cg_X4_9 C hw dX4_statement_214 ?_
  refine lv_bipush (v := 26) hx hb dX4_statement_217 (by decide) ?_
  obtain ⟨⟨r1, F1, G1⟩, hc, hm⟩ := bind_elim hm
  refine ccallV (n := 1) (As := [.int 26]) (rest := []) C hw (ck_X2_expect l v a _ _ fu 26 F G r1 F1 G1 hc) (cn_X2_expect fu 26 F G _ hc) (Nat.sub_le_sub_right (cn_X4_statement_222 fu rc hrn F1 G1 hm) _) (crecv_X2 C hw) cm_332 cm_333 cm_334 cm_307 cm_335 (by decide +kernel) rfl (by omega) (by omega) hl.1 rfl (Nat.le_of_ble_eq_true rfl) dX4_statement_219 (fun b H locs hw => ?_)
  exact cw_X4_statement_222 fu rc hr hrn C hret F1 G1 hm hw (lv_sub hl [] rfl)
theorem cn_X4_statement_209 (fu : Nat) (rc : RC) (hrn : ∀ (i : Nat) (x y : Int32) (F : PF) (G : PG) (q : Int32 × PF × PG), rc i x y F G = some q → xn F ≤ xn q.2.1) {res : Int32 × PF × PG} (F : PF) (G : PG) (hm : cb_X4_statement_209 fu rc F G = some res) : xn F ≤ xn res.2.1 := by
  unfold cb_X4_statement_209 at hm
  obtain ⟨⟨r1, F1, G1⟩, hc, hm⟩ := bind_elim hm
  exact Nat.le_trans (cn_X4_simple fu F G _ hc) (cn_X4_statement_213 fu rc hrn F1 G1 hm)
theorem cw_X4_statement_209 (fu : Nat) (rc : RC) {dd : Nat} (hr : cH2 l v a rc dd) (hrn : ∀ (i : Nat) (x y : Int32) (F : PF) (G : PG) (q : Int32 × PF × PG), rc i x y F G = some q → xn F ≤ xn q.2.1) {res : Int32 × PF × PG} (C : cMC p R s m args c A v RX4 cX4_statement 1 (dd + 1 + 305) (60 * (dd + 1) + 18119) (xn res.2.1 - xn K0)) (hret : ∀ (b1 : Nat) (H1 : Heap) (locs1 : List Loc) (ls1 : Array Slot) (pc : Nat), cMW s A v a b1 K0 res.2.1 res.2.2 H1 locs1 → decode cX4_statement pc = .ok (.return_, 1) → W p l e R s m args below meth c H1 locs1 (xn res.2.1 - xn K0) (2 * (xn res.2.1 - xn K0)) Q (F0 m pc ls1 [])) (F : PF) (G : PG) (hm : cb_X4_statement_209 fu rc F G = some res) {b : Nat} {H : Heap} {locs : List Loc} (hw : cMW s A v a b K0 F G H locs) {ls : Array Slot} (hl : lv_has ls 1 [(0, .ref (a 204))]) : W p l e R s m args below meth c H locs (xn F - xn K0) (2 * (xn F - xn K0)) Q (F0 m 209 ls []) := by
  have hx := C.1
  have hb := C.2.1
  unfold cb_X4_statement_209 at hm
  refine lv_aload_n hx hb dX4_statement_209 rfl (lv_at hl 0 rfl) ?_
  obtain ⟨⟨r1, F1, G1⟩, hc, hm⟩ := bind_elim hm
  refine ccallV (n := 0) (As := []) (rest := []) C hw (ck_X4_simple l v a _ _ fu F G r1 F1 G1 hc) (cn_X4_simple fu F G _ hc) (Nat.sub_le_sub_right (cn_X4_statement_213 fu rc hrn F1 G1 hm) _) (crecv_X4 C hw) cm_692 cm_693 cm_694 cm_244 cm_695 (by decide +kernel) rfl (by omega) (by omega) hl.1 rfl (Nat.le_of_ble_eq_true rfl) dX4_statement_210 (fun b H locs hw => ?_)
  exact cw_X4_statement_213 fu rc hr hrn C hret F1 G1 hm hw (lv_sub hl [0] rfl)
theorem cn_X4_statement_0 (fu : Nat) (rc : RC) (hrn : ∀ (i : Nat) (x y : Int32) (F : PF) (G : PG) (q : Int32 × PF × PG), rc i x y F G = some q → xn F ≤ xn q.2.1) {res : Int32 × PF × PG} (F : PF) (G : PG) (hm : cb_X4_statement_0 fu rc F G = some res) : xn F ≤ xn res.2.1 := by
  unfold cb_X4_statement_0 at hm
  by_cases c_0 : (F 11).toInt < 4 ∨ 26 < (F 11).toInt
  · have hm := (if_pos c_0).symm.trans hm
    exact (cn_X4_statement_209 fu rc hrn F G hm)
  have hm := (if_neg c_0).symm.trans hm
  by_cases c_1 : (F 11) = 4
  · have hm := (if_pos c_1).symm.trans hm
    exact (cn_X4_statement_143 fu rc hrn F G hm)
  have hm := (if_neg c_1).symm.trans hm
  clear c_1
  by_cases c_1 : (F 11) = 5
  · have hm := (if_pos c_1).symm.trans hm
    exact (cn_X4_statement_143 fu rc hrn F G hm)
  have hm := (if_neg c_1).symm.trans hm
  clear c_1
  by_cases c_1 : (F 11) = 6
  · have hm := (if_pos c_1).symm.trans hm
    exact (cn_X4_statement_209 fu rc hrn F G hm)
  have hm := (if_neg c_1).symm.trans hm
  clear c_1
  by_cases c_1 : (F 11) = 7
  · have hm := (if_pos c_1).symm.trans hm
    exact (cn_X4_statement_209 fu rc hrn F G hm)
  have hm := (if_neg c_1).symm.trans hm
  clear c_1
  by_cases c_1 : (F 11) = 8
  · have hm := (if_pos c_1).symm.trans hm
    exact (cn_X4_statement_160 fu rc hrn F G hm)
  have hm := (if_neg c_1).symm.trans hm
  clear c_1
  by_cases c_1 : (F 11) = 9
  · have hm := (if_pos c_1).symm.trans hm
    exact (cn_X4_statement_209 fu rc hrn F G hm)
  have hm := (if_neg c_1).symm.trans hm
  clear c_1
  by_cases c_1 : (F 11) = 10
  · have hm := (if_pos c_1).symm.trans hm
    exact (cn_X4_statement_167 fu rc hrn F G hm)
  have hm := (if_neg c_1).symm.trans hm
  clear c_1
  by_cases c_1 : (F 11) = 11
  · have hm := (if_pos c_1).symm.trans hm
    exact (cn_X4_statement_174 fu rc hrn F G hm)
  have hm := (if_neg c_1).symm.trans hm
  clear c_1
  by_cases c_1 : (F 11) = 12
  · have hm := (if_pos c_1).symm.trans hm
    exact (cn_X4_statement_181 fu rc hrn F G hm)
  have hm := (if_neg c_1).symm.trans hm
  clear c_1
  by_cases c_1 : (F 11) = 13
  · have hm := (if_pos c_1).symm.trans hm
    exact (cn_X4_statement_188 fu rc hrn F G hm)
  have hm := (if_neg c_1).symm.trans hm
  clear c_1
  by_cases c_1 : (F 11) = 14
  · have hm := (if_pos c_1).symm.trans hm
    exact (cn_X4_statement_188 fu rc hrn F G hm)
  have hm := (if_neg c_1).symm.trans hm
  clear c_1
  by_cases c_1 : (F 11) = 15
  · have hm := (if_pos c_1).symm.trans hm
    exact (cn_X4_statement_195 fu rc hrn F G hm)
  have hm := (if_neg c_1).symm.trans hm
  clear c_1
  by_cases c_1 : (F 11) = 16
  · have hm := (if_pos c_1).symm.trans hm
    exact (cn_X4_statement_202 fu rc hrn F G hm)
  have hm := (if_neg c_1).symm.trans hm
  clear c_1
  by_cases c_1 : (F 11) = 17
  · have hm := (if_pos c_1).symm.trans hm
    exact (cn_X4_statement_209 fu rc hrn F G hm)
  have hm := (if_neg c_1).symm.trans hm
  clear c_1
  by_cases c_1 : (F 11) = 18
  · have hm := (if_pos c_1).symm.trans hm
    exact (cn_X4_statement_202 fu rc hrn F G hm)
  have hm := (if_neg c_1).symm.trans hm
  clear c_1
  by_cases c_1 : (F 11) = 19
  · have hm := (if_pos c_1).symm.trans hm
    exact (cn_X4_statement_209 fu rc hrn F G hm)
  have hm := (if_neg c_1).symm.trans hm
  clear c_1
  by_cases c_1 : (F 11) = 20
  · have hm := (if_pos c_1).symm.trans hm
    exact (cn_X4_statement_209 fu rc hrn F G hm)
  have hm := (if_neg c_1).symm.trans hm
  clear c_1
  by_cases c_1 : (F 11) = 21
  · have hm := (if_pos c_1).symm.trans hm
    exact (cn_X4_statement_209 fu rc hrn F G hm)
  have hm := (if_neg c_1).symm.trans hm
  clear c_1
  by_cases c_1 : (F 11) = 22
  · have hm := (if_pos c_1).symm.trans hm
    exact (cn_X4_statement_209 fu rc hrn F G hm)
  have hm := (if_neg c_1).symm.trans hm
  clear c_1
  by_cases c_1 : (F 11) = 23
  · have hm := (if_pos c_1).symm.trans hm
    exact (cn_X4_statement_112 fu rc hrn F G hm)
  have hm := (if_neg c_1).symm.trans hm
  clear c_1
  by_cases c_1 : (F 11) = 24
  · have hm := (if_pos c_1).symm.trans hm
    exact (cn_X4_statement_209 fu rc hrn F G hm)
  have hm := (if_neg c_1).symm.trans hm
  clear c_1
  by_cases c_1 : (F 11) = 25
  · have hm := (if_pos c_1).symm.trans hm
    exact (cn_X4_statement_209 fu rc hrn F G hm)
  have hm := (if_neg c_1).symm.trans hm
  clear c_1
  exact (cn_X4_statement_133 fu rc hrn F G hm)
theorem cw_X4_statement_0 (fu : Nat) (rc : RC) {dd : Nat} (hr : cH2 l v a rc dd) (hrn : ∀ (i : Nat) (x y : Int32) (F : PF) (G : PG) (q : Int32 × PF × PG), rc i x y F G = some q → xn F ≤ xn q.2.1) {res : Int32 × PF × PG} (C : cMC p R s m args c A v RX4 cX4_statement 1 (dd + 1 + 305) (60 * (dd + 1) + 18119) (xn res.2.1 - xn K0)) (hret : ∀ (b1 : Nat) (H1 : Heap) (locs1 : List Loc) (ls1 : Array Slot) (pc : Nat), cMW s A v a b1 K0 res.2.1 res.2.2 H1 locs1 → decode cX4_statement pc = .ok (.return_, 1) → W p l e R s m args below meth c H1 locs1 (xn res.2.1 - xn K0) (2 * (xn res.2.1 - xn K0)) Q (F0 m pc ls1 [])) (F : PF) (G : PG) (hm : cb_X4_statement_0 fu rc F G = some res) {b : Nat} {H : Heap} {locs : List Loc} (hw : cMW s A v a b K0 F G H locs) {ls : Array Slot} (hl : lv_has ls 1 [(0, .ref (a 204))]) : W p l e R s m args below meth c H locs (xn F - xn K0) (2 * (xn F - xn K0)) Q (F0 m 0 ls []) := by
  have hx := C.1
  have hb := C.2.1
  unfold cb_X4_statement_0 at hm
  refine lv_aload_n hx hb dX4_statement_0 rfl (lv_at hl 0 rfl) ?_
  refine cg_X4_9 C hw dX4_statement_1 ?_
  refine cg_X4_52 C hw dX4_statement_4 ?_
  by_cases c_0 : (F 11).toInt < 4 ∨ 26 < (F 11).toInt
  · have hm := (if_pos c_0).symm.trans hm
    refine lv_tableOut (tgt := 209) hx hb dX4_statement_7 c_0 (by decide) ?_
    exact cw_X4_statement_209 fu rc hr hrn C hret F G hm hw (lv_sub hl [0] rfl)
  have hm := (if_neg c_0).symm.trans hm
  by_cases c_1 : (F 11) = 4
  · have hm := (if_pos c_1).symm.trans hm
    refine my_top 4 c_1 ?_
    refine lv_tableIn (off := 136) (tgt := 143) hx hb dX4_statement_7 (by decide) (by decide) (by decide) (by decide) ?_
    exact cw_X4_statement_143 fu rc hr hrn C hret F G hm hw (lv_sub hl [0] rfl)
  have hm := (if_neg c_1).symm.trans hm
  have n_0 := c_1
  clear c_1
  by_cases c_1 : (F 11) = 5
  · have hm := (if_pos c_1).symm.trans hm
    refine my_top 5 c_1 ?_
    refine lv_tableIn (off := 136) (tgt := 143) hx hb dX4_statement_7 (by decide) (by decide) (by decide) (by decide) ?_
    exact cw_X4_statement_143 fu rc hr hrn C hret F G hm hw (lv_sub hl [0] rfl)
  have hm := (if_neg c_1).symm.trans hm
  have n_1 := c_1
  clear c_1
  by_cases c_1 : (F 11) = 6
  · have hm := (if_pos c_1).symm.trans hm
    refine my_top 6 c_1 ?_
    refine lv_tableIn (off := 202) (tgt := 209) hx hb dX4_statement_7 (by decide) (by decide) (by decide) (by decide) ?_
    exact cw_X4_statement_209 fu rc hr hrn C hret F G hm hw (lv_sub hl [0] rfl)
  have hm := (if_neg c_1).symm.trans hm
  have n_2 := c_1
  clear c_1
  by_cases c_1 : (F 11) = 7
  · have hm := (if_pos c_1).symm.trans hm
    refine my_top 7 c_1 ?_
    refine lv_tableIn (off := 202) (tgt := 209) hx hb dX4_statement_7 (by decide) (by decide) (by decide) (by decide) ?_
    exact cw_X4_statement_209 fu rc hr hrn C hret F G hm hw (lv_sub hl [0] rfl)
  have hm := (if_neg c_1).symm.trans hm
  have n_3 := c_1
  clear c_1
  by_cases c_1 : (F 11) = 8
  · have hm := (if_pos c_1).symm.trans hm
    refine my_top 8 c_1 ?_
    refine lv_tableIn (off := 153) (tgt := 160) hx hb dX4_statement_7 (by decide) (by decide) (by decide) (by decide) ?_
    exact cw_X4_statement_160 fu rc hr hrn C hret F G hm hw (lv_sub hl [0] rfl)
  have hm := (if_neg c_1).symm.trans hm
  have n_4 := c_1
  clear c_1
  by_cases c_1 : (F 11) = 9
  · have hm := (if_pos c_1).symm.trans hm
    refine my_top 9 c_1 ?_
    refine lv_tableIn (off := 202) (tgt := 209) hx hb dX4_statement_7 (by decide) (by decide) (by decide) (by decide) ?_
    exact cw_X4_statement_209 fu rc hr hrn C hret F G hm hw (lv_sub hl [0] rfl)
  have hm := (if_neg c_1).symm.trans hm
  have n_5 := c_1
  clear c_1
  by_cases c_1 : (F 11) = 10
  · have hm := (if_pos c_1).symm.trans hm
    refine my_top 10 c_1 ?_
    refine lv_tableIn (off := 160) (tgt := 167) hx hb dX4_statement_7 (by decide) (by decide) (by decide) (by decide) ?_
    exact cw_X4_statement_167 fu rc hr hrn C hret F G hm hw (lv_sub hl [0] rfl)
  have hm := (if_neg c_1).symm.trans hm
  have n_6 := c_1
  clear c_1
  by_cases c_1 : (F 11) = 11
  · have hm := (if_pos c_1).symm.trans hm
    refine my_top 11 c_1 ?_
    refine lv_tableIn (off := 167) (tgt := 174) hx hb dX4_statement_7 (by decide) (by decide) (by decide) (by decide) ?_
    exact cw_X4_statement_174 fu rc hr hrn C hret F G hm hw (lv_sub hl [0] rfl)
  have hm := (if_neg c_1).symm.trans hm
  have n_7 := c_1
  clear c_1
  by_cases c_1 : (F 11) = 12
  · have hm := (if_pos c_1).symm.trans hm
    refine my_top 12 c_1 ?_
    refine lv_tableIn (off := 174) (tgt := 181) hx hb dX4_statement_7 (by decide) (by decide) (by decide) (by decide) ?_
    exact cw_X4_statement_181 fu rc hr hrn C hret F G hm hw (lv_sub hl [0] rfl)
  have hm := (if_neg c_1).symm.trans hm
  have n_8 := c_1
  clear c_1
  by_cases c_1 : (F 11) = 13
  · have hm := (if_pos c_1).symm.trans hm
    refine my_top 13 c_1 ?_
    refine lv_tableIn (off := 181) (tgt := 188) hx hb dX4_statement_7 (by decide) (by decide) (by decide) (by decide) ?_
    exact cw_X4_statement_188 fu rc hr hrn C hret F G hm hw (lv_sub hl [0] rfl)
  have hm := (if_neg c_1).symm.trans hm
  have n_9 := c_1
  clear c_1
  by_cases c_1 : (F 11) = 14
  · have hm := (if_pos c_1).symm.trans hm
    refine my_top 14 c_1 ?_
    refine lv_tableIn (off := 181) (tgt := 188) hx hb dX4_statement_7 (by decide) (by decide) (by decide) (by decide) ?_
    exact cw_X4_statement_188 fu rc hr hrn C hret F G hm hw (lv_sub hl [0] rfl)
  have hm := (if_neg c_1).symm.trans hm
  have n_10 := c_1
  clear c_1
  by_cases c_1 : (F 11) = 15
  · have hm := (if_pos c_1).symm.trans hm
    refine my_top 15 c_1 ?_
    refine lv_tableIn (off := 188) (tgt := 195) hx hb dX4_statement_7 (by decide) (by decide) (by decide) (by decide) ?_
    exact cw_X4_statement_195 fu rc hr hrn C hret F G hm hw (lv_sub hl [0] rfl)
  have hm := (if_neg c_1).symm.trans hm
  have n_11 := c_1
  clear c_1
  by_cases c_1 : (F 11) = 16
  · have hm := (if_pos c_1).symm.trans hm
    refine my_top 16 c_1 ?_
    refine lv_tableIn (off := 195) (tgt := 202) hx hb dX4_statement_7 (by decide) (by decide) (by decide) (by decide) ?_
    exact cw_X4_statement_202 fu rc hr hrn C hret F G hm hw (lv_sub hl [0] rfl)
  have hm := (if_neg c_1).symm.trans hm
  have n_12 := c_1
  clear c_1
  by_cases c_1 : (F 11) = 17
  · have hm := (if_pos c_1).symm.trans hm
    refine my_top 17 c_1 ?_
    refine lv_tableIn (off := 202) (tgt := 209) hx hb dX4_statement_7 (by decide) (by decide) (by decide) (by decide) ?_
    exact cw_X4_statement_209 fu rc hr hrn C hret F G hm hw (lv_sub hl [0] rfl)
  have hm := (if_neg c_1).symm.trans hm
  have n_13 := c_1
  clear c_1
  by_cases c_1 : (F 11) = 18
  · have hm := (if_pos c_1).symm.trans hm
    refine my_top 18 c_1 ?_
    refine lv_tableIn (off := 195) (tgt := 202) hx hb dX4_statement_7 (by decide) (by decide) (by decide) (by decide) ?_
    exact cw_X4_statement_202 fu rc hr hrn C hret F G hm hw (lv_sub hl [0] rfl)
  have hm := (if_neg c_1).symm.trans hm
  have n_14 := c_1
  clear c_1
  by_cases c_1 : (F 11) = 19
  · have hm := (if_pos c_1).symm.trans hm
    refine my_top 19 c_1 ?_
    refine lv_tableIn (off := 202) (tgt := 209) hx hb dX4_statement_7 (by decide) (by decide) (by decide) (by decide) ?_
    exact cw_X4_statement_209 fu rc hr hrn C hret F G hm hw (lv_sub hl [0] rfl)
  have hm := (if_neg c_1).symm.trans hm
  have n_15 := c_1
  clear c_1
  by_cases c_1 : (F 11) = 20
  · have hm := (if_pos c_1).symm.trans hm
    refine my_top 20 c_1 ?_
    refine lv_tableIn (off := 202) (tgt := 209) hx hb dX4_statement_7 (by decide) (by decide) (by decide) (by decide) ?_
    exact cw_X4_statement_209 fu rc hr hrn C hret F G hm hw (lv_sub hl [0] rfl)
  have hm := (if_neg c_1).symm.trans hm
  have n_16 := c_1
  clear c_1
  by_cases c_1 : (F 11) = 21
  · have hm := (if_pos c_1).symm.trans hm
    refine my_top 21 c_1 ?_
    refine lv_tableIn (off := 202) (tgt := 209) hx hb dX4_statement_7 (by decide) (by decide) (by decide) (by decide) ?_
    exact cw_X4_statement_209 fu rc hr hrn C hret F G hm hw (lv_sub hl [0] rfl)
  have hm := (if_neg c_1).symm.trans hm
  have n_17 := c_1
  clear c_1
  by_cases c_1 : (F 11) = 22
  · have hm := (if_pos c_1).symm.trans hm
    refine my_top 22 c_1 ?_
    refine lv_tableIn (off := 202) (tgt := 209) hx hb dX4_statement_7 (by decide) (by decide) (by decide) (by decide) ?_
    exact cw_X4_statement_209 fu rc hr hrn C hret F G hm hw (lv_sub hl [0] rfl)
  have hm := (if_neg c_1).symm.trans hm
  have n_18 := c_1
  clear c_1
  by_cases c_1 : (F 11) = 23
  · have hm := (if_pos c_1).symm.trans hm
    refine my_top 23 c_1 ?_
    refine lv_tableIn (off := 105) (tgt := 112) hx hb dX4_statement_7 (by decide) (by decide) (by decide) (by decide) ?_
    exact cw_X4_statement_112 fu rc hr hrn C hret F G hm hw (lv_sub hl [0] rfl)
  have hm := (if_neg c_1).symm.trans hm
  have n_19 := c_1
  clear c_1
  by_cases c_1 : (F 11) = 24
  · have hm := (if_pos c_1).symm.trans hm
    refine my_top 24 c_1 ?_
    refine lv_tableIn (off := 202) (tgt := 209) hx hb dX4_statement_7 (by decide) (by decide) (by decide) (by decide) ?_
    exact cw_X4_statement_209 fu rc hr hrn C hret F G hm hw (lv_sub hl [0] rfl)
  have hm := (if_neg c_1).symm.trans hm
  have n_20 := c_1
  clear c_1
  by_cases c_1 : (F 11) = 25
  · have hm := (if_pos c_1).symm.trans hm
    refine my_top 25 c_1 ?_
    refine lv_tableIn (off := 202) (tgt := 209) hx hb dX4_statement_7 (by decide) (by decide) (by decide) (by decide) ?_
    exact cw_X4_statement_209 fu rc hr hrn C hret F G hm hw (lv_sub hl [0] rfl)
  have hm := (if_neg c_1).symm.trans hm
  have n_21 := c_1
  clear c_1
  have c_1 : (F 11) = 26 := my_last (l := 4) (k := 22) c_0 (by decide) (fun j hj => match j, hj with | 0, _ => fun h9 => n_0 (Int32.toInt_inj.mp (h9.trans (by decide))) | 1, _ => fun h9 => n_1 (Int32.toInt_inj.mp (h9.trans (by decide))) | 2, _ => fun h9 => n_2 (Int32.toInt_inj.mp (h9.trans (by decide))) | 3, _ => fun h9 => n_3 (Int32.toInt_inj.mp (h9.trans (by decide))) | 4, _ => fun h9 => n_4 (Int32.toInt_inj.mp (h9.trans (by decide))) | 5, _ => fun h9 => n_5 (Int32.toInt_inj.mp (h9.trans (by decide))) | 6, _ => fun h9 => n_6 (Int32.toInt_inj.mp (h9.trans (by decide))) | 7, _ => fun h9 => n_7 (Int32.toInt_inj.mp (h9.trans (by decide))) | 8, _ => fun h9 => n_8 (Int32.toInt_inj.mp (h9.trans (by decide))) | 9, _ => fun h9 => n_9 (Int32.toInt_inj.mp (h9.trans (by decide))) | 10, _ => fun h9 => n_10 (Int32.toInt_inj.mp (h9.trans (by decide))) | 11, _ => fun h9 => n_11 (Int32.toInt_inj.mp (h9.trans (by decide))) | 12, _ => fun h9 => n_12 (Int32.toInt_inj.mp (h9.trans (by decide))) | 13, _ => fun h9 => n_13 (Int32.toInt_inj.mp (h9.trans (by decide))) | 14, _ => fun h9 => n_14 (Int32.toInt_inj.mp (h9.trans (by decide))) | 15, _ => fun h9 => n_15 (Int32.toInt_inj.mp (h9.trans (by decide))) | 16, _ => fun h9 => n_16 (Int32.toInt_inj.mp (h9.trans (by decide))) | 17, _ => fun h9 => n_17 (Int32.toInt_inj.mp (h9.trans (by decide))) | 18, _ => fun h9 => n_18 (Int32.toInt_inj.mp (h9.trans (by decide))) | 19, _ => fun h9 => n_19 (Int32.toInt_inj.mp (h9.trans (by decide))) | 20, _ => fun h9 => n_20 (Int32.toInt_inj.mp (h9.trans (by decide))) | 21, _ => fun h9 => n_21 (Int32.toInt_inj.mp (h9.trans (by decide))) | q + 22, h => absurd h (by omega)) (by decide)
  refine my_top 26 c_1 ?_
  refine lv_tableIn (off := 126) (tgt := 133) hx hb dX4_statement_7 (by decide) (by decide) (by decide) (by decide) ?_
  exact cw_X4_statement_133 fu rc hr hrn C hret F G hm hw (lv_sub hl [0] rfl)
theorem cm_X4_statement (fu : Nat) (rc : RC) (hrn : ∀ (i : Nat) (x y : Int32) (F : PF) (G : PG) (q : Int32 × PF × PG), rc i x y F G = some q → xn F ≤ xn q.2.1) (F : PF) (G : PG) (q : Int32 × PF × PG) (hm : ch_X4_statement fu rc F G = some q) : xn F ≤ xn q.2.1 := cn_X4_statement_0 fu rc hrn F G hm
theorem cq_X4_statement (l : Launch) (v : EV) (a : Nat → Nat) (b sz : Nat) (fu : Nat) (rc : RC) {dd : Nat} (hr : cH2 l v a rc dd) (hrn : ∀ (i : Nat) (x y : Int32) (F : PF) (G : PG) (q : Int32 × PF × PG), rc i x y F G = some q → xn F ≤ xn q.2.1) (F : PF) (G : PG) (r : Int32) (F1 : PF) (G1 : PG) (hm : ch_X4_statement fu rc F G = some (r, F1, G1)) : cMV l yX4_statement cX4_statement 1 (dd + 1 + 305) (60 * (dd + 1) + 18119) v a b sz [.ref (a 204)] F G F1 G1 := cMV.of (by decide) (Nat.le_of_ble_eq_true rfl) (fun p e R s m args below meth c Q A H locs ls C hw hl hret => cw_X4_statement_0 fu rc hr hrn (res := (r, F1, G1)) C hret F G hm hw hl)
def cb_X4_whileStatement_124 (fu : Nat) (rc : RC) (F : PF) (G : PG) : PR := some (0, F, G)
def cb_X4_whileStatement_117 (fu : Nat) (rc : RC) (F : PF) (G : PG) : PR := (cf_X2_closes fu F G).bind (fun q => cb_X4_whileStatement_124 fu rc q.2.1 q.2.2)
def cb_X4_whileStatement_112 (fu : Nat) (rc : RC) (x2 : Int32) (F : PF) (G : PG) : PR := cb_X4_whileStatement_117 fu rc (fup F 31 x2) G
def cb_X4_whileStatement_107 (fu : Nat) (rc : RC) (x1 : Int32) (x2 : Int32) (F : PF) (G : PG) : PR := cb_X4_whileStatement_112 fu rc x2 (fup F 30 x1) G
def cb_X4_whileStatement_89 (fu : Nat) (rc : RC) (x1 : Int32) (x2 : Int32) (F : PF) (G : PG) : PR := (cf_X1_aim fu (F 30) (F 6) F G).bind (fun q => cb_X4_whileStatement_107 fu rc x1 x2 q.2.1 q.2.2)
def cb_X4_whileStatement_73 (fu : Nat) (rc : RC) (x1 : Int32) (x2 : Int32) (x4 : Int32) (F : PF) (G : PG) : PR := (cf_X1_aim fu x4 (F 6) F G).bind (fun q => cb_X4_whileStatement_89 fu rc x1 x2 q.2.1 q.2.2)
def cb_X4_whileStatement_61 (fu : Nat) (rc : RC) (x1 : Int32) (x2 : Int32) (x3 : Int32) (x4 : Int32) (F : PF) (G : PG) : PR := (cf_X1_aim fu (F 31) x3 F G).bind (fun q => cb_X4_whileStatement_73 fu rc x1 x2 x4 q.2.1 q.2.2)
def cb_X4_whileStatement_51 (fu : Nat) (rc : RC) (x1 : Int32) (x2 : Int32) (x3 : Int32) (x4 : Int32) (F : PF) (G : PG) : PR := (cf_X1_addPair fu 84 x3 F G).bind (fun q => cb_X4_whileStatement_61 fu rc x1 x2 x3 x4 q.2.1 q.2.2)
def cb_X4_whileStatement_45 (fu : Nat) (rc : RC) (x1 : Int32) (x2 : Int32) (x3 : Int32) (z0 : Int32) (F : PF) (G : PG) : PR := (rc 5 0 0 F G).bind (fun q => cb_X4_whileStatement_51 fu rc x1 x2 x3 z0 q.2.1 q.2.2)
def cb_X4_whileStatement_35 (fu : Nat) (rc : RC) (x1 : Int32) (x2 : Int32) (x3 : Int32) (F : PF) (G : PG) : PR := (cf_X1_addJump fu 86 (-1) F G).bind (fun q => cb_X4_whileStatement_45 fu rc x1 x2 x3 q.1 q.2.1 q.2.2)
def cb_X4_whileStatement_13 (fu : Nat) (rc : RC) (F : PF) (G : PG) : PR := (cf_X4_condition fu F G).bind (fun q => cb_X4_whileStatement_35 fu rc (F 30) (F 31) (F 6) q.2.1 q.2.2)
def cb_X4_whileStatement_12 (fu : Nat) (rc : RC) (F : PF) (G : PG) : PR := some (0, F, G)
def cb_X4_whileStatement_9 (fu : Nat) (rc : RC) (z0 : Int32) (F : PF) (G : PG) : PR := if z0 = (0 : Int32) then cb_X4_whileStatement_12 fu rc F G else cb_X4_whileStatement_13 fu rc F G
def cb_X4_whileStatement_0 (fu : Nat) (rc : RC) (F : PF) (G : PG) : PR := (cf_X2_opens fu 10 F G).bind (fun q => cb_X4_whileStatement_9 fu rc q.1 q.2.1 q.2.2)
def ch_X4_whileStatement (fu : Nat) (rc : RC) (F : PF) (G : PG) : PR := cb_X4_whileStatement_0 fu rc F G
theorem cn_X4_whileStatement_124 (fu : Nat) (rc : RC) (hrn : ∀ (i : Nat) (x y : Int32) (F : PF) (G : PG) (q : Int32 × PF × PG), rc i x y F G = some q → xn F ≤ xn q.2.1) {res : Int32 × PF × PG} (F : PF) (G : PG) (hm : cb_X4_whileStatement_124 fu rc F G = some res) : xn F ≤ xn res.2.1 := by
  unfold cb_X4_whileStatement_124 at hm
  obtain rfl := Option.some.inj hm
  exact Nat.le_refl _
theorem cw_X4_whileStatement_124 (fu : Nat) (rc : RC) {dd : Nat} (hr : cH2 l v a rc dd) (hrn : ∀ (i : Nat) (x y : Int32) (F : PF) (G : PG) (q : Int32 × PF × PG), rc i x y F G = some q → xn F ≤ xn q.2.1) {res : Int32 × PF × PG} (C : cMC p R s m args c A v RX4 cX4_whileStatement 5 (dd + 1 + 305) (60 * (dd + 1) + 18119) (xn res.2.1 - xn K0)) (hret : ∀ (b1 : Nat) (H1 : Heap) (locs1 : List Loc) (ls1 : Array Slot) (pc : Nat), cMW s A v a b1 K0 res.2.1 res.2.2 H1 locs1 → decode cX4_whileStatement pc = .ok (.return_, 1) → W p l e R s m args below meth c H1 locs1 (xn res.2.1 - xn K0) (2 * (xn res.2.1 - xn K0)) Q (F0 m pc ls1 [])) (F : PF) (G : PG) (hm : cb_X4_whileStatement_124 fu rc F G = some res) {b : Nat} {H : Heap} {locs : List Loc} (hw : cMW s A v a b K0 F G H locs) {ls : Array Slot} (hl : lv_has ls 5 []) : W p l e R s m args below meth c H locs (xn F - xn K0) (2 * (xn F - xn K0)) Q (F0 m 124 ls []) := by
  have hx := C.1
  have hb := C.2.1
  unfold cb_X4_whileStatement_124 at hm
  obtain rfl := Option.some.inj hm
  exact hret _ _ _ _ _ hw dX4_whileStatement_124
theorem cn_X4_whileStatement_117 (fu : Nat) (rc : RC) (hrn : ∀ (i : Nat) (x y : Int32) (F : PF) (G : PG) (q : Int32 × PF × PG), rc i x y F G = some q → xn F ≤ xn q.2.1) {res : Int32 × PF × PG} (F : PF) (G : PG) (hm : cb_X4_whileStatement_117 fu rc F G = some res) : xn F ≤ xn res.2.1 := by
  unfold cb_X4_whileStatement_117 at hm
  obtain ⟨⟨r1, F1, G1⟩, hc, hm⟩ := bind_elim hm
  exact Nat.le_trans (cn_X2_closes fu F G _ hc) (cn_X4_whileStatement_124 fu rc hrn F1 G1 hm)
theorem cw_X4_whileStatement_117 (fu : Nat) (rc : RC) {dd : Nat} (hr : cH2 l v a rc dd) (hrn : ∀ (i : Nat) (x y : Int32) (F : PF) (G : PG) (q : Int32 × PF × PG), rc i x y F G = some q → xn F ≤ xn q.2.1) {res : Int32 × PF × PG} (C : cMC p R s m args c A v RX4 cX4_whileStatement 5 (dd + 1 + 305) (60 * (dd + 1) + 18119) (xn res.2.1 - xn K0)) (hret : ∀ (b1 : Nat) (H1 : Heap) (locs1 : List Loc) (ls1 : Array Slot) (pc : Nat), cMW s A v a b1 K0 res.2.1 res.2.2 H1 locs1 → decode cX4_whileStatement pc = .ok (.return_, 1) → W p l e R s m args below meth c H1 locs1 (xn res.2.1 - xn K0) (2 * (xn res.2.1 - xn K0)) Q (F0 m pc ls1 [])) (F : PF) (G : PG) (hm : cb_X4_whileStatement_117 fu rc F G = some res) {b : Nat} {H : Heap} {locs : List Loc} (hw : cMW s A v a b K0 F G H locs) {ls : Array Slot} (hl : lv_has ls 5 [(0, .ref (a 204))]) : W p l e R s m args below meth c H locs (xn F - xn K0) (2 * (xn F - xn K0)) Q (F0 m 117 ls []) := by
  have hx := C.1
  have hb := C.2.1
  unfold cb_X4_whileStatement_117 at hm
  refine lv_aload_n hx hb dX4_whileStatement_117 rfl (lv_at hl 0 rfl) ?_
  refine cg_X4_9 C hw dX4_whileStatement_118 ?_
  obtain ⟨⟨r1, F1, G1⟩, hc, hm⟩ := bind_elim hm
  refine ccallV (n := 0) (As := []) (rest := []) C hw (ck_X2_closes l v a _ _ fu F G r1 F1 G1 hc) (cn_X2_closes fu F G _ hc) (Nat.sub_le_sub_right (cn_X4_whileStatement_124 fu rc hrn F1 G1 hm) _) (crecv_X2 C hw) cm_661 cm_380 cm_381 cm_307 cm_382 (by decide +kernel) rfl (by omega) (by omega) hl.1 rfl (Nat.le_of_ble_eq_true rfl) dX4_whileStatement_121 (fun b H locs hw => ?_)
  exact cw_X4_whileStatement_124 fu rc hr hrn C hret F1 G1 hm hw (lv_sub hl [] rfl)
theorem cn_X4_whileStatement_112 (fu : Nat) (rc : RC) (hrn : ∀ (i : Nat) (x y : Int32) (F : PF) (G : PG) (q : Int32 × PF × PG), rc i x y F G = some q → xn F ≤ xn q.2.1) {res : Int32 × PF × PG} (x2 : Int32) (F : PF) (G : PG) (hm : cb_X4_whileStatement_112 fu rc x2 F G = some res) : xn F ≤ xn res.2.1 := by
  unfold cb_X4_whileStatement_112 at hm
  exact Nat.le_trans (Nat.le_of_eq (xn_fup (by decide)).symm) (cn_X4_whileStatement_117 fu rc hrn (fup F 31 x2) G hm)
theorem cw_X4_whileStatement_112 (fu : Nat) (rc : RC) {dd : Nat} (hr : cH2 l v a rc dd) (hrn : ∀ (i : Nat) (x y : Int32) (F : PF) (G : PG) (q : Int32 × PF × PG), rc i x y F G = some q → xn F ≤ xn q.2.1) {res : Int32 × PF × PG} (C : cMC p R s m args c A v RX4 cX4_whileStatement 5 (dd + 1 + 305) (60 * (dd + 1) + 18119) (xn res.2.1 - xn K0)) (hret : ∀ (b1 : Nat) (H1 : Heap) (locs1 : List Loc) (ls1 : Array Slot) (pc : Nat), cMW s A v a b1 K0 res.2.1 res.2.2 H1 locs1 → decode cX4_whileStatement pc = .ok (.return_, 1) → W p l e R s m args below meth c H1 locs1 (xn res.2.1 - xn K0) (2 * (xn res.2.1 - xn K0)) Q (F0 m pc ls1 [])) (x2 : Int32) (F : PF) (G : PG) (hm : cb_X4_whileStatement_112 fu rc x2 F G = some res) {b : Nat} {H : Heap} {locs : List Loc} (hw : cMW s A v a b K0 F G H locs) {ls : Array Slot} (hl : lv_has ls 5 [(0, .ref (a 204)), (2, .int x2)]) : W p l e R s m args below meth c H locs (xn F - xn K0) (2 * (xn F - xn K0)) Q (F0 m 112 ls []) := by
  have hx := C.1
  have hb := C.2.1
  unfold cb_X4_whileStatement_112 at hm
  refine lv_aload_n hx hb dX4_whileStatement_112 rfl (lv_at hl 0 rfl) ?_
  refine lv_iload_n hx hb dX4_whileStatement_113 rfl (lv_at hl 1 rfl) ?_
  refine cp_X4_122 C hw dX4_whileStatement_114 (fun H locs hw => ?_)
  exact cw_X4_whileStatement_117 fu rc hr hrn C hret (fup F 31 x2) G hm hw (lv_sub hl [0] rfl)
theorem cn_X4_whileStatement_107 (fu : Nat) (rc : RC) (hrn : ∀ (i : Nat) (x y : Int32) (F : PF) (G : PG) (q : Int32 × PF × PG), rc i x y F G = some q → xn F ≤ xn q.2.1) {res : Int32 × PF × PG} (x1 : Int32) (x2 : Int32) (F : PF) (G : PG) (hm : cb_X4_whileStatement_107 fu rc x1 x2 F G = some res) : xn F ≤ xn res.2.1 := by
  unfold cb_X4_whileStatement_107 at hm
  exact Nat.le_trans (Nat.le_of_eq (xn_fup (by decide)).symm) (cn_X4_whileStatement_112 fu rc hrn x2 (fup F 30 x1) G hm)
theorem cw_X4_whileStatement_107 (fu : Nat) (rc : RC) {dd : Nat} (hr : cH2 l v a rc dd) (hrn : ∀ (i : Nat) (x y : Int32) (F : PF) (G : PG) (q : Int32 × PF × PG), rc i x y F G = some q → xn F ≤ xn q.2.1) {res : Int32 × PF × PG} (C : cMC p R s m args c A v RX4 cX4_whileStatement 5 (dd + 1 + 305) (60 * (dd + 1) + 18119) (xn res.2.1 - xn K0)) (hret : ∀ (b1 : Nat) (H1 : Heap) (locs1 : List Loc) (ls1 : Array Slot) (pc : Nat), cMW s A v a b1 K0 res.2.1 res.2.2 H1 locs1 → decode cX4_whileStatement pc = .ok (.return_, 1) → W p l e R s m args below meth c H1 locs1 (xn res.2.1 - xn K0) (2 * (xn res.2.1 - xn K0)) Q (F0 m pc ls1 [])) (x1 : Int32) (x2 : Int32) (F : PF) (G : PG) (hm : cb_X4_whileStatement_107 fu rc x1 x2 F G = some res) {b : Nat} {H : Heap} {locs : List Loc} (hw : cMW s A v a b K0 F G H locs) {ls : Array Slot} (hl : lv_has ls 5 [(0, .ref (a 204)), (1, .int x1), (2, .int x2)]) : W p l e R s m args below meth c H locs (xn F - xn K0) (2 * (xn F - xn K0)) Q (F0 m 107 ls []) := by
  have hx := C.1
  have hb := C.2.1
  unfold cb_X4_whileStatement_107 at hm
  refine lv_aload_n hx hb dX4_whileStatement_107 rfl (lv_at hl 0 rfl) ?_
  refine lv_iload_n hx hb dX4_whileStatement_108 rfl (lv_at hl 1 rfl) ?_
  refine cp_X4_119 C hw dX4_whileStatement_109 (fun H locs hw => ?_)
  exact cw_X4_whileStatement_112 fu rc hr hrn C hret x2 (fup F 30 x1) G hm hw (lv_sub hl [0, 2] rfl)
theorem cn_X4_whileStatement_89 (fu : Nat) (rc : RC) (hrn : ∀ (i : Nat) (x y : Int32) (F : PF) (G : PG) (q : Int32 × PF × PG), rc i x y F G = some q → xn F ≤ xn q.2.1) {res : Int32 × PF × PG} (x1 : Int32) (x2 : Int32) (F : PF) (G : PG) (hm : cb_X4_whileStatement_89 fu rc x1 x2 F G = some res) : xn F ≤ xn res.2.1 := by
  unfold cb_X4_whileStatement_89 at hm
  obtain ⟨⟨r1, F1, G1⟩, hc, hm⟩ := bind_elim hm
  exact Nat.le_trans (cn_X1_aim fu (F 30) (F 6) F G _ hc) (cn_X4_whileStatement_107 fu rc hrn x1 x2 F1 G1 hm)
theorem cw_X4_whileStatement_89 (fu : Nat) (rc : RC) {dd : Nat} (hr : cH2 l v a rc dd) (hrn : ∀ (i : Nat) (x y : Int32) (F : PF) (G : PG) (q : Int32 × PF × PG), rc i x y F G = some q → xn F ≤ xn q.2.1) {res : Int32 × PF × PG} (C : cMC p R s m args c A v RX4 cX4_whileStatement 5 (dd + 1 + 305) (60 * (dd + 1) + 18119) (xn res.2.1 - xn K0)) (hret : ∀ (b1 : Nat) (H1 : Heap) (locs1 : List Loc) (ls1 : Array Slot) (pc : Nat), cMW s A v a b1 K0 res.2.1 res.2.2 H1 locs1 → decode cX4_whileStatement pc = .ok (.return_, 1) → W p l e R s m args below meth c H1 locs1 (xn res.2.1 - xn K0) (2 * (xn res.2.1 - xn K0)) Q (F0 m pc ls1 [])) (x1 : Int32) (x2 : Int32) (F : PF) (G : PG) (hm : cb_X4_whileStatement_89 fu rc x1 x2 F G = some res) {b : Nat} {H : Heap} {locs : List Loc} (hw : cMW s A v a b K0 F G H locs) {ls : Array Slot} (hl : lv_has ls 5 [(0, .ref (a 204)), (1, .int x1), (2, .int x2)]) : W p l e R s m args below meth c H locs (xn F - xn K0) (2 * (xn F - xn K0)) Q (F0 m 89 ls []) := by
  have hx := C.1
  have hb := C.2.1
  unfold cb_X4_whileStatement_89 at hm
  refine lv_aload_n hx hb dX4_whileStatement_89 rfl (lv_at hl 0 rfl) ?_
  refine cg_X4_19 C hw dX4_whileStatement_90 ?_
  refine lv_aload_n hx hb dX4_whileStatement_93 rfl (lv_at hl 0 rfl) ?_
  refine cg_X4_119 C hw dX4_whileStatement_94 ?_
  refine lv_aload_n hx hb dX4_whileStatement_97 rfl (lv_at hl 0 rfl) ?_
  refine cg_X4_19 C hw dX4_whileStatement_98 ?_
  refine cg_X4_43 C hw dX4_whileStatement_101 ?_
  obtain ⟨⟨r1, F1, G1⟩, hc, hm⟩ := bind_elim hm
  refine ccallV (n := 2) (As := [.int (F 30), .int (F 6)]) (rest := []) C hw (ck_X1_aim l v a _ _ fu (F 30) (F 6) F G r1 F1 G1 hc) (cn_X1_aim fu (F 30) (F 6) F G _ hc) (Nat.sub_le_sub_right (cn_X4_whileStatement_107 fu rc hrn x1 x2 F1 G1 hm) _) (crecv_X1 C hw) cm_654 cm_376 cm_377 cm_369 cm_378 (by decide +kernel) rfl (by omega) (by omega) hl.1 rfl (Nat.le_of_ble_eq_true rfl) dX4_whileStatement_104 (fun b H locs hw => ?_)
  exact cw_X4_whileStatement_107 fu rc hr hrn C hret x1 x2 F1 G1 hm hw (lv_sub hl [0, 1, 2] rfl)
theorem cn_X4_whileStatement_73 (fu : Nat) (rc : RC) (hrn : ∀ (i : Nat) (x y : Int32) (F : PF) (G : PG) (q : Int32 × PF × PG), rc i x y F G = some q → xn F ≤ xn q.2.1) {res : Int32 × PF × PG} (x1 : Int32) (x2 : Int32) (x4 : Int32) (F : PF) (G : PG) (hm : cb_X4_whileStatement_73 fu rc x1 x2 x4 F G = some res) : xn F ≤ xn res.2.1 := by
  unfold cb_X4_whileStatement_73 at hm
  obtain ⟨⟨r1, F1, G1⟩, hc, hm⟩ := bind_elim hm
  exact Nat.le_trans (cn_X1_aim fu x4 (F 6) F G _ hc) (cn_X4_whileStatement_89 fu rc hrn x1 x2 F1 G1 hm)
theorem cw_X4_whileStatement_73 (fu : Nat) (rc : RC) {dd : Nat} (hr : cH2 l v a rc dd) (hrn : ∀ (i : Nat) (x y : Int32) (F : PF) (G : PG) (q : Int32 × PF × PG), rc i x y F G = some q → xn F ≤ xn q.2.1) {res : Int32 × PF × PG} (C : cMC p R s m args c A v RX4 cX4_whileStatement 5 (dd + 1 + 305) (60 * (dd + 1) + 18119) (xn res.2.1 - xn K0)) (hret : ∀ (b1 : Nat) (H1 : Heap) (locs1 : List Loc) (ls1 : Array Slot) (pc : Nat), cMW s A v a b1 K0 res.2.1 res.2.2 H1 locs1 → decode cX4_whileStatement pc = .ok (.return_, 1) → W p l e R s m args below meth c H1 locs1 (xn res.2.1 - xn K0) (2 * (xn res.2.1 - xn K0)) Q (F0 m pc ls1 [])) (x1 : Int32) (x2 : Int32) (x4 : Int32) (F : PF) (G : PG) (hm : cb_X4_whileStatement_73 fu rc x1 x2 x4 F G = some res) {b : Nat} {H : Heap} {locs : List Loc} (hw : cMW s A v a b K0 F G H locs) {ls : Array Slot} (hl : lv_has ls 5 [(0, .ref (a 204)), (1, .int x1), (2, .int x2), (4, .int x4)]) : W p l e R s m args below meth c H locs (xn F - xn K0) (2 * (xn F - xn K0)) Q (F0 m 73 ls []) := by
  have hx := C.1
  have hb := C.2.1
  unfold cb_X4_whileStatement_73 at hm
  refine lv_aload_n hx hb dX4_whileStatement_73 rfl (lv_at hl 0 rfl) ?_
  refine cg_X4_19 C hw dX4_whileStatement_74 ?_
  refine lv_iload hx hb dX4_whileStatement_77 (lv_at hl 3 rfl) ?_
  refine lv_aload_n hx hb dX4_whileStatement_79 rfl (lv_at hl 0 rfl) ?_
  refine cg_X4_19 C hw dX4_whileStatement_80 ?_
  refine cg_X4_43 C hw dX4_whileStatement_83 ?_
  obtain ⟨⟨r1, F1, G1⟩, hc, hm⟩ := bind_elim hm
  refine ccallV (n := 2) (As := [.int x4, .int (F 6)]) (rest := []) C hw (ck_X1_aim l v a _ _ fu x4 (F 6) F G r1 F1 G1 hc) (cn_X1_aim fu x4 (F 6) F G _ hc) (Nat.sub_le_sub_right (cn_X4_whileStatement_89 fu rc hrn x1 x2 F1 G1 hm) _) (crecv_X1 C hw) cm_654 cm_376 cm_377 cm_369 cm_378 (by decide +kernel) rfl (by omega) (by omega) hl.1 rfl (Nat.le_of_ble_eq_true rfl) dX4_whileStatement_86 (fun b H locs hw => ?_)
  exact cw_X4_whileStatement_89 fu rc hr hrn C hret x1 x2 F1 G1 hm hw (lv_sub hl [0, 1, 2] rfl)
theorem cn_X4_whileStatement_61 (fu : Nat) (rc : RC) (hrn : ∀ (i : Nat) (x y : Int32) (F : PF) (G : PG) (q : Int32 × PF × PG), rc i x y F G = some q → xn F ≤ xn q.2.1) {res : Int32 × PF × PG} (x1 : Int32) (x2 : Int32) (x3 : Int32) (x4 : Int32) (F : PF) (G : PG) (hm : cb_X4_whileStatement_61 fu rc x1 x2 x3 x4 F G = some res) : xn F ≤ xn res.2.1 := by
  unfold cb_X4_whileStatement_61 at hm
  obtain ⟨⟨r1, F1, G1⟩, hc, hm⟩ := bind_elim hm
  exact Nat.le_trans (cn_X1_aim fu (F 31) x3 F G _ hc) (cn_X4_whileStatement_73 fu rc hrn x1 x2 x4 F1 G1 hm)
theorem cw_X4_whileStatement_61 (fu : Nat) (rc : RC) {dd : Nat} (hr : cH2 l v a rc dd) (hrn : ∀ (i : Nat) (x y : Int32) (F : PF) (G : PG) (q : Int32 × PF × PG), rc i x y F G = some q → xn F ≤ xn q.2.1) {res : Int32 × PF × PG} (C : cMC p R s m args c A v RX4 cX4_whileStatement 5 (dd + 1 + 305) (60 * (dd + 1) + 18119) (xn res.2.1 - xn K0)) (hret : ∀ (b1 : Nat) (H1 : Heap) (locs1 : List Loc) (ls1 : Array Slot) (pc : Nat), cMW s A v a b1 K0 res.2.1 res.2.2 H1 locs1 → decode cX4_whileStatement pc = .ok (.return_, 1) → W p l e R s m args below meth c H1 locs1 (xn res.2.1 - xn K0) (2 * (xn res.2.1 - xn K0)) Q (F0 m pc ls1 [])) (x1 : Int32) (x2 : Int32) (x3 : Int32) (x4 : Int32) (F : PF) (G : PG) (hm : cb_X4_whileStatement_61 fu rc x1 x2 x3 x4 F G = some res) {b : Nat} {H : Heap} {locs : List Loc} (hw : cMW s A v a b K0 F G H locs) {ls : Array Slot} (hl : lv_has ls 5 [(0, .ref (a 204)), (1, .int x1), (2, .int x2), (3, .int x3), (4, .int x4)]) : W p l e R s m args below meth c H locs (xn F - xn K0) (2 * (xn F - xn K0)) Q (F0 m 61 ls []) := by
  have hx := C.1
  have hb := C.2.1
  unfold cb_X4_whileStatement_61 at hm
  refine lv_aload_n hx hb dX4_whileStatement_61 rfl (lv_at hl 0 rfl) ?_
  refine cg_X4_19 C hw dX4_whileStatement_62 ?_
  refine lv_aload_n hx hb dX4_whileStatement_65 rfl (lv_at hl 0 rfl) ?_
  refine cg_X4_122 C hw dX4_whileStatement_66 ?_
  refine lv_iload_n hx hb dX4_whileStatement_69 rfl (lv_at hl 3 rfl) ?_
  obtain ⟨⟨r1, F1, G1⟩, hc, hm⟩ := bind_elim hm
  refine ccallV (n := 2) (As := [.int (F 31), .int x3]) (rest := []) C hw (ck_X1_aim l v a _ _ fu (F 31) x3 F G r1 F1 G1 hc) (cn_X1_aim fu (F 31) x3 F G _ hc) (Nat.sub_le_sub_right (cn_X4_whileStatement_73 fu rc hrn x1 x2 x4 F1 G1 hm) _) (crecv_X1 C hw) cm_654 cm_376 cm_377 cm_369 cm_378 (by decide +kernel) rfl (by omega) (by omega) hl.1 rfl (Nat.le_of_ble_eq_true rfl) dX4_whileStatement_70 (fun b H locs hw => ?_)
  exact cw_X4_whileStatement_73 fu rc hr hrn C hret x1 x2 x4 F1 G1 hm hw (lv_sub hl [0, 1, 2, 4] rfl)
theorem cn_X4_whileStatement_51 (fu : Nat) (rc : RC) (hrn : ∀ (i : Nat) (x y : Int32) (F : PF) (G : PG) (q : Int32 × PF × PG), rc i x y F G = some q → xn F ≤ xn q.2.1) {res : Int32 × PF × PG} (x1 : Int32) (x2 : Int32) (x3 : Int32) (x4 : Int32) (F : PF) (G : PG) (hm : cb_X4_whileStatement_51 fu rc x1 x2 x3 x4 F G = some res) : xn F ≤ xn res.2.1 := by
  unfold cb_X4_whileStatement_51 at hm
  obtain ⟨⟨r1, F1, G1⟩, hc, hm⟩ := bind_elim hm
  exact Nat.le_trans (cn_X1_addPair fu 84 x3 F G _ hc) (cn_X4_whileStatement_61 fu rc hrn x1 x2 x3 x4 F1 G1 hm)
theorem cw_X4_whileStatement_51 (fu : Nat) (rc : RC) {dd : Nat} (hr : cH2 l v a rc dd) (hrn : ∀ (i : Nat) (x y : Int32) (F : PF) (G : PG) (q : Int32 × PF × PG), rc i x y F G = some q → xn F ≤ xn q.2.1) {res : Int32 × PF × PG} (C : cMC p R s m args c A v RX4 cX4_whileStatement 5 (dd + 1 + 305) (60 * (dd + 1) + 18119) (xn res.2.1 - xn K0)) (hret : ∀ (b1 : Nat) (H1 : Heap) (locs1 : List Loc) (ls1 : Array Slot) (pc : Nat), cMW s A v a b1 K0 res.2.1 res.2.2 H1 locs1 → decode cX4_whileStatement pc = .ok (.return_, 1) → W p l e R s m args below meth c H1 locs1 (xn res.2.1 - xn K0) (2 * (xn res.2.1 - xn K0)) Q (F0 m pc ls1 [])) (x1 : Int32) (x2 : Int32) (x3 : Int32) (x4 : Int32) (F : PF) (G : PG) (hm : cb_X4_whileStatement_51 fu rc x1 x2 x3 x4 F G = some res) {b : Nat} {H : Heap} {locs : List Loc} (hw : cMW s A v a b K0 F G H locs) {ls : Array Slot} (hl : lv_has ls 5 [(0, .ref (a 204)), (1, .int x1), (2, .int x2), (3, .int x3), (4, .int x4)]) : W p l e R s m args below meth c H locs (xn F - xn K0) (2 * (xn F - xn K0)) Q (F0 m 51 ls []) := by
  have hx := C.1
  have hb := C.2.1
  unfold cb_X4_whileStatement_51 at hm
  refine lv_aload_n hx hb dX4_whileStatement_51 rfl (lv_at hl 0 rfl) ?_
  refine cg_X4_19 C hw dX4_whileStatement_52 ?_
  refine lv_bipush (v := 84) hx hb dX4_whileStatement_55 (by decide) ?_
  refine lv_iload_n hx hb dX4_whileStatement_57 rfl (lv_at hl 3 rfl) ?_
  obtain ⟨⟨r1, F1, G1⟩, hc, hm⟩ := bind_elim hm
  refine ccallV (n := 2) (As := [.int 84, .int x3]) (rest := []) C hw (ck_X1_addPair l v a _ _ fu 84 x3 F G r1 F1 G1 hc) (cn_X1_addPair fu 84 x3 F G _ hc) (Nat.sub_le_sub_right (cn_X4_whileStatement_61 fu rc hrn x1 x2 x3 x4 F1 G1 hm) _) (crecv_X1 C hw) cm_660 cm_449 cm_450 cm_369 cm_451 (by decide +kernel) rfl (by omega) (by omega) hl.1 rfl (Nat.le_of_ble_eq_true rfl) dX4_whileStatement_58 (fun b H locs hw => ?_)
  exact cw_X4_whileStatement_61 fu rc hr hrn C hret x1 x2 x3 x4 F1 G1 hm hw (lv_sub hl [0, 1, 2, 3, 4] rfl)
theorem cn_X4_whileStatement_45 (fu : Nat) (rc : RC) (hrn : ∀ (i : Nat) (x y : Int32) (F : PF) (G : PG) (q : Int32 × PF × PG), rc i x y F G = some q → xn F ≤ xn q.2.1) {res : Int32 × PF × PG} (x1 : Int32) (x2 : Int32) (x3 : Int32) (z0 : Int32) (F : PF) (G : PG) (hm : cb_X4_whileStatement_45 fu rc x1 x2 x3 z0 F G = some res) : xn F ≤ xn res.2.1 := by
  unfold cb_X4_whileStatement_45 at hm
  obtain ⟨⟨r1, F1, G1⟩, hc, hm⟩ := bind_elim hm
  exact Nat.le_trans (hrn _ _ _ _ _ _ hc) (cn_X4_whileStatement_51 fu rc hrn x1 x2 x3 z0 F1 G1 hm)
theorem cw_X4_whileStatement_45 (fu : Nat) (rc : RC) {dd : Nat} (hr : cH2 l v a rc dd) (hrn : ∀ (i : Nat) (x y : Int32) (F : PF) (G : PG) (q : Int32 × PF × PG), rc i x y F G = some q → xn F ≤ xn q.2.1) {res : Int32 × PF × PG} (C : cMC p R s m args c A v RX4 cX4_whileStatement 5 (dd + 1 + 305) (60 * (dd + 1) + 18119) (xn res.2.1 - xn K0)) (hret : ∀ (b1 : Nat) (H1 : Heap) (locs1 : List Loc) (ls1 : Array Slot) (pc : Nat), cMW s A v a b1 K0 res.2.1 res.2.2 H1 locs1 → decode cX4_whileStatement pc = .ok (.return_, 1) → W p l e R s m args below meth c H1 locs1 (xn res.2.1 - xn K0) (2 * (xn res.2.1 - xn K0)) Q (F0 m pc ls1 [])) (x1 : Int32) (x2 : Int32) (x3 : Int32) (z0 : Int32) (F : PF) (G : PG) (hm : cb_X4_whileStatement_45 fu rc x1 x2 x3 z0 F G = some res) {b : Nat} {H : Heap} {locs : List Loc} (hw : cMW s A v a b K0 F G H locs) {ls : Array Slot} (hl : lv_has ls 5 [(0, .ref (a 204)), (1, .int x1), (2, .int x2), (3, .int x3)]) : W p l e R s m args below meth c H locs (xn F - xn K0) (2 * (xn F - xn K0)) Q (F0 m 45 ls [.int z0]) := by
  have hx := C.1
  have hb := C.2.1
  unfold cb_X4_whileStatement_45 at hm
  refine lv_istore (lv' := [(4, .int z0), (0, .ref (a 204)), (1, .int x1), (2, .int x2), (3, .int x3)]) hx hb dX4_whileStatement_45 hl (by decide) rfl (fun ls hl => ?_)
  refine lv_aload_n hx hb dX4_whileStatement_47 rfl (lv_at hl 1 rfl) ?_
  obtain ⟨⟨r1, F1, G1⟩, hc, hm⟩ := bind_elim hm
  refine ccallV (n := 0) (As := []) (rest := []) C hw (hr.2.2.2.2.2.1 _ _ F G r1 F1 G1 hc) (hrn _ _ _ _ _ _ hc) (Nat.sub_le_sub_right (cn_X4_whileStatement_51 fu rc hrn x1 x2 x3 z0 F1 G1 hm) _) (crecv_X4 C hw) cm_651 cm_652 cm_653 cm_244 cm_728 (by decide +kernel) rfl (by omega) (by omega) hl.1 rfl (Nat.le_of_ble_eq_true rfl) dX4_whileStatement_48 (fun b H locs hw => ?_)
  exact cw_X4_whileStatement_51 fu rc hr hrn C hret x1 x2 x3 z0 F1 G1 hm hw (lv_sub hl [1, 2, 3, 4, 0] rfl)
theorem cn_X4_whileStatement_35 (fu : Nat) (rc : RC) (hrn : ∀ (i : Nat) (x y : Int32) (F : PF) (G : PG) (q : Int32 × PF × PG), rc i x y F G = some q → xn F ≤ xn q.2.1) {res : Int32 × PF × PG} (x1 : Int32) (x2 : Int32) (x3 : Int32) (F : PF) (G : PG) (hm : cb_X4_whileStatement_35 fu rc x1 x2 x3 F G = some res) : xn F ≤ xn res.2.1 := by
  unfold cb_X4_whileStatement_35 at hm
  obtain ⟨⟨r1, F1, G1⟩, hc, hm⟩ := bind_elim hm
  exact Nat.le_trans (cn_X1_addJump fu 86 (-1) F G _ hc) (cn_X4_whileStatement_45 fu rc hrn x1 x2 x3 r1 F1 G1 hm)
theorem cw_X4_whileStatement_35 (fu : Nat) (rc : RC) {dd : Nat} (hr : cH2 l v a rc dd) (hrn : ∀ (i : Nat) (x y : Int32) (F : PF) (G : PG) (q : Int32 × PF × PG), rc i x y F G = some q → xn F ≤ xn q.2.1) {res : Int32 × PF × PG} (C : cMC p R s m args c A v RX4 cX4_whileStatement 5 (dd + 1 + 305) (60 * (dd + 1) + 18119) (xn res.2.1 - xn K0)) (hret : ∀ (b1 : Nat) (H1 : Heap) (locs1 : List Loc) (ls1 : Array Slot) (pc : Nat), cMW s A v a b1 K0 res.2.1 res.2.2 H1 locs1 → decode cX4_whileStatement pc = .ok (.return_, 1) → W p l e R s m args below meth c H1 locs1 (xn res.2.1 - xn K0) (2 * (xn res.2.1 - xn K0)) Q (F0 m pc ls1 [])) (x1 : Int32) (x2 : Int32) (x3 : Int32) (F : PF) (G : PG) (hm : cb_X4_whileStatement_35 fu rc x1 x2 x3 F G = some res) {b : Nat} {H : Heap} {locs : List Loc} (hw : cMW s A v a b K0 F G H locs) {ls : Array Slot} (hl : lv_has ls 5 [(0, .ref (a 204)), (1, .int x1), (2, .int x2), (3, .int x3)]) : W p l e R s m args below meth c H locs (xn F - xn K0) (2 * (xn F - xn K0)) Q (F0 m 35 ls []) := by
  have hx := C.1
  have hb := C.2.1
  unfold cb_X4_whileStatement_35 at hm
  refine lv_aload_n hx hb dX4_whileStatement_35 rfl (lv_at hl 0 rfl) ?_
  refine cg_X4_19 C hw dX4_whileStatement_36 ?_
  refine lv_bipush (v := 86) hx hb dX4_whileStatement_39 (by decide) ?_
  refine lv_iconst (v := (-1)) hx hb dX4_whileStatement_41 (by decide) ?_
  obtain ⟨⟨r1, F1, G1⟩, hc, hm⟩ := bind_elim hm
  refine ccallI (n := 2) (As := [.int 86, .int (-1)]) (rest := []) C hw (ck_X1_addJump l v a _ _ fu 86 (-1) F G r1 F1 G1 hc) (cn_X1_addJump fu 86 (-1) F G _ hc) (Nat.sub_le_sub_right (cn_X4_whileStatement_45 fu rc hrn x1 x2 x3 r1 F1 G1 hm) _) (crecv_X1 C hw) cm_718 cm_367 cm_368 cm_369 cm_370 (by decide +kernel) rfl (by omega) (by omega) hl.1 rfl (Nat.le_of_ble_eq_true rfl) dX4_whileStatement_42 (fun b H locs hw => ?_)
  exact cw_X4_whileStatement_45 fu rc hr hrn C hret x1 x2 x3 r1 F1 G1 hm hw (lv_sub hl [0, 1, 2, 3] rfl)
theorem cn_X4_whileStatement_13 (fu : Nat) (rc : RC) (hrn : ∀ (i : Nat) (x y : Int32) (F : PF) (G : PG) (q : Int32 × PF × PG), rc i x y F G = some q → xn F ≤ xn q.2.1) {res : Int32 × PF × PG} (F : PF) (G : PG) (hm : cb_X4_whileStatement_13 fu rc F G = some res) : xn F ≤ xn res.2.1 := by
  unfold cb_X4_whileStatement_13 at hm
  obtain ⟨⟨r1, F1, G1⟩, hc, hm⟩ := bind_elim hm
  exact Nat.le_trans (cn_X4_condition fu F G _ hc) (cn_X4_whileStatement_35 fu rc hrn (F 30) (F 31) (F 6) F1 G1 hm)
theorem cw_X4_whileStatement_13 (fu : Nat) (rc : RC) {dd : Nat} (hr : cH2 l v a rc dd) (hrn : ∀ (i : Nat) (x y : Int32) (F : PF) (G : PG) (q : Int32 × PF × PG), rc i x y F G = some q → xn F ≤ xn q.2.1) {res : Int32 × PF × PG} (C : cMC p R s m args c A v RX4 cX4_whileStatement 5 (dd + 1 + 305) (60 * (dd + 1) + 18119) (xn res.2.1 - xn K0)) (hret : ∀ (b1 : Nat) (H1 : Heap) (locs1 : List Loc) (ls1 : Array Slot) (pc : Nat), cMW s A v a b1 K0 res.2.1 res.2.2 H1 locs1 → decode cX4_whileStatement pc = .ok (.return_, 1) → W p l e R s m args below meth c H1 locs1 (xn res.2.1 - xn K0) (2 * (xn res.2.1 - xn K0)) Q (F0 m pc ls1 [])) (F : PF) (G : PG) (hm : cb_X4_whileStatement_13 fu rc F G = some res) {b : Nat} {H : Heap} {locs : List Loc} (hw : cMW s A v a b K0 F G H locs) {ls : Array Slot} (hl : lv_has ls 5 [(0, .ref (a 204))]) : W p l e R s m args below meth c H locs (xn F - xn K0) (2 * (xn F - xn K0)) Q (F0 m 13 ls []) := by
  have hx := C.1
  have hb := C.2.1
  unfold cb_X4_whileStatement_13 at hm
  refine lv_aload_n hx hb dX4_whileStatement_13 rfl (lv_at hl 0 rfl) ?_
  refine cg_X4_119 C hw dX4_whileStatement_14 ?_
  refine lv_istore_n (lv' := [(1, .int (F 30)), (0, .ref (a 204))]) hx hb dX4_whileStatement_17 rfl hl (by decide) rfl (fun ls hl => ?_)
  refine lv_aload_n hx hb dX4_whileStatement_18 rfl (lv_at hl 1 rfl) ?_
  refine cg_X4_122 C hw dX4_whileStatement_19 ?_
  refine lv_istore_n (lv' := [(2, .int (F 31)), (1, .int (F 30)), (0, .ref (a 204))]) hx hb dX4_whileStatement_22 rfl hl (by decide) rfl (fun ls hl => ?_)
  refine lv_aload_n hx hb dX4_whileStatement_23 rfl (lv_at hl 2 rfl) ?_
  refine cg_X4_19 C hw dX4_whileStatement_24 ?_
  refine cg_X4_43 C hw dX4_whileStatement_27 ?_
  refine lv_istore_n (lv' := [(3, .int (F 6)), (2, .int (F 31)), (1, .int (F 30)), (0, .ref (a 204))]) hx hb dX4_whileStatement_30 rfl hl (by decide) rfl (fun ls hl => ?_)
  refine lv_aload_n hx hb dX4_whileStatement_31 rfl (lv_at hl 3 rfl) ?_
  obtain ⟨⟨r1, F1, G1⟩, hc, hm⟩ := bind_elim hm
  refine ccallV (n := 0) (As := []) (rest := []) C hw (ck_X4_condition l v a _ _ fu F G r1 F1 G1 hc) (cn_X4_condition fu F G _ hc) (Nat.sub_le_sub_right (cn_X4_whileStatement_35 fu rc hrn (F 30) (F 31) (F 6) F1 G1 hm) _) (crecv_X4 C hw) cm_655 cm_656 cm_657 cm_244 cm_658 (by decide +kernel) rfl (by omega) (by omega) hl.1 rfl (Nat.le_of_ble_eq_true rfl) dX4_whileStatement_32 (fun b H locs hw => ?_)
  exact cw_X4_whileStatement_35 fu rc hr hrn C hret (F 30) (F 31) (F 6) F1 G1 hm hw (lv_sub hl [3, 2, 1, 0] rfl)
theorem cn_X4_whileStatement_12 (fu : Nat) (rc : RC) (hrn : ∀ (i : Nat) (x y : Int32) (F : PF) (G : PG) (q : Int32 × PF × PG), rc i x y F G = some q → xn F ≤ xn q.2.1) {res : Int32 × PF × PG} (F : PF) (G : PG) (hm : cb_X4_whileStatement_12 fu rc F G = some res) : xn F ≤ xn res.2.1 := by
  unfold cb_X4_whileStatement_12 at hm
  obtain rfl := Option.some.inj hm
  exact Nat.le_refl _
theorem cw_X4_whileStatement_12 (fu : Nat) (rc : RC) {dd : Nat} (hr : cH2 l v a rc dd) (hrn : ∀ (i : Nat) (x y : Int32) (F : PF) (G : PG) (q : Int32 × PF × PG), rc i x y F G = some q → xn F ≤ xn q.2.1) {res : Int32 × PF × PG} (C : cMC p R s m args c A v RX4 cX4_whileStatement 5 (dd + 1 + 305) (60 * (dd + 1) + 18119) (xn res.2.1 - xn K0)) (hret : ∀ (b1 : Nat) (H1 : Heap) (locs1 : List Loc) (ls1 : Array Slot) (pc : Nat), cMW s A v a b1 K0 res.2.1 res.2.2 H1 locs1 → decode cX4_whileStatement pc = .ok (.return_, 1) → W p l e R s m args below meth c H1 locs1 (xn res.2.1 - xn K0) (2 * (xn res.2.1 - xn K0)) Q (F0 m pc ls1 [])) (F : PF) (G : PG) (hm : cb_X4_whileStatement_12 fu rc F G = some res) {b : Nat} {H : Heap} {locs : List Loc} (hw : cMW s A v a b K0 F G H locs) {ls : Array Slot} (hl : lv_has ls 5 []) : W p l e R s m args below meth c H locs (xn F - xn K0) (2 * (xn F - xn K0)) Q (F0 m 12 ls []) := by
  have hx := C.1
  have hb := C.2.1
  unfold cb_X4_whileStatement_12 at hm
  obtain rfl := Option.some.inj hm
  exact hret _ _ _ _ _ hw dX4_whileStatement_12
theorem cn_X4_whileStatement_9 (fu : Nat) (rc : RC) (hrn : ∀ (i : Nat) (x y : Int32) (F : PF) (G : PG) (q : Int32 × PF × PG), rc i x y F G = some q → xn F ≤ xn q.2.1) {res : Int32 × PF × PG} (z0 : Int32) (F : PF) (G : PG) (hm : cb_X4_whileStatement_9 fu rc z0 F G = some res) : xn F ≤ xn res.2.1 := by
  unfold cb_X4_whileStatement_9 at hm
  by_cases c_1 : z0 = (0 : Int32)
  · have hm := (if_pos c_1).symm.trans hm
    exact (cn_X4_whileStatement_12 fu rc hrn F G hm)
  · have hm := (if_neg c_1).symm.trans hm
    exact (cn_X4_whileStatement_13 fu rc hrn F G hm)
theorem cw_X4_whileStatement_9 (fu : Nat) (rc : RC) {dd : Nat} (hr : cH2 l v a rc dd) (hrn : ∀ (i : Nat) (x y : Int32) (F : PF) (G : PG) (q : Int32 × PF × PG), rc i x y F G = some q → xn F ≤ xn q.2.1) {res : Int32 × PF × PG} (C : cMC p R s m args c A v RX4 cX4_whileStatement 5 (dd + 1 + 305) (60 * (dd + 1) + 18119) (xn res.2.1 - xn K0)) (hret : ∀ (b1 : Nat) (H1 : Heap) (locs1 : List Loc) (ls1 : Array Slot) (pc : Nat), cMW s A v a b1 K0 res.2.1 res.2.2 H1 locs1 → decode cX4_whileStatement pc = .ok (.return_, 1) → W p l e R s m args below meth c H1 locs1 (xn res.2.1 - xn K0) (2 * (xn res.2.1 - xn K0)) Q (F0 m pc ls1 [])) (z0 : Int32) (F : PF) (G : PG) (hm : cb_X4_whileStatement_9 fu rc z0 F G = some res) {b : Nat} {H : Heap} {locs : List Loc} (hw : cMW s A v a b K0 F G H locs) {ls : Array Slot} (hl : lv_has ls 5 [(0, .ref (a 204))]) : W p l e R s m args below meth c H locs (xn F - xn K0) (2 * (xn F - xn K0)) Q (F0 m 9 ls [.int z0]) := by
  have hx := C.1
  have hb := C.2.1
  unfold cb_X4_whileStatement_9 at hm
  refine lv_if_ne (tgt := 13) hx hb dX4_whileStatement_9 (by decide) (fun c_1 => ?_) (fun c_1 => ?_)
  · have hm := (if_neg c_1).symm.trans hm
    exact cw_X4_whileStatement_13 fu rc hr hrn C hret F G hm hw (lv_sub hl [0] rfl)
  · have hm := (if_pos c_1).symm.trans hm
    exact cw_X4_whileStatement_12 fu rc hr hrn C hret F G hm hw (lv_sub hl [] rfl)
theorem cn_X4_whileStatement_0 (fu : Nat) (rc : RC) (hrn : ∀ (i : Nat) (x y : Int32) (F : PF) (G : PG) (q : Int32 × PF × PG), rc i x y F G = some q → xn F ≤ xn q.2.1) {res : Int32 × PF × PG} (F : PF) (G : PG) (hm : cb_X4_whileStatement_0 fu rc F G = some res) : xn F ≤ xn res.2.1 := by
  unfold cb_X4_whileStatement_0 at hm
  obtain ⟨⟨r1, F1, G1⟩, hc, hm⟩ := bind_elim hm
  exact Nat.le_trans (cn_X2_opens fu 10 F G _ hc) (cn_X4_whileStatement_9 fu rc hrn r1 F1 G1 hm)
theorem cw_X4_whileStatement_0 (fu : Nat) (rc : RC) {dd : Nat} (hr : cH2 l v a rc dd) (hrn : ∀ (i : Nat) (x y : Int32) (F : PF) (G : PG) (q : Int32 × PF × PG), rc i x y F G = some q → xn F ≤ xn q.2.1) {res : Int32 × PF × PG} (C : cMC p R s m args c A v RX4 cX4_whileStatement 5 (dd + 1 + 305) (60 * (dd + 1) + 18119) (xn res.2.1 - xn K0)) (hret : ∀ (b1 : Nat) (H1 : Heap) (locs1 : List Loc) (ls1 : Array Slot) (pc : Nat), cMW s A v a b1 K0 res.2.1 res.2.2 H1 locs1 → decode cX4_whileStatement pc = .ok (.return_, 1) → W p l e R s m args below meth c H1 locs1 (xn res.2.1 - xn K0) (2 * (xn res.2.1 - xn K0)) Q (F0 m pc ls1 [])) (F : PF) (G : PG) (hm : cb_X4_whileStatement_0 fu rc F G = some res) {b : Nat} {H : Heap} {locs : List Loc} (hw : cMW s A v a b K0 F G H locs) {ls : Array Slot} (hl : lv_has ls 5 [(0, .ref (a 204))]) : W p l e R s m args below meth c H locs (xn F - xn K0) (2 * (xn F - xn K0)) Q (F0 m 0 ls []) := by
  have hx := C.1
  have hb := C.2.1
  unfold cb_X4_whileStatement_0 at hm
  refine lv_aload_n hx hb dX4_whileStatement_0 rfl (lv_at hl 0 rfl) ?_
  refine cg_X4_9 C hw dX4_whileStatement_1 ?_
  refine lv_bipush (v := 10) hx hb dX4_whileStatement_4 (by decide) ?_
  obtain ⟨⟨r1, F1, G1⟩, hc, hm⟩ := bind_elim hm
  refine ccallI (n := 1) (As := [.int 10]) (rest := []) C hw (ck_X2_opens l v a _ _ fu 10 F G r1 F1 G1 hc) (cn_X2_opens fu 10 F G _ hc) (Nat.sub_le_sub_right (cn_X4_whileStatement_9 fu rc hrn r1 F1 G1 hm) _) (crecv_X2 C hw) cm_623 cm_363 cm_364 cm_307 cm_365 (by decide +kernel) rfl (by omega) (by omega) hl.1 rfl (Nat.le_of_ble_eq_true rfl) dX4_whileStatement_6 (fun b H locs hw => ?_)
  exact cw_X4_whileStatement_9 fu rc hr hrn C hret r1 F1 G1 hm hw (lv_sub hl [0] rfl)
theorem cm_X4_whileStatement (fu : Nat) (rc : RC) (hrn : ∀ (i : Nat) (x y : Int32) (F : PF) (G : PG) (q : Int32 × PF × PG), rc i x y F G = some q → xn F ≤ xn q.2.1) (F : PF) (G : PG) (q : Int32 × PF × PG) (hm : ch_X4_whileStatement fu rc F G = some q) : xn F ≤ xn q.2.1 := cn_X4_whileStatement_0 fu rc hrn F G hm
theorem cq_X4_whileStatement (l : Launch) (v : EV) (a : Nat → Nat) (b sz : Nat) (fu : Nat) (rc : RC) {dd : Nat} (hr : cH2 l v a rc dd) (hrn : ∀ (i : Nat) (x y : Int32) (F : PF) (G : PG) (q : Int32 × PF × PG), rc i x y F G = some q → xn F ≤ xn q.2.1) (F : PF) (G : PG) (r : Int32) (F1 : PF) (G1 : PG) (hm : ch_X4_whileStatement fu rc F G = some (r, F1, G1)) : cMV l yX4_whileStatement cX4_whileStatement 5 (dd + 1 + 305) (60 * (dd + 1) + 18119) v a b sz [.ref (a 204)] F G F1 G1 := cMV.of (by decide) (Nat.le_of_ble_eq_true rfl) (fun p e R s m args below meth c Q A H locs ls C hw hl hret => cw_X4_whileStatement_0 fu rc hr hrn (res := (r, F1, G1)) C hret F G hm hw hl)
def cS2 (fu : Nat) : Nat → RC
  | 0 => fun _ _ _ _ _ => none
  | n + 1 => fun i x y F G => if i = 0 then ch_X4_block fu (cS2 fu n) F G else if i = 1 then ch_X4_doStatement fu (cS2 fu n) F G else if i = 2 then ch_X4_forStatement fu (cS2 fu n) F G else if i = 3 then ch_X4_ifStatement fu (cS2 fu n) F G else if i = 4 then ch_X4_inner fu (cS2 fu n) F G else if i = 5 then ch_X4_loopBody fu (cS2 fu n) F G else if i = 6 then ch_X4_statement fu (cS2 fu n) F G else if i = 7 then ch_X4_whileStatement fu (cS2 fu n) F G else none
theorem cS2_mono (fu : Nat) : ∀ (d i : Nat) (x y : Int32) (F : PF) (G : PG) (q : Int32 × PF × PG), cS2 fu d i x y F G = some q → xn F ≤ xn q.2.1 := by
  intro d
  induction d with
  | zero => exact fun i x y F G q h => no_elim h
  | succ n ih =>
    intro i x y F G q h
    have h : (if i = 0 then ch_X4_block fu (cS2 fu n) F G else if i = 1 then ch_X4_doStatement fu (cS2 fu n) F G else if i = 2 then ch_X4_forStatement fu (cS2 fu n) F G else if i = 3 then ch_X4_ifStatement fu (cS2 fu n) F G else if i = 4 then ch_X4_inner fu (cS2 fu n) F G else if i = 5 then ch_X4_loopBody fu (cS2 fu n) F G else if i = 6 then ch_X4_statement fu (cS2 fu n) F G else if i = 7 then ch_X4_whileStatement fu (cS2 fu n) F G else none : PR) = some q := h
    by_cases c_0 : i = 0
    · have h := (if_pos c_0).symm.trans h
      exact cm_X4_block fu (cS2 fu n) ih F G q h
    have h := (if_neg c_0).symm.trans h
    by_cases c_1 : i = 1
    · have h := (if_pos c_1).symm.trans h
      exact cm_X4_doStatement fu (cS2 fu n) ih F G q h
    have h := (if_neg c_1).symm.trans h
    by_cases c_2 : i = 2
    · have h := (if_pos c_2).symm.trans h
      exact cm_X4_forStatement fu (cS2 fu n) ih F G q h
    have h := (if_neg c_2).symm.trans h
    by_cases c_3 : i = 3
    · have h := (if_pos c_3).symm.trans h
      exact cm_X4_ifStatement fu (cS2 fu n) ih F G q h
    have h := (if_neg c_3).symm.trans h
    by_cases c_4 : i = 4
    · have h := (if_pos c_4).symm.trans h
      exact cm_X4_inner fu (cS2 fu n) ih F G q h
    have h := (if_neg c_4).symm.trans h
    by_cases c_5 : i = 5
    · have h := (if_pos c_5).symm.trans h
      exact cm_X4_loopBody fu (cS2 fu n) ih F G q h
    have h := (if_neg c_5).symm.trans h
    by_cases c_6 : i = 6
    · have h := (if_pos c_6).symm.trans h
      exact cm_X4_statement fu (cS2 fu n) ih F G q h
    have h := (if_neg c_6).symm.trans h
    by_cases c_7 : i = 7
    · have h := (if_pos c_7).symm.trans h
      exact cm_X4_whileStatement fu (cS2 fu n) ih F G q h
    have h := (if_neg c_7).symm.trans h
    exact no_elim h
theorem cS2_all (l : Launch) (v : EV) (a : Nat → Nat) (fu : Nat) : ∀ dd : Nat, cH2 l v a (cS2 fu dd) dd := by
  intro dd
  induction dd with
  | zero =>
    refine ⟨fun b sz F G r F1 G1 h => no_elim h, fun b sz F G r F1 G1 h => no_elim h, fun b sz F G r F1 G1 h => no_elim h, fun b sz F G r F1 G1 h => no_elim h, fun b sz F G r F1 G1 h => no_elim h, fun b sz F G r F1 G1 h => no_elim h, fun b sz F G r F1 G1 h => no_elim h, fun b sz F G r F1 G1 h => no_elim h⟩
  | succ dd ih =>
    exact ⟨fun b sz F G r F1 G1 h => cq_X4_block l v a b sz fu (cS2 fu dd) ih (cS2_mono fu dd) F G r F1 G1 h, fun b sz F G r F1 G1 h => cq_X4_doStatement l v a b sz fu (cS2 fu dd) ih (cS2_mono fu dd) F G r F1 G1 h, fun b sz F G r F1 G1 h => cq_X4_forStatement l v a b sz fu (cS2 fu dd) ih (cS2_mono fu dd) F G r F1 G1 h, fun b sz F G r F1 G1 h => cq_X4_ifStatement l v a b sz fu (cS2 fu dd) ih (cS2_mono fu dd) F G r F1 G1 h, fun b sz F G r F1 G1 h => cq_X4_inner l v a b sz fu (cS2 fu dd) ih (cS2_mono fu dd) F G r F1 G1 h, fun b sz F G r F1 G1 h => cq_X4_loopBody l v a b sz fu (cS2 fu dd) ih (cS2_mono fu dd) F G r F1 G1 h, fun b sz F G r F1 G1 h => cq_X4_statement l v a b sz fu (cS2 fu dd) ih (cS2_mono fu dd) F G r F1 G1 h, fun b sz F G r F1 G1 h => cq_X4_whileStatement l v a b sz fu (cS2 fu dd) ih (cS2_mono fu dd) F G r F1 G1 h⟩
def cf_X4_block (fu : Nat) (F : PF) (G : PG) : PR := cS2 fu 300 0 0 0 F G
theorem ck_X4_block (l : Launch) (v : EV) (a : Nat → Nat) (b sz : Nat) (fu : Nat) (F : PF) (G : PG) (r : Int32) (F1 : PF) (G1 : PG) (hm : cf_X4_block fu F G = some (r, F1, G1)) : cMV l yX4_block cX4_block 2 605 36119 v a b sz [.ref (a 204)] F G F1 G1 := (cS2_all l v a fu 300).1 b sz F G r F1 G1 hm
theorem cn_X4_block (fu : Nat) (F : PF) (G : PG) (q : Int32 × PF × PG) (hm : cf_X4_block fu F G = some q) : xn F ≤ xn q.2.1 := cS2_mono fu 300 _ _ _ F G q hm
def cf_X4_doStatement (fu : Nat) (F : PF) (G : PG) : PR := cS2 fu 300 1 0 0 F G
theorem ck_X4_doStatement (l : Launch) (v : EV) (a : Nat → Nat) (b sz : Nat) (fu : Nat) (F : PF) (G : PG) (r : Int32) (F1 : PF) (G1 : PG) (hm : cf_X4_doStatement fu F G = some (r, F1, G1)) : cMV l yX4_doStatement cX4_doStatement 4 605 36119 v a b sz [.ref (a 204)] F G F1 G1 := (cS2_all l v a fu 300).2.1 b sz F G r F1 G1 hm
theorem cn_X4_doStatement (fu : Nat) (F : PF) (G : PG) (q : Int32 × PF × PG) (hm : cf_X4_doStatement fu F G = some q) : xn F ≤ xn q.2.1 := cS2_mono fu 300 _ _ _ F G q hm
def cf_X4_forStatement (fu : Nat) (F : PF) (G : PG) : PR := cS2 fu 300 2 0 0 F G
theorem ck_X4_forStatement (l : Launch) (v : EV) (a : Nat → Nat) (b sz : Nat) (fu : Nat) (F : PF) (G : PG) (r : Int32) (F1 : PF) (G1 : PG) (hm : cf_X4_forStatement fu F G = some (r, F1, G1)) : cMV l yX4_forStatement cX4_forStatement 8 605 36119 v a b sz [.ref (a 204)] F G F1 G1 := (cS2_all l v a fu 300).2.2.1 b sz F G r F1 G1 hm
theorem cn_X4_forStatement (fu : Nat) (F : PF) (G : PG) (q : Int32 × PF × PG) (hm : cf_X4_forStatement fu F G = some q) : xn F ≤ xn q.2.1 := cS2_mono fu 300 _ _ _ F G q hm
def cf_X4_ifStatement (fu : Nat) (F : PF) (G : PG) : PR := cS2 fu 300 3 0 0 F G
theorem ck_X4_ifStatement (l : Launch) (v : EV) (a : Nat → Nat) (b sz : Nat) (fu : Nat) (F : PF) (G : PG) (r : Int32) (F1 : PF) (G1 : PG) (hm : cf_X4_ifStatement fu F G = some (r, F1, G1)) : cMV l yX4_ifStatement cX4_ifStatement 3 605 36119 v a b sz [.ref (a 204)] F G F1 G1 := (cS2_all l v a fu 300).2.2.2.1 b sz F G r F1 G1 hm
theorem cn_X4_ifStatement (fu : Nat) (F : PF) (G : PG) (q : Int32 × PF × PG) (hm : cf_X4_ifStatement fu F G = some q) : xn F ≤ xn q.2.1 := cS2_mono fu 300 _ _ _ F G q hm
def cf_X4_inner (fu : Nat) (F : PF) (G : PG) : PR := cS2 fu 300 4 0 0 F G
theorem ck_X4_inner (l : Launch) (v : EV) (a : Nat → Nat) (b sz : Nat) (fu : Nat) (F : PF) (G : PG) (r : Int32) (F1 : PF) (G1 : PG) (hm : cf_X4_inner fu F G = some (r, F1, G1)) : cMV l yX4_inner cX4_inner 1 605 36119 v a b sz [.ref (a 204)] F G F1 G1 := (cS2_all l v a fu 300).2.2.2.2.1 b sz F G r F1 G1 hm
theorem cn_X4_inner (fu : Nat) (F : PF) (G : PG) (q : Int32 × PF × PG) (hm : cf_X4_inner fu F G = some q) : xn F ≤ xn q.2.1 := cS2_mono fu 300 _ _ _ F G q hm
def cf_X4_loopBody (fu : Nat) (F : PF) (G : PG) : PR := cS2 fu 300 5 0 0 F G
theorem ck_X4_loopBody (l : Launch) (v : EV) (a : Nat → Nat) (b sz : Nat) (fu : Nat) (F : PF) (G : PG) (r : Int32) (F1 : PF) (G1 : PG) (hm : cf_X4_loopBody fu F G = some (r, F1, G1)) : cMV l yX4_loopBody cX4_loopBody 1 605 36119 v a b sz [.ref (a 204)] F G F1 G1 := (cS2_all l v a fu 300).2.2.2.2.2.1 b sz F G r F1 G1 hm
theorem cn_X4_loopBody (fu : Nat) (F : PF) (G : PG) (q : Int32 × PF × PG) (hm : cf_X4_loopBody fu F G = some q) : xn F ≤ xn q.2.1 := cS2_mono fu 300 _ _ _ F G q hm
def cf_X4_statement (fu : Nat) (F : PF) (G : PG) : PR := cS2 fu 300 6 0 0 F G
theorem ck_X4_statement (l : Launch) (v : EV) (a : Nat → Nat) (b sz : Nat) (fu : Nat) (F : PF) (G : PG) (r : Int32) (F1 : PF) (G1 : PG) (hm : cf_X4_statement fu F G = some (r, F1, G1)) : cMV l yX4_statement cX4_statement 1 605 36119 v a b sz [.ref (a 204)] F G F1 G1 := (cS2_all l v a fu 300).2.2.2.2.2.2.1 b sz F G r F1 G1 hm
theorem cn_X4_statement (fu : Nat) (F : PF) (G : PG) (q : Int32 × PF × PG) (hm : cf_X4_statement fu F G = some q) : xn F ≤ xn q.2.1 := cS2_mono fu 300 _ _ _ F G q hm
def cf_X4_whileStatement (fu : Nat) (F : PF) (G : PG) : PR := cS2 fu 300 7 0 0 F G
theorem ck_X4_whileStatement (l : Launch) (v : EV) (a : Nat → Nat) (b sz : Nat) (fu : Nat) (F : PF) (G : PG) (r : Int32) (F1 : PF) (G1 : PG) (hm : cf_X4_whileStatement fu F G = some (r, F1, G1)) : cMV l yX4_whileStatement cX4_whileStatement 5 605 36119 v a b sz [.ref (a 204)] F G F1 G1 := (cS2_all l v a fu 300).2.2.2.2.2.2.2 b sz F G r F1 G1 hm
theorem cn_X4_whileStatement (fu : Nat) (F : PF) (G : PG) (q : Int32 × PF × PG) (hm : cf_X4_whileStatement fu F G = some q) : xn F ≤ xn q.2.1 := cS2_mono fu 300 _ _ _ F G q hm
def cb_X4_constTold_38 (fu : Nat) (F : PF) (G : PG) : PR := some (0, F, G)
def cb_X4_constTold_26 (fu : Nat) (x1 : Int32) (x2 : Int32) (x3 : Int32) (F : PF) (G : PG) : PR := (cf_X5_tell fu x1 x2 0 x3 0 F G).bind (fun q => cb_X4_constTold_38 fu q.2.1 q.2.2)
def cb_X4_constTold_16 (fu : Nat) (x1 : Int32) (x2 : Int32) (z0 : Int32) (F : PF) (G : PG) : PR := (cf_X2_expect fu 26 F G).bind (fun q => cb_X4_constTold_26 fu x1 x2 z0 q.2.1 q.2.2)
def cb_X4_constTold_9 (fu : Nat) (x1 : Int32) (x2 : Int32) (F : PF) (G : PG) : PR := (cf_X3_constant fu F G).bind (fun q => cb_X4_constTold_16 fu x1 x2 q.1 q.2.1 q.2.2)
def cb_X4_constTold_0 (fu : Nat) (x1 : Int32) (x2 : Int32) (F : PF) (G : PG) : PR := (cf_X2_expect fu 29 F G).bind (fun q => cb_X4_constTold_9 fu x1 x2 q.2.1 q.2.2)
def cf_X4_constTold (fu : Nat) (x1 : Int32) (x2 : Int32) (F : PF) (G : PG) : PR := cb_X4_constTold_0 fu x1 x2 F G
theorem cn_X4_constTold_38 (fu : Nat) {res : Int32 × PF × PG} (F : PF) (G : PG) (hm : cb_X4_constTold_38 fu F G = some res) : xn F ≤ xn res.2.1 := by
  unfold cb_X4_constTold_38 at hm
  obtain rfl := Option.some.inj hm
  exact Nat.le_refl _
theorem cw_X4_constTold_38 (fu : Nat) {res : Int32 × PF × PG} (C : cMC p R s m args c A v RX4 cX4_constTold 4 304 18093 (xn res.2.1 - xn K0)) (hret : ∀ (b1 : Nat) (H1 : Heap) (locs1 : List Loc) (ls1 : Array Slot) (pc : Nat), cMW s A v a b1 K0 res.2.1 res.2.2 H1 locs1 → decode cX4_constTold pc = .ok (.return_, 1) → W p l e R s m args below meth c H1 locs1 (xn res.2.1 - xn K0) (2 * (xn res.2.1 - xn K0)) Q (F0 m pc ls1 [])) (F : PF) (G : PG) (hm : cb_X4_constTold_38 fu F G = some res) {b : Nat} {H : Heap} {locs : List Loc} (hw : cMW s A v a b K0 F G H locs) {ls : Array Slot} (hl : lv_has ls 4 []) : W p l e R s m args below meth c H locs (xn F - xn K0) (2 * (xn F - xn K0)) Q (F0 m 38 ls []) := by
  have hx := C.1
  have hb := C.2.1
  unfold cb_X4_constTold_38 at hm
  obtain rfl := Option.some.inj hm
  exact hret _ _ _ _ _ hw dX4_constTold_38
theorem cn_X4_constTold_26 (fu : Nat) {res : Int32 × PF × PG} (x1 : Int32) (x2 : Int32) (x3 : Int32) (F : PF) (G : PG) (hm : cb_X4_constTold_26 fu x1 x2 x3 F G = some res) : xn F ≤ xn res.2.1 := by
  unfold cb_X4_constTold_26 at hm
  obtain ⟨⟨r1, F1, G1⟩, hc, hm⟩ := bind_elim hm
  exact Nat.le_trans (cn_X5_tell fu x1 x2 0 x3 0 F G _ hc) (cn_X4_constTold_38 fu F1 G1 hm)
theorem cw_X4_constTold_26 (fu : Nat) {res : Int32 × PF × PG} (C : cMC p R s m args c A v RX4 cX4_constTold 4 304 18093 (xn res.2.1 - xn K0)) (hret : ∀ (b1 : Nat) (H1 : Heap) (locs1 : List Loc) (ls1 : Array Slot) (pc : Nat), cMW s A v a b1 K0 res.2.1 res.2.2 H1 locs1 → decode cX4_constTold pc = .ok (.return_, 1) → W p l e R s m args below meth c H1 locs1 (xn res.2.1 - xn K0) (2 * (xn res.2.1 - xn K0)) Q (F0 m pc ls1 [])) (x1 : Int32) (x2 : Int32) (x3 : Int32) (F : PF) (G : PG) (hm : cb_X4_constTold_26 fu x1 x2 x3 F G = some res) {b : Nat} {H : Heap} {locs : List Loc} (hw : cMW s A v a b K0 F G H locs) {ls : Array Slot} (hl : lv_has ls 4 [(0, .ref (a 204)), (1, .int x1), (2, .int x2), (3, .int x3)]) : W p l e R s m args below meth c H locs (xn F - xn K0) (2 * (xn F - xn K0)) Q (F0 m 26 ls []) := by
  have hx := C.1
  have hb := C.2.1
  unfold cb_X4_constTold_26 at hm
  refine lv_aload_n hx hb dX4_constTold_26 rfl (lv_at hl 0 rfl) ?_
  refine cg_X4_15 C hw dX4_constTold_27 ?_
  refine lv_iload_n hx hb dX4_constTold_30 rfl (lv_at hl 1 rfl) ?_
  refine lv_iload_n hx hb dX4_constTold_31 rfl (lv_at hl 2 rfl) ?_
  refine lv_iconst (v := 0) hx hb dX4_constTold_32 (by decide) ?_
  refine lv_iload_n hx hb dX4_constTold_33 rfl (lv_at hl 3 rfl) ?_
  refine lv_iconst (v := 0) hx hb dX4_constTold_34 (by decide) ?_
  obtain ⟨⟨r1, F1, G1⟩, hc, hm⟩ := bind_elim hm
  refine ccallV (n := 5) (As := [.int x1, .int x2, .int 0, .int x3, .int 0]) (rest := []) C hw (ck_X5_tell l v a _ _ fu x1 x2 0 x3 0 F G r1 F1 G1 hc) (cn_X5_tell fu x1 x2 0 x3 0 F G _ hc) (Nat.sub_le_sub_right (cn_X4_constTold_38 fu F1 G1 hm) _) (crecv_X5 C hw) cm_574 cm_575 cm_576 cm_266 cm_577 (by decide +kernel) rfl (by omega) (by omega) hl.1 rfl (Nat.le_of_ble_eq_true rfl) dX4_constTold_35 (fun b H locs hw => ?_)
  exact cw_X4_constTold_38 fu C hret F1 G1 hm hw (lv_sub hl [] rfl)
theorem cn_X4_constTold_16 (fu : Nat) {res : Int32 × PF × PG} (x1 : Int32) (x2 : Int32) (z0 : Int32) (F : PF) (G : PG) (hm : cb_X4_constTold_16 fu x1 x2 z0 F G = some res) : xn F ≤ xn res.2.1 := by
  unfold cb_X4_constTold_16 at hm
  obtain ⟨⟨r1, F1, G1⟩, hc, hm⟩ := bind_elim hm
  exact Nat.le_trans (cn_X2_expect fu 26 F G _ hc) (cn_X4_constTold_26 fu x1 x2 z0 F1 G1 hm)
theorem cw_X4_constTold_16 (fu : Nat) {res : Int32 × PF × PG} (C : cMC p R s m args c A v RX4 cX4_constTold 4 304 18093 (xn res.2.1 - xn K0)) (hret : ∀ (b1 : Nat) (H1 : Heap) (locs1 : List Loc) (ls1 : Array Slot) (pc : Nat), cMW s A v a b1 K0 res.2.1 res.2.2 H1 locs1 → decode cX4_constTold pc = .ok (.return_, 1) → W p l e R s m args below meth c H1 locs1 (xn res.2.1 - xn K0) (2 * (xn res.2.1 - xn K0)) Q (F0 m pc ls1 [])) (x1 : Int32) (x2 : Int32) (z0 : Int32) (F : PF) (G : PG) (hm : cb_X4_constTold_16 fu x1 x2 z0 F G = some res) {b : Nat} {H : Heap} {locs : List Loc} (hw : cMW s A v a b K0 F G H locs) {ls : Array Slot} (hl : lv_has ls 4 [(0, .ref (a 204)), (1, .int x1), (2, .int x2)]) : W p l e R s m args below meth c H locs (xn F - xn K0) (2 * (xn F - xn K0)) Q (F0 m 16 ls [.int z0]) := by
  have hx := C.1
  have hb := C.2.1
  unfold cb_X4_constTold_16 at hm
  refine lv_istore_n (lv' := [(3, .int z0), (0, .ref (a 204)), (1, .int x1), (2, .int x2)]) hx hb dX4_constTold_16 rfl hl (by decide) rfl (fun ls hl => ?_)
  refine lv_aload_n hx hb dX4_constTold_17 rfl (lv_at hl 1 rfl) ?_
  refine cg_X4_9 C hw dX4_constTold_18 ?_
  refine lv_bipush (v := 26) hx hb dX4_constTold_21 (by decide) ?_
  obtain ⟨⟨r1, F1, G1⟩, hc, hm⟩ := bind_elim hm
  refine ccallV (n := 1) (As := [.int 26]) (rest := []) C hw (ck_X2_expect l v a _ _ fu 26 F G r1 F1 G1 hc) (cn_X2_expect fu 26 F G _ hc) (Nat.sub_le_sub_right (cn_X4_constTold_26 fu x1 x2 z0 F1 G1 hm) _) (crecv_X2 C hw) cm_332 cm_333 cm_334 cm_307 cm_335 (by decide +kernel) rfl (by omega) (by omega) hl.1 rfl (Nat.le_of_ble_eq_true rfl) dX4_constTold_23 (fun b H locs hw => ?_)
  exact cw_X4_constTold_26 fu C hret x1 x2 z0 F1 G1 hm hw (lv_sub hl [1, 2, 3, 0] rfl)
theorem cn_X4_constTold_9 (fu : Nat) {res : Int32 × PF × PG} (x1 : Int32) (x2 : Int32) (F : PF) (G : PG) (hm : cb_X4_constTold_9 fu x1 x2 F G = some res) : xn F ≤ xn res.2.1 := by
  unfold cb_X4_constTold_9 at hm
  obtain ⟨⟨r1, F1, G1⟩, hc, hm⟩ := bind_elim hm
  exact Nat.le_trans (cn_X3_constant fu F G _ hc) (cn_X4_constTold_16 fu x1 x2 r1 F1 G1 hm)
theorem cw_X4_constTold_9 (fu : Nat) {res : Int32 × PF × PG} (C : cMC p R s m args c A v RX4 cX4_constTold 4 304 18093 (xn res.2.1 - xn K0)) (hret : ∀ (b1 : Nat) (H1 : Heap) (locs1 : List Loc) (ls1 : Array Slot) (pc : Nat), cMW s A v a b1 K0 res.2.1 res.2.2 H1 locs1 → decode cX4_constTold pc = .ok (.return_, 1) → W p l e R s m args below meth c H1 locs1 (xn res.2.1 - xn K0) (2 * (xn res.2.1 - xn K0)) Q (F0 m pc ls1 [])) (x1 : Int32) (x2 : Int32) (F : PF) (G : PG) (hm : cb_X4_constTold_9 fu x1 x2 F G = some res) {b : Nat} {H : Heap} {locs : List Loc} (hw : cMW s A v a b K0 F G H locs) {ls : Array Slot} (hl : lv_has ls 4 [(0, .ref (a 204)), (1, .int x1), (2, .int x2)]) : W p l e R s m args below meth c H locs (xn F - xn K0) (2 * (xn F - xn K0)) Q (F0 m 9 ls []) := by
  have hx := C.1
  have hb := C.2.1
  unfold cb_X4_constTold_9 at hm
  refine lv_aload_n hx hb dX4_constTold_9 rfl (lv_at hl 0 rfl) ?_
  refine cg_X4_27 C hw dX4_constTold_10 ?_
  obtain ⟨⟨r1, F1, G1⟩, hc, hm⟩ := bind_elim hm
  refine ccallI (n := 0) (As := []) (rest := []) C hw (ck_X3_constant l v a _ _ fu F G r1 F1 G1 hc) (cn_X3_constant fu F G _ hc) (Nat.sub_le_sub_right (cn_X4_constTold_16 fu x1 x2 r1 F1 G1 hm) _) (crecv_X3 C hw) cm_341 cm_342 cm_343 cm_301 cm_344 (by decide +kernel) rfl (by omega) (by omega) hl.1 rfl (Nat.le_of_ble_eq_true rfl) dX4_constTold_13 (fun b H locs hw => ?_)
  exact cw_X4_constTold_16 fu C hret x1 x2 r1 F1 G1 hm hw (lv_sub hl [0, 1, 2] rfl)
theorem cn_X4_constTold_0 (fu : Nat) {res : Int32 × PF × PG} (x1 : Int32) (x2 : Int32) (F : PF) (G : PG) (hm : cb_X4_constTold_0 fu x1 x2 F G = some res) : xn F ≤ xn res.2.1 := by
  unfold cb_X4_constTold_0 at hm
  obtain ⟨⟨r1, F1, G1⟩, hc, hm⟩ := bind_elim hm
  exact Nat.le_trans (cn_X2_expect fu 29 F G _ hc) (cn_X4_constTold_9 fu x1 x2 F1 G1 hm)
theorem cw_X4_constTold_0 (fu : Nat) {res : Int32 × PF × PG} (C : cMC p R s m args c A v RX4 cX4_constTold 4 304 18093 (xn res.2.1 - xn K0)) (hret : ∀ (b1 : Nat) (H1 : Heap) (locs1 : List Loc) (ls1 : Array Slot) (pc : Nat), cMW s A v a b1 K0 res.2.1 res.2.2 H1 locs1 → decode cX4_constTold pc = .ok (.return_, 1) → W p l e R s m args below meth c H1 locs1 (xn res.2.1 - xn K0) (2 * (xn res.2.1 - xn K0)) Q (F0 m pc ls1 [])) (x1 : Int32) (x2 : Int32) (F : PF) (G : PG) (hm : cb_X4_constTold_0 fu x1 x2 F G = some res) {b : Nat} {H : Heap} {locs : List Loc} (hw : cMW s A v a b K0 F G H locs) {ls : Array Slot} (hl : lv_has ls 4 [(0, .ref (a 204)), (1, .int x1), (2, .int x2)]) : W p l e R s m args below meth c H locs (xn F - xn K0) (2 * (xn F - xn K0)) Q (F0 m 0 ls []) := by
  have hx := C.1
  have hb := C.2.1
  unfold cb_X4_constTold_0 at hm
  refine lv_aload_n hx hb dX4_constTold_0 rfl (lv_at hl 0 rfl) ?_
  refine cg_X4_9 C hw dX4_constTold_1 ?_
  refine lv_bipush (v := 29) hx hb dX4_constTold_4 (by decide) ?_
  obtain ⟨⟨r1, F1, G1⟩, hc, hm⟩ := bind_elim hm
  refine ccallV (n := 1) (As := [.int 29]) (rest := []) C hw (ck_X2_expect l v a _ _ fu 29 F G r1 F1 G1 hc) (cn_X2_expect fu 29 F G _ hc) (Nat.sub_le_sub_right (cn_X4_constTold_9 fu x1 x2 F1 G1 hm) _) (crecv_X2 C hw) cm_332 cm_333 cm_334 cm_307 cm_335 (by decide +kernel) rfl (by omega) (by omega) hl.1 rfl (Nat.le_of_ble_eq_true rfl) dX4_constTold_6 (fun b H locs hw => ?_)
  exact cw_X4_constTold_9 fu C hret x1 x2 F1 G1 hm hw (lv_sub hl [0, 1, 2] rfl)
theorem cn_X4_constTold (fu : Nat) (x1 : Int32) (x2 : Int32) (F : PF) (G : PG) (q : Int32 × PF × PG) (hm : cf_X4_constTold fu x1 x2 F G = some q) : xn F ≤ xn q.2.1 := cn_X4_constTold_0 fu x1 x2 F G hm
theorem ck_X4_constTold (l : Launch) (v : EV) (a : Nat → Nat) (b sz : Nat) (fu : Nat) (x1 : Int32) (x2 : Int32) (F : PF) (G : PG) (r : Int32) (F1 : PF) (G1 : PG) (hm : cf_X4_constTold fu x1 x2 F G = some (r, F1, G1)) : cMV l yX4_constTold cX4_constTold 4 304 18093 v a b sz [.ref (a 204), .int x1, .int x2] F G F1 G1 := cMV.of (by decide) (Nat.le_of_ble_eq_true rfl) (fun p e R s m args below meth c Q A H locs ls C hw hl hret => cw_X4_constTold_0 fu (res := (r, F1, G1)) C hret x1 x2 F G hm hw hl)
def cb_X8_firstWord_21 (fu : Nat) (z0 : Int32) (F : PF) (G : PG) : PR := some (z0, F, G)
def cb_X8_firstWord_11 (fu : Nat) (F : PF) (G : PG) : PR := cb_X8_firstWord_21 fu 0 F G
def cb_X8_firstWord_15 (fu : Nat) (x1 : Int32) (F : PF) (G : PG) : PR := if ixb x1 2000 = true then (cb_X8_firstWord_21 fu (G 86 x1.toNatClampNeg) F G) else none
def cb_X8_firstWord_4 (fu : Nat) (x1 : Int32) (F : PF) (G : PG) : PR := if x1 < (2000 : Int32) then cb_X8_firstWord_15 fu x1 F G else cb_X8_firstWord_11 fu F G
def cb_X8_firstWord_0 (fu : Nat) (x1 : Int32) (F : PF) (G : PG) : PR := if x1 < (0 : Int32) then cb_X8_firstWord_11 fu F G else cb_X8_firstWord_4 fu x1 F G
def cf_X8_firstWord (fu : Nat) (x1 : Int32) (F : PF) (G : PG) : PR := cb_X8_firstWord_0 fu x1 F G
theorem cn_X8_firstWord_21 (fu : Nat) {res : Int32 × PF × PG} (z0 : Int32) (F : PF) (G : PG) (hm : cb_X8_firstWord_21 fu z0 F G = some res) : xn F ≤ xn res.2.1 := by
  unfold cb_X8_firstWord_21 at hm
  obtain rfl := Option.some.inj hm
  exact Nat.le_refl _
theorem cw_X8_firstWord_21 (fu : Nat) {res : Int32 × PF × PG} (C : cMC p R s m args c A v RX8 cX8_firstWord 2 0 0 (xn res.2.1 - xn K0)) (hret : ∀ (b1 : Nat) (H1 : Heap) (locs1 : List Loc) (ls1 : Array Slot) (pc : Nat), cMW s A v a b1 K0 res.2.1 res.2.2 H1 locs1 → narrow .int (.int res.1) = .int res.1 → decode cX8_firstWord pc = .ok (.ireturn, 1) → W p l e R s m args below meth c H1 locs1 (xn res.2.1 - xn K0) (2 * (xn res.2.1 - xn K0)) Q (F0 m pc ls1 [.int res.1])) (z0 : Int32) (F : PF) (G : PG) (hm : cb_X8_firstWord_21 fu z0 F G = some res) {b : Nat} {H : Heap} {locs : List Loc} (hw : cMW s A v a b K0 F G H locs) {ls : Array Slot} (hl : lv_has ls 2 []) : W p l e R s m args below meth c H locs (xn F - xn K0) (2 * (xn F - xn K0)) Q (F0 m 21 ls [.int z0]) := by
  have hx := C.1
  have hb := C.2.1
  unfold cb_X8_firstWord_21 at hm
  obtain rfl := Option.some.inj hm
  exact hret _ _ _ _ _ hw rfl dX8_firstWord_21
theorem cn_X8_firstWord_11 (fu : Nat) {res : Int32 × PF × PG} (F : PF) (G : PG) (hm : cb_X8_firstWord_11 fu F G = some res) : xn F ≤ xn res.2.1 := by
  unfold cb_X8_firstWord_11 at hm
  exact (cn_X8_firstWord_21 fu 0 F G hm)
theorem cw_X8_firstWord_11 (fu : Nat) {res : Int32 × PF × PG} (C : cMC p R s m args c A v RX8 cX8_firstWord 2 0 0 (xn res.2.1 - xn K0)) (hret : ∀ (b1 : Nat) (H1 : Heap) (locs1 : List Loc) (ls1 : Array Slot) (pc : Nat), cMW s A v a b1 K0 res.2.1 res.2.2 H1 locs1 → narrow .int (.int res.1) = .int res.1 → decode cX8_firstWord pc = .ok (.ireturn, 1) → W p l e R s m args below meth c H1 locs1 (xn res.2.1 - xn K0) (2 * (xn res.2.1 - xn K0)) Q (F0 m pc ls1 [.int res.1])) (F : PF) (G : PG) (hm : cb_X8_firstWord_11 fu F G = some res) {b : Nat} {H : Heap} {locs : List Loc} (hw : cMW s A v a b K0 F G H locs) {ls : Array Slot} (hl : lv_has ls 2 []) : W p l e R s m args below meth c H locs (xn F - xn K0) (2 * (xn F - xn K0)) Q (F0 m 11 ls []) := by
  have hx := C.1
  have hb := C.2.1
  unfold cb_X8_firstWord_11 at hm
  refine lv_iconst (v := 0) hx hb dX8_firstWord_11 (by decide) ?_
  refine lv_goto (tgt := 21) hx hb dX8_firstWord_12 (by decide) ?_
  exact cw_X8_firstWord_21 fu C hret 0 F G hm hw (lv_sub hl [] rfl)
theorem cn_X8_firstWord_15 (fu : Nat) {res : Int32 × PF × PG} (x1 : Int32) (F : PF) (G : PG) (hm : cb_X8_firstWord_15 fu x1 F G = some res) : xn F ≤ xn res.2.1 := by
  unfold cb_X8_firstWord_15 at hm
  have hm := (ix_elim hm).2
  exact (cn_X8_firstWord_21 fu (G 86 x1.toNatClampNeg) F G hm)
theorem cw_X8_firstWord_15 (fu : Nat) {res : Int32 × PF × PG} (C : cMC p R s m args c A v RX8 cX8_firstWord 2 0 0 (xn res.2.1 - xn K0)) (hret : ∀ (b1 : Nat) (H1 : Heap) (locs1 : List Loc) (ls1 : Array Slot) (pc : Nat), cMW s A v a b1 K0 res.2.1 res.2.2 H1 locs1 → narrow .int (.int res.1) = .int res.1 → decode cX8_firstWord pc = .ok (.ireturn, 1) → W p l e R s m args below meth c H1 locs1 (xn res.2.1 - xn K0) (2 * (xn res.2.1 - xn K0)) Q (F0 m pc ls1 [.int res.1])) (x1 : Int32) (F : PF) (G : PG) (hm : cb_X8_firstWord_15 fu x1 F G = some res) {b : Nat} {H : Heap} {locs : List Loc} (hw : cMW s A v a b K0 F G H locs) {ls : Array Slot} (hl : lv_has ls 2 [(0, .ref (a 208)), (1, .int x1)]) : W p l e R s m args below meth c H locs (xn F - xn K0) (2 * (xn F - xn K0)) Q (F0 m 15 ls []) := by
  have hx := C.1
  have hb := C.2.1
  unfold cb_X8_firstWord_15 at hm
  refine lv_aload_n hx hb dX8_firstWord_15 rfl (lv_at hl 0 rfl) ?_
  refine cg_X8_36 C hw dX8_firstWord_16 ?_
  refine lv_iload_n hx hb dX8_firstWord_19 rfl (lv_at hl 1 rfl) ?_
  obtain ⟨hi, hm⟩ := ix_elim hm
  refine cal_86 C hw hi dX8_firstWord_20 ?_
  exact cw_X8_firstWord_21 fu C hret (G 86 x1.toNatClampNeg) F G hm hw (lv_sub hl [] rfl)
theorem cn_X8_firstWord_4 (fu : Nat) {res : Int32 × PF × PG} (x1 : Int32) (F : PF) (G : PG) (hm : cb_X8_firstWord_4 fu x1 F G = some res) : xn F ≤ xn res.2.1 := by
  unfold cb_X8_firstWord_4 at hm
  by_cases c_1 : x1 < (2000 : Int32)
  · have hm := (if_pos c_1).symm.trans hm
    exact (cn_X8_firstWord_15 fu x1 F G hm)
  · have hm := (if_neg c_1).symm.trans hm
    exact (cn_X8_firstWord_11 fu F G hm)
theorem cw_X8_firstWord_4 (fu : Nat) {res : Int32 × PF × PG} (C : cMC p R s m args c A v RX8 cX8_firstWord 2 0 0 (xn res.2.1 - xn K0)) (hret : ∀ (b1 : Nat) (H1 : Heap) (locs1 : List Loc) (ls1 : Array Slot) (pc : Nat), cMW s A v a b1 K0 res.2.1 res.2.2 H1 locs1 → narrow .int (.int res.1) = .int res.1 → decode cX8_firstWord pc = .ok (.ireturn, 1) → W p l e R s m args below meth c H1 locs1 (xn res.2.1 - xn K0) (2 * (xn res.2.1 - xn K0)) Q (F0 m pc ls1 [.int res.1])) (x1 : Int32) (F : PF) (G : PG) (hm : cb_X8_firstWord_4 fu x1 F G = some res) {b : Nat} {H : Heap} {locs : List Loc} (hw : cMW s A v a b K0 F G H locs) {ls : Array Slot} (hl : lv_has ls 2 [(0, .ref (a 208)), (1, .int x1)]) : W p l e R s m args below meth c H locs (xn F - xn K0) (2 * (xn F - xn K0)) Q (F0 m 4 ls []) := by
  have hx := C.1
  have hb := C.2.1
  unfold cb_X8_firstWord_4 at hm
  refine lv_iload_n hx hb dX8_firstWord_4 rfl (lv_at hl 1 rfl) ?_
  refine lv_sipush (v := 2000) hx hb dX8_firstWord_5 (by decide) ?_
  refine lv_icmp_lt (tgt := 15) hx hb dX8_firstWord_8 (by decide) (fun c_1 => ?_) (fun c_1 => ?_)
  · have hm := (if_pos c_1).symm.trans hm
    exact cw_X8_firstWord_15 fu C hret x1 F G hm hw (lv_sub hl [0, 1] rfl)
  · have hm := (if_neg c_1).symm.trans hm
    exact cw_X8_firstWord_11 fu C hret F G hm hw (lv_sub hl [] rfl)
theorem cn_X8_firstWord_0 (fu : Nat) {res : Int32 × PF × PG} (x1 : Int32) (F : PF) (G : PG) (hm : cb_X8_firstWord_0 fu x1 F G = some res) : xn F ≤ xn res.2.1 := by
  unfold cb_X8_firstWord_0 at hm
  by_cases c_1 : x1 < (0 : Int32)
  · have hm := (if_pos c_1).symm.trans hm
    exact (cn_X8_firstWord_11 fu F G hm)
  · have hm := (if_neg c_1).symm.trans hm
    exact (cn_X8_firstWord_4 fu x1 F G hm)
theorem cw_X8_firstWord_0 (fu : Nat) {res : Int32 × PF × PG} (C : cMC p R s m args c A v RX8 cX8_firstWord 2 0 0 (xn res.2.1 - xn K0)) (hret : ∀ (b1 : Nat) (H1 : Heap) (locs1 : List Loc) (ls1 : Array Slot) (pc : Nat), cMW s A v a b1 K0 res.2.1 res.2.2 H1 locs1 → narrow .int (.int res.1) = .int res.1 → decode cX8_firstWord pc = .ok (.ireturn, 1) → W p l e R s m args below meth c H1 locs1 (xn res.2.1 - xn K0) (2 * (xn res.2.1 - xn K0)) Q (F0 m pc ls1 [.int res.1])) (x1 : Int32) (F : PF) (G : PG) (hm : cb_X8_firstWord_0 fu x1 F G = some res) {b : Nat} {H : Heap} {locs : List Loc} (hw : cMW s A v a b K0 F G H locs) {ls : Array Slot} (hl : lv_has ls 2 [(0, .ref (a 208)), (1, .int x1)]) : W p l e R s m args below meth c H locs (xn F - xn K0) (2 * (xn F - xn K0)) Q (F0 m 0 ls []) := by
  have hx := C.1
  have hb := C.2.1
  unfold cb_X8_firstWord_0 at hm
  refine lv_iload_n hx hb dX8_firstWord_0 rfl (lv_at hl 1 rfl) ?_
  refine lv_if_lt (tgt := 11) hx hb dX8_firstWord_1 (by decide) (fun c_1 => ?_) (fun c_1 => ?_)
  · have hm := (if_pos c_1).symm.trans hm
    exact cw_X8_firstWord_11 fu C hret F G hm hw (lv_sub hl [] rfl)
  · have hm := (if_neg c_1).symm.trans hm
    exact cw_X8_firstWord_4 fu C hret x1 F G hm hw (lv_sub hl [0, 1] rfl)
theorem cn_X8_firstWord (fu : Nat) (x1 : Int32) (F : PF) (G : PG) (q : Int32 × PF × PG) (hm : cf_X8_firstWord fu x1 F G = some q) : xn F ≤ xn q.2.1 := cn_X8_firstWord_0 fu x1 F G hm
theorem ck_X8_firstWord (l : Launch) (v : EV) (a : Nat → Nat) (b sz : Nat) (fu : Nat) (x1 : Int32) (F : PF) (G : PG) (r : Int32) (F1 : PF) (G1 : PG) (hm : cf_X8_firstWord fu x1 F G = some (r, F1, G1)) : cMI l yX8_firstWord cX8_firstWord 2 (some .int) 0 0 v a b sz [.ref (a 208), .int x1] F G r F1 G1 := cMI.of (ty := .int) (by decide) rfl (Nat.le_of_ble_eq_true rfl) (fun p e R s m args below meth c Q A H locs ls C hw hl hret => cw_X8_firstWord_0 fu (res := (r, F1, G1)) C hret x1 F G hm hw hl)
def cb_X8_tellByte_45 (fu : Nat) (F : PF) (G : PG) : PR := some (0, F, G)
def cb_X8_tellByte_24 (fu : Nat) (x3 : Int32) (x5 : Int32) (z0 : Int32) (z1 : Int32) (F : PF) (G : PG) : PR := (cf_X8_tellInt fu z1 ((z0 &&& (((255 : Int32) <<< (x5 &&& 31)) ^^^ (-1 : Int32))) ||| ((x3 &&& (255 : Int32)) <<< (x5 &&& 31))) F G).bind (fun q => cb_X8_tellByte_45 fu q.2.1 q.2.2)
def cb_X8_tellByte_0 (fu : Nat) (x1 : Int32) (x2 : Int32) (x3 : Int32) (F : PF) (G : PG) : PR := (cf_X8_firstWord fu (x1 + (x2 >>> ((2 : Int32) &&& 31))) F G).bind (fun q => cb_X8_tellByte_24 fu x3 ((x2 &&& (3 : Int32)) * (8 : Int32)) q.1 (x1 + (x2 >>> ((2 : Int32) &&& 31))) q.2.1 q.2.2)
def cf_X8_tellByte (fu : Nat) (x1 : Int32) (x2 : Int32) (x3 : Int32) (F : PF) (G : PG) : PR := cb_X8_tellByte_0 fu x1 x2 x3 F G
theorem cn_X8_tellByte_45 (fu : Nat) {res : Int32 × PF × PG} (F : PF) (G : PG) (hm : cb_X8_tellByte_45 fu F G = some res) : xn F ≤ xn res.2.1 := by
  unfold cb_X8_tellByte_45 at hm
  obtain rfl := Option.some.inj hm
  exact Nat.le_refl _
theorem cw_X8_tellByte_45 (fu : Nat) {res : Int32 × PF × PG} (C : cMC p R s m args c A v RX8 cX8_tellByte 6 1 22 (xn res.2.1 - xn K0)) (hret : ∀ (b1 : Nat) (H1 : Heap) (locs1 : List Loc) (ls1 : Array Slot) (pc : Nat), cMW s A v a b1 K0 res.2.1 res.2.2 H1 locs1 → decode cX8_tellByte pc = .ok (.return_, 1) → W p l e R s m args below meth c H1 locs1 (xn res.2.1 - xn K0) (2 * (xn res.2.1 - xn K0)) Q (F0 m pc ls1 [])) (F : PF) (G : PG) (hm : cb_X8_tellByte_45 fu F G = some res) {b : Nat} {H : Heap} {locs : List Loc} (hw : cMW s A v a b K0 F G H locs) {ls : Array Slot} (hl : lv_has ls 6 []) : W p l e R s m args below meth c H locs (xn F - xn K0) (2 * (xn F - xn K0)) Q (F0 m 45 ls []) := by
  have hx := C.1
  have hb := C.2.1
  unfold cb_X8_tellByte_45 at hm
  obtain rfl := Option.some.inj hm
  exact hret _ _ _ _ _ hw dX8_tellByte_45
theorem cn_X8_tellByte_24 (fu : Nat) {res : Int32 × PF × PG} (x3 : Int32) (x5 : Int32) (z0 : Int32) (z1 : Int32) (F : PF) (G : PG) (hm : cb_X8_tellByte_24 fu x3 x5 z0 z1 F G = some res) : xn F ≤ xn res.2.1 := by
  unfold cb_X8_tellByte_24 at hm
  obtain ⟨⟨r1, F1, G1⟩, hc, hm⟩ := bind_elim hm
  exact Nat.le_trans (cn_X8_tellInt fu z1 ((z0 &&& (((255 : Int32) <<< (x5 &&& 31)) ^^^ (-1 : Int32))) ||| ((x3 &&& (255 : Int32)) <<< (x5 &&& 31))) F G _ hc) (cn_X8_tellByte_45 fu F1 G1 hm)
theorem cw_X8_tellByte_24 (fu : Nat) {res : Int32 × PF × PG} (C : cMC p R s m args c A v RX8 cX8_tellByte 6 1 22 (xn res.2.1 - xn K0)) (hret : ∀ (b1 : Nat) (H1 : Heap) (locs1 : List Loc) (ls1 : Array Slot) (pc : Nat), cMW s A v a b1 K0 res.2.1 res.2.2 H1 locs1 → decode cX8_tellByte pc = .ok (.return_, 1) → W p l e R s m args below meth c H1 locs1 (xn res.2.1 - xn K0) (2 * (xn res.2.1 - xn K0)) Q (F0 m pc ls1 [])) (x3 : Int32) (x5 : Int32) (z0 : Int32) (z1 : Int32) (F : PF) (G : PG) (hm : cb_X8_tellByte_24 fu x3 x5 z0 z1 F G = some res) {b : Nat} {H : Heap} {locs : List Loc} (hw : cMW s A v a b K0 F G H locs) {ls : Array Slot} (hl : lv_has ls 6 [(3, .int x3), (5, .int x5)]) : W p l e R s m args below meth c H locs (xn F - xn K0) (2 * (xn F - xn K0)) Q (F0 m 24 ls [.int z0, .int z1, .ref (a 208)]) := by
  have hx := C.1
  have hb := C.2.1
  unfold cb_X8_tellByte_24 at hm
  refine lv_sipush (v := 255) hx hb dX8_tellByte_24 (by decide) ?_
  refine lv_iload hx hb dX8_tellByte_27 (lv_at hl 1 rfl) ?_
  refine lv_ishl hx hb dX8_tellByte_29 ?_
  refine lv_iconst (v := (-1)) hx hb dX8_tellByte_30 (by decide) ?_
  refine lv_ixor hx hb dX8_tellByte_31 ?_
  refine lv_iand hx hb dX8_tellByte_32 ?_
  refine lv_iload_n hx hb dX8_tellByte_33 rfl (lv_at hl 0 rfl) ?_
  refine lv_sipush (v := 255) hx hb dX8_tellByte_34 (by decide) ?_
  refine lv_iand hx hb dX8_tellByte_37 ?_
  refine lv_iload hx hb dX8_tellByte_38 (lv_at hl 1 rfl) ?_
  refine lv_ishl hx hb dX8_tellByte_40 ?_
  refine lv_ior hx hb dX8_tellByte_41 ?_
  obtain ⟨⟨r1, F1, G1⟩, hc, hm⟩ := bind_elim hm
  refine ccallV (n := 2) (As := [.int z1, .int ((z0 &&& (((255 : Int32) <<< (x5 &&& 31)) ^^^ (-1 : Int32))) ||| ((x3 &&& (255 : Int32)) <<< (x5 &&& 31)))]) (rest := []) C hw (ck_X8_tellInt l v a _ _ fu z1 ((z0 &&& (((255 : Int32) <<< (x5 &&& 31)) ^^^ (-1 : Int32))) ||| ((x3 &&& (255 : Int32)) <<< (x5 &&& 31))) F G r1 F1 G1 hc) (cn_X8_tellInt fu z1 ((z0 &&& (((255 : Int32) <<< (x5 &&& 31)) ^^^ (-1 : Int32))) ||| ((x3 &&& (255 : Int32)) <<< (x5 &&& 31))) F G _ hc) (Nat.sub_le_sub_right (cn_X8_tellByte_45 fu F1 G1 hm) _) (crecv_X8 C hw) cm_787 cm_776 cm_777 cm_254 cm_778 (by decide +kernel) rfl (by omega) (by omega) hl.1 rfl (Nat.le_of_ble_eq_true rfl) dX8_tellByte_42 (fun b H locs hw => ?_)
  exact cw_X8_tellByte_45 fu C hret F1 G1 hm hw (lv_sub hl [] rfl)
theorem cn_X8_tellByte_0 (fu : Nat) {res : Int32 × PF × PG} (x1 : Int32) (x2 : Int32) (x3 : Int32) (F : PF) (G : PG) (hm : cb_X8_tellByte_0 fu x1 x2 x3 F G = some res) : xn F ≤ xn res.2.1 := by
  unfold cb_X8_tellByte_0 at hm
  obtain ⟨⟨r1, F1, G1⟩, hc, hm⟩ := bind_elim hm
  exact Nat.le_trans (cn_X8_firstWord fu (x1 + (x2 >>> ((2 : Int32) &&& 31))) F G _ hc) (cn_X8_tellByte_24 fu x3 ((x2 &&& (3 : Int32)) * (8 : Int32)) r1 (x1 + (x2 >>> ((2 : Int32) &&& 31))) F1 G1 hm)
theorem cw_X8_tellByte_0 (fu : Nat) {res : Int32 × PF × PG} (C : cMC p R s m args c A v RX8 cX8_tellByte 6 1 22 (xn res.2.1 - xn K0)) (hret : ∀ (b1 : Nat) (H1 : Heap) (locs1 : List Loc) (ls1 : Array Slot) (pc : Nat), cMW s A v a b1 K0 res.2.1 res.2.2 H1 locs1 → decode cX8_tellByte pc = .ok (.return_, 1) → W p l e R s m args below meth c H1 locs1 (xn res.2.1 - xn K0) (2 * (xn res.2.1 - xn K0)) Q (F0 m pc ls1 [])) (x1 : Int32) (x2 : Int32) (x3 : Int32) (F : PF) (G : PG) (hm : cb_X8_tellByte_0 fu x1 x2 x3 F G = some res) {b : Nat} {H : Heap} {locs : List Loc} (hw : cMW s A v a b K0 F G H locs) {ls : Array Slot} (hl : lv_has ls 6 [(0, .ref (a 208)), (1, .int x1), (2, .int x2), (3, .int x3)]) : W p l e R s m args below meth c H locs (xn F - xn K0) (2 * (xn F - xn K0)) Q (F0 m 0 ls []) := by
  have hx := C.1
  have hb := C.2.1
  unfold cb_X8_tellByte_0 at hm
  refine lv_iload_n hx hb dX8_tellByte_0 rfl (lv_at hl 1 rfl) ?_
  refine lv_iload_n hx hb dX8_tellByte_1 rfl (lv_at hl 2 rfl) ?_
  refine lv_iconst (v := 2) hx hb dX8_tellByte_2 (by decide) ?_
  refine lv_ishr hx hb dX8_tellByte_3 ?_
  refine lv_iadd hx hb dX8_tellByte_4 ?_
  refine lv_istore (lv' := [(4, .int (x1 + (x2 >>> ((2 : Int32) &&& 31)))), (0, .ref (a 208)), (1, .int x1), (2, .int x2), (3, .int x3)]) hx hb dX8_tellByte_5 hl (by decide) rfl (fun ls hl => ?_)
  refine lv_iload_n hx hb dX8_tellByte_7 rfl (lv_at hl 3 rfl) ?_
  refine lv_iconst (v := 3) hx hb dX8_tellByte_8 (by decide) ?_
  refine lv_iand hx hb dX8_tellByte_9 ?_
  refine lv_bipush (v := 8) hx hb dX8_tellByte_10 (by decide) ?_
  refine lv_imul hx hb dX8_tellByte_12 ?_
  refine lv_istore (lv' := [(5, .int ((x2 &&& (3 : Int32)) * (8 : Int32))), (4, .int (x1 + (x2 >>> ((2 : Int32) &&& 31)))), (0, .ref (a 208)), (1, .int x1), (2, .int x2), (3, .int x3)]) hx hb dX8_tellByte_13 hl (by decide) rfl (fun ls hl => ?_)
  refine lv_aload_n hx hb dX8_tellByte_15 rfl (lv_at hl 2 rfl) ?_
  refine lv_iload hx hb dX8_tellByte_16 (lv_at hl 1 rfl) ?_
  refine lv_aload_n hx hb dX8_tellByte_18 rfl (lv_at hl 2 rfl) ?_
  refine lv_iload hx hb dX8_tellByte_19 (lv_at hl 1 rfl) ?_
  obtain ⟨⟨r1, F1, G1⟩, hc, hm⟩ := bind_elim hm
  refine ccallI (n := 1) (As := [.int (x1 + (x2 >>> ((2 : Int32) &&& 31)))]) (rest := [.int (x1 + (x2 >>> ((2 : Int32) &&& 31))), .ref (a 208)]) C hw (ck_X8_firstWord l v a _ _ fu (x1 + (x2 >>> ((2 : Int32) &&& 31))) F G r1 F1 G1 hc) (cn_X8_firstWord fu (x1 + (x2 >>> ((2 : Int32) &&& 31))) F G _ hc) (Nat.sub_le_sub_right (cn_X8_tellByte_24 fu x3 ((x2 &&& (3 : Int32)) * (8 : Int32)) r1 (x1 + (x2 >>> ((2 : Int32) &&& 31))) F1 G1 hm) _) (crecv_X8 C hw) cm_783 cm_784 cm_785 cm_254 cm_786 (by decide +kernel) rfl (by omega) (by omega) hl.1 rfl (Nat.le_of_ble_eq_true rfl) dX8_tellByte_21 (fun b H locs hw => ?_)
  exact cw_X8_tellByte_24 fu C hret x3 ((x2 &&& (3 : Int32)) * (8 : Int32)) r1 (x1 + (x2 >>> ((2 : Int32) &&& 31))) F1 G1 hm hw (lv_sub hl [5, 0] rfl)
theorem cn_X8_tellByte (fu : Nat) (x1 : Int32) (x2 : Int32) (x3 : Int32) (F : PF) (G : PG) (q : Int32 × PF × PG) (hm : cf_X8_tellByte fu x1 x2 x3 F G = some q) : xn F ≤ xn q.2.1 := cn_X8_tellByte_0 fu x1 x2 x3 F G hm
theorem ck_X8_tellByte (l : Launch) (v : EV) (a : Nat → Nat) (b sz : Nat) (fu : Nat) (x1 : Int32) (x2 : Int32) (x3 : Int32) (F : PF) (G : PG) (r : Int32) (F1 : PF) (G1 : PG) (hm : cf_X8_tellByte fu x1 x2 x3 F G = some (r, F1, G1)) : cMV l yX8_tellByte cX8_tellByte 6 1 22 v a b sz [.ref (a 208), .int x1, .int x2, .int x3] F G F1 G1 := cMV.of (by decide) (Nat.le_of_ble_eq_true rfl) (fun p e R s m args below meth c Q A H locs ls C hw hl hret => cw_X8_tellByte_0 fu (res := (r, F1, G1)) C hret x1 x2 x3 F G hm hw hl)
def cb_X4_elements_149 (fu : Nat) (F : PF) (G : PG) : PR := some (0, F, G)
def cb_X4_elements_140 (fu : Nat) (F : PF) (G : PG) : PR := (cf_X2_closesWith fu 24 F G).bind (fun q => cb_X4_elements_149 fu q.2.1 q.2.2)
def cb_X4_elements_134 (fu : Nat) (ag_19 : Int32 → Int32 → Int32 → Int32 → Int32 → PF → PG → PR) (x1 : Int32) (x2 : Int32) (x3 : Int32) (x4 : Int32) (x5 : Int32) (F : PF) (G : PG) : PR := ag_19 x1 x2 x3 x4 (x5 + 1) F G
def cb_X4_elements_127 (fu : Nat) (ag_19 : Int32 → Int32 → Int32 → Int32 → Int32 → PF → PG → PR) (x1 : Int32) (x2 : Int32) (x3 : Int32) (x4 : Int32) (x5 : Int32) (F : PF) (G : PG) : PR := (cf_X2_next fu F G).bind (fun q => cb_X4_elements_134 fu ag_19 x1 x2 x3 x4 x5 q.2.1 q.2.2)
def cb_X4_elements_120 (fu : Nat) (ag_19 : Int32 → Int32 → Int32 → Int32 → Int32 → PF → PG → PR) (x1 : Int32) (x2 : Int32) (x3 : Int32) (x5 : Int32) (z0 : Int32) (F : PF) (G : PG) : PR := if z0 = (0 : Int32) then cb_X4_elements_134 fu ag_19 x1 x2 x3 z0 x5 F G else cb_X4_elements_127 fu ag_19 x1 x2 x3 z0 x5 F G
def cb_X4_elements_119 (fu : Nat) (ag_19 : Int32 → Int32 → Int32 → Int32 → Int32 → PF → PG → PR) (x1 : Int32) (x2 : Int32) (x3 : Int32) (x5 : Int32) (F : PF) (G : PG) : PR := cb_X4_elements_120 fu ag_19 x1 x2 x3 x5 0 F G
def cb_X4_elements_115 (fu : Nat) (ag_19 : Int32 → Int32 → Int32 → Int32 → Int32 → PF → PG → PR) (x1 : Int32) (x2 : Int32) (x3 : Int32) (x5 : Int32) (F : PF) (G : PG) : PR := cb_X4_elements_120 fu ag_19 x1 x2 x3 x5 1 F G
def cb_X4_elements_103 (fu : Nat) (ag_19 : Int32 → Int32 → Int32 → Int32 → Int32 → PF → PG → PR) (x1 : Int32) (x2 : Int32) (x3 : Int32) (x5 : Int32) (F : PF) (G : PG) : PR := if (F 11) = (25 : Int32) then cb_X4_elements_115 fu ag_19 x1 x2 x3 x5 F G else cb_X4_elements_119 fu ag_19 x1 x2 x3 x5 F G
def cb_X4_elements_91 (fu : Nat) (ag_19 : Int32 → Int32 → Int32 → Int32 → Int32 → PF → PG → PR) (x1 : Int32) (x2 : Int32) (x3 : Int32) (x5 : Int32) (x7 : Int32) (F : PF) (G : PG) : PR := (cf_X8_tellByte fu x2 x5 x7 F G).bind (fun q => cb_X4_elements_103 fu ag_19 x1 x2 x3 x5 q.2.1 q.2.2)
def cb_X4_elements_88 (fu : Nat) (ag_19 : Int32 → Int32 → Int32 → Int32 → Int32 → PF → PG → PR) (x1 : Int32) (x2 : Int32) (x3 : Int32) (x5 : Int32) (F : PF) (G : PG) : PR := cb_X4_elements_103 fu ag_19 x1 x2 x3 x5 F G
def cb_X4_elements_75 (fu : Nat) (ag_19 : Int32 → Int32 → Int32 → Int32 → Int32 → PF → PG → PR) (x1 : Int32) (x2 : Int32) (x3 : Int32) (x5 : Int32) (x7 : Int32) (F : PF) (G : PG) : PR := (cf_X8_tellInt fu (x2 + x5) x7 F G).bind (fun q => cb_X4_elements_88 fu ag_19 x1 x2 x3 x5 q.2.1 q.2.2)
def cb_X4_elements_70 (fu : Nat) (ag_19 : Int32 → Int32 → Int32 → Int32 → Int32 → PF → PG → PR) (x1 : Int32) (x2 : Int32) (x3 : Int32) (x5 : Int32) (x7 : Int32) (F : PF) (G : PG) : PR := if x1 = (2 : Int32) then cb_X4_elements_75 fu ag_19 x1 x2 x3 x5 x7 F G else cb_X4_elements_91 fu ag_19 x1 x2 x3 x5 x7 F G
def cb_X4_elements_67 (fu : Nat) (ag_19 : Int32 → Int32 → Int32 → Int32 → Int32 → PF → PG → PR) (x1 : Int32) (x2 : Int32) (x3 : Int32) (x5 : Int32) (F : PF) (G : PG) : PR := cb_X4_elements_103 fu ag_19 x1 x2 x3 x5 F G
def cb_X4_elements_56 (fu : Nat) (ag_19 : Int32 → Int32 → Int32 → Int32 → Int32 → PF → PG → PR) (x1 : Int32) (x2 : Int32) (x3 : Int32) (x5 : Int32) (x6 : Int32) (F : PF) (G : PG) : PR := (cf_X5_note fu 7 x6 F G).bind (fun q => cb_X4_elements_67 fu ag_19 x1 x2 x3 x5 q.2.1 q.2.2)
def cb_X4_elements_48 (fu : Nat) (ag_19 : Int32 → Int32 → Int32 → Int32 → Int32 → PF → PG → PR) (x1 : Int32) (x2 : Int32) (x3 : Int32) (x5 : Int32) (x6 : Int32) (z0 : Int32) (F : PF) (G : PG) : PR := if x5 < x3 then cb_X4_elements_70 fu ag_19 x1 x2 x3 x5 z0 F G else cb_X4_elements_56 fu ag_19 x1 x2 x3 x5 x6 F G
def cb_X4_elements_32 (fu : Nat) (ag_19 : Int32 → Int32 → Int32 → Int32 → Int32 → PF → PG → PR) (x1 : Int32) (x2 : Int32) (x3 : Int32) (x5 : Int32) (F : PF) (G : PG) : PR := (cf_X3_constant fu F G).bind (fun q => cb_X4_elements_48 fu ag_19 x1 x2 x3 x5 (F 13) q.1 q.2.1 q.2.2)
def cb_X4_elements_27 (fu : Nat) (ag_19 : Int32 → Int32 → Int32 → Int32 → Int32 → PF → PG → PR) (x1 : Int32) (x2 : Int32) (x3 : Int32) (x4 : Int32) (x5 : Int32) (F : PF) (G : PG) : PR := if x4 = (0 : Int32) then cb_X4_elements_140 fu F G else cb_X4_elements_32 fu ag_19 x1 x2 x3 x5 F G
def cb_X4_elements_19 (fu : Nat) (ag_19 : Int32 → Int32 → Int32 → Int32 → Int32 → PF → PG → PR) (x1 : Int32) (x2 : Int32) (x3 : Int32) (x4 : Int32) (x5 : Int32) (F : PF) (G : PG) : PR := if (4001 : Int32) ≤ x5 then cb_X4_elements_140 fu F G else cb_X4_elements_27 fu ag_19 x1 x2 x3 x4 x5 F G
def cl_X4_elements_19 (fu : Nat) : Nat → Int32 → Int32 → Int32 → Int32 → Int32 → PF → PG → PR
  | 0 => fun _ _ _ _ _ _ _ => none
  | n + 1 => fun x1 x2 x3 x4 x5 F G => cb_X4_elements_19 fu (cl_X4_elements_19 fu n) x1 x2 x3 x4 x5 F G
def cb_X4_elements_13 (fu : Nat) (x1 : Int32) (x2 : Int32) (x3 : Int32) (F : PF) (G : PG) : PR := cl_X4_elements_19 fu fu x1 x2 x3 1 0 F G
def cb_X4_elements_12 (fu : Nat) (F : PF) (G : PG) : PR := some (0, F, G)
def cb_X4_elements_9 (fu : Nat) (x1 : Int32) (x2 : Int32) (x3 : Int32) (z0 : Int32) (F : PF) (G : PG) : PR := if z0 = (0 : Int32) then cb_X4_elements_12 fu F G else cb_X4_elements_13 fu x1 x2 x3 F G
def cb_X4_elements_0 (fu : Nat) (x1 : Int32) (x2 : Int32) (x3 : Int32) (F : PF) (G : PG) : PR := (cf_X2_opens fu 23 F G).bind (fun q => cb_X4_elements_9 fu x1 x2 x3 q.1 q.2.1 q.2.2)
def cf_X4_elements (fu : Nat) (x1 : Int32) (x2 : Int32) (x3 : Int32) (F : PF) (G : PG) : PR := cb_X4_elements_0 fu x1 x2 x3 F G
theorem cn_X4_elements_149 (fu : Nat) {res : Int32 × PF × PG} (F : PF) (G : PG) (hm : cb_X4_elements_149 fu F G = some res) : xn F ≤ xn res.2.1 := by
  unfold cb_X4_elements_149 at hm
  obtain rfl := Option.some.inj hm
  exact Nat.le_refl _
theorem cw_X4_elements_149 (fu : Nat) {res : Int32 × PF × PG} (C : cMC p R s m args c A v RX4 cX4_elements 8 304 18093 (xn res.2.1 - xn K0)) (hret : ∀ (b1 : Nat) (H1 : Heap) (locs1 : List Loc) (ls1 : Array Slot) (pc : Nat), cMW s A v a b1 K0 res.2.1 res.2.2 H1 locs1 → decode cX4_elements pc = .ok (.return_, 1) → W p l e R s m args below meth c H1 locs1 (xn res.2.1 - xn K0) (2 * (xn res.2.1 - xn K0)) Q (F0 m pc ls1 [])) (F : PF) (G : PG) (hm : cb_X4_elements_149 fu F G = some res) {b : Nat} {H : Heap} {locs : List Loc} (hw : cMW s A v a b K0 F G H locs) {ls : Array Slot} (hl : lv_has ls 8 []) : W p l e R s m args below meth c H locs (xn F - xn K0) (2 * (xn F - xn K0)) Q (F0 m 149 ls []) := by
  have hx := C.1
  have hb := C.2.1
  unfold cb_X4_elements_149 at hm
  obtain rfl := Option.some.inj hm
  exact hret _ _ _ _ _ hw dX4_elements_149
theorem cn_X4_elements_140 (fu : Nat) {res : Int32 × PF × PG} (F : PF) (G : PG) (hm : cb_X4_elements_140 fu F G = some res) : xn F ≤ xn res.2.1 := by
  unfold cb_X4_elements_140 at hm
  obtain ⟨⟨r1, F1, G1⟩, hc, hm⟩ := bind_elim hm
  exact Nat.le_trans (cn_X2_closesWith fu 24 F G _ hc) (cn_X4_elements_149 fu F1 G1 hm)
theorem cw_X4_elements_140 (fu : Nat) {res : Int32 × PF × PG} (C : cMC p R s m args c A v RX4 cX4_elements 8 304 18093 (xn res.2.1 - xn K0)) (hret : ∀ (b1 : Nat) (H1 : Heap) (locs1 : List Loc) (ls1 : Array Slot) (pc : Nat), cMW s A v a b1 K0 res.2.1 res.2.2 H1 locs1 → decode cX4_elements pc = .ok (.return_, 1) → W p l e R s m args below meth c H1 locs1 (xn res.2.1 - xn K0) (2 * (xn res.2.1 - xn K0)) Q (F0 m pc ls1 [])) (F : PF) (G : PG) (hm : cb_X4_elements_140 fu F G = some res) {b : Nat} {H : Heap} {locs : List Loc} (hw : cMW s A v a b K0 F G H locs) {ls : Array Slot} (hl : lv_has ls 8 [(0, .ref (a 204))]) : W p l e R s m args below meth c H locs (xn F - xn K0) (2 * (xn F - xn K0)) Q (F0 m 140 ls []) := by
  have hx := C.1
  have hb := C.2.1
  unfold cb_X4_elements_140 at hm
  refine lv_aload_n hx hb dX4_elements_140 rfl (lv_at hl 0 rfl) ?_
  refine cg_X4_9 C hw dX4_elements_141 ?_
  refine lv_bipush (v := 24) hx hb dX4_elements_144 (by decide) ?_
  obtain ⟨⟨r1, F1, G1⟩, hc, hm⟩ := bind_elim hm
  refine ccallV (n := 1) (As := [.int 24]) (rest := []) C hw (ck_X2_closesWith l v a _ _ fu 24 F G r1 F1 G1 hc) (cn_X2_closesWith fu 24 F G _ hc) (Nat.sub_le_sub_right (cn_X4_elements_149 fu F1 G1 hm) _) (crecv_X2 C hw) cm_629 cm_459 cm_460 cm_307 cm_461 (by decide +kernel) rfl (by omega) (by omega) hl.1 rfl (Nat.le_of_ble_eq_true rfl) dX4_elements_146 (fun b H locs hw => ?_)
  exact cw_X4_elements_149 fu C hret F1 G1 hm hw (lv_sub hl [] rfl)
theorem cn_X4_elements_134 (fu : Nat) {res : Int32 × PF × PG} (ag_19 : Int32 → Int32 → Int32 → Int32 → Int32 → PF → PG → PR) (hagn_19 : ∀ (x1 : Int32) (x2 : Int32) (x3 : Int32) (x4 : Int32) (x5 : Int32) (F : PF) (G : PG), ag_19 x1 x2 x3 x4 x5 F G = some res → xn F ≤ xn res.2.1) (x1 : Int32) (x2 : Int32) (x3 : Int32) (x4 : Int32) (x5 : Int32) (F : PF) (G : PG) (hm : cb_X4_elements_134 fu ag_19 x1 x2 x3 x4 x5 F G = some res) : xn F ≤ xn res.2.1 := by
  unfold cb_X4_elements_134 at hm
  exact (hagn_19 x1 x2 x3 x4 (x5 + 1) F G hm)
theorem cw_X4_elements_134 (fu : Nat) {res : Int32 × PF × PG} (C : cMC p R s m args c A v RX4 cX4_elements 8 304 18093 (xn res.2.1 - xn K0)) (hret : ∀ (b1 : Nat) (H1 : Heap) (locs1 : List Loc) (ls1 : Array Slot) (pc : Nat), cMW s A v a b1 K0 res.2.1 res.2.2 H1 locs1 → decode cX4_elements pc = .ok (.return_, 1) → W p l e R s m args below meth c H1 locs1 (xn res.2.1 - xn K0) (2 * (xn res.2.1 - xn K0)) Q (F0 m pc ls1 [])) (ag_19 : Int32 → Int32 → Int32 → Int32 → Int32 → PF → PG → PR) (hag_19 : ∀ (x1 : Int32) (x2 : Int32) (x3 : Int32) (x4 : Int32) (x5 : Int32) (F : PF) (G : PG), ag_19 x1 x2 x3 x4 x5 F G = some res → ∀ (b : Nat) (H : Heap) (locs : List Loc) (ls : Array Slot), cMW s A v a b K0 F G H locs → lv_has ls 8 [(0, .ref (a 204)), (1, .int x1), (2, .int x2), (3, .int x3), (4, .int x4), (5, .int x5)] → W p l e R s m args below meth c H locs (xn F - xn K0) (2 * (xn F - xn K0)) Q (F0 m 19 ls [])) (hagn_19 : ∀ (x1 : Int32) (x2 : Int32) (x3 : Int32) (x4 : Int32) (x5 : Int32) (F : PF) (G : PG), ag_19 x1 x2 x3 x4 x5 F G = some res → xn F ≤ xn res.2.1) (x1 : Int32) (x2 : Int32) (x3 : Int32) (x4 : Int32) (x5 : Int32) (F : PF) (G : PG) (hm : cb_X4_elements_134 fu ag_19 x1 x2 x3 x4 x5 F G = some res) {b : Nat} {H : Heap} {locs : List Loc} (hw : cMW s A v a b K0 F G H locs) {ls : Array Slot} (hl : lv_has ls 8 [(0, .ref (a 204)), (1, .int x1), (2, .int x2), (3, .int x3), (4, .int x4), (5, .int x5)]) : W p l e R s m args below meth c H locs (xn F - xn K0) (2 * (xn F - xn K0)) Q (F0 m 134 ls []) := by
  have hx := C.1
  have hb := C.2.1
  unfold cb_X4_elements_134 at hm
  refine lv_iinc (v := (x5 + 1)) (lv' := [(5, .int (x5 + 1)), (0, .ref (a 204)), (1, .int x1), (2, .int x2), (3, .int x3), (4, .int x4)]) hx hb dX4_elements_134 hl (k := 5) rfl (by rfl) (by decide) rfl (fun ls hl => ?_)
  refine lv_goto (tgt := 19) hx hb dX4_elements_137 (by decide) ?_
  exact hag_19 x1 x2 x3 x4 (x5 + 1) F G hm _ _ _ _ hw (lv_sub hl [1, 2, 3, 4, 5, 0] rfl)
theorem cn_X4_elements_127 (fu : Nat) {res : Int32 × PF × PG} (ag_19 : Int32 → Int32 → Int32 → Int32 → Int32 → PF → PG → PR) (hagn_19 : ∀ (x1 : Int32) (x2 : Int32) (x3 : Int32) (x4 : Int32) (x5 : Int32) (F : PF) (G : PG), ag_19 x1 x2 x3 x4 x5 F G = some res → xn F ≤ xn res.2.1) (x1 : Int32) (x2 : Int32) (x3 : Int32) (x4 : Int32) (x5 : Int32) (F : PF) (G : PG) (hm : cb_X4_elements_127 fu ag_19 x1 x2 x3 x4 x5 F G = some res) : xn F ≤ xn res.2.1 := by
  unfold cb_X4_elements_127 at hm
  obtain ⟨⟨r1, F1, G1⟩, hc, hm⟩ := bind_elim hm
  exact Nat.le_trans (cn_X2_next fu F G _ hc) (cn_X4_elements_134 fu ag_19 hagn_19 x1 x2 x3 x4 x5 F1 G1 hm)
theorem cw_X4_elements_127 (fu : Nat) {res : Int32 × PF × PG} (C : cMC p R s m args c A v RX4 cX4_elements 8 304 18093 (xn res.2.1 - xn K0)) (hret : ∀ (b1 : Nat) (H1 : Heap) (locs1 : List Loc) (ls1 : Array Slot) (pc : Nat), cMW s A v a b1 K0 res.2.1 res.2.2 H1 locs1 → decode cX4_elements pc = .ok (.return_, 1) → W p l e R s m args below meth c H1 locs1 (xn res.2.1 - xn K0) (2 * (xn res.2.1 - xn K0)) Q (F0 m pc ls1 [])) (ag_19 : Int32 → Int32 → Int32 → Int32 → Int32 → PF → PG → PR) (hag_19 : ∀ (x1 : Int32) (x2 : Int32) (x3 : Int32) (x4 : Int32) (x5 : Int32) (F : PF) (G : PG), ag_19 x1 x2 x3 x4 x5 F G = some res → ∀ (b : Nat) (H : Heap) (locs : List Loc) (ls : Array Slot), cMW s A v a b K0 F G H locs → lv_has ls 8 [(0, .ref (a 204)), (1, .int x1), (2, .int x2), (3, .int x3), (4, .int x4), (5, .int x5)] → W p l e R s m args below meth c H locs (xn F - xn K0) (2 * (xn F - xn K0)) Q (F0 m 19 ls [])) (hagn_19 : ∀ (x1 : Int32) (x2 : Int32) (x3 : Int32) (x4 : Int32) (x5 : Int32) (F : PF) (G : PG), ag_19 x1 x2 x3 x4 x5 F G = some res → xn F ≤ xn res.2.1) (x1 : Int32) (x2 : Int32) (x3 : Int32) (x4 : Int32) (x5 : Int32) (F : PF) (G : PG) (hm : cb_X4_elements_127 fu ag_19 x1 x2 x3 x4 x5 F G = some res) {b : Nat} {H : Heap} {locs : List Loc} (hw : cMW s A v a b K0 F G H locs) {ls : Array Slot} (hl : lv_has ls 8 [(0, .ref (a 204)), (1, .int x1), (2, .int x2), (3, .int x3), (4, .int x4), (5, .int x5)]) : W p l e R s m args below meth c H locs (xn F - xn K0) (2 * (xn F - xn K0)) Q (F0 m 127 ls []) := by
  have hx := C.1
  have hb := C.2.1
  unfold cb_X4_elements_127 at hm
  refine lv_aload_n hx hb dX4_elements_127 rfl (lv_at hl 0 rfl) ?_
  refine cg_X4_9 C hw dX4_elements_128 ?_
  obtain ⟨⟨r1, F1, G1⟩, hc, hm⟩ := bind_elim hm
  refine ccallV (n := 0) (As := []) (rest := []) C hw (ck_X2_next l v a _ _ fu F G r1 F1 G1 hc) (cn_X2_next fu F G _ hc) (Nat.sub_le_sub_right (cn_X4_elements_134 fu ag_19 hagn_19 x1 x2 x3 x4 x5 F1 G1 hm) _) (crecv_X2 C hw) cm_320 cm_321 cm_322 cm_307 cm_323 (by decide +kernel) rfl (by omega) (by omega) hl.1 rfl (Nat.le_of_ble_eq_true rfl) dX4_elements_131 (fun b H locs hw => ?_)
  exact cw_X4_elements_134 fu C hret ag_19 hag_19 hagn_19 x1 x2 x3 x4 x5 F1 G1 hm hw (lv_sub hl [0, 1, 2, 3, 4, 5] rfl)
theorem cn_X4_elements_120 (fu : Nat) {res : Int32 × PF × PG} (ag_19 : Int32 → Int32 → Int32 → Int32 → Int32 → PF → PG → PR) (hagn_19 : ∀ (x1 : Int32) (x2 : Int32) (x3 : Int32) (x4 : Int32) (x5 : Int32) (F : PF) (G : PG), ag_19 x1 x2 x3 x4 x5 F G = some res → xn F ≤ xn res.2.1) (x1 : Int32) (x2 : Int32) (x3 : Int32) (x5 : Int32) (z0 : Int32) (F : PF) (G : PG) (hm : cb_X4_elements_120 fu ag_19 x1 x2 x3 x5 z0 F G = some res) : xn F ≤ xn res.2.1 := by
  unfold cb_X4_elements_120 at hm
  by_cases c_1 : z0 = (0 : Int32)
  · have hm := (if_pos c_1).symm.trans hm
    exact (cn_X4_elements_134 fu ag_19 hagn_19 x1 x2 x3 z0 x5 F G hm)
  · have hm := (if_neg c_1).symm.trans hm
    exact (cn_X4_elements_127 fu ag_19 hagn_19 x1 x2 x3 z0 x5 F G hm)
theorem cw_X4_elements_120 (fu : Nat) {res : Int32 × PF × PG} (C : cMC p R s m args c A v RX4 cX4_elements 8 304 18093 (xn res.2.1 - xn K0)) (hret : ∀ (b1 : Nat) (H1 : Heap) (locs1 : List Loc) (ls1 : Array Slot) (pc : Nat), cMW s A v a b1 K0 res.2.1 res.2.2 H1 locs1 → decode cX4_elements pc = .ok (.return_, 1) → W p l e R s m args below meth c H1 locs1 (xn res.2.1 - xn K0) (2 * (xn res.2.1 - xn K0)) Q (F0 m pc ls1 [])) (ag_19 : Int32 → Int32 → Int32 → Int32 → Int32 → PF → PG → PR) (hag_19 : ∀ (x1 : Int32) (x2 : Int32) (x3 : Int32) (x4 : Int32) (x5 : Int32) (F : PF) (G : PG), ag_19 x1 x2 x3 x4 x5 F G = some res → ∀ (b : Nat) (H : Heap) (locs : List Loc) (ls : Array Slot), cMW s A v a b K0 F G H locs → lv_has ls 8 [(0, .ref (a 204)), (1, .int x1), (2, .int x2), (3, .int x3), (4, .int x4), (5, .int x5)] → W p l e R s m args below meth c H locs (xn F - xn K0) (2 * (xn F - xn K0)) Q (F0 m 19 ls [])) (hagn_19 : ∀ (x1 : Int32) (x2 : Int32) (x3 : Int32) (x4 : Int32) (x5 : Int32) (F : PF) (G : PG), ag_19 x1 x2 x3 x4 x5 F G = some res → xn F ≤ xn res.2.1) (x1 : Int32) (x2 : Int32) (x3 : Int32) (x5 : Int32) (z0 : Int32) (F : PF) (G : PG) (hm : cb_X4_elements_120 fu ag_19 x1 x2 x3 x5 z0 F G = some res) {b : Nat} {H : Heap} {locs : List Loc} (hw : cMW s A v a b K0 F G H locs) {ls : Array Slot} (hl : lv_has ls 8 [(0, .ref (a 204)), (1, .int x1), (2, .int x2), (3, .int x3), (5, .int x5)]) : W p l e R s m args below meth c H locs (xn F - xn K0) (2 * (xn F - xn K0)) Q (F0 m 120 ls [.int z0]) := by
  have hx := C.1
  have hb := C.2.1
  unfold cb_X4_elements_120 at hm
  refine lv_istore (lv' := [(4, .int z0), (0, .ref (a 204)), (1, .int x1), (2, .int x2), (3, .int x3), (5, .int x5)]) hx hb dX4_elements_120 hl (by decide) rfl (fun ls hl => ?_)
  refine lv_iload hx hb dX4_elements_122 (lv_at hl 0 rfl) ?_
  refine lv_if_eq (tgt := 134) hx hb dX4_elements_124 (by decide) (fun c_1 => ?_) (fun c_1 => ?_)
  · have hm := (if_pos c_1).symm.trans hm
    exact cw_X4_elements_134 fu C hret ag_19 hag_19 hagn_19 x1 x2 x3 z0 x5 F G hm hw (lv_sub hl [1, 2, 3, 4, 0, 5] rfl)
  · have hm := (if_neg c_1).symm.trans hm
    exact cw_X4_elements_127 fu C hret ag_19 hag_19 hagn_19 x1 x2 x3 z0 x5 F G hm hw (lv_sub hl [1, 2, 3, 4, 0, 5] rfl)
theorem cn_X4_elements_119 (fu : Nat) {res : Int32 × PF × PG} (ag_19 : Int32 → Int32 → Int32 → Int32 → Int32 → PF → PG → PR) (hagn_19 : ∀ (x1 : Int32) (x2 : Int32) (x3 : Int32) (x4 : Int32) (x5 : Int32) (F : PF) (G : PG), ag_19 x1 x2 x3 x4 x5 F G = some res → xn F ≤ xn res.2.1) (x1 : Int32) (x2 : Int32) (x3 : Int32) (x5 : Int32) (F : PF) (G : PG) (hm : cb_X4_elements_119 fu ag_19 x1 x2 x3 x5 F G = some res) : xn F ≤ xn res.2.1 := by
  unfold cb_X4_elements_119 at hm
  exact (cn_X4_elements_120 fu ag_19 hagn_19 x1 x2 x3 x5 0 F G hm)
theorem cw_X4_elements_119 (fu : Nat) {res : Int32 × PF × PG} (C : cMC p R s m args c A v RX4 cX4_elements 8 304 18093 (xn res.2.1 - xn K0)) (hret : ∀ (b1 : Nat) (H1 : Heap) (locs1 : List Loc) (ls1 : Array Slot) (pc : Nat), cMW s A v a b1 K0 res.2.1 res.2.2 H1 locs1 → decode cX4_elements pc = .ok (.return_, 1) → W p l e R s m args below meth c H1 locs1 (xn res.2.1 - xn K0) (2 * (xn res.2.1 - xn K0)) Q (F0 m pc ls1 [])) (ag_19 : Int32 → Int32 → Int32 → Int32 → Int32 → PF → PG → PR) (hag_19 : ∀ (x1 : Int32) (x2 : Int32) (x3 : Int32) (x4 : Int32) (x5 : Int32) (F : PF) (G : PG), ag_19 x1 x2 x3 x4 x5 F G = some res → ∀ (b : Nat) (H : Heap) (locs : List Loc) (ls : Array Slot), cMW s A v a b K0 F G H locs → lv_has ls 8 [(0, .ref (a 204)), (1, .int x1), (2, .int x2), (3, .int x3), (4, .int x4), (5, .int x5)] → W p l e R s m args below meth c H locs (xn F - xn K0) (2 * (xn F - xn K0)) Q (F0 m 19 ls [])) (hagn_19 : ∀ (x1 : Int32) (x2 : Int32) (x3 : Int32) (x4 : Int32) (x5 : Int32) (F : PF) (G : PG), ag_19 x1 x2 x3 x4 x5 F G = some res → xn F ≤ xn res.2.1) (x1 : Int32) (x2 : Int32) (x3 : Int32) (x5 : Int32) (F : PF) (G : PG) (hm : cb_X4_elements_119 fu ag_19 x1 x2 x3 x5 F G = some res) {b : Nat} {H : Heap} {locs : List Loc} (hw : cMW s A v a b K0 F G H locs) {ls : Array Slot} (hl : lv_has ls 8 [(0, .ref (a 204)), (1, .int x1), (2, .int x2), (3, .int x3), (5, .int x5)]) : W p l e R s m args below meth c H locs (xn F - xn K0) (2 * (xn F - xn K0)) Q (F0 m 119 ls []) := by
  have hx := C.1
  have hb := C.2.1
  unfold cb_X4_elements_119 at hm
  refine lv_iconst (v := 0) hx hb dX4_elements_119 (by decide) ?_
  exact cw_X4_elements_120 fu C hret ag_19 hag_19 hagn_19 x1 x2 x3 x5 0 F G hm hw (lv_sub hl [0, 1, 2, 3, 4] rfl)
theorem cn_X4_elements_115 (fu : Nat) {res : Int32 × PF × PG} (ag_19 : Int32 → Int32 → Int32 → Int32 → Int32 → PF → PG → PR) (hagn_19 : ∀ (x1 : Int32) (x2 : Int32) (x3 : Int32) (x4 : Int32) (x5 : Int32) (F : PF) (G : PG), ag_19 x1 x2 x3 x4 x5 F G = some res → xn F ≤ xn res.2.1) (x1 : Int32) (x2 : Int32) (x3 : Int32) (x5 : Int32) (F : PF) (G : PG) (hm : cb_X4_elements_115 fu ag_19 x1 x2 x3 x5 F G = some res) : xn F ≤ xn res.2.1 := by
  unfold cb_X4_elements_115 at hm
  exact (cn_X4_elements_120 fu ag_19 hagn_19 x1 x2 x3 x5 1 F G hm)
theorem cw_X4_elements_115 (fu : Nat) {res : Int32 × PF × PG} (C : cMC p R s m args c A v RX4 cX4_elements 8 304 18093 (xn res.2.1 - xn K0)) (hret : ∀ (b1 : Nat) (H1 : Heap) (locs1 : List Loc) (ls1 : Array Slot) (pc : Nat), cMW s A v a b1 K0 res.2.1 res.2.2 H1 locs1 → decode cX4_elements pc = .ok (.return_, 1) → W p l e R s m args below meth c H1 locs1 (xn res.2.1 - xn K0) (2 * (xn res.2.1 - xn K0)) Q (F0 m pc ls1 [])) (ag_19 : Int32 → Int32 → Int32 → Int32 → Int32 → PF → PG → PR) (hag_19 : ∀ (x1 : Int32) (x2 : Int32) (x3 : Int32) (x4 : Int32) (x5 : Int32) (F : PF) (G : PG), ag_19 x1 x2 x3 x4 x5 F G = some res → ∀ (b : Nat) (H : Heap) (locs : List Loc) (ls : Array Slot), cMW s A v a b K0 F G H locs → lv_has ls 8 [(0, .ref (a 204)), (1, .int x1), (2, .int x2), (3, .int x3), (4, .int x4), (5, .int x5)] → W p l e R s m args below meth c H locs (xn F - xn K0) (2 * (xn F - xn K0)) Q (F0 m 19 ls [])) (hagn_19 : ∀ (x1 : Int32) (x2 : Int32) (x3 : Int32) (x4 : Int32) (x5 : Int32) (F : PF) (G : PG), ag_19 x1 x2 x3 x4 x5 F G = some res → xn F ≤ xn res.2.1) (x1 : Int32) (x2 : Int32) (x3 : Int32) (x5 : Int32) (F : PF) (G : PG) (hm : cb_X4_elements_115 fu ag_19 x1 x2 x3 x5 F G = some res) {b : Nat} {H : Heap} {locs : List Loc} (hw : cMW s A v a b K0 F G H locs) {ls : Array Slot} (hl : lv_has ls 8 [(0, .ref (a 204)), (1, .int x1), (2, .int x2), (3, .int x3), (5, .int x5)]) : W p l e R s m args below meth c H locs (xn F - xn K0) (2 * (xn F - xn K0)) Q (F0 m 115 ls []) := by
  have hx := C.1
  have hb := C.2.1
  unfold cb_X4_elements_115 at hm
  refine lv_iconst (v := 1) hx hb dX4_elements_115 (by decide) ?_
  refine lv_goto (tgt := 120) hx hb dX4_elements_116 (by decide) ?_
  exact cw_X4_elements_120 fu C hret ag_19 hag_19 hagn_19 x1 x2 x3 x5 1 F G hm hw (lv_sub hl [0, 1, 2, 3, 4] rfl)
theorem cn_X4_elements_103 (fu : Nat) {res : Int32 × PF × PG} (ag_19 : Int32 → Int32 → Int32 → Int32 → Int32 → PF → PG → PR) (hagn_19 : ∀ (x1 : Int32) (x2 : Int32) (x3 : Int32) (x4 : Int32) (x5 : Int32) (F : PF) (G : PG), ag_19 x1 x2 x3 x4 x5 F G = some res → xn F ≤ xn res.2.1) (x1 : Int32) (x2 : Int32) (x3 : Int32) (x5 : Int32) (F : PF) (G : PG) (hm : cb_X4_elements_103 fu ag_19 x1 x2 x3 x5 F G = some res) : xn F ≤ xn res.2.1 := by
  unfold cb_X4_elements_103 at hm
  by_cases c_1 : (F 11) = (25 : Int32)
  · have hm := (if_pos c_1).symm.trans hm
    exact (cn_X4_elements_115 fu ag_19 hagn_19 x1 x2 x3 x5 F G hm)
  · have hm := (if_neg c_1).symm.trans hm
    exact (cn_X4_elements_119 fu ag_19 hagn_19 x1 x2 x3 x5 F G hm)
theorem cw_X4_elements_103 (fu : Nat) {res : Int32 × PF × PG} (C : cMC p R s m args c A v RX4 cX4_elements 8 304 18093 (xn res.2.1 - xn K0)) (hret : ∀ (b1 : Nat) (H1 : Heap) (locs1 : List Loc) (ls1 : Array Slot) (pc : Nat), cMW s A v a b1 K0 res.2.1 res.2.2 H1 locs1 → decode cX4_elements pc = .ok (.return_, 1) → W p l e R s m args below meth c H1 locs1 (xn res.2.1 - xn K0) (2 * (xn res.2.1 - xn K0)) Q (F0 m pc ls1 [])) (ag_19 : Int32 → Int32 → Int32 → Int32 → Int32 → PF → PG → PR) (hag_19 : ∀ (x1 : Int32) (x2 : Int32) (x3 : Int32) (x4 : Int32) (x5 : Int32) (F : PF) (G : PG), ag_19 x1 x2 x3 x4 x5 F G = some res → ∀ (b : Nat) (H : Heap) (locs : List Loc) (ls : Array Slot), cMW s A v a b K0 F G H locs → lv_has ls 8 [(0, .ref (a 204)), (1, .int x1), (2, .int x2), (3, .int x3), (4, .int x4), (5, .int x5)] → W p l e R s m args below meth c H locs (xn F - xn K0) (2 * (xn F - xn K0)) Q (F0 m 19 ls [])) (hagn_19 : ∀ (x1 : Int32) (x2 : Int32) (x3 : Int32) (x4 : Int32) (x5 : Int32) (F : PF) (G : PG), ag_19 x1 x2 x3 x4 x5 F G = some res → xn F ≤ xn res.2.1) (x1 : Int32) (x2 : Int32) (x3 : Int32) (x5 : Int32) (F : PF) (G : PG) (hm : cb_X4_elements_103 fu ag_19 x1 x2 x3 x5 F G = some res) {b : Nat} {H : Heap} {locs : List Loc} (hw : cMW s A v a b K0 F G H locs) {ls : Array Slot} (hl : lv_has ls 8 [(0, .ref (a 204)), (1, .int x1), (2, .int x2), (3, .int x3), (5, .int x5)]) : W p l e R s m args below meth c H locs (xn F - xn K0) (2 * (xn F - xn K0)) Q (F0 m 103 ls []) := by
  have hx := C.1
  have hb := C.2.1
  unfold cb_X4_elements_103 at hm
  refine lv_aload_n hx hb dX4_elements_103 rfl (lv_at hl 0 rfl) ?_
  refine cg_X4_9 C hw dX4_elements_104 ?_
  refine cg_X4_52 C hw dX4_elements_107 ?_
  refine lv_bipush (v := 25) hx hb dX4_elements_110 (by decide) ?_
  refine lv_icmp_ne (tgt := 119) hx hb dX4_elements_112 (by decide) (fun c_1 => ?_) (fun c_1 => ?_)
  · have hm := (if_neg c_1).symm.trans hm
    exact cw_X4_elements_119 fu C hret ag_19 hag_19 hagn_19 x1 x2 x3 x5 F G hm hw (lv_sub hl [0, 1, 2, 3, 4] rfl)
  · have hm := (if_pos c_1).symm.trans hm
    exact cw_X4_elements_115 fu C hret ag_19 hag_19 hagn_19 x1 x2 x3 x5 F G hm hw (lv_sub hl [0, 1, 2, 3, 4] rfl)
theorem cn_X4_elements_91 (fu : Nat) {res : Int32 × PF × PG} (ag_19 : Int32 → Int32 → Int32 → Int32 → Int32 → PF → PG → PR) (hagn_19 : ∀ (x1 : Int32) (x2 : Int32) (x3 : Int32) (x4 : Int32) (x5 : Int32) (F : PF) (G : PG), ag_19 x1 x2 x3 x4 x5 F G = some res → xn F ≤ xn res.2.1) (x1 : Int32) (x2 : Int32) (x3 : Int32) (x5 : Int32) (x7 : Int32) (F : PF) (G : PG) (hm : cb_X4_elements_91 fu ag_19 x1 x2 x3 x5 x7 F G = some res) : xn F ≤ xn res.2.1 := by
  unfold cb_X4_elements_91 at hm
  obtain ⟨⟨r1, F1, G1⟩, hc, hm⟩ := bind_elim hm
  exact Nat.le_trans (cn_X8_tellByte fu x2 x5 x7 F G _ hc) (cn_X4_elements_103 fu ag_19 hagn_19 x1 x2 x3 x5 F1 G1 hm)
theorem cw_X4_elements_91 (fu : Nat) {res : Int32 × PF × PG} (C : cMC p R s m args c A v RX4 cX4_elements 8 304 18093 (xn res.2.1 - xn K0)) (hret : ∀ (b1 : Nat) (H1 : Heap) (locs1 : List Loc) (ls1 : Array Slot) (pc : Nat), cMW s A v a b1 K0 res.2.1 res.2.2 H1 locs1 → decode cX4_elements pc = .ok (.return_, 1) → W p l e R s m args below meth c H1 locs1 (xn res.2.1 - xn K0) (2 * (xn res.2.1 - xn K0)) Q (F0 m pc ls1 [])) (ag_19 : Int32 → Int32 → Int32 → Int32 → Int32 → PF → PG → PR) (hag_19 : ∀ (x1 : Int32) (x2 : Int32) (x3 : Int32) (x4 : Int32) (x5 : Int32) (F : PF) (G : PG), ag_19 x1 x2 x3 x4 x5 F G = some res → ∀ (b : Nat) (H : Heap) (locs : List Loc) (ls : Array Slot), cMW s A v a b K0 F G H locs → lv_has ls 8 [(0, .ref (a 204)), (1, .int x1), (2, .int x2), (3, .int x3), (4, .int x4), (5, .int x5)] → W p l e R s m args below meth c H locs (xn F - xn K0) (2 * (xn F - xn K0)) Q (F0 m 19 ls [])) (hagn_19 : ∀ (x1 : Int32) (x2 : Int32) (x3 : Int32) (x4 : Int32) (x5 : Int32) (F : PF) (G : PG), ag_19 x1 x2 x3 x4 x5 F G = some res → xn F ≤ xn res.2.1) (x1 : Int32) (x2 : Int32) (x3 : Int32) (x5 : Int32) (x7 : Int32) (F : PF) (G : PG) (hm : cb_X4_elements_91 fu ag_19 x1 x2 x3 x5 x7 F G = some res) {b : Nat} {H : Heap} {locs : List Loc} (hw : cMW s A v a b K0 F G H locs) {ls : Array Slot} (hl : lv_has ls 8 [(0, .ref (a 204)), (1, .int x1), (2, .int x2), (3, .int x3), (5, .int x5), (7, .int x7)]) : W p l e R s m args below meth c H locs (xn F - xn K0) (2 * (xn F - xn K0)) Q (F0 m 91 ls []) := by
  have hx := C.1
  have hb := C.2.1
  unfold cb_X4_elements_91 at hm
  refine lv_aload_n hx hb dX4_elements_91 rfl (lv_at hl 0 rfl) ?_
  refine cg_X4_23 C hw dX4_elements_92 ?_
  refine lv_iload_n hx hb dX4_elements_95 rfl (lv_at hl 2 rfl) ?_
  refine lv_iload hx hb dX4_elements_96 (lv_at hl 4 rfl) ?_
  refine lv_iload hx hb dX4_elements_98 (lv_at hl 5 rfl) ?_
  obtain ⟨⟨r1, F1, G1⟩, hc, hm⟩ := bind_elim hm
  refine ccallV (n := 3) (As := [.int x2, .int x5, .int x7]) (rest := []) C hw (ck_X8_tellByte l v a _ _ fu x2 x5 x7 F G r1 F1 G1 hc) (cn_X8_tellByte fu x2 x5 x7 F G _ hc) (Nat.sub_le_sub_right (cn_X4_elements_103 fu ag_19 hagn_19 x1 x2 x3 x5 F1 G1 hm) _) (crecv_X8 C hw) cm_779 cm_780 cm_781 cm_254 cm_782 (by decide +kernel) rfl (by omega) (by omega) hl.1 rfl (Nat.le_of_ble_eq_true rfl) dX4_elements_100 (fun b H locs hw => ?_)
  exact cw_X4_elements_103 fu C hret ag_19 hag_19 hagn_19 x1 x2 x3 x5 F1 G1 hm hw (lv_sub hl [0, 1, 2, 3, 4] rfl)
theorem cn_X4_elements_88 (fu : Nat) {res : Int32 × PF × PG} (ag_19 : Int32 → Int32 → Int32 → Int32 → Int32 → PF → PG → PR) (hagn_19 : ∀ (x1 : Int32) (x2 : Int32) (x3 : Int32) (x4 : Int32) (x5 : Int32) (F : PF) (G : PG), ag_19 x1 x2 x3 x4 x5 F G = some res → xn F ≤ xn res.2.1) (x1 : Int32) (x2 : Int32) (x3 : Int32) (x5 : Int32) (F : PF) (G : PG) (hm : cb_X4_elements_88 fu ag_19 x1 x2 x3 x5 F G = some res) : xn F ≤ xn res.2.1 := by
  unfold cb_X4_elements_88 at hm
  exact (cn_X4_elements_103 fu ag_19 hagn_19 x1 x2 x3 x5 F G hm)
theorem cw_X4_elements_88 (fu : Nat) {res : Int32 × PF × PG} (C : cMC p R s m args c A v RX4 cX4_elements 8 304 18093 (xn res.2.1 - xn K0)) (hret : ∀ (b1 : Nat) (H1 : Heap) (locs1 : List Loc) (ls1 : Array Slot) (pc : Nat), cMW s A v a b1 K0 res.2.1 res.2.2 H1 locs1 → decode cX4_elements pc = .ok (.return_, 1) → W p l e R s m args below meth c H1 locs1 (xn res.2.1 - xn K0) (2 * (xn res.2.1 - xn K0)) Q (F0 m pc ls1 [])) (ag_19 : Int32 → Int32 → Int32 → Int32 → Int32 → PF → PG → PR) (hag_19 : ∀ (x1 : Int32) (x2 : Int32) (x3 : Int32) (x4 : Int32) (x5 : Int32) (F : PF) (G : PG), ag_19 x1 x2 x3 x4 x5 F G = some res → ∀ (b : Nat) (H : Heap) (locs : List Loc) (ls : Array Slot), cMW s A v a b K0 F G H locs → lv_has ls 8 [(0, .ref (a 204)), (1, .int x1), (2, .int x2), (3, .int x3), (4, .int x4), (5, .int x5)] → W p l e R s m args below meth c H locs (xn F - xn K0) (2 * (xn F - xn K0)) Q (F0 m 19 ls [])) (hagn_19 : ∀ (x1 : Int32) (x2 : Int32) (x3 : Int32) (x4 : Int32) (x5 : Int32) (F : PF) (G : PG), ag_19 x1 x2 x3 x4 x5 F G = some res → xn F ≤ xn res.2.1) (x1 : Int32) (x2 : Int32) (x3 : Int32) (x5 : Int32) (F : PF) (G : PG) (hm : cb_X4_elements_88 fu ag_19 x1 x2 x3 x5 F G = some res) {b : Nat} {H : Heap} {locs : List Loc} (hw : cMW s A v a b K0 F G H locs) {ls : Array Slot} (hl : lv_has ls 8 [(0, .ref (a 204)), (1, .int x1), (2, .int x2), (3, .int x3), (5, .int x5)]) : W p l e R s m args below meth c H locs (xn F - xn K0) (2 * (xn F - xn K0)) Q (F0 m 88 ls []) := by
  have hx := C.1
  have hb := C.2.1
  unfold cb_X4_elements_88 at hm
  refine lv_goto (tgt := 103) hx hb dX4_elements_88 (by decide) ?_
  exact cw_X4_elements_103 fu C hret ag_19 hag_19 hagn_19 x1 x2 x3 x5 F G hm hw (lv_sub hl [0, 1, 2, 3, 4] rfl)
theorem cn_X4_elements_75 (fu : Nat) {res : Int32 × PF × PG} (ag_19 : Int32 → Int32 → Int32 → Int32 → Int32 → PF → PG → PR) (hagn_19 : ∀ (x1 : Int32) (x2 : Int32) (x3 : Int32) (x4 : Int32) (x5 : Int32) (F : PF) (G : PG), ag_19 x1 x2 x3 x4 x5 F G = some res → xn F ≤ xn res.2.1) (x1 : Int32) (x2 : Int32) (x3 : Int32) (x5 : Int32) (x7 : Int32) (F : PF) (G : PG) (hm : cb_X4_elements_75 fu ag_19 x1 x2 x3 x5 x7 F G = some res) : xn F ≤ xn res.2.1 := by
  unfold cb_X4_elements_75 at hm
  obtain ⟨⟨r1, F1, G1⟩, hc, hm⟩ := bind_elim hm
  exact Nat.le_trans (cn_X8_tellInt fu (x2 + x5) x7 F G _ hc) (cn_X4_elements_88 fu ag_19 hagn_19 x1 x2 x3 x5 F1 G1 hm)
theorem cw_X4_elements_75 (fu : Nat) {res : Int32 × PF × PG} (C : cMC p R s m args c A v RX4 cX4_elements 8 304 18093 (xn res.2.1 - xn K0)) (hret : ∀ (b1 : Nat) (H1 : Heap) (locs1 : List Loc) (ls1 : Array Slot) (pc : Nat), cMW s A v a b1 K0 res.2.1 res.2.2 H1 locs1 → decode cX4_elements pc = .ok (.return_, 1) → W p l e R s m args below meth c H1 locs1 (xn res.2.1 - xn K0) (2 * (xn res.2.1 - xn K0)) Q (F0 m pc ls1 [])) (ag_19 : Int32 → Int32 → Int32 → Int32 → Int32 → PF → PG → PR) (hag_19 : ∀ (x1 : Int32) (x2 : Int32) (x3 : Int32) (x4 : Int32) (x5 : Int32) (F : PF) (G : PG), ag_19 x1 x2 x3 x4 x5 F G = some res → ∀ (b : Nat) (H : Heap) (locs : List Loc) (ls : Array Slot), cMW s A v a b K0 F G H locs → lv_has ls 8 [(0, .ref (a 204)), (1, .int x1), (2, .int x2), (3, .int x3), (4, .int x4), (5, .int x5)] → W p l e R s m args below meth c H locs (xn F - xn K0) (2 * (xn F - xn K0)) Q (F0 m 19 ls [])) (hagn_19 : ∀ (x1 : Int32) (x2 : Int32) (x3 : Int32) (x4 : Int32) (x5 : Int32) (F : PF) (G : PG), ag_19 x1 x2 x3 x4 x5 F G = some res → xn F ≤ xn res.2.1) (x1 : Int32) (x2 : Int32) (x3 : Int32) (x5 : Int32) (x7 : Int32) (F : PF) (G : PG) (hm : cb_X4_elements_75 fu ag_19 x1 x2 x3 x5 x7 F G = some res) {b : Nat} {H : Heap} {locs : List Loc} (hw : cMW s A v a b K0 F G H locs) {ls : Array Slot} (hl : lv_has ls 8 [(0, .ref (a 204)), (1, .int x1), (2, .int x2), (3, .int x3), (5, .int x5), (7, .int x7)]) : W p l e R s m args below meth c H locs (xn F - xn K0) (2 * (xn F - xn K0)) Q (F0 m 75 ls []) := by
  have hx := C.1
  have hb := C.2.1
  unfold cb_X4_elements_75 at hm
  refine lv_aload_n hx hb dX4_elements_75 rfl (lv_at hl 0 rfl) ?_
  refine cg_X4_23 C hw dX4_elements_76 ?_
  refine lv_iload_n hx hb dX4_elements_79 rfl (lv_at hl 2 rfl) ?_
  refine lv_iload hx hb dX4_elements_80 (lv_at hl 4 rfl) ?_
  refine lv_iadd hx hb dX4_elements_82 ?_
  refine lv_iload hx hb dX4_elements_83 (lv_at hl 5 rfl) ?_
  obtain ⟨⟨r1, F1, G1⟩, hc, hm⟩ := bind_elim hm
  refine ccallV (n := 2) (As := [.int (x2 + x5), .int x7]) (rest := []) C hw (ck_X8_tellInt l v a _ _ fu (x2 + x5) x7 F G r1 F1 G1 hc) (cn_X8_tellInt fu (x2 + x5) x7 F G _ hc) (Nat.sub_le_sub_right (cn_X4_elements_88 fu ag_19 hagn_19 x1 x2 x3 x5 F1 G1 hm) _) (crecv_X8 C hw) cm_775 cm_776 cm_777 cm_254 cm_778 (by decide +kernel) rfl (by omega) (by omega) hl.1 rfl (Nat.le_of_ble_eq_true rfl) dX4_elements_85 (fun b H locs hw => ?_)
  exact cw_X4_elements_88 fu C hret ag_19 hag_19 hagn_19 x1 x2 x3 x5 F1 G1 hm hw (lv_sub hl [0, 1, 2, 3, 4] rfl)
theorem cn_X4_elements_70 (fu : Nat) {res : Int32 × PF × PG} (ag_19 : Int32 → Int32 → Int32 → Int32 → Int32 → PF → PG → PR) (hagn_19 : ∀ (x1 : Int32) (x2 : Int32) (x3 : Int32) (x4 : Int32) (x5 : Int32) (F : PF) (G : PG), ag_19 x1 x2 x3 x4 x5 F G = some res → xn F ≤ xn res.2.1) (x1 : Int32) (x2 : Int32) (x3 : Int32) (x5 : Int32) (x7 : Int32) (F : PF) (G : PG) (hm : cb_X4_elements_70 fu ag_19 x1 x2 x3 x5 x7 F G = some res) : xn F ≤ xn res.2.1 := by
  unfold cb_X4_elements_70 at hm
  by_cases c_1 : x1 = (2 : Int32)
  · have hm := (if_pos c_1).symm.trans hm
    exact (cn_X4_elements_75 fu ag_19 hagn_19 x1 x2 x3 x5 x7 F G hm)
  · have hm := (if_neg c_1).symm.trans hm
    exact (cn_X4_elements_91 fu ag_19 hagn_19 x1 x2 x3 x5 x7 F G hm)
theorem cw_X4_elements_70 (fu : Nat) {res : Int32 × PF × PG} (C : cMC p R s m args c A v RX4 cX4_elements 8 304 18093 (xn res.2.1 - xn K0)) (hret : ∀ (b1 : Nat) (H1 : Heap) (locs1 : List Loc) (ls1 : Array Slot) (pc : Nat), cMW s A v a b1 K0 res.2.1 res.2.2 H1 locs1 → decode cX4_elements pc = .ok (.return_, 1) → W p l e R s m args below meth c H1 locs1 (xn res.2.1 - xn K0) (2 * (xn res.2.1 - xn K0)) Q (F0 m pc ls1 [])) (ag_19 : Int32 → Int32 → Int32 → Int32 → Int32 → PF → PG → PR) (hag_19 : ∀ (x1 : Int32) (x2 : Int32) (x3 : Int32) (x4 : Int32) (x5 : Int32) (F : PF) (G : PG), ag_19 x1 x2 x3 x4 x5 F G = some res → ∀ (b : Nat) (H : Heap) (locs : List Loc) (ls : Array Slot), cMW s A v a b K0 F G H locs → lv_has ls 8 [(0, .ref (a 204)), (1, .int x1), (2, .int x2), (3, .int x3), (4, .int x4), (5, .int x5)] → W p l e R s m args below meth c H locs (xn F - xn K0) (2 * (xn F - xn K0)) Q (F0 m 19 ls [])) (hagn_19 : ∀ (x1 : Int32) (x2 : Int32) (x3 : Int32) (x4 : Int32) (x5 : Int32) (F : PF) (G : PG), ag_19 x1 x2 x3 x4 x5 F G = some res → xn F ≤ xn res.2.1) (x1 : Int32) (x2 : Int32) (x3 : Int32) (x5 : Int32) (x7 : Int32) (F : PF) (G : PG) (hm : cb_X4_elements_70 fu ag_19 x1 x2 x3 x5 x7 F G = some res) {b : Nat} {H : Heap} {locs : List Loc} (hw : cMW s A v a b K0 F G H locs) {ls : Array Slot} (hl : lv_has ls 8 [(0, .ref (a 204)), (1, .int x1), (2, .int x2), (3, .int x3), (5, .int x5), (7, .int x7)]) : W p l e R s m args below meth c H locs (xn F - xn K0) (2 * (xn F - xn K0)) Q (F0 m 70 ls []) := by
  have hx := C.1
  have hb := C.2.1
  unfold cb_X4_elements_70 at hm
  refine lv_iload_n hx hb dX4_elements_70 rfl (lv_at hl 1 rfl) ?_
  refine lv_iconst (v := 2) hx hb dX4_elements_71 (by decide) ?_
  refine lv_icmp_ne (tgt := 91) hx hb dX4_elements_72 (by decide) (fun c_1 => ?_) (fun c_1 => ?_)
  · have hm := (if_neg c_1).symm.trans hm
    exact cw_X4_elements_91 fu C hret ag_19 hag_19 hagn_19 x1 x2 x3 x5 x7 F G hm hw (lv_sub hl [0, 1, 2, 3, 4, 5] rfl)
  · have hm := (if_pos c_1).symm.trans hm
    exact cw_X4_elements_75 fu C hret ag_19 hag_19 hagn_19 x1 x2 x3 x5 x7 F G hm hw (lv_sub hl [0, 1, 2, 3, 4, 5] rfl)
theorem cn_X4_elements_67 (fu : Nat) {res : Int32 × PF × PG} (ag_19 : Int32 → Int32 → Int32 → Int32 → Int32 → PF → PG → PR) (hagn_19 : ∀ (x1 : Int32) (x2 : Int32) (x3 : Int32) (x4 : Int32) (x5 : Int32) (F : PF) (G : PG), ag_19 x1 x2 x3 x4 x5 F G = some res → xn F ≤ xn res.2.1) (x1 : Int32) (x2 : Int32) (x3 : Int32) (x5 : Int32) (F : PF) (G : PG) (hm : cb_X4_elements_67 fu ag_19 x1 x2 x3 x5 F G = some res) : xn F ≤ xn res.2.1 := by
  unfold cb_X4_elements_67 at hm
  exact (cn_X4_elements_103 fu ag_19 hagn_19 x1 x2 x3 x5 F G hm)
theorem cw_X4_elements_67 (fu : Nat) {res : Int32 × PF × PG} (C : cMC p R s m args c A v RX4 cX4_elements 8 304 18093 (xn res.2.1 - xn K0)) (hret : ∀ (b1 : Nat) (H1 : Heap) (locs1 : List Loc) (ls1 : Array Slot) (pc : Nat), cMW s A v a b1 K0 res.2.1 res.2.2 H1 locs1 → decode cX4_elements pc = .ok (.return_, 1) → W p l e R s m args below meth c H1 locs1 (xn res.2.1 - xn K0) (2 * (xn res.2.1 - xn K0)) Q (F0 m pc ls1 [])) (ag_19 : Int32 → Int32 → Int32 → Int32 → Int32 → PF → PG → PR) (hag_19 : ∀ (x1 : Int32) (x2 : Int32) (x3 : Int32) (x4 : Int32) (x5 : Int32) (F : PF) (G : PG), ag_19 x1 x2 x3 x4 x5 F G = some res → ∀ (b : Nat) (H : Heap) (locs : List Loc) (ls : Array Slot), cMW s A v a b K0 F G H locs → lv_has ls 8 [(0, .ref (a 204)), (1, .int x1), (2, .int x2), (3, .int x3), (4, .int x4), (5, .int x5)] → W p l e R s m args below meth c H locs (xn F - xn K0) (2 * (xn F - xn K0)) Q (F0 m 19 ls [])) (hagn_19 : ∀ (x1 : Int32) (x2 : Int32) (x3 : Int32) (x4 : Int32) (x5 : Int32) (F : PF) (G : PG), ag_19 x1 x2 x3 x4 x5 F G = some res → xn F ≤ xn res.2.1) (x1 : Int32) (x2 : Int32) (x3 : Int32) (x5 : Int32) (F : PF) (G : PG) (hm : cb_X4_elements_67 fu ag_19 x1 x2 x3 x5 F G = some res) {b : Nat} {H : Heap} {locs : List Loc} (hw : cMW s A v a b K0 F G H locs) {ls : Array Slot} (hl : lv_has ls 8 [(0, .ref (a 204)), (1, .int x1), (2, .int x2), (3, .int x3), (5, .int x5)]) : W p l e R s m args below meth c H locs (xn F - xn K0) (2 * (xn F - xn K0)) Q (F0 m 67 ls []) := by
  have hx := C.1
  have hb := C.2.1
  unfold cb_X4_elements_67 at hm
  refine lv_goto (tgt := 103) hx hb dX4_elements_67 (by decide) ?_
  exact cw_X4_elements_103 fu C hret ag_19 hag_19 hagn_19 x1 x2 x3 x5 F G hm hw (lv_sub hl [0, 1, 2, 3, 4] rfl)
theorem cn_X4_elements_56 (fu : Nat) {res : Int32 × PF × PG} (ag_19 : Int32 → Int32 → Int32 → Int32 → Int32 → PF → PG → PR) (hagn_19 : ∀ (x1 : Int32) (x2 : Int32) (x3 : Int32) (x4 : Int32) (x5 : Int32) (F : PF) (G : PG), ag_19 x1 x2 x3 x4 x5 F G = some res → xn F ≤ xn res.2.1) (x1 : Int32) (x2 : Int32) (x3 : Int32) (x5 : Int32) (x6 : Int32) (F : PF) (G : PG) (hm : cb_X4_elements_56 fu ag_19 x1 x2 x3 x5 x6 F G = some res) : xn F ≤ xn res.2.1 := by
  unfold cb_X4_elements_56 at hm
  obtain ⟨⟨r1, F1, G1⟩, hc, hm⟩ := bind_elim hm
  exact Nat.le_trans (cn_X5_note fu 7 x6 F G _ hc) (cn_X4_elements_67 fu ag_19 hagn_19 x1 x2 x3 x5 F1 G1 hm)
theorem cw_X4_elements_56 (fu : Nat) {res : Int32 × PF × PG} (C : cMC p R s m args c A v RX4 cX4_elements 8 304 18093 (xn res.2.1 - xn K0)) (hret : ∀ (b1 : Nat) (H1 : Heap) (locs1 : List Loc) (ls1 : Array Slot) (pc : Nat), cMW s A v a b1 K0 res.2.1 res.2.2 H1 locs1 → decode cX4_elements pc = .ok (.return_, 1) → W p l e R s m args below meth c H1 locs1 (xn res.2.1 - xn K0) (2 * (xn res.2.1 - xn K0)) Q (F0 m pc ls1 [])) (ag_19 : Int32 → Int32 → Int32 → Int32 → Int32 → PF → PG → PR) (hag_19 : ∀ (x1 : Int32) (x2 : Int32) (x3 : Int32) (x4 : Int32) (x5 : Int32) (F : PF) (G : PG), ag_19 x1 x2 x3 x4 x5 F G = some res → ∀ (b : Nat) (H : Heap) (locs : List Loc) (ls : Array Slot), cMW s A v a b K0 F G H locs → lv_has ls 8 [(0, .ref (a 204)), (1, .int x1), (2, .int x2), (3, .int x3), (4, .int x4), (5, .int x5)] → W p l e R s m args below meth c H locs (xn F - xn K0) (2 * (xn F - xn K0)) Q (F0 m 19 ls [])) (hagn_19 : ∀ (x1 : Int32) (x2 : Int32) (x3 : Int32) (x4 : Int32) (x5 : Int32) (F : PF) (G : PG), ag_19 x1 x2 x3 x4 x5 F G = some res → xn F ≤ xn res.2.1) (x1 : Int32) (x2 : Int32) (x3 : Int32) (x5 : Int32) (x6 : Int32) (F : PF) (G : PG) (hm : cb_X4_elements_56 fu ag_19 x1 x2 x3 x5 x6 F G = some res) {b : Nat} {H : Heap} {locs : List Loc} (hw : cMW s A v a b K0 F G H locs) {ls : Array Slot} (hl : lv_has ls 8 [(0, .ref (a 204)), (1, .int x1), (2, .int x2), (3, .int x3), (5, .int x5), (6, .int x6)]) : W p l e R s m args below meth c H locs (xn F - xn K0) (2 * (xn F - xn K0)) Q (F0 m 56 ls []) := by
  have hx := C.1
  have hb := C.2.1
  unfold cb_X4_elements_56 at hm
  refine lv_aload_n hx hb dX4_elements_56 rfl (lv_at hl 0 rfl) ?_
  refine cg_X4_15 C hw dX4_elements_57 ?_
  refine lv_bipush (v := 7) hx hb dX4_elements_60 (by decide) ?_
  refine lv_iload hx hb dX4_elements_62 (lv_at hl 5 rfl) ?_
  obtain ⟨⟨r1, F1, G1⟩, hc, hm⟩ := bind_elim hm
  refine ccallV (n := 2) (As := [.int 7, .int x6]) (rest := []) C hw (ck_X5_note l v a _ _ fu 7 x6 F G r1 F1 G1 hc) (cn_X5_note fu 7 x6 F G _ hc) (Nat.sub_le_sub_right (cn_X4_elements_67 fu ag_19 hagn_19 x1 x2 x3 x5 F1 G1 hm) _) (crecv_X5 C hw) cm_628 cm_425 cm_426 cm_266 cm_427 (by decide +kernel) rfl (by omega) (by omega) hl.1 rfl (Nat.le_of_ble_eq_true rfl) dX4_elements_64 (fun b H locs hw => ?_)
  exact cw_X4_elements_67 fu C hret ag_19 hag_19 hagn_19 x1 x2 x3 x5 F1 G1 hm hw (lv_sub hl [0, 1, 2, 3, 4] rfl)
theorem cn_X4_elements_48 (fu : Nat) {res : Int32 × PF × PG} (ag_19 : Int32 → Int32 → Int32 → Int32 → Int32 → PF → PG → PR) (hagn_19 : ∀ (x1 : Int32) (x2 : Int32) (x3 : Int32) (x4 : Int32) (x5 : Int32) (F : PF) (G : PG), ag_19 x1 x2 x3 x4 x5 F G = some res → xn F ≤ xn res.2.1) (x1 : Int32) (x2 : Int32) (x3 : Int32) (x5 : Int32) (x6 : Int32) (z0 : Int32) (F : PF) (G : PG) (hm : cb_X4_elements_48 fu ag_19 x1 x2 x3 x5 x6 z0 F G = some res) : xn F ≤ xn res.2.1 := by
  unfold cb_X4_elements_48 at hm
  by_cases c_1 : x5 < x3
  · have hm := (if_pos c_1).symm.trans hm
    exact (cn_X4_elements_70 fu ag_19 hagn_19 x1 x2 x3 x5 z0 F G hm)
  · have hm := (if_neg c_1).symm.trans hm
    exact (cn_X4_elements_56 fu ag_19 hagn_19 x1 x2 x3 x5 x6 F G hm)
theorem cw_X4_elements_48 (fu : Nat) {res : Int32 × PF × PG} (C : cMC p R s m args c A v RX4 cX4_elements 8 304 18093 (xn res.2.1 - xn K0)) (hret : ∀ (b1 : Nat) (H1 : Heap) (locs1 : List Loc) (ls1 : Array Slot) (pc : Nat), cMW s A v a b1 K0 res.2.1 res.2.2 H1 locs1 → decode cX4_elements pc = .ok (.return_, 1) → W p l e R s m args below meth c H1 locs1 (xn res.2.1 - xn K0) (2 * (xn res.2.1 - xn K0)) Q (F0 m pc ls1 [])) (ag_19 : Int32 → Int32 → Int32 → Int32 → Int32 → PF → PG → PR) (hag_19 : ∀ (x1 : Int32) (x2 : Int32) (x3 : Int32) (x4 : Int32) (x5 : Int32) (F : PF) (G : PG), ag_19 x1 x2 x3 x4 x5 F G = some res → ∀ (b : Nat) (H : Heap) (locs : List Loc) (ls : Array Slot), cMW s A v a b K0 F G H locs → lv_has ls 8 [(0, .ref (a 204)), (1, .int x1), (2, .int x2), (3, .int x3), (4, .int x4), (5, .int x5)] → W p l e R s m args below meth c H locs (xn F - xn K0) (2 * (xn F - xn K0)) Q (F0 m 19 ls [])) (hagn_19 : ∀ (x1 : Int32) (x2 : Int32) (x3 : Int32) (x4 : Int32) (x5 : Int32) (F : PF) (G : PG), ag_19 x1 x2 x3 x4 x5 F G = some res → xn F ≤ xn res.2.1) (x1 : Int32) (x2 : Int32) (x3 : Int32) (x5 : Int32) (x6 : Int32) (z0 : Int32) (F : PF) (G : PG) (hm : cb_X4_elements_48 fu ag_19 x1 x2 x3 x5 x6 z0 F G = some res) {b : Nat} {H : Heap} {locs : List Loc} (hw : cMW s A v a b K0 F G H locs) {ls : Array Slot} (hl : lv_has ls 8 [(0, .ref (a 204)), (1, .int x1), (2, .int x2), (3, .int x3), (5, .int x5), (6, .int x6)]) : W p l e R s m args below meth c H locs (xn F - xn K0) (2 * (xn F - xn K0)) Q (F0 m 48 ls [.int z0]) := by
  have hx := C.1
  have hb := C.2.1
  unfold cb_X4_elements_48 at hm
  refine lv_istore (lv' := [(7, .int z0), (0, .ref (a 204)), (1, .int x1), (2, .int x2), (3, .int x3), (5, .int x5), (6, .int x6)]) hx hb dX4_elements_48 hl (by decide) rfl (fun ls hl => ?_)
  refine lv_iload hx hb dX4_elements_50 (lv_at hl 5 rfl) ?_
  refine lv_iload_n hx hb dX4_elements_52 rfl (lv_at hl 4 rfl) ?_
  refine lv_icmp_lt (tgt := 70) hx hb dX4_elements_53 (by decide) (fun c_1 => ?_) (fun c_1 => ?_)
  · have hm := (if_pos c_1).symm.trans hm
    exact cw_X4_elements_70 fu C hret ag_19 hag_19 hagn_19 x1 x2 x3 x5 z0 F G hm hw (lv_sub hl [1, 2, 3, 4, 5, 0] rfl)
  · have hm := (if_neg c_1).symm.trans hm
    exact cw_X4_elements_56 fu C hret ag_19 hag_19 hagn_19 x1 x2 x3 x5 x6 F G hm hw (lv_sub hl [1, 2, 3, 4, 5, 6] rfl)
theorem cn_X4_elements_32 (fu : Nat) {res : Int32 × PF × PG} (ag_19 : Int32 → Int32 → Int32 → Int32 → Int32 → PF → PG → PR) (hagn_19 : ∀ (x1 : Int32) (x2 : Int32) (x3 : Int32) (x4 : Int32) (x5 : Int32) (F : PF) (G : PG), ag_19 x1 x2 x3 x4 x5 F G = some res → xn F ≤ xn res.2.1) (x1 : Int32) (x2 : Int32) (x3 : Int32) (x5 : Int32) (F : PF) (G : PG) (hm : cb_X4_elements_32 fu ag_19 x1 x2 x3 x5 F G = some res) : xn F ≤ xn res.2.1 := by
  unfold cb_X4_elements_32 at hm
  obtain ⟨⟨r1, F1, G1⟩, hc, hm⟩ := bind_elim hm
  exact Nat.le_trans (cn_X3_constant fu F G _ hc) (cn_X4_elements_48 fu ag_19 hagn_19 x1 x2 x3 x5 (F 13) r1 F1 G1 hm)
theorem cw_X4_elements_32 (fu : Nat) {res : Int32 × PF × PG} (C : cMC p R s m args c A v RX4 cX4_elements 8 304 18093 (xn res.2.1 - xn K0)) (hret : ∀ (b1 : Nat) (H1 : Heap) (locs1 : List Loc) (ls1 : Array Slot) (pc : Nat), cMW s A v a b1 K0 res.2.1 res.2.2 H1 locs1 → decode cX4_elements pc = .ok (.return_, 1) → W p l e R s m args below meth c H1 locs1 (xn res.2.1 - xn K0) (2 * (xn res.2.1 - xn K0)) Q (F0 m pc ls1 [])) (ag_19 : Int32 → Int32 → Int32 → Int32 → Int32 → PF → PG → PR) (hag_19 : ∀ (x1 : Int32) (x2 : Int32) (x3 : Int32) (x4 : Int32) (x5 : Int32) (F : PF) (G : PG), ag_19 x1 x2 x3 x4 x5 F G = some res → ∀ (b : Nat) (H : Heap) (locs : List Loc) (ls : Array Slot), cMW s A v a b K0 F G H locs → lv_has ls 8 [(0, .ref (a 204)), (1, .int x1), (2, .int x2), (3, .int x3), (4, .int x4), (5, .int x5)] → W p l e R s m args below meth c H locs (xn F - xn K0) (2 * (xn F - xn K0)) Q (F0 m 19 ls [])) (hagn_19 : ∀ (x1 : Int32) (x2 : Int32) (x3 : Int32) (x4 : Int32) (x5 : Int32) (F : PF) (G : PG), ag_19 x1 x2 x3 x4 x5 F G = some res → xn F ≤ xn res.2.1) (x1 : Int32) (x2 : Int32) (x3 : Int32) (x5 : Int32) (F : PF) (G : PG) (hm : cb_X4_elements_32 fu ag_19 x1 x2 x3 x5 F G = some res) {b : Nat} {H : Heap} {locs : List Loc} (hw : cMW s A v a b K0 F G H locs) {ls : Array Slot} (hl : lv_has ls 8 [(0, .ref (a 204)), (1, .int x1), (2, .int x2), (3, .int x3), (5, .int x5)]) : W p l e R s m args below meth c H locs (xn F - xn K0) (2 * (xn F - xn K0)) Q (F0 m 32 ls []) := by
  have hx := C.1
  have hb := C.2.1
  unfold cb_X4_elements_32 at hm
  refine lv_aload_n hx hb dX4_elements_32 rfl (lv_at hl 0 rfl) ?_
  refine cg_X4_9 C hw dX4_elements_33 ?_
  refine cg_X4_67 C hw dX4_elements_36 ?_
  refine lv_istore (lv' := [(6, .int (F 13)), (0, .ref (a 204)), (1, .int x1), (2, .int x2), (3, .int x3), (5, .int x5)]) hx hb dX4_elements_39 hl (by decide) rfl (fun ls hl => ?_)
  refine lv_aload_n hx hb dX4_elements_41 rfl (lv_at hl 1 rfl) ?_
  refine cg_X4_27 C hw dX4_elements_42 ?_
  obtain ⟨⟨r1, F1, G1⟩, hc, hm⟩ := bind_elim hm
  refine ccallI (n := 0) (As := []) (rest := []) C hw (ck_X3_constant l v a _ _ fu F G r1 F1 G1 hc) (cn_X3_constant fu F G _ hc) (Nat.sub_le_sub_right (cn_X4_elements_48 fu ag_19 hagn_19 x1 x2 x3 x5 (F 13) r1 F1 G1 hm) _) (crecv_X3 C hw) cm_341 cm_342 cm_343 cm_301 cm_344 (by decide +kernel) rfl (by omega) (by omega) hl.1 rfl (Nat.le_of_ble_eq_true rfl) dX4_elements_45 (fun b H locs hw => ?_)
  exact cw_X4_elements_48 fu C hret ag_19 hag_19 hagn_19 x1 x2 x3 x5 (F 13) r1 F1 G1 hm hw (lv_sub hl [1, 2, 3, 4, 5, 0] rfl)
theorem cn_X4_elements_27 (fu : Nat) {res : Int32 × PF × PG} (ag_19 : Int32 → Int32 → Int32 → Int32 → Int32 → PF → PG → PR) (hagn_19 : ∀ (x1 : Int32) (x2 : Int32) (x3 : Int32) (x4 : Int32) (x5 : Int32) (F : PF) (G : PG), ag_19 x1 x2 x3 x4 x5 F G = some res → xn F ≤ xn res.2.1) (x1 : Int32) (x2 : Int32) (x3 : Int32) (x4 : Int32) (x5 : Int32) (F : PF) (G : PG) (hm : cb_X4_elements_27 fu ag_19 x1 x2 x3 x4 x5 F G = some res) : xn F ≤ xn res.2.1 := by
  unfold cb_X4_elements_27 at hm
  by_cases c_1 : x4 = (0 : Int32)
  · have hm := (if_pos c_1).symm.trans hm
    exact (cn_X4_elements_140 fu F G hm)
  · have hm := (if_neg c_1).symm.trans hm
    exact (cn_X4_elements_32 fu ag_19 hagn_19 x1 x2 x3 x5 F G hm)
theorem cw_X4_elements_27 (fu : Nat) {res : Int32 × PF × PG} (C : cMC p R s m args c A v RX4 cX4_elements 8 304 18093 (xn res.2.1 - xn K0)) (hret : ∀ (b1 : Nat) (H1 : Heap) (locs1 : List Loc) (ls1 : Array Slot) (pc : Nat), cMW s A v a b1 K0 res.2.1 res.2.2 H1 locs1 → decode cX4_elements pc = .ok (.return_, 1) → W p l e R s m args below meth c H1 locs1 (xn res.2.1 - xn K0) (2 * (xn res.2.1 - xn K0)) Q (F0 m pc ls1 [])) (ag_19 : Int32 → Int32 → Int32 → Int32 → Int32 → PF → PG → PR) (hag_19 : ∀ (x1 : Int32) (x2 : Int32) (x3 : Int32) (x4 : Int32) (x5 : Int32) (F : PF) (G : PG), ag_19 x1 x2 x3 x4 x5 F G = some res → ∀ (b : Nat) (H : Heap) (locs : List Loc) (ls : Array Slot), cMW s A v a b K0 F G H locs → lv_has ls 8 [(0, .ref (a 204)), (1, .int x1), (2, .int x2), (3, .int x3), (4, .int x4), (5, .int x5)] → W p l e R s m args below meth c H locs (xn F - xn K0) (2 * (xn F - xn K0)) Q (F0 m 19 ls [])) (hagn_19 : ∀ (x1 : Int32) (x2 : Int32) (x3 : Int32) (x4 : Int32) (x5 : Int32) (F : PF) (G : PG), ag_19 x1 x2 x3 x4 x5 F G = some res → xn F ≤ xn res.2.1) (x1 : Int32) (x2 : Int32) (x3 : Int32) (x4 : Int32) (x5 : Int32) (F : PF) (G : PG) (hm : cb_X4_elements_27 fu ag_19 x1 x2 x3 x4 x5 F G = some res) {b : Nat} {H : Heap} {locs : List Loc} (hw : cMW s A v a b K0 F G H locs) {ls : Array Slot} (hl : lv_has ls 8 [(0, .ref (a 204)), (1, .int x1), (2, .int x2), (3, .int x3), (4, .int x4), (5, .int x5)]) : W p l e R s m args below meth c H locs (xn F - xn K0) (2 * (xn F - xn K0)) Q (F0 m 27 ls []) := by
  have hx := C.1
  have hb := C.2.1
  unfold cb_X4_elements_27 at hm
  refine lv_iload hx hb dX4_elements_27 (lv_at hl 4 rfl) ?_
  refine lv_if_eq (tgt := 140) hx hb dX4_elements_29 (by decide) (fun c_1 => ?_) (fun c_1 => ?_)
  · have hm := (if_pos c_1).symm.trans hm
    exact cw_X4_elements_140 fu C hret F G hm hw (lv_sub hl [0] rfl)
  · have hm := (if_neg c_1).symm.trans hm
    exact cw_X4_elements_32 fu C hret ag_19 hag_19 hagn_19 x1 x2 x3 x5 F G hm hw (lv_sub hl [0, 1, 2, 3, 5] rfl)
theorem cn_X4_elements_19 (fu : Nat) {res : Int32 × PF × PG} (ag_19 : Int32 → Int32 → Int32 → Int32 → Int32 → PF → PG → PR) (hagn_19 : ∀ (x1 : Int32) (x2 : Int32) (x3 : Int32) (x4 : Int32) (x5 : Int32) (F : PF) (G : PG), ag_19 x1 x2 x3 x4 x5 F G = some res → xn F ≤ xn res.2.1) (x1 : Int32) (x2 : Int32) (x3 : Int32) (x4 : Int32) (x5 : Int32) (F : PF) (G : PG) (hm : cb_X4_elements_19 fu ag_19 x1 x2 x3 x4 x5 F G = some res) : xn F ≤ xn res.2.1 := by
  unfold cb_X4_elements_19 at hm
  by_cases c_1 : (4001 : Int32) ≤ x5
  · have hm := (if_pos c_1).symm.trans hm
    exact (cn_X4_elements_140 fu F G hm)
  · have hm := (if_neg c_1).symm.trans hm
    exact (cn_X4_elements_27 fu ag_19 hagn_19 x1 x2 x3 x4 x5 F G hm)
theorem cw_X4_elements_19 (fu : Nat) {res : Int32 × PF × PG} (C : cMC p R s m args c A v RX4 cX4_elements 8 304 18093 (xn res.2.1 - xn K0)) (hret : ∀ (b1 : Nat) (H1 : Heap) (locs1 : List Loc) (ls1 : Array Slot) (pc : Nat), cMW s A v a b1 K0 res.2.1 res.2.2 H1 locs1 → decode cX4_elements pc = .ok (.return_, 1) → W p l e R s m args below meth c H1 locs1 (xn res.2.1 - xn K0) (2 * (xn res.2.1 - xn K0)) Q (F0 m pc ls1 [])) (ag_19 : Int32 → Int32 → Int32 → Int32 → Int32 → PF → PG → PR) (hag_19 : ∀ (x1 : Int32) (x2 : Int32) (x3 : Int32) (x4 : Int32) (x5 : Int32) (F : PF) (G : PG), ag_19 x1 x2 x3 x4 x5 F G = some res → ∀ (b : Nat) (H : Heap) (locs : List Loc) (ls : Array Slot), cMW s A v a b K0 F G H locs → lv_has ls 8 [(0, .ref (a 204)), (1, .int x1), (2, .int x2), (3, .int x3), (4, .int x4), (5, .int x5)] → W p l e R s m args below meth c H locs (xn F - xn K0) (2 * (xn F - xn K0)) Q (F0 m 19 ls [])) (hagn_19 : ∀ (x1 : Int32) (x2 : Int32) (x3 : Int32) (x4 : Int32) (x5 : Int32) (F : PF) (G : PG), ag_19 x1 x2 x3 x4 x5 F G = some res → xn F ≤ xn res.2.1) (x1 : Int32) (x2 : Int32) (x3 : Int32) (x4 : Int32) (x5 : Int32) (F : PF) (G : PG) (hm : cb_X4_elements_19 fu ag_19 x1 x2 x3 x4 x5 F G = some res) {b : Nat} {H : Heap} {locs : List Loc} (hw : cMW s A v a b K0 F G H locs) {ls : Array Slot} (hl : lv_has ls 8 [(0, .ref (a 204)), (1, .int x1), (2, .int x2), (3, .int x3), (4, .int x4), (5, .int x5)]) : W p l e R s m args below meth c H locs (xn F - xn K0) (2 * (xn F - xn K0)) Q (F0 m 19 ls []) := by
  have hx := C.1
  have hb := C.2.1
  unfold cb_X4_elements_19 at hm
  refine lv_iload hx hb dX4_elements_19 (lv_at hl 5 rfl) ?_
  refine lv_sipush (v := 4001) hx hb dX4_elements_21 (by decide) ?_
  refine lv_icmp_ge (tgt := 140) hx hb dX4_elements_24 (by decide) (fun c_1 => ?_) (fun c_1 => ?_)
  · have hm := (if_pos c_1).symm.trans hm
    exact cw_X4_elements_140 fu C hret F G hm hw (lv_sub hl [0] rfl)
  · have hm := (if_neg c_1).symm.trans hm
    exact cw_X4_elements_27 fu C hret ag_19 hag_19 hagn_19 x1 x2 x3 x4 x5 F G hm hw (lv_sub hl [0, 1, 2, 3, 4, 5] rfl)
theorem cnl_X4_elements_19 (fu : Nat) {res : Int32 × PF × PG} : ∀ (n : Nat) (x1 : Int32) (x2 : Int32) (x3 : Int32) (x4 : Int32) (x5 : Int32) (F : PF) (G : PG) (hm : cl_X4_elements_19 fu n x1 x2 x3 x4 x5 F G = some res), xn F ≤ xn res.2.1 := by
  intro n
  induction n with
  | zero =>
    intro x1 x2 x3 x4 x5 F G hm
    exact no_elim (show (none : PR) = some res from hm)
  | succ n ih =>
    intro x1 x2 x3 x4 x5 F G hm
    exact cn_X4_elements_19 fu (cl_X4_elements_19 fu n) (fun x1 x2 x3 x4 x5 F G hm => ih x1 x2 x3 x4 x5 F G hm) x1 x2 x3 x4 x5 F G hm
theorem cwl_X4_elements_19 (fu : Nat) {res : Int32 × PF × PG} (C : cMC p R s m args c A v RX4 cX4_elements 8 304 18093 (xn res.2.1 - xn K0)) (hret : ∀ (b1 : Nat) (H1 : Heap) (locs1 : List Loc) (ls1 : Array Slot) (pc : Nat), cMW s A v a b1 K0 res.2.1 res.2.2 H1 locs1 → decode cX4_elements pc = .ok (.return_, 1) → W p l e R s m args below meth c H1 locs1 (xn res.2.1 - xn K0) (2 * (xn res.2.1 - xn K0)) Q (F0 m pc ls1 [])) : ∀ (n : Nat) (x1 : Int32) (x2 : Int32) (x3 : Int32) (x4 : Int32) (x5 : Int32) (F : PF) (G : PG) (hm : cl_X4_elements_19 fu n x1 x2 x3 x4 x5 F G = some res) {b : Nat} {H : Heap} {locs : List Loc} (hw : cMW s A v a b K0 F G H locs) {ls : Array Slot} (hl : lv_has ls 8 [(0, .ref (a 204)), (1, .int x1), (2, .int x2), (3, .int x3), (4, .int x4), (5, .int x5)]), W p l e R s m args below meth c H locs (xn F - xn K0) (2 * (xn F - xn K0)) Q (F0 m 19 ls []) := by
  intro n
  induction n with
  | zero =>
    intro x1 x2 x3 x4 x5 F G hm
    exact no_elim (show (none : PR) = some res from hm)
  | succ n ih =>
    intro x1 x2 x3 x4 x5 F G hm b H locs hw ls hl
    exact cw_X4_elements_19 fu C hret (cl_X4_elements_19 fu n) (fun x1 x2 x3 x4 x5 F G hm b H locs ls hw hl => ih x1 x2 x3 x4 x5 F G hm hw hl) (fun x1 x2 x3 x4 x5 F G hm => cnl_X4_elements_19 fu n x1 x2 x3 x4 x5 F G hm) x1 x2 x3 x4 x5 F G hm hw hl
theorem cn_X4_elements_13 (fu : Nat) {res : Int32 × PF × PG} (x1 : Int32) (x2 : Int32) (x3 : Int32) (F : PF) (G : PG) (hm : cb_X4_elements_13 fu x1 x2 x3 F G = some res) : xn F ≤ xn res.2.1 := by
  unfold cb_X4_elements_13 at hm
  exact (cnl_X4_elements_19 fu fu x1 x2 x3 1 0 F G hm)
theorem cw_X4_elements_13 (fu : Nat) {res : Int32 × PF × PG} (C : cMC p R s m args c A v RX4 cX4_elements 8 304 18093 (xn res.2.1 - xn K0)) (hret : ∀ (b1 : Nat) (H1 : Heap) (locs1 : List Loc) (ls1 : Array Slot) (pc : Nat), cMW s A v a b1 K0 res.2.1 res.2.2 H1 locs1 → decode cX4_elements pc = .ok (.return_, 1) → W p l e R s m args below meth c H1 locs1 (xn res.2.1 - xn K0) (2 * (xn res.2.1 - xn K0)) Q (F0 m pc ls1 [])) (x1 : Int32) (x2 : Int32) (x3 : Int32) (F : PF) (G : PG) (hm : cb_X4_elements_13 fu x1 x2 x3 F G = some res) {b : Nat} {H : Heap} {locs : List Loc} (hw : cMW s A v a b K0 F G H locs) {ls : Array Slot} (hl : lv_has ls 8 [(0, .ref (a 204)), (1, .int x1), (2, .int x2), (3, .int x3)]) : W p l e R s m args below meth c H locs (xn F - xn K0) (2 * (xn F - xn K0)) Q (F0 m 13 ls []) := by
  have hx := C.1
  have hb := C.2.1
  unfold cb_X4_elements_13 at hm
  refine lv_iconst (v := 1) hx hb dX4_elements_13 (by decide) ?_
  refine lv_istore (lv' := [(4, .int 1), (0, .ref (a 204)), (1, .int x1), (2, .int x2), (3, .int x3)]) hx hb dX4_elements_14 hl (by decide) rfl (fun ls hl => ?_)
  refine lv_iconst (v := 0) hx hb dX4_elements_16 (by decide) ?_
  refine lv_istore (lv' := [(5, .int 0), (4, .int 1), (0, .ref (a 204)), (1, .int x1), (2, .int x2), (3, .int x3)]) hx hb dX4_elements_17 hl (by decide) rfl (fun ls hl => ?_)
  exact cwl_X4_elements_19 fu C hret fu x1 x2 x3 1 0 F G hm hw (lv_sub hl [2, 3, 4, 5, 1, 0] rfl)
theorem cn_X4_elements_12 (fu : Nat) {res : Int32 × PF × PG} (F : PF) (G : PG) (hm : cb_X4_elements_12 fu F G = some res) : xn F ≤ xn res.2.1 := by
  unfold cb_X4_elements_12 at hm
  obtain rfl := Option.some.inj hm
  exact Nat.le_refl _
theorem cw_X4_elements_12 (fu : Nat) {res : Int32 × PF × PG} (C : cMC p R s m args c A v RX4 cX4_elements 8 304 18093 (xn res.2.1 - xn K0)) (hret : ∀ (b1 : Nat) (H1 : Heap) (locs1 : List Loc) (ls1 : Array Slot) (pc : Nat), cMW s A v a b1 K0 res.2.1 res.2.2 H1 locs1 → decode cX4_elements pc = .ok (.return_, 1) → W p l e R s m args below meth c H1 locs1 (xn res.2.1 - xn K0) (2 * (xn res.2.1 - xn K0)) Q (F0 m pc ls1 [])) (F : PF) (G : PG) (hm : cb_X4_elements_12 fu F G = some res) {b : Nat} {H : Heap} {locs : List Loc} (hw : cMW s A v a b K0 F G H locs) {ls : Array Slot} (hl : lv_has ls 8 []) : W p l e R s m args below meth c H locs (xn F - xn K0) (2 * (xn F - xn K0)) Q (F0 m 12 ls []) := by
  have hx := C.1
  have hb := C.2.1
  unfold cb_X4_elements_12 at hm
  obtain rfl := Option.some.inj hm
  exact hret _ _ _ _ _ hw dX4_elements_12
theorem cn_X4_elements_9 (fu : Nat) {res : Int32 × PF × PG} (x1 : Int32) (x2 : Int32) (x3 : Int32) (z0 : Int32) (F : PF) (G : PG) (hm : cb_X4_elements_9 fu x1 x2 x3 z0 F G = some res) : xn F ≤ xn res.2.1 := by
  unfold cb_X4_elements_9 at hm
  by_cases c_1 : z0 = (0 : Int32)
  · have hm := (if_pos c_1).symm.trans hm
    exact (cn_X4_elements_12 fu F G hm)
  · have hm := (if_neg c_1).symm.trans hm
    exact (cn_X4_elements_13 fu x1 x2 x3 F G hm)
theorem cw_X4_elements_9 (fu : Nat) {res : Int32 × PF × PG} (C : cMC p R s m args c A v RX4 cX4_elements 8 304 18093 (xn res.2.1 - xn K0)) (hret : ∀ (b1 : Nat) (H1 : Heap) (locs1 : List Loc) (ls1 : Array Slot) (pc : Nat), cMW s A v a b1 K0 res.2.1 res.2.2 H1 locs1 → decode cX4_elements pc = .ok (.return_, 1) → W p l e R s m args below meth c H1 locs1 (xn res.2.1 - xn K0) (2 * (xn res.2.1 - xn K0)) Q (F0 m pc ls1 [])) (x1 : Int32) (x2 : Int32) (x3 : Int32) (z0 : Int32) (F : PF) (G : PG) (hm : cb_X4_elements_9 fu x1 x2 x3 z0 F G = some res) {b : Nat} {H : Heap} {locs : List Loc} (hw : cMW s A v a b K0 F G H locs) {ls : Array Slot} (hl : lv_has ls 8 [(0, .ref (a 204)), (1, .int x1), (2, .int x2), (3, .int x3)]) : W p l e R s m args below meth c H locs (xn F - xn K0) (2 * (xn F - xn K0)) Q (F0 m 9 ls [.int z0]) := by
  have hx := C.1
  have hb := C.2.1
  unfold cb_X4_elements_9 at hm
  refine lv_if_ne (tgt := 13) hx hb dX4_elements_9 (by decide) (fun c_1 => ?_) (fun c_1 => ?_)
  · have hm := (if_neg c_1).symm.trans hm
    exact cw_X4_elements_13 fu C hret x1 x2 x3 F G hm hw (lv_sub hl [0, 1, 2, 3] rfl)
  · have hm := (if_pos c_1).symm.trans hm
    exact cw_X4_elements_12 fu C hret F G hm hw (lv_sub hl [] rfl)
theorem cn_X4_elements_0 (fu : Nat) {res : Int32 × PF × PG} (x1 : Int32) (x2 : Int32) (x3 : Int32) (F : PF) (G : PG) (hm : cb_X4_elements_0 fu x1 x2 x3 F G = some res) : xn F ≤ xn res.2.1 := by
  unfold cb_X4_elements_0 at hm
  obtain ⟨⟨r1, F1, G1⟩, hc, hm⟩ := bind_elim hm
  exact Nat.le_trans (cn_X2_opens fu 23 F G _ hc) (cn_X4_elements_9 fu x1 x2 x3 r1 F1 G1 hm)
theorem cw_X4_elements_0 (fu : Nat) {res : Int32 × PF × PG} (C : cMC p R s m args c A v RX4 cX4_elements 8 304 18093 (xn res.2.1 - xn K0)) (hret : ∀ (b1 : Nat) (H1 : Heap) (locs1 : List Loc) (ls1 : Array Slot) (pc : Nat), cMW s A v a b1 K0 res.2.1 res.2.2 H1 locs1 → decode cX4_elements pc = .ok (.return_, 1) → W p l e R s m args below meth c H1 locs1 (xn res.2.1 - xn K0) (2 * (xn res.2.1 - xn K0)) Q (F0 m pc ls1 [])) (x1 : Int32) (x2 : Int32) (x3 : Int32) (F : PF) (G : PG) (hm : cb_X4_elements_0 fu x1 x2 x3 F G = some res) {b : Nat} {H : Heap} {locs : List Loc} (hw : cMW s A v a b K0 F G H locs) {ls : Array Slot} (hl : lv_has ls 8 [(0, .ref (a 204)), (1, .int x1), (2, .int x2), (3, .int x3)]) : W p l e R s m args below meth c H locs (xn F - xn K0) (2 * (xn F - xn K0)) Q (F0 m 0 ls []) := by
  have hx := C.1
  have hb := C.2.1
  unfold cb_X4_elements_0 at hm
  refine lv_aload_n hx hb dX4_elements_0 rfl (lv_at hl 0 rfl) ?_
  refine cg_X4_9 C hw dX4_elements_1 ?_
  refine lv_bipush (v := 23) hx hb dX4_elements_4 (by decide) ?_
  obtain ⟨⟨r1, F1, G1⟩, hc, hm⟩ := bind_elim hm
  refine ccallI (n := 1) (As := [.int 23]) (rest := []) C hw (ck_X2_opens l v a _ _ fu 23 F G r1 F1 G1 hc) (cn_X2_opens fu 23 F G _ hc) (Nat.sub_le_sub_right (cn_X4_elements_9 fu x1 x2 x3 r1 F1 G1 hm) _) (crecv_X2 C hw) cm_623 cm_363 cm_364 cm_307 cm_365 (by decide +kernel) rfl (by omega) (by omega) hl.1 rfl (Nat.le_of_ble_eq_true rfl) dX4_elements_6 (fun b H locs hw => ?_)
  exact cw_X4_elements_9 fu C hret x1 x2 x3 r1 F1 G1 hm hw (lv_sub hl [0, 1, 2, 3] rfl)
theorem cn_X4_elements (fu : Nat) (x1 : Int32) (x2 : Int32) (x3 : Int32) (F : PF) (G : PG) (q : Int32 × PF × PG) (hm : cf_X4_elements fu x1 x2 x3 F G = some q) : xn F ≤ xn q.2.1 := cn_X4_elements_0 fu x1 x2 x3 F G hm
theorem ck_X4_elements (l : Launch) (v : EV) (a : Nat → Nat) (b sz : Nat) (fu : Nat) (x1 : Int32) (x2 : Int32) (x3 : Int32) (F : PF) (G : PG) (r : Int32) (F1 : PF) (G1 : PG) (hm : cf_X4_elements fu x1 x2 x3 F G = some (r, F1, G1)) : cMV l yX4_elements cX4_elements 8 304 18093 v a b sz [.ref (a 204), .int x1, .int x2, .int x3] F G F1 G1 := cMV.of (by decide) (Nat.le_of_ble_eq_true rfl) (fun p e R s m args below meth c Q A H locs ls C hw hl hret => cw_X4_elements_0 fu (res := (r, F1, G1)) C hret x1 x2 x3 F G hm hw hl)
def cb_X4_globalArray_76 (fu : Nat) (F : PF) (G : PG) : PR := some (0, F, G)
def cb_X4_globalArray_62 (fu : Nat) (x1 : Int32) (x2 : Int32) (x3 : Int32) (x4 : Int32) (x5 : Int32) (F : PF) (G : PG) : PR := (cf_X5_tell fu x1 x2 x3 x5 x4 F G).bind (fun q => cb_X4_globalArray_76 fu q.2.1 q.2.2)
def cb_X4_globalArray_53 (fu : Nat) (x1 : Int32) (x2 : Int32) (x3 : Int32) (x4 : Int32) (x5 : Int32) (F : PF) (G : PG) : PR := (cf_X2_expect fu 26 F G).bind (fun q => cb_X4_globalArray_62 fu x1 x2 x3 x4 x5 q.2.1 q.2.2)
def cb_X4_globalArray_44 (fu : Nat) (x1 : Int32) (x2 : Int32) (x3 : Int32) (x4 : Int32) (x5 : Int32) (F : PF) (G : PG) : PR := (cf_X4_elements fu x3 x5 x4 F G).bind (fun q => cb_X4_globalArray_53 fu x1 x2 x3 x4 x5 q.2.1 q.2.2)
def cb_X4_globalArray_37 (fu : Nat) (x1 : Int32) (x2 : Int32) (x3 : Int32) (x4 : Int32) (x5 : Int32) (F : PF) (G : PG) : PR := (cf_X2_next fu F G).bind (fun q => cb_X4_globalArray_44 fu x1 x2 x3 x4 x5 q.2.1 q.2.2)
def cb_X4_globalArray_23 (fu : Nat) (x1 : Int32) (x2 : Int32) (x3 : Int32) (x4 : Int32) (z0 : Int32) (F : PF) (G : PG) : PR := if (F 11) = (29 : Int32) then cb_X4_globalArray_37 fu x1 x2 x3 x4 z0 F G else cb_X4_globalArray_53 fu x1 x2 x3 x4 z0 F G
def cb_X4_globalArray_19 (fu : Nat) (x1 : Int32) (x2 : Int32) (x3 : Int32) (x4 : Int32) (z0 : Int32) (F : PF) (G : PG) : PR := (cf_X5_globalRoom fu z0 x2 F G).bind (fun q => cb_X4_globalArray_23 fu x1 x2 x3 x4 q.1 q.2.1 q.2.2)
def cb_X4_globalArray_7 (fu : Nat) (x1 : Int32) (x2 : Int32) (x3 : Int32) (z0 : Int32) (F : PF) (G : PG) : PR := (cf_X4_wordsOf fu x3 z0 F G).bind (fun q => cb_X4_globalArray_19 fu x1 x2 x3 z0 q.1 q.2.1 q.2.2)
def cb_X4_globalArray_0 (fu : Nat) (x1 : Int32) (x2 : Int32) (x3 : Int32) (F : PF) (G : PG) : PR := (cf_X3_arraySize fu F G).bind (fun q => cb_X4_globalArray_7 fu x1 x2 x3 q.1 q.2.1 q.2.2)
def cf_X4_globalArray (fu : Nat) (x1 : Int32) (x2 : Int32) (x3 : Int32) (F : PF) (G : PG) : PR := cb_X4_globalArray_0 fu x1 x2 x3 F G
theorem cn_X4_globalArray_76 (fu : Nat) {res : Int32 × PF × PG} (F : PF) (G : PG) (hm : cb_X4_globalArray_76 fu F G = some res) : xn F ≤ xn res.2.1 := by
  unfold cb_X4_globalArray_76 at hm
  obtain rfl := Option.some.inj hm
  exact Nat.le_refl _
theorem cw_X4_globalArray_76 (fu : Nat) {res : Int32 × PF × PG} (C : cMC p R s m args c A v RX4 cX4_globalArray 6 305 18120 (xn res.2.1 - xn K0)) (hret : ∀ (b1 : Nat) (H1 : Heap) (locs1 : List Loc) (ls1 : Array Slot) (pc : Nat), cMW s A v a b1 K0 res.2.1 res.2.2 H1 locs1 → decode cX4_globalArray pc = .ok (.return_, 1) → W p l e R s m args below meth c H1 locs1 (xn res.2.1 - xn K0) (2 * (xn res.2.1 - xn K0)) Q (F0 m pc ls1 [])) (F : PF) (G : PG) (hm : cb_X4_globalArray_76 fu F G = some res) {b : Nat} {H : Heap} {locs : List Loc} (hw : cMW s A v a b K0 F G H locs) {ls : Array Slot} (hl : lv_has ls 6 []) : W p l e R s m args below meth c H locs (xn F - xn K0) (2 * (xn F - xn K0)) Q (F0 m 76 ls []) := by
  have hx := C.1
  have hb := C.2.1
  unfold cb_X4_globalArray_76 at hm
  obtain rfl := Option.some.inj hm
  exact hret _ _ _ _ _ hw dX4_globalArray_76
theorem cn_X4_globalArray_62 (fu : Nat) {res : Int32 × PF × PG} (x1 : Int32) (x2 : Int32) (x3 : Int32) (x4 : Int32) (x5 : Int32) (F : PF) (G : PG) (hm : cb_X4_globalArray_62 fu x1 x2 x3 x4 x5 F G = some res) : xn F ≤ xn res.2.1 := by
  unfold cb_X4_globalArray_62 at hm
  obtain ⟨⟨r1, F1, G1⟩, hc, hm⟩ := bind_elim hm
  exact Nat.le_trans (cn_X5_tell fu x1 x2 x3 x5 x4 F G _ hc) (cn_X4_globalArray_76 fu F1 G1 hm)
theorem cw_X4_globalArray_62 (fu : Nat) {res : Int32 × PF × PG} (C : cMC p R s m args c A v RX4 cX4_globalArray 6 305 18120 (xn res.2.1 - xn K0)) (hret : ∀ (b1 : Nat) (H1 : Heap) (locs1 : List Loc) (ls1 : Array Slot) (pc : Nat), cMW s A v a b1 K0 res.2.1 res.2.2 H1 locs1 → decode cX4_globalArray pc = .ok (.return_, 1) → W p l e R s m args below meth c H1 locs1 (xn res.2.1 - xn K0) (2 * (xn res.2.1 - xn K0)) Q (F0 m pc ls1 [])) (x1 : Int32) (x2 : Int32) (x3 : Int32) (x4 : Int32) (x5 : Int32) (F : PF) (G : PG) (hm : cb_X4_globalArray_62 fu x1 x2 x3 x4 x5 F G = some res) {b : Nat} {H : Heap} {locs : List Loc} (hw : cMW s A v a b K0 F G H locs) {ls : Array Slot} (hl : lv_has ls 6 [(0, .ref (a 204)), (1, .int x1), (2, .int x2), (3, .int x3), (4, .int x4), (5, .int x5)]) : W p l e R s m args below meth c H locs (xn F - xn K0) (2 * (xn F - xn K0)) Q (F0 m 62 ls []) := by
  have hx := C.1
  have hb := C.2.1
  unfold cb_X4_globalArray_62 at hm
  refine lv_aload_n hx hb dX4_globalArray_62 rfl (lv_at hl 0 rfl) ?_
  refine cg_X4_15 C hw dX4_globalArray_63 ?_
  refine lv_iload_n hx hb dX4_globalArray_66 rfl (lv_at hl 1 rfl) ?_
  refine lv_iload_n hx hb dX4_globalArray_67 rfl (lv_at hl 2 rfl) ?_
  refine lv_iload_n hx hb dX4_globalArray_68 rfl (lv_at hl 3 rfl) ?_
  refine lv_iload hx hb dX4_globalArray_69 (lv_at hl 5 rfl) ?_
  refine lv_iload hx hb dX4_globalArray_71 (lv_at hl 4 rfl) ?_
  obtain ⟨⟨r1, F1, G1⟩, hc, hm⟩ := bind_elim hm
  refine ccallV (n := 5) (As := [.int x1, .int x2, .int x3, .int x5, .int x4]) (rest := []) C hw (ck_X5_tell l v a _ _ fu x1 x2 x3 x5 x4 F G r1 F1 G1 hc) (cn_X5_tell fu x1 x2 x3 x5 x4 F G _ hc) (Nat.sub_le_sub_right (cn_X4_globalArray_76 fu F1 G1 hm) _) (crecv_X5 C hw) cm_574 cm_575 cm_576 cm_266 cm_577 (by decide +kernel) rfl (by omega) (by omega) hl.1 rfl (Nat.le_of_ble_eq_true rfl) dX4_globalArray_73 (fun b H locs hw => ?_)
  exact cw_X4_globalArray_76 fu C hret F1 G1 hm hw (lv_sub hl [] rfl)
theorem cn_X4_globalArray_53 (fu : Nat) {res : Int32 × PF × PG} (x1 : Int32) (x2 : Int32) (x3 : Int32) (x4 : Int32) (x5 : Int32) (F : PF) (G : PG) (hm : cb_X4_globalArray_53 fu x1 x2 x3 x4 x5 F G = some res) : xn F ≤ xn res.2.1 := by
  unfold cb_X4_globalArray_53 at hm
  obtain ⟨⟨r1, F1, G1⟩, hc, hm⟩ := bind_elim hm
  exact Nat.le_trans (cn_X2_expect fu 26 F G _ hc) (cn_X4_globalArray_62 fu x1 x2 x3 x4 x5 F1 G1 hm)
theorem cw_X4_globalArray_53 (fu : Nat) {res : Int32 × PF × PG} (C : cMC p R s m args c A v RX4 cX4_globalArray 6 305 18120 (xn res.2.1 - xn K0)) (hret : ∀ (b1 : Nat) (H1 : Heap) (locs1 : List Loc) (ls1 : Array Slot) (pc : Nat), cMW s A v a b1 K0 res.2.1 res.2.2 H1 locs1 → decode cX4_globalArray pc = .ok (.return_, 1) → W p l e R s m args below meth c H1 locs1 (xn res.2.1 - xn K0) (2 * (xn res.2.1 - xn K0)) Q (F0 m pc ls1 [])) (x1 : Int32) (x2 : Int32) (x3 : Int32) (x4 : Int32) (x5 : Int32) (F : PF) (G : PG) (hm : cb_X4_globalArray_53 fu x1 x2 x3 x4 x5 F G = some res) {b : Nat} {H : Heap} {locs : List Loc} (hw : cMW s A v a b K0 F G H locs) {ls : Array Slot} (hl : lv_has ls 6 [(0, .ref (a 204)), (1, .int x1), (2, .int x2), (3, .int x3), (4, .int x4), (5, .int x5)]) : W p l e R s m args below meth c H locs (xn F - xn K0) (2 * (xn F - xn K0)) Q (F0 m 53 ls []) := by
  have hx := C.1
  have hb := C.2.1
  unfold cb_X4_globalArray_53 at hm
  refine lv_aload_n hx hb dX4_globalArray_53 rfl (lv_at hl 0 rfl) ?_
  refine cg_X4_9 C hw dX4_globalArray_54 ?_
  refine lv_bipush (v := 26) hx hb dX4_globalArray_57 (by decide) ?_
  obtain ⟨⟨r1, F1, G1⟩, hc, hm⟩ := bind_elim hm
  refine ccallV (n := 1) (As := [.int 26]) (rest := []) C hw (ck_X2_expect l v a _ _ fu 26 F G r1 F1 G1 hc) (cn_X2_expect fu 26 F G _ hc) (Nat.sub_le_sub_right (cn_X4_globalArray_62 fu x1 x2 x3 x4 x5 F1 G1 hm) _) (crecv_X2 C hw) cm_332 cm_333 cm_334 cm_307 cm_335 (by decide +kernel) rfl (by omega) (by omega) hl.1 rfl (Nat.le_of_ble_eq_true rfl) dX4_globalArray_59 (fun b H locs hw => ?_)
  exact cw_X4_globalArray_62 fu C hret x1 x2 x3 x4 x5 F1 G1 hm hw (lv_sub hl [0, 1, 2, 3, 4, 5] rfl)
theorem cn_X4_globalArray_44 (fu : Nat) {res : Int32 × PF × PG} (x1 : Int32) (x2 : Int32) (x3 : Int32) (x4 : Int32) (x5 : Int32) (F : PF) (G : PG) (hm : cb_X4_globalArray_44 fu x1 x2 x3 x4 x5 F G = some res) : xn F ≤ xn res.2.1 := by
  unfold cb_X4_globalArray_44 at hm
  obtain ⟨⟨r1, F1, G1⟩, hc, hm⟩ := bind_elim hm
  exact Nat.le_trans (cn_X4_elements fu x3 x5 x4 F G _ hc) (cn_X4_globalArray_53 fu x1 x2 x3 x4 x5 F1 G1 hm)
theorem cw_X4_globalArray_44 (fu : Nat) {res : Int32 × PF × PG} (C : cMC p R s m args c A v RX4 cX4_globalArray 6 305 18120 (xn res.2.1 - xn K0)) (hret : ∀ (b1 : Nat) (H1 : Heap) (locs1 : List Loc) (ls1 : Array Slot) (pc : Nat), cMW s A v a b1 K0 res.2.1 res.2.2 H1 locs1 → decode cX4_globalArray pc = .ok (.return_, 1) → W p l e R s m args below meth c H1 locs1 (xn res.2.1 - xn K0) (2 * (xn res.2.1 - xn K0)) Q (F0 m pc ls1 [])) (x1 : Int32) (x2 : Int32) (x3 : Int32) (x4 : Int32) (x5 : Int32) (F : PF) (G : PG) (hm : cb_X4_globalArray_44 fu x1 x2 x3 x4 x5 F G = some res) {b : Nat} {H : Heap} {locs : List Loc} (hw : cMW s A v a b K0 F G H locs) {ls : Array Slot} (hl : lv_has ls 6 [(0, .ref (a 204)), (1, .int x1), (2, .int x2), (3, .int x3), (4, .int x4), (5, .int x5)]) : W p l e R s m args below meth c H locs (xn F - xn K0) (2 * (xn F - xn K0)) Q (F0 m 44 ls []) := by
  have hx := C.1
  have hb := C.2.1
  unfold cb_X4_globalArray_44 at hm
  refine lv_aload_n hx hb dX4_globalArray_44 rfl (lv_at hl 0 rfl) ?_
  refine lv_iload_n hx hb dX4_globalArray_45 rfl (lv_at hl 3 rfl) ?_
  refine lv_iload hx hb dX4_globalArray_46 (lv_at hl 5 rfl) ?_
  refine lv_iload hx hb dX4_globalArray_48 (lv_at hl 4 rfl) ?_
  obtain ⟨⟨r1, F1, G1⟩, hc, hm⟩ := bind_elim hm
  refine ccallV (n := 3) (As := [.int x3, .int x5, .int x4]) (rest := []) C hw (ck_X4_elements l v a _ _ fu x3 x5 x4 F G r1 F1 G1 hc) (cn_X4_elements fu x3 x5 x4 F G _ hc) (Nat.sub_le_sub_right (cn_X4_globalArray_53 fu x1 x2 x3 x4 x5 F1 G1 hm) _) (crecv_X4 C hw) cm_771 cm_772 cm_773 cm_244 cm_774 (by decide +kernel) rfl (by omega) (by omega) hl.1 rfl (Nat.le_of_ble_eq_true rfl) dX4_globalArray_50 (fun b H locs hw => ?_)
  exact cw_X4_globalArray_53 fu C hret x1 x2 x3 x4 x5 F1 G1 hm hw (lv_sub hl [0, 1, 2, 3, 4, 5] rfl)
theorem cn_X4_globalArray_37 (fu : Nat) {res : Int32 × PF × PG} (x1 : Int32) (x2 : Int32) (x3 : Int32) (x4 : Int32) (x5 : Int32) (F : PF) (G : PG) (hm : cb_X4_globalArray_37 fu x1 x2 x3 x4 x5 F G = some res) : xn F ≤ xn res.2.1 := by
  unfold cb_X4_globalArray_37 at hm
  obtain ⟨⟨r1, F1, G1⟩, hc, hm⟩ := bind_elim hm
  exact Nat.le_trans (cn_X2_next fu F G _ hc) (cn_X4_globalArray_44 fu x1 x2 x3 x4 x5 F1 G1 hm)
theorem cw_X4_globalArray_37 (fu : Nat) {res : Int32 × PF × PG} (C : cMC p R s m args c A v RX4 cX4_globalArray 6 305 18120 (xn res.2.1 - xn K0)) (hret : ∀ (b1 : Nat) (H1 : Heap) (locs1 : List Loc) (ls1 : Array Slot) (pc : Nat), cMW s A v a b1 K0 res.2.1 res.2.2 H1 locs1 → decode cX4_globalArray pc = .ok (.return_, 1) → W p l e R s m args below meth c H1 locs1 (xn res.2.1 - xn K0) (2 * (xn res.2.1 - xn K0)) Q (F0 m pc ls1 [])) (x1 : Int32) (x2 : Int32) (x3 : Int32) (x4 : Int32) (x5 : Int32) (F : PF) (G : PG) (hm : cb_X4_globalArray_37 fu x1 x2 x3 x4 x5 F G = some res) {b : Nat} {H : Heap} {locs : List Loc} (hw : cMW s A v a b K0 F G H locs) {ls : Array Slot} (hl : lv_has ls 6 [(0, .ref (a 204)), (1, .int x1), (2, .int x2), (3, .int x3), (4, .int x4), (5, .int x5)]) : W p l e R s m args below meth c H locs (xn F - xn K0) (2 * (xn F - xn K0)) Q (F0 m 37 ls []) := by
  have hx := C.1
  have hb := C.2.1
  unfold cb_X4_globalArray_37 at hm
  refine lv_aload_n hx hb dX4_globalArray_37 rfl (lv_at hl 0 rfl) ?_
  refine cg_X4_9 C hw dX4_globalArray_38 ?_
  obtain ⟨⟨r1, F1, G1⟩, hc, hm⟩ := bind_elim hm
  refine ccallV (n := 0) (As := []) (rest := []) C hw (ck_X2_next l v a _ _ fu F G r1 F1 G1 hc) (cn_X2_next fu F G _ hc) (Nat.sub_le_sub_right (cn_X4_globalArray_44 fu x1 x2 x3 x4 x5 F1 G1 hm) _) (crecv_X2 C hw) cm_320 cm_321 cm_322 cm_307 cm_323 (by decide +kernel) rfl (by omega) (by omega) hl.1 rfl (Nat.le_of_ble_eq_true rfl) dX4_globalArray_41 (fun b H locs hw => ?_)
  exact cw_X4_globalArray_44 fu C hret x1 x2 x3 x4 x5 F1 G1 hm hw (lv_sub hl [0, 1, 2, 3, 4, 5] rfl)
theorem cn_X4_globalArray_23 (fu : Nat) {res : Int32 × PF × PG} (x1 : Int32) (x2 : Int32) (x3 : Int32) (x4 : Int32) (z0 : Int32) (F : PF) (G : PG) (hm : cb_X4_globalArray_23 fu x1 x2 x3 x4 z0 F G = some res) : xn F ≤ xn res.2.1 := by
  unfold cb_X4_globalArray_23 at hm
  by_cases c_1 : (F 11) = (29 : Int32)
  · have hm := (if_pos c_1).symm.trans hm
    exact (cn_X4_globalArray_37 fu x1 x2 x3 x4 z0 F G hm)
  · have hm := (if_neg c_1).symm.trans hm
    exact (cn_X4_globalArray_53 fu x1 x2 x3 x4 z0 F G hm)
theorem cw_X4_globalArray_23 (fu : Nat) {res : Int32 × PF × PG} (C : cMC p R s m args c A v RX4 cX4_globalArray 6 305 18120 (xn res.2.1 - xn K0)) (hret : ∀ (b1 : Nat) (H1 : Heap) (locs1 : List Loc) (ls1 : Array Slot) (pc : Nat), cMW s A v a b1 K0 res.2.1 res.2.2 H1 locs1 → decode cX4_globalArray pc = .ok (.return_, 1) → W p l e R s m args below meth c H1 locs1 (xn res.2.1 - xn K0) (2 * (xn res.2.1 - xn K0)) Q (F0 m pc ls1 [])) (x1 : Int32) (x2 : Int32) (x3 : Int32) (x4 : Int32) (z0 : Int32) (F : PF) (G : PG) (hm : cb_X4_globalArray_23 fu x1 x2 x3 x4 z0 F G = some res) {b : Nat} {H : Heap} {locs : List Loc} (hw : cMW s A v a b K0 F G H locs) {ls : Array Slot} (hl : lv_has ls 6 [(0, .ref (a 204)), (1, .int x1), (2, .int x2), (3, .int x3), (4, .int x4)]) : W p l e R s m args below meth c H locs (xn F - xn K0) (2 * (xn F - xn K0)) Q (F0 m 23 ls [.int z0]) := by
  have hx := C.1
  have hb := C.2.1
  unfold cb_X4_globalArray_23 at hm
  refine lv_istore (lv' := [(5, .int z0), (0, .ref (a 204)), (1, .int x1), (2, .int x2), (3, .int x3), (4, .int x4)]) hx hb dX4_globalArray_23 hl (by decide) rfl (fun ls hl => ?_)
  refine lv_aload_n hx hb dX4_globalArray_25 rfl (lv_at hl 1 rfl) ?_
  refine cg_X4_9 C hw dX4_globalArray_26 ?_
  refine cg_X4_52 C hw dX4_globalArray_29 ?_
  refine lv_bipush (v := 29) hx hb dX4_globalArray_32 (by decide) ?_
  refine lv_icmp_ne (tgt := 53) hx hb dX4_globalArray_34 (by decide) (fun c_1 => ?_) (fun c_1 => ?_)
  · have hm := (if_neg c_1).symm.trans hm
    exact cw_X4_globalArray_53 fu C hret x1 x2 x3 x4 z0 F G hm hw (lv_sub hl [1, 2, 3, 4, 5, 0] rfl)
  · have hm := (if_pos c_1).symm.trans hm
    exact cw_X4_globalArray_37 fu C hret x1 x2 x3 x4 z0 F G hm hw (lv_sub hl [1, 2, 3, 4, 5, 0] rfl)
theorem cn_X4_globalArray_19 (fu : Nat) {res : Int32 × PF × PG} (x1 : Int32) (x2 : Int32) (x3 : Int32) (x4 : Int32) (z0 : Int32) (F : PF) (G : PG) (hm : cb_X4_globalArray_19 fu x1 x2 x3 x4 z0 F G = some res) : xn F ≤ xn res.2.1 := by
  unfold cb_X4_globalArray_19 at hm
  obtain ⟨⟨r1, F1, G1⟩, hc, hm⟩ := bind_elim hm
  exact Nat.le_trans (cn_X5_globalRoom fu z0 x2 F G _ hc) (cn_X4_globalArray_23 fu x1 x2 x3 x4 r1 F1 G1 hm)
theorem cw_X4_globalArray_19 (fu : Nat) {res : Int32 × PF × PG} (C : cMC p R s m args c A v RX4 cX4_globalArray 6 305 18120 (xn res.2.1 - xn K0)) (hret : ∀ (b1 : Nat) (H1 : Heap) (locs1 : List Loc) (ls1 : Array Slot) (pc : Nat), cMW s A v a b1 K0 res.2.1 res.2.2 H1 locs1 → decode cX4_globalArray pc = .ok (.return_, 1) → W p l e R s m args below meth c H1 locs1 (xn res.2.1 - xn K0) (2 * (xn res.2.1 - xn K0)) Q (F0 m pc ls1 [])) (x1 : Int32) (x2 : Int32) (x3 : Int32) (x4 : Int32) (z0 : Int32) (F : PF) (G : PG) (hm : cb_X4_globalArray_19 fu x1 x2 x3 x4 z0 F G = some res) {b : Nat} {H : Heap} {locs : List Loc} (hw : cMW s A v a b K0 F G H locs) {ls : Array Slot} (hl : lv_has ls 6 [(0, .ref (a 204)), (1, .int x1), (2, .int x2), (3, .int x3), (4, .int x4)]) : W p l e R s m args below meth c H locs (xn F - xn K0) (2 * (xn F - xn K0)) Q (F0 m 19 ls [.int z0, .ref (a 205)]) := by
  have hx := C.1
  have hb := C.2.1
  unfold cb_X4_globalArray_19 at hm
  refine lv_iload_n hx hb dX4_globalArray_19 rfl (lv_at hl 2 rfl) ?_
  obtain ⟨⟨r1, F1, G1⟩, hc, hm⟩ := bind_elim hm
  refine ccallI (n := 2) (As := [.int z0, .int x2]) (rest := []) C hw (ck_X5_globalRoom l v a _ _ fu z0 x2 F G r1 F1 G1 hc) (cn_X5_globalRoom fu z0 x2 F G _ hc) (Nat.sub_le_sub_right (cn_X4_globalArray_23 fu x1 x2 x3 x4 r1 F1 G1 hm) _) (crecv_X5 C hw) cm_766 cm_767 cm_768 cm_266 cm_769 (by decide +kernel) rfl (by omega) (by omega) hl.1 rfl (Nat.le_of_ble_eq_true rfl) dX4_globalArray_20 (fun b H locs hw => ?_)
  exact cw_X4_globalArray_23 fu C hret x1 x2 x3 x4 r1 F1 G1 hm hw (lv_sub hl [0, 1, 2, 3, 4] rfl)
theorem cn_X4_globalArray_7 (fu : Nat) {res : Int32 × PF × PG} (x1 : Int32) (x2 : Int32) (x3 : Int32) (z0 : Int32) (F : PF) (G : PG) (hm : cb_X4_globalArray_7 fu x1 x2 x3 z0 F G = some res) : xn F ≤ xn res.2.1 := by
  unfold cb_X4_globalArray_7 at hm
  obtain ⟨⟨r1, F1, G1⟩, hc, hm⟩ := bind_elim hm
  exact Nat.le_trans (cn_X4_wordsOf fu x3 z0 F G _ hc) (cn_X4_globalArray_19 fu x1 x2 x3 z0 r1 F1 G1 hm)
theorem cw_X4_globalArray_7 (fu : Nat) {res : Int32 × PF × PG} (C : cMC p R s m args c A v RX4 cX4_globalArray 6 305 18120 (xn res.2.1 - xn K0)) (hret : ∀ (b1 : Nat) (H1 : Heap) (locs1 : List Loc) (ls1 : Array Slot) (pc : Nat), cMW s A v a b1 K0 res.2.1 res.2.2 H1 locs1 → decode cX4_globalArray pc = .ok (.return_, 1) → W p l e R s m args below meth c H1 locs1 (xn res.2.1 - xn K0) (2 * (xn res.2.1 - xn K0)) Q (F0 m pc ls1 [])) (x1 : Int32) (x2 : Int32) (x3 : Int32) (z0 : Int32) (F : PF) (G : PG) (hm : cb_X4_globalArray_7 fu x1 x2 x3 z0 F G = some res) {b : Nat} {H : Heap} {locs : List Loc} (hw : cMW s A v a b K0 F G H locs) {ls : Array Slot} (hl : lv_has ls 6 [(0, .ref (a 204)), (1, .int x1), (2, .int x2), (3, .int x3)]) : W p l e R s m args below meth c H locs (xn F - xn K0) (2 * (xn F - xn K0)) Q (F0 m 7 ls [.int z0]) := by
  have hx := C.1
  have hb := C.2.1
  unfold cb_X4_globalArray_7 at hm
  refine lv_istore (lv' := [(4, .int z0), (0, .ref (a 204)), (1, .int x1), (2, .int x2), (3, .int x3)]) hx hb dX4_globalArray_7 hl (by decide) rfl (fun ls hl => ?_)
  refine lv_aload_n hx hb dX4_globalArray_9 rfl (lv_at hl 1 rfl) ?_
  refine cg_X4_15 C hw dX4_globalArray_10 ?_
  refine lv_iload_n hx hb dX4_globalArray_13 rfl (lv_at hl 4 rfl) ?_
  refine lv_iload hx hb dX4_globalArray_14 (lv_at hl 0 rfl) ?_
  obtain ⟨⟨r1, F1, G1⟩, hc, hm⟩ := bind_elim hm
  refine ccallIS (n := 2) (As := [.int x3, .int z0]) (rest := [.ref (a 205)]) C hw (ck_X4_wordsOf l v a _ _ fu x3 z0 F G r1 F1 G1 hc) (cn_X4_wordsOf fu x3 z0 F G _ hc) (Nat.sub_le_sub_right (cn_X4_globalArray_19 fu x1 x2 x3 z0 r1 F1 G1 hm) _) cm_680 cm_681 cm_244 cm_682 (by decide +kernel) rfl (by omega) (by omega) hl.1 rfl (Nat.le_of_ble_eq_true rfl) dX4_globalArray_16 (fun b H locs hw => ?_)
  exact cw_X4_globalArray_19 fu C hret x1 x2 x3 z0 r1 F1 G1 hm hw (lv_sub hl [1, 2, 3, 4, 0] rfl)
theorem cn_X4_globalArray_0 (fu : Nat) {res : Int32 × PF × PG} (x1 : Int32) (x2 : Int32) (x3 : Int32) (F : PF) (G : PG) (hm : cb_X4_globalArray_0 fu x1 x2 x3 F G = some res) : xn F ≤ xn res.2.1 := by
  unfold cb_X4_globalArray_0 at hm
  obtain ⟨⟨r1, F1, G1⟩, hc, hm⟩ := bind_elim hm
  exact Nat.le_trans (cn_X3_arraySize fu F G _ hc) (cn_X4_globalArray_7 fu x1 x2 x3 r1 F1 G1 hm)
theorem cw_X4_globalArray_0 (fu : Nat) {res : Int32 × PF × PG} (C : cMC p R s m args c A v RX4 cX4_globalArray 6 305 18120 (xn res.2.1 - xn K0)) (hret : ∀ (b1 : Nat) (H1 : Heap) (locs1 : List Loc) (ls1 : Array Slot) (pc : Nat), cMW s A v a b1 K0 res.2.1 res.2.2 H1 locs1 → decode cX4_globalArray pc = .ok (.return_, 1) → W p l e R s m args below meth c H1 locs1 (xn res.2.1 - xn K0) (2 * (xn res.2.1 - xn K0)) Q (F0 m pc ls1 [])) (x1 : Int32) (x2 : Int32) (x3 : Int32) (F : PF) (G : PG) (hm : cb_X4_globalArray_0 fu x1 x2 x3 F G = some res) {b : Nat} {H : Heap} {locs : List Loc} (hw : cMW s A v a b K0 F G H locs) {ls : Array Slot} (hl : lv_has ls 6 [(0, .ref (a 204)), (1, .int x1), (2, .int x2), (3, .int x3)]) : W p l e R s m args below meth c H locs (xn F - xn K0) (2 * (xn F - xn K0)) Q (F0 m 0 ls []) := by
  have hx := C.1
  have hb := C.2.1
  unfold cb_X4_globalArray_0 at hm
  refine lv_aload_n hx hb dX4_globalArray_0 rfl (lv_at hl 0 rfl) ?_
  refine cg_X4_27 C hw dX4_globalArray_1 ?_
  obtain ⟨⟨r1, F1, G1⟩, hc, hm⟩ := bind_elim hm
  refine ccallI (n := 0) (As := []) (rest := []) C hw (ck_X3_arraySize l v a _ _ fu F G r1 F1 G1 hc) (cn_X3_arraySize fu F G _ hc) (Nat.sub_le_sub_right (cn_X4_globalArray_7 fu x1 x2 x3 r1 F1 G1 hm) _) (crecv_X3 C hw) cm_668 cm_669 cm_670 cm_301 cm_671 (by decide +kernel) rfl (by omega) (by omega) hl.1 rfl (Nat.le_of_ble_eq_true rfl) dX4_globalArray_4 (fun b H locs hw => ?_)
  exact cw_X4_globalArray_7 fu C hret x1 x2 x3 r1 F1 G1 hm hw (lv_sub hl [0, 1, 2, 3] rfl)
theorem cn_X4_globalArray (fu : Nat) (x1 : Int32) (x2 : Int32) (x3 : Int32) (F : PF) (G : PG) (q : Int32 × PF × PG) (hm : cf_X4_globalArray fu x1 x2 x3 F G = some q) : xn F ≤ xn q.2.1 := cn_X4_globalArray_0 fu x1 x2 x3 F G hm
theorem ck_X4_globalArray (l : Launch) (v : EV) (a : Nat → Nat) (b sz : Nat) (fu : Nat) (x1 : Int32) (x2 : Int32) (x3 : Int32) (F : PF) (G : PG) (r : Int32) (F1 : PF) (G1 : PG) (hm : cf_X4_globalArray fu x1 x2 x3 F G = some (r, F1, G1)) : cMV l yX4_globalArray cX4_globalArray 6 305 18120 v a b sz [.ref (a 204), .int x1, .int x2, .int x3] F G F1 G1 := cMV.of (by decide) (Nat.le_of_ble_eq_true rfl) (fun p e R s m args below meth c Q A H locs ls C hw hl hret => cw_X4_globalArray_0 fu (res := (r, F1, G1)) C hret x1 x2 x3 F G hm hw hl)
def cb_X4_kindWord_46 (fu : Nat) (x2 : Int32) (F : PF) (G : PG) : PR := some (x2, F, G)
def cb_X4_kindWord_35 (fu : Nat) (x2 : Int32) (F : PF) (G : PG) : PR := cb_X4_kindWord_46 fu x2 F G
def cb_X4_kindWord_28 (fu : Nat) (x2 : Int32) (F : PF) (G : PG) : PR := (cf_X2_next fu F G).bind (fun q => cb_X4_kindWord_35 fu x2 q.2.1 q.2.2)
def cb_X4_kindWord_38 (fu : Nat) (x2 : Int32) (F : PF) (G : PG) : PR := (cf_X2_fail fu 2 F G).bind (fun q => cb_X4_kindWord_46 fu x2 q.2.1 q.2.2)
def cb_X4_kindWord_22 (fu : Nat) (x2 : Int32) (F : PF) (G : PG) : PR := if x2 = (6 : Int32) then cb_X4_kindWord_28 fu x2 F G else cb_X4_kindWord_38 fu x2 F G
def cb_X4_kindWord_17 (fu : Nat) (x2 : Int32) (F : PF) (G : PG) : PR := if x2 = (5 : Int32) then cb_X4_kindWord_28 fu x2 F G else cb_X4_kindWord_22 fu x2 F G
def cb_X4_kindWord_13 (fu : Nat) (x1 : Int32) (x2 : Int32) (F : PF) (G : PG) : PR := if x1 = (0 : Int32) then cb_X4_kindWord_17 fu x2 F G else cb_X4_kindWord_38 fu x2 F G
def cb_X4_kindWord_0 (fu : Nat) (x1 : Int32) (F : PF) (G : PG) : PR := if (F 11) = (4 : Int32) then cb_X4_kindWord_28 fu (F 11) F G else cb_X4_kindWord_13 fu x1 (F 11) F G
def cf_X4_kindWord (fu : Nat) (x1 : Int32) (F : PF) (G : PG) : PR := cb_X4_kindWord_0 fu x1 F G
theorem cn_X4_kindWord_46 (fu : Nat) {res : Int32 × PF × PG} (x2 : Int32) (F : PF) (G : PG) (hm : cb_X4_kindWord_46 fu x2 F G = some res) : xn F ≤ xn res.2.1 := by
  unfold cb_X4_kindWord_46 at hm
  obtain rfl := Option.some.inj hm
  exact Nat.le_refl _
theorem cw_X4_kindWord_46 (fu : Nat) {res : Int32 × PF × PG} (C : cMC p R s m args c A v RX4 cX4_kindWord 3 2 41 (xn res.2.1 - xn K0)) (hret : ∀ (b1 : Nat) (H1 : Heap) (locs1 : List Loc) (ls1 : Array Slot) (pc : Nat), cMW s A v a b1 K0 res.2.1 res.2.2 H1 locs1 → narrow .int (.int res.1) = .int res.1 → decode cX4_kindWord pc = .ok (.ireturn, 1) → W p l e R s m args below meth c H1 locs1 (xn res.2.1 - xn K0) (2 * (xn res.2.1 - xn K0)) Q (F0 m pc ls1 [.int res.1])) (x2 : Int32) (F : PF) (G : PG) (hm : cb_X4_kindWord_46 fu x2 F G = some res) {b : Nat} {H : Heap} {locs : List Loc} (hw : cMW s A v a b K0 F G H locs) {ls : Array Slot} (hl : lv_has ls 3 [(2, .int x2)]) : W p l e R s m args below meth c H locs (xn F - xn K0) (2 * (xn F - xn K0)) Q (F0 m 46 ls []) := by
  have hx := C.1
  have hb := C.2.1
  unfold cb_X4_kindWord_46 at hm
  refine lv_iload_n hx hb dX4_kindWord_46 rfl (lv_at hl 0 rfl) ?_
  obtain rfl := Option.some.inj hm
  exact hret _ _ _ _ _ hw rfl dX4_kindWord_47
theorem cn_X4_kindWord_35 (fu : Nat) {res : Int32 × PF × PG} (x2 : Int32) (F : PF) (G : PG) (hm : cb_X4_kindWord_35 fu x2 F G = some res) : xn F ≤ xn res.2.1 := by
  unfold cb_X4_kindWord_35 at hm
  exact (cn_X4_kindWord_46 fu x2 F G hm)
theorem cw_X4_kindWord_35 (fu : Nat) {res : Int32 × PF × PG} (C : cMC p R s m args c A v RX4 cX4_kindWord 3 2 41 (xn res.2.1 - xn K0)) (hret : ∀ (b1 : Nat) (H1 : Heap) (locs1 : List Loc) (ls1 : Array Slot) (pc : Nat), cMW s A v a b1 K0 res.2.1 res.2.2 H1 locs1 → narrow .int (.int res.1) = .int res.1 → decode cX4_kindWord pc = .ok (.ireturn, 1) → W p l e R s m args below meth c H1 locs1 (xn res.2.1 - xn K0) (2 * (xn res.2.1 - xn K0)) Q (F0 m pc ls1 [.int res.1])) (x2 : Int32) (F : PF) (G : PG) (hm : cb_X4_kindWord_35 fu x2 F G = some res) {b : Nat} {H : Heap} {locs : List Loc} (hw : cMW s A v a b K0 F G H locs) {ls : Array Slot} (hl : lv_has ls 3 [(2, .int x2)]) : W p l e R s m args below meth c H locs (xn F - xn K0) (2 * (xn F - xn K0)) Q (F0 m 35 ls []) := by
  have hx := C.1
  have hb := C.2.1
  unfold cb_X4_kindWord_35 at hm
  refine lv_goto (tgt := 46) hx hb dX4_kindWord_35 (by decide) ?_
  exact cw_X4_kindWord_46 fu C hret x2 F G hm hw (lv_sub hl [0] rfl)
theorem cn_X4_kindWord_28 (fu : Nat) {res : Int32 × PF × PG} (x2 : Int32) (F : PF) (G : PG) (hm : cb_X4_kindWord_28 fu x2 F G = some res) : xn F ≤ xn res.2.1 := by
  unfold cb_X4_kindWord_28 at hm
  obtain ⟨⟨r1, F1, G1⟩, hc, hm⟩ := bind_elim hm
  exact Nat.le_trans (cn_X2_next fu F G _ hc) (cn_X4_kindWord_35 fu x2 F1 G1 hm)
theorem cw_X4_kindWord_28 (fu : Nat) {res : Int32 × PF × PG} (C : cMC p R s m args c A v RX4 cX4_kindWord 3 2 41 (xn res.2.1 - xn K0)) (hret : ∀ (b1 : Nat) (H1 : Heap) (locs1 : List Loc) (ls1 : Array Slot) (pc : Nat), cMW s A v a b1 K0 res.2.1 res.2.2 H1 locs1 → narrow .int (.int res.1) = .int res.1 → decode cX4_kindWord pc = .ok (.ireturn, 1) → W p l e R s m args below meth c H1 locs1 (xn res.2.1 - xn K0) (2 * (xn res.2.1 - xn K0)) Q (F0 m pc ls1 [.int res.1])) (x2 : Int32) (F : PF) (G : PG) (hm : cb_X4_kindWord_28 fu x2 F G = some res) {b : Nat} {H : Heap} {locs : List Loc} (hw : cMW s A v a b K0 F G H locs) {ls : Array Slot} (hl : lv_has ls 3 [(0, .ref (a 204)), (2, .int x2)]) : W p l e R s m args below meth c H locs (xn F - xn K0) (2 * (xn F - xn K0)) Q (F0 m 28 ls []) := by
  have hx := C.1
  have hb := C.2.1
  unfold cb_X4_kindWord_28 at hm
  refine lv_aload_n hx hb dX4_kindWord_28 rfl (lv_at hl 0 rfl) ?_
  refine cg_X4_9 C hw dX4_kindWord_29 ?_
  obtain ⟨⟨r1, F1, G1⟩, hc, hm⟩ := bind_elim hm
  refine ccallV (n := 0) (As := []) (rest := []) C hw (ck_X2_next l v a _ _ fu F G r1 F1 G1 hc) (cn_X2_next fu F G _ hc) (Nat.sub_le_sub_right (cn_X4_kindWord_35 fu x2 F1 G1 hm) _) (crecv_X2 C hw) cm_320 cm_321 cm_322 cm_307 cm_323 (by decide +kernel) rfl (by omega) (by omega) hl.1 rfl (Nat.le_of_ble_eq_true rfl) dX4_kindWord_32 (fun b H locs hw => ?_)
  exact cw_X4_kindWord_35 fu C hret x2 F1 G1 hm hw (lv_sub hl [1] rfl)
theorem cn_X4_kindWord_38 (fu : Nat) {res : Int32 × PF × PG} (x2 : Int32) (F : PF) (G : PG) (hm : cb_X4_kindWord_38 fu x2 F G = some res) : xn F ≤ xn res.2.1 := by
  unfold cb_X4_kindWord_38 at hm
  obtain ⟨⟨r1, F1, G1⟩, hc, hm⟩ := bind_elim hm
  exact Nat.le_trans (cn_X2_fail fu 2 F G _ hc) (cn_X4_kindWord_46 fu x2 F1 G1 hm)
theorem cw_X4_kindWord_38 (fu : Nat) {res : Int32 × PF × PG} (C : cMC p R s m args c A v RX4 cX4_kindWord 3 2 41 (xn res.2.1 - xn K0)) (hret : ∀ (b1 : Nat) (H1 : Heap) (locs1 : List Loc) (ls1 : Array Slot) (pc : Nat), cMW s A v a b1 K0 res.2.1 res.2.2 H1 locs1 → narrow .int (.int res.1) = .int res.1 → decode cX4_kindWord pc = .ok (.ireturn, 1) → W p l e R s m args below meth c H1 locs1 (xn res.2.1 - xn K0) (2 * (xn res.2.1 - xn K0)) Q (F0 m pc ls1 [.int res.1])) (x2 : Int32) (F : PF) (G : PG) (hm : cb_X4_kindWord_38 fu x2 F G = some res) {b : Nat} {H : Heap} {locs : List Loc} (hw : cMW s A v a b K0 F G H locs) {ls : Array Slot} (hl : lv_has ls 3 [(0, .ref (a 204)), (2, .int x2)]) : W p l e R s m args below meth c H locs (xn F - xn K0) (2 * (xn F - xn K0)) Q (F0 m 38 ls []) := by
  have hx := C.1
  have hb := C.2.1
  unfold cb_X4_kindWord_38 at hm
  refine lv_aload_n hx hb dX4_kindWord_38 rfl (lv_at hl 0 rfl) ?_
  refine cg_X4_9 C hw dX4_kindWord_39 ?_
  refine lv_iconst (v := 2) hx hb dX4_kindWord_42 (by decide) ?_
  obtain ⟨⟨r1, F1, G1⟩, hc, hm⟩ := bind_elim hm
  refine ccallV (n := 1) (As := [.int 2]) (rest := []) C hw (ck_X2_fail l v a _ _ fu 2 F G r1 F1 G1 hc) (cn_X2_fail fu 2 F G _ hc) (Nat.sub_le_sub_right (cn_X4_kindWord_46 fu x2 F1 G1 hm) _) (crecv_X2 C hw) cm_328 cm_329 cm_330 cm_307 cm_331 (by decide +kernel) rfl (by omega) (by omega) hl.1 rfl (Nat.le_of_ble_eq_true rfl) dX4_kindWord_43 (fun b H locs hw => ?_)
  exact cw_X4_kindWord_46 fu C hret x2 F1 G1 hm hw (lv_sub hl [1] rfl)
theorem cn_X4_kindWord_22 (fu : Nat) {res : Int32 × PF × PG} (x2 : Int32) (F : PF) (G : PG) (hm : cb_X4_kindWord_22 fu x2 F G = some res) : xn F ≤ xn res.2.1 := by
  unfold cb_X4_kindWord_22 at hm
  by_cases c_1 : x2 = (6 : Int32)
  · have hm := (if_pos c_1).symm.trans hm
    exact (cn_X4_kindWord_28 fu x2 F G hm)
  · have hm := (if_neg c_1).symm.trans hm
    exact (cn_X4_kindWord_38 fu x2 F G hm)
theorem cw_X4_kindWord_22 (fu : Nat) {res : Int32 × PF × PG} (C : cMC p R s m args c A v RX4 cX4_kindWord 3 2 41 (xn res.2.1 - xn K0)) (hret : ∀ (b1 : Nat) (H1 : Heap) (locs1 : List Loc) (ls1 : Array Slot) (pc : Nat), cMW s A v a b1 K0 res.2.1 res.2.2 H1 locs1 → narrow .int (.int res.1) = .int res.1 → decode cX4_kindWord pc = .ok (.ireturn, 1) → W p l e R s m args below meth c H1 locs1 (xn res.2.1 - xn K0) (2 * (xn res.2.1 - xn K0)) Q (F0 m pc ls1 [.int res.1])) (x2 : Int32) (F : PF) (G : PG) (hm : cb_X4_kindWord_22 fu x2 F G = some res) {b : Nat} {H : Heap} {locs : List Loc} (hw : cMW s A v a b K0 F G H locs) {ls : Array Slot} (hl : lv_has ls 3 [(0, .ref (a 204)), (2, .int x2)]) : W p l e R s m args below meth c H locs (xn F - xn K0) (2 * (xn F - xn K0)) Q (F0 m 22 ls []) := by
  have hx := C.1
  have hb := C.2.1
  unfold cb_X4_kindWord_22 at hm
  refine lv_iload_n hx hb dX4_kindWord_22 rfl (lv_at hl 1 rfl) ?_
  refine lv_bipush (v := 6) hx hb dX4_kindWord_23 (by decide) ?_
  refine lv_icmp_ne (tgt := 38) hx hb dX4_kindWord_25 (by decide) (fun c_1 => ?_) (fun c_1 => ?_)
  · have hm := (if_neg c_1).symm.trans hm
    exact cw_X4_kindWord_38 fu C hret x2 F G hm hw (lv_sub hl [0, 1] rfl)
  · have hm := (if_pos c_1).symm.trans hm
    exact cw_X4_kindWord_28 fu C hret x2 F G hm hw (lv_sub hl [0, 1] rfl)
theorem cn_X4_kindWord_17 (fu : Nat) {res : Int32 × PF × PG} (x2 : Int32) (F : PF) (G : PG) (hm : cb_X4_kindWord_17 fu x2 F G = some res) : xn F ≤ xn res.2.1 := by
  unfold cb_X4_kindWord_17 at hm
  by_cases c_1 : x2 = (5 : Int32)
  · have hm := (if_pos c_1).symm.trans hm
    exact (cn_X4_kindWord_28 fu x2 F G hm)
  · have hm := (if_neg c_1).symm.trans hm
    exact (cn_X4_kindWord_22 fu x2 F G hm)
theorem cw_X4_kindWord_17 (fu : Nat) {res : Int32 × PF × PG} (C : cMC p R s m args c A v RX4 cX4_kindWord 3 2 41 (xn res.2.1 - xn K0)) (hret : ∀ (b1 : Nat) (H1 : Heap) (locs1 : List Loc) (ls1 : Array Slot) (pc : Nat), cMW s A v a b1 K0 res.2.1 res.2.2 H1 locs1 → narrow .int (.int res.1) = .int res.1 → decode cX4_kindWord pc = .ok (.ireturn, 1) → W p l e R s m args below meth c H1 locs1 (xn res.2.1 - xn K0) (2 * (xn res.2.1 - xn K0)) Q (F0 m pc ls1 [.int res.1])) (x2 : Int32) (F : PF) (G : PG) (hm : cb_X4_kindWord_17 fu x2 F G = some res) {b : Nat} {H : Heap} {locs : List Loc} (hw : cMW s A v a b K0 F G H locs) {ls : Array Slot} (hl : lv_has ls 3 [(0, .ref (a 204)), (2, .int x2)]) : W p l e R s m args below meth c H locs (xn F - xn K0) (2 * (xn F - xn K0)) Q (F0 m 17 ls []) := by
  have hx := C.1
  have hb := C.2.1
  unfold cb_X4_kindWord_17 at hm
  refine lv_iload_n hx hb dX4_kindWord_17 rfl (lv_at hl 1 rfl) ?_
  refine lv_iconst (v := 5) hx hb dX4_kindWord_18 (by decide) ?_
  refine lv_icmp_eq (tgt := 28) hx hb dX4_kindWord_19 (by decide) (fun c_1 => ?_) (fun c_1 => ?_)
  · have hm := (if_pos c_1).symm.trans hm
    exact cw_X4_kindWord_28 fu C hret x2 F G hm hw (lv_sub hl [0, 1] rfl)
  · have hm := (if_neg c_1).symm.trans hm
    exact cw_X4_kindWord_22 fu C hret x2 F G hm hw (lv_sub hl [0, 1] rfl)
theorem cn_X4_kindWord_13 (fu : Nat) {res : Int32 × PF × PG} (x1 : Int32) (x2 : Int32) (F : PF) (G : PG) (hm : cb_X4_kindWord_13 fu x1 x2 F G = some res) : xn F ≤ xn res.2.1 := by
  unfold cb_X4_kindWord_13 at hm
  by_cases c_1 : x1 = (0 : Int32)
  · have hm := (if_pos c_1).symm.trans hm
    exact (cn_X4_kindWord_17 fu x2 F G hm)
  · have hm := (if_neg c_1).symm.trans hm
    exact (cn_X4_kindWord_38 fu x2 F G hm)
theorem cw_X4_kindWord_13 (fu : Nat) {res : Int32 × PF × PG} (C : cMC p R s m args c A v RX4 cX4_kindWord 3 2 41 (xn res.2.1 - xn K0)) (hret : ∀ (b1 : Nat) (H1 : Heap) (locs1 : List Loc) (ls1 : Array Slot) (pc : Nat), cMW s A v a b1 K0 res.2.1 res.2.2 H1 locs1 → narrow .int (.int res.1) = .int res.1 → decode cX4_kindWord pc = .ok (.ireturn, 1) → W p l e R s m args below meth c H1 locs1 (xn res.2.1 - xn K0) (2 * (xn res.2.1 - xn K0)) Q (F0 m pc ls1 [.int res.1])) (x1 : Int32) (x2 : Int32) (F : PF) (G : PG) (hm : cb_X4_kindWord_13 fu x1 x2 F G = some res) {b : Nat} {H : Heap} {locs : List Loc} (hw : cMW s A v a b K0 F G H locs) {ls : Array Slot} (hl : lv_has ls 3 [(0, .ref (a 204)), (1, .int x1), (2, .int x2)]) : W p l e R s m args below meth c H locs (xn F - xn K0) (2 * (xn F - xn K0)) Q (F0 m 13 ls []) := by
  have hx := C.1
  have hb := C.2.1
  unfold cb_X4_kindWord_13 at hm
  refine lv_iload_n hx hb dX4_kindWord_13 rfl (lv_at hl 1 rfl) ?_
  refine lv_if_ne (tgt := 38) hx hb dX4_kindWord_14 (by decide) (fun c_1 => ?_) (fun c_1 => ?_)
  · have hm := (if_neg c_1).symm.trans hm
    exact cw_X4_kindWord_38 fu C hret x2 F G hm hw (lv_sub hl [0, 2] rfl)
  · have hm := (if_pos c_1).symm.trans hm
    exact cw_X4_kindWord_17 fu C hret x2 F G hm hw (lv_sub hl [0, 2] rfl)
theorem cn_X4_kindWord_0 (fu : Nat) {res : Int32 × PF × PG} (x1 : Int32) (F : PF) (G : PG) (hm : cb_X4_kindWord_0 fu x1 F G = some res) : xn F ≤ xn res.2.1 := by
  unfold cb_X4_kindWord_0 at hm
  by_cases c_1 : (F 11) = (4 : Int32)
  · have hm := (if_pos c_1).symm.trans hm
    exact (cn_X4_kindWord_28 fu (F 11) F G hm)
  · have hm := (if_neg c_1).symm.trans hm
    exact (cn_X4_kindWord_13 fu x1 (F 11) F G hm)
theorem cw_X4_kindWord_0 (fu : Nat) {res : Int32 × PF × PG} (C : cMC p R s m args c A v RX4 cX4_kindWord 3 2 41 (xn res.2.1 - xn K0)) (hret : ∀ (b1 : Nat) (H1 : Heap) (locs1 : List Loc) (ls1 : Array Slot) (pc : Nat), cMW s A v a b1 K0 res.2.1 res.2.2 H1 locs1 → narrow .int (.int res.1) = .int res.1 → decode cX4_kindWord pc = .ok (.ireturn, 1) → W p l e R s m args below meth c H1 locs1 (xn res.2.1 - xn K0) (2 * (xn res.2.1 - xn K0)) Q (F0 m pc ls1 [.int res.1])) (x1 : Int32) (F : PF) (G : PG) (hm : cb_X4_kindWord_0 fu x1 F G = some res) {b : Nat} {H : Heap} {locs : List Loc} (hw : cMW s A v a b K0 F G H locs) {ls : Array Slot} (hl : lv_has ls 3 [(0, .ref (a 204)), (1, .int x1)]) : W p l e R s m args below meth c H locs (xn F - xn K0) (2 * (xn F - xn K0)) Q (F0 m 0 ls []) := by
  have hx := C.1
  have hb := C.2.1
  unfold cb_X4_kindWord_0 at hm
  refine lv_aload_n hx hb dX4_kindWord_0 rfl (lv_at hl 0 rfl) ?_
  refine cg_X4_9 C hw dX4_kindWord_1 ?_
  refine cg_X4_52 C hw dX4_kindWord_4 ?_
  refine lv_istore_n (lv' := [(2, .int (F 11)), (0, .ref (a 204)), (1, .int x1)]) hx hb dX4_kindWord_7 rfl hl (by decide) rfl (fun ls hl => ?_)
  refine lv_iload_n hx hb dX4_kindWord_8 rfl (lv_at hl 0 rfl) ?_
  refine lv_iconst (v := 4) hx hb dX4_kindWord_9 (by decide) ?_
  refine lv_icmp_eq (tgt := 28) hx hb dX4_kindWord_10 (by decide) (fun c_1 => ?_) (fun c_1 => ?_)
  · have hm := (if_pos c_1).symm.trans hm
    exact cw_X4_kindWord_28 fu C hret (F 11) F G hm hw (lv_sub hl [1, 0] rfl)
  · have hm := (if_neg c_1).symm.trans hm
    exact cw_X4_kindWord_13 fu C hret x1 (F 11) F G hm hw (lv_sub hl [1, 2, 0] rfl)
theorem cn_X4_kindWord (fu : Nat) (x1 : Int32) (F : PF) (G : PG) (q : Int32 × PF × PG) (hm : cf_X4_kindWord fu x1 F G = some q) : xn F ≤ xn q.2.1 := cn_X4_kindWord_0 fu x1 F G hm
theorem ck_X4_kindWord (l : Launch) (v : EV) (a : Nat → Nat) (b sz : Nat) (fu : Nat) (x1 : Int32) (F : PF) (G : PG) (r : Int32) (F1 : PF) (G1 : PG) (hm : cf_X4_kindWord fu x1 F G = some (r, F1, G1)) : cMI l yX4_kindWord cX4_kindWord 3 (some .int) 2 41 v a b sz [.ref (a 204), .int x1] F G r F1 G1 := cMI.of (ty := .int) (by decide) rfl (Nat.le_of_ble_eq_true rfl) (fun p e R s m args below meth c Q A H locs ls C hw hl hret => cw_X4_kindWord_0 fu (res := (r, F1, G1)) C hret x1 F G hm hw hl)
def cb_X4_walk_299 (fu : Nat) (z0 : Int32) (F : PF) (G : PG) : PR := some (z0, F, G)
def cb_X4_walk_292 (fu : Nat) (F : PF) (G : PG) : PR := cb_X4_walk_299 fu (F 14) F G
def cb_X4_walk_289 (fu : Nat) (z0 : Int32) (F : PF) (G : PG) : PR := cb_X4_walk_299 fu z0 F G
def cb_X4_walk_282 (fu : Nat) (F : PF) (G : PG) : PR := (cf_X5_fault fu F G).bind (fun q => cb_X4_walk_289 fu q.1 q.2.1 q.2.2)
def cb_X4_walk_278 (fu : Nat) (x1 : Int32) (F : PF) (G : PG) : PR := if x1 = (0 : Int32) then cb_X4_walk_292 fu F G else cb_X4_walk_282 fu F G
def cb_X4_walk_262 (fu : Nat) (x1 : Int32) (F : PF) (G : PG) : PR := (cf_X5_note fu 9 (F 13) F G).bind (fun q => cb_X4_walk_278 fu x1 q.2.1 q.2.2)
def cb_X4_walk_251 (fu : Nat) (x1 : Int32) (F : PF) (G : PG) : PR := if (F 76) = (-1 : Int32) then cb_X4_walk_262 fu x1 F G else cb_X4_walk_278 fu x1 F G
def cb_X4_walk_245 (fu : Nat) (ag_7 : Int32 → Int32 → PF → PG → PR) (x1 : Int32) (x2 : Int32) (F : PF) (G : PG) : PR := ag_7 x1 (x2 + 1) F G
def cb_X4_walk_237 (fu : Nat) (ag_7 : Int32 → Int32 → PF → PG → PR) (x1 : Int32) (x2 : Int32) (F : PF) (G : PG) : PR := (cf_X2_fail fu 2 F G).bind (fun q => cb_X4_walk_245 fu ag_7 x1 x2 q.2.1 q.2.2)
def cb_X4_walk_234 (fu : Nat) (ag_7 : Int32 → Int32 → PF → PG → PR) (x1 : Int32) (x2 : Int32) (F : PF) (G : PG) : PR := cb_X4_walk_245 fu ag_7 x1 x2 F G
def cb_X4_walk_226 (fu : Nat) (ag_7 : Int32 → Int32 → PF → PG → PR) (x1 : Int32) (x2 : Int32) (x5 : Int32) (x6 : Int32) (F : PF) (G : PG) : PR := (cf_X4_globalInt fu x5 x6 F G).bind (fun q => cb_X4_walk_234 fu ag_7 x1 x2 q.2.1 q.2.2)
def cb_X4_walk_220 (fu : Nat) (ag_7 : Int32 → Int32 → PF → PG → PR) (x1 : Int32) (x2 : Int32) (x4 : Int32) (x5 : Int32) (x6 : Int32) (F : PF) (G : PG) : PR := if x4 = (4 : Int32) then cb_X4_walk_226 fu ag_7 x1 x2 x5 x6 F G else cb_X4_walk_237 fu ag_7 x1 x2 F G
def cb_X4_walk_217 (fu : Nat) (ag_7 : Int32 → Int32 → PF → PG → PR) (x1 : Int32) (x2 : Int32) (F : PF) (G : PG) : PR := cb_X4_walk_245 fu ag_7 x1 x2 F G
def cb_X4_walk_214 (fu : Nat) (ag_7 : Int32 → Int32 → PF → PG → PR) (x1 : Int32) (x2 : Int32) (z0 : Int32) (z1 : Int32) (z2 : Int32) (F : PF) (G : PG) : PR := (cf_X4_globalArray fu z2 z1 z0 F G).bind (fun q => cb_X4_walk_217 fu ag_7 x1 x2 q.2.1 q.2.2)
def cb_X4_walk_213 (fu : Nat) (ag_7 : Int32 → Int32 → PF → PG → PR) (x1 : Int32) (x2 : Int32) (z0 : Int32) (z1 : Int32) (F : PF) (G : PG) : PR := cb_X4_walk_214 fu ag_7 x1 x2 3 z0 z1 F G
def cb_X4_walk_209 (fu : Nat) (ag_7 : Int32 → Int32 → PF → PG → PR) (x1 : Int32) (x2 : Int32) (z0 : Int32) (z1 : Int32) (F : PF) (G : PG) : PR := cb_X4_walk_214 fu ag_7 x1 x2 2 z0 z1 F G
def cb_X4_walk_198 (fu : Nat) (ag_7 : Int32 → Int32 → PF → PG → PR) (x1 : Int32) (x2 : Int32) (x4 : Int32) (x5 : Int32) (x6 : Int32) (F : PF) (G : PG) : PR := if x4 = (4 : Int32) then cb_X4_walk_209 fu ag_7 x1 x2 x6 x5 F G else cb_X4_walk_213 fu ag_7 x1 x2 x6 x5 F G
def cb_X4_walk_191 (fu : Nat) (ag_7 : Int32 → Int32 → PF → PG → PR) (x1 : Int32) (x2 : Int32) (x4 : Int32) (x5 : Int32) (x6 : Int32) (F : PF) (G : PG) : PR := if x4 = (6 : Int32) then cb_X4_walk_220 fu ag_7 x1 x2 x4 x5 x6 F G else cb_X4_walk_198 fu ag_7 x1 x2 x4 x5 x6 F G
def cb_X4_walk_179 (fu : Nat) (ag_7 : Int32 → Int32 → PF → PG → PR) (x1 : Int32) (x2 : Int32) (x4 : Int32) (x5 : Int32) (x6 : Int32) (F : PF) (G : PG) : PR := if (F 11) = (21 : Int32) then cb_X4_walk_191 fu ag_7 x1 x2 x4 x5 x6 F G else cb_X4_walk_220 fu ag_7 x1 x2 x4 x5 x6 F G
def cb_X4_walk_176 (fu : Nat) (ag_7 : Int32 → Int32 → PF → PG → PR) (x1 : Int32) (x2 : Int32) (F : PF) (G : PG) : PR := cb_X4_walk_245 fu ag_7 x1 x2 F G
def cb_X4_walk_172 (fu : Nat) (ag_7 : Int32 → Int32 → PF → PG → PR) (x1 : Int32) (x2 : Int32) (F : PF) (G : PG) : PR := (cf_X4_endFunction fu F G).bind (fun q => cb_X4_walk_176 fu ag_7 x1 x2 q.2.1 q.2.2)
def cb_X4_walk_168 (fu : Nat) (ag_7 : Int32 → Int32 → PF → PG → PR) (x1 : Int32) (x2 : Int32) (F : PF) (G : PG) : PR := (cf_X4_block fu F G).bind (fun q => cb_X4_walk_172 fu ag_7 x1 x2 q.2.1 q.2.2)
def cb_X4_walk_165 (fu : Nat) (ag_7 : Int32 → Int32 → PF → PG → PR) (x1 : Int32) (x2 : Int32) (z0 : Int32) (F : PF) (G : PG) : PR := (cf_X4_formals fu z0 F G).bind (fun q => cb_X4_walk_168 fu ag_7 x1 x2 q.2.1 q.2.2)
def cb_X4_walk_164 (fu : Nat) (ag_7 : Int32 → Int32 → PF → PG → PR) (x1 : Int32) (x2 : Int32) (F : PF) (G : PG) : PR := cb_X4_walk_165 fu ag_7 x1 x2 0 F G
def cb_X4_walk_160 (fu : Nat) (ag_7 : Int32 → Int32 → PF → PG → PR) (x1 : Int32) (x2 : Int32) (F : PF) (G : PG) : PR := cb_X4_walk_165 fu ag_7 x1 x2 1 F G
def cb_X4_walk_150 (fu : Nat) (ag_7 : Int32 → Int32 → PF → PG → PR) (x1 : Int32) (x2 : Int32) (x5 : Int32) (F : PF) (G : PG) : PR := if x5 = (F 27) then cb_X4_walk_160 fu ag_7 x1 x2 F G else cb_X4_walk_164 fu ag_7 x1 x2 F G
def cb_X4_walk_147 (fu : Nat) (ag_7 : Int32 → Int32 → PF → PG → PR) (x1 : Int32) (x2 : Int32) (x5 : Int32) (z0 : Int32) (z1 : Int32) (z2 : Int32) (F : PF) (G : PG) : PR := (cf_X4_startFunction fu z2 z1 z0 F G).bind (fun q => cb_X4_walk_150 fu ag_7 x1 x2 x5 q.2.1 q.2.2)
def cb_X4_walk_146 (fu : Nat) (ag_7 : Int32 → Int32 → PF → PG → PR) (x1 : Int32) (x2 : Int32) (x5 : Int32) (z0 : Int32) (z1 : Int32) (F : PF) (G : PG) : PR := cb_X4_walk_147 fu ag_7 x1 x2 x5 0 z0 z1 F G
def cb_X4_walk_142 (fu : Nat) (ag_7 : Int32 → Int32 → PF → PG → PR) (x1 : Int32) (x2 : Int32) (x5 : Int32) (z0 : Int32) (z1 : Int32) (F : PF) (G : PG) : PR := cb_X4_walk_147 fu ag_7 x1 x2 x5 1 z0 z1 F G
def cb_X4_walk_131 (fu : Nat) (ag_7 : Int32 → Int32 → PF → PG → PR) (x1 : Int32) (x2 : Int32) (x4 : Int32) (x5 : Int32) (x6 : Int32) (F : PF) (G : PG) : PR := if x4 = (4 : Int32) then cb_X4_walk_142 fu ag_7 x1 x2 x5 x6 x5 F G else cb_X4_walk_146 fu ag_7 x1 x2 x5 x6 x5 F G
def cb_X4_walk_125 (fu : Nat) (ag_7 : Int32 → Int32 → PF → PG → PR) (x1 : Int32) (x2 : Int32) (x4 : Int32) (x5 : Int32) (x6 : Int32) (F : PF) (G : PG) : PR := if x4 = (5 : Int32) then cb_X4_walk_179 fu ag_7 x1 x2 x4 x5 x6 F G else cb_X4_walk_131 fu ag_7 x1 x2 x4 x5 x6 F G
def cb_X4_walk_113 (fu : Nat) (ag_7 : Int32 → Int32 → PF → PG → PR) (x1 : Int32) (x2 : Int32) (x4 : Int32) (x5 : Int32) (x6 : Int32) (F : PF) (G : PG) : PR := if (F 11) = (19 : Int32) then cb_X4_walk_125 fu ag_7 x1 x2 x4 x5 x6 F G else cb_X4_walk_179 fu ag_7 x1 x2 x4 x5 x6 F G
def cb_X4_walk_110 (fu : Nat) (ag_7 : Int32 → Int32 → PF → PG → PR) (x1 : Int32) (x2 : Int32) (F : PF) (G : PG) : PR := cb_X4_walk_245 fu ag_7 x1 x2 F G
def cb_X4_walk_102 (fu : Nat) (ag_7 : Int32 → Int32 → PF → PG → PR) (x1 : Int32) (x2 : Int32) (x5 : Int32) (x6 : Int32) (F : PF) (G : PG) : PR := (cf_X4_constTold fu x5 x6 F G).bind (fun q => cb_X4_walk_110 fu ag_7 x1 x2 q.2.1 q.2.2)
def cb_X4_walk_98 (fu : Nat) (ag_7 : Int32 → Int32 → PF → PG → PR) (x1 : Int32) (x2 : Int32) (x3 : Int32) (x4 : Int32) (x5 : Int32) (x6 : Int32) (F : PF) (G : PG) : PR := if x3 = (0 : Int32) then cb_X4_walk_113 fu ag_7 x1 x2 x4 x5 x6 F G else cb_X4_walk_102 fu ag_7 x1 x2 x5 x6 F G
def cb_X4_walk_70 (fu : Nat) (ag_7 : Int32 → Int32 → PF → PG → PR) (x1 : Int32) (x2 : Int32) (x3 : Int32) (z0 : Int32) (F : PF) (G : PG) : PR := (cf_X2_expect fu 2 F G).bind (fun q => cb_X4_walk_98 fu ag_7 x1 x2 x3 z0 (F 12) (F 13) q.2.1 q.2.2)
def cb_X4_walk_65 (fu : Nat) (ag_7 : Int32 → Int32 → PF → PG → PR) (x1 : Int32) (x2 : Int32) (x3 : Int32) (F : PF) (G : PG) : PR := (cf_X4_kindWord fu x3 F G).bind (fun q => cb_X4_walk_70 fu ag_7 x1 x2 x3 q.1 q.2.1 q.2.2)
def cb_X4_walk_58 (fu : Nat) (ag_7 : Int32 → Int32 → PF → PG → PR) (x1 : Int32) (x2 : Int32) (x3 : Int32) (F : PF) (G : PG) : PR := (cf_X2_next fu F G).bind (fun q => cb_X4_walk_65 fu ag_7 x1 x2 x3 q.2.1 q.2.2)
def cb_X4_walk_53 (fu : Nat) (ag_7 : Int32 → Int32 → PF → PG → PR) (x1 : Int32) (x2 : Int32) (z0 : Int32) (F : PF) (G : PG) : PR := if z0 = (0 : Int32) then cb_X4_walk_65 fu ag_7 x1 x2 z0 F G else cb_X4_walk_58 fu ag_7 x1 x2 z0 F G
def cb_X4_walk_52 (fu : Nat) (ag_7 : Int32 → Int32 → PF → PG → PR) (x1 : Int32) (x2 : Int32) (F : PF) (G : PG) : PR := cb_X4_walk_53 fu ag_7 x1 x2 0 F G
def cb_X4_walk_48 (fu : Nat) (ag_7 : Int32 → Int32 → PF → PG → PR) (x1 : Int32) (x2 : Int32) (F : PF) (G : PG) : PR := cb_X4_walk_53 fu ag_7 x1 x2 1 F G
def cb_X4_walk_36 (fu : Nat) (ag_7 : Int32 → Int32 → PF → PG → PR) (x1 : Int32) (x2 : Int32) (F : PF) (G : PG) : PR := if (F 11) = (7 : Int32) then cb_X4_walk_48 fu ag_7 x1 x2 F G else cb_X4_walk_52 fu ag_7 x1 x2 F G
def cb_X4_walk_24 (fu : Nat) (ag_7 : Int32 → Int32 → PF → PG → PR) (x1 : Int32) (x2 : Int32) (F : PF) (G : PG) : PR := if (F 11) = (-2 : Int32) then cb_X4_walk_251 fu x1 F G else cb_X4_walk_36 fu ag_7 x1 x2 F G
def cb_X4_walk_14 (fu : Nat) (ag_7 : Int32 → Int32 → PF → PG → PR) (x1 : Int32) (x2 : Int32) (F : PF) (G : PG) : PR := if (F 11) = (0 : Int32) then cb_X4_walk_251 fu x1 F G else cb_X4_walk_24 fu ag_7 x1 x2 F G
def cb_X4_walk_7 (fu : Nat) (ag_7 : Int32 → Int32 → PF → PG → PR) (x1 : Int32) (x2 : Int32) (F : PF) (G : PG) : PR := if (4001 : Int32) ≤ x2 then cb_X4_walk_251 fu x1 F G else cb_X4_walk_14 fu ag_7 x1 x2 F G
def cl_X4_walk_7 (fu : Nat) : Nat → Int32 → Int32 → PF → PG → PR
  | 0 => fun _ _ _ _ => none
  | n + 1 => fun x1 x2 F G => cb_X4_walk_7 fu (cl_X4_walk_7 fu n) x1 x2 F G
def cb_X4_walk_5 (fu : Nat) (x1 : Int32) (F : PF) (G : PG) : PR := cl_X4_walk_7 fu fu x1 0 F G
def cb_X4_walk_0 (fu : Nat) (x1 : Int32) (F : PF) (G : PG) : PR := (cf_X4_start fu x1 F G).bind (fun q => cb_X4_walk_5 fu x1 q.2.1 q.2.2)
def cf_X4_walk (fu : Nat) (x1 : Int32) (F : PF) (G : PG) : PR := cb_X4_walk_0 fu x1 F G
theorem cn_X4_walk_299 (fu : Nat) {res : Int32 × PF × PG} (z0 : Int32) (F : PF) (G : PG) (hm : cb_X4_walk_299 fu z0 F G = some res) : xn F ≤ xn res.2.1 := by
  unfold cb_X4_walk_299 at hm
  obtain rfl := Option.some.inj hm
  exact Nat.le_refl _
theorem cw_X4_walk_299 (fu : Nat) {res : Int32 × PF × PG} (C : cMC p R s m args c A v RX4 cX4_walk 7 606 36140 (xn res.2.1 - xn K0)) (hret : ∀ (b1 : Nat) (H1 : Heap) (locs1 : List Loc) (ls1 : Array Slot) (pc : Nat), cMW s A v a b1 K0 res.2.1 res.2.2 H1 locs1 → narrow .int (.int res.1) = .int res.1 → decode cX4_walk pc = .ok (.ireturn, 1) → W p l e R s m args below meth c H1 locs1 (xn res.2.1 - xn K0) (2 * (xn res.2.1 - xn K0)) Q (F0 m pc ls1 [.int res.1])) (z0 : Int32) (F : PF) (G : PG) (hm : cb_X4_walk_299 fu z0 F G = some res) {b : Nat} {H : Heap} {locs : List Loc} (hw : cMW s A v a b K0 F G H locs) {ls : Array Slot} (hl : lv_has ls 7 []) : W p l e R s m args below meth c H locs (xn F - xn K0) (2 * (xn F - xn K0)) Q (F0 m 299 ls [.int z0]) := by
  have hx := C.1
  have hb := C.2.1
  unfold cb_X4_walk_299 at hm
  obtain rfl := Option.some.inj hm
  exact hret _ _ _ _ _ hw rfl dX4_walk_299
theorem cn_X4_walk_292 (fu : Nat) {res : Int32 × PF × PG} (F : PF) (G : PG) (hm : cb_X4_walk_292 fu F G = some res) : xn F ≤ xn res.2.1 := by
  unfold cb_X4_walk_292 at hm
  exact (cn_X4_walk_299 fu (F 14) F G hm)
theorem cw_X4_walk_292 (fu : Nat) {res : Int32 × PF × PG} (C : cMC p R s m args c A v RX4 cX4_walk 7 606 36140 (xn res.2.1 - xn K0)) (hret : ∀ (b1 : Nat) (H1 : Heap) (locs1 : List Loc) (ls1 : Array Slot) (pc : Nat), cMW s A v a b1 K0 res.2.1 res.2.2 H1 locs1 → narrow .int (.int res.1) = .int res.1 → decode cX4_walk pc = .ok (.ireturn, 1) → W p l e R s m args below meth c H1 locs1 (xn res.2.1 - xn K0) (2 * (xn res.2.1 - xn K0)) Q (F0 m pc ls1 [.int res.1])) (F : PF) (G : PG) (hm : cb_X4_walk_292 fu F G = some res) {b : Nat} {H : Heap} {locs : List Loc} (hw : cMW s A v a b K0 F G H locs) {ls : Array Slot} (hl : lv_has ls 7 [(0, .ref (a 204))]) : W p l e R s m args below meth c H locs (xn F - xn K0) (2 * (xn F - xn K0)) Q (F0 m 292 ls []) := by
  have hx := C.1
  have hb := C.2.1
  unfold cb_X4_walk_292 at hm
  refine lv_aload_n hx hb dX4_walk_292 rfl (lv_at hl 0 rfl) ?_
  refine cg_X4_9 C hw dX4_walk_293 ?_
  refine cg_X4_111 C hw dX4_walk_296 ?_
  exact cw_X4_walk_299 fu C hret (F 14) F G hm hw (lv_sub hl [] rfl)
theorem cn_X4_walk_289 (fu : Nat) {res : Int32 × PF × PG} (z0 : Int32) (F : PF) (G : PG) (hm : cb_X4_walk_289 fu z0 F G = some res) : xn F ≤ xn res.2.1 := by
  unfold cb_X4_walk_289 at hm
  exact (cn_X4_walk_299 fu z0 F G hm)
theorem cw_X4_walk_289 (fu : Nat) {res : Int32 × PF × PG} (C : cMC p R s m args c A v RX4 cX4_walk 7 606 36140 (xn res.2.1 - xn K0)) (hret : ∀ (b1 : Nat) (H1 : Heap) (locs1 : List Loc) (ls1 : Array Slot) (pc : Nat), cMW s A v a b1 K0 res.2.1 res.2.2 H1 locs1 → narrow .int (.int res.1) = .int res.1 → decode cX4_walk pc = .ok (.ireturn, 1) → W p l e R s m args below meth c H1 locs1 (xn res.2.1 - xn K0) (2 * (xn res.2.1 - xn K0)) Q (F0 m pc ls1 [.int res.1])) (z0 : Int32) (F : PF) (G : PG) (hm : cb_X4_walk_289 fu z0 F G = some res) {b : Nat} {H : Heap} {locs : List Loc} (hw : cMW s A v a b K0 F G H locs) {ls : Array Slot} (hl : lv_has ls 7 []) : W p l e R s m args below meth c H locs (xn F - xn K0) (2 * (xn F - xn K0)) Q (F0 m 289 ls [.int z0]) := by
  have hx := C.1
  have hb := C.2.1
  unfold cb_X4_walk_289 at hm
  refine lv_goto (tgt := 299) hx hb dX4_walk_289 (by decide) ?_
  exact cw_X4_walk_299 fu C hret z0 F G hm hw (lv_sub hl [] rfl)
theorem cn_X4_walk_282 (fu : Nat) {res : Int32 × PF × PG} (F : PF) (G : PG) (hm : cb_X4_walk_282 fu F G = some res) : xn F ≤ xn res.2.1 := by
  unfold cb_X4_walk_282 at hm
  obtain ⟨⟨r1, F1, G1⟩, hc, hm⟩ := bind_elim hm
  exact Nat.le_trans (cn_X5_fault fu F G _ hc) (cn_X4_walk_289 fu r1 F1 G1 hm)
theorem cw_X4_walk_282 (fu : Nat) {res : Int32 × PF × PG} (C : cMC p R s m args c A v RX4 cX4_walk 7 606 36140 (xn res.2.1 - xn K0)) (hret : ∀ (b1 : Nat) (H1 : Heap) (locs1 : List Loc) (ls1 : Array Slot) (pc : Nat), cMW s A v a b1 K0 res.2.1 res.2.2 H1 locs1 → narrow .int (.int res.1) = .int res.1 → decode cX4_walk pc = .ok (.ireturn, 1) → W p l e R s m args below meth c H1 locs1 (xn res.2.1 - xn K0) (2 * (xn res.2.1 - xn K0)) Q (F0 m pc ls1 [.int res.1])) (F : PF) (G : PG) (hm : cb_X4_walk_282 fu F G = some res) {b : Nat} {H : Heap} {locs : List Loc} (hw : cMW s A v a b K0 F G H locs) {ls : Array Slot} (hl : lv_has ls 7 [(0, .ref (a 204))]) : W p l e R s m args below meth c H locs (xn F - xn K0) (2 * (xn F - xn K0)) Q (F0 m 282 ls []) := by
  have hx := C.1
  have hb := C.2.1
  unfold cb_X4_walk_282 at hm
  refine lv_aload_n hx hb dX4_walk_282 rfl (lv_at hl 0 rfl) ?_
  refine cg_X4_15 C hw dX4_walk_283 ?_
  obtain ⟨⟨r1, F1, G1⟩, hc, hm⟩ := bind_elim hm
  refine ccallI (n := 0) (As := []) (rest := []) C hw (ck_X5_fault l v a _ _ fu F G r1 F1 G1 hc) (cn_X5_fault fu F G _ hc) (Nat.sub_le_sub_right (cn_X4_walk_289 fu r1 F1 G1 hm) _) (crecv_X5 C hw) cm_792 cm_793 cm_794 cm_266 cm_795 (by decide +kernel) rfl (by omega) (by omega) hl.1 rfl (Nat.le_of_ble_eq_true rfl) dX4_walk_286 (fun b H locs hw => ?_)
  exact cw_X4_walk_289 fu C hret r1 F1 G1 hm hw (lv_sub hl [] rfl)
theorem cn_X4_walk_278 (fu : Nat) {res : Int32 × PF × PG} (x1 : Int32) (F : PF) (G : PG) (hm : cb_X4_walk_278 fu x1 F G = some res) : xn F ≤ xn res.2.1 := by
  unfold cb_X4_walk_278 at hm
  by_cases c_1 : x1 = (0 : Int32)
  · have hm := (if_pos c_1).symm.trans hm
    exact (cn_X4_walk_292 fu F G hm)
  · have hm := (if_neg c_1).symm.trans hm
    exact (cn_X4_walk_282 fu F G hm)
theorem cw_X4_walk_278 (fu : Nat) {res : Int32 × PF × PG} (C : cMC p R s m args c A v RX4 cX4_walk 7 606 36140 (xn res.2.1 - xn K0)) (hret : ∀ (b1 : Nat) (H1 : Heap) (locs1 : List Loc) (ls1 : Array Slot) (pc : Nat), cMW s A v a b1 K0 res.2.1 res.2.2 H1 locs1 → narrow .int (.int res.1) = .int res.1 → decode cX4_walk pc = .ok (.ireturn, 1) → W p l e R s m args below meth c H1 locs1 (xn res.2.1 - xn K0) (2 * (xn res.2.1 - xn K0)) Q (F0 m pc ls1 [.int res.1])) (x1 : Int32) (F : PF) (G : PG) (hm : cb_X4_walk_278 fu x1 F G = some res) {b : Nat} {H : Heap} {locs : List Loc} (hw : cMW s A v a b K0 F G H locs) {ls : Array Slot} (hl : lv_has ls 7 [(0, .ref (a 204)), (1, .int x1)]) : W p l e R s m args below meth c H locs (xn F - xn K0) (2 * (xn F - xn K0)) Q (F0 m 278 ls []) := by
  have hx := C.1
  have hb := C.2.1
  unfold cb_X4_walk_278 at hm
  refine lv_iload_n hx hb dX4_walk_278 rfl (lv_at hl 1 rfl) ?_
  refine lv_if_eq (tgt := 292) hx hb dX4_walk_279 (by decide) (fun c_1 => ?_) (fun c_1 => ?_)
  · have hm := (if_pos c_1).symm.trans hm
    exact cw_X4_walk_292 fu C hret F G hm hw (lv_sub hl [0] rfl)
  · have hm := (if_neg c_1).symm.trans hm
    exact cw_X4_walk_282 fu C hret F G hm hw (lv_sub hl [0] rfl)
theorem cn_X4_walk_262 (fu : Nat) {res : Int32 × PF × PG} (x1 : Int32) (F : PF) (G : PG) (hm : cb_X4_walk_262 fu x1 F G = some res) : xn F ≤ xn res.2.1 := by
  unfold cb_X4_walk_262 at hm
  obtain ⟨⟨r1, F1, G1⟩, hc, hm⟩ := bind_elim hm
  exact Nat.le_trans (cn_X5_note fu 9 (F 13) F G _ hc) (cn_X4_walk_278 fu x1 F1 G1 hm)
theorem cw_X4_walk_262 (fu : Nat) {res : Int32 × PF × PG} (C : cMC p R s m args c A v RX4 cX4_walk 7 606 36140 (xn res.2.1 - xn K0)) (hret : ∀ (b1 : Nat) (H1 : Heap) (locs1 : List Loc) (ls1 : Array Slot) (pc : Nat), cMW s A v a b1 K0 res.2.1 res.2.2 H1 locs1 → narrow .int (.int res.1) = .int res.1 → decode cX4_walk pc = .ok (.ireturn, 1) → W p l e R s m args below meth c H1 locs1 (xn res.2.1 - xn K0) (2 * (xn res.2.1 - xn K0)) Q (F0 m pc ls1 [.int res.1])) (x1 : Int32) (F : PF) (G : PG) (hm : cb_X4_walk_262 fu x1 F G = some res) {b : Nat} {H : Heap} {locs : List Loc} (hw : cMW s A v a b K0 F G H locs) {ls : Array Slot} (hl : lv_has ls 7 [(0, .ref (a 204)), (1, .int x1)]) : W p l e R s m args below meth c H locs (xn F - xn K0) (2 * (xn F - xn K0)) Q (F0 m 262 ls []) := by
  have hx := C.1
  have hb := C.2.1
  unfold cb_X4_walk_262 at hm
  refine lv_aload_n hx hb dX4_walk_262 rfl (lv_at hl 0 rfl) ?_
  refine cg_X4_15 C hw dX4_walk_263 ?_
  refine lv_bipush (v := 9) hx hb dX4_walk_266 (by decide) ?_
  refine lv_aload_n hx hb dX4_walk_268 rfl (lv_at hl 0 rfl) ?_
  refine cg_X4_9 C hw dX4_walk_269 ?_
  refine cg_X4_67 C hw dX4_walk_272 ?_
  obtain ⟨⟨r1, F1, G1⟩, hc, hm⟩ := bind_elim hm
  refine ccallV (n := 2) (As := [.int 9, .int (F 13)]) (rest := []) C hw (ck_X5_note l v a _ _ fu 9 (F 13) F G r1 F1 G1 hc) (cn_X5_note fu 9 (F 13) F G _ hc) (Nat.sub_le_sub_right (cn_X4_walk_278 fu x1 F1 G1 hm) _) (crecv_X5 C hw) cm_628 cm_425 cm_426 cm_266 cm_427 (by decide +kernel) rfl (by omega) (by omega) hl.1 rfl (Nat.le_of_ble_eq_true rfl) dX4_walk_275 (fun b H locs hw => ?_)
  exact cw_X4_walk_278 fu C hret x1 F1 G1 hm hw (lv_sub hl [0, 1] rfl)
theorem cn_X4_walk_251 (fu : Nat) {res : Int32 × PF × PG} (x1 : Int32) (F : PF) (G : PG) (hm : cb_X4_walk_251 fu x1 F G = some res) : xn F ≤ xn res.2.1 := by
  unfold cb_X4_walk_251 at hm
  by_cases c_1 : (F 76) = (-1 : Int32)
  · have hm := (if_pos c_1).symm.trans hm
    exact (cn_X4_walk_262 fu x1 F G hm)
  · have hm := (if_neg c_1).symm.trans hm
    exact (cn_X4_walk_278 fu x1 F G hm)
theorem cw_X4_walk_251 (fu : Nat) {res : Int32 × PF × PG} (C : cMC p R s m args c A v RX4 cX4_walk 7 606 36140 (xn res.2.1 - xn K0)) (hret : ∀ (b1 : Nat) (H1 : Heap) (locs1 : List Loc) (ls1 : Array Slot) (pc : Nat), cMW s A v a b1 K0 res.2.1 res.2.2 H1 locs1 → narrow .int (.int res.1) = .int res.1 → decode cX4_walk pc = .ok (.ireturn, 1) → W p l e R s m args below meth c H1 locs1 (xn res.2.1 - xn K0) (2 * (xn res.2.1 - xn K0)) Q (F0 m pc ls1 [.int res.1])) (x1 : Int32) (F : PF) (G : PG) (hm : cb_X4_walk_251 fu x1 F G = some res) {b : Nat} {H : Heap} {locs : List Loc} (hw : cMW s A v a b K0 F G H locs) {ls : Array Slot} (hl : lv_has ls 7 [(0, .ref (a 204)), (1, .int x1)]) : W p l e R s m args below meth c H locs (xn F - xn K0) (2 * (xn F - xn K0)) Q (F0 m 251 ls []) := by
  have hx := C.1
  have hb := C.2.1
  unfold cb_X4_walk_251 at hm
  refine lv_aload_n hx hb dX4_walk_251 rfl (lv_at hl 0 rfl) ?_
  refine cg_X4_23 C hw dX4_walk_252 ?_
  refine cg_X4_101 C hw dX4_walk_255 ?_
  refine lv_iconst (v := (-1)) hx hb dX4_walk_258 (by decide) ?_
  refine lv_icmp_ne (tgt := 278) hx hb dX4_walk_259 (by decide) (fun c_1 => ?_) (fun c_1 => ?_)
  · have hm := (if_neg c_1).symm.trans hm
    exact cw_X4_walk_278 fu C hret x1 F G hm hw (lv_sub hl [0, 1] rfl)
  · have hm := (if_pos c_1).symm.trans hm
    exact cw_X4_walk_262 fu C hret x1 F G hm hw (lv_sub hl [0, 1] rfl)
theorem cn_X4_walk_245 (fu : Nat) {res : Int32 × PF × PG} (ag_7 : Int32 → Int32 → PF → PG → PR) (hagn_7 : ∀ (x1 : Int32) (x2 : Int32) (F : PF) (G : PG), ag_7 x1 x2 F G = some res → xn F ≤ xn res.2.1) (x1 : Int32) (x2 : Int32) (F : PF) (G : PG) (hm : cb_X4_walk_245 fu ag_7 x1 x2 F G = some res) : xn F ≤ xn res.2.1 := by
  unfold cb_X4_walk_245 at hm
  exact (hagn_7 x1 (x2 + 1) F G hm)
theorem cw_X4_walk_245 (fu : Nat) {res : Int32 × PF × PG} (C : cMC p R s m args c A v RX4 cX4_walk 7 606 36140 (xn res.2.1 - xn K0)) (hret : ∀ (b1 : Nat) (H1 : Heap) (locs1 : List Loc) (ls1 : Array Slot) (pc : Nat), cMW s A v a b1 K0 res.2.1 res.2.2 H1 locs1 → narrow .int (.int res.1) = .int res.1 → decode cX4_walk pc = .ok (.ireturn, 1) → W p l e R s m args below meth c H1 locs1 (xn res.2.1 - xn K0) (2 * (xn res.2.1 - xn K0)) Q (F0 m pc ls1 [.int res.1])) (ag_7 : Int32 → Int32 → PF → PG → PR) (hag_7 : ∀ (x1 : Int32) (x2 : Int32) (F : PF) (G : PG), ag_7 x1 x2 F G = some res → ∀ (b : Nat) (H : Heap) (locs : List Loc) (ls : Array Slot), cMW s A v a b K0 F G H locs → lv_has ls 7 [(0, .ref (a 204)), (1, .int x1), (2, .int x2)] → W p l e R s m args below meth c H locs (xn F - xn K0) (2 * (xn F - xn K0)) Q (F0 m 7 ls [])) (hagn_7 : ∀ (x1 : Int32) (x2 : Int32) (F : PF) (G : PG), ag_7 x1 x2 F G = some res → xn F ≤ xn res.2.1) (x1 : Int32) (x2 : Int32) (F : PF) (G : PG) (hm : cb_X4_walk_245 fu ag_7 x1 x2 F G = some res) {b : Nat} {H : Heap} {locs : List Loc} (hw : cMW s A v a b K0 F G H locs) {ls : Array Slot} (hl : lv_has ls 7 [(0, .ref (a 204)), (1, .int x1), (2, .int x2)]) : W p l e R s m args below meth c H locs (xn F - xn K0) (2 * (xn F - xn K0)) Q (F0 m 245 ls []) := by
  have hx := C.1
  have hb := C.2.1
  unfold cb_X4_walk_245 at hm
  refine lv_iinc (v := (x2 + 1)) (lv' := [(2, .int (x2 + 1)), (0, .ref (a 204)), (1, .int x1)]) hx hb dX4_walk_245 hl (k := 2) rfl (by rfl) (by decide) rfl (fun ls hl => ?_)
  refine lv_goto (tgt := 7) hx hb dX4_walk_248 (by decide) ?_
  exact hag_7 x1 (x2 + 1) F G hm _ _ _ _ hw (lv_sub hl [1, 2, 0] rfl)
theorem cn_X4_walk_237 (fu : Nat) {res : Int32 × PF × PG} (ag_7 : Int32 → Int32 → PF → PG → PR) (hagn_7 : ∀ (x1 : Int32) (x2 : Int32) (F : PF) (G : PG), ag_7 x1 x2 F G = some res → xn F ≤ xn res.2.1) (x1 : Int32) (x2 : Int32) (F : PF) (G : PG) (hm : cb_X4_walk_237 fu ag_7 x1 x2 F G = some res) : xn F ≤ xn res.2.1 := by
  unfold cb_X4_walk_237 at hm
  obtain ⟨⟨r1, F1, G1⟩, hc, hm⟩ := bind_elim hm
  exact Nat.le_trans (cn_X2_fail fu 2 F G _ hc) (cn_X4_walk_245 fu ag_7 hagn_7 x1 x2 F1 G1 hm)
theorem cw_X4_walk_237 (fu : Nat) {res : Int32 × PF × PG} (C : cMC p R s m args c A v RX4 cX4_walk 7 606 36140 (xn res.2.1 - xn K0)) (hret : ∀ (b1 : Nat) (H1 : Heap) (locs1 : List Loc) (ls1 : Array Slot) (pc : Nat), cMW s A v a b1 K0 res.2.1 res.2.2 H1 locs1 → narrow .int (.int res.1) = .int res.1 → decode cX4_walk pc = .ok (.ireturn, 1) → W p l e R s m args below meth c H1 locs1 (xn res.2.1 - xn K0) (2 * (xn res.2.1 - xn K0)) Q (F0 m pc ls1 [.int res.1])) (ag_7 : Int32 → Int32 → PF → PG → PR) (hag_7 : ∀ (x1 : Int32) (x2 : Int32) (F : PF) (G : PG), ag_7 x1 x2 F G = some res → ∀ (b : Nat) (H : Heap) (locs : List Loc) (ls : Array Slot), cMW s A v a b K0 F G H locs → lv_has ls 7 [(0, .ref (a 204)), (1, .int x1), (2, .int x2)] → W p l e R s m args below meth c H locs (xn F - xn K0) (2 * (xn F - xn K0)) Q (F0 m 7 ls [])) (hagn_7 : ∀ (x1 : Int32) (x2 : Int32) (F : PF) (G : PG), ag_7 x1 x2 F G = some res → xn F ≤ xn res.2.1) (x1 : Int32) (x2 : Int32) (F : PF) (G : PG) (hm : cb_X4_walk_237 fu ag_7 x1 x2 F G = some res) {b : Nat} {H : Heap} {locs : List Loc} (hw : cMW s A v a b K0 F G H locs) {ls : Array Slot} (hl : lv_has ls 7 [(0, .ref (a 204)), (1, .int x1), (2, .int x2)]) : W p l e R s m args below meth c H locs (xn F - xn K0) (2 * (xn F - xn K0)) Q (F0 m 237 ls []) := by
  have hx := C.1
  have hb := C.2.1
  unfold cb_X4_walk_237 at hm
  refine lv_aload_n hx hb dX4_walk_237 rfl (lv_at hl 0 rfl) ?_
  refine cg_X4_9 C hw dX4_walk_238 ?_
  refine lv_iconst (v := 2) hx hb dX4_walk_241 (by decide) ?_
  obtain ⟨⟨r1, F1, G1⟩, hc, hm⟩ := bind_elim hm
  refine ccallV (n := 1) (As := [.int 2]) (rest := []) C hw (ck_X2_fail l v a _ _ fu 2 F G r1 F1 G1 hc) (cn_X2_fail fu 2 F G _ hc) (Nat.sub_le_sub_right (cn_X4_walk_245 fu ag_7 hagn_7 x1 x2 F1 G1 hm) _) (crecv_X2 C hw) cm_328 cm_329 cm_330 cm_307 cm_331 (by decide +kernel) rfl (by omega) (by omega) hl.1 rfl (Nat.le_of_ble_eq_true rfl) dX4_walk_242 (fun b H locs hw => ?_)
  exact cw_X4_walk_245 fu C hret ag_7 hag_7 hagn_7 x1 x2 F1 G1 hm hw (lv_sub hl [0, 1, 2] rfl)
theorem cn_X4_walk_234 (fu : Nat) {res : Int32 × PF × PG} (ag_7 : Int32 → Int32 → PF → PG → PR) (hagn_7 : ∀ (x1 : Int32) (x2 : Int32) (F : PF) (G : PG), ag_7 x1 x2 F G = some res → xn F ≤ xn res.2.1) (x1 : Int32) (x2 : Int32) (F : PF) (G : PG) (hm : cb_X4_walk_234 fu ag_7 x1 x2 F G = some res) : xn F ≤ xn res.2.1 := by
  unfold cb_X4_walk_234 at hm
  exact (cn_X4_walk_245 fu ag_7 hagn_7 x1 x2 F G hm)
theorem cw_X4_walk_234 (fu : Nat) {res : Int32 × PF × PG} (C : cMC p R s m args c A v RX4 cX4_walk 7 606 36140 (xn res.2.1 - xn K0)) (hret : ∀ (b1 : Nat) (H1 : Heap) (locs1 : List Loc) (ls1 : Array Slot) (pc : Nat), cMW s A v a b1 K0 res.2.1 res.2.2 H1 locs1 → narrow .int (.int res.1) = .int res.1 → decode cX4_walk pc = .ok (.ireturn, 1) → W p l e R s m args below meth c H1 locs1 (xn res.2.1 - xn K0) (2 * (xn res.2.1 - xn K0)) Q (F0 m pc ls1 [.int res.1])) (ag_7 : Int32 → Int32 → PF → PG → PR) (hag_7 : ∀ (x1 : Int32) (x2 : Int32) (F : PF) (G : PG), ag_7 x1 x2 F G = some res → ∀ (b : Nat) (H : Heap) (locs : List Loc) (ls : Array Slot), cMW s A v a b K0 F G H locs → lv_has ls 7 [(0, .ref (a 204)), (1, .int x1), (2, .int x2)] → W p l e R s m args below meth c H locs (xn F - xn K0) (2 * (xn F - xn K0)) Q (F0 m 7 ls [])) (hagn_7 : ∀ (x1 : Int32) (x2 : Int32) (F : PF) (G : PG), ag_7 x1 x2 F G = some res → xn F ≤ xn res.2.1) (x1 : Int32) (x2 : Int32) (F : PF) (G : PG) (hm : cb_X4_walk_234 fu ag_7 x1 x2 F G = some res) {b : Nat} {H : Heap} {locs : List Loc} (hw : cMW s A v a b K0 F G H locs) {ls : Array Slot} (hl : lv_has ls 7 [(0, .ref (a 204)), (1, .int x1), (2, .int x2)]) : W p l e R s m args below meth c H locs (xn F - xn K0) (2 * (xn F - xn K0)) Q (F0 m 234 ls []) := by
  have hx := C.1
  have hb := C.2.1
  unfold cb_X4_walk_234 at hm
  refine lv_goto (tgt := 245) hx hb dX4_walk_234 (by decide) ?_
  exact cw_X4_walk_245 fu C hret ag_7 hag_7 hagn_7 x1 x2 F G hm hw (lv_sub hl [0, 1, 2] rfl)
theorem cn_X4_walk_226 (fu : Nat) {res : Int32 × PF × PG} (ag_7 : Int32 → Int32 → PF → PG → PR) (hagn_7 : ∀ (x1 : Int32) (x2 : Int32) (F : PF) (G : PG), ag_7 x1 x2 F G = some res → xn F ≤ xn res.2.1) (x1 : Int32) (x2 : Int32) (x5 : Int32) (x6 : Int32) (F : PF) (G : PG) (hm : cb_X4_walk_226 fu ag_7 x1 x2 x5 x6 F G = some res) : xn F ≤ xn res.2.1 := by
  unfold cb_X4_walk_226 at hm
  obtain ⟨⟨r1, F1, G1⟩, hc, hm⟩ := bind_elim hm
  exact Nat.le_trans (cn_X4_globalInt fu x5 x6 F G _ hc) (cn_X4_walk_234 fu ag_7 hagn_7 x1 x2 F1 G1 hm)
theorem cw_X4_walk_226 (fu : Nat) {res : Int32 × PF × PG} (C : cMC p R s m args c A v RX4 cX4_walk 7 606 36140 (xn res.2.1 - xn K0)) (hret : ∀ (b1 : Nat) (H1 : Heap) (locs1 : List Loc) (ls1 : Array Slot) (pc : Nat), cMW s A v a b1 K0 res.2.1 res.2.2 H1 locs1 → narrow .int (.int res.1) = .int res.1 → decode cX4_walk pc = .ok (.ireturn, 1) → W p l e R s m args below meth c H1 locs1 (xn res.2.1 - xn K0) (2 * (xn res.2.1 - xn K0)) Q (F0 m pc ls1 [.int res.1])) (ag_7 : Int32 → Int32 → PF → PG → PR) (hag_7 : ∀ (x1 : Int32) (x2 : Int32) (F : PF) (G : PG), ag_7 x1 x2 F G = some res → ∀ (b : Nat) (H : Heap) (locs : List Loc) (ls : Array Slot), cMW s A v a b K0 F G H locs → lv_has ls 7 [(0, .ref (a 204)), (1, .int x1), (2, .int x2)] → W p l e R s m args below meth c H locs (xn F - xn K0) (2 * (xn F - xn K0)) Q (F0 m 7 ls [])) (hagn_7 : ∀ (x1 : Int32) (x2 : Int32) (F : PF) (G : PG), ag_7 x1 x2 F G = some res → xn F ≤ xn res.2.1) (x1 : Int32) (x2 : Int32) (x5 : Int32) (x6 : Int32) (F : PF) (G : PG) (hm : cb_X4_walk_226 fu ag_7 x1 x2 x5 x6 F G = some res) {b : Nat} {H : Heap} {locs : List Loc} (hw : cMW s A v a b K0 F G H locs) {ls : Array Slot} (hl : lv_has ls 7 [(0, .ref (a 204)), (1, .int x1), (2, .int x2), (5, .int x5), (6, .int x6)]) : W p l e R s m args below meth c H locs (xn F - xn K0) (2 * (xn F - xn K0)) Q (F0 m 226 ls []) := by
  have hx := C.1
  have hb := C.2.1
  unfold cb_X4_walk_226 at hm
  refine lv_aload_n hx hb dX4_walk_226 rfl (lv_at hl 0 rfl) ?_
  refine lv_iload hx hb dX4_walk_227 (lv_at hl 3 rfl) ?_
  refine lv_iload hx hb dX4_walk_229 (lv_at hl 4 rfl) ?_
  obtain ⟨⟨r1, F1, G1⟩, hc, hm⟩ := bind_elim hm
  refine ccallV (n := 2) (As := [.int x5, .int x6]) (rest := []) C hw (ck_X4_globalInt l v a _ _ fu x5 x6 F G r1 F1 G1 hc) (cn_X4_globalInt fu x5 x6 F G _ hc) (Nat.sub_le_sub_right (cn_X4_walk_234 fu ag_7 hagn_7 x1 x2 F1 G1 hm) _) (crecv_X4 C hw) cm_788 cm_789 cm_790 cm_244 cm_791 (by decide +kernel) rfl (by omega) (by omega) hl.1 rfl (Nat.le_of_ble_eq_true rfl) dX4_walk_231 (fun b H locs hw => ?_)
  exact cw_X4_walk_234 fu C hret ag_7 hag_7 hagn_7 x1 x2 F1 G1 hm hw (lv_sub hl [0, 1, 2] rfl)
theorem cn_X4_walk_220 (fu : Nat) {res : Int32 × PF × PG} (ag_7 : Int32 → Int32 → PF → PG → PR) (hagn_7 : ∀ (x1 : Int32) (x2 : Int32) (F : PF) (G : PG), ag_7 x1 x2 F G = some res → xn F ≤ xn res.2.1) (x1 : Int32) (x2 : Int32) (x4 : Int32) (x5 : Int32) (x6 : Int32) (F : PF) (G : PG) (hm : cb_X4_walk_220 fu ag_7 x1 x2 x4 x5 x6 F G = some res) : xn F ≤ xn res.2.1 := by
  unfold cb_X4_walk_220 at hm
  by_cases c_1 : x4 = (4 : Int32)
  · have hm := (if_pos c_1).symm.trans hm
    exact (cn_X4_walk_226 fu ag_7 hagn_7 x1 x2 x5 x6 F G hm)
  · have hm := (if_neg c_1).symm.trans hm
    exact (cn_X4_walk_237 fu ag_7 hagn_7 x1 x2 F G hm)
theorem cw_X4_walk_220 (fu : Nat) {res : Int32 × PF × PG} (C : cMC p R s m args c A v RX4 cX4_walk 7 606 36140 (xn res.2.1 - xn K0)) (hret : ∀ (b1 : Nat) (H1 : Heap) (locs1 : List Loc) (ls1 : Array Slot) (pc : Nat), cMW s A v a b1 K0 res.2.1 res.2.2 H1 locs1 → narrow .int (.int res.1) = .int res.1 → decode cX4_walk pc = .ok (.ireturn, 1) → W p l e R s m args below meth c H1 locs1 (xn res.2.1 - xn K0) (2 * (xn res.2.1 - xn K0)) Q (F0 m pc ls1 [.int res.1])) (ag_7 : Int32 → Int32 → PF → PG → PR) (hag_7 : ∀ (x1 : Int32) (x2 : Int32) (F : PF) (G : PG), ag_7 x1 x2 F G = some res → ∀ (b : Nat) (H : Heap) (locs : List Loc) (ls : Array Slot), cMW s A v a b K0 F G H locs → lv_has ls 7 [(0, .ref (a 204)), (1, .int x1), (2, .int x2)] → W p l e R s m args below meth c H locs (xn F - xn K0) (2 * (xn F - xn K0)) Q (F0 m 7 ls [])) (hagn_7 : ∀ (x1 : Int32) (x2 : Int32) (F : PF) (G : PG), ag_7 x1 x2 F G = some res → xn F ≤ xn res.2.1) (x1 : Int32) (x2 : Int32) (x4 : Int32) (x5 : Int32) (x6 : Int32) (F : PF) (G : PG) (hm : cb_X4_walk_220 fu ag_7 x1 x2 x4 x5 x6 F G = some res) {b : Nat} {H : Heap} {locs : List Loc} (hw : cMW s A v a b K0 F G H locs) {ls : Array Slot} (hl : lv_has ls 7 [(0, .ref (a 204)), (1, .int x1), (2, .int x2), (4, .int x4), (5, .int x5), (6, .int x6)]) : W p l e R s m args below meth c H locs (xn F - xn K0) (2 * (xn F - xn K0)) Q (F0 m 220 ls []) := by
  have hx := C.1
  have hb := C.2.1
  unfold cb_X4_walk_220 at hm
  refine lv_iload hx hb dX4_walk_220 (lv_at hl 3 rfl) ?_
  refine lv_iconst (v := 4) hx hb dX4_walk_222 (by decide) ?_
  refine lv_icmp_ne (tgt := 237) hx hb dX4_walk_223 (by decide) (fun c_1 => ?_) (fun c_1 => ?_)
  · have hm := (if_neg c_1).symm.trans hm
    exact cw_X4_walk_237 fu C hret ag_7 hag_7 hagn_7 x1 x2 F G hm hw (lv_sub hl [0, 1, 2] rfl)
  · have hm := (if_pos c_1).symm.trans hm
    exact cw_X4_walk_226 fu C hret ag_7 hag_7 hagn_7 x1 x2 x5 x6 F G hm hw (lv_sub hl [0, 1, 2, 4, 5] rfl)
theorem cn_X4_walk_217 (fu : Nat) {res : Int32 × PF × PG} (ag_7 : Int32 → Int32 → PF → PG → PR) (hagn_7 : ∀ (x1 : Int32) (x2 : Int32) (F : PF) (G : PG), ag_7 x1 x2 F G = some res → xn F ≤ xn res.2.1) (x1 : Int32) (x2 : Int32) (F : PF) (G : PG) (hm : cb_X4_walk_217 fu ag_7 x1 x2 F G = some res) : xn F ≤ xn res.2.1 := by
  unfold cb_X4_walk_217 at hm
  exact (cn_X4_walk_245 fu ag_7 hagn_7 x1 x2 F G hm)
theorem cw_X4_walk_217 (fu : Nat) {res : Int32 × PF × PG} (C : cMC p R s m args c A v RX4 cX4_walk 7 606 36140 (xn res.2.1 - xn K0)) (hret : ∀ (b1 : Nat) (H1 : Heap) (locs1 : List Loc) (ls1 : Array Slot) (pc : Nat), cMW s A v a b1 K0 res.2.1 res.2.2 H1 locs1 → narrow .int (.int res.1) = .int res.1 → decode cX4_walk pc = .ok (.ireturn, 1) → W p l e R s m args below meth c H1 locs1 (xn res.2.1 - xn K0) (2 * (xn res.2.1 - xn K0)) Q (F0 m pc ls1 [.int res.1])) (ag_7 : Int32 → Int32 → PF → PG → PR) (hag_7 : ∀ (x1 : Int32) (x2 : Int32) (F : PF) (G : PG), ag_7 x1 x2 F G = some res → ∀ (b : Nat) (H : Heap) (locs : List Loc) (ls : Array Slot), cMW s A v a b K0 F G H locs → lv_has ls 7 [(0, .ref (a 204)), (1, .int x1), (2, .int x2)] → W p l e R s m args below meth c H locs (xn F - xn K0) (2 * (xn F - xn K0)) Q (F0 m 7 ls [])) (hagn_7 : ∀ (x1 : Int32) (x2 : Int32) (F : PF) (G : PG), ag_7 x1 x2 F G = some res → xn F ≤ xn res.2.1) (x1 : Int32) (x2 : Int32) (F : PF) (G : PG) (hm : cb_X4_walk_217 fu ag_7 x1 x2 F G = some res) {b : Nat} {H : Heap} {locs : List Loc} (hw : cMW s A v a b K0 F G H locs) {ls : Array Slot} (hl : lv_has ls 7 [(0, .ref (a 204)), (1, .int x1), (2, .int x2)]) : W p l e R s m args below meth c H locs (xn F - xn K0) (2 * (xn F - xn K0)) Q (F0 m 217 ls []) := by
  have hx := C.1
  have hb := C.2.1
  unfold cb_X4_walk_217 at hm
  refine lv_goto (tgt := 245) hx hb dX4_walk_217 (by decide) ?_
  exact cw_X4_walk_245 fu C hret ag_7 hag_7 hagn_7 x1 x2 F G hm hw (lv_sub hl [0, 1, 2] rfl)
theorem cn_X4_walk_214 (fu : Nat) {res : Int32 × PF × PG} (ag_7 : Int32 → Int32 → PF → PG → PR) (hagn_7 : ∀ (x1 : Int32) (x2 : Int32) (F : PF) (G : PG), ag_7 x1 x2 F G = some res → xn F ≤ xn res.2.1) (x1 : Int32) (x2 : Int32) (z0 : Int32) (z1 : Int32) (z2 : Int32) (F : PF) (G : PG) (hm : cb_X4_walk_214 fu ag_7 x1 x2 z0 z1 z2 F G = some res) : xn F ≤ xn res.2.1 := by
  unfold cb_X4_walk_214 at hm
  obtain ⟨⟨r1, F1, G1⟩, hc, hm⟩ := bind_elim hm
  exact Nat.le_trans (cn_X4_globalArray fu z2 z1 z0 F G _ hc) (cn_X4_walk_217 fu ag_7 hagn_7 x1 x2 F1 G1 hm)
theorem cw_X4_walk_214 (fu : Nat) {res : Int32 × PF × PG} (C : cMC p R s m args c A v RX4 cX4_walk 7 606 36140 (xn res.2.1 - xn K0)) (hret : ∀ (b1 : Nat) (H1 : Heap) (locs1 : List Loc) (ls1 : Array Slot) (pc : Nat), cMW s A v a b1 K0 res.2.1 res.2.2 H1 locs1 → narrow .int (.int res.1) = .int res.1 → decode cX4_walk pc = .ok (.ireturn, 1) → W p l e R s m args below meth c H1 locs1 (xn res.2.1 - xn K0) (2 * (xn res.2.1 - xn K0)) Q (F0 m pc ls1 [.int res.1])) (ag_7 : Int32 → Int32 → PF → PG → PR) (hag_7 : ∀ (x1 : Int32) (x2 : Int32) (F : PF) (G : PG), ag_7 x1 x2 F G = some res → ∀ (b : Nat) (H : Heap) (locs : List Loc) (ls : Array Slot), cMW s A v a b K0 F G H locs → lv_has ls 7 [(0, .ref (a 204)), (1, .int x1), (2, .int x2)] → W p l e R s m args below meth c H locs (xn F - xn K0) (2 * (xn F - xn K0)) Q (F0 m 7 ls [])) (hagn_7 : ∀ (x1 : Int32) (x2 : Int32) (F : PF) (G : PG), ag_7 x1 x2 F G = some res → xn F ≤ xn res.2.1) (x1 : Int32) (x2 : Int32) (z0 : Int32) (z1 : Int32) (z2 : Int32) (F : PF) (G : PG) (hm : cb_X4_walk_214 fu ag_7 x1 x2 z0 z1 z2 F G = some res) {b : Nat} {H : Heap} {locs : List Loc} (hw : cMW s A v a b K0 F G H locs) {ls : Array Slot} (hl : lv_has ls 7 [(0, .ref (a 204)), (1, .int x1), (2, .int x2)]) : W p l e R s m args below meth c H locs (xn F - xn K0) (2 * (xn F - xn K0)) Q (F0 m 214 ls [.int z0, .int z1, .int z2, .ref (a 204)]) := by
  have hx := C.1
  have hb := C.2.1
  unfold cb_X4_walk_214 at hm
  obtain ⟨⟨r1, F1, G1⟩, hc, hm⟩ := bind_elim hm
  refine ccallV (n := 3) (As := [.int z2, .int z1, .int z0]) (rest := []) C hw (ck_X4_globalArray l v a _ _ fu z2 z1 z0 F G r1 F1 G1 hc) (cn_X4_globalArray fu z2 z1 z0 F G _ hc) (Nat.sub_le_sub_right (cn_X4_walk_217 fu ag_7 hagn_7 x1 x2 F1 G1 hm) _) (crecv_X4 C hw) cm_762 cm_763 cm_764 cm_244 cm_765 (by decide +kernel) rfl (by omega) (by omega) hl.1 rfl (Nat.le_of_ble_eq_true rfl) dX4_walk_214 (fun b H locs hw => ?_)
  exact cw_X4_walk_217 fu C hret ag_7 hag_7 hagn_7 x1 x2 F1 G1 hm hw (lv_sub hl [0, 1, 2] rfl)
theorem cn_X4_walk_213 (fu : Nat) {res : Int32 × PF × PG} (ag_7 : Int32 → Int32 → PF → PG → PR) (hagn_7 : ∀ (x1 : Int32) (x2 : Int32) (F : PF) (G : PG), ag_7 x1 x2 F G = some res → xn F ≤ xn res.2.1) (x1 : Int32) (x2 : Int32) (z0 : Int32) (z1 : Int32) (F : PF) (G : PG) (hm : cb_X4_walk_213 fu ag_7 x1 x2 z0 z1 F G = some res) : xn F ≤ xn res.2.1 := by
  unfold cb_X4_walk_213 at hm
  exact (cn_X4_walk_214 fu ag_7 hagn_7 x1 x2 3 z0 z1 F G hm)
theorem cw_X4_walk_213 (fu : Nat) {res : Int32 × PF × PG} (C : cMC p R s m args c A v RX4 cX4_walk 7 606 36140 (xn res.2.1 - xn K0)) (hret : ∀ (b1 : Nat) (H1 : Heap) (locs1 : List Loc) (ls1 : Array Slot) (pc : Nat), cMW s A v a b1 K0 res.2.1 res.2.2 H1 locs1 → narrow .int (.int res.1) = .int res.1 → decode cX4_walk pc = .ok (.ireturn, 1) → W p l e R s m args below meth c H1 locs1 (xn res.2.1 - xn K0) (2 * (xn res.2.1 - xn K0)) Q (F0 m pc ls1 [.int res.1])) (ag_7 : Int32 → Int32 → PF → PG → PR) (hag_7 : ∀ (x1 : Int32) (x2 : Int32) (F : PF) (G : PG), ag_7 x1 x2 F G = some res → ∀ (b : Nat) (H : Heap) (locs : List Loc) (ls : Array Slot), cMW s A v a b K0 F G H locs → lv_has ls 7 [(0, .ref (a 204)), (1, .int x1), (2, .int x2)] → W p l e R s m args below meth c H locs (xn F - xn K0) (2 * (xn F - xn K0)) Q (F0 m 7 ls [])) (hagn_7 : ∀ (x1 : Int32) (x2 : Int32) (F : PF) (G : PG), ag_7 x1 x2 F G = some res → xn F ≤ xn res.2.1) (x1 : Int32) (x2 : Int32) (z0 : Int32) (z1 : Int32) (F : PF) (G : PG) (hm : cb_X4_walk_213 fu ag_7 x1 x2 z0 z1 F G = some res) {b : Nat} {H : Heap} {locs : List Loc} (hw : cMW s A v a b K0 F G H locs) {ls : Array Slot} (hl : lv_has ls 7 [(0, .ref (a 204)), (1, .int x1), (2, .int x2)]) : W p l e R s m args below meth c H locs (xn F - xn K0) (2 * (xn F - xn K0)) Q (F0 m 213 ls [.int z0, .int z1, .ref (a 204)]) := by
  have hx := C.1
  have hb := C.2.1
  unfold cb_X4_walk_213 at hm
  refine lv_iconst (v := 3) hx hb dX4_walk_213 (by decide) ?_
  exact cw_X4_walk_214 fu C hret ag_7 hag_7 hagn_7 x1 x2 3 z0 z1 F G hm hw (lv_sub hl [0, 1, 2] rfl)
theorem cn_X4_walk_209 (fu : Nat) {res : Int32 × PF × PG} (ag_7 : Int32 → Int32 → PF → PG → PR) (hagn_7 : ∀ (x1 : Int32) (x2 : Int32) (F : PF) (G : PG), ag_7 x1 x2 F G = some res → xn F ≤ xn res.2.1) (x1 : Int32) (x2 : Int32) (z0 : Int32) (z1 : Int32) (F : PF) (G : PG) (hm : cb_X4_walk_209 fu ag_7 x1 x2 z0 z1 F G = some res) : xn F ≤ xn res.2.1 := by
  unfold cb_X4_walk_209 at hm
  exact (cn_X4_walk_214 fu ag_7 hagn_7 x1 x2 2 z0 z1 F G hm)
theorem cw_X4_walk_209 (fu : Nat) {res : Int32 × PF × PG} (C : cMC p R s m args c A v RX4 cX4_walk 7 606 36140 (xn res.2.1 - xn K0)) (hret : ∀ (b1 : Nat) (H1 : Heap) (locs1 : List Loc) (ls1 : Array Slot) (pc : Nat), cMW s A v a b1 K0 res.2.1 res.2.2 H1 locs1 → narrow .int (.int res.1) = .int res.1 → decode cX4_walk pc = .ok (.ireturn, 1) → W p l e R s m args below meth c H1 locs1 (xn res.2.1 - xn K0) (2 * (xn res.2.1 - xn K0)) Q (F0 m pc ls1 [.int res.1])) (ag_7 : Int32 → Int32 → PF → PG → PR) (hag_7 : ∀ (x1 : Int32) (x2 : Int32) (F : PF) (G : PG), ag_7 x1 x2 F G = some res → ∀ (b : Nat) (H : Heap) (locs : List Loc) (ls : Array Slot), cMW s A v a b K0 F G H locs → lv_has ls 7 [(0, .ref (a 204)), (1, .int x1), (2, .int x2)] → W p l e R s m args below meth c H locs (xn F - xn K0) (2 * (xn F - xn K0)) Q (F0 m 7 ls [])) (hagn_7 : ∀ (x1 : Int32) (x2 : Int32) (F : PF) (G : PG), ag_7 x1 x2 F G = some res → xn F ≤ xn res.2.1) (x1 : Int32) (x2 : Int32) (z0 : Int32) (z1 : Int32) (F : PF) (G : PG) (hm : cb_X4_walk_209 fu ag_7 x1 x2 z0 z1 F G = some res) {b : Nat} {H : Heap} {locs : List Loc} (hw : cMW s A v a b K0 F G H locs) {ls : Array Slot} (hl : lv_has ls 7 [(0, .ref (a 204)), (1, .int x1), (2, .int x2)]) : W p l e R s m args below meth c H locs (xn F - xn K0) (2 * (xn F - xn K0)) Q (F0 m 209 ls [.int z0, .int z1, .ref (a 204)]) := by
  have hx := C.1
  have hb := C.2.1
  unfold cb_X4_walk_209 at hm
  refine lv_iconst (v := 2) hx hb dX4_walk_209 (by decide) ?_
  refine lv_goto (tgt := 214) hx hb dX4_walk_210 (by decide) ?_
  exact cw_X4_walk_214 fu C hret ag_7 hag_7 hagn_7 x1 x2 2 z0 z1 F G hm hw (lv_sub hl [0, 1, 2] rfl)
theorem cn_X4_walk_198 (fu : Nat) {res : Int32 × PF × PG} (ag_7 : Int32 → Int32 → PF → PG → PR) (hagn_7 : ∀ (x1 : Int32) (x2 : Int32) (F : PF) (G : PG), ag_7 x1 x2 F G = some res → xn F ≤ xn res.2.1) (x1 : Int32) (x2 : Int32) (x4 : Int32) (x5 : Int32) (x6 : Int32) (F : PF) (G : PG) (hm : cb_X4_walk_198 fu ag_7 x1 x2 x4 x5 x6 F G = some res) : xn F ≤ xn res.2.1 := by
  unfold cb_X4_walk_198 at hm
  by_cases c_1 : x4 = (4 : Int32)
  · have hm := (if_pos c_1).symm.trans hm
    exact (cn_X4_walk_209 fu ag_7 hagn_7 x1 x2 x6 x5 F G hm)
  · have hm := (if_neg c_1).symm.trans hm
    exact (cn_X4_walk_213 fu ag_7 hagn_7 x1 x2 x6 x5 F G hm)
theorem cw_X4_walk_198 (fu : Nat) {res : Int32 × PF × PG} (C : cMC p R s m args c A v RX4 cX4_walk 7 606 36140 (xn res.2.1 - xn K0)) (hret : ∀ (b1 : Nat) (H1 : Heap) (locs1 : List Loc) (ls1 : Array Slot) (pc : Nat), cMW s A v a b1 K0 res.2.1 res.2.2 H1 locs1 → narrow .int (.int res.1) = .int res.1 → decode cX4_walk pc = .ok (.ireturn, 1) → W p l e R s m args below meth c H1 locs1 (xn res.2.1 - xn K0) (2 * (xn res.2.1 - xn K0)) Q (F0 m pc ls1 [.int res.1])) (ag_7 : Int32 → Int32 → PF → PG → PR) (hag_7 : ∀ (x1 : Int32) (x2 : Int32) (F : PF) (G : PG), ag_7 x1 x2 F G = some res → ∀ (b : Nat) (H : Heap) (locs : List Loc) (ls : Array Slot), cMW s A v a b K0 F G H locs → lv_has ls 7 [(0, .ref (a 204)), (1, .int x1), (2, .int x2)] → W p l e R s m args below meth c H locs (xn F - xn K0) (2 * (xn F - xn K0)) Q (F0 m 7 ls [])) (hagn_7 : ∀ (x1 : Int32) (x2 : Int32) (F : PF) (G : PG), ag_7 x1 x2 F G = some res → xn F ≤ xn res.2.1) (x1 : Int32) (x2 : Int32) (x4 : Int32) (x5 : Int32) (x6 : Int32) (F : PF) (G : PG) (hm : cb_X4_walk_198 fu ag_7 x1 x2 x4 x5 x6 F G = some res) {b : Nat} {H : Heap} {locs : List Loc} (hw : cMW s A v a b K0 F G H locs) {ls : Array Slot} (hl : lv_has ls 7 [(0, .ref (a 204)), (1, .int x1), (2, .int x2), (4, .int x4), (5, .int x5), (6, .int x6)]) : W p l e R s m args below meth c H locs (xn F - xn K0) (2 * (xn F - xn K0)) Q (F0 m 198 ls []) := by
  have hx := C.1
  have hb := C.2.1
  unfold cb_X4_walk_198 at hm
  refine lv_aload_n hx hb dX4_walk_198 rfl (lv_at hl 0 rfl) ?_
  refine lv_iload hx hb dX4_walk_199 (lv_at hl 4 rfl) ?_
  refine lv_iload hx hb dX4_walk_201 (lv_at hl 5 rfl) ?_
  refine lv_iload hx hb dX4_walk_203 (lv_at hl 3 rfl) ?_
  refine lv_iconst (v := 4) hx hb dX4_walk_205 (by decide) ?_
  refine lv_icmp_ne (tgt := 213) hx hb dX4_walk_206 (by decide) (fun c_1 => ?_) (fun c_1 => ?_)
  · have hm := (if_neg c_1).symm.trans hm
    exact cw_X4_walk_213 fu C hret ag_7 hag_7 hagn_7 x1 x2 x6 x5 F G hm hw (lv_sub hl [0, 1, 2] rfl)
  · have hm := (if_pos c_1).symm.trans hm
    exact cw_X4_walk_209 fu C hret ag_7 hag_7 hagn_7 x1 x2 x6 x5 F G hm hw (lv_sub hl [0, 1, 2] rfl)
theorem cn_X4_walk_191 (fu : Nat) {res : Int32 × PF × PG} (ag_7 : Int32 → Int32 → PF → PG → PR) (hagn_7 : ∀ (x1 : Int32) (x2 : Int32) (F : PF) (G : PG), ag_7 x1 x2 F G = some res → xn F ≤ xn res.2.1) (x1 : Int32) (x2 : Int32) (x4 : Int32) (x5 : Int32) (x6 : Int32) (F : PF) (G : PG) (hm : cb_X4_walk_191 fu ag_7 x1 x2 x4 x5 x6 F G = some res) : xn F ≤ xn res.2.1 := by
  unfold cb_X4_walk_191 at hm
  by_cases c_1 : x4 = (6 : Int32)
  · have hm := (if_pos c_1).symm.trans hm
    exact (cn_X4_walk_220 fu ag_7 hagn_7 x1 x2 x4 x5 x6 F G hm)
  · have hm := (if_neg c_1).symm.trans hm
    exact (cn_X4_walk_198 fu ag_7 hagn_7 x1 x2 x4 x5 x6 F G hm)
theorem cw_X4_walk_191 (fu : Nat) {res : Int32 × PF × PG} (C : cMC p R s m args c A v RX4 cX4_walk 7 606 36140 (xn res.2.1 - xn K0)) (hret : ∀ (b1 : Nat) (H1 : Heap) (locs1 : List Loc) (ls1 : Array Slot) (pc : Nat), cMW s A v a b1 K0 res.2.1 res.2.2 H1 locs1 → narrow .int (.int res.1) = .int res.1 → decode cX4_walk pc = .ok (.ireturn, 1) → W p l e R s m args below meth c H1 locs1 (xn res.2.1 - xn K0) (2 * (xn res.2.1 - xn K0)) Q (F0 m pc ls1 [.int res.1])) (ag_7 : Int32 → Int32 → PF → PG → PR) (hag_7 : ∀ (x1 : Int32) (x2 : Int32) (F : PF) (G : PG), ag_7 x1 x2 F G = some res → ∀ (b : Nat) (H : Heap) (locs : List Loc) (ls : Array Slot), cMW s A v a b K0 F G H locs → lv_has ls 7 [(0, .ref (a 204)), (1, .int x1), (2, .int x2)] → W p l e R s m args below meth c H locs (xn F - xn K0) (2 * (xn F - xn K0)) Q (F0 m 7 ls [])) (hagn_7 : ∀ (x1 : Int32) (x2 : Int32) (F : PF) (G : PG), ag_7 x1 x2 F G = some res → xn F ≤ xn res.2.1) (x1 : Int32) (x2 : Int32) (x4 : Int32) (x5 : Int32) (x6 : Int32) (F : PF) (G : PG) (hm : cb_X4_walk_191 fu ag_7 x1 x2 x4 x5 x6 F G = some res) {b : Nat} {H : Heap} {locs : List Loc} (hw : cMW s A v a b K0 F G H locs) {ls : Array Slot} (hl : lv_has ls 7 [(0, .ref (a 204)), (1, .int x1), (2, .int x2), (4, .int x4), (5, .int x5), (6, .int x6)]) : W p l e R s m args below meth c H locs (xn F - xn K0) (2 * (xn F - xn K0)) Q (F0 m 191 ls []) := by
  have hx := C.1
  have hb := C.2.1
  unfold cb_X4_walk_191 at hm
  refine lv_iload hx hb dX4_walk_191 (lv_at hl 3 rfl) ?_
  refine lv_bipush (v := 6) hx hb dX4_walk_193 (by decide) ?_
  refine lv_icmp_eq (tgt := 220) hx hb dX4_walk_195 (by decide) (fun c_1 => ?_) (fun c_1 => ?_)
  · have hm := (if_pos c_1).symm.trans hm
    exact cw_X4_walk_220 fu C hret ag_7 hag_7 hagn_7 x1 x2 x4 x5 x6 F G hm hw (lv_sub hl [0, 1, 2, 3, 4, 5] rfl)
  · have hm := (if_neg c_1).symm.trans hm
    exact cw_X4_walk_198 fu C hret ag_7 hag_7 hagn_7 x1 x2 x4 x5 x6 F G hm hw (lv_sub hl [0, 1, 2, 3, 4, 5] rfl)
theorem cn_X4_walk_179 (fu : Nat) {res : Int32 × PF × PG} (ag_7 : Int32 → Int32 → PF → PG → PR) (hagn_7 : ∀ (x1 : Int32) (x2 : Int32) (F : PF) (G : PG), ag_7 x1 x2 F G = some res → xn F ≤ xn res.2.1) (x1 : Int32) (x2 : Int32) (x4 : Int32) (x5 : Int32) (x6 : Int32) (F : PF) (G : PG) (hm : cb_X4_walk_179 fu ag_7 x1 x2 x4 x5 x6 F G = some res) : xn F ≤ xn res.2.1 := by
  unfold cb_X4_walk_179 at hm
  by_cases c_1 : (F 11) = (21 : Int32)
  · have hm := (if_pos c_1).symm.trans hm
    exact (cn_X4_walk_191 fu ag_7 hagn_7 x1 x2 x4 x5 x6 F G hm)
  · have hm := (if_neg c_1).symm.trans hm
    exact (cn_X4_walk_220 fu ag_7 hagn_7 x1 x2 x4 x5 x6 F G hm)
theorem cw_X4_walk_179 (fu : Nat) {res : Int32 × PF × PG} (C : cMC p R s m args c A v RX4 cX4_walk 7 606 36140 (xn res.2.1 - xn K0)) (hret : ∀ (b1 : Nat) (H1 : Heap) (locs1 : List Loc) (ls1 : Array Slot) (pc : Nat), cMW s A v a b1 K0 res.2.1 res.2.2 H1 locs1 → narrow .int (.int res.1) = .int res.1 → decode cX4_walk pc = .ok (.ireturn, 1) → W p l e R s m args below meth c H1 locs1 (xn res.2.1 - xn K0) (2 * (xn res.2.1 - xn K0)) Q (F0 m pc ls1 [.int res.1])) (ag_7 : Int32 → Int32 → PF → PG → PR) (hag_7 : ∀ (x1 : Int32) (x2 : Int32) (F : PF) (G : PG), ag_7 x1 x2 F G = some res → ∀ (b : Nat) (H : Heap) (locs : List Loc) (ls : Array Slot), cMW s A v a b K0 F G H locs → lv_has ls 7 [(0, .ref (a 204)), (1, .int x1), (2, .int x2)] → W p l e R s m args below meth c H locs (xn F - xn K0) (2 * (xn F - xn K0)) Q (F0 m 7 ls [])) (hagn_7 : ∀ (x1 : Int32) (x2 : Int32) (F : PF) (G : PG), ag_7 x1 x2 F G = some res → xn F ≤ xn res.2.1) (x1 : Int32) (x2 : Int32) (x4 : Int32) (x5 : Int32) (x6 : Int32) (F : PF) (G : PG) (hm : cb_X4_walk_179 fu ag_7 x1 x2 x4 x5 x6 F G = some res) {b : Nat} {H : Heap} {locs : List Loc} (hw : cMW s A v a b K0 F G H locs) {ls : Array Slot} (hl : lv_has ls 7 [(0, .ref (a 204)), (1, .int x1), (2, .int x2), (4, .int x4), (5, .int x5), (6, .int x6)]) : W p l e R s m args below meth c H locs (xn F - xn K0) (2 * (xn F - xn K0)) Q (F0 m 179 ls []) := by
  have hx := C.1
  have hb := C.2.1
  unfold cb_X4_walk_179 at hm
  refine lv_aload_n hx hb dX4_walk_179 rfl (lv_at hl 0 rfl) ?_
  refine cg_X4_9 C hw dX4_walk_180 ?_
  refine cg_X4_52 C hw dX4_walk_183 ?_
  refine lv_bipush (v := 21) hx hb dX4_walk_186 (by decide) ?_
  refine lv_icmp_ne (tgt := 220) hx hb dX4_walk_188 (by decide) (fun c_1 => ?_) (fun c_1 => ?_)
  · have hm := (if_neg c_1).symm.trans hm
    exact cw_X4_walk_220 fu C hret ag_7 hag_7 hagn_7 x1 x2 x4 x5 x6 F G hm hw (lv_sub hl [0, 1, 2, 3, 4, 5] rfl)
  · have hm := (if_pos c_1).symm.trans hm
    exact cw_X4_walk_191 fu C hret ag_7 hag_7 hagn_7 x1 x2 x4 x5 x6 F G hm hw (lv_sub hl [0, 1, 2, 3, 4, 5] rfl)
theorem cn_X4_walk_176 (fu : Nat) {res : Int32 × PF × PG} (ag_7 : Int32 → Int32 → PF → PG → PR) (hagn_7 : ∀ (x1 : Int32) (x2 : Int32) (F : PF) (G : PG), ag_7 x1 x2 F G = some res → xn F ≤ xn res.2.1) (x1 : Int32) (x2 : Int32) (F : PF) (G : PG) (hm : cb_X4_walk_176 fu ag_7 x1 x2 F G = some res) : xn F ≤ xn res.2.1 := by
  unfold cb_X4_walk_176 at hm
  exact (cn_X4_walk_245 fu ag_7 hagn_7 x1 x2 F G hm)
theorem cw_X4_walk_176 (fu : Nat) {res : Int32 × PF × PG} (C : cMC p R s m args c A v RX4 cX4_walk 7 606 36140 (xn res.2.1 - xn K0)) (hret : ∀ (b1 : Nat) (H1 : Heap) (locs1 : List Loc) (ls1 : Array Slot) (pc : Nat), cMW s A v a b1 K0 res.2.1 res.2.2 H1 locs1 → narrow .int (.int res.1) = .int res.1 → decode cX4_walk pc = .ok (.ireturn, 1) → W p l e R s m args below meth c H1 locs1 (xn res.2.1 - xn K0) (2 * (xn res.2.1 - xn K0)) Q (F0 m pc ls1 [.int res.1])) (ag_7 : Int32 → Int32 → PF → PG → PR) (hag_7 : ∀ (x1 : Int32) (x2 : Int32) (F : PF) (G : PG), ag_7 x1 x2 F G = some res → ∀ (b : Nat) (H : Heap) (locs : List Loc) (ls : Array Slot), cMW s A v a b K0 F G H locs → lv_has ls 7 [(0, .ref (a 204)), (1, .int x1), (2, .int x2)] → W p l e R s m args below meth c H locs (xn F - xn K0) (2 * (xn F - xn K0)) Q (F0 m 7 ls [])) (hagn_7 : ∀ (x1 : Int32) (x2 : Int32) (F : PF) (G : PG), ag_7 x1 x2 F G = some res → xn F ≤ xn res.2.1) (x1 : Int32) (x2 : Int32) (F : PF) (G : PG) (hm : cb_X4_walk_176 fu ag_7 x1 x2 F G = some res) {b : Nat} {H : Heap} {locs : List Loc} (hw : cMW s A v a b K0 F G H locs) {ls : Array Slot} (hl : lv_has ls 7 [(0, .ref (a 204)), (1, .int x1), (2, .int x2)]) : W p l e R s m args below meth c H locs (xn F - xn K0) (2 * (xn F - xn K0)) Q (F0 m 176 ls []) := by
  have hx := C.1
  have hb := C.2.1
  unfold cb_X4_walk_176 at hm
  refine lv_goto (tgt := 245) hx hb dX4_walk_176 (by decide) ?_
  exact cw_X4_walk_245 fu C hret ag_7 hag_7 hagn_7 x1 x2 F G hm hw (lv_sub hl [0, 1, 2] rfl)
theorem cn_X4_walk_172 (fu : Nat) {res : Int32 × PF × PG} (ag_7 : Int32 → Int32 → PF → PG → PR) (hagn_7 : ∀ (x1 : Int32) (x2 : Int32) (F : PF) (G : PG), ag_7 x1 x2 F G = some res → xn F ≤ xn res.2.1) (x1 : Int32) (x2 : Int32) (F : PF) (G : PG) (hm : cb_X4_walk_172 fu ag_7 x1 x2 F G = some res) : xn F ≤ xn res.2.1 := by
  unfold cb_X4_walk_172 at hm
  obtain ⟨⟨r1, F1, G1⟩, hc, hm⟩ := bind_elim hm
  exact Nat.le_trans (cn_X4_endFunction fu F G _ hc) (cn_X4_walk_176 fu ag_7 hagn_7 x1 x2 F1 G1 hm)
theorem cw_X4_walk_172 (fu : Nat) {res : Int32 × PF × PG} (C : cMC p R s m args c A v RX4 cX4_walk 7 606 36140 (xn res.2.1 - xn K0)) (hret : ∀ (b1 : Nat) (H1 : Heap) (locs1 : List Loc) (ls1 : Array Slot) (pc : Nat), cMW s A v a b1 K0 res.2.1 res.2.2 H1 locs1 → narrow .int (.int res.1) = .int res.1 → decode cX4_walk pc = .ok (.ireturn, 1) → W p l e R s m args below meth c H1 locs1 (xn res.2.1 - xn K0) (2 * (xn res.2.1 - xn K0)) Q (F0 m pc ls1 [.int res.1])) (ag_7 : Int32 → Int32 → PF → PG → PR) (hag_7 : ∀ (x1 : Int32) (x2 : Int32) (F : PF) (G : PG), ag_7 x1 x2 F G = some res → ∀ (b : Nat) (H : Heap) (locs : List Loc) (ls : Array Slot), cMW s A v a b K0 F G H locs → lv_has ls 7 [(0, .ref (a 204)), (1, .int x1), (2, .int x2)] → W p l e R s m args below meth c H locs (xn F - xn K0) (2 * (xn F - xn K0)) Q (F0 m 7 ls [])) (hagn_7 : ∀ (x1 : Int32) (x2 : Int32) (F : PF) (G : PG), ag_7 x1 x2 F G = some res → xn F ≤ xn res.2.1) (x1 : Int32) (x2 : Int32) (F : PF) (G : PG) (hm : cb_X4_walk_172 fu ag_7 x1 x2 F G = some res) {b : Nat} {H : Heap} {locs : List Loc} (hw : cMW s A v a b K0 F G H locs) {ls : Array Slot} (hl : lv_has ls 7 [(0, .ref (a 204)), (1, .int x1), (2, .int x2)]) : W p l e R s m args below meth c H locs (xn F - xn K0) (2 * (xn F - xn K0)) Q (F0 m 172 ls []) := by
  have hx := C.1
  have hb := C.2.1
  unfold cb_X4_walk_172 at hm
  refine lv_aload_n hx hb dX4_walk_172 rfl (lv_at hl 0 rfl) ?_
  obtain ⟨⟨r1, F1, G1⟩, hc, hm⟩ := bind_elim hm
  refine ccallV (n := 0) (As := []) (rest := []) C hw (ck_X4_endFunction l v a _ _ fu F G r1 F1 G1 hc) (cn_X4_endFunction fu F G _ hc) (Nat.sub_le_sub_right (cn_X4_walk_176 fu ag_7 hagn_7 x1 x2 F1 G1 hm) _) (crecv_X4 C hw) cm_756 cm_757 cm_758 cm_244 cm_759 (by decide +kernel) rfl (by omega) (by omega) hl.1 rfl (Nat.le_of_ble_eq_true rfl) dX4_walk_173 (fun b H locs hw => ?_)
  exact cw_X4_walk_176 fu C hret ag_7 hag_7 hagn_7 x1 x2 F1 G1 hm hw (lv_sub hl [0, 1, 2] rfl)
theorem cn_X4_walk_168 (fu : Nat) {res : Int32 × PF × PG} (ag_7 : Int32 → Int32 → PF → PG → PR) (hagn_7 : ∀ (x1 : Int32) (x2 : Int32) (F : PF) (G : PG), ag_7 x1 x2 F G = some res → xn F ≤ xn res.2.1) (x1 : Int32) (x2 : Int32) (F : PF) (G : PG) (hm : cb_X4_walk_168 fu ag_7 x1 x2 F G = some res) : xn F ≤ xn res.2.1 := by
  unfold cb_X4_walk_168 at hm
  obtain ⟨⟨r1, F1, G1⟩, hc, hm⟩ := bind_elim hm
  exact Nat.le_trans (cn_X4_block fu F G _ hc) (cn_X4_walk_172 fu ag_7 hagn_7 x1 x2 F1 G1 hm)
theorem cw_X4_walk_168 (fu : Nat) {res : Int32 × PF × PG} (C : cMC p R s m args c A v RX4 cX4_walk 7 606 36140 (xn res.2.1 - xn K0)) (hret : ∀ (b1 : Nat) (H1 : Heap) (locs1 : List Loc) (ls1 : Array Slot) (pc : Nat), cMW s A v a b1 K0 res.2.1 res.2.2 H1 locs1 → narrow .int (.int res.1) = .int res.1 → decode cX4_walk pc = .ok (.ireturn, 1) → W p l e R s m args below meth c H1 locs1 (xn res.2.1 - xn K0) (2 * (xn res.2.1 - xn K0)) Q (F0 m pc ls1 [.int res.1])) (ag_7 : Int32 → Int32 → PF → PG → PR) (hag_7 : ∀ (x1 : Int32) (x2 : Int32) (F : PF) (G : PG), ag_7 x1 x2 F G = some res → ∀ (b : Nat) (H : Heap) (locs : List Loc) (ls : Array Slot), cMW s A v a b K0 F G H locs → lv_has ls 7 [(0, .ref (a 204)), (1, .int x1), (2, .int x2)] → W p l e R s m args below meth c H locs (xn F - xn K0) (2 * (xn F - xn K0)) Q (F0 m 7 ls [])) (hagn_7 : ∀ (x1 : Int32) (x2 : Int32) (F : PF) (G : PG), ag_7 x1 x2 F G = some res → xn F ≤ xn res.2.1) (x1 : Int32) (x2 : Int32) (F : PF) (G : PG) (hm : cb_X4_walk_168 fu ag_7 x1 x2 F G = some res) {b : Nat} {H : Heap} {locs : List Loc} (hw : cMW s A v a b K0 F G H locs) {ls : Array Slot} (hl : lv_has ls 7 [(0, .ref (a 204)), (1, .int x1), (2, .int x2)]) : W p l e R s m args below meth c H locs (xn F - xn K0) (2 * (xn F - xn K0)) Q (F0 m 168 ls []) := by
  have hx := C.1
  have hb := C.2.1
  unfold cb_X4_walk_168 at hm
  refine lv_aload_n hx hb dX4_walk_168 rfl (lv_at hl 0 rfl) ?_
  obtain ⟨⟨r1, F1, G1⟩, hc, hm⟩ := bind_elim hm
  refine ccallV (n := 0) (As := []) (rest := []) C hw (ck_X4_block l v a _ _ fu F G r1 F1 G1 hc) (cn_X4_block fu F G _ hc) (Nat.sub_le_sub_right (cn_X4_walk_172 fu ag_7 hagn_7 x1 x2 F1 G1 hm) _) (crecv_X4 C hw) cm_643 cm_644 cm_645 cm_244 cm_646 (by decide +kernel) rfl (by omega) (by omega) hl.1 rfl (Nat.le_of_ble_eq_true rfl) dX4_walk_169 (fun b H locs hw => ?_)
  exact cw_X4_walk_172 fu C hret ag_7 hag_7 hagn_7 x1 x2 F1 G1 hm hw (lv_sub hl [0, 1, 2] rfl)
theorem cn_X4_walk_165 (fu : Nat) {res : Int32 × PF × PG} (ag_7 : Int32 → Int32 → PF → PG → PR) (hagn_7 : ∀ (x1 : Int32) (x2 : Int32) (F : PF) (G : PG), ag_7 x1 x2 F G = some res → xn F ≤ xn res.2.1) (x1 : Int32) (x2 : Int32) (z0 : Int32) (F : PF) (G : PG) (hm : cb_X4_walk_165 fu ag_7 x1 x2 z0 F G = some res) : xn F ≤ xn res.2.1 := by
  unfold cb_X4_walk_165 at hm
  obtain ⟨⟨r1, F1, G1⟩, hc, hm⟩ := bind_elim hm
  exact Nat.le_trans (cn_X4_formals fu z0 F G _ hc) (cn_X4_walk_168 fu ag_7 hagn_7 x1 x2 F1 G1 hm)
theorem cw_X4_walk_165 (fu : Nat) {res : Int32 × PF × PG} (C : cMC p R s m args c A v RX4 cX4_walk 7 606 36140 (xn res.2.1 - xn K0)) (hret : ∀ (b1 : Nat) (H1 : Heap) (locs1 : List Loc) (ls1 : Array Slot) (pc : Nat), cMW s A v a b1 K0 res.2.1 res.2.2 H1 locs1 → narrow .int (.int res.1) = .int res.1 → decode cX4_walk pc = .ok (.ireturn, 1) → W p l e R s m args below meth c H1 locs1 (xn res.2.1 - xn K0) (2 * (xn res.2.1 - xn K0)) Q (F0 m pc ls1 [.int res.1])) (ag_7 : Int32 → Int32 → PF → PG → PR) (hag_7 : ∀ (x1 : Int32) (x2 : Int32) (F : PF) (G : PG), ag_7 x1 x2 F G = some res → ∀ (b : Nat) (H : Heap) (locs : List Loc) (ls : Array Slot), cMW s A v a b K0 F G H locs → lv_has ls 7 [(0, .ref (a 204)), (1, .int x1), (2, .int x2)] → W p l e R s m args below meth c H locs (xn F - xn K0) (2 * (xn F - xn K0)) Q (F0 m 7 ls [])) (hagn_7 : ∀ (x1 : Int32) (x2 : Int32) (F : PF) (G : PG), ag_7 x1 x2 F G = some res → xn F ≤ xn res.2.1) (x1 : Int32) (x2 : Int32) (z0 : Int32) (F : PF) (G : PG) (hm : cb_X4_walk_165 fu ag_7 x1 x2 z0 F G = some res) {b : Nat} {H : Heap} {locs : List Loc} (hw : cMW s A v a b K0 F G H locs) {ls : Array Slot} (hl : lv_has ls 7 [(0, .ref (a 204)), (1, .int x1), (2, .int x2)]) : W p l e R s m args below meth c H locs (xn F - xn K0) (2 * (xn F - xn K0)) Q (F0 m 165 ls [.int z0, .ref (a 204)]) := by
  have hx := C.1
  have hb := C.2.1
  unfold cb_X4_walk_165 at hm
  obtain ⟨⟨r1, F1, G1⟩, hc, hm⟩ := bind_elim hm
  refine ccallV (n := 1) (As := [.int z0]) (rest := []) C hw (ck_X4_formals l v a _ _ fu z0 F G r1 F1 G1 hc) (cn_X4_formals fu z0 F G _ hc) (Nat.sub_le_sub_right (cn_X4_walk_168 fu ag_7 hagn_7 x1 x2 F1 G1 hm) _) (crecv_X4 C hw) cm_619 cm_620 cm_621 cm_244 cm_622 (by decide +kernel) rfl (by omega) (by omega) hl.1 rfl (Nat.le_of_ble_eq_true rfl) dX4_walk_165 (fun b H locs hw => ?_)
  exact cw_X4_walk_168 fu C hret ag_7 hag_7 hagn_7 x1 x2 F1 G1 hm hw (lv_sub hl [0, 1, 2] rfl)
theorem cn_X4_walk_164 (fu : Nat) {res : Int32 × PF × PG} (ag_7 : Int32 → Int32 → PF → PG → PR) (hagn_7 : ∀ (x1 : Int32) (x2 : Int32) (F : PF) (G : PG), ag_7 x1 x2 F G = some res → xn F ≤ xn res.2.1) (x1 : Int32) (x2 : Int32) (F : PF) (G : PG) (hm : cb_X4_walk_164 fu ag_7 x1 x2 F G = some res) : xn F ≤ xn res.2.1 := by
  unfold cb_X4_walk_164 at hm
  exact (cn_X4_walk_165 fu ag_7 hagn_7 x1 x2 0 F G hm)
theorem cw_X4_walk_164 (fu : Nat) {res : Int32 × PF × PG} (C : cMC p R s m args c A v RX4 cX4_walk 7 606 36140 (xn res.2.1 - xn K0)) (hret : ∀ (b1 : Nat) (H1 : Heap) (locs1 : List Loc) (ls1 : Array Slot) (pc : Nat), cMW s A v a b1 K0 res.2.1 res.2.2 H1 locs1 → narrow .int (.int res.1) = .int res.1 → decode cX4_walk pc = .ok (.ireturn, 1) → W p l e R s m args below meth c H1 locs1 (xn res.2.1 - xn K0) (2 * (xn res.2.1 - xn K0)) Q (F0 m pc ls1 [.int res.1])) (ag_7 : Int32 → Int32 → PF → PG → PR) (hag_7 : ∀ (x1 : Int32) (x2 : Int32) (F : PF) (G : PG), ag_7 x1 x2 F G = some res → ∀ (b : Nat) (H : Heap) (locs : List Loc) (ls : Array Slot), cMW s A v a b K0 F G H locs → lv_has ls 7 [(0, .ref (a 204)), (1, .int x1), (2, .int x2)] → W p l e R s m args below meth c H locs (xn F - xn K0) (2 * (xn F - xn K0)) Q (F0 m 7 ls [])) (hagn_7 : ∀ (x1 : Int32) (x2 : Int32) (F : PF) (G : PG), ag_7 x1 x2 F G = some res → xn F ≤ xn res.2.1) (x1 : Int32) (x2 : Int32) (F : PF) (G : PG) (hm : cb_X4_walk_164 fu ag_7 x1 x2 F G = some res) {b : Nat} {H : Heap} {locs : List Loc} (hw : cMW s A v a b K0 F G H locs) {ls : Array Slot} (hl : lv_has ls 7 [(0, .ref (a 204)), (1, .int x1), (2, .int x2)]) : W p l e R s m args below meth c H locs (xn F - xn K0) (2 * (xn F - xn K0)) Q (F0 m 164 ls [.ref (a 204)]) := by
  have hx := C.1
  have hb := C.2.1
  unfold cb_X4_walk_164 at hm
  refine lv_iconst (v := 0) hx hb dX4_walk_164 (by decide) ?_
  exact cw_X4_walk_165 fu C hret ag_7 hag_7 hagn_7 x1 x2 0 F G hm hw (lv_sub hl [0, 1, 2] rfl)
theorem cn_X4_walk_160 (fu : Nat) {res : Int32 × PF × PG} (ag_7 : Int32 → Int32 → PF → PG → PR) (hagn_7 : ∀ (x1 : Int32) (x2 : Int32) (F : PF) (G : PG), ag_7 x1 x2 F G = some res → xn F ≤ xn res.2.1) (x1 : Int32) (x2 : Int32) (F : PF) (G : PG) (hm : cb_X4_walk_160 fu ag_7 x1 x2 F G = some res) : xn F ≤ xn res.2.1 := by
  unfold cb_X4_walk_160 at hm
  exact (cn_X4_walk_165 fu ag_7 hagn_7 x1 x2 1 F G hm)
theorem cw_X4_walk_160 (fu : Nat) {res : Int32 × PF × PG} (C : cMC p R s m args c A v RX4 cX4_walk 7 606 36140 (xn res.2.1 - xn K0)) (hret : ∀ (b1 : Nat) (H1 : Heap) (locs1 : List Loc) (ls1 : Array Slot) (pc : Nat), cMW s A v a b1 K0 res.2.1 res.2.2 H1 locs1 → narrow .int (.int res.1) = .int res.1 → decode cX4_walk pc = .ok (.ireturn, 1) → W p l e R s m args below meth c H1 locs1 (xn res.2.1 - xn K0) (2 * (xn res.2.1 - xn K0)) Q (F0 m pc ls1 [.int res.1])) (ag_7 : Int32 → Int32 → PF → PG → PR) (hag_7 : ∀ (x1 : Int32) (x2 : Int32) (F : PF) (G : PG), ag_7 x1 x2 F G = some res → ∀ (b : Nat) (H : Heap) (locs : List Loc) (ls : Array Slot), cMW s A v a b K0 F G H locs → lv_has ls 7 [(0, .ref (a 204)), (1, .int x1), (2, .int x2)] → W p l e R s m args below meth c H locs (xn F - xn K0) (2 * (xn F - xn K0)) Q (F0 m 7 ls [])) (hagn_7 : ∀ (x1 : Int32) (x2 : Int32) (F : PF) (G : PG), ag_7 x1 x2 F G = some res → xn F ≤ xn res.2.1) (x1 : Int32) (x2 : Int32) (F : PF) (G : PG) (hm : cb_X4_walk_160 fu ag_7 x1 x2 F G = some res) {b : Nat} {H : Heap} {locs : List Loc} (hw : cMW s A v a b K0 F G H locs) {ls : Array Slot} (hl : lv_has ls 7 [(0, .ref (a 204)), (1, .int x1), (2, .int x2)]) : W p l e R s m args below meth c H locs (xn F - xn K0) (2 * (xn F - xn K0)) Q (F0 m 160 ls [.ref (a 204)]) := by
  have hx := C.1
  have hb := C.2.1
  unfold cb_X4_walk_160 at hm
  refine lv_iconst (v := 1) hx hb dX4_walk_160 (by decide) ?_
  refine lv_goto (tgt := 165) hx hb dX4_walk_161 (by decide) ?_
  exact cw_X4_walk_165 fu C hret ag_7 hag_7 hagn_7 x1 x2 1 F G hm hw (lv_sub hl [0, 1, 2] rfl)
theorem cn_X4_walk_150 (fu : Nat) {res : Int32 × PF × PG} (ag_7 : Int32 → Int32 → PF → PG → PR) (hagn_7 : ∀ (x1 : Int32) (x2 : Int32) (F : PF) (G : PG), ag_7 x1 x2 F G = some res → xn F ≤ xn res.2.1) (x1 : Int32) (x2 : Int32) (x5 : Int32) (F : PF) (G : PG) (hm : cb_X4_walk_150 fu ag_7 x1 x2 x5 F G = some res) : xn F ≤ xn res.2.1 := by
  unfold cb_X4_walk_150 at hm
  by_cases c_1 : x5 = (F 27)
  · have hm := (if_pos c_1).symm.trans hm
    exact (cn_X4_walk_160 fu ag_7 hagn_7 x1 x2 F G hm)
  · have hm := (if_neg c_1).symm.trans hm
    exact (cn_X4_walk_164 fu ag_7 hagn_7 x1 x2 F G hm)
theorem cw_X4_walk_150 (fu : Nat) {res : Int32 × PF × PG} (C : cMC p R s m args c A v RX4 cX4_walk 7 606 36140 (xn res.2.1 - xn K0)) (hret : ∀ (b1 : Nat) (H1 : Heap) (locs1 : List Loc) (ls1 : Array Slot) (pc : Nat), cMW s A v a b1 K0 res.2.1 res.2.2 H1 locs1 → narrow .int (.int res.1) = .int res.1 → decode cX4_walk pc = .ok (.ireturn, 1) → W p l e R s m args below meth c H1 locs1 (xn res.2.1 - xn K0) (2 * (xn res.2.1 - xn K0)) Q (F0 m pc ls1 [.int res.1])) (ag_7 : Int32 → Int32 → PF → PG → PR) (hag_7 : ∀ (x1 : Int32) (x2 : Int32) (F : PF) (G : PG), ag_7 x1 x2 F G = some res → ∀ (b : Nat) (H : Heap) (locs : List Loc) (ls : Array Slot), cMW s A v a b K0 F G H locs → lv_has ls 7 [(0, .ref (a 204)), (1, .int x1), (2, .int x2)] → W p l e R s m args below meth c H locs (xn F - xn K0) (2 * (xn F - xn K0)) Q (F0 m 7 ls [])) (hagn_7 : ∀ (x1 : Int32) (x2 : Int32) (F : PF) (G : PG), ag_7 x1 x2 F G = some res → xn F ≤ xn res.2.1) (x1 : Int32) (x2 : Int32) (x5 : Int32) (F : PF) (G : PG) (hm : cb_X4_walk_150 fu ag_7 x1 x2 x5 F G = some res) {b : Nat} {H : Heap} {locs : List Loc} (hw : cMW s A v a b K0 F G H locs) {ls : Array Slot} (hl : lv_has ls 7 [(0, .ref (a 204)), (1, .int x1), (2, .int x2), (5, .int x5)]) : W p l e R s m args below meth c H locs (xn F - xn K0) (2 * (xn F - xn K0)) Q (F0 m 150 ls []) := by
  have hx := C.1
  have hb := C.2.1
  unfold cb_X4_walk_150 at hm
  refine lv_aload_n hx hb dX4_walk_150 rfl (lv_at hl 0 rfl) ?_
  refine lv_iload hx hb dX4_walk_151 (lv_at hl 3 rfl) ?_
  refine lv_aload_n hx hb dX4_walk_153 rfl (lv_at hl 0 rfl) ?_
  refine cg_X4_31 C hw dX4_walk_154 ?_
  refine lv_icmp_ne (tgt := 164) hx hb dX4_walk_157 (by decide) (fun c_1 => ?_) (fun c_1 => ?_)
  · have hm := (if_neg c_1).symm.trans hm
    exact cw_X4_walk_164 fu C hret ag_7 hag_7 hagn_7 x1 x2 F G hm hw (lv_sub hl [0, 1, 2] rfl)
  · have hm := (if_pos c_1).symm.trans hm
    exact cw_X4_walk_160 fu C hret ag_7 hag_7 hagn_7 x1 x2 F G hm hw (lv_sub hl [0, 1, 2] rfl)
theorem cn_X4_walk_147 (fu : Nat) {res : Int32 × PF × PG} (ag_7 : Int32 → Int32 → PF → PG → PR) (hagn_7 : ∀ (x1 : Int32) (x2 : Int32) (F : PF) (G : PG), ag_7 x1 x2 F G = some res → xn F ≤ xn res.2.1) (x1 : Int32) (x2 : Int32) (x5 : Int32) (z0 : Int32) (z1 : Int32) (z2 : Int32) (F : PF) (G : PG) (hm : cb_X4_walk_147 fu ag_7 x1 x2 x5 z0 z1 z2 F G = some res) : xn F ≤ xn res.2.1 := by
  unfold cb_X4_walk_147 at hm
  obtain ⟨⟨r1, F1, G1⟩, hc, hm⟩ := bind_elim hm
  exact Nat.le_trans (cn_X4_startFunction fu z2 z1 z0 F G _ hc) (cn_X4_walk_150 fu ag_7 hagn_7 x1 x2 x5 F1 G1 hm)
theorem cw_X4_walk_147 (fu : Nat) {res : Int32 × PF × PG} (C : cMC p R s m args c A v RX4 cX4_walk 7 606 36140 (xn res.2.1 - xn K0)) (hret : ∀ (b1 : Nat) (H1 : Heap) (locs1 : List Loc) (ls1 : Array Slot) (pc : Nat), cMW s A v a b1 K0 res.2.1 res.2.2 H1 locs1 → narrow .int (.int res.1) = .int res.1 → decode cX4_walk pc = .ok (.ireturn, 1) → W p l e R s m args below meth c H1 locs1 (xn res.2.1 - xn K0) (2 * (xn res.2.1 - xn K0)) Q (F0 m pc ls1 [.int res.1])) (ag_7 : Int32 → Int32 → PF → PG → PR) (hag_7 : ∀ (x1 : Int32) (x2 : Int32) (F : PF) (G : PG), ag_7 x1 x2 F G = some res → ∀ (b : Nat) (H : Heap) (locs : List Loc) (ls : Array Slot), cMW s A v a b K0 F G H locs → lv_has ls 7 [(0, .ref (a 204)), (1, .int x1), (2, .int x2)] → W p l e R s m args below meth c H locs (xn F - xn K0) (2 * (xn F - xn K0)) Q (F0 m 7 ls [])) (hagn_7 : ∀ (x1 : Int32) (x2 : Int32) (F : PF) (G : PG), ag_7 x1 x2 F G = some res → xn F ≤ xn res.2.1) (x1 : Int32) (x2 : Int32) (x5 : Int32) (z0 : Int32) (z1 : Int32) (z2 : Int32) (F : PF) (G : PG) (hm : cb_X4_walk_147 fu ag_7 x1 x2 x5 z0 z1 z2 F G = some res) {b : Nat} {H : Heap} {locs : List Loc} (hw : cMW s A v a b K0 F G H locs) {ls : Array Slot} (hl : lv_has ls 7 [(0, .ref (a 204)), (1, .int x1), (2, .int x2), (5, .int x5)]) : W p l e R s m args below meth c H locs (xn F - xn K0) (2 * (xn F - xn K0)) Q (F0 m 147 ls [.int z0, .int z1, .int z2, .ref (a 204)]) := by
  have hx := C.1
  have hb := C.2.1
  unfold cb_X4_walk_147 at hm
  obtain ⟨⟨r1, F1, G1⟩, hc, hm⟩ := bind_elim hm
  refine ccallV (n := 3) (As := [.int z2, .int z1, .int z0]) (rest := []) C hw (ck_X4_startFunction l v a _ _ fu z2 z1 z0 F G r1 F1 G1 hc) (cn_X4_startFunction fu z2 z1 z0 F G _ hc) (Nat.sub_le_sub_right (cn_X4_walk_150 fu ag_7 hagn_7 x1 x2 x5 F1 G1 hm) _) (crecv_X4 C hw) cm_585 cm_586 cm_587 cm_244 cm_588 (by decide +kernel) rfl (by omega) (by omega) hl.1 rfl (Nat.le_of_ble_eq_true rfl) dX4_walk_147 (fun b H locs hw => ?_)
  exact cw_X4_walk_150 fu C hret ag_7 hag_7 hagn_7 x1 x2 x5 F1 G1 hm hw (lv_sub hl [0, 1, 2, 3] rfl)
theorem cn_X4_walk_146 (fu : Nat) {res : Int32 × PF × PG} (ag_7 : Int32 → Int32 → PF → PG → PR) (hagn_7 : ∀ (x1 : Int32) (x2 : Int32) (F : PF) (G : PG), ag_7 x1 x2 F G = some res → xn F ≤ xn res.2.1) (x1 : Int32) (x2 : Int32) (x5 : Int32) (z0 : Int32) (z1 : Int32) (F : PF) (G : PG) (hm : cb_X4_walk_146 fu ag_7 x1 x2 x5 z0 z1 F G = some res) : xn F ≤ xn res.2.1 := by
  unfold cb_X4_walk_146 at hm
  exact (cn_X4_walk_147 fu ag_7 hagn_7 x1 x2 x5 0 z0 z1 F G hm)
theorem cw_X4_walk_146 (fu : Nat) {res : Int32 × PF × PG} (C : cMC p R s m args c A v RX4 cX4_walk 7 606 36140 (xn res.2.1 - xn K0)) (hret : ∀ (b1 : Nat) (H1 : Heap) (locs1 : List Loc) (ls1 : Array Slot) (pc : Nat), cMW s A v a b1 K0 res.2.1 res.2.2 H1 locs1 → narrow .int (.int res.1) = .int res.1 → decode cX4_walk pc = .ok (.ireturn, 1) → W p l e R s m args below meth c H1 locs1 (xn res.2.1 - xn K0) (2 * (xn res.2.1 - xn K0)) Q (F0 m pc ls1 [.int res.1])) (ag_7 : Int32 → Int32 → PF → PG → PR) (hag_7 : ∀ (x1 : Int32) (x2 : Int32) (F : PF) (G : PG), ag_7 x1 x2 F G = some res → ∀ (b : Nat) (H : Heap) (locs : List Loc) (ls : Array Slot), cMW s A v a b K0 F G H locs → lv_has ls 7 [(0, .ref (a 204)), (1, .int x1), (2, .int x2)] → W p l e R s m args below meth c H locs (xn F - xn K0) (2 * (xn F - xn K0)) Q (F0 m 7 ls [])) (hagn_7 : ∀ (x1 : Int32) (x2 : Int32) (F : PF) (G : PG), ag_7 x1 x2 F G = some res → xn F ≤ xn res.2.1) (x1 : Int32) (x2 : Int32) (x5 : Int32) (z0 : Int32) (z1 : Int32) (F : PF) (G : PG) (hm : cb_X4_walk_146 fu ag_7 x1 x2 x5 z0 z1 F G = some res) {b : Nat} {H : Heap} {locs : List Loc} (hw : cMW s A v a b K0 F G H locs) {ls : Array Slot} (hl : lv_has ls 7 [(0, .ref (a 204)), (1, .int x1), (2, .int x2), (5, .int x5)]) : W p l e R s m args below meth c H locs (xn F - xn K0) (2 * (xn F - xn K0)) Q (F0 m 146 ls [.int z0, .int z1, .ref (a 204)]) := by
  have hx := C.1
  have hb := C.2.1
  unfold cb_X4_walk_146 at hm
  refine lv_iconst (v := 0) hx hb dX4_walk_146 (by decide) ?_
  exact cw_X4_walk_147 fu C hret ag_7 hag_7 hagn_7 x1 x2 x5 0 z0 z1 F G hm hw (lv_sub hl [0, 1, 2, 3] rfl)
theorem cn_X4_walk_142 (fu : Nat) {res : Int32 × PF × PG} (ag_7 : Int32 → Int32 → PF → PG → PR) (hagn_7 : ∀ (x1 : Int32) (x2 : Int32) (F : PF) (G : PG), ag_7 x1 x2 F G = some res → xn F ≤ xn res.2.1) (x1 : Int32) (x2 : Int32) (x5 : Int32) (z0 : Int32) (z1 : Int32) (F : PF) (G : PG) (hm : cb_X4_walk_142 fu ag_7 x1 x2 x5 z0 z1 F G = some res) : xn F ≤ xn res.2.1 := by
  unfold cb_X4_walk_142 at hm
  exact (cn_X4_walk_147 fu ag_7 hagn_7 x1 x2 x5 1 z0 z1 F G hm)
theorem cw_X4_walk_142 (fu : Nat) {res : Int32 × PF × PG} (C : cMC p R s m args c A v RX4 cX4_walk 7 606 36140 (xn res.2.1 - xn K0)) (hret : ∀ (b1 : Nat) (H1 : Heap) (locs1 : List Loc) (ls1 : Array Slot) (pc : Nat), cMW s A v a b1 K0 res.2.1 res.2.2 H1 locs1 → narrow .int (.int res.1) = .int res.1 → decode cX4_walk pc = .ok (.ireturn, 1) → W p l e R s m args below meth c H1 locs1 (xn res.2.1 - xn K0) (2 * (xn res.2.1 - xn K0)) Q (F0 m pc ls1 [.int res.1])) (ag_7 : Int32 → Int32 → PF → PG → PR) (hag_7 : ∀ (x1 : Int32) (x2 : Int32) (F : PF) (G : PG), ag_7 x1 x2 F G = some res → ∀ (b : Nat) (H : Heap) (locs : List Loc) (ls : Array Slot), cMW s A v a b K0 F G H locs → lv_has ls 7 [(0, .ref (a 204)), (1, .int x1), (2, .int x2)] → W p l e R s m args below meth c H locs (xn F - xn K0) (2 * (xn F - xn K0)) Q (F0 m 7 ls [])) (hagn_7 : ∀ (x1 : Int32) (x2 : Int32) (F : PF) (G : PG), ag_7 x1 x2 F G = some res → xn F ≤ xn res.2.1) (x1 : Int32) (x2 : Int32) (x5 : Int32) (z0 : Int32) (z1 : Int32) (F : PF) (G : PG) (hm : cb_X4_walk_142 fu ag_7 x1 x2 x5 z0 z1 F G = some res) {b : Nat} {H : Heap} {locs : List Loc} (hw : cMW s A v a b K0 F G H locs) {ls : Array Slot} (hl : lv_has ls 7 [(0, .ref (a 204)), (1, .int x1), (2, .int x2), (5, .int x5)]) : W p l e R s m args below meth c H locs (xn F - xn K0) (2 * (xn F - xn K0)) Q (F0 m 142 ls [.int z0, .int z1, .ref (a 204)]) := by
  have hx := C.1
  have hb := C.2.1
  unfold cb_X4_walk_142 at hm
  refine lv_iconst (v := 1) hx hb dX4_walk_142 (by decide) ?_
  refine lv_goto (tgt := 147) hx hb dX4_walk_143 (by decide) ?_
  exact cw_X4_walk_147 fu C hret ag_7 hag_7 hagn_7 x1 x2 x5 1 z0 z1 F G hm hw (lv_sub hl [0, 1, 2, 3] rfl)
theorem cn_X4_walk_131 (fu : Nat) {res : Int32 × PF × PG} (ag_7 : Int32 → Int32 → PF → PG → PR) (hagn_7 : ∀ (x1 : Int32) (x2 : Int32) (F : PF) (G : PG), ag_7 x1 x2 F G = some res → xn F ≤ xn res.2.1) (x1 : Int32) (x2 : Int32) (x4 : Int32) (x5 : Int32) (x6 : Int32) (F : PF) (G : PG) (hm : cb_X4_walk_131 fu ag_7 x1 x2 x4 x5 x6 F G = some res) : xn F ≤ xn res.2.1 := by
  unfold cb_X4_walk_131 at hm
  by_cases c_1 : x4 = (4 : Int32)
  · have hm := (if_pos c_1).symm.trans hm
    exact (cn_X4_walk_142 fu ag_7 hagn_7 x1 x2 x5 x6 x5 F G hm)
  · have hm := (if_neg c_1).symm.trans hm
    exact (cn_X4_walk_146 fu ag_7 hagn_7 x1 x2 x5 x6 x5 F G hm)
theorem cw_X4_walk_131 (fu : Nat) {res : Int32 × PF × PG} (C : cMC p R s m args c A v RX4 cX4_walk 7 606 36140 (xn res.2.1 - xn K0)) (hret : ∀ (b1 : Nat) (H1 : Heap) (locs1 : List Loc) (ls1 : Array Slot) (pc : Nat), cMW s A v a b1 K0 res.2.1 res.2.2 H1 locs1 → narrow .int (.int res.1) = .int res.1 → decode cX4_walk pc = .ok (.ireturn, 1) → W p l e R s m args below meth c H1 locs1 (xn res.2.1 - xn K0) (2 * (xn res.2.1 - xn K0)) Q (F0 m pc ls1 [.int res.1])) (ag_7 : Int32 → Int32 → PF → PG → PR) (hag_7 : ∀ (x1 : Int32) (x2 : Int32) (F : PF) (G : PG), ag_7 x1 x2 F G = some res → ∀ (b : Nat) (H : Heap) (locs : List Loc) (ls : Array Slot), cMW s A v a b K0 F G H locs → lv_has ls 7 [(0, .ref (a 204)), (1, .int x1), (2, .int x2)] → W p l e R s m args below meth c H locs (xn F - xn K0) (2 * (xn F - xn K0)) Q (F0 m 7 ls [])) (hagn_7 : ∀ (x1 : Int32) (x2 : Int32) (F : PF) (G : PG), ag_7 x1 x2 F G = some res → xn F ≤ xn res.2.1) (x1 : Int32) (x2 : Int32) (x4 : Int32) (x5 : Int32) (x6 : Int32) (F : PF) (G : PG) (hm : cb_X4_walk_131 fu ag_7 x1 x2 x4 x5 x6 F G = some res) {b : Nat} {H : Heap} {locs : List Loc} (hw : cMW s A v a b K0 F G H locs) {ls : Array Slot} (hl : lv_has ls 7 [(0, .ref (a 204)), (1, .int x1), (2, .int x2), (4, .int x4), (5, .int x5), (6, .int x6)]) : W p l e R s m args below meth c H locs (xn F - xn K0) (2 * (xn F - xn K0)) Q (F0 m 131 ls []) := by
  have hx := C.1
  have hb := C.2.1
  unfold cb_X4_walk_131 at hm
  refine lv_aload_n hx hb dX4_walk_131 rfl (lv_at hl 0 rfl) ?_
  refine lv_iload hx hb dX4_walk_132 (lv_at hl 4 rfl) ?_
  refine lv_iload hx hb dX4_walk_134 (lv_at hl 5 rfl) ?_
  refine lv_iload hx hb dX4_walk_136 (lv_at hl 3 rfl) ?_
  refine lv_iconst (v := 4) hx hb dX4_walk_138 (by decide) ?_
  refine lv_icmp_ne (tgt := 146) hx hb dX4_walk_139 (by decide) (fun c_1 => ?_) (fun c_1 => ?_)
  · have hm := (if_neg c_1).symm.trans hm
    exact cw_X4_walk_146 fu C hret ag_7 hag_7 hagn_7 x1 x2 x5 x6 x5 F G hm hw (lv_sub hl [0, 1, 2, 4] rfl)
  · have hm := (if_pos c_1).symm.trans hm
    exact cw_X4_walk_142 fu C hret ag_7 hag_7 hagn_7 x1 x2 x5 x6 x5 F G hm hw (lv_sub hl [0, 1, 2, 4] rfl)
theorem cn_X4_walk_125 (fu : Nat) {res : Int32 × PF × PG} (ag_7 : Int32 → Int32 → PF → PG → PR) (hagn_7 : ∀ (x1 : Int32) (x2 : Int32) (F : PF) (G : PG), ag_7 x1 x2 F G = some res → xn F ≤ xn res.2.1) (x1 : Int32) (x2 : Int32) (x4 : Int32) (x5 : Int32) (x6 : Int32) (F : PF) (G : PG) (hm : cb_X4_walk_125 fu ag_7 x1 x2 x4 x5 x6 F G = some res) : xn F ≤ xn res.2.1 := by
  unfold cb_X4_walk_125 at hm
  by_cases c_1 : x4 = (5 : Int32)
  · have hm := (if_pos c_1).symm.trans hm
    exact (cn_X4_walk_179 fu ag_7 hagn_7 x1 x2 x4 x5 x6 F G hm)
  · have hm := (if_neg c_1).symm.trans hm
    exact (cn_X4_walk_131 fu ag_7 hagn_7 x1 x2 x4 x5 x6 F G hm)
theorem cw_X4_walk_125 (fu : Nat) {res : Int32 × PF × PG} (C : cMC p R s m args c A v RX4 cX4_walk 7 606 36140 (xn res.2.1 - xn K0)) (hret : ∀ (b1 : Nat) (H1 : Heap) (locs1 : List Loc) (ls1 : Array Slot) (pc : Nat), cMW s A v a b1 K0 res.2.1 res.2.2 H1 locs1 → narrow .int (.int res.1) = .int res.1 → decode cX4_walk pc = .ok (.ireturn, 1) → W p l e R s m args below meth c H1 locs1 (xn res.2.1 - xn K0) (2 * (xn res.2.1 - xn K0)) Q (F0 m pc ls1 [.int res.1])) (ag_7 : Int32 → Int32 → PF → PG → PR) (hag_7 : ∀ (x1 : Int32) (x2 : Int32) (F : PF) (G : PG), ag_7 x1 x2 F G = some res → ∀ (b : Nat) (H : Heap) (locs : List Loc) (ls : Array Slot), cMW s A v a b K0 F G H locs → lv_has ls 7 [(0, .ref (a 204)), (1, .int x1), (2, .int x2)] → W p l e R s m args below meth c H locs (xn F - xn K0) (2 * (xn F - xn K0)) Q (F0 m 7 ls [])) (hagn_7 : ∀ (x1 : Int32) (x2 : Int32) (F : PF) (G : PG), ag_7 x1 x2 F G = some res → xn F ≤ xn res.2.1) (x1 : Int32) (x2 : Int32) (x4 : Int32) (x5 : Int32) (x6 : Int32) (F : PF) (G : PG) (hm : cb_X4_walk_125 fu ag_7 x1 x2 x4 x5 x6 F G = some res) {b : Nat} {H : Heap} {locs : List Loc} (hw : cMW s A v a b K0 F G H locs) {ls : Array Slot} (hl : lv_has ls 7 [(0, .ref (a 204)), (1, .int x1), (2, .int x2), (4, .int x4), (5, .int x5), (6, .int x6)]) : W p l e R s m args below meth c H locs (xn F - xn K0) (2 * (xn F - xn K0)) Q (F0 m 125 ls []) := by
  have hx := C.1
  have hb := C.2.1
  unfold cb_X4_walk_125 at hm
  refine lv_iload hx hb dX4_walk_125 (lv_at hl 3 rfl) ?_
  refine lv_iconst (v := 5) hx hb dX4_walk_127 (by decide) ?_
  refine lv_icmp_eq (tgt := 179) hx hb dX4_walk_128 (by decide) (fun c_1 => ?_) (fun c_1 => ?_)
  · have hm := (if_pos c_1).symm.trans hm
    exact cw_X4_walk_179 fu C hret ag_7 hag_7 hagn_7 x1 x2 x4 x5 x6 F G hm hw (lv_sub hl [0, 1, 2, 3, 4, 5] rfl)
  · have hm := (if_neg c_1).symm.trans hm
    exact cw_X4_walk_131 fu C hret ag_7 hag_7 hagn_7 x1 x2 x4 x5 x6 F G hm hw (lv_sub hl [0, 1, 2, 3, 4, 5] rfl)
theorem cn_X4_walk_113 (fu : Nat) {res : Int32 × PF × PG} (ag_7 : Int32 → Int32 → PF → PG → PR) (hagn_7 : ∀ (x1 : Int32) (x2 : Int32) (F : PF) (G : PG), ag_7 x1 x2 F G = some res → xn F ≤ xn res.2.1) (x1 : Int32) (x2 : Int32) (x4 : Int32) (x5 : Int32) (x6 : Int32) (F : PF) (G : PG) (hm : cb_X4_walk_113 fu ag_7 x1 x2 x4 x5 x6 F G = some res) : xn F ≤ xn res.2.1 := by
  unfold cb_X4_walk_113 at hm
  by_cases c_1 : (F 11) = (19 : Int32)
  · have hm := (if_pos c_1).symm.trans hm
    exact (cn_X4_walk_125 fu ag_7 hagn_7 x1 x2 x4 x5 x6 F G hm)
  · have hm := (if_neg c_1).symm.trans hm
    exact (cn_X4_walk_179 fu ag_7 hagn_7 x1 x2 x4 x5 x6 F G hm)
theorem cw_X4_walk_113 (fu : Nat) {res : Int32 × PF × PG} (C : cMC p R s m args c A v RX4 cX4_walk 7 606 36140 (xn res.2.1 - xn K0)) (hret : ∀ (b1 : Nat) (H1 : Heap) (locs1 : List Loc) (ls1 : Array Slot) (pc : Nat), cMW s A v a b1 K0 res.2.1 res.2.2 H1 locs1 → narrow .int (.int res.1) = .int res.1 → decode cX4_walk pc = .ok (.ireturn, 1) → W p l e R s m args below meth c H1 locs1 (xn res.2.1 - xn K0) (2 * (xn res.2.1 - xn K0)) Q (F0 m pc ls1 [.int res.1])) (ag_7 : Int32 → Int32 → PF → PG → PR) (hag_7 : ∀ (x1 : Int32) (x2 : Int32) (F : PF) (G : PG), ag_7 x1 x2 F G = some res → ∀ (b : Nat) (H : Heap) (locs : List Loc) (ls : Array Slot), cMW s A v a b K0 F G H locs → lv_has ls 7 [(0, .ref (a 204)), (1, .int x1), (2, .int x2)] → W p l e R s m args below meth c H locs (xn F - xn K0) (2 * (xn F - xn K0)) Q (F0 m 7 ls [])) (hagn_7 : ∀ (x1 : Int32) (x2 : Int32) (F : PF) (G : PG), ag_7 x1 x2 F G = some res → xn F ≤ xn res.2.1) (x1 : Int32) (x2 : Int32) (x4 : Int32) (x5 : Int32) (x6 : Int32) (F : PF) (G : PG) (hm : cb_X4_walk_113 fu ag_7 x1 x2 x4 x5 x6 F G = some res) {b : Nat} {H : Heap} {locs : List Loc} (hw : cMW s A v a b K0 F G H locs) {ls : Array Slot} (hl : lv_has ls 7 [(0, .ref (a 204)), (1, .int x1), (2, .int x2), (4, .int x4), (5, .int x5), (6, .int x6)]) : W p l e R s m args below meth c H locs (xn F - xn K0) (2 * (xn F - xn K0)) Q (F0 m 113 ls []) := by
  have hx := C.1
  have hb := C.2.1
  unfold cb_X4_walk_113 at hm
  refine lv_aload_n hx hb dX4_walk_113 rfl (lv_at hl 0 rfl) ?_
  refine cg_X4_9 C hw dX4_walk_114 ?_
  refine cg_X4_52 C hw dX4_walk_117 ?_
  refine lv_bipush (v := 19) hx hb dX4_walk_120 (by decide) ?_
  refine lv_icmp_ne (tgt := 179) hx hb dX4_walk_122 (by decide) (fun c_1 => ?_) (fun c_1 => ?_)
  · have hm := (if_neg c_1).symm.trans hm
    exact cw_X4_walk_179 fu C hret ag_7 hag_7 hagn_7 x1 x2 x4 x5 x6 F G hm hw (lv_sub hl [0, 1, 2, 3, 4, 5] rfl)
  · have hm := (if_pos c_1).symm.trans hm
    exact cw_X4_walk_125 fu C hret ag_7 hag_7 hagn_7 x1 x2 x4 x5 x6 F G hm hw (lv_sub hl [0, 1, 2, 3, 4, 5] rfl)
theorem cn_X4_walk_110 (fu : Nat) {res : Int32 × PF × PG} (ag_7 : Int32 → Int32 → PF → PG → PR) (hagn_7 : ∀ (x1 : Int32) (x2 : Int32) (F : PF) (G : PG), ag_7 x1 x2 F G = some res → xn F ≤ xn res.2.1) (x1 : Int32) (x2 : Int32) (F : PF) (G : PG) (hm : cb_X4_walk_110 fu ag_7 x1 x2 F G = some res) : xn F ≤ xn res.2.1 := by
  unfold cb_X4_walk_110 at hm
  exact (cn_X4_walk_245 fu ag_7 hagn_7 x1 x2 F G hm)
theorem cw_X4_walk_110 (fu : Nat) {res : Int32 × PF × PG} (C : cMC p R s m args c A v RX4 cX4_walk 7 606 36140 (xn res.2.1 - xn K0)) (hret : ∀ (b1 : Nat) (H1 : Heap) (locs1 : List Loc) (ls1 : Array Slot) (pc : Nat), cMW s A v a b1 K0 res.2.1 res.2.2 H1 locs1 → narrow .int (.int res.1) = .int res.1 → decode cX4_walk pc = .ok (.ireturn, 1) → W p l e R s m args below meth c H1 locs1 (xn res.2.1 - xn K0) (2 * (xn res.2.1 - xn K0)) Q (F0 m pc ls1 [.int res.1])) (ag_7 : Int32 → Int32 → PF → PG → PR) (hag_7 : ∀ (x1 : Int32) (x2 : Int32) (F : PF) (G : PG), ag_7 x1 x2 F G = some res → ∀ (b : Nat) (H : Heap) (locs : List Loc) (ls : Array Slot), cMW s A v a b K0 F G H locs → lv_has ls 7 [(0, .ref (a 204)), (1, .int x1), (2, .int x2)] → W p l e R s m args below meth c H locs (xn F - xn K0) (2 * (xn F - xn K0)) Q (F0 m 7 ls [])) (hagn_7 : ∀ (x1 : Int32) (x2 : Int32) (F : PF) (G : PG), ag_7 x1 x2 F G = some res → xn F ≤ xn res.2.1) (x1 : Int32) (x2 : Int32) (F : PF) (G : PG) (hm : cb_X4_walk_110 fu ag_7 x1 x2 F G = some res) {b : Nat} {H : Heap} {locs : List Loc} (hw : cMW s A v a b K0 F G H locs) {ls : Array Slot} (hl : lv_has ls 7 [(0, .ref (a 204)), (1, .int x1), (2, .int x2)]) : W p l e R s m args below meth c H locs (xn F - xn K0) (2 * (xn F - xn K0)) Q (F0 m 110 ls []) := by
  have hx := C.1
  have hb := C.2.1
  unfold cb_X4_walk_110 at hm
  refine lv_goto (tgt := 245) hx hb dX4_walk_110 (by decide) ?_
  exact cw_X4_walk_245 fu C hret ag_7 hag_7 hagn_7 x1 x2 F G hm hw (lv_sub hl [0, 1, 2] rfl)
theorem cn_X4_walk_102 (fu : Nat) {res : Int32 × PF × PG} (ag_7 : Int32 → Int32 → PF → PG → PR) (hagn_7 : ∀ (x1 : Int32) (x2 : Int32) (F : PF) (G : PG), ag_7 x1 x2 F G = some res → xn F ≤ xn res.2.1) (x1 : Int32) (x2 : Int32) (x5 : Int32) (x6 : Int32) (F : PF) (G : PG) (hm : cb_X4_walk_102 fu ag_7 x1 x2 x5 x6 F G = some res) : xn F ≤ xn res.2.1 := by
  unfold cb_X4_walk_102 at hm
  obtain ⟨⟨r1, F1, G1⟩, hc, hm⟩ := bind_elim hm
  exact Nat.le_trans (cn_X4_constTold fu x5 x6 F G _ hc) (cn_X4_walk_110 fu ag_7 hagn_7 x1 x2 F1 G1 hm)
theorem cw_X4_walk_102 (fu : Nat) {res : Int32 × PF × PG} (C : cMC p R s m args c A v RX4 cX4_walk 7 606 36140 (xn res.2.1 - xn K0)) (hret : ∀ (b1 : Nat) (H1 : Heap) (locs1 : List Loc) (ls1 : Array Slot) (pc : Nat), cMW s A v a b1 K0 res.2.1 res.2.2 H1 locs1 → narrow .int (.int res.1) = .int res.1 → decode cX4_walk pc = .ok (.ireturn, 1) → W p l e R s m args below meth c H1 locs1 (xn res.2.1 - xn K0) (2 * (xn res.2.1 - xn K0)) Q (F0 m pc ls1 [.int res.1])) (ag_7 : Int32 → Int32 → PF → PG → PR) (hag_7 : ∀ (x1 : Int32) (x2 : Int32) (F : PF) (G : PG), ag_7 x1 x2 F G = some res → ∀ (b : Nat) (H : Heap) (locs : List Loc) (ls : Array Slot), cMW s A v a b K0 F G H locs → lv_has ls 7 [(0, .ref (a 204)), (1, .int x1), (2, .int x2)] → W p l e R s m args below meth c H locs (xn F - xn K0) (2 * (xn F - xn K0)) Q (F0 m 7 ls [])) (hagn_7 : ∀ (x1 : Int32) (x2 : Int32) (F : PF) (G : PG), ag_7 x1 x2 F G = some res → xn F ≤ xn res.2.1) (x1 : Int32) (x2 : Int32) (x5 : Int32) (x6 : Int32) (F : PF) (G : PG) (hm : cb_X4_walk_102 fu ag_7 x1 x2 x5 x6 F G = some res) {b : Nat} {H : Heap} {locs : List Loc} (hw : cMW s A v a b K0 F G H locs) {ls : Array Slot} (hl : lv_has ls 7 [(0, .ref (a 204)), (1, .int x1), (2, .int x2), (5, .int x5), (6, .int x6)]) : W p l e R s m args below meth c H locs (xn F - xn K0) (2 * (xn F - xn K0)) Q (F0 m 102 ls []) := by
  have hx := C.1
  have hb := C.2.1
  unfold cb_X4_walk_102 at hm
  refine lv_aload_n hx hb dX4_walk_102 rfl (lv_at hl 0 rfl) ?_
  refine lv_iload hx hb dX4_walk_103 (lv_at hl 3 rfl) ?_
  refine lv_iload hx hb dX4_walk_105 (lv_at hl 4 rfl) ?_
  obtain ⟨⟨r1, F1, G1⟩, hc, hm⟩ := bind_elim hm
  refine ccallV (n := 2) (As := [.int x5, .int x6]) (rest := []) C hw (ck_X4_constTold l v a _ _ fu x5 x6 F G r1 F1 G1 hc) (cn_X4_constTold fu x5 x6 F G _ hc) (Nat.sub_le_sub_right (cn_X4_walk_110 fu ag_7 hagn_7 x1 x2 F1 G1 hm) _) (crecv_X4 C hw) cm_337 cm_338 cm_339 cm_244 cm_340 (by decide +kernel) rfl (by omega) (by omega) hl.1 rfl (Nat.le_of_ble_eq_true rfl) dX4_walk_107 (fun b H locs hw => ?_)
  exact cw_X4_walk_110 fu C hret ag_7 hag_7 hagn_7 x1 x2 F1 G1 hm hw (lv_sub hl [0, 1, 2] rfl)
theorem cn_X4_walk_98 (fu : Nat) {res : Int32 × PF × PG} (ag_7 : Int32 → Int32 → PF → PG → PR) (hagn_7 : ∀ (x1 : Int32) (x2 : Int32) (F : PF) (G : PG), ag_7 x1 x2 F G = some res → xn F ≤ xn res.2.1) (x1 : Int32) (x2 : Int32) (x3 : Int32) (x4 : Int32) (x5 : Int32) (x6 : Int32) (F : PF) (G : PG) (hm : cb_X4_walk_98 fu ag_7 x1 x2 x3 x4 x5 x6 F G = some res) : xn F ≤ xn res.2.1 := by
  unfold cb_X4_walk_98 at hm
  by_cases c_1 : x3 = (0 : Int32)
  · have hm := (if_pos c_1).symm.trans hm
    exact (cn_X4_walk_113 fu ag_7 hagn_7 x1 x2 x4 x5 x6 F G hm)
  · have hm := (if_neg c_1).symm.trans hm
    exact (cn_X4_walk_102 fu ag_7 hagn_7 x1 x2 x5 x6 F G hm)
theorem cw_X4_walk_98 (fu : Nat) {res : Int32 × PF × PG} (C : cMC p R s m args c A v RX4 cX4_walk 7 606 36140 (xn res.2.1 - xn K0)) (hret : ∀ (b1 : Nat) (H1 : Heap) (locs1 : List Loc) (ls1 : Array Slot) (pc : Nat), cMW s A v a b1 K0 res.2.1 res.2.2 H1 locs1 → narrow .int (.int res.1) = .int res.1 → decode cX4_walk pc = .ok (.ireturn, 1) → W p l e R s m args below meth c H1 locs1 (xn res.2.1 - xn K0) (2 * (xn res.2.1 - xn K0)) Q (F0 m pc ls1 [.int res.1])) (ag_7 : Int32 → Int32 → PF → PG → PR) (hag_7 : ∀ (x1 : Int32) (x2 : Int32) (F : PF) (G : PG), ag_7 x1 x2 F G = some res → ∀ (b : Nat) (H : Heap) (locs : List Loc) (ls : Array Slot), cMW s A v a b K0 F G H locs → lv_has ls 7 [(0, .ref (a 204)), (1, .int x1), (2, .int x2)] → W p l e R s m args below meth c H locs (xn F - xn K0) (2 * (xn F - xn K0)) Q (F0 m 7 ls [])) (hagn_7 : ∀ (x1 : Int32) (x2 : Int32) (F : PF) (G : PG), ag_7 x1 x2 F G = some res → xn F ≤ xn res.2.1) (x1 : Int32) (x2 : Int32) (x3 : Int32) (x4 : Int32) (x5 : Int32) (x6 : Int32) (F : PF) (G : PG) (hm : cb_X4_walk_98 fu ag_7 x1 x2 x3 x4 x5 x6 F G = some res) {b : Nat} {H : Heap} {locs : List Loc} (hw : cMW s A v a b K0 F G H locs) {ls : Array Slot} (hl : lv_has ls 7 [(0, .ref (a 204)), (1, .int x1), (2, .int x2), (3, .int x3), (4, .int x4), (5, .int x5), (6, .int x6)]) : W p l e R s m args below meth c H locs (xn F - xn K0) (2 * (xn F - xn K0)) Q (F0 m 98 ls []) := by
  have hx := C.1
  have hb := C.2.1
  unfold cb_X4_walk_98 at hm
  refine lv_iload_n hx hb dX4_walk_98 rfl (lv_at hl 3 rfl) ?_
  refine lv_if_eq (tgt := 113) hx hb dX4_walk_99 (by decide) (fun c_1 => ?_) (fun c_1 => ?_)
  · have hm := (if_pos c_1).symm.trans hm
    exact cw_X4_walk_113 fu C hret ag_7 hag_7 hagn_7 x1 x2 x4 x5 x6 F G hm hw (lv_sub hl [0, 1, 2, 4, 5, 6] rfl)
  · have hm := (if_neg c_1).symm.trans hm
    exact cw_X4_walk_102 fu C hret ag_7 hag_7 hagn_7 x1 x2 x5 x6 F G hm hw (lv_sub hl [0, 1, 2, 5, 6] rfl)
theorem cn_X4_walk_70 (fu : Nat) {res : Int32 × PF × PG} (ag_7 : Int32 → Int32 → PF → PG → PR) (hagn_7 : ∀ (x1 : Int32) (x2 : Int32) (F : PF) (G : PG), ag_7 x1 x2 F G = some res → xn F ≤ xn res.2.1) (x1 : Int32) (x2 : Int32) (x3 : Int32) (z0 : Int32) (F : PF) (G : PG) (hm : cb_X4_walk_70 fu ag_7 x1 x2 x3 z0 F G = some res) : xn F ≤ xn res.2.1 := by
  unfold cb_X4_walk_70 at hm
  obtain ⟨⟨r1, F1, G1⟩, hc, hm⟩ := bind_elim hm
  exact Nat.le_trans (cn_X2_expect fu 2 F G _ hc) (cn_X4_walk_98 fu ag_7 hagn_7 x1 x2 x3 z0 (F 12) (F 13) F1 G1 hm)
theorem cw_X4_walk_70 (fu : Nat) {res : Int32 × PF × PG} (C : cMC p R s m args c A v RX4 cX4_walk 7 606 36140 (xn res.2.1 - xn K0)) (hret : ∀ (b1 : Nat) (H1 : Heap) (locs1 : List Loc) (ls1 : Array Slot) (pc : Nat), cMW s A v a b1 K0 res.2.1 res.2.2 H1 locs1 → narrow .int (.int res.1) = .int res.1 → decode cX4_walk pc = .ok (.ireturn, 1) → W p l e R s m args below meth c H1 locs1 (xn res.2.1 - xn K0) (2 * (xn res.2.1 - xn K0)) Q (F0 m pc ls1 [.int res.1])) (ag_7 : Int32 → Int32 → PF → PG → PR) (hag_7 : ∀ (x1 : Int32) (x2 : Int32) (F : PF) (G : PG), ag_7 x1 x2 F G = some res → ∀ (b : Nat) (H : Heap) (locs : List Loc) (ls : Array Slot), cMW s A v a b K0 F G H locs → lv_has ls 7 [(0, .ref (a 204)), (1, .int x1), (2, .int x2)] → W p l e R s m args below meth c H locs (xn F - xn K0) (2 * (xn F - xn K0)) Q (F0 m 7 ls [])) (hagn_7 : ∀ (x1 : Int32) (x2 : Int32) (F : PF) (G : PG), ag_7 x1 x2 F G = some res → xn F ≤ xn res.2.1) (x1 : Int32) (x2 : Int32) (x3 : Int32) (z0 : Int32) (F : PF) (G : PG) (hm : cb_X4_walk_70 fu ag_7 x1 x2 x3 z0 F G = some res) {b : Nat} {H : Heap} {locs : List Loc} (hw : cMW s A v a b K0 F G H locs) {ls : Array Slot} (hl : lv_has ls 7 [(0, .ref (a 204)), (1, .int x1), (2, .int x2), (3, .int x3)]) : W p l e R s m args below meth c H locs (xn F - xn K0) (2 * (xn F - xn K0)) Q (F0 m 70 ls [.int z0]) := by
  have hx := C.1
  have hb := C.2.1
  unfold cb_X4_walk_70 at hm
  refine lv_istore (lv' := [(4, .int z0), (0, .ref (a 204)), (1, .int x1), (2, .int x2), (3, .int x3)]) hx hb dX4_walk_70 hl (by decide) rfl (fun ls hl => ?_)
  refine lv_aload_n hx hb dX4_walk_72 rfl (lv_at hl 1 rfl) ?_
  refine cg_X4_9 C hw dX4_walk_73 ?_
  refine cg_X4_64 C hw dX4_walk_76 ?_
  refine lv_istore (lv' := [(5, .int (F 12)), (4, .int z0), (0, .ref (a 204)), (1, .int x1), (2, .int x2), (3, .int x3)]) hx hb dX4_walk_79 hl (by decide) rfl (fun ls hl => ?_)
  refine lv_aload_n hx hb dX4_walk_81 rfl (lv_at hl 2 rfl) ?_
  refine cg_X4_9 C hw dX4_walk_82 ?_
  refine cg_X4_67 C hw dX4_walk_85 ?_
  refine lv_istore (lv' := [(6, .int (F 13)), (5, .int (F 12)), (4, .int z0), (0, .ref (a 204)), (1, .int x1), (2, .int x2), (3, .int x3)]) hx hb dX4_walk_88 hl (by decide) rfl (fun ls hl => ?_)
  refine lv_aload_n hx hb dX4_walk_90 rfl (lv_at hl 3 rfl) ?_
  refine cg_X4_9 C hw dX4_walk_91 ?_
  refine lv_iconst (v := 2) hx hb dX4_walk_94 (by decide) ?_
  obtain ⟨⟨r1, F1, G1⟩, hc, hm⟩ := bind_elim hm
  refine ccallV (n := 1) (As := [.int 2]) (rest := []) C hw (ck_X2_expect l v a _ _ fu 2 F G r1 F1 G1 hc) (cn_X2_expect fu 2 F G _ hc) (Nat.sub_le_sub_right (cn_X4_walk_98 fu ag_7 hagn_7 x1 x2 x3 z0 (F 12) (F 13) F1 G1 hm) _) (crecv_X2 C hw) cm_332 cm_333 cm_334 cm_307 cm_335 (by decide +kernel) rfl (by omega) (by omega) hl.1 rfl (Nat.le_of_ble_eq_true rfl) dX4_walk_95 (fun b H locs hw => ?_)
  exact cw_X4_walk_98 fu C hret ag_7 hag_7 hagn_7 x1 x2 x3 z0 (F 12) (F 13) F1 G1 hm hw (lv_sub hl [3, 4, 5, 6, 2, 1, 0] rfl)
theorem cn_X4_walk_65 (fu : Nat) {res : Int32 × PF × PG} (ag_7 : Int32 → Int32 → PF → PG → PR) (hagn_7 : ∀ (x1 : Int32) (x2 : Int32) (F : PF) (G : PG), ag_7 x1 x2 F G = some res → xn F ≤ xn res.2.1) (x1 : Int32) (x2 : Int32) (x3 : Int32) (F : PF) (G : PG) (hm : cb_X4_walk_65 fu ag_7 x1 x2 x3 F G = some res) : xn F ≤ xn res.2.1 := by
  unfold cb_X4_walk_65 at hm
  obtain ⟨⟨r1, F1, G1⟩, hc, hm⟩ := bind_elim hm
  exact Nat.le_trans (cn_X4_kindWord fu x3 F G _ hc) (cn_X4_walk_70 fu ag_7 hagn_7 x1 x2 x3 r1 F1 G1 hm)
theorem cw_X4_walk_65 (fu : Nat) {res : Int32 × PF × PG} (C : cMC p R s m args c A v RX4 cX4_walk 7 606 36140 (xn res.2.1 - xn K0)) (hret : ∀ (b1 : Nat) (H1 : Heap) (locs1 : List Loc) (ls1 : Array Slot) (pc : Nat), cMW s A v a b1 K0 res.2.1 res.2.2 H1 locs1 → narrow .int (.int res.1) = .int res.1 → decode cX4_walk pc = .ok (.ireturn, 1) → W p l e R s m args below meth c H1 locs1 (xn res.2.1 - xn K0) (2 * (xn res.2.1 - xn K0)) Q (F0 m pc ls1 [.int res.1])) (ag_7 : Int32 → Int32 → PF → PG → PR) (hag_7 : ∀ (x1 : Int32) (x2 : Int32) (F : PF) (G : PG), ag_7 x1 x2 F G = some res → ∀ (b : Nat) (H : Heap) (locs : List Loc) (ls : Array Slot), cMW s A v a b K0 F G H locs → lv_has ls 7 [(0, .ref (a 204)), (1, .int x1), (2, .int x2)] → W p l e R s m args below meth c H locs (xn F - xn K0) (2 * (xn F - xn K0)) Q (F0 m 7 ls [])) (hagn_7 : ∀ (x1 : Int32) (x2 : Int32) (F : PF) (G : PG), ag_7 x1 x2 F G = some res → xn F ≤ xn res.2.1) (x1 : Int32) (x2 : Int32) (x3 : Int32) (F : PF) (G : PG) (hm : cb_X4_walk_65 fu ag_7 x1 x2 x3 F G = some res) {b : Nat} {H : Heap} {locs : List Loc} (hw : cMW s A v a b K0 F G H locs) {ls : Array Slot} (hl : lv_has ls 7 [(0, .ref (a 204)), (1, .int x1), (2, .int x2), (3, .int x3)]) : W p l e R s m args below meth c H locs (xn F - xn K0) (2 * (xn F - xn K0)) Q (F0 m 65 ls []) := by
  have hx := C.1
  have hb := C.2.1
  unfold cb_X4_walk_65 at hm
  refine lv_aload_n hx hb dX4_walk_65 rfl (lv_at hl 0 rfl) ?_
  refine lv_iload_n hx hb dX4_walk_66 rfl (lv_at hl 3 rfl) ?_
  obtain ⟨⟨r1, F1, G1⟩, hc, hm⟩ := bind_elim hm
  refine ccallI (n := 1) (As := [.int x3]) (rest := []) C hw (ck_X4_kindWord l v a _ _ fu x3 F G r1 F1 G1 hc) (cn_X4_kindWord fu x3 F G _ hc) (Nat.sub_le_sub_right (cn_X4_walk_70 fu ag_7 hagn_7 x1 x2 x3 r1 F1 G1 hm) _) (crecv_X4 C hw) cm_324 cm_325 cm_326 cm_244 cm_327 (by decide +kernel) rfl (by omega) (by omega) hl.1 rfl (Nat.le_of_ble_eq_true rfl) dX4_walk_67 (fun b H locs hw => ?_)
  exact cw_X4_walk_70 fu C hret ag_7 hag_7 hagn_7 x1 x2 x3 r1 F1 G1 hm hw (lv_sub hl [0, 1, 2, 3] rfl)
theorem cn_X4_walk_58 (fu : Nat) {res : Int32 × PF × PG} (ag_7 : Int32 → Int32 → PF → PG → PR) (hagn_7 : ∀ (x1 : Int32) (x2 : Int32) (F : PF) (G : PG), ag_7 x1 x2 F G = some res → xn F ≤ xn res.2.1) (x1 : Int32) (x2 : Int32) (x3 : Int32) (F : PF) (G : PG) (hm : cb_X4_walk_58 fu ag_7 x1 x2 x3 F G = some res) : xn F ≤ xn res.2.1 := by
  unfold cb_X4_walk_58 at hm
  obtain ⟨⟨r1, F1, G1⟩, hc, hm⟩ := bind_elim hm
  exact Nat.le_trans (cn_X2_next fu F G _ hc) (cn_X4_walk_65 fu ag_7 hagn_7 x1 x2 x3 F1 G1 hm)
theorem cw_X4_walk_58 (fu : Nat) {res : Int32 × PF × PG} (C : cMC p R s m args c A v RX4 cX4_walk 7 606 36140 (xn res.2.1 - xn K0)) (hret : ∀ (b1 : Nat) (H1 : Heap) (locs1 : List Loc) (ls1 : Array Slot) (pc : Nat), cMW s A v a b1 K0 res.2.1 res.2.2 H1 locs1 → narrow .int (.int res.1) = .int res.1 → decode cX4_walk pc = .ok (.ireturn, 1) → W p l e R s m args below meth c H1 locs1 (xn res.2.1 - xn K0) (2 * (xn res.2.1 - xn K0)) Q (F0 m pc ls1 [.int res.1])) (ag_7 : Int32 → Int32 → PF → PG → PR) (hag_7 : ∀ (x1 : Int32) (x2 : Int32) (F : PF) (G : PG), ag_7 x1 x2 F G = some res → ∀ (b : Nat) (H : Heap) (locs : List Loc) (ls : Array Slot), cMW s A v a b K0 F G H locs → lv_has ls 7 [(0, .ref (a 204)), (1, .int x1), (2, .int x2)] → W p l e R s m args below meth c H locs (xn F - xn K0) (2 * (xn F - xn K0)) Q (F0 m 7 ls [])) (hagn_7 : ∀ (x1 : Int32) (x2 : Int32) (F : PF) (G : PG), ag_7 x1 x2 F G = some res → xn F ≤ xn res.2.1) (x1 : Int32) (x2 : Int32) (x3 : Int32) (F : PF) (G : PG) (hm : cb_X4_walk_58 fu ag_7 x1 x2 x3 F G = some res) {b : Nat} {H : Heap} {locs : List Loc} (hw : cMW s A v a b K0 F G H locs) {ls : Array Slot} (hl : lv_has ls 7 [(0, .ref (a 204)), (1, .int x1), (2, .int x2), (3, .int x3)]) : W p l e R s m args below meth c H locs (xn F - xn K0) (2 * (xn F - xn K0)) Q (F0 m 58 ls []) := by
  have hx := C.1
  have hb := C.2.1
  unfold cb_X4_walk_58 at hm
  refine lv_aload_n hx hb dX4_walk_58 rfl (lv_at hl 0 rfl) ?_
  refine cg_X4_9 C hw dX4_walk_59 ?_
  obtain ⟨⟨r1, F1, G1⟩, hc, hm⟩ := bind_elim hm
  refine ccallV (n := 0) (As := []) (rest := []) C hw (ck_X2_next l v a _ _ fu F G r1 F1 G1 hc) (cn_X2_next fu F G _ hc) (Nat.sub_le_sub_right (cn_X4_walk_65 fu ag_7 hagn_7 x1 x2 x3 F1 G1 hm) _) (crecv_X2 C hw) cm_320 cm_321 cm_322 cm_307 cm_323 (by decide +kernel) rfl (by omega) (by omega) hl.1 rfl (Nat.le_of_ble_eq_true rfl) dX4_walk_62 (fun b H locs hw => ?_)
  exact cw_X4_walk_65 fu C hret ag_7 hag_7 hagn_7 x1 x2 x3 F1 G1 hm hw (lv_sub hl [0, 1, 2, 3] rfl)
theorem cn_X4_walk_53 (fu : Nat) {res : Int32 × PF × PG} (ag_7 : Int32 → Int32 → PF → PG → PR) (hagn_7 : ∀ (x1 : Int32) (x2 : Int32) (F : PF) (G : PG), ag_7 x1 x2 F G = some res → xn F ≤ xn res.2.1) (x1 : Int32) (x2 : Int32) (z0 : Int32) (F : PF) (G : PG) (hm : cb_X4_walk_53 fu ag_7 x1 x2 z0 F G = some res) : xn F ≤ xn res.2.1 := by
  unfold cb_X4_walk_53 at hm
  by_cases c_1 : z0 = (0 : Int32)
  · have hm := (if_pos c_1).symm.trans hm
    exact (cn_X4_walk_65 fu ag_7 hagn_7 x1 x2 z0 F G hm)
  · have hm := (if_neg c_1).symm.trans hm
    exact (cn_X4_walk_58 fu ag_7 hagn_7 x1 x2 z0 F G hm)
theorem cw_X4_walk_53 (fu : Nat) {res : Int32 × PF × PG} (C : cMC p R s m args c A v RX4 cX4_walk 7 606 36140 (xn res.2.1 - xn K0)) (hret : ∀ (b1 : Nat) (H1 : Heap) (locs1 : List Loc) (ls1 : Array Slot) (pc : Nat), cMW s A v a b1 K0 res.2.1 res.2.2 H1 locs1 → narrow .int (.int res.1) = .int res.1 → decode cX4_walk pc = .ok (.ireturn, 1) → W p l e R s m args below meth c H1 locs1 (xn res.2.1 - xn K0) (2 * (xn res.2.1 - xn K0)) Q (F0 m pc ls1 [.int res.1])) (ag_7 : Int32 → Int32 → PF → PG → PR) (hag_7 : ∀ (x1 : Int32) (x2 : Int32) (F : PF) (G : PG), ag_7 x1 x2 F G = some res → ∀ (b : Nat) (H : Heap) (locs : List Loc) (ls : Array Slot), cMW s A v a b K0 F G H locs → lv_has ls 7 [(0, .ref (a 204)), (1, .int x1), (2, .int x2)] → W p l e R s m args below meth c H locs (xn F - xn K0) (2 * (xn F - xn K0)) Q (F0 m 7 ls [])) (hagn_7 : ∀ (x1 : Int32) (x2 : Int32) (F : PF) (G : PG), ag_7 x1 x2 F G = some res → xn F ≤ xn res.2.1) (x1 : Int32) (x2 : Int32) (z0 : Int32) (F : PF) (G : PG) (hm : cb_X4_walk_53 fu ag_7 x1 x2 z0 F G = some res) {b : Nat} {H : Heap} {locs : List Loc} (hw : cMW s A v a b K0 F G H locs) {ls : Array Slot} (hl : lv_has ls 7 [(0, .ref (a 204)), (1, .int x1), (2, .int x2)]) : W p l e R s m args below meth c H locs (xn F - xn K0) (2 * (xn F - xn K0)) Q (F0 m 53 ls [.int z0]) := by
  have hx := C.1
  have hb := C.2.1
  unfold cb_X4_walk_53 at hm
  refine lv_istore_n (lv' := [(3, .int z0), (0, .ref (a 204)), (1, .int x1), (2, .int x2)]) hx hb dX4_walk_53 rfl hl (by decide) rfl (fun ls hl => ?_)
  refine lv_iload_n hx hb dX4_walk_54 rfl (lv_at hl 0 rfl) ?_
  refine lv_if_eq (tgt := 65) hx hb dX4_walk_55 (by decide) (fun c_1 => ?_) (fun c_1 => ?_)
  · have hm := (if_pos c_1).symm.trans hm
    exact cw_X4_walk_65 fu C hret ag_7 hag_7 hagn_7 x1 x2 z0 F G hm hw (lv_sub hl [1, 2, 3, 0] rfl)
  · have hm := (if_neg c_1).symm.trans hm
    exact cw_X4_walk_58 fu C hret ag_7 hag_7 hagn_7 x1 x2 z0 F G hm hw (lv_sub hl [1, 2, 3, 0] rfl)
theorem cn_X4_walk_52 (fu : Nat) {res : Int32 × PF × PG} (ag_7 : Int32 → Int32 → PF → PG → PR) (hagn_7 : ∀ (x1 : Int32) (x2 : Int32) (F : PF) (G : PG), ag_7 x1 x2 F G = some res → xn F ≤ xn res.2.1) (x1 : Int32) (x2 : Int32) (F : PF) (G : PG) (hm : cb_X4_walk_52 fu ag_7 x1 x2 F G = some res) : xn F ≤ xn res.2.1 := by
  unfold cb_X4_walk_52 at hm
  exact (cn_X4_walk_53 fu ag_7 hagn_7 x1 x2 0 F G hm)
theorem cw_X4_walk_52 (fu : Nat) {res : Int32 × PF × PG} (C : cMC p R s m args c A v RX4 cX4_walk 7 606 36140 (xn res.2.1 - xn K0)) (hret : ∀ (b1 : Nat) (H1 : Heap) (locs1 : List Loc) (ls1 : Array Slot) (pc : Nat), cMW s A v a b1 K0 res.2.1 res.2.2 H1 locs1 → narrow .int (.int res.1) = .int res.1 → decode cX4_walk pc = .ok (.ireturn, 1) → W p l e R s m args below meth c H1 locs1 (xn res.2.1 - xn K0) (2 * (xn res.2.1 - xn K0)) Q (F0 m pc ls1 [.int res.1])) (ag_7 : Int32 → Int32 → PF → PG → PR) (hag_7 : ∀ (x1 : Int32) (x2 : Int32) (F : PF) (G : PG), ag_7 x1 x2 F G = some res → ∀ (b : Nat) (H : Heap) (locs : List Loc) (ls : Array Slot), cMW s A v a b K0 F G H locs → lv_has ls 7 [(0, .ref (a 204)), (1, .int x1), (2, .int x2)] → W p l e R s m args below meth c H locs (xn F - xn K0) (2 * (xn F - xn K0)) Q (F0 m 7 ls [])) (hagn_7 : ∀ (x1 : Int32) (x2 : Int32) (F : PF) (G : PG), ag_7 x1 x2 F G = some res → xn F ≤ xn res.2.1) (x1 : Int32) (x2 : Int32) (F : PF) (G : PG) (hm : cb_X4_walk_52 fu ag_7 x1 x2 F G = some res) {b : Nat} {H : Heap} {locs : List Loc} (hw : cMW s A v a b K0 F G H locs) {ls : Array Slot} (hl : lv_has ls 7 [(0, .ref (a 204)), (1, .int x1), (2, .int x2)]) : W p l e R s m args below meth c H locs (xn F - xn K0) (2 * (xn F - xn K0)) Q (F0 m 52 ls []) := by
  have hx := C.1
  have hb := C.2.1
  unfold cb_X4_walk_52 at hm
  refine lv_iconst (v := 0) hx hb dX4_walk_52 (by decide) ?_
  exact cw_X4_walk_53 fu C hret ag_7 hag_7 hagn_7 x1 x2 0 F G hm hw (lv_sub hl [0, 1, 2] rfl)
theorem cn_X4_walk_48 (fu : Nat) {res : Int32 × PF × PG} (ag_7 : Int32 → Int32 → PF → PG → PR) (hagn_7 : ∀ (x1 : Int32) (x2 : Int32) (F : PF) (G : PG), ag_7 x1 x2 F G = some res → xn F ≤ xn res.2.1) (x1 : Int32) (x2 : Int32) (F : PF) (G : PG) (hm : cb_X4_walk_48 fu ag_7 x1 x2 F G = some res) : xn F ≤ xn res.2.1 := by
  unfold cb_X4_walk_48 at hm
  exact (cn_X4_walk_53 fu ag_7 hagn_7 x1 x2 1 F G hm)
theorem cw_X4_walk_48 (fu : Nat) {res : Int32 × PF × PG} (C : cMC p R s m args c A v RX4 cX4_walk 7 606 36140 (xn res.2.1 - xn K0)) (hret : ∀ (b1 : Nat) (H1 : Heap) (locs1 : List Loc) (ls1 : Array Slot) (pc : Nat), cMW s A v a b1 K0 res.2.1 res.2.2 H1 locs1 → narrow .int (.int res.1) = .int res.1 → decode cX4_walk pc = .ok (.ireturn, 1) → W p l e R s m args below meth c H1 locs1 (xn res.2.1 - xn K0) (2 * (xn res.2.1 - xn K0)) Q (F0 m pc ls1 [.int res.1])) (ag_7 : Int32 → Int32 → PF → PG → PR) (hag_7 : ∀ (x1 : Int32) (x2 : Int32) (F : PF) (G : PG), ag_7 x1 x2 F G = some res → ∀ (b : Nat) (H : Heap) (locs : List Loc) (ls : Array Slot), cMW s A v a b K0 F G H locs → lv_has ls 7 [(0, .ref (a 204)), (1, .int x1), (2, .int x2)] → W p l e R s m args below meth c H locs (xn F - xn K0) (2 * (xn F - xn K0)) Q (F0 m 7 ls [])) (hagn_7 : ∀ (x1 : Int32) (x2 : Int32) (F : PF) (G : PG), ag_7 x1 x2 F G = some res → xn F ≤ xn res.2.1) (x1 : Int32) (x2 : Int32) (F : PF) (G : PG) (hm : cb_X4_walk_48 fu ag_7 x1 x2 F G = some res) {b : Nat} {H : Heap} {locs : List Loc} (hw : cMW s A v a b K0 F G H locs) {ls : Array Slot} (hl : lv_has ls 7 [(0, .ref (a 204)), (1, .int x1), (2, .int x2)]) : W p l e R s m args below meth c H locs (xn F - xn K0) (2 * (xn F - xn K0)) Q (F0 m 48 ls []) := by
  have hx := C.1
  have hb := C.2.1
  unfold cb_X4_walk_48 at hm
  refine lv_iconst (v := 1) hx hb dX4_walk_48 (by decide) ?_
  refine lv_goto (tgt := 53) hx hb dX4_walk_49 (by decide) ?_
  exact cw_X4_walk_53 fu C hret ag_7 hag_7 hagn_7 x1 x2 1 F G hm hw (lv_sub hl [0, 1, 2] rfl)
theorem cn_X4_walk_36 (fu : Nat) {res : Int32 × PF × PG} (ag_7 : Int32 → Int32 → PF → PG → PR) (hagn_7 : ∀ (x1 : Int32) (x2 : Int32) (F : PF) (G : PG), ag_7 x1 x2 F G = some res → xn F ≤ xn res.2.1) (x1 : Int32) (x2 : Int32) (F : PF) (G : PG) (hm : cb_X4_walk_36 fu ag_7 x1 x2 F G = some res) : xn F ≤ xn res.2.1 := by
  unfold cb_X4_walk_36 at hm
  by_cases c_1 : (F 11) = (7 : Int32)
  · have hm := (if_pos c_1).symm.trans hm
    exact (cn_X4_walk_48 fu ag_7 hagn_7 x1 x2 F G hm)
  · have hm := (if_neg c_1).symm.trans hm
    exact (cn_X4_walk_52 fu ag_7 hagn_7 x1 x2 F G hm)
theorem cw_X4_walk_36 (fu : Nat) {res : Int32 × PF × PG} (C : cMC p R s m args c A v RX4 cX4_walk 7 606 36140 (xn res.2.1 - xn K0)) (hret : ∀ (b1 : Nat) (H1 : Heap) (locs1 : List Loc) (ls1 : Array Slot) (pc : Nat), cMW s A v a b1 K0 res.2.1 res.2.2 H1 locs1 → narrow .int (.int res.1) = .int res.1 → decode cX4_walk pc = .ok (.ireturn, 1) → W p l e R s m args below meth c H1 locs1 (xn res.2.1 - xn K0) (2 * (xn res.2.1 - xn K0)) Q (F0 m pc ls1 [.int res.1])) (ag_7 : Int32 → Int32 → PF → PG → PR) (hag_7 : ∀ (x1 : Int32) (x2 : Int32) (F : PF) (G : PG), ag_7 x1 x2 F G = some res → ∀ (b : Nat) (H : Heap) (locs : List Loc) (ls : Array Slot), cMW s A v a b K0 F G H locs → lv_has ls 7 [(0, .ref (a 204)), (1, .int x1), (2, .int x2)] → W p l e R s m args below meth c H locs (xn F - xn K0) (2 * (xn F - xn K0)) Q (F0 m 7 ls [])) (hagn_7 : ∀ (x1 : Int32) (x2 : Int32) (F : PF) (G : PG), ag_7 x1 x2 F G = some res → xn F ≤ xn res.2.1) (x1 : Int32) (x2 : Int32) (F : PF) (G : PG) (hm : cb_X4_walk_36 fu ag_7 x1 x2 F G = some res) {b : Nat} {H : Heap} {locs : List Loc} (hw : cMW s A v a b K0 F G H locs) {ls : Array Slot} (hl : lv_has ls 7 [(0, .ref (a 204)), (1, .int x1), (2, .int x2)]) : W p l e R s m args below meth c H locs (xn F - xn K0) (2 * (xn F - xn K0)) Q (F0 m 36 ls []) := by
  have hx := C.1
  have hb := C.2.1
  unfold cb_X4_walk_36 at hm
  refine lv_aload_n hx hb dX4_walk_36 rfl (lv_at hl 0 rfl) ?_
  refine cg_X4_9 C hw dX4_walk_37 ?_
  refine cg_X4_52 C hw dX4_walk_40 ?_
  refine lv_bipush (v := 7) hx hb dX4_walk_43 (by decide) ?_
  refine lv_icmp_ne (tgt := 52) hx hb dX4_walk_45 (by decide) (fun c_1 => ?_) (fun c_1 => ?_)
  · have hm := (if_neg c_1).symm.trans hm
    exact cw_X4_walk_52 fu C hret ag_7 hag_7 hagn_7 x1 x2 F G hm hw (lv_sub hl [0, 1, 2] rfl)
  · have hm := (if_pos c_1).symm.trans hm
    exact cw_X4_walk_48 fu C hret ag_7 hag_7 hagn_7 x1 x2 F G hm hw (lv_sub hl [0, 1, 2] rfl)
theorem cn_X4_walk_24 (fu : Nat) {res : Int32 × PF × PG} (ag_7 : Int32 → Int32 → PF → PG → PR) (hagn_7 : ∀ (x1 : Int32) (x2 : Int32) (F : PF) (G : PG), ag_7 x1 x2 F G = some res → xn F ≤ xn res.2.1) (x1 : Int32) (x2 : Int32) (F : PF) (G : PG) (hm : cb_X4_walk_24 fu ag_7 x1 x2 F G = some res) : xn F ≤ xn res.2.1 := by
  unfold cb_X4_walk_24 at hm
  by_cases c_1 : (F 11) = (-2 : Int32)
  · have hm := (if_pos c_1).symm.trans hm
    exact (cn_X4_walk_251 fu x1 F G hm)
  · have hm := (if_neg c_1).symm.trans hm
    exact (cn_X4_walk_36 fu ag_7 hagn_7 x1 x2 F G hm)
theorem cw_X4_walk_24 (fu : Nat) {res : Int32 × PF × PG} (C : cMC p R s m args c A v RX4 cX4_walk 7 606 36140 (xn res.2.1 - xn K0)) (hret : ∀ (b1 : Nat) (H1 : Heap) (locs1 : List Loc) (ls1 : Array Slot) (pc : Nat), cMW s A v a b1 K0 res.2.1 res.2.2 H1 locs1 → narrow .int (.int res.1) = .int res.1 → decode cX4_walk pc = .ok (.ireturn, 1) → W p l e R s m args below meth c H1 locs1 (xn res.2.1 - xn K0) (2 * (xn res.2.1 - xn K0)) Q (F0 m pc ls1 [.int res.1])) (ag_7 : Int32 → Int32 → PF → PG → PR) (hag_7 : ∀ (x1 : Int32) (x2 : Int32) (F : PF) (G : PG), ag_7 x1 x2 F G = some res → ∀ (b : Nat) (H : Heap) (locs : List Loc) (ls : Array Slot), cMW s A v a b K0 F G H locs → lv_has ls 7 [(0, .ref (a 204)), (1, .int x1), (2, .int x2)] → W p l e R s m args below meth c H locs (xn F - xn K0) (2 * (xn F - xn K0)) Q (F0 m 7 ls [])) (hagn_7 : ∀ (x1 : Int32) (x2 : Int32) (F : PF) (G : PG), ag_7 x1 x2 F G = some res → xn F ≤ xn res.2.1) (x1 : Int32) (x2 : Int32) (F : PF) (G : PG) (hm : cb_X4_walk_24 fu ag_7 x1 x2 F G = some res) {b : Nat} {H : Heap} {locs : List Loc} (hw : cMW s A v a b K0 F G H locs) {ls : Array Slot} (hl : lv_has ls 7 [(0, .ref (a 204)), (1, .int x1), (2, .int x2)]) : W p l e R s m args below meth c H locs (xn F - xn K0) (2 * (xn F - xn K0)) Q (F0 m 24 ls []) := by
  have hx := C.1
  have hb := C.2.1
  unfold cb_X4_walk_24 at hm
  refine lv_aload_n hx hb dX4_walk_24 rfl (lv_at hl 0 rfl) ?_
  refine cg_X4_9 C hw dX4_walk_25 ?_
  refine cg_X4_52 C hw dX4_walk_28 ?_
  refine lv_bipush (v := (-2)) hx hb dX4_walk_31 (by decide) ?_
  refine lv_icmp_eq (tgt := 251) hx hb dX4_walk_33 (by decide) (fun c_1 => ?_) (fun c_1 => ?_)
  · have hm := (if_pos c_1).symm.trans hm
    exact cw_X4_walk_251 fu C hret x1 F G hm hw (lv_sub hl [0, 1] rfl)
  · have hm := (if_neg c_1).symm.trans hm
    exact cw_X4_walk_36 fu C hret ag_7 hag_7 hagn_7 x1 x2 F G hm hw (lv_sub hl [0, 1, 2] rfl)
theorem cn_X4_walk_14 (fu : Nat) {res : Int32 × PF × PG} (ag_7 : Int32 → Int32 → PF → PG → PR) (hagn_7 : ∀ (x1 : Int32) (x2 : Int32) (F : PF) (G : PG), ag_7 x1 x2 F G = some res → xn F ≤ xn res.2.1) (x1 : Int32) (x2 : Int32) (F : PF) (G : PG) (hm : cb_X4_walk_14 fu ag_7 x1 x2 F G = some res) : xn F ≤ xn res.2.1 := by
  unfold cb_X4_walk_14 at hm
  by_cases c_1 : (F 11) = (0 : Int32)
  · have hm := (if_pos c_1).symm.trans hm
    exact (cn_X4_walk_251 fu x1 F G hm)
  · have hm := (if_neg c_1).symm.trans hm
    exact (cn_X4_walk_24 fu ag_7 hagn_7 x1 x2 F G hm)
theorem cw_X4_walk_14 (fu : Nat) {res : Int32 × PF × PG} (C : cMC p R s m args c A v RX4 cX4_walk 7 606 36140 (xn res.2.1 - xn K0)) (hret : ∀ (b1 : Nat) (H1 : Heap) (locs1 : List Loc) (ls1 : Array Slot) (pc : Nat), cMW s A v a b1 K0 res.2.1 res.2.2 H1 locs1 → narrow .int (.int res.1) = .int res.1 → decode cX4_walk pc = .ok (.ireturn, 1) → W p l e R s m args below meth c H1 locs1 (xn res.2.1 - xn K0) (2 * (xn res.2.1 - xn K0)) Q (F0 m pc ls1 [.int res.1])) (ag_7 : Int32 → Int32 → PF → PG → PR) (hag_7 : ∀ (x1 : Int32) (x2 : Int32) (F : PF) (G : PG), ag_7 x1 x2 F G = some res → ∀ (b : Nat) (H : Heap) (locs : List Loc) (ls : Array Slot), cMW s A v a b K0 F G H locs → lv_has ls 7 [(0, .ref (a 204)), (1, .int x1), (2, .int x2)] → W p l e R s m args below meth c H locs (xn F - xn K0) (2 * (xn F - xn K0)) Q (F0 m 7 ls [])) (hagn_7 : ∀ (x1 : Int32) (x2 : Int32) (F : PF) (G : PG), ag_7 x1 x2 F G = some res → xn F ≤ xn res.2.1) (x1 : Int32) (x2 : Int32) (F : PF) (G : PG) (hm : cb_X4_walk_14 fu ag_7 x1 x2 F G = some res) {b : Nat} {H : Heap} {locs : List Loc} (hw : cMW s A v a b K0 F G H locs) {ls : Array Slot} (hl : lv_has ls 7 [(0, .ref (a 204)), (1, .int x1), (2, .int x2)]) : W p l e R s m args below meth c H locs (xn F - xn K0) (2 * (xn F - xn K0)) Q (F0 m 14 ls []) := by
  have hx := C.1
  have hb := C.2.1
  unfold cb_X4_walk_14 at hm
  refine lv_aload_n hx hb dX4_walk_14 rfl (lv_at hl 0 rfl) ?_
  refine cg_X4_9 C hw dX4_walk_15 ?_
  refine cg_X4_52 C hw dX4_walk_18 ?_
  refine lv_if_eq (tgt := 251) hx hb dX4_walk_21 (by decide) (fun c_1 => ?_) (fun c_1 => ?_)
  · have hm := (if_pos c_1).symm.trans hm
    exact cw_X4_walk_251 fu C hret x1 F G hm hw (lv_sub hl [0, 1] rfl)
  · have hm := (if_neg c_1).symm.trans hm
    exact cw_X4_walk_24 fu C hret ag_7 hag_7 hagn_7 x1 x2 F G hm hw (lv_sub hl [0, 1, 2] rfl)
theorem cn_X4_walk_7 (fu : Nat) {res : Int32 × PF × PG} (ag_7 : Int32 → Int32 → PF → PG → PR) (hagn_7 : ∀ (x1 : Int32) (x2 : Int32) (F : PF) (G : PG), ag_7 x1 x2 F G = some res → xn F ≤ xn res.2.1) (x1 : Int32) (x2 : Int32) (F : PF) (G : PG) (hm : cb_X4_walk_7 fu ag_7 x1 x2 F G = some res) : xn F ≤ xn res.2.1 := by
  unfold cb_X4_walk_7 at hm
  by_cases c_1 : (4001 : Int32) ≤ x2
  · have hm := (if_pos c_1).symm.trans hm
    exact (cn_X4_walk_251 fu x1 F G hm)
  · have hm := (if_neg c_1).symm.trans hm
    exact (cn_X4_walk_14 fu ag_7 hagn_7 x1 x2 F G hm)
theorem cw_X4_walk_7 (fu : Nat) {res : Int32 × PF × PG} (C : cMC p R s m args c A v RX4 cX4_walk 7 606 36140 (xn res.2.1 - xn K0)) (hret : ∀ (b1 : Nat) (H1 : Heap) (locs1 : List Loc) (ls1 : Array Slot) (pc : Nat), cMW s A v a b1 K0 res.2.1 res.2.2 H1 locs1 → narrow .int (.int res.1) = .int res.1 → decode cX4_walk pc = .ok (.ireturn, 1) → W p l e R s m args below meth c H1 locs1 (xn res.2.1 - xn K0) (2 * (xn res.2.1 - xn K0)) Q (F0 m pc ls1 [.int res.1])) (ag_7 : Int32 → Int32 → PF → PG → PR) (hag_7 : ∀ (x1 : Int32) (x2 : Int32) (F : PF) (G : PG), ag_7 x1 x2 F G = some res → ∀ (b : Nat) (H : Heap) (locs : List Loc) (ls : Array Slot), cMW s A v a b K0 F G H locs → lv_has ls 7 [(0, .ref (a 204)), (1, .int x1), (2, .int x2)] → W p l e R s m args below meth c H locs (xn F - xn K0) (2 * (xn F - xn K0)) Q (F0 m 7 ls [])) (hagn_7 : ∀ (x1 : Int32) (x2 : Int32) (F : PF) (G : PG), ag_7 x1 x2 F G = some res → xn F ≤ xn res.2.1) (x1 : Int32) (x2 : Int32) (F : PF) (G : PG) (hm : cb_X4_walk_7 fu ag_7 x1 x2 F G = some res) {b : Nat} {H : Heap} {locs : List Loc} (hw : cMW s A v a b K0 F G H locs) {ls : Array Slot} (hl : lv_has ls 7 [(0, .ref (a 204)), (1, .int x1), (2, .int x2)]) : W p l e R s m args below meth c H locs (xn F - xn K0) (2 * (xn F - xn K0)) Q (F0 m 7 ls []) := by
  have hx := C.1
  have hb := C.2.1
  unfold cb_X4_walk_7 at hm
  refine lv_iload_n hx hb dX4_walk_7 rfl (lv_at hl 2 rfl) ?_
  refine lv_sipush (v := 4001) hx hb dX4_walk_8 (by decide) ?_
  refine lv_icmp_ge (tgt := 251) hx hb dX4_walk_11 (by decide) (fun c_1 => ?_) (fun c_1 => ?_)
  · have hm := (if_pos c_1).symm.trans hm
    exact cw_X4_walk_251 fu C hret x1 F G hm hw (lv_sub hl [0, 1] rfl)
  · have hm := (if_neg c_1).symm.trans hm
    exact cw_X4_walk_14 fu C hret ag_7 hag_7 hagn_7 x1 x2 F G hm hw (lv_sub hl [0, 1, 2] rfl)
theorem cnl_X4_walk_7 (fu : Nat) {res : Int32 × PF × PG} : ∀ (n : Nat) (x1 : Int32) (x2 : Int32) (F : PF) (G : PG) (hm : cl_X4_walk_7 fu n x1 x2 F G = some res), xn F ≤ xn res.2.1 := by
  intro n
  induction n with
  | zero =>
    intro x1 x2 F G hm
    exact no_elim (show (none : PR) = some res from hm)
  | succ n ih =>
    intro x1 x2 F G hm
    exact cn_X4_walk_7 fu (cl_X4_walk_7 fu n) (fun x1 x2 F G hm => ih x1 x2 F G hm) x1 x2 F G hm
theorem cwl_X4_walk_7 (fu : Nat) {res : Int32 × PF × PG} (C : cMC p R s m args c A v RX4 cX4_walk 7 606 36140 (xn res.2.1 - xn K0)) (hret : ∀ (b1 : Nat) (H1 : Heap) (locs1 : List Loc) (ls1 : Array Slot) (pc : Nat), cMW s A v a b1 K0 res.2.1 res.2.2 H1 locs1 → narrow .int (.int res.1) = .int res.1 → decode cX4_walk pc = .ok (.ireturn, 1) → W p l e R s m args below meth c H1 locs1 (xn res.2.1 - xn K0) (2 * (xn res.2.1 - xn K0)) Q (F0 m pc ls1 [.int res.1])) : ∀ (n : Nat) (x1 : Int32) (x2 : Int32) (F : PF) (G : PG) (hm : cl_X4_walk_7 fu n x1 x2 F G = some res) {b : Nat} {H : Heap} {locs : List Loc} (hw : cMW s A v a b K0 F G H locs) {ls : Array Slot} (hl : lv_has ls 7 [(0, .ref (a 204)), (1, .int x1), (2, .int x2)]), W p l e R s m args below meth c H locs (xn F - xn K0) (2 * (xn F - xn K0)) Q (F0 m 7 ls []) := by
  intro n
  induction n with
  | zero =>
    intro x1 x2 F G hm
    exact no_elim (show (none : PR) = some res from hm)
  | succ n ih =>
    intro x1 x2 F G hm b H locs hw ls hl
    exact cw_X4_walk_7 fu C hret (cl_X4_walk_7 fu n) (fun x1 x2 F G hm b H locs ls hw hl => ih x1 x2 F G hm hw hl) (fun x1 x2 F G hm => cnl_X4_walk_7 fu n x1 x2 F G hm) x1 x2 F G hm hw hl
theorem cn_X4_walk_5 (fu : Nat) {res : Int32 × PF × PG} (x1 : Int32) (F : PF) (G : PG) (hm : cb_X4_walk_5 fu x1 F G = some res) : xn F ≤ xn res.2.1 := by
  unfold cb_X4_walk_5 at hm
  exact (cnl_X4_walk_7 fu fu x1 0 F G hm)
theorem cw_X4_walk_5 (fu : Nat) {res : Int32 × PF × PG} (C : cMC p R s m args c A v RX4 cX4_walk 7 606 36140 (xn res.2.1 - xn K0)) (hret : ∀ (b1 : Nat) (H1 : Heap) (locs1 : List Loc) (ls1 : Array Slot) (pc : Nat), cMW s A v a b1 K0 res.2.1 res.2.2 H1 locs1 → narrow .int (.int res.1) = .int res.1 → decode cX4_walk pc = .ok (.ireturn, 1) → W p l e R s m args below meth c H1 locs1 (xn res.2.1 - xn K0) (2 * (xn res.2.1 - xn K0)) Q (F0 m pc ls1 [.int res.1])) (x1 : Int32) (F : PF) (G : PG) (hm : cb_X4_walk_5 fu x1 F G = some res) {b : Nat} {H : Heap} {locs : List Loc} (hw : cMW s A v a b K0 F G H locs) {ls : Array Slot} (hl : lv_has ls 7 [(0, .ref (a 204)), (1, .int x1)]) : W p l e R s m args below meth c H locs (xn F - xn K0) (2 * (xn F - xn K0)) Q (F0 m 5 ls []) := by
  have hx := C.1
  have hb := C.2.1
  unfold cb_X4_walk_5 at hm
  refine lv_iconst (v := 0) hx hb dX4_walk_5 (by decide) ?_
  refine lv_istore_n (lv' := [(2, .int 0), (0, .ref (a 204)), (1, .int x1)]) hx hb dX4_walk_6 rfl hl (by decide) rfl (fun ls hl => ?_)
  exact cwl_X4_walk_7 fu C hret fu x1 0 F G hm hw (lv_sub hl [1, 2, 0] rfl)
theorem cn_X4_walk_0 (fu : Nat) {res : Int32 × PF × PG} (x1 : Int32) (F : PF) (G : PG) (hm : cb_X4_walk_0 fu x1 F G = some res) : xn F ≤ xn res.2.1 := by
  unfold cb_X4_walk_0 at hm
  obtain ⟨⟨r1, F1, G1⟩, hc, hm⟩ := bind_elim hm
  exact Nat.le_trans (cn_X4_start fu x1 F G _ hc) (cn_X4_walk_5 fu x1 F1 G1 hm)
theorem cw_X4_walk_0 (fu : Nat) {res : Int32 × PF × PG} (C : cMC p R s m args c A v RX4 cX4_walk 7 606 36140 (xn res.2.1 - xn K0)) (hret : ∀ (b1 : Nat) (H1 : Heap) (locs1 : List Loc) (ls1 : Array Slot) (pc : Nat), cMW s A v a b1 K0 res.2.1 res.2.2 H1 locs1 → narrow .int (.int res.1) = .int res.1 → decode cX4_walk pc = .ok (.ireturn, 1) → W p l e R s m args below meth c H1 locs1 (xn res.2.1 - xn K0) (2 * (xn res.2.1 - xn K0)) Q (F0 m pc ls1 [.int res.1])) (x1 : Int32) (F : PF) (G : PG) (hm : cb_X4_walk_0 fu x1 F G = some res) {b : Nat} {H : Heap} {locs : List Loc} (hw : cMW s A v a b K0 F G H locs) {ls : Array Slot} (hl : lv_has ls 7 [(0, .ref (a 204)), (1, .int x1)]) : W p l e R s m args below meth c H locs (xn F - xn K0) (2 * (xn F - xn K0)) Q (F0 m 0 ls []) := by
  have hx := C.1
  have hb := C.2.1
  unfold cb_X4_walk_0 at hm
  refine lv_aload_n hx hb dX4_walk_0 rfl (lv_at hl 0 rfl) ?_
  refine lv_iload_n hx hb dX4_walk_1 rfl (lv_at hl 1 rfl) ?_
  obtain ⟨⟨r1, F1, G1⟩, hc, hm⟩ := bind_elim hm
  refine ccallV (n := 1) (As := [.int x1]) (rest := []) C hw (ck_X4_start l v a _ _ fu x1 F G r1 F1 G1 hc) (cn_X4_start fu x1 F G _ hc) (Nat.sub_le_sub_right (cn_X4_walk_5 fu x1 F1 G1 hm) _) (crecv_X4 C hw) cm_287 cm_288 cm_289 cm_244 cm_290 (by decide +kernel) rfl (by omega) (by omega) hl.1 rfl (Nat.le_of_ble_eq_true rfl) dX4_walk_2 (fun b H locs hw => ?_)
  exact cw_X4_walk_5 fu C hret x1 F1 G1 hm hw (lv_sub hl [0, 1] rfl)
theorem cn_X4_walk (fu : Nat) (x1 : Int32) (F : PF) (G : PG) (q : Int32 × PF × PG) (hm : cf_X4_walk fu x1 F G = some q) : xn F ≤ xn q.2.1 := cn_X4_walk_0 fu x1 F G hm
theorem ck_X4_walk (l : Launch) (v : EV) (a : Nat → Nat) (b sz : Nat) (fu : Nat) (x1 : Int32) (F : PF) (G : PG) (r : Int32) (F1 : PF) (G1 : PG) (hm : cf_X4_walk fu x1 F G = some (r, F1, G1)) : cMI l yX4_walk cX4_walk 7 (some .int) 606 36140 v a b sz [.ref (a 204), .int x1] F G r F1 G1 := cMI.of (ty := .int) (by decide) rfl (Nat.le_of_ble_eq_true rfl) (fun p e R s m args below meth c Q A H locs ls C hw hl hret => cw_X4_walk_0 fu (res := (r, F1, G1)) C hret x1 F G hm hw hl)
end MB
