theorem xn_fup {F : PF} {k : Nat} {x : Int32} (h : 300 ≠ k) : xn (fup F k x) = xn F := by
  unfold xn fup
  rw [if_neg h]
def gcp (G : PG) (k0 k1 : Nat) : PG := fun j => if j = k1 then va_cpy (G k0) (G j) (0 : Int32).toNatClampNeg (0 : Int32).toNatClampNeg (2000 : Int32).toNatClampNeg else G j
theorem W.eqc {p : Program} {l : Launch} {e : Env} {R : Room} {s : State} {m : MethodId} {args : Array Value} {below : List Frame} {meth : Method} {c : Code} {H : Heap} {locs : List Loc} {Q : State → Prop} {g : JFrame} {x y x1 y1 : Nat} (hx : x = x1) (hy : y = y1) (h : W p l e R s m args below meth c H locs x y Q g) : W p l e R s m args below meth c H locs x1 y1 Q g := hx ▸ hy ▸ h
theorem cvsgood : ∀ w ∈ cvs, w ∈ cvs ∧ ((w.onTables && w.keeps) = true ∨ ∃ ty, w = .arrayClass ty) := fun w hw => ⟨hw, good_of_word (List.all_eq_true.mp cvs_good w hw)⟩
def cAs (v : EV) (a : Nat → Nat) (b sz : Nat) (F : PF) (G : PG) : Nat → Prop := va_A (cW v a b F G) sz
def cPre (v : EV) (a : Nat → Nat) (b sz : Nat) (F : PF) (G : PG) (U : State) : Prop := U.heap.size = sz ∧ va_P (eD v) vwCl (cW v a b F G) U.heap ∧ va_K (eD v) vwCl (eY v) U ∧ va_D (fun _ => True) (cW v a b F G) ∧ cX v (cAs v a b sz F G) U
def cPo (v : EV) (a : Nat → Nat) (b sz : Nat) (F : PF) (G : PG) (F1 : PF) (G1 : PG) (b1 : Nat) (t : State) : Prop := va_P (eD v) vwCl (cW v a b1 F1 G1) t.heap ∧ va_K (eD v) vwCl (eY v) t ∧ va_D (cAs v a b sz F G) (cW v a b1 F1 G1)
/-- the contract of a method that answers an int, by what its pure twin answers -/
def cMI (l : Launch) (y : MethodName) (cc : ByteArray) (maxL : Nat) (ret : Option FieldType) (fr lo : Nat) (v : EV) (a : Nat → Nat) (b sz : Nat) (As : List Value) (F : PF) (G : PG) (r : Int32) (F1 : PF) (G1 : PG) : Prop :=
  Met l y (Cond.code y cc maxL ret :: cvs) ({ frames := fr, cells := xn F1 - xn F, slots := 2 * (xn F1 - xn F), locals := lo }) (va_Pc As (cPre v a b sz F G)) (va_Qi (fun (r' : Int32) (_ : Nat) => r' = r) (cPo v a b sz F G F1 G1) (cAs v a b sz F G)) (xn F1 - xn F) (2 * (xn F1 - xn F)) (cAs v a b sz F G)
def cMV (l : Launch) (y : MethodName) (cc : ByteArray) (maxL : Nat) (fr lo : Nat) (v : EV) (a : Nat → Nat) (b sz : Nat) (As : List Value) (F : PF) (G : PG) (F1 : PF) (G1 : PG) : Prop :=
  Met l y (Cond.code y cc maxL none :: cvs) ({ frames := fr, cells := xn F1 - xn F, slots := 2 * (xn F1 - xn F), locals := lo }) (va_Pc As (cPre v a b sz F G)) (va_Qv (fun _ : Nat => True) (cPo v a b sz F G F1 G1) (cAs v a b sz F G)) (xn F1 - xn F) (2 * (xn F1 - xn F)) (cAs v a b sz F G)
section CMM
variable {p : Program} {l : Launch} {e : Env} {R : Room} {s : State} {m : MethodId} {args : Array Value} {below : List Frame} {meth : Method} {c : Code} {H : Heap} {locs : List Loc} {Q : State → Prop} {A : Nat → Prop} {v : EV} {a : Nat → Nat} {b ce : Nat} {own : String} {cc : ByteArray} {nL fr lo : Nat} {K0 : PF}
/-- what stands fast in a method -/
def cMC (p : Program) (R : Room) (s : State) (m : MethodId) (args : Array Value) (c : Code) (A : Nat → Prop) (v : EV) (own : String) (cc : ByteArray) (nL fr lo ce : Nat) : Prop :=
  p.tables.exec = Jvm.exec ∧ c.code = cc ∧ c.maxLocals = nL ∧ s.vm.findClass own = some m.cls ∧ (∀ w ∈ cvs, w.before args s = true) ∧ (∀ q, s.heap.size ≤ q → A q) ∧ va_K (eD v) vwCl (eY v) s ∧ fr ≤ R.frames ∧ lo ≤ R.locals ∧ cX v A s ∧ ce ≤ R.cells ∧ 2 * ce ≤ R.slots
/-- the heap holds the state -/
def cMW (s : State) (A : Nat → Prop) (v : EV) (a : Nat → Nat) (b : Nat) (K0 F : PF) (G : PG) (H : Heap) (locs : List Loc) : Prop :=
  va_P (eD v) vwCl (cW v a b F G) H ∧ va_D A (cW v a b F G) ∧ va_S A s.heap H locs ∧ xn K0 ≤ xn F
theorem cMW.free {F : PF} {G : PG} (C : cMC p R s m args c A v own cc nL fr lo ce) (hw : cMW s A v a b K0 F G H locs) : ∀ q, cAs v a b H.size F G q → A q := va_free (wc := cW v a b F G) hw.2.1 hw.2.2.1 C.2.2.2.2.2.1 (List.range 45) rfl
theorem cgood {idx : Nat} {y : MethodName} {cc2 : ByteArray} {maxL : Nat} {ret : Option FieldType} (g1 : Cond.methodLink own idx y ∈ cvs) (g2 : Cond.instanceMethod y ∈ cvs) (g3 : Cond.selects y.cls y y ∈ cvs) (g4 : Cond.initialized y.cls ∈ cvs) (g5 : Cond.code y cc2 maxL ret ∈ cvs) : GoodIn cvs (wsV own idx y.cls y (Cond.code y cc2 maxL ret :: cvs)) := by
  intro w hw
  refine cvsgood w ?_
  have hw : w ∈ ([.methodLink own idx y, .instanceMethod y, .selects y.cls y y, .initialized y.cls] : List Cond) ++ (Cond.code y cc2 maxL ret :: cvs) := hw
  simp only [List.mem_append, List.mem_cons, List.not_mem_nil, or_false] at hw
  rcases hw with (rfl | rfl | rfl | rfl) | rfl | hw
  · exact g1
  · exact g2
  · exact g3
  · exact g4
  · exact g5
  · exact hw
theorem cgoodS {idx : Nat} {y : MethodName} {cc2 : ByteArray} {maxL : Nat} {ret : Option FieldType} (g1 : Cond.methodLink own idx y ∈ cvs) (g2 : Cond.static y ∈ cvs) (g4 : Cond.initialized y.cls ∈ cvs) (g5 : Cond.code y cc2 maxL ret ∈ cvs) : GoodIn cvs (va_wsS own idx y (Cond.code y cc2 maxL ret :: cvs)) := by
  intro w hw
  refine cvsgood w ?_
  have hw : w ∈ ([.methodLink own idx y, .static y, .initialized y.cls] : List Cond) ++ (Cond.code y cc2 maxL ret :: cvs) := hw
  simp only [List.mem_append, List.mem_cons, List.not_mem_nil, or_false] at hw
  rcases hw with (rfl | rfl | rfl) | rfl | hw
  · exact g1
  · exact g2
  · exact g4
  · exact g5
  · exact hw
theorem cgoodN {y : MethodName} {cc2 : ByteArray} {maxL : Nat} {ret : Option FieldType} (g5 : Cond.code y cc2 maxL ret ∈ cvs) : GoodIn cvs (Cond.code y cc2 maxL ret :: cvs) := by
  intro w hw
  refine cvsgood w ?_
  simp only [List.mem_cons] at hw
  rcases hw with rfl | hw
  · exact g5
  · exact hw
theorem cPre.calling {sz : Nat} {F : PF} {G : PG} {As : List Value} : FrameBlind (va_Pc As (cPre v a b sz F G)) := fun b U g mk q => by
  obtain ⟨q0, q1, qP, qK, qD, qX⟩ := q
  exact ⟨q0, q1, qP, va_K.moved (u := U) (U := U.calling g mk b) (Vm.Alike.refl U.vm) qK, qD, cX.calling qX rfl rfl⟩
theorem cMW.pre {F : PF} {G : PG} (C : cMC p R s m args c A v own cc nL fr lo ce) (hw : cMW s A v a b K0 F G H locs) : ∀ U : State, U.heap = H → s.WarmedH U.vm → cPre v a b H.size F G U := fun U hU hW => ⟨by rw [hU], by rw [hU]; exact hw.1, va_K.moved hW.alike C.2.2.2.2.2.2.1, hw.2.1.weaken (fun _ _ _ _ => trivial), cX.pass C.2.2.2.2.2.2.2.2.2.1 hw.2.2.1 (cMW.free C hw) hU hW⟩
theorem cMW.back {F F1 : PF} {G G1 : PG} {b1 : Nat} {t : State} {H1 : Heap} {locs1 : List Loc} (hF : ∀ q, cAs v a b H.size F G q → A q) (ht : t.heap = H1) (hB : cPo v a b H.size F G F1 G1 b1 t) (hS1 : va_S A s.heap H1 locs1) (hn : xn K0 ≤ xn F1) : cMW s A v a b1 K0 F1 G1 H1 locs1 := by
  obtain ⟨hP1, hK1, hD1⟩ := hB
  rw [ht] at hP1
  exact ⟨hP1, hD1.weaken (fun _ _ _ q => hF _ q), hS1, hn⟩
theorem ccallI {y : MethodName} {cc2 : ByteArray} {maxL : Nat} {ret : Option FieldType} {fr2 lo2 idx n pc : Nat} {hh : Nat} {As rest : List Value} {ls : Array Slot} {F F1 : PF} {G G1 : PG} {r : Int32} (C : cMC p R s m args c A v own cc nL fr lo ce) (hw : cMW s A v a b K0 F G H locs) (hM : cMI l y cc2 maxL ret fr2 lo2 v a b H.size (.ref hh :: As) F G r F1 G1) (hm1 : xn F ≤ xn F1) (hm2 : xn F1 - xn K0 ≤ ce) (hrc : ∃ cell : Cell, H[hh]? = some cell ∧ cell.vm.isStatics = false ∧ s.vm.findClass y.cls = some cell.cls) (g1 : Cond.methodLink own idx y ∈ cvs) (g2 : Cond.instanceMethod y ∈ cvs) (g3 : Cond.selects y.cls y y ∈ cvs) (g4 : Cond.initialized y.cls ∈ cvs) (g5 : Cond.code y cc2 maxL ret ∈ cvs) (hd : y.cls ≠ "java/lang/invoke/MethodHandle" ∧ y.cls ≠ "java/lang/invoke/VarHandle" ∧ (parseMethodDescriptor y.desc).map (fun d => d.parameters.length) = some n) (hn : As.length = n) (hfr : fr2 + 1 ≤ fr) (hlo : 8 + (maxL + 11) + lo2 ≤ lo) (hsz : ls.size = nL) {st : List Value} (hst : st = As.reverse ++ .ref hh :: rest) (hrm : (rest.map fun v => v.category).sum ≤ 8) (hdg : decode cc pc = .ok (.invokevirtual idx, 3))
    (kk : ∀ (b1 : Nat) (H1 : Heap) (locs1 : List Loc), cMW s A v a b1 K0 F1 G1 H1 locs1 → W p l e R s m args below meth c H1 locs1 (xn F1 - xn K0) (2 * (xn F1 - xn K0)) Q (F0 m (pc + 3) ls (.int r :: rest))) : W p l e R s m args below meth c H locs (xn F - xn K0) (2 * (xn F - xn K0)) Q (F0 m pc ls st) := by
  obtain ⟨hx, hb, hml, hown, hV, hA, hK, hR1, hR2, hX, hR3, hR4⟩ := id C
  have hFc := cMW.free C hw
  have hmn := hw.2.2.2
  have hM : Met l y (Cond.code y cc2 maxL ret :: cvs) ({ frames := fr2, cells := xn F1 - xn F, slots := 2 * (xn F1 - xn F), locals := lo2 }) (va_Pc (.ref hh :: As) (cPre v a b H.size F G)) (va_Qi (fun (r' : Int32) (_ : Nat) => r' = r) (cPo v a b H.size F G F1 G1) (cAs v a b H.size F G)) (xn F1 - xn F) (2 * (xn F1 - xn F)) (cAs v a b H.size F G) := hM
  have hf : (xn F - xn K0) + (xn F1 - xn F) ≤ R.cells ∧ 2 * (xn F - xn K0) + 2 * (xn F1 - xn F) ≤ R.slots := by omega
  refine va_calli (va_runV (As := As) (rest := rest) ⟨hx, hb, hml, hown, hV⟩ hM (cwV n hV (cgood g1 g2 g3 g4 g5) rfl rfl rfl ⟨rfl, hd⟩ ⟨Nat.le_trans hfr hR1, Nat.le_trans hlo hR2⟩) ⟨cPre.calling, hrc, fun U hU hW => ⟨rfl, cMW.pre C hw U hU hW⟩⟩ rfl hn hsz hst (lv_room hrm) hdg hf) hw.2.2.1 (fun q _ h => hFc q h) hFc (fun r' u t H1 locs1 ht hvm hr hB hz1 hk1 hS1 => ?_)
  obtain rfl := hr
  exact W.eqc (by omega) (by omega) (kk u H1 locs1 (cMW.back hFc ht hB hS1 (by omega)))
theorem ccallIS {y : MethodName} {cc2 : ByteArray} {maxL : Nat} {ret : Option FieldType} {fr2 lo2 idx n pc : Nat} {As rest : List Value} {ls : Array Slot} {F F1 : PF} {G G1 : PG} {r : Int32} (C : cMC p R s m args c A v own cc nL fr lo ce) (hw : cMW s A v a b K0 F G H locs) (hM : cMI l y cc2 maxL ret fr2 lo2 v a b H.size As F G r F1 G1) (hm1 : xn F ≤ xn F1) (hm2 : xn F1 - xn K0 ≤ ce) (g1 : Cond.methodLink own idx y ∈ cvs) (g2 : Cond.static y ∈ cvs) (g4 : Cond.initialized y.cls ∈ cvs) (g5 : Cond.code y cc2 maxL ret ∈ cvs) (hd : y.cls ≠ "java/lang/invoke/MethodHandle" ∧ y.cls ≠ "java/lang/invoke/VarHandle" ∧ (parseMethodDescriptor y.desc).map (fun d => d.parameters.length) = some n) (hn : As.length = n) (hfr : fr2 + 1 ≤ fr) (hlo : 8 + (maxL + 11) + lo2 ≤ lo) (hsz : ls.size = nL) {st : List Value} (hst : st = As.reverse ++ rest) (hrm : (rest.map fun v => v.category).sum ≤ 8) (hdg : decode cc pc = .ok (.invokestatic idx, 3))
    (kk : ∀ (b1 : Nat) (H1 : Heap) (locs1 : List Loc), cMW s A v a b1 K0 F1 G1 H1 locs1 → W p l e R s m args below meth c H1 locs1 (xn F1 - xn K0) (2 * (xn F1 - xn K0)) Q (F0 m (pc + 3) ls (.int r :: rest))) : W p l e R s m args below meth c H locs (xn F - xn K0) (2 * (xn F - xn K0)) Q (F0 m pc ls st) := by
  obtain ⟨hx, hb, hml, hown, hV, hA, hK, hR1, hR2, hX, hR3, hR4⟩ := id C
  have hFc := cMW.free C hw
  have hmn := hw.2.2.2
  have hM : Met l y (Cond.code y cc2 maxL ret :: cvs) ({ frames := fr2, cells := xn F1 - xn F, slots := 2 * (xn F1 - xn F), locals := lo2 }) (va_Pc As (cPre v a b H.size F G)) (va_Qi (fun (r' : Int32) (_ : Nat) => r' = r) (cPo v a b H.size F G F1 G1) (cAs v a b H.size F G)) (xn F1 - xn F) (2 * (xn F1 - xn F)) (cAs v a b H.size F G) := hM
  have hf : (xn F - xn K0) + (xn F1 - xn F) ≤ R.cells ∧ 2 * (xn F - xn K0) + 2 * (xn F1 - xn F) ≤ R.slots := by omega
  refine va_calli (va_runS (As := As) (rest := rest) ⟨hx, hb, hml, hown, hV⟩ hM (va_cwS n hV (cgoodS g1 g2 g4 g5) rfl rfl rfl hd ⟨Nat.le_trans hfr hR1, Nat.le_trans hlo hR2⟩) ⟨cPre.calling, fun U hU hW => ⟨rfl, cMW.pre C hw U hU hW⟩⟩ rfl hn hsz hst (lv_room hrm) hdg hf) hw.2.2.1 (fun q _ h => hFc q h) hFc (fun r' u t H1 locs1 ht hvm hr hB hz1 hk1 hS1 => ?_)
  obtain rfl := hr
  exact W.eqc (by omega) (by omega) (kk u H1 locs1 (cMW.back hFc ht hB hS1 (by omega)))
theorem ccallIN {y : MethodName} {cc2 : ByteArray} {maxL : Nat} {ret : Option FieldType} {fr2 lo2 idx n pc : Nat} {As rest : List Value} {ls : Array Slot} {F F1 : PF} {G G1 : PG} {r : Int32} (C : cMC p R s m args c A v own cc nL fr lo ce) (hw : cMW s A v a b K0 F G H locs) (hM : cMI l y cc2 maxL ret fr2 lo2 v a b H.size As F G r F1 G1) (hm1 : xn F ≤ xn F1) (hm2 : xn F1 - xn K0 ≤ ce) {host : String} (g1 : va_Nw (.methodLinkNest own idx y host) s) (g2 : Cond.static y ∈ cvs) (g4 : Cond.initialized y.cls ∈ cvs) (g5 : Cond.code y cc2 maxL ret ∈ cvs) (hd : y.cls ≠ "java/lang/invoke/MethodHandle" ∧ y.cls ≠ "java/lang/invoke/VarHandle" ∧ (parseMethodDescriptor y.desc).map (fun d => d.parameters.length) = some n) (hn : As.length = n) (hfr : fr2 + 1 ≤ fr) (hlo : 8 + (maxL + 11) + lo2 ≤ lo) (hsz : ls.size = nL) {st : List Value} (hst : st = As.reverse ++ rest) (hrm : (rest.map fun v => v.category).sum ≤ 8) (hdg : decode cc pc = .ok (.invokestatic idx, 3))
    (kk : ∀ (b1 : Nat) (H1 : Heap) (locs1 : List Loc), cMW s A v a b1 K0 F1 G1 H1 locs1 → W p l e R s m args below meth c H1 locs1 (xn F1 - xn K0) (2 * (xn F1 - xn K0)) Q (F0 m (pc + 3) ls (.int r :: rest))) : W p l e R s m args below meth c H locs (xn F - xn K0) (2 * (xn F - xn K0)) Q (F0 m pc ls st) := by
  obtain ⟨hx, hb, hml, hown, hV, hA, hK, hR1, hR2, hX, hR3, hR4⟩ := id C
  have hFc := cMW.free C hw
  have hmn := hw.2.2.2
  have hM : Met l y (Cond.code y cc2 maxL ret :: cvs) ({ frames := fr2, cells := xn F1 - xn F, slots := 2 * (xn F1 - xn F), locals := lo2 }) (va_Pc As (cPre v a b H.size F G)) (va_Qi (fun (r' : Int32) (_ : Nat) => r' = r) (cPo v a b H.size F G F1 G1) (cAs v a b H.size F G)) (xn F1 - xn F) (2 * (xn F1 - xn F)) (cAs v a b H.size F G) := hM
  have hf : (xn F - xn K0) + (xn F1 - xn F) ≤ R.cells ∧ 2 * (xn F - xn K0) + 2 * (xn F1 - xn F) ≤ R.slots := by omega
  refine va_calli (va_runSN (As := As) (rest := rest) ⟨hx, hb, hml, hown, hV⟩ hM ⟨va_cnB n hV (cgoodN g5) rfl rfl rfl g1 (hV _ g4) hd ⟨Nat.le_trans hfr hR1, Nat.le_trans hlo hR2⟩, hV _ g2, trivial⟩ ⟨cPre.calling, fun U hU hW => ⟨rfl, cMW.pre C hw U hU hW⟩⟩ rfl hn hsz hst (lv_room hrm) hdg hf) hw.2.2.1 (fun q _ h => hFc q h) hFc (fun r' u t H1 locs1 ht hvm hr hB hz1 hk1 hS1 => ?_)
  obtain rfl := hr
  exact W.eqc (by omega) (by omega) (kk u H1 locs1 (cMW.back hFc ht hB hS1 (by omega)))
theorem ccallV {y : MethodName} {cc2 : ByteArray} {maxL : Nat} {fr2 lo2 idx n pc : Nat} {hh : Nat} {As rest : List Value} {ls : Array Slot} {F F1 : PF} {G G1 : PG} (C : cMC p R s m args c A v own cc nL fr lo ce) (hw : cMW s A v a b K0 F G H locs) (hM : cMV l y cc2 maxL fr2 lo2 v a b H.size (.ref hh :: As) F G F1 G1) (hm1 : xn F ≤ xn F1) (hm2 : xn F1 - xn K0 ≤ ce) (hrc : ∃ cell : Cell, H[hh]? = some cell ∧ cell.vm.isStatics = false ∧ s.vm.findClass y.cls = some cell.cls) (g1 : Cond.methodLink own idx y ∈ cvs) (g2 : Cond.instanceMethod y ∈ cvs) (g3 : Cond.selects y.cls y y ∈ cvs) (g4 : Cond.initialized y.cls ∈ cvs) (g5 : Cond.code y cc2 maxL none ∈ cvs) (hd : y.cls ≠ "java/lang/invoke/MethodHandle" ∧ y.cls ≠ "java/lang/invoke/VarHandle" ∧ (parseMethodDescriptor y.desc).map (fun d => d.parameters.length) = some n) (hn : As.length = n) (hfr : fr2 + 1 ≤ fr) (hlo : 8 + (maxL + 11) + lo2 ≤ lo) (hsz : ls.size = nL) {st : List Value} (hst : st = As.reverse ++ .ref hh :: rest) (hrm : (rest.map fun v => v.category).sum ≤ 8) (hdg : decode cc pc = .ok (.invokevirtual idx, 3))
    (kk : ∀ (b1 : Nat) (H1 : Heap) (locs1 : List Loc), cMW s A v a b1 K0 F1 G1 H1 locs1 → W p l e R s m args below meth c H1 locs1 (xn F1 - xn K0) (2 * (xn F1 - xn K0)) Q (F0 m (pc + 3) ls (rest))) : W p l e R s m args below meth c H locs (xn F - xn K0) (2 * (xn F - xn K0)) Q (F0 m pc ls st) := by
  obtain ⟨hx, hb, hml, hown, hV, hA, hK, hR1, hR2, hX, hR3, hR4⟩ := id C
  have hFc := cMW.free C hw
  have hmn := hw.2.2.2
  have hM : Met l y (Cond.code y cc2 maxL none :: cvs) ({ frames := fr2, cells := xn F1 - xn F, slots := 2 * (xn F1 - xn F), locals := lo2 }) (va_Pc (.ref hh :: As) (cPre v a b H.size F G)) (va_Qv (fun _ : Nat => True) (cPo v a b H.size F G F1 G1) (cAs v a b H.size F G)) (xn F1 - xn F) (2 * (xn F1 - xn F)) (cAs v a b H.size F G) := hM
  have hf : (xn F - xn K0) + (xn F1 - xn F) ≤ R.cells ∧ 2 * (xn F - xn K0) + 2 * (xn F1 - xn F) ≤ R.slots := by omega
  refine va_callv (va_runV (As := As) (rest := rest) ⟨hx, hb, hml, hown, hV⟩ hM (cwV n hV (cgood g1 g2 g3 g4 g5) rfl rfl rfl ⟨rfl, hd⟩ ⟨Nat.le_trans hfr hR1, Nat.le_trans hlo hR2⟩) ⟨cPre.calling, hrc, fun U hU hW => ⟨rfl, cMW.pre C hw U hU hW⟩⟩ rfl hn hsz hst (lv_room hrm) hdg hf) hw.2.2.1 (fun q _ h => hFc q h) hFc (fun u t H1 locs1 ht hvm hr hB hz1 hk1 hS1 => ?_)
  exact W.eqc (by omega) (by omega) (kk u H1 locs1 (cMW.back hFc ht hB hS1 (by omega)))
theorem ccallVS {y : MethodName} {cc2 : ByteArray} {maxL : Nat} {fr2 lo2 idx n pc : Nat} {As rest : List Value} {ls : Array Slot} {F F1 : PF} {G G1 : PG} (C : cMC p R s m args c A v own cc nL fr lo ce) (hw : cMW s A v a b K0 F G H locs) (hM : cMV l y cc2 maxL fr2 lo2 v a b H.size As F G F1 G1) (hm1 : xn F ≤ xn F1) (hm2 : xn F1 - xn K0 ≤ ce) (g1 : Cond.methodLink own idx y ∈ cvs) (g2 : Cond.static y ∈ cvs) (g4 : Cond.initialized y.cls ∈ cvs) (g5 : Cond.code y cc2 maxL none ∈ cvs) (hd : y.cls ≠ "java/lang/invoke/MethodHandle" ∧ y.cls ≠ "java/lang/invoke/VarHandle" ∧ (parseMethodDescriptor y.desc).map (fun d => d.parameters.length) = some n) (hn : As.length = n) (hfr : fr2 + 1 ≤ fr) (hlo : 8 + (maxL + 11) + lo2 ≤ lo) (hsz : ls.size = nL) {st : List Value} (hst : st = As.reverse ++ rest) (hrm : (rest.map fun v => v.category).sum ≤ 8) (hdg : decode cc pc = .ok (.invokestatic idx, 3))
    (kk : ∀ (b1 : Nat) (H1 : Heap) (locs1 : List Loc), cMW s A v a b1 K0 F1 G1 H1 locs1 → W p l e R s m args below meth c H1 locs1 (xn F1 - xn K0) (2 * (xn F1 - xn K0)) Q (F0 m (pc + 3) ls (rest))) : W p l e R s m args below meth c H locs (xn F - xn K0) (2 * (xn F - xn K0)) Q (F0 m pc ls st) := by
  obtain ⟨hx, hb, hml, hown, hV, hA, hK, hR1, hR2, hX, hR3, hR4⟩ := id C
  have hFc := cMW.free C hw
  have hmn := hw.2.2.2
  have hM : Met l y (Cond.code y cc2 maxL none :: cvs) ({ frames := fr2, cells := xn F1 - xn F, slots := 2 * (xn F1 - xn F), locals := lo2 }) (va_Pc As (cPre v a b H.size F G)) (va_Qv (fun _ : Nat => True) (cPo v a b H.size F G F1 G1) (cAs v a b H.size F G)) (xn F1 - xn F) (2 * (xn F1 - xn F)) (cAs v a b H.size F G) := hM
  have hf : (xn F - xn K0) + (xn F1 - xn F) ≤ R.cells ∧ 2 * (xn F - xn K0) + 2 * (xn F1 - xn F) ≤ R.slots := by omega
  refine va_callv (va_runS (As := As) (rest := rest) ⟨hx, hb, hml, hown, hV⟩ hM (va_cwS n hV (cgoodS g1 g2 g4 g5) rfl rfl rfl hd ⟨Nat.le_trans hfr hR1, Nat.le_trans hlo hR2⟩) ⟨cPre.calling, fun U hU hW => ⟨rfl, cMW.pre C hw U hU hW⟩⟩ rfl hn hsz hst (lv_room hrm) hdg hf) hw.2.2.1 (fun q _ h => hFc q h) hFc (fun u t H1 locs1 ht hvm hr hB hz1 hk1 hS1 => ?_)
  exact W.eqc (by omega) (by omega) (kk u H1 locs1 (cMW.back hFc ht hB hS1 (by omega)))
theorem ccallVN {y : MethodName} {cc2 : ByteArray} {maxL : Nat} {fr2 lo2 idx n pc : Nat} {As rest : List Value} {ls : Array Slot} {F F1 : PF} {G G1 : PG} (C : cMC p R s m args c A v own cc nL fr lo ce) (hw : cMW s A v a b K0 F G H locs) (hM : cMV l y cc2 maxL fr2 lo2 v a b H.size As F G F1 G1) (hm1 : xn F ≤ xn F1) (hm2 : xn F1 - xn K0 ≤ ce) {host : String} (g1 : va_Nw (.methodLinkNest own idx y host) s) (g2 : Cond.static y ∈ cvs) (g4 : Cond.initialized y.cls ∈ cvs) (g5 : Cond.code y cc2 maxL none ∈ cvs) (hd : y.cls ≠ "java/lang/invoke/MethodHandle" ∧ y.cls ≠ "java/lang/invoke/VarHandle" ∧ (parseMethodDescriptor y.desc).map (fun d => d.parameters.length) = some n) (hn : As.length = n) (hfr : fr2 + 1 ≤ fr) (hlo : 8 + (maxL + 11) + lo2 ≤ lo) (hsz : ls.size = nL) {st : List Value} (hst : st = As.reverse ++ rest) (hrm : (rest.map fun v => v.category).sum ≤ 8) (hdg : decode cc pc = .ok (.invokestatic idx, 3))
    (kk : ∀ (b1 : Nat) (H1 : Heap) (locs1 : List Loc), cMW s A v a b1 K0 F1 G1 H1 locs1 → W p l e R s m args below meth c H1 locs1 (xn F1 - xn K0) (2 * (xn F1 - xn K0)) Q (F0 m (pc + 3) ls (rest))) : W p l e R s m args below meth c H locs (xn F - xn K0) (2 * (xn F - xn K0)) Q (F0 m pc ls st) := by
  obtain ⟨hx, hb, hml, hown, hV, hA, hK, hR1, hR2, hX, hR3, hR4⟩ := id C
  have hFc := cMW.free C hw
  have hmn := hw.2.2.2
  have hM : Met l y (Cond.code y cc2 maxL none :: cvs) ({ frames := fr2, cells := xn F1 - xn F, slots := 2 * (xn F1 - xn F), locals := lo2 }) (va_Pc As (cPre v a b H.size F G)) (va_Qv (fun _ : Nat => True) (cPo v a b H.size F G F1 G1) (cAs v a b H.size F G)) (xn F1 - xn F) (2 * (xn F1 - xn F)) (cAs v a b H.size F G) := hM
  have hf : (xn F - xn K0) + (xn F1 - xn F) ≤ R.cells ∧ 2 * (xn F - xn K0) + 2 * (xn F1 - xn F) ≤ R.slots := by omega
  refine va_callv (va_runSN (As := As) (rest := rest) ⟨hx, hb, hml, hown, hV⟩ hM ⟨va_cnB n hV (cgoodN g5) rfl rfl rfl g1 (hV _ g4) hd ⟨Nat.le_trans hfr hR1, Nat.le_trans hlo hR2⟩, hV _ g2, trivial⟩ ⟨cPre.calling, fun U hU hW => ⟨rfl, cMW.pre C hw U hU hW⟩⟩ rfl hn hsz hst (lv_room hrm) hdg hf) hw.2.2.1 (fun q _ h => hFc q h) hFc (fun u t H1 locs1 ht hvm hr hB hz1 hk1 hS1 => ?_)
  exact W.eqc (by omega) (by omega) (kk u H1 locs1 (cMW.back hFc ht hB hS1 (by omega)))
theorem cMI.of {y : MethodName} {maxL : Nat} {ret : Option FieldType} {ty : FieldType} {As : List Value} {sz : Nat} {F F1 : PF} {G G1 : PG} {r : Int32} (hy : plainName y.cls = true) (hret : ret = some ty) (hlen : (lg_sl As).length ≤ maxL)
    (body : ∀ (p : Program) (e : Env) (R : Room) (s : State) (m : MethodId) (args : Array Value) (below : List Frame) (meth : Method) (c : Code) (Q : State → Prop) (A : Nat → Prop) (H : Heap) (locs : List Loc) (ls : Array Slot), cMC p R s m args c A v y.cls cc maxL fr lo (xn F1 - xn F) → cMW s A v a b F F G H locs → lv_has ls maxL (lv_args 0 As) → (∀ (b1 : Nat) (H1 : Heap) (locs1 : List Loc) (ls1 : Array Slot) (pc : Nat), cMW s A v a b1 F F1 G1 H1 locs1 → narrow ty (.int r) = .int r → decode cc pc = .ok (.ireturn, 1) → W p l e R s m args below meth c H1 locs1 (xn F1 - xn F) (2 * (xn F1 - xn F)) Q (F0 m pc ls1 [.int r])) → W p l e R s m args below meth c H locs (xn F - xn F) (2 * (xn F - xn F)) Q (F0 m 0 ls [])) : cMI l y cc maxL ret fr lo v a b sz As F G r F1 G1 := by
  refine Met.ofW (cc := cc) (maxL := maxL) (ret := ret) hy rfl ?_
  intro p e s m args below meth c s₁ B hml hv
  obtain ⟨rfl, hsz, hP, hK, hD0, hX⟩ := hv
  have hx := B.exec
  have hb := B.bytes
  have hr := B.returns
  have hts := atoms_spec (ws := Cond.code y cc maxL ret :: cvs) B.pre
  have hown : s.vm.findClass y.cls = some m.cls := findClass_of_methodNamed B.named
  have hlocks := B.notSynchronized
  subst hsz
  have hD : va_D (cAs v a b s.heap.size F G) (cW v a b F G) := hD0.self (sz := s.heap.size)
  have hA : ∀ q : Nat, s.heap.size ≤ q → cAs v a b s.heap.size F G q := fun q h => Or.inr h
  have hl := lv_entry As (n := maxL) hlen
  rw [lg_entry_eq]
  refine W.eqc (x := xn F - xn F) (y := 2 * (xn F - xn F)) (by omega) (by omega) ?_
  refine body p e _ s m _ below meth c _ _ s.heap [] _ ⟨hx, hb, hml, hown, fun w hw => hts w (List.mem_cons_of_mem _ hw), hA, hK, Nat.le_refl _, Nat.le_refl _, hX, Nat.le_refl _, Nat.le_refl _⟩ ⟨hP, hD, va_S.rf, Nat.le_refl _⟩ hl ?_
  intro b1 H1 locs1 ls1 pc hw hnar hdg
  exact W.zret (v := r) (ty := ty) hx hb (hr.trans hret) hnar (fun t ht hW => ⟨⟨r, b1, rfl, rfl, by rw [ht]; exact hw.1, va_K.moved hW.alike hK, hw.2.1⟩, hw.2.2.1.F ht⟩) hw.2.2.1.2.2 hdg
theorem cMV.of {y : MethodName} {maxL : Nat} {As : List Value} {sz : Nat} {F F1 : PF} {G G1 : PG} (hy : plainName y.cls = true) (hlen : (lg_sl As).length ≤ maxL)
    (body : ∀ (p : Program) (e : Env) (R : Room) (s : State) (m : MethodId) (args : Array Value) (below : List Frame) (meth : Method) (c : Code) (Q : State → Prop) (A : Nat → Prop) (H : Heap) (locs : List Loc) (ls : Array Slot), cMC p R s m args c A v y.cls cc maxL fr lo (xn F1 - xn F) → cMW s A v a b F F G H locs → lv_has ls maxL (lv_args 0 As) → (∀ (b1 : Nat) (H1 : Heap) (locs1 : List Loc) (ls1 : Array Slot) (pc : Nat), cMW s A v a b1 F F1 G1 H1 locs1 → decode cc pc = .ok (.return_, 1) → W p l e R s m args below meth c H1 locs1 (xn F1 - xn F) (2 * (xn F1 - xn F)) Q (F0 m pc ls1 [])) → W p l e R s m args below meth c H locs (xn F - xn F) (2 * (xn F - xn F)) Q (F0 m 0 ls [])) : cMV l y cc maxL fr lo v a b sz As F G F1 G1 := by
  refine Met.ofW (cc := cc) (maxL := maxL) (ret := none) hy rfl ?_
  intro p e s m args below meth c s₁ B hml hv
  obtain ⟨rfl, hsz, hP, hK, hD0, hX⟩ := hv
  have hx := B.exec
  have hb := B.bytes
  have hr := B.returns
  have hts := atoms_spec (ws := Cond.code y cc maxL none :: cvs) B.pre
  have hown : s.vm.findClass y.cls = some m.cls := findClass_of_methodNamed B.named
  have hlocks := B.notSynchronized
  subst hsz
  have hD : va_D (cAs v a b s.heap.size F G) (cW v a b F G) := hD0.self (sz := s.heap.size)
  have hA : ∀ q : Nat, s.heap.size ≤ q → cAs v a b s.heap.size F G q := fun q h => Or.inr h
  have hl := lv_entry As (n := maxL) hlen
  rw [lg_entry_eq]
  refine W.eqc (x := xn F - xn F) (y := 2 * (xn F - xn F)) (by omega) (by omega) ?_
  refine body p e _ s m _ below meth c _ _ s.heap [] _ ⟨hx, hb, hml, hown, fun w hw => hts w (List.mem_cons_of_mem _ hw), hA, hK, Nat.le_refl _, Nat.le_refl _, hX, Nat.le_refl _, Nat.le_refl _⟩ ⟨hP, hD, va_S.rf, Nat.le_refl _⟩ hl ?_
  intro b1 H1 locs1 ls1 pc hw hdg
  exact W.vret hx hb hr (fun t ht hW => ⟨⟨b1, rfl, trivial, by rw [ht]; exact hw.1, va_K.moved hW.alike hK, hw.2.1⟩, hw.2.2.1.F ht⟩) hw.2.2.1.2.2 hdg
end CMM

