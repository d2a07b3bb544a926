theorem mvsgood : ∀ w ∈ mvs, w ∈ mvs ∧ ((w.onTables && w.keeps) = true ∨ ∃ ty, w = .arrayClass ty) := fun w hw => ⟨hw, good_of_word (List.all_eq_true.mp mvs_good w hw)⟩
def mAs (v : EV) (a : Nat → Nat) (sz : Nat) (F : PF) (G : PG) : Nat → Prop := va_A (mW v a F G) sz
def mPre (v : EV) (a : Nat → Nat) (sz : Nat) (F : PF) (G : PG) (U : State) : Prop := U.heap.size = sz ∧ va_P (eD v) vwCl (mW v a F G) U.heap ∧ va_K (eD v) vwCl (eY v) U ∧ va_D (fun _ => True) (mW v a F G) ∧ mX v (mAs v a sz F G) U
def mPo (v : EV) (a : Nat → Nat) (sz : Nat) (F : PF) (G : PG) (F1 : PF) (G1 : PG) (_ : Unit) (t : State) : Prop := va_P (eD v) vwCl (mW v a F1 G1) t.heap ∧ va_K (eD v) vwCl (eY v) t ∧ va_D (mAs v a sz F G) (mW v a F1 G1)
/-- the contract of a method that answers an int, by what its pure twin answers -/
def mMI (l : Launch) (y : MethodName) (cc : ByteArray) (maxL : Nat) (ret : Option FieldType) (fr lo : Nat) (v : EV) (a : Nat → Nat) (sz : Nat) (As : List Value) (F : PF) (G : PG) (r : Int32) (F1 : PF) (G1 : PG) : Prop :=
  Met l y (Cond.code y cc maxL ret :: mvs) ({ frames := fr, cells := 0, slots := 0, locals := lo }) (va_Pc As (mPre v a sz F G)) (va_Qi (fun (r' : Int32) (_ : Unit) => r' = r) (mPo v a sz F G F1 G1) (mAs v a sz F G)) 0 0 (mAs v a sz F G)
def mMV (l : Launch) (y : MethodName) (cc : ByteArray) (maxL : Nat) (fr lo : Nat) (v : EV) (a : Nat → Nat) (sz : Nat) (As : List Value) (F : PF) (G : PG) (F1 : PF) (G1 : PG) : Prop :=
  Met l y (Cond.code y cc maxL none :: mvs) ({ frames := fr, cells := 0, slots := 0, locals := lo }) (va_Pc As (mPre v a sz F G)) (va_Qv (fun _ : Unit => True) (mPo v a sz F G F1 G1) (mAs v a sz F G)) 0 0 (mAs v a sz F G)
section mMM
variable {p : Program} {l : Launch} {e : Env} {R : Room} {s : State} {m : MethodId} {args : Array Value} {below : List Frame} {meth : Method} {c : Code} {H : Heap} {locs : List Loc} {Q : State → Prop} {A : Nat → Prop} {v : EV} {a : Nat → Nat} {own : String} {cc : ByteArray} {nL fr lo : Nat}
/-- what stands fast in a method -/
def mMC (p : Program) (R : Room) (s : State) (m : MethodId) (args : Array Value) (c : Code) (A : Nat → Prop) (v : EV) (own : String) (cc : ByteArray) (nL fr lo : Nat) : Prop :=
  p.tables.exec = Jvm.exec ∧ c.code = cc ∧ c.maxLocals = nL ∧ s.vm.findClass own = some m.cls ∧ (∀ w ∈ mvs, w.before args s = true) ∧ (∀ q, s.heap.size ≤ q → A q) ∧ va_K (eD v) vwCl (eY v) s ∧ fr ≤ R.frames ∧ lo ≤ R.locals ∧ mX v A s
/-- the heap holds the state -/
def mMW (s : State) (A : Nat → Prop) (v : EV) (a : Nat → Nat) (F : PF) (G : PG) (H : Heap) (locs : List Loc) : Prop :=
  va_P (eD v) vwCl (mW v a F G) H ∧ va_D A (mW v a F G) ∧ va_S A s.heap H locs
theorem mMW.free {F : PF} {G : PG} (C : mMC p R s m args c A v own cc nL fr lo) (hw : mMW s A v a F G H locs) : ∀ q, mAs v a H.size F G q → A q := va_free (wc := mW v a F G) hw.2.1 hw.2.2 C.2.2.2.2.2.1 (List.range 48) rfl
theorem mgood {idx : Nat} {y : MethodName} {cc2 : ByteArray} {maxL : Nat} {ret : Option FieldType} (g1 : Cond.methodLink own idx y ∈ mvs) (g2 : Cond.instanceMethod y ∈ mvs) (g3 : Cond.selects y.cls y y ∈ mvs) (g4 : Cond.initialized y.cls ∈ mvs) (g5 : Cond.code y cc2 maxL ret ∈ mvs) : GoodIn mvs (wsV own idx y.cls y (Cond.code y cc2 maxL ret :: mvs)) := by
  intro w hw
  refine mvsgood w ?_
  have hw : w ∈ ([.methodLink own idx y, .instanceMethod y, .selects y.cls y y, .initialized y.cls] : List Cond) ++ (Cond.code y cc2 maxL ret :: mvs) := hw
  simp only [List.mem_append, List.mem_cons, List.not_mem_nil, or_false] at hw
  rcases hw with (rfl | rfl | rfl | rfl) | rfl | hw
  · exact g1
  · exact g2
  · exact g3
  · exact g4
  · exact g5
  · exact hw
theorem mgoodS {idx : Nat} {y : MethodName} {cc2 : ByteArray} {maxL : Nat} {ret : Option FieldType} (g1 : Cond.methodLink own idx y ∈ mvs) (g2 : Cond.static y ∈ mvs) (g4 : Cond.initialized y.cls ∈ mvs) (g5 : Cond.code y cc2 maxL ret ∈ mvs) : GoodIn mvs (va_wsS own idx y (Cond.code y cc2 maxL ret :: mvs)) := by
  intro w hw
  refine mvsgood w ?_
  have hw : w ∈ ([.methodLink own idx y, .static y, .initialized y.cls] : List Cond) ++ (Cond.code y cc2 maxL ret :: mvs) := hw
  simp only [List.mem_append, List.mem_cons, List.not_mem_nil, or_false] at hw
  rcases hw with (rfl | rfl | rfl) | rfl | hw
  · exact g1
  · exact g2
  · exact g4
  · exact g5
  · exact hw
theorem mPre.calling {sz : Nat} {F : PF} {G : PG} {As : List Value} : FrameBlind (va_Pc As (mPre v a sz F G)) := fun b U g mk q => by
  obtain ⟨q0, q1, qP, qK, qD, qX⟩ := q
  exact ⟨q0, q1, qP, va_K.moved (u := U) (U := U.calling g mk b) (Vm.Alike.refl U.vm) qK, qD, mX.calling qX rfl rfl⟩
theorem mMW.pre {F : PF} {G : PG} (C : mMC p R s m args c A v own cc nL fr lo) (hw : mMW s A v a F G H locs) : ∀ U : State, U.heap = H → s.WarmedH U.vm → mPre v a H.size F G U := fun U hU hW => ⟨by rw [hU], by rw [hU]; exact hw.1, va_K.moved hW.alike C.2.2.2.2.2.2.1, hw.2.1.weaken (fun _ _ _ _ => trivial), mX.pass C.2.2.2.2.2.2.2.2.2 hw.2.2 (mMW.free C hw) hU hW⟩
theorem mMW.back {F F1 : PF} {G G1 : PG} {t : State} {H1 : Heap} {locs1 : List Loc} (hF : ∀ q, mAs v a H.size F G q → A q) (ht : t.heap = H1) (hB : mPo v a H.size F G F1 G1 () t) (hS1 : va_S A s.heap H1 locs1) : mMW s A v a F1 G1 H1 locs1 := by
  obtain ⟨hP1, hK1, hD1⟩ := hB
  rw [ht] at hP1
  exact ⟨hP1, hD1.weaken (fun _ _ _ q => hF _ q), hS1⟩
theorem mcallI {y : MethodName} {cc2 : ByteArray} {maxL : Nat} {ret : Option FieldType} {fr2 lo2 idx n pc : Nat} {hh : Nat} {As rest : List Value} {ls : Array Slot} {F F1 : PF} {G G1 : PG} {r : Int32} (C : mMC p R s m args c A v own cc nL fr lo) (hw : mMW s A v a F G H locs) (hM : mMI l y cc2 maxL ret fr2 lo2 v a H.size (.ref hh :: As) F G r F1 G1) (hrc : ∃ cell : Cell, H[hh]? = some cell ∧ cell.vm.isStatics = false ∧ s.vm.findClass y.cls = some cell.cls) (g1 : Cond.methodLink own idx y ∈ mvs) (g2 : Cond.instanceMethod y ∈ mvs) (g3 : Cond.selects y.cls y y ∈ mvs) (g4 : Cond.initialized y.cls ∈ mvs) (g5 : Cond.code y cc2 maxL ret ∈ mvs) (hd : y.cls ≠ "java/lang/invoke/MethodHandle" ∧ y.cls ≠ "java/lang/invoke/VarHandle" ∧ (parseMethodDescriptor y.desc).map (fun d => d.parameters.length) = some n) (hn : As.length = n) (hfr : fr2 + 1 ≤ fr) (hlo : 8 + (maxL + 11) + lo2 ≤ lo) (hsz : ls.size = nL) {st : List Value} (hst : st = As.reverse ++ .ref hh :: rest) (hrm : (rest.map fun v => v.category).sum ≤ 8) (hdg : decode cc pc = .ok (.invokevirtual idx, 3))
    (kk : ∀ (H1 : Heap) (locs1 : List Loc), mMW s A v a F1 G1 H1 locs1 → W p l e R s m args below meth c H1 locs1 0 0 Q (F0 m (pc + 3) ls (.int r :: rest))) : W p l e R s m args below meth c H locs 0 0 Q (F0 m pc ls st) := by
  obtain ⟨hx, hb, hml, hown, hV, hA, hK, hR1, hR2, hX⟩ := id C
  have hFc := mMW.free C hw
  have hM : Met l y (Cond.code y cc2 maxL ret :: mvs) ({ frames := fr2, cells := 0, slots := 0, locals := lo2 }) (va_Pc (.ref hh :: As) (mPre v a H.size F G)) (va_Qi (fun (r' : Int32) (_ : Unit) => r' = r) (mPo v a H.size F G F1 G1) (mAs v a H.size F G)) 0 0 (mAs v a H.size F G) := hM
  refine va_calli (va_runV (As := As) (rest := rest) ⟨hx, hb, hml, hown, hV⟩ hM (cwV n hV (mgood g1 g2 g3 g4 g5) rfl rfl rfl ⟨rfl, hd⟩ ⟨Nat.le_trans hfr hR1, Nat.le_trans hlo hR2⟩) ⟨mPre.calling, hrc, fun U hU hW => ⟨rfl, mMW.pre C hw U hU hW⟩⟩ rfl hn hsz hst (lv_room hrm) hdg ⟨Nat.zero_le _, Nat.zero_le _⟩) hw.2.2 (fun q _ h => hFc q h) hFc (fun r' u t H1 locs1 ht hvm hr hB hz1 hk1 hS1 => ?_)
  obtain rfl := hr
  exact kk H1 locs1 (mMW.back hFc ht hB hS1)
theorem mcallIS {y : MethodName} {cc2 : ByteArray} {maxL : Nat} {ret : Option FieldType} {fr2 lo2 idx n pc : Nat} {As rest : List Value} {ls : Array Slot} {F F1 : PF} {G G1 : PG} {r : Int32} (C : mMC p R s m args c A v own cc nL fr lo) (hw : mMW s A v a F G H locs) (hM : mMI l y cc2 maxL ret fr2 lo2 v a H.size As F G r F1 G1) (g1 : Cond.methodLink own idx y ∈ mvs) (g2 : Cond.static y ∈ mvs) (g4 : Cond.initialized y.cls ∈ mvs) (g5 : Cond.code y cc2 maxL ret ∈ mvs) (hd : y.cls ≠ "java/lang/invoke/MethodHandle" ∧ y.cls ≠ "java/lang/invoke/VarHandle" ∧ (parseMethodDescriptor y.desc).map (fun d => d.parameters.length) = some n) (hn : As.length = n) (hfr : fr2 + 1 ≤ fr) (hlo : 8 + (maxL + 11) + lo2 ≤ lo) (hsz : ls.size = nL) {st : List Value} (hst : st = As.reverse ++ rest) (hrm : (rest.map fun v => v.category).sum ≤ 8) (hdg : decode cc pc = .ok (.invokestatic idx, 3))
    (kk : ∀ (H1 : Heap) (locs1 : List Loc), mMW s A v a F1 G1 H1 locs1 → W p l e R s m args below meth c H1 locs1 0 0 Q (F0 m (pc + 3) ls (.int r :: rest))) : W p l e R s m args below meth c H locs 0 0 Q (F0 m pc ls st) := by
  obtain ⟨hx, hb, hml, hown, hV, hA, hK, hR1, hR2, hX⟩ := id C
  have hFc := mMW.free C hw
  have hM : Met l y (Cond.code y cc2 maxL ret :: mvs) ({ frames := fr2, cells := 0, slots := 0, locals := lo2 }) (va_Pc As (mPre v a H.size F G)) (va_Qi (fun (r' : Int32) (_ : Unit) => r' = r) (mPo v a H.size F G F1 G1) (mAs v a H.size F G)) 0 0 (mAs v a H.size F G) := hM
  refine va_calli (va_runS (As := As) (rest := rest) ⟨hx, hb, hml, hown, hV⟩ hM (va_cwS n hV (mgoodS g1 g2 g4 g5) rfl rfl rfl hd ⟨Nat.le_trans hfr hR1, Nat.le_trans hlo hR2⟩) ⟨mPre.calling, fun U hU hW => ⟨rfl, mMW.pre C hw U hU hW⟩⟩ rfl hn hsz hst (lv_room hrm) hdg ⟨Nat.zero_le _, Nat.zero_le _⟩) hw.2.2 (fun q _ h => hFc q h) hFc (fun r' u t H1 locs1 ht hvm hr hB hz1 hk1 hS1 => ?_)
  obtain rfl := hr
  exact kk H1 locs1 (mMW.back hFc ht hB hS1)
theorem mcallV {y : MethodName} {cc2 : ByteArray} {maxL : Nat} {fr2 lo2 idx n pc : Nat} {hh : Nat} {As rest : List Value} {ls : Array Slot} {F F1 : PF} {G G1 : PG} (C : mMC p R s m args c A v own cc nL fr lo) (hw : mMW s A v a F G H locs) (hM : mMV l y cc2 maxL fr2 lo2 v a H.size (.ref hh :: As) F G F1 G1) (hrc : ∃ cell : Cell, H[hh]? = some cell ∧ cell.vm.isStatics = false ∧ s.vm.findClass y.cls = some cell.cls) (g1 : Cond.methodLink own idx y ∈ mvs) (g2 : Cond.instanceMethod y ∈ mvs) (g3 : Cond.selects y.cls y y ∈ mvs) (g4 : Cond.initialized y.cls ∈ mvs) (g5 : Cond.code y cc2 maxL none ∈ mvs) (hd : y.cls ≠ "java/lang/invoke/MethodHandle" ∧ y.cls ≠ "java/lang/invoke/VarHandle" ∧ (parseMethodDescriptor y.desc).map (fun d => d.parameters.length) = some n) (hn : As.length = n) (hfr : fr2 + 1 ≤ fr) (hlo : 8 + (maxL + 11) + lo2 ≤ lo) (hsz : ls.size = nL) {st : List Value} (hst : st = As.reverse ++ .ref hh :: rest) (hrm : (rest.map fun v => v.category).sum ≤ 8) (hdg : decode cc pc = .ok (.invokevirtual idx, 3))
    (kk : ∀ (H1 : Heap) (locs1 : List Loc), mMW s A v a F1 G1 H1 locs1 → W p l e R s m args below meth c H1 locs1 0 0 Q (F0 m (pc + 3) ls (rest))) : W p l e R s m args below meth c H locs 0 0 Q (F0 m pc ls st) := by
  obtain ⟨hx, hb, hml, hown, hV, hA, hK, hR1, hR2, hX⟩ := id C
  have hFc := mMW.free C hw
  have hM : Met l y (Cond.code y cc2 maxL none :: mvs) ({ frames := fr2, cells := 0, slots := 0, locals := lo2 }) (va_Pc (.ref hh :: As) (mPre v a H.size F G)) (va_Qv (fun _ : Unit => True) (mPo v a H.size F G F1 G1) (mAs v a H.size F G)) 0 0 (mAs v a H.size F G) := hM
  refine va_callv (va_runV (As := As) (rest := rest) ⟨hx, hb, hml, hown, hV⟩ hM (cwV n hV (mgood g1 g2 g3 g4 g5) rfl rfl rfl ⟨rfl, hd⟩ ⟨Nat.le_trans hfr hR1, Nat.le_trans hlo hR2⟩) ⟨mPre.calling, hrc, fun U hU hW => ⟨rfl, mMW.pre C hw U hU hW⟩⟩ rfl hn hsz hst (lv_room hrm) hdg ⟨Nat.zero_le _, Nat.zero_le _⟩) hw.2.2 (fun q _ h => hFc q h) hFc (fun u t H1 locs1 ht hvm hr hB hz1 hk1 hS1 => ?_)
  exact kk H1 locs1 (mMW.back hFc ht hB hS1)
theorem mcallVS {y : MethodName} {cc2 : ByteArray} {maxL : Nat} {fr2 lo2 idx n pc : Nat} {As rest : List Value} {ls : Array Slot} {F F1 : PF} {G G1 : PG} (C : mMC p R s m args c A v own cc nL fr lo) (hw : mMW s A v a F G H locs) (hM : mMV l y cc2 maxL fr2 lo2 v a H.size As F G F1 G1) (g1 : Cond.methodLink own idx y ∈ mvs) (g2 : Cond.static y ∈ mvs) (g4 : Cond.initialized y.cls ∈ mvs) (g5 : Cond.code y cc2 maxL none ∈ mvs) (hd : y.cls ≠ "java/lang/invoke/MethodHandle" ∧ y.cls ≠ "java/lang/invoke/VarHandle" ∧ (parseMethodDescriptor y.desc).map (fun d => d.parameters.length) = some n) (hn : As.length = n) (hfr : fr2 + 1 ≤ fr) (hlo : 8 + (maxL + 11) + lo2 ≤ lo) (hsz : ls.size = nL) {st : List Value} (hst : st = As.reverse ++ rest) (hrm : (rest.map fun v => v.category).sum ≤ 8) (hdg : decode cc pc = .ok (.invokestatic idx, 3))
    (kk : ∀ (H1 : Heap) (locs1 : List Loc), mMW s A v a F1 G1 H1 locs1 → W p l e R s m args below meth c H1 locs1 0 0 Q (F0 m (pc + 3) ls (rest))) : W p l e R s m args below meth c H locs 0 0 Q (F0 m pc ls st) := by
  obtain ⟨hx, hb, hml, hown, hV, hA, hK, hR1, hR2, hX⟩ := id C
  have hFc := mMW.free C hw
  have hM : Met l y (Cond.code y cc2 maxL none :: mvs) ({ frames := fr2, cells := 0, slots := 0, locals := lo2 }) (va_Pc As (mPre v a H.size F G)) (va_Qv (fun _ : Unit => True) (mPo v a H.size F G F1 G1) (mAs v a H.size F G)) 0 0 (mAs v a H.size F G) := hM
  refine va_callv (va_runS (As := As) (rest := rest) ⟨hx, hb, hml, hown, hV⟩ hM (va_cwS n hV (mgoodS g1 g2 g4 g5) rfl rfl rfl hd ⟨Nat.le_trans hfr hR1, Nat.le_trans hlo hR2⟩) ⟨mPre.calling, fun U hU hW => ⟨rfl, mMW.pre C hw U hU hW⟩⟩ rfl hn hsz hst (lv_room hrm) hdg ⟨Nat.zero_le _, Nat.zero_le _⟩) hw.2.2 (fun q _ h => hFc q h) hFc (fun u t H1 locs1 ht hvm hr hB hz1 hk1 hS1 => ?_)
  exact kk H1 locs1 (mMW.back hFc ht hB hS1)
/-- from blocks to a contract: an int -/
theorem mMI.of {y : MethodName} {maxL : Nat} {ret : Option FieldType} {ty : FieldType} {As : List Value} {sz : Nat} {F F1 : PF} {G G1 : PG} {r : Int32} (hy : plainName y.cls = true) (hret : ret = some ty) (hlen : (lg_sl As).length ≤ maxL)
    (body : ∀ (p : Program) (e : Env) (R : Room) (s : State) (m : MethodId) (args : Array Value) (below : List Frame) (meth : Method) (c : Code) (Q : State → Prop) (A : Nat → Prop) (H : Heap) (locs : List Loc) (ls : Array Slot), mMC p R s m args c A v y.cls cc maxL fr lo → mMW s A v a F G H locs → lv_has ls maxL (lv_args 0 As) → (∀ (H1 : Heap) (locs1 : List Loc) (ls1 : Array Slot) (pc : Nat), mMW s A v a F1 G1 H1 locs1 → narrow ty (.int r) = .int r → decode cc pc = .ok (.ireturn, 1) → W p l e R s m args below meth c H1 locs1 0 0 Q (F0 m pc ls1 [.int r])) → W p l e R s m args below meth c H locs 0 0 Q (F0 m 0 ls [])) : mMI l y cc maxL ret fr lo v a sz As F G r F1 G1 := by
  refine Met.ofW (cc := cc) (maxL := maxL) (ret := ret) hy rfl ?_
  intro p e s m args below meth c s₁ B hml hv
  obtain ⟨rfl, hsz, hP, hK, hD0, hX⟩ := hv
  have hx := B.exec
  have hb := B.bytes
  have hr := B.returns
  have hts := atoms_spec (ws := Cond.code y cc maxL ret :: mvs) B.pre
  have hown : s.vm.findClass y.cls = some m.cls := findClass_of_methodNamed B.named
  have hlocks := B.notSynchronized
  subst hsz
  have hD : va_D (mAs v a s.heap.size F G) (mW v a F G) := hD0.self (sz := s.heap.size)
  have hA : ∀ q : Nat, s.heap.size ≤ q → mAs v a s.heap.size F G q := fun q h => Or.inr h
  have hl := lv_entry As (n := maxL) hlen
  rw [lg_entry_eq]
  refine body p e _ s m _ below meth c _ _ s.heap [] _ ⟨hx, hb, hml, hown, fun w hw => hts w (List.mem_cons_of_mem _ hw), hA, hK, Nat.le_refl _, Nat.le_refl _, hX⟩ ⟨hP, hD, va_S.rf⟩ hl ?_
  intro H1 locs1 ls1 pc hw hnar hdg
  exact W.zret (v := r) (ty := ty) hx hb (hr.trans hret) hnar (fun t ht hW => ⟨⟨r, (), rfl, rfl, by rw [ht]; exact hw.1, va_K.moved hW.alike hK, hw.2.1⟩, hw.2.2.F ht⟩) hw.2.2.2.2 hdg
theorem mMV.of {y : MethodName} {maxL : Nat} {As : List Value} {sz : Nat} {F F1 : PF} {G G1 : PG} (hy : plainName y.cls = true) (hlen : (lg_sl As).length ≤ maxL)
    (body : ∀ (p : Program) (e : Env) (R : Room) (s : State) (m : MethodId) (args : Array Value) (below : List Frame) (meth : Method) (c : Code) (Q : State → Prop) (A : Nat → Prop) (H : Heap) (locs : List Loc) (ls : Array Slot), mMC p R s m args c A v y.cls cc maxL fr lo → mMW s A v a F G H locs → lv_has ls maxL (lv_args 0 As) → (∀ (H1 : Heap) (locs1 : List Loc) (ls1 : Array Slot) (pc : Nat), mMW s A v a F1 G1 H1 locs1 → decode cc pc = .ok (.return_, 1) → W p l e R s m args below meth c H1 locs1 0 0 Q (F0 m pc ls1 [])) → W p l e R s m args below meth c H locs 0 0 Q (F0 m 0 ls [])) : mMV l y cc maxL fr lo v a sz As F G F1 G1 := by
  refine Met.ofW (cc := cc) (maxL := maxL) (ret := none) hy rfl ?_
  intro p e s m args below meth c s₁ B hml hv
  obtain ⟨rfl, hsz, hP, hK, hD0, hX⟩ := hv
  have hx := B.exec
  have hb := B.bytes
  have hr := B.returns
  have hts := atoms_spec (ws := Cond.code y cc maxL none :: mvs) B.pre
  have hown : s.vm.findClass y.cls = some m.cls := findClass_of_methodNamed B.named
  have hlocks := B.notSynchronized
  subst hsz
  have hD : va_D (mAs v a s.heap.size F G) (mW v a F G) := hD0.self (sz := s.heap.size)
  have hA : ∀ q : Nat, s.heap.size ≤ q → mAs v a s.heap.size F G q := fun q h => Or.inr h
  have hl := lv_entry As (n := maxL) hlen
  rw [lg_entry_eq]
  refine body p e _ s m _ below meth c _ _ s.heap [] _ ⟨hx, hb, hml, hown, fun w hw => hts w (List.mem_cons_of_mem _ hw), hA, hK, Nat.le_refl _, Nat.le_refl _, hX⟩ ⟨hP, hD, va_S.rf⟩ hl ?_
  intro H1 locs1 ls1 pc hw hdg
  exact W.vret hx hb hr (fun t ht hW => ⟨⟨(), rfl, trivial, by rw [ht]; exact hw.1, va_K.moved hW.alike hK, hw.2.1⟩, hw.2.2.F ht⟩) hw.2.2.2.2 hdg
end mMM

