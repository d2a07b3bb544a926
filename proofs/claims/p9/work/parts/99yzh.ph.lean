section LAWROWS
variable {p : Program} {l : Launch} {e : Env} {R : Room} {s : State} {m : MethodId} {args : Array Value} {below : List Frame} {meth : Method} {c : Code} {H : Heap} {locs : List Loc} {Q : State → Prop} {A : Nat → Prop} {v : EV} {am ac : Nat → Nat} {b k n nL : Nat} {own : String} {cc : ByteArray} {tbl : List Cond}
/-- what stands fast in the law -/
def lMC (p : Program) (R : Room) (s : State) (m : MethodId) (args : Array Value) (c : Code) (A : Nat → Prop) (v : EV) (own : String) (cc : ByteArray) (nL : Nat) (tbl : List Cond) : Prop :=
  p.tables.exec = Jvm.exec ∧ c.code = cc ∧ c.maxLocals = nL ∧ s.vm.findClass own = some m.cls ∧ (∀ w ∈ tbl, w.before args s = true) ∧ (∀ q, s.heap.size ≤ q → A q) ∧ va_K (eD v) vwCl (eY v) s ∧ mX v A s ∧ cX v A s
/-- the class first, the reference behind it -/
def lCM (s : State) (A : Nat → Prop) (v : EV) (ac : Nat → Nat) (b : Nat) (am : Nat → Nat) (Fc : PF) (Gc : PG) (Fm : PF) (Gm : PG) (H : Heap) (locs : List Loc) : Prop :=
  va_P (eD v) vwCl (cW v ac b Fc Gc ++ mW v am Fm Gm) H ∧ va_D A (cW v ac b Fc Gc ++ mW v am Fm Gm) ∧ va_S A s.heap H locs
/-- the reference first -/
def lM_C (s : State) (A : Nat → Prop) (v : EV) (ac : Nat → Nat) (b : Nat) (am : Nat → Nat) (Fc : PF) (Gc : PG) (Fm : PF) (Gm : PG) (H : Heap) (locs : List Loc) : Prop :=
  va_P (eD v) vwCl (mW v am Fm Gm ++ cW v ac b Fc Gc) H ∧ va_D A (mW v am Fm Gm ++ cW v ac b Fc Gc) ∧ va_S A s.heap H locs
theorem lcallC {y : MethodName} {cc2 : ByteArray} {maxL : Nat} {ret : Option FieldType} {fr2 lo2 idx nn pc : Nat} {As rest : List Value} {ls : Array Slot} {Fc Fc1 Fm : PF} {Gc Gc1 Gm : PG} {r : Int32} (C : lMC p R s m args c A v own cc nL tbl) (hw : lCM s A v ac b am Fc Gc Fm Gm H locs) (hM : cMI l y cc2 maxL ret fr2 lo2 v ac b H.size (.ref (ac 211) :: As) Fc Gc r Fc1 Gc1) (hrc : ∃ cell : Cell, H[ac 211]? = some cell ∧ cell.vm.isStatics = false ∧ s.vm.findClass y.cls = some cell.cls) (g : GoodIn tbl (wsV own idx y.cls y (Cond.code y cc2 maxL ret :: cvs))) (hd : y.cls ≠ "java/lang/invoke/MethodHandle" ∧ y.cls ≠ "java/lang/invoke/VarHandle" ∧ (parseMethodDescriptor y.desc).map (fun d => d.parameters.length) = some nn) (hn : As.length = nn) (hfr : fr2 + 1 ≤ R.frames) (hlo : 8 + (maxL + 11) + lo2 ≤ R.locals) (hce : k + (xn Fc1 - xn Fc) ≤ R.cells) (hsl : n + 2 * (xn Fc1 - xn Fc) ≤ R.slots) (hsz : ls.size = nL) {st : List Value} (hst : st = As.reverse ++ .ref (ac 211) :: rest) (hrm : (rest.map fun v => v.category).sum ≤ 8) (hdg : decode cc pc = .ok (.invokevirtual idx, 3))
    (kk : ∀ (b1 : Nat) (H1 : Heap) (locs1 : List Loc), lM_C s A v ac b1 am Fc1 Gc1 Fm Gm H1 locs1 → W p l e R s m args below meth c H1 locs1 (k + (xn Fc1 - xn Fc)) (n + 2 * (xn Fc1 - xn Fc)) Q (F0 m (pc + 3) ls (.int r :: rest))) : W p l e R s m args below meth c H locs k n Q (F0 m pc ls st) := by
  obtain ⟨hx, hb, hml, hown, hV, hA, hK, hXm, hXc⟩ := C
  obtain ⟨hP, hD, hS⟩ := hw
  have hPc : va_P (eD v) vwCl (cW v ac b Fc Gc) H := hP.sub (ws' := cW v ac b Fc Gc) (List.range 45) rfl
  have hDc : va_D A (cW v ac b Fc Gc) := hD.sub (ws' := cW v ac b Fc Gc) (List.range 45) (by decide) rfl
  have hFc := va_free (wc := cW v ac b Fc Gc) hD hS hA (List.range 45) rfl
  have hM : Met l y (Cond.code y cc2 maxL ret :: cvs) ({ frames := fr2, cells := xn Fc1 - xn Fc, slots := 2 * (xn Fc1 - xn Fc), locals := lo2 }) (va_Pc (.ref (ac 211) :: As) (cPre v ac b H.size Fc Gc)) (va_Qi (fun (r' : Int32) (_ : Nat) => r' = r) (cPo v ac b H.size Fc Gc Fc1 Gc1) (cAs v ac b H.size Fc Gc)) (xn Fc1 - xn Fc) (2 * (xn Fc1 - xn Fc)) (cAs v ac b H.size Fc Gc) := hM
  refine va_calli (va_runV (As := As) (rest := rest) ⟨hx, hb, hml, hown, hV⟩ hM (cwV nn hV g rfl rfl rfl ⟨rfl, hd⟩ ⟨hfr, hlo⟩) ⟨cPre.calling, hrc, fun U hU hW => ⟨rfl, by rw [hU], by rw [hU]; exact hPc, va_K.moved hW.alike hK, hDc.weaken (fun _ _ _ _ => trivial), cX.pass hXc hS hFc hU hW⟩⟩ rfl hn hsz hst (lv_room hrm) hdg ⟨hce, hsl⟩) hS (fun q _ h => hFc q h) hFc (fun r' u t H1 locs1 ht hvm hr hB hz1 hk1 hS1 => ?_)
  obtain rfl := hr
  obtain ⟨hP1, hK1, hD1⟩ := hB
  rw [ht] at hP1
  obtain ⟨hP2, hD2⟩ := va_join (wr := mW v am Fm Gm) (w1 := cW v ac u Fc1 Gc1) hP hD (List.range 45) ((List.range 48).map (· + 45)) rfl rfl (by decide) (by decide) hk1 hFc hP1 hD1
  exact kk u H1 locs1 ⟨hP2, hD2, hS1⟩
theorem lcallM {y : MethodName} {cc2 : ByteArray} {maxL : Nat} {ret : Option FieldType} {fr2 lo2 idx nn pc : Nat} {As rest : List Value} {ls : Array Slot} {Fc Fm Fm1 : PF} {Gc Gm Gm1 : PG} {r : Int32} (C : lMC p R s m args c A v own cc nL tbl) (hw : lM_C s A v ac b am Fc Gc Fm Gm H locs) (hM : mMI l y cc2 maxL ret fr2 lo2 v am H.size (.ref (am 212) :: As) Fm Gm r Fm1 Gm1) (hrc : ∃ cell : Cell, H[am 212]? = some cell ∧ cell.vm.isStatics = false ∧ s.vm.findClass y.cls = some cell.cls) (g : GoodIn tbl (wsV own idx y.cls y (Cond.code y cc2 maxL ret :: mvs))) (hd : y.cls ≠ "java/lang/invoke/MethodHandle" ∧ y.cls ≠ "java/lang/invoke/VarHandle" ∧ (parseMethodDescriptor y.desc).map (fun d => d.parameters.length) = some nn) (hn : As.length = nn) (hfr : fr2 + 1 ≤ R.frames) (hlo : 8 + (maxL + 11) + lo2 ≤ R.locals) (hce : k ≤ R.cells) (hsl : n ≤ R.slots) (hsz : ls.size = nL) {st : List Value} (hst : st = As.reverse ++ .ref (am 212) :: rest) (hrm : (rest.map fun v => v.category).sum ≤ 8) (hdg : decode cc pc = .ok (.invokevirtual idx, 3))
    (kk : ∀ (H1 : Heap) (locs1 : List Loc), lCM s A v ac b am Fc Gc Fm1 Gm1 H1 locs1 → W p l e R s m args below meth c H1 locs1 k n Q (F0 m (pc + 3) ls (.int r :: rest))) : W p l e R s m args below meth c H locs k n Q (F0 m pc ls st) := by
  obtain ⟨hx, hb, hml, hown, hV, hA, hK, hXm, hXc⟩ := C
  obtain ⟨hP, hD, hS⟩ := hw
  have hPc : va_P (eD v) vwCl (mW v am Fm Gm) H := hP.sub (ws' := mW v am Fm Gm) (List.range 48) rfl
  have hDc : va_D A (mW v am Fm Gm) := hD.sub (ws' := mW v am Fm Gm) (List.range 48) (by decide) rfl
  have hFc := va_free (wc := mW v am Fm Gm) hD hS hA (List.range 48) rfl
  have hM : Met l y (Cond.code y cc2 maxL ret :: mvs) ({ frames := fr2, cells := 0, slots := 0, locals := lo2 }) (va_Pc (.ref (am 212) :: As) (mPre v am H.size Fm Gm)) (va_Qi (fun (r' : Int32) (_ : Unit) => r' = r) (mPo v am H.size Fm Gm Fm1 Gm1) (mAs v am H.size Fm Gm)) 0 0 (mAs v am H.size Fm Gm) := hM
  refine va_calli (va_runV (As := As) (rest := rest) ⟨hx, hb, hml, hown, hV⟩ hM (cwV nn hV g rfl rfl rfl ⟨rfl, hd⟩ ⟨hfr, hlo⟩) ⟨mPre.calling, hrc, fun U hU hW => ⟨rfl, by rw [hU], by rw [hU]; exact hPc, va_K.moved hW.alike hK, hDc.weaken (fun _ _ _ _ => trivial), mX.pass hXm hS hFc hU hW⟩⟩ rfl hn hsz hst (lv_room hrm) hdg ⟨hce, hsl⟩) hS (fun q _ h => hFc q h) hFc (fun r' u t H1 locs1 ht hvm hr hB hz1 hk1 hS1 => ?_)
  obtain rfl := hr
  obtain ⟨hP1, hK1, hD1⟩ := hB
  rw [ht] at hP1
  obtain ⟨hP2, hD2⟩ := va_join (wr := cW v ac b Fc Gc) (w1 := mW v am Fm1 Gm1) hP hD (List.range 48) ((List.range 45).map (· + 48)) rfl rfl (by decide) (by decide) hk1 hFc hP1 hD1
  exact kk H1 locs1 ⟨hP2, hD2, hS1⟩
end LAWROWS
