def gok (F : PF) : Bool := decide (0 < xn F ∧ xn F ≤ 524288)
theorem gok_elim {α : Type} {F : PF} {A : Option α} {res : α} (h : (if gok F = true then A else none) = some res) : (0 < xn F ∧ xn F ≤ 524288) ∧ A = some res := by
  by_cases hc : gok F = true
  · exact ⟨of_decide_eq_true (p := 0 < xn F ∧ xn F ≤ 524288) hc, (if_pos hc).symm.trans h⟩
  · rw [if_neg hc] at h
    cases h
theorem gok_n {F : PF} (h : 0 < xn F ∧ xn F ≤ 524288) : (nI (xn F) * 2).toNatClampNeg = 2 * xn F ∧ ¬ (nI (xn F) * 2) < 0 ∧ ¬ (nI (xn F) * 2) = nI (xn F) ∧ ¬ (nI (xn F) * 2) < nI (xn F) := by
  have e : nI (xn F) * 2 = nI (2 * xn F) := by
    rw [show (2 : Int32) = nI 2 from rfl, pk_mul, Nat.mul_comm]
  rw [e]
  exact ⟨nI_clamp (by omega), nI_pos (by omega), fun q => by have := (nI_eq (by omega) (by omega)).mp q; omega, nI_nlt (by omega) (by omega)⟩
theorem xn_grow (F : PF) (n : Int32) : xn (fup F 300 n) = n.toNatClampNeg := by
  unfold xn fup
  rw [if_pos rfl]
theorem gok_le {F : PF} (h : 0 < xn F ∧ xn F ≤ 524288) : xn F ≤ xn (fup F 300 (nI (xn F) * 2)) := by
  rw [xn_grow, (gok_n h).1]
  omega
def gext (G : PG) (F : PF) : PG := fun j => if j = 55 then va_cpy (G 55) (fun _ => 0) (0 : Int32).toNatClampNeg (0 : Int32).toNatClampNeg (nI (xn F)).toNatClampNeg else G j
section GRW
variable {p : Program} {l : Launch} {e : Env} {R : Room} {s : State} {m : MethodId} {args : Array Value} {below : List Frame} {meth : Method} {c : Code} {H : Heap} {locs : List Loc} {Q : State → Prop} {A : Nat → Prop} {v : EV} {a : Nat → Nat} {b ce : Nat} {own : String} {cc : ByteArray} {nL fr lo : Nat} {K0 : PF}
theorem ck_copyOf {sz : Nat} {F : PF} {G : PG} {n : Int32} (hg : 0 < xn F ∧ xn F ≤ 524288) (hn : n = nI (xn F) * 2) : Met l yJ7_copyOf_59c91 (Cond.code yJ7_copyOf_59c91 cJ7_copyOf_59c91 3 (some (.array .int)) :: cvs) ({ frames := 1, cells := 1, slots := n.toNatClampNeg, locals := 60 }) (va_Pc [.ref b, .int n] (cPre v a b sz F G)) (va_Qr (fun _ : Unit => True) (fun _ q t => va_P (eD v) vwCl (cW v a b F G ++ [(q, .inl (eI v, n.toNatClampNeg, .inl (va_cpy (G 55) (fun _ => 0) (0 : Int32).toNatClampNeg (0 : Int32).toNatClampNeg (nI (xn F)).toNatClampNeg)))]) t.heap ∧ va_K (eD v) vwCl (eY v) t ∧ va_D (cAs v a b sz F G) (cW v a b F G ++ [(q, .inl (eI v, n.toNatClampNeg, .inl (va_cpy (G 55) (fun _ => 0) (0 : Int32).toNatClampNeg (0 : Int32).toNatClampNeg (nI (xn F)).toNatClampNeg)))])) (cAs v a b sz F G)) 1 n.toNatClampNeg (cAs v a b sz F G) := by
  obtain ⟨g1, g2, g3, g4⟩ := gok_n hg
  rw [← hn] at g1 g2 g3 g4
  refine Met.ofW (cc := cJ7_copyOf_59c91) (maxL := 3) (ret := some (.array .int)) (by decide) rfl ?_
  intro p e s m args below meth c s₁ B hml hv
  obtain ⟨rfl, hsz, hP, hK, hD0, hX⟩ := hv
  have hx := B.exec
  have hb := B.bytes
  have hr := B.returns
  have hts := atoms_spec (ws := Cond.code yJ7_copyOf_59c91 cJ7_copyOf_59c91 3 (some (.array .int)) :: cvs) B.pre
  have hV : ∀ w ∈ cvs, w.before _ s = true := fun w hw => hts w (List.mem_cons_of_mem _ hw)
  have hown : s.vm.findClass RJ7 = some m.cls := findClass_of_methodNamed B.named
  have hlocks := B.notSynchronized
  subst hsz
  have hD : va_D (cAs v a b s.heap.size F G) (cW v a b F G) := hD0.self (sz := s.heap.size)
  have hA : ∀ q : Nat, s.heap.size ≤ q → cAs v a b s.heap.size F G q := fun q h => Or.inr h
  have hl := lv_entry [.ref b, .int n] (n := 3) (Nat.le_of_ble_eq_true rfl)
  rw [lg_entry_eq]
  refine lv_iload_n hx hb dJ7_copyOf_59c91_0 rfl (lv_at hl 1 rfl) ?_
  refine lv_aload_n hx hb dJ7_copyOf_59c91_1 rfl (lv_at hl 0 rfl) ?_
  refine va_alen (v := nI (xn F)) hx hb hK hP 25 0 rfl rfl rfl dJ7_copyOf_59c91_2 ?_
  refine lv_icmp_ne (tgt := 14) hx hb dJ7_copyOf_59c91_3 (by decide) (fun _ => ?_) (fun c1 => absurd c1 g3)
  refine lv_iload_n hx hb dJ7_copyOf_59c91_14 rfl (lv_at hl 1 rfl) ?_
  refine my_newI (N' := n.toNatClampNeg) hx hb (hV _ cm_548) hK hP hD va_S.rf hA g2 rfl (by omega) (show 0 + 1 ≤ 1 from Nat.le_refl 1) (by show 0 + n.toNatClampNeg ≤ n.toNatClampNeg; omega) dJ7_copyOf_59c91_15 (fun q H1 hP1 hD1 hS1 => ?_)
  refine lv_astore_n (lv' := [(2, .ref q), (0, .ref b), (1, .int n)]) hx hb dJ7_copyOf_59c91_17 rfl hl (by decide) rfl (fun ls hl => ?_)
  refine lv_aload_n hx hb dJ7_copyOf_59c91_18 rfl (lv_at hl 1 rfl) ?_
  refine lv_iconst (v := 0) hx hb dJ7_copyOf_59c91_19 (by decide) ?_
  refine lv_aload_n hx hb dJ7_copyOf_59c91_20 rfl (lv_at hl 0 rfl) ?_
  refine lv_iconst (v := 0) hx hb dJ7_copyOf_59c91_21 (by decide) ?_
  refine lv_aload_n hx hb dJ7_copyOf_59c91_22 rfl (lv_at hl 1 rfl) ?_
  refine va_alen (v := nI (xn F)) hx hb hK hP1 25 0 rfl rfl rfl dJ7_copyOf_59c91_23 ?_
  refine lv_iload_n hx hb dJ7_copyOf_59c91_24 rfl (lv_at hl 2 rfl) ?_
  refine va_mmin (rest := [.int 0, .ref q, .int 0, .ref b]) hx hb (hml.trans hl.1.symm) hown (hV _ cm_549) (hV _ cm_193) (hV _ cm_190) (hV _ cm_194) (show 1 ≤ 1 from Nat.le_refl 1) (Nat.le_of_ble_eq_true rfl) (show 0 + 1 ≤ 1 from Nat.le_refl 1) (by show 0 + n.toNatClampNeg ≤ n.toNatClampNeg; omega) dJ7_copyOf_59c91_25 ?_
  refine my_top (nI (xn F)) (if_neg g4) ?_
  have e1 : (nI (xn F)).toNatClampNeg = xn F := nI_clamp (by omega)
  refine va_copyi hx hb (hml.trans hl.1.symm) hown (hV _ cm_550) (hV _ cm_551) (hV _ cm_552) (hV _ cm_553) hK hP1 hD1 hS1 25 45 0 0 rfl rfl rfl rfl rfl (by decide) (by decide) (nI_pos (by omega)) (by rw [e1]; exact Nat.le_of_eq (Nat.zero_add _)) (by rw [e1]; show 0 + xn F ≤ n.toNatClampNeg; omega) (fun _ _ => rfl) (show 1 ≤ 1 from Nat.le_refl 1) (show 0 + (nativeFrameWords "java/lang/System" "arraycopy" 5 + 11) ≤ 60 by decide) dJ7_copyOf_59c91_28 (fun H2 locs2 hP2 hD2 hS2 => ?_)
  refine lv_aload_n hx hb dJ7_copyOf_59c91_31 rfl (lv_at hl 0 rfl) ?_
  refine W.eqc (x := 1) (y := n.toNatClampNeg) (by omega) (by omega) ?_
  exact W.aret hx hb hr (Or.inr ⟨_, rfl⟩) (Or.inr ⟨_, rfl⟩) (fun t ht hW => ⟨⟨(), q, rfl, trivial, by rw [ht]; exact hP2, va_K.moved hW.alike hK, hD2⟩, hS2.F ht⟩) hS2.2.2 dJ7_copyOf_59c91_32
theorem cgrow {F : PF} {G : PG} {ls : Array Slot} (C : cMC p R s m args c A v RX6 cc nL fr lo ce) (hw : cMW s A v a b K0 F G H locs) (hg : 0 < xn F ∧ xn F ≤ 524288) (hfr : 2 ≤ fr) (hlo : 90 ≤ lo) (hm2 : xn (fup F 300 (nI (xn F) * 2)) - xn K0 ≤ ce) (hsz : ls.size = nL) (hdg : decode cc 34 = .ok (.invokestatic 150, 3)) (hdp : decode cc 37 = .ok (.putfield 15, 3))
    (kk : ∀ (b1 : Nat) (H1 : Heap) (locs1 : List Loc), cMW s A v a b1 K0 (fup F 300 (nI (xn F) * 2)) (gext G F) H1 locs1 → W p l e R s m args below meth c H1 locs1 (xn (fup F 300 (nI (xn F) * 2)) - xn K0) (2 * (xn (fup F 300 (nI (xn F) * 2)) - xn K0)) Q (F0 m 40 ls [])) : W p l e R s m args below meth c H locs (xn F - xn K0) (2 * (xn F - xn K0)) Q (F0 m 34 ls [.int (nI (xn F) * 2), .ref b, .ref (a 206)]) := by
  obtain ⟨hx, hb, hml, hown, hV, hA, hK, hR1, hR2, hX, hR3, hR4⟩ := id C
  have hFc := cMW.free C hw
  have hmn := hw.2.2.2
  have g1 := (gok_n hg).1
  rw [xn_grow] at hm2
  have hf : (xn F - xn K0) + 1 ≤ R.cells ∧ 2 * (xn F - xn K0) + (nI (xn F) * 2).toNatClampNeg ≤ R.slots := by omega
  refine va_callr (va_runS (As := [.ref b, .int (nI (xn F) * 2)]) (rest := [.ref (a 206)]) ⟨hx, hb, hml, hown, hV⟩ (ck_copyOf (sz := H.size) hg rfl) (va_cwS 2 hV (cgoodS cm_539 cm_540 cm_55 cm_541) rfl rfl rfl (by decide +kernel) ⟨by show 1 + 1 ≤ _; omega, by show 8 + (3 + 11) + 60 ≤ _; omega⟩) ⟨cPre.calling, fun U hU hW => ⟨rfl, cMW.pre C hw U hU hW⟩⟩ rfl rfl hsz rfl (lv_room (Nat.le_of_ble_eq_true rfl)) hdg hf) hw.2.2.1 (fun q _ h => hFc q h) hFc (fun u q t H1 locs1 ht hvm _ hB hz1 hk1 hS1 => ?_)
  obtain ⟨hP1, hK1, hD1⟩ := hB
  rw [ht] at hP1
  have hD1 := hD1.weaken (B := A) (fun _ _ _ z => hFc _ z)
  refine va_put (D := eD v) (ci := 6) (v := .ref q) (ty := .array .int) (C := RX6) (T := TX6) (N := 17) hx hb hV cvs_X6 tyX6 tyX6_ok nmX6 hown hK hP1 hD1 hS1 6 rfl rfl 4 (by decide) (hV _ cm_537) (fun _ h9 => h9) rfl (by decide +kernel) rfl rfl (Nat.le_of_ble_eq_true rfl) hdp (fun H2 locs2 hP2 hD2 hS2 => ?_)
  refine W.widen (k := xn (fup F 300 (nI (xn F) * 2)) - xn K0) (n := 2 * (xn (fup F 300 (nI (xn F) * 2)) - xn K0)) (by rw [xn_grow]; omega) (by rw [xn_grow]; omega) ?_
  exact kk q H2 locs2 ⟨hP2.sub [0, 1, 2, 3, 4, 5, 6, 7, 8, 9, 10, 11, 12, 13, 14, 15, 16, 17, 18, 19, 20, 21, 22, 23, 24, 45, 26, 27, 28, 29, 30, 31, 32, 33, 34, 35, 36, 37, 38, 39, 40, 41, 42, 43, 44] rfl, hD2.sub [0, 1, 2, 3, 4, 5, 6, 7, 8, 9, 10, 11, 12, 13, 14, 15, 16, 17, 18, 19, 20, 21, 22, 23, 24, 45, 26, 27, 28, 29, 30, 31, 32, 33, 34, 35, 36, 37, 38, 39, 40, 41, 42, 43, 44] (by decide) rfl, hS2, by rw [xn_grow]; omega⟩
end GRW
