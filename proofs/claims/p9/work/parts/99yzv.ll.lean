theorem law2_18 {p : Program} {l : Launch} {e : Env} {s : State} {m : MethodId} {below : List Frame} {meth : Method} {c : Code} {A : Nat → Prop} {v : EV} {ac am : Nat → Nat} {b L fu : Nat} {xs : Nat → Int32} (hfu : 300000000000 ≤ fu) (C : lMC p room_1 s m #[Value.ref b] c A v RL cL_law 4 lw_tbl) (hX : va_X b L xs s s.heap) (hbl : b < s.heap.size) (hbA : ¬ A b) (hA2 : ∀ q : Nat, A q → s.heap.size ≤ q) (hr : meth.sig.returnType = ret) (hlocks : meth.locks = false) (hL : L ≤ 3072) : ∀ (t i : Nat) (ls : Array Slot) (bc k n : Nat) (Fc Fm : PF) (Gc Gm : PG) (H : Heap) (locs : List Loc), i ≤ L → L + 6 - i ≤ t → lv_has ls 4 [(3, .int (nI i)), (2, .ref (am 212)), (1, .ref (ac 211)), (0, .ref b)] → LST s A v ac bc am Fc Gc Fm Gm H locs k n → W p l e room_1 s m #[Value.ref b] below meth c H locs k n (lw_Z below #[Value.ref b] s) (F0 m 18 ls []) := by
  obtain ⟨hx, hb, hml, hown, hts, hA, hK, hXm, hXc⟩ := id C
  intro t
  induction t with
  | zero => intro i ls bc k n Fc Fm Gc Gm H locs h1 h2 _ _; omega
  | succ t ih =>
    intro i ls bc k n Fc Fm Gc Gm H locs h1 h2 hl h
    have hS := h.1.2.2
    have hb0 := h.2.1.1.xx
    have hk := h.2.2.1
    have hn := h.2.2.2
    have eL : (Int32.ofNat L).toInt = L := nI_toInt (by omega)
    have ei : (nI i).toInt = i := nI_toInt (by omega)
    have e6 : (Int32.ofNat L - 6).toInt = (L : Int) - 6 := by
      have := i_subn (Int32.ofNat L) (n := 6) (m := 6) rfl (by omega) (by omega)
      omega
    refine lv_iload_n hx hb dL_law_18 rfl (lv_at hl 0 rfl) ?_
    refine lv_aload_n hx hb dL_law_19 rfl (lv_at hl 3 rfl) ?_
    refine va_slen hx hb hX hbl hbA hS dL_law_20 ?_
    refine lv_bipush (v := 6) hx hb dL_law_21 (by decide) ?_
    refine lv_isub hx hb dL_law_23 ?_
    refine lv_icmp_gt (tgt := 492) hx hb dL_law_24 (by decide) (fun _ => ?_) (fun c_0 => ?_)
    · refine lv_iconst (v := 1) hx hb dL_law_492 (by decide) ?_
      refine va_forget (fun q hq => hA2 _ (hS.2.2 q hq)) ?_
      refine W.widen (k := 600000) (n := 7302249) (by omega) (by omega) ?_
      exact lw_ret hx hb hr hlocks dL_law_493
    · have c_0 := mt i_lt.mpr c_0
      rw [e6, ei] at c_0
      have hi : i + 6 ≤ L := by omega
      have nx : ∀ (bc k n : Nat) (Fc Fm : PF) (Gc Gm : PG) (H : Heap) (locs : List Loc), LST s A v ac bc am Fc Gc Fm Gm H locs k n → W p l e room_1 s m #[Value.ref b] below meth c H locs k n (lw_Z below #[Value.ref b] s) (F0 m 486 ls []) := by
        intro bc k n Fc Fm Gc Gm H locs h
        refine lv_iinc (v := nI (i + 6)) (lv' := [(3, .int (nI (i + 6))), (2, .ref (am 212)), (1, .ref (ac 211)), (0, .ref b)]) hx hb dL_law_486 hl (k := 0) rfl ?_ (by decide) rfl (fun ls hl => ?_)
        · show nI i + 6 = nI (i + 6)
          rw [← nI_add]
          rfl
        · refine lv_goto (tgt := 18) hx hb dL_law_489 (by decide) ?_
          exact ih (i + 6) ls bc k n Fc Fm Gc Gm H locs (by omega) (by omega) hl h
      refine lv_aload_n hx hb dL_law_27 rfl (lv_at hl 3 rfl) ?_
      refine lv_iload_n hx hb dL_law_28 rfl (lv_at hl 0 rfl) ?_
      refine va_sld hx hb hX hbl hbA hS (vp_in_iff.mpr ⟨by omega, by omega⟩) dL_law_29 ?_
      refine lv_bipush (v := 15) hx hb dL_law_30 (by decide) ?_
      refine lv_iand hx hb dL_law_32 ?_
      obtain ⟨j, hj, ej⟩ := pk_andE (xs (nI i).toNatClampNeg) (m := 15) 4 (by decide)
      refine my_top (nI j) ej ?_
      rcases (show j = 0 ∨ j = 1 ∨ j = 2 ∨ j = 3 ∨ j = 4 ∨ j = 5 ∨ j = 6 ∨ j = 7 ∨ j = 8 ∨ j = 9 ∨ j = 10 ∨ j = 11 ∨ j = 12 ∨ j = 13 ∨ j = 14 ∨ j = 15 by omega) with rfl | rfl | rfl | rfl | rfl | rfl | rfl | rfl | rfl | rfl | rfl | rfl | rfl | rfl | rfl | rfl
      · refine lv_tableIn (off := 71) (tgt := 104) hx hb dL_law_33 (by decide) (by decide) (by decide) (by decide) ?_
        exact law2_feed hfu C hX hbl hbA hi hL hl h nx
      · refine lv_tableIn (off := 134) (tgt := 167) hx hb dL_law_33 (by decide) (by decide) (by decide) (by decide) ?_
        exact law2_end hfu C hX hbl hbA hi hL hl h nx
      · refine lv_tableIn (off := 157) (tgt := 190) hx hb dL_law_33 (by decide) (by decide) (by decide) (by decide) ?_
        exact law2_read hfu C hX hbl hbA hi hL hl h nx
      · refine lv_tableIn (off := 170) (tgt := 203) hx hb dL_law_33 (by decide) (by decide) (by decide) (by decide) ?_
        exact law2_look hfu C hX hbl hbA hi hL hl h nx
      · refine lv_tableIn (off := 203) (tgt := 236) hx hb dL_law_33 (by decide) (by decide) (by decide) (by decide) ?_
        exact law2_give hfu C hX hbl hbA hi hL hl h nx
      · refine lv_tableIn (off := 226) (tgt := 259) hx hb dL_law_33 (by decide) (by decide) (by decide) (by decide) ?_
        exact law2_begin hfu C hX hbl hbA hi hL hl h nx
      · refine lv_tableIn (off := 249) (tgt := 282) hx hb dL_law_33 (by decide) (by decide) (by decide) (by decide) ?_
        exact law2_run hfu C hX hbl hbA hi hL hl h nx
      · refine lv_tableIn (off := 272) (tgt := 305) hx hb dL_law_33 (by decide) (by decide) (by decide) (by decide) ?_
        exact law2_output hfu C hX hbl hbA hi hL hl h nx
      · refine lv_tableIn (off := 295) (tgt := 328) hx hb dL_law_33 (by decide) (by decide) (by decide) (by decide) ?_
        exact law2_world hfu C hX hbl hbA hi hL hl h nx
      · refine lv_tableIn (off := 318) (tgt := 351) hx hb dL_law_33 (by decide) (by decide) (by decide) (by decide) ?_
        exact law2_global hfu C hX hbl hbA hi hL hl h nx
      · refine lv_tableIn (off := 341) (tgt := 374) hx hb dL_law_33 (by decide) (by decide) (by decide) (by decide) ?_
        exact law2_put hfu C hX hbl hbA hi hL hl h nx
      · refine lv_tableIn (off := 374) (tgt := 407) hx hb dL_law_33 (by decide) (by decide) (by decide) (by decide) ?_
        exact law2_set hfu C hX hbl hbA hi hL hl h nx
      · refine lv_tableIn (off := 407) (tgt := 440) hx hb dL_law_33 (by decide) (by decide) (by decide) (by decide) ?_
        exact law2_go hfu C hX hbl hbA hi hL hl h nx
      · refine lv_tableIn (off := 430) (tgt := 463) hx hb dL_law_33 (by decide) (by decide) (by decide) (by decide) ?_
        exact law2_board hfu C hX hbl hbA hi hL hl h nx
      · refine lv_tableOut (tgt := 486) hx hb dL_law_33 (by decide) (by decide) ?_
        exact nx bc k n Fc Fm Gc Gm H locs h
      · refine lv_tableOut (tgt := 486) hx hb dL_law_33 (by decide) (by decide) ?_
        exact nx bc k n Fc Fm Gc Gm H locs h
