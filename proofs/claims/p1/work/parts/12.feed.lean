def vs_kX9_take : List Cond := Cond.code yX9_take cX9_take 3 none :: (([Cond.fieldLink RX9 15 "CompiledHouse$Tape" "count" "I", Cond.fieldLink RX9 9 "CompiledHouse$Tape" "bytes" "[B"] : List Cond) ++ (wsX90))
theorem i_kX9_take_X9 : ∀ w ∈ wsX90, w ∈ vs_kX9_take := fun w h => List.mem_cons_of_mem _ (List.mem_append_right _ h)
set_option maxHeartbeats 4000000 in
set_option maxRecDepth 100000 in
theorem kX9_take (l : Launch) (dC : Nat → ClassId) (dI : Nat → Nat → Nat) (cI cB cZ : ClassId) (h0 : Nat) (h1 : Nat) (sz : Nat) (p0 : Int32) : Met l yX9_take vs_kX9_take ({ frames := 0, cells := 0, slots := 0, locals := 0 }) (va_Pc [.ref h0, .int p0] (fun U => U.heap.size = sz ∧ va_P (dC, dI) vwCl [(h0, .inr (9, [.ref h1, .int 0])), (h1, .inl (cB, 4000, .inl (fun _ => 0)))] U.heap ∧ va_K (dC, dI) vwCl (ty3 cI cB cZ) U ∧ va_D (fun _ => True) [(h0, .inr (9, [.ref h1, .int 0])), (h1, .inl (cB, 4000, .inl (fun _ => 0)))])) (va_Qv (fun _ : Unit => True) (fun (_ : Unit) (t : State) => ∃ (k0 : Nat → Int32), va_P (dC, dI) vwCl [(h0, .inr (9, [.ref h1, .int 4])), (h1, .inl (cB, 4000, .inl k0))] t.heap ∧ va_K (dC, dI) vwCl (ty3 cI cB cZ) t ∧ va_D (va_A [(h0, .inr (9, [.ref h1, .int 0])), (h1, .inl (cB, 4000, .inl (fun _ => 0)))] sz) [(h0, .inr (9, [.ref h1, .int 4])), (h1, .inl (cB, 4000, .inl k0))]) (va_A [(h0, .inr (9, [.ref h1, .int 0])), (h1, .inl (cB, 4000, .inl (fun _ => 0)))] sz)) 0 0 (va_A [(h0, .inr (9, [.ref h1, .int 0])), (h1, .inl (cB, 4000, .inl (fun _ => 0)))] sz) := by
  refine Met.ofW (cc := cX9_take) (maxL := 3) (ret := none) (by decide) rfl ?_
  intro p e s m args below meth c s₁ B hml hv
  obtain ⟨rfl, hsz, hP, hK, hD0⟩ := hv
  have hx := B.exec
  have hb := B.bytes
  have hr := B.returns
  have hts := atoms_spec (ws := vs_kX9_take) B.pre
  have hown : s.vm.findClass RX9 = some m.cls := findClass_of_methodNamed B.named
  have hlocks := B.notSynchronized
  subst hsz
  have hD := hD0.self (sz := s.heap.size)
  clear hD0
  generalize hAe : va_A [(h0, .inr (9, [.ref h1, .int 0])), (h1, .inl (cB, 4000, .inl (fun _ => 0)))] s.heap.size = A at hD ⊢
  have hA : ∀ q : Nat, s.heap.size ≤ q → A q := fun q h => by rw [← hAe]; exact Or.inr h
  clear hAe
  have hS : va_S A s.heap s.heap [] := va_S.rf
  have hl := lv_entry ([.ref h0, .int p0]) (n := 3) (Nat.le_of_ble_eq_true rfl)
  rw [lg_entry_eq]
  generalize (lg_sl ([.ref h0, .int p0]) ++ List.replicate (3 - (lg_sl ([.ref h0, .int p0])).length) Slot.unset).toArray = ls at hl ⊢
  replace hl : lv_has ls 3 [(0, .ref h0), (1, .int p0)] := hl
  refine my_st (fun H locs eH el => ?_)
  replace hP : va_P (dC, dI) vwCl [(h0, .inr (9, [.ref h1, .int 0])), (h1, .inl (cB, 4000, .inl (fun _ => 0)))] H := by rw [eH]; exact hP
  replace hS : va_S A s.heap H locs := by rw [eH, el]; exact hS
  clear eH el
  refine lv_bipush (v := 24) hx hb dX9_take_0 (by decide) ?_
  refine lv_istore_n (lv' := [(2, .int 24), (0, .ref h0), (1, .int p0)]) hx hb dX9_take_2 rfl hl (by decide) rfl (fun ls hl => ?_)
  refine lv_iload_n hx hb dX9_take_3 rfl (lv_at hl 0 rfl) ?_
  refine lv_if_lt (tgt := 46) hx hb dX9_take_4 (by decide) (fun c_0 => absurd c_0 (by decide)) (fun _ => ?_)
  refine lv_aload_n hx hb dX9_take_7 rfl (lv_at hl 1 rfl) ?_
  refine va_get (D := (dC, dI)) (ci := 9) (v := .int 0) (C := RX9) (T := TX9) (N := 2) hx hb hts i_kX9_take_X9 hown hK hP 0 rfl rfl 1 (by decide) (hts (Cond.fieldLink RX9 15 "CompiledHouse$Tape" "count" "I") (List.mem_cons_of_mem _ (List.mem_append_left _ (List.mem_of_getElem? (i := 0) rfl)))) (fun _ h9 => h9) rfl dX9_take_8 ?_
  refine lv_sipush (v := 4000) hx hb dX9_take_11 (by decide) ?_
  refine lv_icmp_ge (tgt := 46) hx hb dX9_take_14 (by decide) (fun c_0 => absurd c_0 (by decide)) (fun _ => ?_)
  refine lv_aload_n hx hb dX9_take_17 rfl (lv_at hl 1 rfl) ?_
  refine va_get (D := (dC, dI)) (ci := 9) (v := .ref h1) (C := RX9) (T := TX9) (N := 2) hx hb hts i_kX9_take_X9 hown hK hP 0 rfl rfl 0 (by decide) (hts (Cond.fieldLink RX9 9 "CompiledHouse$Tape" "bytes" "[B") (List.mem_cons_of_mem _ (List.mem_append_left _ (List.mem_of_getElem? (i := 1) rfl)))) (fun _ h9 => h9) rfl dX9_take_18 ?_
  refine lv_aload_n hx hb dX9_take_21 rfl (lv_at hl 1 rfl) ?_
  refine va_get (D := (dC, dI)) (ci := 9) (v := .int 0) (C := RX9) (T := TX9) (N := 2) hx hb hts i_kX9_take_X9 hown hK hP 0 rfl rfl 1 (by decide) (hts (Cond.fieldLink RX9 15 "CompiledHouse$Tape" "count" "I") (List.mem_cons_of_mem _ (List.mem_append_left _ (List.mem_of_getElem? (i := 0) rfl)))) (fun _ h9 => h9) rfl dX9_take_22 ?_
  refine lv_iload_n hx hb dX9_take_25 rfl (lv_at hl 2 rfl) ?_
  refine lv_iload_n hx hb dX9_take_26 rfl (lv_at hl 0 rfl) ?_
  refine lv_iushr hx hb dX9_take_27 rfl ?_
  refine lv_topi (fun x_1 ex_1 => ?_)
  refine lv_i2b hx hb dX9_take_28 rfl ?_
  refine lv_topi (fun x_2 ex_2 => ?_)
  refine my_bast hx hb hK hP hD hS 1 1 rfl rfl (my_in (by decide)) dX9_take_29 (fun f_4 H_3 locs hP1 hD1 hS1 => ?_)
  clear hP hD hS
  have hP : va_P (dC, dI) vwCl [(h0, .inr (9, [.ref h1, .int 0])), (h1, .inl (cB, 4000, .inl f_4))] H_3 := hP1
  have hD : va_D A [(h0, .inr (9, [.ref h1, .int 0])), (h1, .inl (cB, 4000, .inl f_4))] := hD1
  have hS := hS1
  clear hP1 hD1 hS1
  refine lv_aload_n hx hb dX9_take_30 rfl (lv_at hl 1 rfl) ?_
  refine lv_dup hx hb dX9_take_31 rfl ?_
  refine va_get (D := (dC, dI)) (ci := 9) (v := .int 0) (C := RX9) (T := TX9) (N := 2) hx hb hts i_kX9_take_X9 hown hK hP 0 rfl rfl 1 (by decide) (hts (Cond.fieldLink RX9 15 "CompiledHouse$Tape" "count" "I") (List.mem_cons_of_mem _ (List.mem_append_left _ (List.mem_of_getElem? (i := 0) rfl)))) (fun _ h9 => h9) rfl dX9_take_32 ?_
  refine lv_iconst (v := 1) hx hb dX9_take_35 (by decide) ?_
  refine lv_iadd hx hb dX9_take_36 ?_
  refine my_top 1 (by decide) ?_
  refine va_put (D := (dC, dI)) (ci := 9) (v := .int 1) (ty := .int) (C := RX9) (T := TX9) (N := 2) hx hb hts i_kX9_take_X9 tyX9 tyX9_ok nmX9 hown hK hP hD hS 0 rfl rfl 1 (by decide) (hts (Cond.fieldLink RX9 15 "CompiledHouse$Tape" "count" "I") (List.mem_cons_of_mem _ (List.mem_append_left _ (List.mem_of_getElem? (i := 0) rfl)))) (fun _ h9 => h9) rfl (by decide +kernel) rfl rfl (Nat.le_of_ble_eq_true rfl) dX9_take_37 (fun H_5 locs hP1 hD1 hS1 => ?_)
  clear hP hD hS
  have hP : va_P (dC, dI) vwCl [(h0, .inr (9, [.ref h1, .int 1])), (h1, .inl (cB, 4000, .inl f_4))] H_5 := hP1
  have hD : va_D A [(h0, .inr (9, [.ref h1, .int 1])), (h1, .inl (cB, 4000, .inl f_4))] := hD1
  have hS := hS1
  clear hP1 hD1 hS1
  refine lv_iinc (v := 16) (lv' := [(2, .int 16), (0, .ref h0), (1, .int p0)]) hx hb dX9_take_40 hl (k := 0) rfl (by decide) (by decide) rfl (fun ls hl => ?_)
  refine lv_goto (tgt := 3) hx hb dX9_take_43 (by decide) ?_
  refine lv_iload_n hx hb dX9_take_3 rfl (lv_at hl 0 rfl) ?_
  refine lv_if_lt (tgt := 46) hx hb dX9_take_4 (by decide) (fun c_0 => absurd c_0 (by decide)) (fun _ => ?_)
  refine lv_aload_n hx hb dX9_take_7 rfl (lv_at hl 1 rfl) ?_
  refine va_get (D := (dC, dI)) (ci := 9) (v := .int 1) (C := RX9) (T := TX9) (N := 2) hx hb hts i_kX9_take_X9 hown hK hP 0 rfl rfl 1 (by decide) (hts (Cond.fieldLink RX9 15 "CompiledHouse$Tape" "count" "I") (List.mem_cons_of_mem _ (List.mem_append_left _ (List.mem_of_getElem? (i := 0) rfl)))) (fun _ h9 => h9) rfl dX9_take_8 ?_
  refine lv_sipush (v := 4000) hx hb dX9_take_11 (by decide) ?_
  refine lv_icmp_ge (tgt := 46) hx hb dX9_take_14 (by decide) (fun c_0 => absurd c_0 (by decide)) (fun _ => ?_)
  refine lv_aload_n hx hb dX9_take_17 rfl (lv_at hl 1 rfl) ?_
  refine va_get (D := (dC, dI)) (ci := 9) (v := .ref h1) (C := RX9) (T := TX9) (N := 2) hx hb hts i_kX9_take_X9 hown hK hP 0 rfl rfl 0 (by decide) (hts (Cond.fieldLink RX9 9 "CompiledHouse$Tape" "bytes" "[B") (List.mem_cons_of_mem _ (List.mem_append_left _ (List.mem_of_getElem? (i := 1) rfl)))) (fun _ h9 => h9) rfl dX9_take_18 ?_
  refine lv_aload_n hx hb dX9_take_21 rfl (lv_at hl 1 rfl) ?_
  refine va_get (D := (dC, dI)) (ci := 9) (v := .int 1) (C := RX9) (T := TX9) (N := 2) hx hb hts i_kX9_take_X9 hown hK hP 0 rfl rfl 1 (by decide) (hts (Cond.fieldLink RX9 15 "CompiledHouse$Tape" "count" "I") (List.mem_cons_of_mem _ (List.mem_append_left _ (List.mem_of_getElem? (i := 0) rfl)))) (fun _ h9 => h9) rfl dX9_take_22 ?_
  refine lv_iload_n hx hb dX9_take_25 rfl (lv_at hl 2 rfl) ?_
  refine lv_iload_n hx hb dX9_take_26 rfl (lv_at hl 0 rfl) ?_
  refine lv_iushr hx hb dX9_take_27 rfl ?_
  refine lv_topi (fun x_6 ex_6 => ?_)
  refine lv_i2b hx hb dX9_take_28 rfl ?_
  refine lv_topi (fun x_7 ex_7 => ?_)
  refine my_bast hx hb hK hP hD hS 1 1 rfl rfl (my_in (by decide)) dX9_take_29 (fun f_9 H_8 locs hP1 hD1 hS1 => ?_)
  clear hP hD hS
  have hP : va_P (dC, dI) vwCl [(h0, .inr (9, [.ref h1, .int 1])), (h1, .inl (cB, 4000, .inl f_9))] H_8 := hP1
  have hD : va_D A [(h0, .inr (9, [.ref h1, .int 1])), (h1, .inl (cB, 4000, .inl f_9))] := hD1
  have hS := hS1
  clear hP1 hD1 hS1
  refine lv_aload_n hx hb dX9_take_30 rfl (lv_at hl 1 rfl) ?_
  refine lv_dup hx hb dX9_take_31 rfl ?_
  refine va_get (D := (dC, dI)) (ci := 9) (v := .int 1) (C := RX9) (T := TX9) (N := 2) hx hb hts i_kX9_take_X9 hown hK hP 0 rfl rfl 1 (by decide) (hts (Cond.fieldLink RX9 15 "CompiledHouse$Tape" "count" "I") (List.mem_cons_of_mem _ (List.mem_append_left _ (List.mem_of_getElem? (i := 0) rfl)))) (fun _ h9 => h9) rfl dX9_take_32 ?_
  refine lv_iconst (v := 1) hx hb dX9_take_35 (by decide) ?_
  refine lv_iadd hx hb dX9_take_36 ?_
  refine my_top 2 (by decide) ?_
  refine va_put (D := (dC, dI)) (ci := 9) (v := .int 2) (ty := .int) (C := RX9) (T := TX9) (N := 2) hx hb hts i_kX9_take_X9 tyX9 tyX9_ok nmX9 hown hK hP hD hS 0 rfl rfl 1 (by decide) (hts (Cond.fieldLink RX9 15 "CompiledHouse$Tape" "count" "I") (List.mem_cons_of_mem _ (List.mem_append_left _ (List.mem_of_getElem? (i := 0) rfl)))) (fun _ h9 => h9) rfl (by decide +kernel) rfl rfl (Nat.le_of_ble_eq_true rfl) dX9_take_37 (fun H_10 locs hP1 hD1 hS1 => ?_)
  clear hP hD hS
  have hP : va_P (dC, dI) vwCl [(h0, .inr (9, [.ref h1, .int 2])), (h1, .inl (cB, 4000, .inl f_9))] H_10 := hP1
  have hD : va_D A [(h0, .inr (9, [.ref h1, .int 2])), (h1, .inl (cB, 4000, .inl f_9))] := hD1
  have hS := hS1
  clear hP1 hD1 hS1
  refine lv_iinc (v := 8) (lv' := [(2, .int 8), (0, .ref h0), (1, .int p0)]) hx hb dX9_take_40 hl (k := 0) rfl (by decide) (by decide) rfl (fun ls hl => ?_)
  refine lv_goto (tgt := 3) hx hb dX9_take_43 (by decide) ?_
  refine lv_iload_n hx hb dX9_take_3 rfl (lv_at hl 0 rfl) ?_
  refine lv_if_lt (tgt := 46) hx hb dX9_take_4 (by decide) (fun c_0 => absurd c_0 (by decide)) (fun _ => ?_)
  refine lv_aload_n hx hb dX9_take_7 rfl (lv_at hl 1 rfl) ?_
  refine va_get (D := (dC, dI)) (ci := 9) (v := .int 2) (C := RX9) (T := TX9) (N := 2) hx hb hts i_kX9_take_X9 hown hK hP 0 rfl rfl 1 (by decide) (hts (Cond.fieldLink RX9 15 "CompiledHouse$Tape" "count" "I") (List.mem_cons_of_mem _ (List.mem_append_left _ (List.mem_of_getElem? (i := 0) rfl)))) (fun _ h9 => h9) rfl dX9_take_8 ?_
  refine lv_sipush (v := 4000) hx hb dX9_take_11 (by decide) ?_
  refine lv_icmp_ge (tgt := 46) hx hb dX9_take_14 (by decide) (fun c_0 => absurd c_0 (by decide)) (fun _ => ?_)
  refine lv_aload_n hx hb dX9_take_17 rfl (lv_at hl 1 rfl) ?_
  refine va_get (D := (dC, dI)) (ci := 9) (v := .ref h1) (C := RX9) (T := TX9) (N := 2) hx hb hts i_kX9_take_X9 hown hK hP 0 rfl rfl 0 (by decide) (hts (Cond.fieldLink RX9 9 "CompiledHouse$Tape" "bytes" "[B") (List.mem_cons_of_mem _ (List.mem_append_left _ (List.mem_of_getElem? (i := 1) rfl)))) (fun _ h9 => h9) rfl dX9_take_18 ?_
  refine lv_aload_n hx hb dX9_take_21 rfl (lv_at hl 1 rfl) ?_
  refine va_get (D := (dC, dI)) (ci := 9) (v := .int 2) (C := RX9) (T := TX9) (N := 2) hx hb hts i_kX9_take_X9 hown hK hP 0 rfl rfl 1 (by decide) (hts (Cond.fieldLink RX9 15 "CompiledHouse$Tape" "count" "I") (List.mem_cons_of_mem _ (List.mem_append_left _ (List.mem_of_getElem? (i := 0) rfl)))) (fun _ h9 => h9) rfl dX9_take_22 ?_
  refine lv_iload_n hx hb dX9_take_25 rfl (lv_at hl 2 rfl) ?_
  refine lv_iload_n hx hb dX9_take_26 rfl (lv_at hl 0 rfl) ?_
  refine lv_iushr hx hb dX9_take_27 rfl ?_
  refine lv_topi (fun x_11 ex_11 => ?_)
  refine lv_i2b hx hb dX9_take_28 rfl ?_
  refine lv_topi (fun x_12 ex_12 => ?_)
  refine my_bast hx hb hK hP hD hS 1 1 rfl rfl (my_in (by decide)) dX9_take_29 (fun f_14 H_13 locs hP1 hD1 hS1 => ?_)
  clear hP hD hS
  have hP : va_P (dC, dI) vwCl [(h0, .inr (9, [.ref h1, .int 2])), (h1, .inl (cB, 4000, .inl f_14))] H_13 := hP1
  have hD : va_D A [(h0, .inr (9, [.ref h1, .int 2])), (h1, .inl (cB, 4000, .inl f_14))] := hD1
  have hS := hS1
  clear hP1 hD1 hS1
  refine lv_aload_n hx hb dX9_take_30 rfl (lv_at hl 1 rfl) ?_
  refine lv_dup hx hb dX9_take_31 rfl ?_
  refine va_get (D := (dC, dI)) (ci := 9) (v := .int 2) (C := RX9) (T := TX9) (N := 2) hx hb hts i_kX9_take_X9 hown hK hP 0 rfl rfl 1 (by decide) (hts (Cond.fieldLink RX9 15 "CompiledHouse$Tape" "count" "I") (List.mem_cons_of_mem _ (List.mem_append_left _ (List.mem_of_getElem? (i := 0) rfl)))) (fun _ h9 => h9) rfl dX9_take_32 ?_
  refine lv_iconst (v := 1) hx hb dX9_take_35 (by decide) ?_
  refine lv_iadd hx hb dX9_take_36 ?_
  refine my_top 3 (by decide) ?_
  refine va_put (D := (dC, dI)) (ci := 9) (v := .int 3) (ty := .int) (C := RX9) (T := TX9) (N := 2) hx hb hts i_kX9_take_X9 tyX9 tyX9_ok nmX9 hown hK hP hD hS 0 rfl rfl 1 (by decide) (hts (Cond.fieldLink RX9 15 "CompiledHouse$Tape" "count" "I") (List.mem_cons_of_mem _ (List.mem_append_left _ (List.mem_of_getElem? (i := 0) rfl)))) (fun _ h9 => h9) rfl (by decide +kernel) rfl rfl (Nat.le_of_ble_eq_true rfl) dX9_take_37 (fun H_15 locs hP1 hD1 hS1 => ?_)
  clear hP hD hS
  have hP : va_P (dC, dI) vwCl [(h0, .inr (9, [.ref h1, .int 3])), (h1, .inl (cB, 4000, .inl f_14))] H_15 := hP1
  have hD : va_D A [(h0, .inr (9, [.ref h1, .int 3])), (h1, .inl (cB, 4000, .inl f_14))] := hD1
  have hS := hS1
  clear hP1 hD1 hS1
  refine lv_iinc (v := 0) (lv' := [(2, .int 0), (0, .ref h0), (1, .int p0)]) hx hb dX9_take_40 hl (k := 0) rfl (by decide) (by decide) rfl (fun ls hl => ?_)
  refine lv_goto (tgt := 3) hx hb dX9_take_43 (by decide) ?_
  refine lv_iload_n hx hb dX9_take_3 rfl (lv_at hl 0 rfl) ?_
  refine lv_if_lt (tgt := 46) hx hb dX9_take_4 (by decide) (fun c_0 => absurd c_0 (by decide)) (fun _ => ?_)
  refine lv_aload_n hx hb dX9_take_7 rfl (lv_at hl 1 rfl) ?_
  refine va_get (D := (dC, dI)) (ci := 9) (v := .int 3) (C := RX9) (T := TX9) (N := 2) hx hb hts i_kX9_take_X9 hown hK hP 0 rfl rfl 1 (by decide) (hts (Cond.fieldLink RX9 15 "CompiledHouse$Tape" "count" "I") (List.mem_cons_of_mem _ (List.mem_append_left _ (List.mem_of_getElem? (i := 0) rfl)))) (fun _ h9 => h9) rfl dX9_take_8 ?_
  refine lv_sipush (v := 4000) hx hb dX9_take_11 (by decide) ?_
  refine lv_icmp_ge (tgt := 46) hx hb dX9_take_14 (by decide) (fun c_0 => absurd c_0 (by decide)) (fun _ => ?_)
  refine lv_aload_n hx hb dX9_take_17 rfl (lv_at hl 1 rfl) ?_
  refine va_get (D := (dC, dI)) (ci := 9) (v := .ref h1) (C := RX9) (T := TX9) (N := 2) hx hb hts i_kX9_take_X9 hown hK hP 0 rfl rfl 0 (by decide) (hts (Cond.fieldLink RX9 9 "CompiledHouse$Tape" "bytes" "[B") (List.mem_cons_of_mem _ (List.mem_append_left _ (List.mem_of_getElem? (i := 1) rfl)))) (fun _ h9 => h9) rfl dX9_take_18 ?_
  refine lv_aload_n hx hb dX9_take_21 rfl (lv_at hl 1 rfl) ?_
  refine va_get (D := (dC, dI)) (ci := 9) (v := .int 3) (C := RX9) (T := TX9) (N := 2) hx hb hts i_kX9_take_X9 hown hK hP 0 rfl rfl 1 (by decide) (hts (Cond.fieldLink RX9 15 "CompiledHouse$Tape" "count" "I") (List.mem_cons_of_mem _ (List.mem_append_left _ (List.mem_of_getElem? (i := 0) rfl)))) (fun _ h9 => h9) rfl dX9_take_22 ?_
  refine lv_iload_n hx hb dX9_take_25 rfl (lv_at hl 2 rfl) ?_
  refine lv_iload_n hx hb dX9_take_26 rfl (lv_at hl 0 rfl) ?_
  refine lv_iushr hx hb dX9_take_27 rfl ?_
  refine lv_topi (fun x_16 ex_16 => ?_)
  refine lv_i2b hx hb dX9_take_28 rfl ?_
  refine lv_topi (fun x_17 ex_17 => ?_)
  refine my_bast hx hb hK hP hD hS 1 1 rfl rfl (my_in (by decide)) dX9_take_29 (fun f_19 H_18 locs hP1 hD1 hS1 => ?_)
  clear hP hD hS
  have hP : va_P (dC, dI) vwCl [(h0, .inr (9, [.ref h1, .int 3])), (h1, .inl (cB, 4000, .inl f_19))] H_18 := hP1
  have hD : va_D A [(h0, .inr (9, [.ref h1, .int 3])), (h1, .inl (cB, 4000, .inl f_19))] := hD1
  have hS := hS1
  clear hP1 hD1 hS1
  refine lv_aload_n hx hb dX9_take_30 rfl (lv_at hl 1 rfl) ?_
  refine lv_dup hx hb dX9_take_31 rfl ?_
  refine va_get (D := (dC, dI)) (ci := 9) (v := .int 3) (C := RX9) (T := TX9) (N := 2) hx hb hts i_kX9_take_X9 hown hK hP 0 rfl rfl 1 (by decide) (hts (Cond.fieldLink RX9 15 "CompiledHouse$Tape" "count" "I") (List.mem_cons_of_mem _ (List.mem_append_left _ (List.mem_of_getElem? (i := 0) rfl)))) (fun _ h9 => h9) rfl dX9_take_32 ?_
  refine lv_iconst (v := 1) hx hb dX9_take_35 (by decide) ?_
  refine lv_iadd hx hb dX9_take_36 ?_
  refine my_top 4 (by decide) ?_
  refine va_put (D := (dC, dI)) (ci := 9) (v := .int 4) (ty := .int) (C := RX9) (T := TX9) (N := 2) hx hb hts i_kX9_take_X9 tyX9 tyX9_ok nmX9 hown hK hP hD hS 0 rfl rfl 1 (by decide) (hts (Cond.fieldLink RX9 15 "CompiledHouse$Tape" "count" "I") (List.mem_cons_of_mem _ (List.mem_append_left _ (List.mem_of_getElem? (i := 0) rfl)))) (fun _ h9 => h9) rfl (by decide +kernel) rfl rfl (Nat.le_of_ble_eq_true rfl) dX9_take_37 (fun H_20 locs hP1 hD1 hS1 => ?_)
  clear hP hD hS
  have hP : va_P (dC, dI) vwCl [(h0, .inr (9, [.ref h1, .int 4])), (h1, .inl (cB, 4000, .inl f_19))] H_20 := hP1
  have hD : va_D A [(h0, .inr (9, [.ref h1, .int 4])), (h1, .inl (cB, 4000, .inl f_19))] := hD1
  have hS := hS1
  clear hP1 hD1 hS1
  refine lv_iinc (v := (-8)) (lv' := [(2, .int (-8)), (0, .ref h0), (1, .int p0)]) hx hb dX9_take_40 hl (k := 0) rfl (by decide) (by decide) rfl (fun ls hl => ?_)
  refine lv_goto (tgt := 3) hx hb dX9_take_43 (by decide) ?_
  refine lv_iload_n hx hb dX9_take_3 rfl (lv_at hl 0 rfl) ?_
  refine lv_if_lt (tgt := 46) hx hb dX9_take_4 (by decide) (fun _ => ?_) (fun c_0 => absurd (by decide) c_0)
  have hP9 := hP.sub (ws' := [(h0, .inr (9, [.ref h1, .int 4])), (h1, .inl (cB, 4000, .inl f_19))]) [0, 1] rfl
  have hD9 := hD.sub (ws' := [(h0, .inr (9, [.ref h1, .int 4])), (h1, .inl (cB, 4000, .inl f_19))]) [0, 1] (by decide) rfl
  refine W.widen (k := 0) (n := 0) (by decide) (by decide) ?_
  exact W.vret hx hb hr (fun t ht hW => ⟨⟨(), rfl, trivial, f_19, by rw [ht]; exact hP9, va_K.moved hW.alike hK, hD9⟩, hS.F ht⟩) hS.2.2 dX9_take_46
def vs_kX9_take_v1 : List Cond := Cond.code yX9_take cX9_take 3 none :: (([Cond.fieldLink RX9 15 "CompiledHouse$Tape" "count" "I", Cond.fieldLink RX9 9 "CompiledHouse$Tape" "bytes" "[B"] : List Cond) ++ (wsX90))
theorem i_kX9_take_v1_X9 : ∀ w ∈ wsX90, w ∈ vs_kX9_take_v1 := fun w h => List.mem_cons_of_mem _ (List.mem_append_right _ h)
set_option maxHeartbeats 4000000 in
set_option maxRecDepth 100000 in
theorem kX9_take_v1 (l : Launch) (dC : Nat → ClassId) (dI : Nat → Nat → Nat) (cI cB cZ : ClassId) (h0 : Nat) (h1 : Nat) (sz : Nat) (f0 : Nat → Int32) (p0 : Int32) : Met l yX9_take vs_kX9_take_v1 ({ frames := 0, cells := 0, slots := 0, locals := 0 }) (va_Pc [.ref h0, .int p0] (fun U => U.heap.size = sz ∧ va_P (dC, dI) vwCl [(h0, .inr (9, [.ref h1, .int 4])), (h1, .inl (cB, 4000, .inl f0))] U.heap ∧ va_K (dC, dI) vwCl (ty3 cI cB cZ) U ∧ va_D (fun _ => True) [(h0, .inr (9, [.ref h1, .int 4])), (h1, .inl (cB, 4000, .inl f0))])) (va_Qv (fun _ : Unit => True) (fun (_ : Unit) (t : State) => ∃ (k0 : Nat → Int32), va_P (dC, dI) vwCl [(h0, .inr (9, [.ref h1, .int 8])), (h1, .inl (cB, 4000, .inl k0))] t.heap ∧ va_K (dC, dI) vwCl (ty3 cI cB cZ) t ∧ va_D (va_A [(h0, .inr (9, [.ref h1, .int 4])), (h1, .inl (cB, 4000, .inl f0))] sz) [(h0, .inr (9, [.ref h1, .int 8])), (h1, .inl (cB, 4000, .inl k0))]) (va_A [(h0, .inr (9, [.ref h1, .int 4])), (h1, .inl (cB, 4000, .inl f0))] sz)) 0 0 (va_A [(h0, .inr (9, [.ref h1, .int 4])), (h1, .inl (cB, 4000, .inl f0))] sz) := by
  refine Met.ofW (cc := cX9_take) (maxL := 3) (ret := none) (by decide) rfl ?_
  intro p e s m args below meth c s₁ B hml hv
  obtain ⟨rfl, hsz, hP, hK, hD0⟩ := hv
  have hx := B.exec
  have hb := B.bytes
  have hr := B.returns
  have hts := atoms_spec (ws := vs_kX9_take_v1) B.pre
  have hown : s.vm.findClass RX9 = some m.cls := findClass_of_methodNamed B.named
  have hlocks := B.notSynchronized
  subst hsz
  have hD := hD0.self (sz := s.heap.size)
  clear hD0
  generalize hAe : va_A [(h0, .inr (9, [.ref h1, .int 4])), (h1, .inl (cB, 4000, .inl f0))] s.heap.size = A at hD ⊢
  have hA : ∀ q : Nat, s.heap.size ≤ q → A q := fun q h => by rw [← hAe]; exact Or.inr h
  clear hAe
  have hS : va_S A s.heap s.heap [] := va_S.rf
  have hl := lv_entry ([.ref h0, .int p0]) (n := 3) (Nat.le_of_ble_eq_true rfl)
  rw [lg_entry_eq]
  generalize (lg_sl ([.ref h0, .int p0]) ++ List.replicate (3 - (lg_sl ([.ref h0, .int p0])).length) Slot.unset).toArray = ls at hl ⊢
  replace hl : lv_has ls 3 [(0, .ref h0), (1, .int p0)] := hl
  refine my_st (fun H locs eH el => ?_)
  replace hP : va_P (dC, dI) vwCl [(h0, .inr (9, [.ref h1, .int 4])), (h1, .inl (cB, 4000, .inl f0))] H := by rw [eH]; exact hP
  replace hS : va_S A s.heap H locs := by rw [eH, el]; exact hS
  clear eH el
  refine lv_bipush (v := 24) hx hb dX9_take_0 (by decide) ?_
  refine lv_istore_n (lv' := [(2, .int 24), (0, .ref h0), (1, .int p0)]) hx hb dX9_take_2 rfl hl (by decide) rfl (fun ls hl => ?_)
  refine lv_iload_n hx hb dX9_take_3 rfl (lv_at hl 0 rfl) ?_
  refine lv_if_lt (tgt := 46) hx hb dX9_take_4 (by decide) (fun c_0 => absurd c_0 (by decide)) (fun _ => ?_)
  refine lv_aload_n hx hb dX9_take_7 rfl (lv_at hl 1 rfl) ?_
  refine va_get (D := (dC, dI)) (ci := 9) (v := .int 4) (C := RX9) (T := TX9) (N := 2) hx hb hts i_kX9_take_v1_X9 hown hK hP 0 rfl rfl 1 (by decide) (hts (Cond.fieldLink RX9 15 "CompiledHouse$Tape" "count" "I") (List.mem_cons_of_mem _ (List.mem_append_left _ (List.mem_of_getElem? (i := 0) rfl)))) (fun _ h9 => h9) rfl dX9_take_8 ?_
  refine lv_sipush (v := 4000) hx hb dX9_take_11 (by decide) ?_
  refine lv_icmp_ge (tgt := 46) hx hb dX9_take_14 (by decide) (fun c_0 => absurd c_0 (by decide)) (fun _ => ?_)
  refine lv_aload_n hx hb dX9_take_17 rfl (lv_at hl 1 rfl) ?_
  refine va_get (D := (dC, dI)) (ci := 9) (v := .ref h1) (C := RX9) (T := TX9) (N := 2) hx hb hts i_kX9_take_v1_X9 hown hK hP 0 rfl rfl 0 (by decide) (hts (Cond.fieldLink RX9 9 "CompiledHouse$Tape" "bytes" "[B") (List.mem_cons_of_mem _ (List.mem_append_left _ (List.mem_of_getElem? (i := 1) rfl)))) (fun _ h9 => h9) rfl dX9_take_18 ?_
  refine lv_aload_n hx hb dX9_take_21 rfl (lv_at hl 1 rfl) ?_
  refine va_get (D := (dC, dI)) (ci := 9) (v := .int 4) (C := RX9) (T := TX9) (N := 2) hx hb hts i_kX9_take_v1_X9 hown hK hP 0 rfl rfl 1 (by decide) (hts (Cond.fieldLink RX9 15 "CompiledHouse$Tape" "count" "I") (List.mem_cons_of_mem _ (List.mem_append_left _ (List.mem_of_getElem? (i := 0) rfl)))) (fun _ h9 => h9) rfl dX9_take_22 ?_
  refine lv_iload_n hx hb dX9_take_25 rfl (lv_at hl 2 rfl) ?_
  refine lv_iload_n hx hb dX9_take_26 rfl (lv_at hl 0 rfl) ?_
  refine lv_iushr hx hb dX9_take_27 rfl ?_
  refine lv_topi (fun x_1 ex_1 => ?_)
  refine lv_i2b hx hb dX9_take_28 rfl ?_
  refine lv_topi (fun x_2 ex_2 => ?_)
  refine my_bast hx hb hK hP hD hS 1 1 rfl rfl (my_in (by decide)) dX9_take_29 (fun f_4 H_3 locs hP1 hD1 hS1 => ?_)
  clear hP hD hS
  have hP : va_P (dC, dI) vwCl [(h0, .inr (9, [.ref h1, .int 4])), (h1, .inl (cB, 4000, .inl f_4))] H_3 := hP1
  have hD : va_D A [(h0, .inr (9, [.ref h1, .int 4])), (h1, .inl (cB, 4000, .inl f_4))] := hD1
  have hS := hS1
  clear hP1 hD1 hS1
  refine lv_aload_n hx hb dX9_take_30 rfl (lv_at hl 1 rfl) ?_
  refine lv_dup hx hb dX9_take_31 rfl ?_
  refine va_get (D := (dC, dI)) (ci := 9) (v := .int 4) (C := RX9) (T := TX9) (N := 2) hx hb hts i_kX9_take_v1_X9 hown hK hP 0 rfl rfl 1 (by decide) (hts (Cond.fieldLink RX9 15 "CompiledHouse$Tape" "count" "I") (List.mem_cons_of_mem _ (List.mem_append_left _ (List.mem_of_getElem? (i := 0) rfl)))) (fun _ h9 => h9) rfl dX9_take_32 ?_
  refine lv_iconst (v := 1) hx hb dX9_take_35 (by decide) ?_
  refine lv_iadd hx hb dX9_take_36 ?_
  refine my_top 5 (by decide) ?_
  refine va_put (D := (dC, dI)) (ci := 9) (v := .int 5) (ty := .int) (C := RX9) (T := TX9) (N := 2) hx hb hts i_kX9_take_v1_X9 tyX9 tyX9_ok nmX9 hown hK hP hD hS 0 rfl rfl 1 (by decide) (hts (Cond.fieldLink RX9 15 "CompiledHouse$Tape" "count" "I") (List.mem_cons_of_mem _ (List.mem_append_left _ (List.mem_of_getElem? (i := 0) rfl)))) (fun _ h9 => h9) rfl (by decide +kernel) rfl rfl (Nat.le_of_ble_eq_true rfl) dX9_take_37 (fun H_5 locs hP1 hD1 hS1 => ?_)
  clear hP hD hS
  have hP : va_P (dC, dI) vwCl [(h0, .inr (9, [.ref h1, .int 5])), (h1, .inl (cB, 4000, .inl f_4))] H_5 := hP1
  have hD : va_D A [(h0, .inr (9, [.ref h1, .int 5])), (h1, .inl (cB, 4000, .inl f_4))] := hD1
  have hS := hS1
  clear hP1 hD1 hS1
  refine lv_iinc (v := 16) (lv' := [(2, .int 16), (0, .ref h0), (1, .int p0)]) hx hb dX9_take_40 hl (k := 0) rfl (by decide) (by decide) rfl (fun ls hl => ?_)
  refine lv_goto (tgt := 3) hx hb dX9_take_43 (by decide) ?_
  refine lv_iload_n hx hb dX9_take_3 rfl (lv_at hl 0 rfl) ?_
  refine lv_if_lt (tgt := 46) hx hb dX9_take_4 (by decide) (fun c_0 => absurd c_0 (by decide)) (fun _ => ?_)
  refine lv_aload_n hx hb dX9_take_7 rfl (lv_at hl 1 rfl) ?_
  refine va_get (D := (dC, dI)) (ci := 9) (v := .int 5) (C := RX9) (T := TX9) (N := 2) hx hb hts i_kX9_take_v1_X9 hown hK hP 0 rfl rfl 1 (by decide) (hts (Cond.fieldLink RX9 15 "CompiledHouse$Tape" "count" "I") (List.mem_cons_of_mem _ (List.mem_append_left _ (List.mem_of_getElem? (i := 0) rfl)))) (fun _ h9 => h9) rfl dX9_take_8 ?_
  refine lv_sipush (v := 4000) hx hb dX9_take_11 (by decide) ?_
  refine lv_icmp_ge (tgt := 46) hx hb dX9_take_14 (by decide) (fun c_0 => absurd c_0 (by decide)) (fun _ => ?_)
  refine lv_aload_n hx hb dX9_take_17 rfl (lv_at hl 1 rfl) ?_
  refine va_get (D := (dC, dI)) (ci := 9) (v := .ref h1) (C := RX9) (T := TX9) (N := 2) hx hb hts i_kX9_take_v1_X9 hown hK hP 0 rfl rfl 0 (by decide) (hts (Cond.fieldLink RX9 9 "CompiledHouse$Tape" "bytes" "[B") (List.mem_cons_of_mem _ (List.mem_append_left _ (List.mem_of_getElem? (i := 1) rfl)))) (fun _ h9 => h9) rfl dX9_take_18 ?_
  refine lv_aload_n hx hb dX9_take_21 rfl (lv_at hl 1 rfl) ?_
  refine va_get (D := (dC, dI)) (ci := 9) (v := .int 5) (C := RX9) (T := TX9) (N := 2) hx hb hts i_kX9_take_v1_X9 hown hK hP 0 rfl rfl 1 (by decide) (hts (Cond.fieldLink RX9 15 "CompiledHouse$Tape" "count" "I") (List.mem_cons_of_mem _ (List.mem_append_left _ (List.mem_of_getElem? (i := 0) rfl)))) (fun _ h9 => h9) rfl dX9_take_22 ?_
  refine lv_iload_n hx hb dX9_take_25 rfl (lv_at hl 2 rfl) ?_
  refine lv_iload_n hx hb dX9_take_26 rfl (lv_at hl 0 rfl) ?_
  refine lv_iushr hx hb dX9_take_27 rfl ?_
  refine lv_topi (fun x_6 ex_6 => ?_)
  refine lv_i2b hx hb dX9_take_28 rfl ?_
  refine lv_topi (fun x_7 ex_7 => ?_)
  refine my_bast hx hb hK hP hD hS 1 1 rfl rfl (my_in (by decide)) dX9_take_29 (fun f_9 H_8 locs hP1 hD1 hS1 => ?_)
  clear hP hD hS
  have hP : va_P (dC, dI) vwCl [(h0, .inr (9, [.ref h1, .int 5])), (h1, .inl (cB, 4000, .inl f_9))] H_8 := hP1
  have hD : va_D A [(h0, .inr (9, [.ref h1, .int 5])), (h1, .inl (cB, 4000, .inl f_9))] := hD1
  have hS := hS1
  clear hP1 hD1 hS1
  refine lv_aload_n hx hb dX9_take_30 rfl (lv_at hl 1 rfl) ?_
  refine lv_dup hx hb dX9_take_31 rfl ?_
  refine va_get (D := (dC, dI)) (ci := 9) (v := .int 5) (C := RX9) (T := TX9) (N := 2) hx hb hts i_kX9_take_v1_X9 hown hK hP 0 rfl rfl 1 (by decide) (hts (Cond.fieldLink RX9 15 "CompiledHouse$Tape" "count" "I") (List.mem_cons_of_mem _ (List.mem_append_left _ (List.mem_of_getElem? (i := 0) rfl)))) (fun _ h9 => h9) rfl dX9_take_32 ?_
  refine lv_iconst (v := 1) hx hb dX9_take_35 (by decide) ?_
  refine lv_iadd hx hb dX9_take_36 ?_
  refine my_top 6 (by decide) ?_
  refine va_put (D := (dC, dI)) (ci := 9) (v := .int 6) (ty := .int) (C := RX9) (T := TX9) (N := 2) hx hb hts i_kX9_take_v1_X9 tyX9 tyX9_ok nmX9 hown hK hP hD hS 0 rfl rfl 1 (by decide) (hts (Cond.fieldLink RX9 15 "CompiledHouse$Tape" "count" "I") (List.mem_cons_of_mem _ (List.mem_append_left _ (List.mem_of_getElem? (i := 0) rfl)))) (fun _ h9 => h9) rfl (by decide +kernel) rfl rfl (Nat.le_of_ble_eq_true rfl) dX9_take_37 (fun H_10 locs hP1 hD1 hS1 => ?_)
  clear hP hD hS
  have hP : va_P (dC, dI) vwCl [(h0, .inr (9, [.ref h1, .int 6])), (h1, .inl (cB, 4000, .inl f_9))] H_10 := hP1
  have hD : va_D A [(h0, .inr (9, [.ref h1, .int 6])), (h1, .inl (cB, 4000, .inl f_9))] := hD1
  have hS := hS1
  clear hP1 hD1 hS1
  refine lv_iinc (v := 8) (lv' := [(2, .int 8), (0, .ref h0), (1, .int p0)]) hx hb dX9_take_40 hl (k := 0) rfl (by decide) (by decide) rfl (fun ls hl => ?_)
  refine lv_goto (tgt := 3) hx hb dX9_take_43 (by decide) ?_
  refine lv_iload_n hx hb dX9_take_3 rfl (lv_at hl 0 rfl) ?_
  refine lv_if_lt (tgt := 46) hx hb dX9_take_4 (by decide) (fun c_0 => absurd c_0 (by decide)) (fun _ => ?_)
  refine lv_aload_n hx hb dX9_take_7 rfl (lv_at hl 1 rfl) ?_
  refine va_get (D := (dC, dI)) (ci := 9) (v := .int 6) (C := RX9) (T := TX9) (N := 2) hx hb hts i_kX9_take_v1_X9 hown hK hP 0 rfl rfl 1 (by decide) (hts (Cond.fieldLink RX9 15 "CompiledHouse$Tape" "count" "I") (List.mem_cons_of_mem _ (List.mem_append_left _ (List.mem_of_getElem? (i := 0) rfl)))) (fun _ h9 => h9) rfl dX9_take_8 ?_
  refine lv_sipush (v := 4000) hx hb dX9_take_11 (by decide) ?_
  refine lv_icmp_ge (tgt := 46) hx hb dX9_take_14 (by decide) (fun c_0 => absurd c_0 (by decide)) (fun _ => ?_)
  refine lv_aload_n hx hb dX9_take_17 rfl (lv_at hl 1 rfl) ?_
  refine va_get (D := (dC, dI)) (ci := 9) (v := .ref h1) (C := RX9) (T := TX9) (N := 2) hx hb hts i_kX9_take_v1_X9 hown hK hP 0 rfl rfl 0 (by decide) (hts (Cond.fieldLink RX9 9 "CompiledHouse$Tape" "bytes" "[B") (List.mem_cons_of_mem _ (List.mem_append_left _ (List.mem_of_getElem? (i := 1) rfl)))) (fun _ h9 => h9) rfl dX9_take_18 ?_
  refine lv_aload_n hx hb dX9_take_21 rfl (lv_at hl 1 rfl) ?_
  refine va_get (D := (dC, dI)) (ci := 9) (v := .int 6) (C := RX9) (T := TX9) (N := 2) hx hb hts i_kX9_take_v1_X9 hown hK hP 0 rfl rfl 1 (by decide) (hts (Cond.fieldLink RX9 15 "CompiledHouse$Tape" "count" "I") (List.mem_cons_of_mem _ (List.mem_append_left _ (List.mem_of_getElem? (i := 0) rfl)))) (fun _ h9 => h9) rfl dX9_take_22 ?_
  refine lv_iload_n hx hb dX9_take_25 rfl (lv_at hl 2 rfl) ?_
  refine lv_iload_n hx hb dX9_take_26 rfl (lv_at hl 0 rfl) ?_
  refine lv_iushr hx hb dX9_take_27 rfl ?_
  refine lv_topi (fun x_11 ex_11 => ?_)
  refine lv_i2b hx hb dX9_take_28 rfl ?_
  refine lv_topi (fun x_12 ex_12 => ?_)
  refine my_bast hx hb hK hP hD hS 1 1 rfl rfl (my_in (by decide)) dX9_take_29 (fun f_14 H_13 locs hP1 hD1 hS1 => ?_)
  clear hP hD hS
  have hP : va_P (dC, dI) vwCl [(h0, .inr (9, [.ref h1, .int 6])), (h1, .inl (cB, 4000, .inl f_14))] H_13 := hP1
  have hD : va_D A [(h0, .inr (9, [.ref h1, .int 6])), (h1, .inl (cB, 4000, .inl f_14))] := hD1
  have hS := hS1
  clear hP1 hD1 hS1
  refine lv_aload_n hx hb dX9_take_30 rfl (lv_at hl 1 rfl) ?_
  refine lv_dup hx hb dX9_take_31 rfl ?_
  refine va_get (D := (dC, dI)) (ci := 9) (v := .int 6) (C := RX9) (T := TX9) (N := 2) hx hb hts i_kX9_take_v1_X9 hown hK hP 0 rfl rfl 1 (by decide) (hts (Cond.fieldLink RX9 15 "CompiledHouse$Tape" "count" "I") (List.mem_cons_of_mem _ (List.mem_append_left _ (List.mem_of_getElem? (i := 0) rfl)))) (fun _ h9 => h9) rfl dX9_take_32 ?_
  refine lv_iconst (v := 1) hx hb dX9_take_35 (by decide) ?_
  refine lv_iadd hx hb dX9_take_36 ?_
  refine my_top 7 (by decide) ?_
  refine va_put (D := (dC, dI)) (ci := 9) (v := .int 7) (ty := .int) (C := RX9) (T := TX9) (N := 2) hx hb hts i_kX9_take_v1_X9 tyX9 tyX9_ok nmX9 hown hK hP hD hS 0 rfl rfl 1 (by decide) (hts (Cond.fieldLink RX9 15 "CompiledHouse$Tape" "count" "I") (List.mem_cons_of_mem _ (List.mem_append_left _ (List.mem_of_getElem? (i := 0) rfl)))) (fun _ h9 => h9) rfl (by decide +kernel) rfl rfl (Nat.le_of_ble_eq_true rfl) dX9_take_37 (fun H_15 locs hP1 hD1 hS1 => ?_)
  clear hP hD hS
  have hP : va_P (dC, dI) vwCl [(h0, .inr (9, [.ref h1, .int 7])), (h1, .inl (cB, 4000, .inl f_14))] H_15 := hP1
  have hD : va_D A [(h0, .inr (9, [.ref h1, .int 7])), (h1, .inl (cB, 4000, .inl f_14))] := hD1
  have hS := hS1
  clear hP1 hD1 hS1
  refine lv_iinc (v := 0) (lv' := [(2, .int 0), (0, .ref h0), (1, .int p0)]) hx hb dX9_take_40 hl (k := 0) rfl (by decide) (by decide) rfl (fun ls hl => ?_)
  refine lv_goto (tgt := 3) hx hb dX9_take_43 (by decide) ?_
  refine lv_iload_n hx hb dX9_take_3 rfl (lv_at hl 0 rfl) ?_
  refine lv_if_lt (tgt := 46) hx hb dX9_take_4 (by decide) (fun c_0 => absurd c_0 (by decide)) (fun _ => ?_)
  refine lv_aload_n hx hb dX9_take_7 rfl (lv_at hl 1 rfl) ?_
  refine va_get (D := (dC, dI)) (ci := 9) (v := .int 7) (C := RX9) (T := TX9) (N := 2) hx hb hts i_kX9_take_v1_X9 hown hK hP 0 rfl rfl 1 (by decide) (hts (Cond.fieldLink RX9 15 "CompiledHouse$Tape" "count" "I") (List.mem_cons_of_mem _ (List.mem_append_left _ (List.mem_of_getElem? (i := 0) rfl)))) (fun _ h9 => h9) rfl dX9_take_8 ?_
  refine lv_sipush (v := 4000) hx hb dX9_take_11 (by decide) ?_
  refine lv_icmp_ge (tgt := 46) hx hb dX9_take_14 (by decide) (fun c_0 => absurd c_0 (by decide)) (fun _ => ?_)
  refine lv_aload_n hx hb dX9_take_17 rfl (lv_at hl 1 rfl) ?_
  refine va_get (D := (dC, dI)) (ci := 9) (v := .ref h1) (C := RX9) (T := TX9) (N := 2) hx hb hts i_kX9_take_v1_X9 hown hK hP 0 rfl rfl 0 (by decide) (hts (Cond.fieldLink RX9 9 "CompiledHouse$Tape" "bytes" "[B") (List.mem_cons_of_mem _ (List.mem_append_left _ (List.mem_of_getElem? (i := 1) rfl)))) (fun _ h9 => h9) rfl dX9_take_18 ?_
  refine lv_aload_n hx hb dX9_take_21 rfl (lv_at hl 1 rfl) ?_
  refine va_get (D := (dC, dI)) (ci := 9) (v := .int 7) (C := RX9) (T := TX9) (N := 2) hx hb hts i_kX9_take_v1_X9 hown hK hP 0 rfl rfl 1 (by decide) (hts (Cond.fieldLink RX9 15 "CompiledHouse$Tape" "count" "I") (List.mem_cons_of_mem _ (List.mem_append_left _ (List.mem_of_getElem? (i := 0) rfl)))) (fun _ h9 => h9) rfl dX9_take_22 ?_
  refine lv_iload_n hx hb dX9_take_25 rfl (lv_at hl 2 rfl) ?_
  refine lv_iload_n hx hb dX9_take_26 rfl (lv_at hl 0 rfl) ?_
  refine lv_iushr hx hb dX9_take_27 rfl ?_
  refine lv_topi (fun x_16 ex_16 => ?_)
  refine lv_i2b hx hb dX9_take_28 rfl ?_
  refine lv_topi (fun x_17 ex_17 => ?_)
  refine my_bast hx hb hK hP hD hS 1 1 rfl rfl (my_in (by decide)) dX9_take_29 (fun f_19 H_18 locs hP1 hD1 hS1 => ?_)
  clear hP hD hS
  have hP : va_P (dC, dI) vwCl [(h0, .inr (9, [.ref h1, .int 7])), (h1, .inl (cB, 4000, .inl f_19))] H_18 := hP1
  have hD : va_D A [(h0, .inr (9, [.ref h1, .int 7])), (h1, .inl (cB, 4000, .inl f_19))] := hD1
  have hS := hS1
  clear hP1 hD1 hS1
  refine lv_aload_n hx hb dX9_take_30 rfl (lv_at hl 1 rfl) ?_
  refine lv_dup hx hb dX9_take_31 rfl ?_
  refine va_get (D := (dC, dI)) (ci := 9) (v := .int 7) (C := RX9) (T := TX9) (N := 2) hx hb hts i_kX9_take_v1_X9 hown hK hP 0 rfl rfl 1 (by decide) (hts (Cond.fieldLink RX9 15 "CompiledHouse$Tape" "count" "I") (List.mem_cons_of_mem _ (List.mem_append_left _ (List.mem_of_getElem? (i := 0) rfl)))) (fun _ h9 => h9) rfl dX9_take_32 ?_
  refine lv_iconst (v := 1) hx hb dX9_take_35 (by decide) ?_
  refine lv_iadd hx hb dX9_take_36 ?_
  refine my_top 8 (by decide) ?_
  refine va_put (D := (dC, dI)) (ci := 9) (v := .int 8) (ty := .int) (C := RX9) (T := TX9) (N := 2) hx hb hts i_kX9_take_v1_X9 tyX9 tyX9_ok nmX9 hown hK hP hD hS 0 rfl rfl 1 (by decide) (hts (Cond.fieldLink RX9 15 "CompiledHouse$Tape" "count" "I") (List.mem_cons_of_mem _ (List.mem_append_left _ (List.mem_of_getElem? (i := 0) rfl)))) (fun _ h9 => h9) rfl (by decide +kernel) rfl rfl (Nat.le_of_ble_eq_true rfl) dX9_take_37 (fun H_20 locs hP1 hD1 hS1 => ?_)
  clear hP hD hS
  have hP : va_P (dC, dI) vwCl [(h0, .inr (9, [.ref h1, .int 8])), (h1, .inl (cB, 4000, .inl f_19))] H_20 := hP1
  have hD : va_D A [(h0, .inr (9, [.ref h1, .int 8])), (h1, .inl (cB, 4000, .inl f_19))] := hD1
  have hS := hS1
  clear hP1 hD1 hS1
  refine lv_iinc (v := (-8)) (lv' := [(2, .int (-8)), (0, .ref h0), (1, .int p0)]) hx hb dX9_take_40 hl (k := 0) rfl (by decide) (by decide) rfl (fun ls hl => ?_)
  refine lv_goto (tgt := 3) hx hb dX9_take_43 (by decide) ?_
  refine lv_iload_n hx hb dX9_take_3 rfl (lv_at hl 0 rfl) ?_
  refine lv_if_lt (tgt := 46) hx hb dX9_take_4 (by decide) (fun _ => ?_) (fun c_0 => absurd (by decide) c_0)
  have hP9 := hP.sub (ws' := [(h0, .inr (9, [.ref h1, .int 8])), (h1, .inl (cB, 4000, .inl f_19))]) [0, 1] rfl
  have hD9 := hD.sub (ws' := [(h0, .inr (9, [.ref h1, .int 8])), (h1, .inl (cB, 4000, .inl f_19))]) [0, 1] (by decide) rfl
  refine W.widen (k := 0) (n := 0) (by decide) (by decide) ?_
  exact W.vret hx hb hr (fun t ht hW => ⟨⟨(), rfl, trivial, f_19, by rw [ht]; exact hP9, va_K.moved hW.alike hK, hD9⟩, hS.F ht⟩) hS.2.2 dX9_take_46
def vs_kX9_take_v2 : List Cond := Cond.code yX9_take cX9_take 3 none :: (([Cond.fieldLink RX9 15 "CompiledHouse$Tape" "count" "I", Cond.fieldLink RX9 9 "CompiledHouse$Tape" "bytes" "[B"] : List Cond) ++ (wsX90))
theorem i_kX9_take_v2_X9 : ∀ w ∈ wsX90, w ∈ vs_kX9_take_v2 := fun w h => List.mem_cons_of_mem _ (List.mem_append_right _ h)
set_option maxHeartbeats 4000000 in
set_option maxRecDepth 100000 in
theorem kX9_take_v2 (l : Launch) (dC : Nat → ClassId) (dI : Nat → Nat → Nat) (cI cB cZ : ClassId) (h0 : Nat) (h1 : Nat) (sz : Nat) (f0 : Nat → Int32) (p0 : Int32) : Met l yX9_take vs_kX9_take_v2 ({ frames := 0, cells := 0, slots := 0, locals := 0 }) (va_Pc [.ref h0, .int p0] (fun U => U.heap.size = sz ∧ va_P (dC, dI) vwCl [(h0, .inr (9, [.ref h1, .int 8])), (h1, .inl (cB, 4000, .inl f0))] U.heap ∧ va_K (dC, dI) vwCl (ty3 cI cB cZ) U ∧ va_D (fun _ => True) [(h0, .inr (9, [.ref h1, .int 8])), (h1, .inl (cB, 4000, .inl f0))])) (va_Qv (fun _ : Unit => True) (fun (_ : Unit) (t : State) => ∃ (k0 : Nat → Int32), va_P (dC, dI) vwCl [(h0, .inr (9, [.ref h1, .int 12])), (h1, .inl (cB, 4000, .inl k0))] t.heap ∧ va_K (dC, dI) vwCl (ty3 cI cB cZ) t ∧ va_D (va_A [(h0, .inr (9, [.ref h1, .int 8])), (h1, .inl (cB, 4000, .inl f0))] sz) [(h0, .inr (9, [.ref h1, .int 12])), (h1, .inl (cB, 4000, .inl k0))]) (va_A [(h0, .inr (9, [.ref h1, .int 8])), (h1, .inl (cB, 4000, .inl f0))] sz)) 0 0 (va_A [(h0, .inr (9, [.ref h1, .int 8])), (h1, .inl (cB, 4000, .inl f0))] sz) := by
  refine Met.ofW (cc := cX9_take) (maxL := 3) (ret := none) (by decide) rfl ?_
  intro p e s m args below meth c s₁ B hml hv
  obtain ⟨rfl, hsz, hP, hK, hD0⟩ := hv
  have hx := B.exec
  have hb := B.bytes
  have hr := B.returns
  have hts := atoms_spec (ws := vs_kX9_take_v2) B.pre
  have hown : s.vm.findClass RX9 = some m.cls := findClass_of_methodNamed B.named
  have hlocks := B.notSynchronized
  subst hsz
  have hD := hD0.self (sz := s.heap.size)
  clear hD0
  generalize hAe : va_A [(h0, .inr (9, [.ref h1, .int 8])), (h1, .inl (cB, 4000, .inl f0))] s.heap.size = A at hD ⊢
  have hA : ∀ q : Nat, s.heap.size ≤ q → A q := fun q h => by rw [← hAe]; exact Or.inr h
  clear hAe
  have hS : va_S A s.heap s.heap [] := va_S.rf
  have hl := lv_entry ([.ref h0, .int p0]) (n := 3) (Nat.le_of_ble_eq_true rfl)
  rw [lg_entry_eq]
  generalize (lg_sl ([.ref h0, .int p0]) ++ List.replicate (3 - (lg_sl ([.ref h0, .int p0])).length) Slot.unset).toArray = ls at hl ⊢
  replace hl : lv_has ls 3 [(0, .ref h0), (1, .int p0)] := hl
  refine my_st (fun H locs eH el => ?_)
  replace hP : va_P (dC, dI) vwCl [(h0, .inr (9, [.ref h1, .int 8])), (h1, .inl (cB, 4000, .inl f0))] H := by rw [eH]; exact hP
  replace hS : va_S A s.heap H locs := by rw [eH, el]; exact hS
  clear eH el
  refine lv_bipush (v := 24) hx hb dX9_take_0 (by decide) ?_
  refine lv_istore_n (lv' := [(2, .int 24), (0, .ref h0), (1, .int p0)]) hx hb dX9_take_2 rfl hl (by decide) rfl (fun ls hl => ?_)
  refine lv_iload_n hx hb dX9_take_3 rfl (lv_at hl 0 rfl) ?_
  refine lv_if_lt (tgt := 46) hx hb dX9_take_4 (by decide) (fun c_0 => absurd c_0 (by decide)) (fun _ => ?_)
  refine lv_aload_n hx hb dX9_take_7 rfl (lv_at hl 1 rfl) ?_
  refine va_get (D := (dC, dI)) (ci := 9) (v := .int 8) (C := RX9) (T := TX9) (N := 2) hx hb hts i_kX9_take_v2_X9 hown hK hP 0 rfl rfl 1 (by decide) (hts (Cond.fieldLink RX9 15 "CompiledHouse$Tape" "count" "I") (List.mem_cons_of_mem _ (List.mem_append_left _ (List.mem_of_getElem? (i := 0) rfl)))) (fun _ h9 => h9) rfl dX9_take_8 ?_
  refine lv_sipush (v := 4000) hx hb dX9_take_11 (by decide) ?_
  refine lv_icmp_ge (tgt := 46) hx hb dX9_take_14 (by decide) (fun c_0 => absurd c_0 (by decide)) (fun _ => ?_)
  refine lv_aload_n hx hb dX9_take_17 rfl (lv_at hl 1 rfl) ?_
  refine va_get (D := (dC, dI)) (ci := 9) (v := .ref h1) (C := RX9) (T := TX9) (N := 2) hx hb hts i_kX9_take_v2_X9 hown hK hP 0 rfl rfl 0 (by decide) (hts (Cond.fieldLink RX9 9 "CompiledHouse$Tape" "bytes" "[B") (List.mem_cons_of_mem _ (List.mem_append_left _ (List.mem_of_getElem? (i := 1) rfl)))) (fun _ h9 => h9) rfl dX9_take_18 ?_
  refine lv_aload_n hx hb dX9_take_21 rfl (lv_at hl 1 rfl) ?_
  refine va_get (D := (dC, dI)) (ci := 9) (v := .int 8) (C := RX9) (T := TX9) (N := 2) hx hb hts i_kX9_take_v2_X9 hown hK hP 0 rfl rfl 1 (by decide) (hts (Cond.fieldLink RX9 15 "CompiledHouse$Tape" "count" "I") (List.mem_cons_of_mem _ (List.mem_append_left _ (List.mem_of_getElem? (i := 0) rfl)))) (fun _ h9 => h9) rfl dX9_take_22 ?_
  refine lv_iload_n hx hb dX9_take_25 rfl (lv_at hl 2 rfl) ?_
  refine lv_iload_n hx hb dX9_take_26 rfl (lv_at hl 0 rfl) ?_
  refine lv_iushr hx hb dX9_take_27 rfl ?_
  refine lv_topi (fun x_1 ex_1 => ?_)
  refine lv_i2b hx hb dX9_take_28 rfl ?_
  refine lv_topi (fun x_2 ex_2 => ?_)
  refine my_bast hx hb hK hP hD hS 1 1 rfl rfl (my_in (by decide)) dX9_take_29 (fun f_4 H_3 locs hP1 hD1 hS1 => ?_)
  clear hP hD hS
  have hP : va_P (dC, dI) vwCl [(h0, .inr (9, [.ref h1, .int 8])), (h1, .inl (cB, 4000, .inl f_4))] H_3 := hP1
  have hD : va_D A [(h0, .inr (9, [.ref h1, .int 8])), (h1, .inl (cB, 4000, .inl f_4))] := hD1
  have hS := hS1
  clear hP1 hD1 hS1
  refine lv_aload_n hx hb dX9_take_30 rfl (lv_at hl 1 rfl) ?_
  refine lv_dup hx hb dX9_take_31 rfl ?_
  refine va_get (D := (dC, dI)) (ci := 9) (v := .int 8) (C := RX9) (T := TX9) (N := 2) hx hb hts i_kX9_take_v2_X9 hown hK hP 0 rfl rfl 1 (by decide) (hts (Cond.fieldLink RX9 15 "CompiledHouse$Tape" "count" "I") (List.mem_cons_of_mem _ (List.mem_append_left _ (List.mem_of_getElem? (i := 0) rfl)))) (fun _ h9 => h9) rfl dX9_take_32 ?_
  refine lv_iconst (v := 1) hx hb dX9_take_35 (by decide) ?_
  refine lv_iadd hx hb dX9_take_36 ?_
  refine my_top 9 (by decide) ?_
  refine va_put (D := (dC, dI)) (ci := 9) (v := .int 9) (ty := .int) (C := RX9) (T := TX9) (N := 2) hx hb hts i_kX9_take_v2_X9 tyX9 tyX9_ok nmX9 hown hK hP hD hS 0 rfl rfl 1 (by decide) (hts (Cond.fieldLink RX9 15 "CompiledHouse$Tape" "count" "I") (List.mem_cons_of_mem _ (List.mem_append_left _ (List.mem_of_getElem? (i := 0) rfl)))) (fun _ h9 => h9) rfl (by decide +kernel) rfl rfl (Nat.le_of_ble_eq_true rfl) dX9_take_37 (fun H_5 locs hP1 hD1 hS1 => ?_)
  clear hP hD hS
  have hP : va_P (dC, dI) vwCl [(h0, .inr (9, [.ref h1, .int 9])), (h1, .inl (cB, 4000, .inl f_4))] H_5 := hP1
  have hD : va_D A [(h0, .inr (9, [.ref h1, .int 9])), (h1, .inl (cB, 4000, .inl f_4))] := hD1
  have hS := hS1
  clear hP1 hD1 hS1
  refine lv_iinc (v := 16) (lv' := [(2, .int 16), (0, .ref h0), (1, .int p0)]) hx hb dX9_take_40 hl (k := 0) rfl (by decide) (by decide) rfl (fun ls hl => ?_)
  refine lv_goto (tgt := 3) hx hb dX9_take_43 (by decide) ?_
  refine lv_iload_n hx hb dX9_take_3 rfl (lv_at hl 0 rfl) ?_
  refine lv_if_lt (tgt := 46) hx hb dX9_take_4 (by decide) (fun c_0 => absurd c_0 (by decide)) (fun _ => ?_)
  refine lv_aload_n hx hb dX9_take_7 rfl (lv_at hl 1 rfl) ?_
  refine va_get (D := (dC, dI)) (ci := 9) (v := .int 9) (C := RX9) (T := TX9) (N := 2) hx hb hts i_kX9_take_v2_X9 hown hK hP 0 rfl rfl 1 (by decide) (hts (Cond.fieldLink RX9 15 "CompiledHouse$Tape" "count" "I") (List.mem_cons_of_mem _ (List.mem_append_left _ (List.mem_of_getElem? (i := 0) rfl)))) (fun _ h9 => h9) rfl dX9_take_8 ?_
  refine lv_sipush (v := 4000) hx hb dX9_take_11 (by decide) ?_
  refine lv_icmp_ge (tgt := 46) hx hb dX9_take_14 (by decide) (fun c_0 => absurd c_0 (by decide)) (fun _ => ?_)
  refine lv_aload_n hx hb dX9_take_17 rfl (lv_at hl 1 rfl) ?_
  refine va_get (D := (dC, dI)) (ci := 9) (v := .ref h1) (C := RX9) (T := TX9) (N := 2) hx hb hts i_kX9_take_v2_X9 hown hK hP 0 rfl rfl 0 (by decide) (hts (Cond.fieldLink RX9 9 "CompiledHouse$Tape" "bytes" "[B") (List.mem_cons_of_mem _ (List.mem_append_left _ (List.mem_of_getElem? (i := 1) rfl)))) (fun _ h9 => h9) rfl dX9_take_18 ?_
  refine lv_aload_n hx hb dX9_take_21 rfl (lv_at hl 1 rfl) ?_
  refine va_get (D := (dC, dI)) (ci := 9) (v := .int 9) (C := RX9) (T := TX9) (N := 2) hx hb hts i_kX9_take_v2_X9 hown hK hP 0 rfl rfl 1 (by decide) (hts (Cond.fieldLink RX9 15 "CompiledHouse$Tape" "count" "I") (List.mem_cons_of_mem _ (List.mem_append_left _ (List.mem_of_getElem? (i := 0) rfl)))) (fun _ h9 => h9) rfl dX9_take_22 ?_
  refine lv_iload_n hx hb dX9_take_25 rfl (lv_at hl 2 rfl) ?_
  refine lv_iload_n hx hb dX9_take_26 rfl (lv_at hl 0 rfl) ?_
  refine lv_iushr hx hb dX9_take_27 rfl ?_
  refine lv_topi (fun x_6 ex_6 => ?_)
  refine lv_i2b hx hb dX9_take_28 rfl ?_
  refine lv_topi (fun x_7 ex_7 => ?_)
  refine my_bast hx hb hK hP hD hS 1 1 rfl rfl (my_in (by decide)) dX9_take_29 (fun f_9 H_8 locs hP1 hD1 hS1 => ?_)
  clear hP hD hS
  have hP : va_P (dC, dI) vwCl [(h0, .inr (9, [.ref h1, .int 9])), (h1, .inl (cB, 4000, .inl f_9))] H_8 := hP1
  have hD : va_D A [(h0, .inr (9, [.ref h1, .int 9])), (h1, .inl (cB, 4000, .inl f_9))] := hD1
  have hS := hS1
  clear hP1 hD1 hS1
  refine lv_aload_n hx hb dX9_take_30 rfl (lv_at hl 1 rfl) ?_
  refine lv_dup hx hb dX9_take_31 rfl ?_
  refine va_get (D := (dC, dI)) (ci := 9) (v := .int 9) (C := RX9) (T := TX9) (N := 2) hx hb hts i_kX9_take_v2_X9 hown hK hP 0 rfl rfl 1 (by decide) (hts (Cond.fieldLink RX9 15 "CompiledHouse$Tape" "count" "I") (List.mem_cons_of_mem _ (List.mem_append_left _ (List.mem_of_getElem? (i := 0) rfl)))) (fun _ h9 => h9) rfl dX9_take_32 ?_
  refine lv_iconst (v := 1) hx hb dX9_take_35 (by decide) ?_
  refine lv_iadd hx hb dX9_take_36 ?_
  refine my_top 10 (by decide) ?_
  refine va_put (D := (dC, dI)) (ci := 9) (v := .int 10) (ty := .int) (C := RX9) (T := TX9) (N := 2) hx hb hts i_kX9_take_v2_X9 tyX9 tyX9_ok nmX9 hown hK hP hD hS 0 rfl rfl 1 (by decide) (hts (Cond.fieldLink RX9 15 "CompiledHouse$Tape" "count" "I") (List.mem_cons_of_mem _ (List.mem_append_left _ (List.mem_of_getElem? (i := 0) rfl)))) (fun _ h9 => h9) rfl (by decide +kernel) rfl rfl (Nat.le_of_ble_eq_true rfl) dX9_take_37 (fun H_10 locs hP1 hD1 hS1 => ?_)
  clear hP hD hS
  have hP : va_P (dC, dI) vwCl [(h0, .inr (9, [.ref h1, .int 10])), (h1, .inl (cB, 4000, .inl f_9))] H_10 := hP1
  have hD : va_D A [(h0, .inr (9, [.ref h1, .int 10])), (h1, .inl (cB, 4000, .inl f_9))] := hD1
  have hS := hS1
  clear hP1 hD1 hS1
  refine lv_iinc (v := 8) (lv' := [(2, .int 8), (0, .ref h0), (1, .int p0)]) hx hb dX9_take_40 hl (k := 0) rfl (by decide) (by decide) rfl (fun ls hl => ?_)
  refine lv_goto (tgt := 3) hx hb dX9_take_43 (by decide) ?_
  refine lv_iload_n hx hb dX9_take_3 rfl (lv_at hl 0 rfl) ?_
  refine lv_if_lt (tgt := 46) hx hb dX9_take_4 (by decide) (fun c_0 => absurd c_0 (by decide)) (fun _ => ?_)
  refine lv_aload_n hx hb dX9_take_7 rfl (lv_at hl 1 rfl) ?_
  refine va_get (D := (dC, dI)) (ci := 9) (v := .int 10) (C := RX9) (T := TX9) (N := 2) hx hb hts i_kX9_take_v2_X9 hown hK hP 0 rfl rfl 1 (by decide) (hts (Cond.fieldLink RX9 15 "CompiledHouse$Tape" "count" "I") (List.mem_cons_of_mem _ (List.mem_append_left _ (List.mem_of_getElem? (i := 0) rfl)))) (fun _ h9 => h9) rfl dX9_take_8 ?_
  refine lv_sipush (v := 4000) hx hb dX9_take_11 (by decide) ?_
  refine lv_icmp_ge (tgt := 46) hx hb dX9_take_14 (by decide) (fun c_0 => absurd c_0 (by decide)) (fun _ => ?_)
  refine lv_aload_n hx hb dX9_take_17 rfl (lv_at hl 1 rfl) ?_
  refine va_get (D := (dC, dI)) (ci := 9) (v := .ref h1) (C := RX9) (T := TX9) (N := 2) hx hb hts i_kX9_take_v2_X9 hown hK hP 0 rfl rfl 0 (by decide) (hts (Cond.fieldLink RX9 9 "CompiledHouse$Tape" "bytes" "[B") (List.mem_cons_of_mem _ (List.mem_append_left _ (List.mem_of_getElem? (i := 1) rfl)))) (fun _ h9 => h9) rfl dX9_take_18 ?_
  refine lv_aload_n hx hb dX9_take_21 rfl (lv_at hl 1 rfl) ?_
  refine va_get (D := (dC, dI)) (ci := 9) (v := .int 10) (C := RX9) (T := TX9) (N := 2) hx hb hts i_kX9_take_v2_X9 hown hK hP 0 rfl rfl 1 (by decide) (hts (Cond.fieldLink RX9 15 "CompiledHouse$Tape" "count" "I") (List.mem_cons_of_mem _ (List.mem_append_left _ (List.mem_of_getElem? (i := 0) rfl)))) (fun _ h9 => h9) rfl dX9_take_22 ?_
  refine lv_iload_n hx hb dX9_take_25 rfl (lv_at hl 2 rfl) ?_
  refine lv_iload_n hx hb dX9_take_26 rfl (lv_at hl 0 rfl) ?_
  refine lv_iushr hx hb dX9_take_27 rfl ?_
  refine lv_topi (fun x_11 ex_11 => ?_)
  refine lv_i2b hx hb dX9_take_28 rfl ?_
  refine lv_topi (fun x_12 ex_12 => ?_)
  refine my_bast hx hb hK hP hD hS 1 1 rfl rfl (my_in (by decide)) dX9_take_29 (fun f_14 H_13 locs hP1 hD1 hS1 => ?_)
  clear hP hD hS
  have hP : va_P (dC, dI) vwCl [(h0, .inr (9, [.ref h1, .int 10])), (h1, .inl (cB, 4000, .inl f_14))] H_13 := hP1
  have hD : va_D A [(h0, .inr (9, [.ref h1, .int 10])), (h1, .inl (cB, 4000, .inl f_14))] := hD1
  have hS := hS1
  clear hP1 hD1 hS1
  refine lv_aload_n hx hb dX9_take_30 rfl (lv_at hl 1 rfl) ?_
  refine lv_dup hx hb dX9_take_31 rfl ?_
  refine va_get (D := (dC, dI)) (ci := 9) (v := .int 10) (C := RX9) (T := TX9) (N := 2) hx hb hts i_kX9_take_v2_X9 hown hK hP 0 rfl rfl 1 (by decide) (hts (Cond.fieldLink RX9 15 "CompiledHouse$Tape" "count" "I") (List.mem_cons_of_mem _ (List.mem_append_left _ (List.mem_of_getElem? (i := 0) rfl)))) (fun _ h9 => h9) rfl dX9_take_32 ?_
  refine lv_iconst (v := 1) hx hb dX9_take_35 (by decide) ?_
  refine lv_iadd hx hb dX9_take_36 ?_
  refine my_top 11 (by decide) ?_
  refine va_put (D := (dC, dI)) (ci := 9) (v := .int 11) (ty := .int) (C := RX9) (T := TX9) (N := 2) hx hb hts i_kX9_take_v2_X9 tyX9 tyX9_ok nmX9 hown hK hP hD hS 0 rfl rfl 1 (by decide) (hts (Cond.fieldLink RX9 15 "CompiledHouse$Tape" "count" "I") (List.mem_cons_of_mem _ (List.mem_append_left _ (List.mem_of_getElem? (i := 0) rfl)))) (fun _ h9 => h9) rfl (by decide +kernel) rfl rfl (Nat.le_of_ble_eq_true rfl) dX9_take_37 (fun H_15 locs hP1 hD1 hS1 => ?_)
  clear hP hD hS
  have hP : va_P (dC, dI) vwCl [(h0, .inr (9, [.ref h1, .int 11])), (h1, .inl (cB, 4000, .inl f_14))] H_15 := hP1
  have hD : va_D A [(h0, .inr (9, [.ref h1, .int 11])), (h1, .inl (cB, 4000, .inl f_14))] := hD1
  have hS := hS1
  clear hP1 hD1 hS1
  refine lv_iinc (v := 0) (lv' := [(2, .int 0), (0, .ref h0), (1, .int p0)]) hx hb dX9_take_40 hl (k := 0) rfl (by decide) (by decide) rfl (fun ls hl => ?_)
  refine lv_goto (tgt := 3) hx hb dX9_take_43 (by decide) ?_
  refine lv_iload_n hx hb dX9_take_3 rfl (lv_at hl 0 rfl) ?_
  refine lv_if_lt (tgt := 46) hx hb dX9_take_4 (by decide) (fun c_0 => absurd c_0 (by decide)) (fun _ => ?_)
  refine lv_aload_n hx hb dX9_take_7 rfl (lv_at hl 1 rfl) ?_
  refine va_get (D := (dC, dI)) (ci := 9) (v := .int 11) (C := RX9) (T := TX9) (N := 2) hx hb hts i_kX9_take_v2_X9 hown hK hP 0 rfl rfl 1 (by decide) (hts (Cond.fieldLink RX9 15 "CompiledHouse$Tape" "count" "I") (List.mem_cons_of_mem _ (List.mem_append_left _ (List.mem_of_getElem? (i := 0) rfl)))) (fun _ h9 => h9) rfl dX9_take_8 ?_
  refine lv_sipush (v := 4000) hx hb dX9_take_11 (by decide) ?_
  refine lv_icmp_ge (tgt := 46) hx hb dX9_take_14 (by decide) (fun c_0 => absurd c_0 (by decide)) (fun _ => ?_)
  refine lv_aload_n hx hb dX9_take_17 rfl (lv_at hl 1 rfl) ?_
  refine va_get (D := (dC, dI)) (ci := 9) (v := .ref h1) (C := RX9) (T := TX9) (N := 2) hx hb hts i_kX9_take_v2_X9 hown hK hP 0 rfl rfl 0 (by decide) (hts (Cond.fieldLink RX9 9 "CompiledHouse$Tape" "bytes" "[B") (List.mem_cons_of_mem _ (List.mem_append_left _ (List.mem_of_getElem? (i := 1) rfl)))) (fun _ h9 => h9) rfl dX9_take_18 ?_
  refine lv_aload_n hx hb dX9_take_21 rfl (lv_at hl 1 rfl) ?_
  refine va_get (D := (dC, dI)) (ci := 9) (v := .int 11) (C := RX9) (T := TX9) (N := 2) hx hb hts i_kX9_take_v2_X9 hown hK hP 0 rfl rfl 1 (by decide) (hts (Cond.fieldLink RX9 15 "CompiledHouse$Tape" "count" "I") (List.mem_cons_of_mem _ (List.mem_append_left _ (List.mem_of_getElem? (i := 0) rfl)))) (fun _ h9 => h9) rfl dX9_take_22 ?_
  refine lv_iload_n hx hb dX9_take_25 rfl (lv_at hl 2 rfl) ?_
  refine lv_iload_n hx hb dX9_take_26 rfl (lv_at hl 0 rfl) ?_
  refine lv_iushr hx hb dX9_take_27 rfl ?_
  refine lv_topi (fun x_16 ex_16 => ?_)
  refine lv_i2b hx hb dX9_take_28 rfl ?_
  refine lv_topi (fun x_17 ex_17 => ?_)
  refine my_bast hx hb hK hP hD hS 1 1 rfl rfl (my_in (by decide)) dX9_take_29 (fun f_19 H_18 locs hP1 hD1 hS1 => ?_)
  clear hP hD hS
  have hP : va_P (dC, dI) vwCl [(h0, .inr (9, [.ref h1, .int 11])), (h1, .inl (cB, 4000, .inl f_19))] H_18 := hP1
  have hD : va_D A [(h0, .inr (9, [.ref h1, .int 11])), (h1, .inl (cB, 4000, .inl f_19))] := hD1
  have hS := hS1
  clear hP1 hD1 hS1
  refine lv_aload_n hx hb dX9_take_30 rfl (lv_at hl 1 rfl) ?_
  refine lv_dup hx hb dX9_take_31 rfl ?_
  refine va_get (D := (dC, dI)) (ci := 9) (v := .int 11) (C := RX9) (T := TX9) (N := 2) hx hb hts i_kX9_take_v2_X9 hown hK hP 0 rfl rfl 1 (by decide) (hts (Cond.fieldLink RX9 15 "CompiledHouse$Tape" "count" "I") (List.mem_cons_of_mem _ (List.mem_append_left _ (List.mem_of_getElem? (i := 0) rfl)))) (fun _ h9 => h9) rfl dX9_take_32 ?_
  refine lv_iconst (v := 1) hx hb dX9_take_35 (by decide) ?_
  refine lv_iadd hx hb dX9_take_36 ?_
  refine my_top 12 (by decide) ?_
  refine va_put (D := (dC, dI)) (ci := 9) (v := .int 12) (ty := .int) (C := RX9) (T := TX9) (N := 2) hx hb hts i_kX9_take_v2_X9 tyX9 tyX9_ok nmX9 hown hK hP hD hS 0 rfl rfl 1 (by decide) (hts (Cond.fieldLink RX9 15 "CompiledHouse$Tape" "count" "I") (List.mem_cons_of_mem _ (List.mem_append_left _ (List.mem_of_getElem? (i := 0) rfl)))) (fun _ h9 => h9) rfl (by decide +kernel) rfl rfl (Nat.le_of_ble_eq_true rfl) dX9_take_37 (fun H_20 locs hP1 hD1 hS1 => ?_)
  clear hP hD hS
  have hP : va_P (dC, dI) vwCl [(h0, .inr (9, [.ref h1, .int 12])), (h1, .inl (cB, 4000, .inl f_19))] H_20 := hP1
  have hD : va_D A [(h0, .inr (9, [.ref h1, .int 12])), (h1, .inl (cB, 4000, .inl f_19))] := hD1
  have hS := hS1
  clear hP1 hD1 hS1
  refine lv_iinc (v := (-8)) (lv' := [(2, .int (-8)), (0, .ref h0), (1, .int p0)]) hx hb dX9_take_40 hl (k := 0) rfl (by decide) (by decide) rfl (fun ls hl => ?_)
  refine lv_goto (tgt := 3) hx hb dX9_take_43 (by decide) ?_
  refine lv_iload_n hx hb dX9_take_3 rfl (lv_at hl 0 rfl) ?_
  refine lv_if_lt (tgt := 46) hx hb dX9_take_4 (by decide) (fun _ => ?_) (fun c_0 => absurd (by decide) c_0)
  have hP9 := hP.sub (ws' := [(h0, .inr (9, [.ref h1, .int 12])), (h1, .inl (cB, 4000, .inl f_19))]) [0, 1] rfl
  have hD9 := hD.sub (ws' := [(h0, .inr (9, [.ref h1, .int 12])), (h1, .inl (cB, 4000, .inl f_19))]) [0, 1] (by decide) rfl
  refine W.widen (k := 0) (n := 0) (by decide) (by decide) ?_
  exact W.vret hx hb hr (fun t ht hW => ⟨⟨(), rfl, trivial, f_19, by rw [ht]; exact hP9, va_K.moved hW.alike hK, hD9⟩, hS.F ht⟩) hS.2.2 dX9_take_46
def vs_kX9_take_v3 : List Cond := Cond.code yX9_take cX9_take 3 none :: (([Cond.fieldLink RX9 15 "CompiledHouse$Tape" "count" "I", Cond.fieldLink RX9 9 "CompiledHouse$Tape" "bytes" "[B"] : List Cond) ++ (wsX90))
theorem i_kX9_take_v3_X9 : ∀ w ∈ wsX90, w ∈ vs_kX9_take_v3 := fun w h => List.mem_cons_of_mem _ (List.mem_append_right _ h)
set_option maxHeartbeats 4000000 in
set_option maxRecDepth 100000 in
theorem kX9_take_v3 (l : Launch) (dC : Nat → ClassId) (dI : Nat → Nat → Nat) (cI cB cZ : ClassId) (h0 : Nat) (h1 : Nat) (sz : Nat) (f0 : Nat → Int32) (p0 : Int32) : Met l yX9_take vs_kX9_take_v3 ({ frames := 0, cells := 0, slots := 0, locals := 0 }) (va_Pc [.ref h0, .int p0] (fun U => U.heap.size = sz ∧ va_P (dC, dI) vwCl [(h0, .inr (9, [.ref h1, .int 12])), (h1, .inl (cB, 4000, .inl f0))] U.heap ∧ va_K (dC, dI) vwCl (ty3 cI cB cZ) U ∧ va_D (fun _ => True) [(h0, .inr (9, [.ref h1, .int 12])), (h1, .inl (cB, 4000, .inl f0))])) (va_Qv (fun _ : Unit => True) (fun (_ : Unit) (t : State) => ∃ (k0 : Nat → Int32), va_P (dC, dI) vwCl [(h0, .inr (9, [.ref h1, .int 16])), (h1, .inl (cB, 4000, .inl k0))] t.heap ∧ va_K (dC, dI) vwCl (ty3 cI cB cZ) t ∧ va_D (va_A [(h0, .inr (9, [.ref h1, .int 12])), (h1, .inl (cB, 4000, .inl f0))] sz) [(h0, .inr (9, [.ref h1, .int 16])), (h1, .inl (cB, 4000, .inl k0))]) (va_A [(h0, .inr (9, [.ref h1, .int 12])), (h1, .inl (cB, 4000, .inl f0))] sz)) 0 0 (va_A [(h0, .inr (9, [.ref h1, .int 12])), (h1, .inl (cB, 4000, .inl f0))] sz) := by
  refine Met.ofW (cc := cX9_take) (maxL := 3) (ret := none) (by decide) rfl ?_
  intro p e s m args below meth c s₁ B hml hv
  obtain ⟨rfl, hsz, hP, hK, hD0⟩ := hv
  have hx := B.exec
  have hb := B.bytes
  have hr := B.returns
  have hts := atoms_spec (ws := vs_kX9_take_v3) B.pre
  have hown : s.vm.findClass RX9 = some m.cls := findClass_of_methodNamed B.named
  have hlocks := B.notSynchronized
  subst hsz
  have hD := hD0.self (sz := s.heap.size)
  clear hD0
  generalize hAe : va_A [(h0, .inr (9, [.ref h1, .int 12])), (h1, .inl (cB, 4000, .inl f0))] s.heap.size = A at hD ⊢
  have hA : ∀ q : Nat, s.heap.size ≤ q → A q := fun q h => by rw [← hAe]; exact Or.inr h
  clear hAe
  have hS : va_S A s.heap s.heap [] := va_S.rf
  have hl := lv_entry ([.ref h0, .int p0]) (n := 3) (Nat.le_of_ble_eq_true rfl)
  rw [lg_entry_eq]
  generalize (lg_sl ([.ref h0, .int p0]) ++ List.replicate (3 - (lg_sl ([.ref h0, .int p0])).length) Slot.unset).toArray = ls at hl ⊢
  replace hl : lv_has ls 3 [(0, .ref h0), (1, .int p0)] := hl
  refine my_st (fun H locs eH el => ?_)
  replace hP : va_P (dC, dI) vwCl [(h0, .inr (9, [.ref h1, .int 12])), (h1, .inl (cB, 4000, .inl f0))] H := by rw [eH]; exact hP
  replace hS : va_S A s.heap H locs := by rw [eH, el]; exact hS
  clear eH el
  refine lv_bipush (v := 24) hx hb dX9_take_0 (by decide) ?_
  refine lv_istore_n (lv' := [(2, .int 24), (0, .ref h0), (1, .int p0)]) hx hb dX9_take_2 rfl hl (by decide) rfl (fun ls hl => ?_)
  refine lv_iload_n hx hb dX9_take_3 rfl (lv_at hl 0 rfl) ?_
  refine lv_if_lt (tgt := 46) hx hb dX9_take_4 (by decide) (fun c_0 => absurd c_0 (by decide)) (fun _ => ?_)
  refine lv_aload_n hx hb dX9_take_7 rfl (lv_at hl 1 rfl) ?_
  refine va_get (D := (dC, dI)) (ci := 9) (v := .int 12) (C := RX9) (T := TX9) (N := 2) hx hb hts i_kX9_take_v3_X9 hown hK hP 0 rfl rfl 1 (by decide) (hts (Cond.fieldLink RX9 15 "CompiledHouse$Tape" "count" "I") (List.mem_cons_of_mem _ (List.mem_append_left _ (List.mem_of_getElem? (i := 0) rfl)))) (fun _ h9 => h9) rfl dX9_take_8 ?_
  refine lv_sipush (v := 4000) hx hb dX9_take_11 (by decide) ?_
  refine lv_icmp_ge (tgt := 46) hx hb dX9_take_14 (by decide) (fun c_0 => absurd c_0 (by decide)) (fun _ => ?_)
  refine lv_aload_n hx hb dX9_take_17 rfl (lv_at hl 1 rfl) ?_
  refine va_get (D := (dC, dI)) (ci := 9) (v := .ref h1) (C := RX9) (T := TX9) (N := 2) hx hb hts i_kX9_take_v3_X9 hown hK hP 0 rfl rfl 0 (by decide) (hts (Cond.fieldLink RX9 9 "CompiledHouse$Tape" "bytes" "[B") (List.mem_cons_of_mem _ (List.mem_append_left _ (List.mem_of_getElem? (i := 1) rfl)))) (fun _ h9 => h9) rfl dX9_take_18 ?_
  refine lv_aload_n hx hb dX9_take_21 rfl (lv_at hl 1 rfl) ?_
  refine va_get (D := (dC, dI)) (ci := 9) (v := .int 12) (C := RX9) (T := TX9) (N := 2) hx hb hts i_kX9_take_v3_X9 hown hK hP 0 rfl rfl 1 (by decide) (hts (Cond.fieldLink RX9 15 "CompiledHouse$Tape" "count" "I") (List.mem_cons_of_mem _ (List.mem_append_left _ (List.mem_of_getElem? (i := 0) rfl)))) (fun _ h9 => h9) rfl dX9_take_22 ?_
  refine lv_iload_n hx hb dX9_take_25 rfl (lv_at hl 2 rfl) ?_
  refine lv_iload_n hx hb dX9_take_26 rfl (lv_at hl 0 rfl) ?_
  refine lv_iushr hx hb dX9_take_27 rfl ?_
  refine lv_topi (fun x_1 ex_1 => ?_)
  refine lv_i2b hx hb dX9_take_28 rfl ?_
  refine lv_topi (fun x_2 ex_2 => ?_)
  refine my_bast hx hb hK hP hD hS 1 1 rfl rfl (my_in (by decide)) dX9_take_29 (fun f_4 H_3 locs hP1 hD1 hS1 => ?_)
  clear hP hD hS
  have hP : va_P (dC, dI) vwCl [(h0, .inr (9, [.ref h1, .int 12])), (h1, .inl (cB, 4000, .inl f_4))] H_3 := hP1
  have hD : va_D A [(h0, .inr (9, [.ref h1, .int 12])), (h1, .inl (cB, 4000, .inl f_4))] := hD1
  have hS := hS1
  clear hP1 hD1 hS1
  refine lv_aload_n hx hb dX9_take_30 rfl (lv_at hl 1 rfl) ?_
  refine lv_dup hx hb dX9_take_31 rfl ?_
  refine va_get (D := (dC, dI)) (ci := 9) (v := .int 12) (C := RX9) (T := TX9) (N := 2) hx hb hts i_kX9_take_v3_X9 hown hK hP 0 rfl rfl 1 (by decide) (hts (Cond.fieldLink RX9 15 "CompiledHouse$Tape" "count" "I") (List.mem_cons_of_mem _ (List.mem_append_left _ (List.mem_of_getElem? (i := 0) rfl)))) (fun _ h9 => h9) rfl dX9_take_32 ?_
  refine lv_iconst (v := 1) hx hb dX9_take_35 (by decide) ?_
  refine lv_iadd hx hb dX9_take_36 ?_
  refine my_top 13 (by decide) ?_
  refine va_put (D := (dC, dI)) (ci := 9) (v := .int 13) (ty := .int) (C := RX9) (T := TX9) (N := 2) hx hb hts i_kX9_take_v3_X9 tyX9 tyX9_ok nmX9 hown hK hP hD hS 0 rfl rfl 1 (by decide) (hts (Cond.fieldLink RX9 15 "CompiledHouse$Tape" "count" "I") (List.mem_cons_of_mem _ (List.mem_append_left _ (List.mem_of_getElem? (i := 0) rfl)))) (fun _ h9 => h9) rfl (by decide +kernel) rfl rfl (Nat.le_of_ble_eq_true rfl) dX9_take_37 (fun H_5 locs hP1 hD1 hS1 => ?_)
  clear hP hD hS
  have hP : va_P (dC, dI) vwCl [(h0, .inr (9, [.ref h1, .int 13])), (h1, .inl (cB, 4000, .inl f_4))] H_5 := hP1
  have hD : va_D A [(h0, .inr (9, [.ref h1, .int 13])), (h1, .inl (cB, 4000, .inl f_4))] := hD1
  have hS := hS1
  clear hP1 hD1 hS1
  refine lv_iinc (v := 16) (lv' := [(2, .int 16), (0, .ref h0), (1, .int p0)]) hx hb dX9_take_40 hl (k := 0) rfl (by decide) (by decide) rfl (fun ls hl => ?_)
  refine lv_goto (tgt := 3) hx hb dX9_take_43 (by decide) ?_
  refine lv_iload_n hx hb dX9_take_3 rfl (lv_at hl 0 rfl) ?_
  refine lv_if_lt (tgt := 46) hx hb dX9_take_4 (by decide) (fun c_0 => absurd c_0 (by decide)) (fun _ => ?_)
  refine lv_aload_n hx hb dX9_take_7 rfl (lv_at hl 1 rfl) ?_
  refine va_get (D := (dC, dI)) (ci := 9) (v := .int 13) (C := RX9) (T := TX9) (N := 2) hx hb hts i_kX9_take_v3_X9 hown hK hP 0 rfl rfl 1 (by decide) (hts (Cond.fieldLink RX9 15 "CompiledHouse$Tape" "count" "I") (List.mem_cons_of_mem _ (List.mem_append_left _ (List.mem_of_getElem? (i := 0) rfl)))) (fun _ h9 => h9) rfl dX9_take_8 ?_
  refine lv_sipush (v := 4000) hx hb dX9_take_11 (by decide) ?_
  refine lv_icmp_ge (tgt := 46) hx hb dX9_take_14 (by decide) (fun c_0 => absurd c_0 (by decide)) (fun _ => ?_)
  refine lv_aload_n hx hb dX9_take_17 rfl (lv_at hl 1 rfl) ?_
  refine va_get (D := (dC, dI)) (ci := 9) (v := .ref h1) (C := RX9) (T := TX9) (N := 2) hx hb hts i_kX9_take_v3_X9 hown hK hP 0 rfl rfl 0 (by decide) (hts (Cond.fieldLink RX9 9 "CompiledHouse$Tape" "bytes" "[B") (List.mem_cons_of_mem _ (List.mem_append_left _ (List.mem_of_getElem? (i := 1) rfl)))) (fun _ h9 => h9) rfl dX9_take_18 ?_
  refine lv_aload_n hx hb dX9_take_21 rfl (lv_at hl 1 rfl) ?_
  refine va_get (D := (dC, dI)) (ci := 9) (v := .int 13) (C := RX9) (T := TX9) (N := 2) hx hb hts i_kX9_take_v3_X9 hown hK hP 0 rfl rfl 1 (by decide) (hts (Cond.fieldLink RX9 15 "CompiledHouse$Tape" "count" "I") (List.mem_cons_of_mem _ (List.mem_append_left _ (List.mem_of_getElem? (i := 0) rfl)))) (fun _ h9 => h9) rfl dX9_take_22 ?_
  refine lv_iload_n hx hb dX9_take_25 rfl (lv_at hl 2 rfl) ?_
  refine lv_iload_n hx hb dX9_take_26 rfl (lv_at hl 0 rfl) ?_
  refine lv_iushr hx hb dX9_take_27 rfl ?_
  refine lv_topi (fun x_6 ex_6 => ?_)
  refine lv_i2b hx hb dX9_take_28 rfl ?_
  refine lv_topi (fun x_7 ex_7 => ?_)
  refine my_bast hx hb hK hP hD hS 1 1 rfl rfl (my_in (by decide)) dX9_take_29 (fun f_9 H_8 locs hP1 hD1 hS1 => ?_)
  clear hP hD hS
  have hP : va_P (dC, dI) vwCl [(h0, .inr (9, [.ref h1, .int 13])), (h1, .inl (cB, 4000, .inl f_9))] H_8 := hP1
  have hD : va_D A [(h0, .inr (9, [.ref h1, .int 13])), (h1, .inl (cB, 4000, .inl f_9))] := hD1
  have hS := hS1
  clear hP1 hD1 hS1
  refine lv_aload_n hx hb dX9_take_30 rfl (lv_at hl 1 rfl) ?_
  refine lv_dup hx hb dX9_take_31 rfl ?_
  refine va_get (D := (dC, dI)) (ci := 9) (v := .int 13) (C := RX9) (T := TX9) (N := 2) hx hb hts i_kX9_take_v3_X9 hown hK hP 0 rfl rfl 1 (by decide) (hts (Cond.fieldLink RX9 15 "CompiledHouse$Tape" "count" "I") (List.mem_cons_of_mem _ (List.mem_append_left _ (List.mem_of_getElem? (i := 0) rfl)))) (fun _ h9 => h9) rfl dX9_take_32 ?_
  refine lv_iconst (v := 1) hx hb dX9_take_35 (by decide) ?_
  refine lv_iadd hx hb dX9_take_36 ?_
  refine my_top 14 (by decide) ?_
  refine va_put (D := (dC, dI)) (ci := 9) (v := .int 14) (ty := .int) (C := RX9) (T := TX9) (N := 2) hx hb hts i_kX9_take_v3_X9 tyX9 tyX9_ok nmX9 hown hK hP hD hS 0 rfl rfl 1 (by decide) (hts (Cond.fieldLink RX9 15 "CompiledHouse$Tape" "count" "I") (List.mem_cons_of_mem _ (List.mem_append_left _ (List.mem_of_getElem? (i := 0) rfl)))) (fun _ h9 => h9) rfl (by decide +kernel) rfl rfl (Nat.le_of_ble_eq_true rfl) dX9_take_37 (fun H_10 locs hP1 hD1 hS1 => ?_)
  clear hP hD hS
  have hP : va_P (dC, dI) vwCl [(h0, .inr (9, [.ref h1, .int 14])), (h1, .inl (cB, 4000, .inl f_9))] H_10 := hP1
  have hD : va_D A [(h0, .inr (9, [.ref h1, .int 14])), (h1, .inl (cB, 4000, .inl f_9))] := hD1
  have hS := hS1
  clear hP1 hD1 hS1
  refine lv_iinc (v := 8) (lv' := [(2, .int 8), (0, .ref h0), (1, .int p0)]) hx hb dX9_take_40 hl (k := 0) rfl (by decide) (by decide) rfl (fun ls hl => ?_)
  refine lv_goto (tgt := 3) hx hb dX9_take_43 (by decide) ?_
  refine lv_iload_n hx hb dX9_take_3 rfl (lv_at hl 0 rfl) ?_
  refine lv_if_lt (tgt := 46) hx hb dX9_take_4 (by decide) (fun c_0 => absurd c_0 (by decide)) (fun _ => ?_)
  refine lv_aload_n hx hb dX9_take_7 rfl (lv_at hl 1 rfl) ?_
  refine va_get (D := (dC, dI)) (ci := 9) (v := .int 14) (C := RX9) (T := TX9) (N := 2) hx hb hts i_kX9_take_v3_X9 hown hK hP 0 rfl rfl 1 (by decide) (hts (Cond.fieldLink RX9 15 "CompiledHouse$Tape" "count" "I") (List.mem_cons_of_mem _ (List.mem_append_left _ (List.mem_of_getElem? (i := 0) rfl)))) (fun _ h9 => h9) rfl dX9_take_8 ?_
  refine lv_sipush (v := 4000) hx hb dX9_take_11 (by decide) ?_
  refine lv_icmp_ge (tgt := 46) hx hb dX9_take_14 (by decide) (fun c_0 => absurd c_0 (by decide)) (fun _ => ?_)
  refine lv_aload_n hx hb dX9_take_17 rfl (lv_at hl 1 rfl) ?_
  refine va_get (D := (dC, dI)) (ci := 9) (v := .ref h1) (C := RX9) (T := TX9) (N := 2) hx hb hts i_kX9_take_v3_X9 hown hK hP 0 rfl rfl 0 (by decide) (hts (Cond.fieldLink RX9 9 "CompiledHouse$Tape" "bytes" "[B") (List.mem_cons_of_mem _ (List.mem_append_left _ (List.mem_of_getElem? (i := 1) rfl)))) (fun _ h9 => h9) rfl dX9_take_18 ?_
  refine lv_aload_n hx hb dX9_take_21 rfl (lv_at hl 1 rfl) ?_
  refine va_get (D := (dC, dI)) (ci := 9) (v := .int 14) (C := RX9) (T := TX9) (N := 2) hx hb hts i_kX9_take_v3_X9 hown hK hP 0 rfl rfl 1 (by decide) (hts (Cond.fieldLink RX9 15 "CompiledHouse$Tape" "count" "I") (List.mem_cons_of_mem _ (List.mem_append_left _ (List.mem_of_getElem? (i := 0) rfl)))) (fun _ h9 => h9) rfl dX9_take_22 ?_
  refine lv_iload_n hx hb dX9_take_25 rfl (lv_at hl 2 rfl) ?_
  refine lv_iload_n hx hb dX9_take_26 rfl (lv_at hl 0 rfl) ?_
  refine lv_iushr hx hb dX9_take_27 rfl ?_
  refine lv_topi (fun x_11 ex_11 => ?_)
  refine lv_i2b hx hb dX9_take_28 rfl ?_
  refine lv_topi (fun x_12 ex_12 => ?_)
  refine my_bast hx hb hK hP hD hS 1 1 rfl rfl (my_in (by decide)) dX9_take_29 (fun f_14 H_13 locs hP1 hD1 hS1 => ?_)
  clear hP hD hS
  have hP : va_P (dC, dI) vwCl [(h0, .inr (9, [.ref h1, .int 14])), (h1, .inl (cB, 4000, .inl f_14))] H_13 := hP1
  have hD : va_D A [(h0, .inr (9, [.ref h1, .int 14])), (h1, .inl (cB, 4000, .inl f_14))] := hD1
  have hS := hS1
  clear hP1 hD1 hS1
  refine lv_aload_n hx hb dX9_take_30 rfl (lv_at hl 1 rfl) ?_
  refine lv_dup hx hb dX9_take_31 rfl ?_
  refine va_get (D := (dC, dI)) (ci := 9) (v := .int 14) (C := RX9) (T := TX9) (N := 2) hx hb hts i_kX9_take_v3_X9 hown hK hP 0 rfl rfl 1 (by decide) (hts (Cond.fieldLink RX9 15 "CompiledHouse$Tape" "count" "I") (List.mem_cons_of_mem _ (List.mem_append_left _ (List.mem_of_getElem? (i := 0) rfl)))) (fun _ h9 => h9) rfl dX9_take_32 ?_
  refine lv_iconst (v := 1) hx hb dX9_take_35 (by decide) ?_
  refine lv_iadd hx hb dX9_take_36 ?_
  refine my_top 15 (by decide) ?_
  refine va_put (D := (dC, dI)) (ci := 9) (v := .int 15) (ty := .int) (C := RX9) (T := TX9) (N := 2) hx hb hts i_kX9_take_v3_X9 tyX9 tyX9_ok nmX9 hown hK hP hD hS 0 rfl rfl 1 (by decide) (hts (Cond.fieldLink RX9 15 "CompiledHouse$Tape" "count" "I") (List.mem_cons_of_mem _ (List.mem_append_left _ (List.mem_of_getElem? (i := 0) rfl)))) (fun _ h9 => h9) rfl (by decide +kernel) rfl rfl (Nat.le_of_ble_eq_true rfl) dX9_take_37 (fun H_15 locs hP1 hD1 hS1 => ?_)
  clear hP hD hS
  have hP : va_P (dC, dI) vwCl [(h0, .inr (9, [.ref h1, .int 15])), (h1, .inl (cB, 4000, .inl f_14))] H_15 := hP1
  have hD : va_D A [(h0, .inr (9, [.ref h1, .int 15])), (h1, .inl (cB, 4000, .inl f_14))] := hD1
  have hS := hS1
  clear hP1 hD1 hS1
  refine lv_iinc (v := 0) (lv' := [(2, .int 0), (0, .ref h0), (1, .int p0)]) hx hb dX9_take_40 hl (k := 0) rfl (by decide) (by decide) rfl (fun ls hl => ?_)
  refine lv_goto (tgt := 3) hx hb dX9_take_43 (by decide) ?_
  refine lv_iload_n hx hb dX9_take_3 rfl (lv_at hl 0 rfl) ?_
  refine lv_if_lt (tgt := 46) hx hb dX9_take_4 (by decide) (fun c_0 => absurd c_0 (by decide)) (fun _ => ?_)
  refine lv_aload_n hx hb dX9_take_7 rfl (lv_at hl 1 rfl) ?_
  refine va_get (D := (dC, dI)) (ci := 9) (v := .int 15) (C := RX9) (T := TX9) (N := 2) hx hb hts i_kX9_take_v3_X9 hown hK hP 0 rfl rfl 1 (by decide) (hts (Cond.fieldLink RX9 15 "CompiledHouse$Tape" "count" "I") (List.mem_cons_of_mem _ (List.mem_append_left _ (List.mem_of_getElem? (i := 0) rfl)))) (fun _ h9 => h9) rfl dX9_take_8 ?_
  refine lv_sipush (v := 4000) hx hb dX9_take_11 (by decide) ?_
  refine lv_icmp_ge (tgt := 46) hx hb dX9_take_14 (by decide) (fun c_0 => absurd c_0 (by decide)) (fun _ => ?_)
  refine lv_aload_n hx hb dX9_take_17 rfl (lv_at hl 1 rfl) ?_
  refine va_get (D := (dC, dI)) (ci := 9) (v := .ref h1) (C := RX9) (T := TX9) (N := 2) hx hb hts i_kX9_take_v3_X9 hown hK hP 0 rfl rfl 0 (by decide) (hts (Cond.fieldLink RX9 9 "CompiledHouse$Tape" "bytes" "[B") (List.mem_cons_of_mem _ (List.mem_append_left _ (List.mem_of_getElem? (i := 1) rfl)))) (fun _ h9 => h9) rfl dX9_take_18 ?_
  refine lv_aload_n hx hb dX9_take_21 rfl (lv_at hl 1 rfl) ?_
  refine va_get (D := (dC, dI)) (ci := 9) (v := .int 15) (C := RX9) (T := TX9) (N := 2) hx hb hts i_kX9_take_v3_X9 hown hK hP 0 rfl rfl 1 (by decide) (hts (Cond.fieldLink RX9 15 "CompiledHouse$Tape" "count" "I") (List.mem_cons_of_mem _ (List.mem_append_left _ (List.mem_of_getElem? (i := 0) rfl)))) (fun _ h9 => h9) rfl dX9_take_22 ?_
  refine lv_iload_n hx hb dX9_take_25 rfl (lv_at hl 2 rfl) ?_
  refine lv_iload_n hx hb dX9_take_26 rfl (lv_at hl 0 rfl) ?_
  refine lv_iushr hx hb dX9_take_27 rfl ?_
  refine lv_topi (fun x_16 ex_16 => ?_)
  refine lv_i2b hx hb dX9_take_28 rfl ?_
  refine lv_topi (fun x_17 ex_17 => ?_)
  refine my_bast hx hb hK hP hD hS 1 1 rfl rfl (my_in (by decide)) dX9_take_29 (fun f_19 H_18 locs hP1 hD1 hS1 => ?_)
  clear hP hD hS
  have hP : va_P (dC, dI) vwCl [(h0, .inr (9, [.ref h1, .int 15])), (h1, .inl (cB, 4000, .inl f_19))] H_18 := hP1
  have hD : va_D A [(h0, .inr (9, [.ref h1, .int 15])), (h1, .inl (cB, 4000, .inl f_19))] := hD1
  have hS := hS1
  clear hP1 hD1 hS1
  refine lv_aload_n hx hb dX9_take_30 rfl (lv_at hl 1 rfl) ?_
  refine lv_dup hx hb dX9_take_31 rfl ?_
  refine va_get (D := (dC, dI)) (ci := 9) (v := .int 15) (C := RX9) (T := TX9) (N := 2) hx hb hts i_kX9_take_v3_X9 hown hK hP 0 rfl rfl 1 (by decide) (hts (Cond.fieldLink RX9 15 "CompiledHouse$Tape" "count" "I") (List.mem_cons_of_mem _ (List.mem_append_left _ (List.mem_of_getElem? (i := 0) rfl)))) (fun _ h9 => h9) rfl dX9_take_32 ?_
  refine lv_iconst (v := 1) hx hb dX9_take_35 (by decide) ?_
  refine lv_iadd hx hb dX9_take_36 ?_
  refine my_top 16 (by decide) ?_
  refine va_put (D := (dC, dI)) (ci := 9) (v := .int 16) (ty := .int) (C := RX9) (T := TX9) (N := 2) hx hb hts i_kX9_take_v3_X9 tyX9 tyX9_ok nmX9 hown hK hP hD hS 0 rfl rfl 1 (by decide) (hts (Cond.fieldLink RX9 15 "CompiledHouse$Tape" "count" "I") (List.mem_cons_of_mem _ (List.mem_append_left _ (List.mem_of_getElem? (i := 0) rfl)))) (fun _ h9 => h9) rfl (by decide +kernel) rfl rfl (Nat.le_of_ble_eq_true rfl) dX9_take_37 (fun H_20 locs hP1 hD1 hS1 => ?_)
  clear hP hD hS
  have hP : va_P (dC, dI) vwCl [(h0, .inr (9, [.ref h1, .int 16])), (h1, .inl (cB, 4000, .inl f_19))] H_20 := hP1
  have hD : va_D A [(h0, .inr (9, [.ref h1, .int 16])), (h1, .inl (cB, 4000, .inl f_19))] := hD1
  have hS := hS1
  clear hP1 hD1 hS1
  refine lv_iinc (v := (-8)) (lv' := [(2, .int (-8)), (0, .ref h0), (1, .int p0)]) hx hb dX9_take_40 hl (k := 0) rfl (by decide) (by decide) rfl (fun ls hl => ?_)
  refine lv_goto (tgt := 3) hx hb dX9_take_43 (by decide) ?_
  refine lv_iload_n hx hb dX9_take_3 rfl (lv_at hl 0 rfl) ?_
  refine lv_if_lt (tgt := 46) hx hb dX9_take_4 (by decide) (fun _ => ?_) (fun c_0 => absurd (by decide) c_0)
  have hP9 := hP.sub (ws' := [(h0, .inr (9, [.ref h1, .int 16])), (h1, .inl (cB, 4000, .inl f_19))]) [0, 1] rfl
  have hD9 := hD.sub (ws' := [(h0, .inr (9, [.ref h1, .int 16])), (h1, .inl (cB, 4000, .inl f_19))]) [0, 1] (by decide) rfl
  refine W.widen (k := 0) (n := 0) (by decide) (by decide) ?_
  exact W.vret hx hb hr (fun t ht hW => ⟨⟨(), rfl, trivial, f_19, by rw [ht]; exact hP9, va_K.moved hW.alike hK, hD9⟩, hS.F ht⟩) hS.2.2 dX9_take_46
def vs_kX9_take_v4 : List Cond := Cond.code yX9_take cX9_take 3 none :: (([Cond.fieldLink RX9 15 "CompiledHouse$Tape" "count" "I", Cond.fieldLink RX9 9 "CompiledHouse$Tape" "bytes" "[B"] : List Cond) ++ (wsX90))
theorem i_kX9_take_v4_X9 : ∀ w ∈ wsX90, w ∈ vs_kX9_take_v4 := fun w h => List.mem_cons_of_mem _ (List.mem_append_right _ h)
set_option maxHeartbeats 4000000 in
set_option maxRecDepth 100000 in
theorem kX9_take_v4 (l : Launch) (dC : Nat → ClassId) (dI : Nat → Nat → Nat) (cI cB cZ : ClassId) (h0 : Nat) (h1 : Nat) (sz : Nat) (f0 : Nat → Int32) (p0 : Int32) : Met l yX9_take vs_kX9_take_v4 ({ frames := 0, cells := 0, slots := 0, locals := 0 }) (va_Pc [.ref h0, .int p0] (fun U => U.heap.size = sz ∧ va_P (dC, dI) vwCl [(h0, .inr (9, [.ref h1, .int 16])), (h1, .inl (cB, 4000, .inl f0))] U.heap ∧ va_K (dC, dI) vwCl (ty3 cI cB cZ) U ∧ va_D (fun _ => True) [(h0, .inr (9, [.ref h1, .int 16])), (h1, .inl (cB, 4000, .inl f0))])) (va_Qv (fun _ : Unit => True) (fun (_ : Unit) (t : State) => ∃ (k0 : Nat → Int32), va_P (dC, dI) vwCl [(h0, .inr (9, [.ref h1, .int 20])), (h1, .inl (cB, 4000, .inl k0))] t.heap ∧ va_K (dC, dI) vwCl (ty3 cI cB cZ) t ∧ va_D (va_A [(h0, .inr (9, [.ref h1, .int 16])), (h1, .inl (cB, 4000, .inl f0))] sz) [(h0, .inr (9, [.ref h1, .int 20])), (h1, .inl (cB, 4000, .inl k0))]) (va_A [(h0, .inr (9, [.ref h1, .int 16])), (h1, .inl (cB, 4000, .inl f0))] sz)) 0 0 (va_A [(h0, .inr (9, [.ref h1, .int 16])), (h1, .inl (cB, 4000, .inl f0))] sz) := by
  refine Met.ofW (cc := cX9_take) (maxL := 3) (ret := none) (by decide) rfl ?_
  intro p e s m args below meth c s₁ B hml hv
  obtain ⟨rfl, hsz, hP, hK, hD0⟩ := hv
  have hx := B.exec
  have hb := B.bytes
  have hr := B.returns
  have hts := atoms_spec (ws := vs_kX9_take_v4) B.pre
  have hown : s.vm.findClass RX9 = some m.cls := findClass_of_methodNamed B.named
  have hlocks := B.notSynchronized
  subst hsz
  have hD := hD0.self (sz := s.heap.size)
  clear hD0
  generalize hAe : va_A [(h0, .inr (9, [.ref h1, .int 16])), (h1, .inl (cB, 4000, .inl f0))] s.heap.size = A at hD ⊢
  have hA : ∀ q : Nat, s.heap.size ≤ q → A q := fun q h => by rw [← hAe]; exact Or.inr h
  clear hAe
  have hS : va_S A s.heap s.heap [] := va_S.rf
  have hl := lv_entry ([.ref h0, .int p0]) (n := 3) (Nat.le_of_ble_eq_true rfl)
  rw [lg_entry_eq]
  generalize (lg_sl ([.ref h0, .int p0]) ++ List.replicate (3 - (lg_sl ([.ref h0, .int p0])).length) Slot.unset).toArray = ls at hl ⊢
  replace hl : lv_has ls 3 [(0, .ref h0), (1, .int p0)] := hl
  refine my_st (fun H locs eH el => ?_)
  replace hP : va_P (dC, dI) vwCl [(h0, .inr (9, [.ref h1, .int 16])), (h1, .inl (cB, 4000, .inl f0))] H := by rw [eH]; exact hP
  replace hS : va_S A s.heap H locs := by rw [eH, el]; exact hS
  clear eH el
  refine lv_bipush (v := 24) hx hb dX9_take_0 (by decide) ?_
  refine lv_istore_n (lv' := [(2, .int 24), (0, .ref h0), (1, .int p0)]) hx hb dX9_take_2 rfl hl (by decide) rfl (fun ls hl => ?_)
  refine lv_iload_n hx hb dX9_take_3 rfl (lv_at hl 0 rfl) ?_
  refine lv_if_lt (tgt := 46) hx hb dX9_take_4 (by decide) (fun c_0 => absurd c_0 (by decide)) (fun _ => ?_)
  refine lv_aload_n hx hb dX9_take_7 rfl (lv_at hl 1 rfl) ?_
  refine va_get (D := (dC, dI)) (ci := 9) (v := .int 16) (C := RX9) (T := TX9) (N := 2) hx hb hts i_kX9_take_v4_X9 hown hK hP 0 rfl rfl 1 (by decide) (hts (Cond.fieldLink RX9 15 "CompiledHouse$Tape" "count" "I") (List.mem_cons_of_mem _ (List.mem_append_left _ (List.mem_of_getElem? (i := 0) rfl)))) (fun _ h9 => h9) rfl dX9_take_8 ?_
  refine lv_sipush (v := 4000) hx hb dX9_take_11 (by decide) ?_
  refine lv_icmp_ge (tgt := 46) hx hb dX9_take_14 (by decide) (fun c_0 => absurd c_0 (by decide)) (fun _ => ?_)
  refine lv_aload_n hx hb dX9_take_17 rfl (lv_at hl 1 rfl) ?_
  refine va_get (D := (dC, dI)) (ci := 9) (v := .ref h1) (C := RX9) (T := TX9) (N := 2) hx hb hts i_kX9_take_v4_X9 hown hK hP 0 rfl rfl 0 (by decide) (hts (Cond.fieldLink RX9 9 "CompiledHouse$Tape" "bytes" "[B") (List.mem_cons_of_mem _ (List.mem_append_left _ (List.mem_of_getElem? (i := 1) rfl)))) (fun _ h9 => h9) rfl dX9_take_18 ?_
  refine lv_aload_n hx hb dX9_take_21 rfl (lv_at hl 1 rfl) ?_
  refine va_get (D := (dC, dI)) (ci := 9) (v := .int 16) (C := RX9) (T := TX9) (N := 2) hx hb hts i_kX9_take_v4_X9 hown hK hP 0 rfl rfl 1 (by decide) (hts (Cond.fieldLink RX9 15 "CompiledHouse$Tape" "count" "I") (List.mem_cons_of_mem _ (List.mem_append_left _ (List.mem_of_getElem? (i := 0) rfl)))) (fun _ h9 => h9) rfl dX9_take_22 ?_
  refine lv_iload_n hx hb dX9_take_25 rfl (lv_at hl 2 rfl) ?_
  refine lv_iload_n hx hb dX9_take_26 rfl (lv_at hl 0 rfl) ?_
  refine lv_iushr hx hb dX9_take_27 rfl ?_
  refine lv_topi (fun x_1 ex_1 => ?_)
  refine lv_i2b hx hb dX9_take_28 rfl ?_
  refine lv_topi (fun x_2 ex_2 => ?_)
  refine my_bast hx hb hK hP hD hS 1 1 rfl rfl (my_in (by decide)) dX9_take_29 (fun f_4 H_3 locs hP1 hD1 hS1 => ?_)
  clear hP hD hS
  have hP : va_P (dC, dI) vwCl [(h0, .inr (9, [.ref h1, .int 16])), (h1, .inl (cB, 4000, .inl f_4))] H_3 := hP1
  have hD : va_D A [(h0, .inr (9, [.ref h1, .int 16])), (h1, .inl (cB, 4000, .inl f_4))] := hD1
  have hS := hS1
  clear hP1 hD1 hS1
  refine lv_aload_n hx hb dX9_take_30 rfl (lv_at hl 1 rfl) ?_
  refine lv_dup hx hb dX9_take_31 rfl ?_
  refine va_get (D := (dC, dI)) (ci := 9) (v := .int 16) (C := RX9) (T := TX9) (N := 2) hx hb hts i_kX9_take_v4_X9 hown hK hP 0 rfl rfl 1 (by decide) (hts (Cond.fieldLink RX9 15 "CompiledHouse$Tape" "count" "I") (List.mem_cons_of_mem _ (List.mem_append_left _ (List.mem_of_getElem? (i := 0) rfl)))) (fun _ h9 => h9) rfl dX9_take_32 ?_
  refine lv_iconst (v := 1) hx hb dX9_take_35 (by decide) ?_
  refine lv_iadd hx hb dX9_take_36 ?_
  refine my_top 17 (by decide) ?_
  refine va_put (D := (dC, dI)) (ci := 9) (v := .int 17) (ty := .int) (C := RX9) (T := TX9) (N := 2) hx hb hts i_kX9_take_v4_X9 tyX9 tyX9_ok nmX9 hown hK hP hD hS 0 rfl rfl 1 (by decide) (hts (Cond.fieldLink RX9 15 "CompiledHouse$Tape" "count" "I") (List.mem_cons_of_mem _ (List.mem_append_left _ (List.mem_of_getElem? (i := 0) rfl)))) (fun _ h9 => h9) rfl (by decide +kernel) rfl rfl (Nat.le_of_ble_eq_true rfl) dX9_take_37 (fun H_5 locs hP1 hD1 hS1 => ?_)
  clear hP hD hS
  have hP : va_P (dC, dI) vwCl [(h0, .inr (9, [.ref h1, .int 17])), (h1, .inl (cB, 4000, .inl f_4))] H_5 := hP1
  have hD : va_D A [(h0, .inr (9, [.ref h1, .int 17])), (h1, .inl (cB, 4000, .inl f_4))] := hD1
  have hS := hS1
  clear hP1 hD1 hS1
  refine lv_iinc (v := 16) (lv' := [(2, .int 16), (0, .ref h0), (1, .int p0)]) hx hb dX9_take_40 hl (k := 0) rfl (by decide) (by decide) rfl (fun ls hl => ?_)
  refine lv_goto (tgt := 3) hx hb dX9_take_43 (by decide) ?_
  refine lv_iload_n hx hb dX9_take_3 rfl (lv_at hl 0 rfl) ?_
  refine lv_if_lt (tgt := 46) hx hb dX9_take_4 (by decide) (fun c_0 => absurd c_0 (by decide)) (fun _ => ?_)
  refine lv_aload_n hx hb dX9_take_7 rfl (lv_at hl 1 rfl) ?_
  refine va_get (D := (dC, dI)) (ci := 9) (v := .int 17) (C := RX9) (T := TX9) (N := 2) hx hb hts i_kX9_take_v4_X9 hown hK hP 0 rfl rfl 1 (by decide) (hts (Cond.fieldLink RX9 15 "CompiledHouse$Tape" "count" "I") (List.mem_cons_of_mem _ (List.mem_append_left _ (List.mem_of_getElem? (i := 0) rfl)))) (fun _ h9 => h9) rfl dX9_take_8 ?_
  refine lv_sipush (v := 4000) hx hb dX9_take_11 (by decide) ?_
  refine lv_icmp_ge (tgt := 46) hx hb dX9_take_14 (by decide) (fun c_0 => absurd c_0 (by decide)) (fun _ => ?_)
  refine lv_aload_n hx hb dX9_take_17 rfl (lv_at hl 1 rfl) ?_
  refine va_get (D := (dC, dI)) (ci := 9) (v := .ref h1) (C := RX9) (T := TX9) (N := 2) hx hb hts i_kX9_take_v4_X9 hown hK hP 0 rfl rfl 0 (by decide) (hts (Cond.fieldLink RX9 9 "CompiledHouse$Tape" "bytes" "[B") (List.mem_cons_of_mem _ (List.mem_append_left _ (List.mem_of_getElem? (i := 1) rfl)))) (fun _ h9 => h9) rfl dX9_take_18 ?_
  refine lv_aload_n hx hb dX9_take_21 rfl (lv_at hl 1 rfl) ?_
  refine va_get (D := (dC, dI)) (ci := 9) (v := .int 17) (C := RX9) (T := TX9) (N := 2) hx hb hts i_kX9_take_v4_X9 hown hK hP 0 rfl rfl 1 (by decide) (hts (Cond.fieldLink RX9 15 "CompiledHouse$Tape" "count" "I") (List.mem_cons_of_mem _ (List.mem_append_left _ (List.mem_of_getElem? (i := 0) rfl)))) (fun _ h9 => h9) rfl dX9_take_22 ?_
  refine lv_iload_n hx hb dX9_take_25 rfl (lv_at hl 2 rfl) ?_
  refine lv_iload_n hx hb dX9_take_26 rfl (lv_at hl 0 rfl) ?_
  refine lv_iushr hx hb dX9_take_27 rfl ?_
  refine lv_topi (fun x_6 ex_6 => ?_)
  refine lv_i2b hx hb dX9_take_28 rfl ?_
  refine lv_topi (fun x_7 ex_7 => ?_)
  refine my_bast hx hb hK hP hD hS 1 1 rfl rfl (my_in (by decide)) dX9_take_29 (fun f_9 H_8 locs hP1 hD1 hS1 => ?_)
  clear hP hD hS
  have hP : va_P (dC, dI) vwCl [(h0, .inr (9, [.ref h1, .int 17])), (h1, .inl (cB, 4000, .inl f_9))] H_8 := hP1
  have hD : va_D A [(h0, .inr (9, [.ref h1, .int 17])), (h1, .inl (cB, 4000, .inl f_9))] := hD1
  have hS := hS1
  clear hP1 hD1 hS1
  refine lv_aload_n hx hb dX9_take_30 rfl (lv_at hl 1 rfl) ?_
  refine lv_dup hx hb dX9_take_31 rfl ?_
  refine va_get (D := (dC, dI)) (ci := 9) (v := .int 17) (C := RX9) (T := TX9) (N := 2) hx hb hts i_kX9_take_v4_X9 hown hK hP 0 rfl rfl 1 (by decide) (hts (Cond.fieldLink RX9 15 "CompiledHouse$Tape" "count" "I") (List.mem_cons_of_mem _ (List.mem_append_left _ (List.mem_of_getElem? (i := 0) rfl)))) (fun _ h9 => h9) rfl dX9_take_32 ?_
  refine lv_iconst (v := 1) hx hb dX9_take_35 (by decide) ?_
  refine lv_iadd hx hb dX9_take_36 ?_
  refine my_top 18 (by decide) ?_
  refine va_put (D := (dC, dI)) (ci := 9) (v := .int 18) (ty := .int) (C := RX9) (T := TX9) (N := 2) hx hb hts i_kX9_take_v4_X9 tyX9 tyX9_ok nmX9 hown hK hP hD hS 0 rfl rfl 1 (by decide) (hts (Cond.fieldLink RX9 15 "CompiledHouse$Tape" "count" "I") (List.mem_cons_of_mem _ (List.mem_append_left _ (List.mem_of_getElem? (i := 0) rfl)))) (fun _ h9 => h9) rfl (by decide +kernel) rfl rfl (Nat.le_of_ble_eq_true rfl) dX9_take_37 (fun H_10 locs hP1 hD1 hS1 => ?_)
  clear hP hD hS
  have hP : va_P (dC, dI) vwCl [(h0, .inr (9, [.ref h1, .int 18])), (h1, .inl (cB, 4000, .inl f_9))] H_10 := hP1
  have hD : va_D A [(h0, .inr (9, [.ref h1, .int 18])), (h1, .inl (cB, 4000, .inl f_9))] := hD1
  have hS := hS1
  clear hP1 hD1 hS1
  refine lv_iinc (v := 8) (lv' := [(2, .int 8), (0, .ref h0), (1, .int p0)]) hx hb dX9_take_40 hl (k := 0) rfl (by decide) (by decide) rfl (fun ls hl => ?_)
  refine lv_goto (tgt := 3) hx hb dX9_take_43 (by decide) ?_
  refine lv_iload_n hx hb dX9_take_3 rfl (lv_at hl 0 rfl) ?_
  refine lv_if_lt (tgt := 46) hx hb dX9_take_4 (by decide) (fun c_0 => absurd c_0 (by decide)) (fun _ => ?_)
  refine lv_aload_n hx hb dX9_take_7 rfl (lv_at hl 1 rfl) ?_
  refine va_get (D := (dC, dI)) (ci := 9) (v := .int 18) (C := RX9) (T := TX9) (N := 2) hx hb hts i_kX9_take_v4_X9 hown hK hP 0 rfl rfl 1 (by decide) (hts (Cond.fieldLink RX9 15 "CompiledHouse$Tape" "count" "I") (List.mem_cons_of_mem _ (List.mem_append_left _ (List.mem_of_getElem? (i := 0) rfl)))) (fun _ h9 => h9) rfl dX9_take_8 ?_
  refine lv_sipush (v := 4000) hx hb dX9_take_11 (by decide) ?_
  refine lv_icmp_ge (tgt := 46) hx hb dX9_take_14 (by decide) (fun c_0 => absurd c_0 (by decide)) (fun _ => ?_)
  refine lv_aload_n hx hb dX9_take_17 rfl (lv_at hl 1 rfl) ?_
  refine va_get (D := (dC, dI)) (ci := 9) (v := .ref h1) (C := RX9) (T := TX9) (N := 2) hx hb hts i_kX9_take_v4_X9 hown hK hP 0 rfl rfl 0 (by decide) (hts (Cond.fieldLink RX9 9 "CompiledHouse$Tape" "bytes" "[B") (List.mem_cons_of_mem _ (List.mem_append_left _ (List.mem_of_getElem? (i := 1) rfl)))) (fun _ h9 => h9) rfl dX9_take_18 ?_
  refine lv_aload_n hx hb dX9_take_21 rfl (lv_at hl 1 rfl) ?_
  refine va_get (D := (dC, dI)) (ci := 9) (v := .int 18) (C := RX9) (T := TX9) (N := 2) hx hb hts i_kX9_take_v4_X9 hown hK hP 0 rfl rfl 1 (by decide) (hts (Cond.fieldLink RX9 15 "CompiledHouse$Tape" "count" "I") (List.mem_cons_of_mem _ (List.mem_append_left _ (List.mem_of_getElem? (i := 0) rfl)))) (fun _ h9 => h9) rfl dX9_take_22 ?_
  refine lv_iload_n hx hb dX9_take_25 rfl (lv_at hl 2 rfl) ?_
  refine lv_iload_n hx hb dX9_take_26 rfl (lv_at hl 0 rfl) ?_
  refine lv_iushr hx hb dX9_take_27 rfl ?_
  refine lv_topi (fun x_11 ex_11 => ?_)
  refine lv_i2b hx hb dX9_take_28 rfl ?_
  refine lv_topi (fun x_12 ex_12 => ?_)
  refine my_bast hx hb hK hP hD hS 1 1 rfl rfl (my_in (by decide)) dX9_take_29 (fun f_14 H_13 locs hP1 hD1 hS1 => ?_)
  clear hP hD hS
  have hP : va_P (dC, dI) vwCl [(h0, .inr (9, [.ref h1, .int 18])), (h1, .inl (cB, 4000, .inl f_14))] H_13 := hP1
  have hD : va_D A [(h0, .inr (9, [.ref h1, .int 18])), (h1, .inl (cB, 4000, .inl f_14))] := hD1
  have hS := hS1
  clear hP1 hD1 hS1
  refine lv_aload_n hx hb dX9_take_30 rfl (lv_at hl 1 rfl) ?_
  refine lv_dup hx hb dX9_take_31 rfl ?_
  refine va_get (D := (dC, dI)) (ci := 9) (v := .int 18) (C := RX9) (T := TX9) (N := 2) hx hb hts i_kX9_take_v4_X9 hown hK hP 0 rfl rfl 1 (by decide) (hts (Cond.fieldLink RX9 15 "CompiledHouse$Tape" "count" "I") (List.mem_cons_of_mem _ (List.mem_append_left _ (List.mem_of_getElem? (i := 0) rfl)))) (fun _ h9 => h9) rfl dX9_take_32 ?_
  refine lv_iconst (v := 1) hx hb dX9_take_35 (by decide) ?_
  refine lv_iadd hx hb dX9_take_36 ?_
  refine my_top 19 (by decide) ?_
  refine va_put (D := (dC, dI)) (ci := 9) (v := .int 19) (ty := .int) (C := RX9) (T := TX9) (N := 2) hx hb hts i_kX9_take_v4_X9 tyX9 tyX9_ok nmX9 hown hK hP hD hS 0 rfl rfl 1 (by decide) (hts (Cond.fieldLink RX9 15 "CompiledHouse$Tape" "count" "I") (List.mem_cons_of_mem _ (List.mem_append_left _ (List.mem_of_getElem? (i := 0) rfl)))) (fun _ h9 => h9) rfl (by decide +kernel) rfl rfl (Nat.le_of_ble_eq_true rfl) dX9_take_37 (fun H_15 locs hP1 hD1 hS1 => ?_)
  clear hP hD hS
  have hP : va_P (dC, dI) vwCl [(h0, .inr (9, [.ref h1, .int 19])), (h1, .inl (cB, 4000, .inl f_14))] H_15 := hP1
  have hD : va_D A [(h0, .inr (9, [.ref h1, .int 19])), (h1, .inl (cB, 4000, .inl f_14))] := hD1
  have hS := hS1
  clear hP1 hD1 hS1
  refine lv_iinc (v := 0) (lv' := [(2, .int 0), (0, .ref h0), (1, .int p0)]) hx hb dX9_take_40 hl (k := 0) rfl (by decide) (by decide) rfl (fun ls hl => ?_)
  refine lv_goto (tgt := 3) hx hb dX9_take_43 (by decide) ?_
  refine lv_iload_n hx hb dX9_take_3 rfl (lv_at hl 0 rfl) ?_
  refine lv_if_lt (tgt := 46) hx hb dX9_take_4 (by decide) (fun c_0 => absurd c_0 (by decide)) (fun _ => ?_)
  refine lv_aload_n hx hb dX9_take_7 rfl (lv_at hl 1 rfl) ?_
  refine va_get (D := (dC, dI)) (ci := 9) (v := .int 19) (C := RX9) (T := TX9) (N := 2) hx hb hts i_kX9_take_v4_X9 hown hK hP 0 rfl rfl 1 (by decide) (hts (Cond.fieldLink RX9 15 "CompiledHouse$Tape" "count" "I") (List.mem_cons_of_mem _ (List.mem_append_left _ (List.mem_of_getElem? (i := 0) rfl)))) (fun _ h9 => h9) rfl dX9_take_8 ?_
  refine lv_sipush (v := 4000) hx hb dX9_take_11 (by decide) ?_
  refine lv_icmp_ge (tgt := 46) hx hb dX9_take_14 (by decide) (fun c_0 => absurd c_0 (by decide)) (fun _ => ?_)
  refine lv_aload_n hx hb dX9_take_17 rfl (lv_at hl 1 rfl) ?_
  refine va_get (D := (dC, dI)) (ci := 9) (v := .ref h1) (C := RX9) (T := TX9) (N := 2) hx hb hts i_kX9_take_v4_X9 hown hK hP 0 rfl rfl 0 (by decide) (hts (Cond.fieldLink RX9 9 "CompiledHouse$Tape" "bytes" "[B") (List.mem_cons_of_mem _ (List.mem_append_left _ (List.mem_of_getElem? (i := 1) rfl)))) (fun _ h9 => h9) rfl dX9_take_18 ?_
  refine lv_aload_n hx hb dX9_take_21 rfl (lv_at hl 1 rfl) ?_
  refine va_get (D := (dC, dI)) (ci := 9) (v := .int 19) (C := RX9) (T := TX9) (N := 2) hx hb hts i_kX9_take_v4_X9 hown hK hP 0 rfl rfl 1 (by decide) (hts (Cond.fieldLink RX9 15 "CompiledHouse$Tape" "count" "I") (List.mem_cons_of_mem _ (List.mem_append_left _ (List.mem_of_getElem? (i := 0) rfl)))) (fun _ h9 => h9) rfl dX9_take_22 ?_
  refine lv_iload_n hx hb dX9_take_25 rfl (lv_at hl 2 rfl) ?_
  refine lv_iload_n hx hb dX9_take_26 rfl (lv_at hl 0 rfl) ?_
  refine lv_iushr hx hb dX9_take_27 rfl ?_
  refine lv_topi (fun x_16 ex_16 => ?_)
  refine lv_i2b hx hb dX9_take_28 rfl ?_
  refine lv_topi (fun x_17 ex_17 => ?_)
  refine my_bast hx hb hK hP hD hS 1 1 rfl rfl (my_in (by decide)) dX9_take_29 (fun f_19 H_18 locs hP1 hD1 hS1 => ?_)
  clear hP hD hS
  have hP : va_P (dC, dI) vwCl [(h0, .inr (9, [.ref h1, .int 19])), (h1, .inl (cB, 4000, .inl f_19))] H_18 := hP1
  have hD : va_D A [(h0, .inr (9, [.ref h1, .int 19])), (h1, .inl (cB, 4000, .inl f_19))] := hD1
  have hS := hS1
  clear hP1 hD1 hS1
  refine lv_aload_n hx hb dX9_take_30 rfl (lv_at hl 1 rfl) ?_
  refine lv_dup hx hb dX9_take_31 rfl ?_
  refine va_get (D := (dC, dI)) (ci := 9) (v := .int 19) (C := RX9) (T := TX9) (N := 2) hx hb hts i_kX9_take_v4_X9 hown hK hP 0 rfl rfl 1 (by decide) (hts (Cond.fieldLink RX9 15 "CompiledHouse$Tape" "count" "I") (List.mem_cons_of_mem _ (List.mem_append_left _ (List.mem_of_getElem? (i := 0) rfl)))) (fun _ h9 => h9) rfl dX9_take_32 ?_
  refine lv_iconst (v := 1) hx hb dX9_take_35 (by decide) ?_
  refine lv_iadd hx hb dX9_take_36 ?_
  refine my_top 20 (by decide) ?_
  refine va_put (D := (dC, dI)) (ci := 9) (v := .int 20) (ty := .int) (C := RX9) (T := TX9) (N := 2) hx hb hts i_kX9_take_v4_X9 tyX9 tyX9_ok nmX9 hown hK hP hD hS 0 rfl rfl 1 (by decide) (hts (Cond.fieldLink RX9 15 "CompiledHouse$Tape" "count" "I") (List.mem_cons_of_mem _ (List.mem_append_left _ (List.mem_of_getElem? (i := 0) rfl)))) (fun _ h9 => h9) rfl (by decide +kernel) rfl rfl (Nat.le_of_ble_eq_true rfl) dX9_take_37 (fun H_20 locs hP1 hD1 hS1 => ?_)
  clear hP hD hS
  have hP : va_P (dC, dI) vwCl [(h0, .inr (9, [.ref h1, .int 20])), (h1, .inl (cB, 4000, .inl f_19))] H_20 := hP1
  have hD : va_D A [(h0, .inr (9, [.ref h1, .int 20])), (h1, .inl (cB, 4000, .inl f_19))] := hD1
  have hS := hS1
  clear hP1 hD1 hS1
  refine lv_iinc (v := (-8)) (lv' := [(2, .int (-8)), (0, .ref h0), (1, .int p0)]) hx hb dX9_take_40 hl (k := 0) rfl (by decide) (by decide) rfl (fun ls hl => ?_)
  refine lv_goto (tgt := 3) hx hb dX9_take_43 (by decide) ?_
  refine lv_iload_n hx hb dX9_take_3 rfl (lv_at hl 0 rfl) ?_
  refine lv_if_lt (tgt := 46) hx hb dX9_take_4 (by decide) (fun _ => ?_) (fun c_0 => absurd (by decide) c_0)
  have hP9 := hP.sub (ws' := [(h0, .inr (9, [.ref h1, .int 20])), (h1, .inl (cB, 4000, .inl f_19))]) [0, 1] rfl
  have hD9 := hD.sub (ws' := [(h0, .inr (9, [.ref h1, .int 20])), (h1, .inl (cB, 4000, .inl f_19))]) [0, 1] (by decide) rfl
  refine W.widen (k := 0) (n := 0) (by decide) (by decide) ?_
  exact W.vret hx hb hr (fun t ht hW => ⟨⟨(), rfl, trivial, f_19, by rw [ht]; exact hP9, va_K.moved hW.alike hK, hD9⟩, hS.F ht⟩) hS.2.2 dX9_take_46
def vs_kX11_feed : List Cond := Cond.code yX11_feed cX11_feed 6 (some .int) :: (([Cond.fieldLink RX11 15 "CompiledHouse" "tape" "LCompiledHouse$Tape;", Cond.fieldLink RX11 82 "CompiledHouse$Tape" "count" "I"] : List Cond) ++ ((wsX110) ++ ((wsX90) ++ ((wsV RX11 86 RX9 yX9_take vs_kX9_take) ++ ((wsV RX11 86 RX9 yX9_take vs_kX9_take_v1) ++ ((wsV RX11 86 RX9 yX9_take vs_kX9_take_v2) ++ ((wsV RX11 86 RX9 yX9_take vs_kX9_take_v3) ++ (wsV RX11 86 RX9 yX9_take vs_kX9_take_v4))))))))
theorem i_kX11_feed_X11 : ∀ w ∈ wsX110, w ∈ vs_kX11_feed := fun w h => List.mem_cons_of_mem _ (List.mem_append_right _ (List.mem_append_left _ h))
theorem i_kX11_feed_X9 : ∀ w ∈ wsX90, w ∈ vs_kX11_feed := fun w h => List.mem_cons_of_mem _ (List.mem_append_right _ (List.mem_append_right _ (List.mem_append_left _ h)))
theorem g_kX11_feed_2 : GoodIn vs_kX11_feed (wsV RX11 86 RX9 yX9_take vs_kX9_take) := fun w h => ⟨List.mem_cons_of_mem _ (List.mem_append_right _ (List.mem_append_right _ (List.mem_append_right _ (List.mem_append_left _ h)))), good_of_word (List.all_eq_true.mp (show (wsV RX11 86 RX9 yX9_take vs_kX9_take).all goodWord = true by decide +kernel) w h)⟩
theorem g_kX11_feed_3 : GoodIn vs_kX11_feed (wsV RX11 86 RX9 yX9_take vs_kX9_take_v1) := fun w h => ⟨List.mem_cons_of_mem _ (List.mem_append_right _ (List.mem_append_right _ (List.mem_append_right _ (List.mem_append_right _ (List.mem_append_left _ h))))), good_of_word (List.all_eq_true.mp (show (wsV RX11 86 RX9 yX9_take vs_kX9_take_v1).all goodWord = true by decide +kernel) w h)⟩
theorem g_kX11_feed_4 : GoodIn vs_kX11_feed (wsV RX11 86 RX9 yX9_take vs_kX9_take_v2) := fun w h => ⟨List.mem_cons_of_mem _ (List.mem_append_right _ (List.mem_append_right _ (List.mem_append_right _ (List.mem_append_right _ (List.mem_append_right _ (List.mem_append_left _ h)))))), good_of_word (List.all_eq_true.mp (show (wsV RX11 86 RX9 yX9_take vs_kX9_take_v2).all goodWord = true by decide +kernel) w h)⟩
theorem g_kX11_feed_5 : GoodIn vs_kX11_feed (wsV RX11 86 RX9 yX9_take vs_kX9_take_v3) := fun w h => ⟨List.mem_cons_of_mem _ (List.mem_append_right _ (List.mem_append_right _ (List.mem_append_right _ (List.mem_append_right _ (List.mem_append_right _ (List.mem_append_right _ (List.mem_append_left _ h))))))), good_of_word (List.all_eq_true.mp (show (wsV RX11 86 RX9 yX9_take vs_kX9_take_v3).all goodWord = true by decide +kernel) w h)⟩
theorem g_kX11_feed_6 : GoodIn vs_kX11_feed (wsV RX11 86 RX9 yX9_take vs_kX9_take_v4) := fun w h => ⟨List.mem_cons_of_mem _ (List.mem_append_right _ (List.mem_append_right _ (List.mem_append_right _ (List.mem_append_right _ (List.mem_append_right _ (List.mem_append_right _ (List.mem_append_right _ h))))))), good_of_word (List.all_eq_true.mp (show (wsV RX11 86 RX9 yX9_take vs_kX9_take_v4).all goodWord = true by decide +kernel) w h)⟩
set_option maxHeartbeats 4000000 in
set_option maxRecDepth 100000 in
theorem kX11_feed (l : Launch) (dC : Nat → ClassId) (dI : Nat → Nat → Nat) (cI cB cZ : ClassId) (h0 : Nat) (h1 : Nat) (h2 : Nat) (g0 : Nat) (g1 : Nat) (g2 : Nat) (g3 : Nat) (g4 : Nat) (g5 : Nat) (sz : Nat) (p0 : Int32) (p1 : Int32) (p2 : Int32) (p3 : Int32) (p4 : Int32) : Met l yX11_feed vs_kX11_feed ({ frames := 1, cells := 0, slots := 0, locals := 22 }) (va_Pc [.ref h0, .int p0, .int p1, .int p2, .int p3, .int p4] (fun U => U.heap.size = sz ∧ va_P (dC, dI) vwCl [(h0, .inr (11, [.ref h1, .ref g0, .ref g1, .ref g2, .ref g3, .ref g4, .ref g5])), (h1, .inr (9, [.ref h2, .int 0])), (h2, .inl (cB, 4000, .inl (fun _ => 0)))] U.heap ∧ va_K (dC, dI) vwCl (ty3 cI cB cZ) U ∧ va_D (fun _ => True) [(h0, .inr (11, [.ref h1, .ref g0, .ref g1, .ref g2, .ref g3, .ref g4, .ref g5])), (h1, .inr (9, [.ref h2, .int 0])), (h2, .inl (cB, 4000, .inl (fun _ => 0)))])) (va_Qi (fun (r : Int32) (_ : Unit) => r = 20) (fun (_ : Unit) (t : State) => ∃ (k0 : Nat → Int32), va_P (dC, dI) vwCl [(h0, .inr (11, [.ref h1, .ref g0, .ref g1, .ref g2, .ref g3, .ref g4, .ref g5])), (h1, .inr (9, [.ref h2, .int 20])), (h2, .inl (cB, 4000, .inl k0))] t.heap ∧ va_K (dC, dI) vwCl (ty3 cI cB cZ) t ∧ va_D (va_A [(h0, .inr (11, [.ref h1, .ref g0, .ref g1, .ref g2, .ref g3, .ref g4, .ref g5])), (h1, .inr (9, [.ref h2, .int 0])), (h2, .inl (cB, 4000, .inl (fun _ => 0)))] sz) [(h0, .inr (11, [.ref h1, .ref g0, .ref g1, .ref g2, .ref g3, .ref g4, .ref g5])), (h1, .inr (9, [.ref h2, .int 20])), (h2, .inl (cB, 4000, .inl k0))]) (va_A [(h0, .inr (11, [.ref h1, .ref g0, .ref g1, .ref g2, .ref g3, .ref g4, .ref g5])), (h1, .inr (9, [.ref h2, .int 0])), (h2, .inl (cB, 4000, .inl (fun _ => 0)))] sz)) 0 0 (va_A [(h0, .inr (11, [.ref h1, .ref g0, .ref g1, .ref g2, .ref g3, .ref g4, .ref g5])), (h1, .inr (9, [.ref h2, .int 0])), (h2, .inl (cB, 4000, .inl (fun _ => 0)))] sz) := by
  refine Met.ofW (cc := cX11_feed) (maxL := 6) (ret := (some .int)) (by decide) rfl ?_
  intro p e s m args below meth c s₁ B hml hv
  obtain ⟨rfl, hsz, hP, hK, hD0⟩ := hv
  have hx := B.exec
  have hb := B.bytes
  have hr := B.returns
  have hts := atoms_spec (ws := vs_kX11_feed) B.pre
  have hown : s.vm.findClass RX11 = some m.cls := findClass_of_methodNamed B.named
  have hlocks := B.notSynchronized
  subst hsz
  have hD := hD0.self (sz := s.heap.size)
  clear hD0
  generalize hAe : va_A [(h0, .inr (11, [.ref h1, .ref g0, .ref g1, .ref g2, .ref g3, .ref g4, .ref g5])), (h1, .inr (9, [.ref h2, .int 0])), (h2, .inl (cB, 4000, .inl (fun _ => 0)))] s.heap.size = A at hD ⊢
  have hA : ∀ q : Nat, s.heap.size ≤ q → A q := fun q h => by rw [← hAe]; exact Or.inr h
  clear hAe
  have hS : va_S A s.heap s.heap [] := va_S.rf
  have hl := lv_entry ([.ref h0, .int p0, .int p1, .int p2, .int p3, .int p4]) (n := 6) (Nat.le_of_ble_eq_true rfl)
  rw [lg_entry_eq]
  generalize (lg_sl ([.ref h0, .int p0, .int p1, .int p2, .int p3, .int p4]) ++ List.replicate (6 - (lg_sl ([.ref h0, .int p0, .int p1, .int p2, .int p3, .int p4])).length) Slot.unset).toArray = ls at hl ⊢
  replace hl : lv_has ls 6 [(0, .ref h0), (1, .int p0), (2, .int p1), (3, .int p2), (4, .int p3), (5, .int p4)] := hl
  refine my_st (fun H locs eH el => ?_)
  replace hP : va_P (dC, dI) vwCl [(h0, .inr (11, [.ref h1, .ref g0, .ref g1, .ref g2, .ref g3, .ref g4, .ref g5])), (h1, .inr (9, [.ref h2, .int 0])), (h2, .inl (cB, 4000, .inl (fun _ => 0)))] H := by rw [eH]; exact hP
  replace hS : va_S A s.heap H locs := by rw [eH, el]; exact hS
  clear eH el
  refine lv_aload_n hx hb dX11_feed_0 rfl (lv_at hl 0 rfl) ?_
  refine va_get (D := (dC, dI)) (ci := 11) (v := .ref h1) (C := RX11) (T := TX11) (N := 7) hx hb hts i_kX11_feed_X11 hown hK hP 0 rfl rfl 0 (by decide) (hts (Cond.fieldLink RX11 15 "CompiledHouse" "tape" "LCompiledHouse$Tape;") (List.mem_cons_of_mem _ (List.mem_append_left _ (List.mem_of_getElem? (i := 0) rfl)))) (fun _ h9 => h9) rfl dX11_feed_1 ?_
  refine va_get (D := (dC, dI)) (ci := 9) (v := .int 0) (C := RX9) (T := TX9) (N := 2) hx hb hts i_kX11_feed_X9 hown hK hP 1 rfl rfl 1 (by decide) (hts (Cond.fieldLink RX11 82 "CompiledHouse$Tape" "count" "I") (List.mem_cons_of_mem _ (List.mem_append_left _ (List.mem_of_getElem? (i := 1) rfl)))) (fun _ h9 => h9) rfl dX11_feed_4 ?_
  refine lv_sipush (v := 3980) hx hb dX11_feed_7 (by decide) ?_
  refine lv_icmp_le (tgt := 15) hx hb dX11_feed_10 (by decide) (fun _ => ?_) (fun c_0 => absurd (by decide) c_0)
  refine lv_aload_n hx hb dX11_feed_15 rfl (lv_at hl 0 rfl) ?_
  refine va_get (D := (dC, dI)) (ci := 11) (v := .ref h1) (C := RX11) (T := TX11) (N := 7) hx hb hts i_kX11_feed_X11 hown hK hP 0 rfl rfl 0 (by decide) (hts (Cond.fieldLink RX11 15 "CompiledHouse" "tape" "LCompiledHouse$Tape;") (List.mem_cons_of_mem _ (List.mem_append_left _ (List.mem_of_getElem? (i := 0) rfl)))) (fun _ h9 => h9) rfl dX11_feed_16 ?_
  refine lv_iload_n hx hb dX11_feed_19 rfl (lv_at hl 1 rfl) ?_
  have hPc := hP.sub (ws' := [(h1, .inr (9, [.ref h2, .int 0])), (h2, .inl (cB, 4000, .inl (fun _ => 0)))]) [1, 2] rfl
  have hDc := hD.sub (ws' := [(h1, .inr (9, [.ref h2, .int 0])), (h2, .inl (cB, 4000, .inl (fun _ => 0)))]) [1, 2] (by decide) rfl
  have hFc := va_free (wc := [(h1, .inr (9, [.ref h2, .int 0])), (h2, .inl (cB, 4000, .inl (fun _ => 0)))]) hD hS hA [1, 2] rfl
  refine va_callv (va_runV (As := [.int p0]) (rest := []) ⟨hx, hb, hml, hown, hts⟩ (kX9_take l dC dI cI cB cZ h1 h2 H.size p0) (cwV 1 hts g_kX11_feed_2 rfl rfl rfl (by decide +kernel) ⟨Nat.le_of_ble_eq_true rfl, Nat.le_of_ble_eq_true rfl⟩) ⟨fun a U g mk q => by obtain ⟨q0, q1, qP, qK, qD⟩ := q; exact ⟨q0, q1, qP, va_K.moved (u := U) (U := U.calling g mk a) (Vm.Alike.refl U.vm) qK, qD⟩, va_recv hK hPc (ci := 9) (q0 := 0) rfl rfl, fun U hU hW => ⟨rfl, by rw [hU], by rw [hU]; exact hPc, va_K.moved hW.alike hK, hDc.weaken (fun _ _ _ _ => trivial)⟩⟩ rfl rfl hl.1 rfl (lv_room (Nat.le_of_ble_eq_true rfl)) dX11_feed_20 ⟨Nat.le_of_ble_eq_true rfl, Nat.le_of_ble_eq_true rfl⟩) hS (fun q _ h => hFc q h) hFc (fun u t H_1 locs ht hvm hw hB hz1 hk1 hS1 => ?_)
  obtain ⟨f_2, hP1, hK1, hD1⟩ := hB
  rw [ht] at hP1
  obtain ⟨hP2, hD2⟩ := va_join (wr := [(h0, .inr (11, [.ref h1, .ref g0, .ref g1, .ref g2, .ref g3, .ref g4, .ref g5]))]) (w1 := [(h1, .inr (9, [.ref h2, .int 4])), (h2, .inl (cB, 4000, .inl f_2))]) hP hD [1, 2] [0] rfl rfl (by decide) (by decide) hk1 hFc hP1 hD1
  clear hP1 hK1 hD1
  clear hP hD hS hPc hDc hFc hk1 hz1 ht hvm
  have hP1 := hP2
  have hD1 := hD2
  clear hP2 hD2
  have hP : va_P (dC, dI) vwCl [(h0, .inr (11, [.ref h1, .ref g0, .ref g1, .ref g2, .ref g3, .ref g4, .ref g5])), (h1, .inr (9, [.ref h2, .int 4])), (h2, .inl (cB, 4000, .inl f_2))] H_1 := hP1
  have hD : va_D A [(h0, .inr (11, [.ref h1, .ref g0, .ref g1, .ref g2, .ref g3, .ref g4, .ref g5])), (h1, .inr (9, [.ref h2, .int 4])), (h2, .inl (cB, 4000, .inl f_2))] := hD1
  have hS := hS1
  clear hP1 hD1 hS1
  clear hw
  refine lv_aload_n hx hb dX11_feed_23 rfl (lv_at hl 0 rfl) ?_
  refine va_get (D := (dC, dI)) (ci := 11) (v := .ref h1) (C := RX11) (T := TX11) (N := 7) hx hb hts i_kX11_feed_X11 hown hK hP 0 rfl rfl 0 (by decide) (hts (Cond.fieldLink RX11 15 "CompiledHouse" "tape" "LCompiledHouse$Tape;") (List.mem_cons_of_mem _ (List.mem_append_left _ (List.mem_of_getElem? (i := 0) rfl)))) (fun _ h9 => h9) rfl dX11_feed_24 ?_
  refine lv_iload_n hx hb dX11_feed_27 rfl (lv_at hl 2 rfl) ?_
  have hPc := hP.sub (ws' := [(h1, .inr (9, [.ref h2, .int 4])), (h2, .inl (cB, 4000, .inl f_2))]) [1, 2] rfl
  have hDc := hD.sub (ws' := [(h1, .inr (9, [.ref h2, .int 4])), (h2, .inl (cB, 4000, .inl f_2))]) [1, 2] (by decide) rfl
  have hFc := va_free (wc := [(h1, .inr (9, [.ref h2, .int 4])), (h2, .inl (cB, 4000, .inl f_2))]) hD hS hA [1, 2] rfl
  refine va_callv (va_runV (As := [.int p1]) (rest := []) ⟨hx, hb, hml, hown, hts⟩ (kX9_take_v1 l dC dI cI cB cZ h1 h2 H_1.size f_2 p1) (cwV 1 hts g_kX11_feed_3 rfl rfl rfl (by decide +kernel) ⟨Nat.le_of_ble_eq_true rfl, Nat.le_of_ble_eq_true rfl⟩) ⟨fun a U g mk q => by obtain ⟨q0, q1, qP, qK, qD⟩ := q; exact ⟨q0, q1, qP, va_K.moved (u := U) (U := U.calling g mk a) (Vm.Alike.refl U.vm) qK, qD⟩, va_recv hK hPc (ci := 9) (q0 := 0) rfl rfl, fun U hU hW => ⟨rfl, by rw [hU], by rw [hU]; exact hPc, va_K.moved hW.alike hK, hDc.weaken (fun _ _ _ _ => trivial)⟩⟩ rfl rfl hl.1 rfl (lv_room (Nat.le_of_ble_eq_true rfl)) dX11_feed_28 ⟨Nat.le_of_ble_eq_true rfl, Nat.le_of_ble_eq_true rfl⟩) hS (fun q _ h => hFc q h) hFc (fun u t H_3 locs ht hvm hw hB hz1 hk1 hS1 => ?_)
  obtain ⟨f_4, hP1, hK1, hD1⟩ := hB
  rw [ht] at hP1
  obtain ⟨hP2, hD2⟩ := va_join (wr := [(h0, .inr (11, [.ref h1, .ref g0, .ref g1, .ref g2, .ref g3, .ref g4, .ref g5]))]) (w1 := [(h1, .inr (9, [.ref h2, .int 8])), (h2, .inl (cB, 4000, .inl f_4))]) hP hD [1, 2] [0] rfl rfl (by decide) (by decide) hk1 hFc hP1 hD1
  clear hP1 hK1 hD1
  clear hP hD hS hPc hDc hFc hk1 hz1 ht hvm
  have hP1 := hP2
  have hD1 := hD2
  clear hP2 hD2
  have hP : va_P (dC, dI) vwCl [(h0, .inr (11, [.ref h1, .ref g0, .ref g1, .ref g2, .ref g3, .ref g4, .ref g5])), (h1, .inr (9, [.ref h2, .int 8])), (h2, .inl (cB, 4000, .inl f_4))] H_3 := hP1
  have hD : va_D A [(h0, .inr (11, [.ref h1, .ref g0, .ref g1, .ref g2, .ref g3, .ref g4, .ref g5])), (h1, .inr (9, [.ref h2, .int 8])), (h2, .inl (cB, 4000, .inl f_4))] := hD1
  have hS := hS1
  clear hP1 hD1 hS1
  clear hw
  refine lv_aload_n hx hb dX11_feed_31 rfl (lv_at hl 0 rfl) ?_
  refine va_get (D := (dC, dI)) (ci := 11) (v := .ref h1) (C := RX11) (T := TX11) (N := 7) hx hb hts i_kX11_feed_X11 hown hK hP 0 rfl rfl 0 (by decide) (hts (Cond.fieldLink RX11 15 "CompiledHouse" "tape" "LCompiledHouse$Tape;") (List.mem_cons_of_mem _ (List.mem_append_left _ (List.mem_of_getElem? (i := 0) rfl)))) (fun _ h9 => h9) rfl dX11_feed_32 ?_
  refine lv_iload_n hx hb dX11_feed_35 rfl (lv_at hl 3 rfl) ?_
  have hPc := hP.sub (ws' := [(h1, .inr (9, [.ref h2, .int 8])), (h2, .inl (cB, 4000, .inl f_4))]) [1, 2] rfl
  have hDc := hD.sub (ws' := [(h1, .inr (9, [.ref h2, .int 8])), (h2, .inl (cB, 4000, .inl f_4))]) [1, 2] (by decide) rfl
  have hFc := va_free (wc := [(h1, .inr (9, [.ref h2, .int 8])), (h2, .inl (cB, 4000, .inl f_4))]) hD hS hA [1, 2] rfl
  refine va_callv (va_runV (As := [.int p2]) (rest := []) ⟨hx, hb, hml, hown, hts⟩ (kX9_take_v2 l dC dI cI cB cZ h1 h2 H_3.size f_4 p2) (cwV 1 hts g_kX11_feed_4 rfl rfl rfl (by decide +kernel) ⟨Nat.le_of_ble_eq_true rfl, Nat.le_of_ble_eq_true rfl⟩) ⟨fun a U g mk q => by obtain ⟨q0, q1, qP, qK, qD⟩ := q; exact ⟨q0, q1, qP, va_K.moved (u := U) (U := U.calling g mk a) (Vm.Alike.refl U.vm) qK, qD⟩, va_recv hK hPc (ci := 9) (q0 := 0) rfl rfl, fun U hU hW => ⟨rfl, by rw [hU], by rw [hU]; exact hPc, va_K.moved hW.alike hK, hDc.weaken (fun _ _ _ _ => trivial)⟩⟩ rfl rfl hl.1 rfl (lv_room (Nat.le_of_ble_eq_true rfl)) dX11_feed_36 ⟨Nat.le_of_ble_eq_true rfl, Nat.le_of_ble_eq_true rfl⟩) hS (fun q _ h => hFc q h) hFc (fun u t H_5 locs ht hvm hw hB hz1 hk1 hS1 => ?_)
  obtain ⟨f_6, hP1, hK1, hD1⟩ := hB
  rw [ht] at hP1
  obtain ⟨hP2, hD2⟩ := va_join (wr := [(h0, .inr (11, [.ref h1, .ref g0, .ref g1, .ref g2, .ref g3, .ref g4, .ref g5]))]) (w1 := [(h1, .inr (9, [.ref h2, .int 12])), (h2, .inl (cB, 4000, .inl f_6))]) hP hD [1, 2] [0] rfl rfl (by decide) (by decide) hk1 hFc hP1 hD1
  clear hP1 hK1 hD1
  clear hP hD hS hPc hDc hFc hk1 hz1 ht hvm
  have hP1 := hP2
  have hD1 := hD2
  clear hP2 hD2
  have hP : va_P (dC, dI) vwCl [(h0, .inr (11, [.ref h1, .ref g0, .ref g1, .ref g2, .ref g3, .ref g4, .ref g5])), (h1, .inr (9, [.ref h2, .int 12])), (h2, .inl (cB, 4000, .inl f_6))] H_5 := hP1
  have hD : va_D A [(h0, .inr (11, [.ref h1, .ref g0, .ref g1, .ref g2, .ref g3, .ref g4, .ref g5])), (h1, .inr (9, [.ref h2, .int 12])), (h2, .inl (cB, 4000, .inl f_6))] := hD1
  have hS := hS1
  clear hP1 hD1 hS1
  clear hw
  refine lv_aload_n hx hb dX11_feed_39 rfl (lv_at hl 0 rfl) ?_
  refine va_get (D := (dC, dI)) (ci := 11) (v := .ref h1) (C := RX11) (T := TX11) (N := 7) hx hb hts i_kX11_feed_X11 hown hK hP 0 rfl rfl 0 (by decide) (hts (Cond.fieldLink RX11 15 "CompiledHouse" "tape" "LCompiledHouse$Tape;") (List.mem_cons_of_mem _ (List.mem_append_left _ (List.mem_of_getElem? (i := 0) rfl)))) (fun _ h9 => h9) rfl dX11_feed_40 ?_
  refine lv_iload hx hb dX11_feed_43 (lv_at hl 4 rfl) ?_
  have hPc := hP.sub (ws' := [(h1, .inr (9, [.ref h2, .int 12])), (h2, .inl (cB, 4000, .inl f_6))]) [1, 2] rfl
  have hDc := hD.sub (ws' := [(h1, .inr (9, [.ref h2, .int 12])), (h2, .inl (cB, 4000, .inl f_6))]) [1, 2] (by decide) rfl
  have hFc := va_free (wc := [(h1, .inr (9, [.ref h2, .int 12])), (h2, .inl (cB, 4000, .inl f_6))]) hD hS hA [1, 2] rfl
  refine va_callv (va_runV (As := [.int p3]) (rest := []) ⟨hx, hb, hml, hown, hts⟩ (kX9_take_v3 l dC dI cI cB cZ h1 h2 H_5.size f_6 p3) (cwV 1 hts g_kX11_feed_5 rfl rfl rfl (by decide +kernel) ⟨Nat.le_of_ble_eq_true rfl, Nat.le_of_ble_eq_true rfl⟩) ⟨fun a U g mk q => by obtain ⟨q0, q1, qP, qK, qD⟩ := q; exact ⟨q0, q1, qP, va_K.moved (u := U) (U := U.calling g mk a) (Vm.Alike.refl U.vm) qK, qD⟩, va_recv hK hPc (ci := 9) (q0 := 0) rfl rfl, fun U hU hW => ⟨rfl, by rw [hU], by rw [hU]; exact hPc, va_K.moved hW.alike hK, hDc.weaken (fun _ _ _ _ => trivial)⟩⟩ rfl rfl hl.1 rfl (lv_room (Nat.le_of_ble_eq_true rfl)) dX11_feed_45 ⟨Nat.le_of_ble_eq_true rfl, Nat.le_of_ble_eq_true rfl⟩) hS (fun q _ h => hFc q h) hFc (fun u t H_7 locs ht hvm hw hB hz1 hk1 hS1 => ?_)
  obtain ⟨f_8, hP1, hK1, hD1⟩ := hB
  rw [ht] at hP1
  obtain ⟨hP2, hD2⟩ := va_join (wr := [(h0, .inr (11, [.ref h1, .ref g0, .ref g1, .ref g2, .ref g3, .ref g4, .ref g5]))]) (w1 := [(h1, .inr (9, [.ref h2, .int 16])), (h2, .inl (cB, 4000, .inl f_8))]) hP hD [1, 2] [0] rfl rfl (by decide) (by decide) hk1 hFc hP1 hD1
  clear hP1 hK1 hD1
  clear hP hD hS hPc hDc hFc hk1 hz1 ht hvm
  have hP1 := hP2
  have hD1 := hD2
  clear hP2 hD2
  have hP : va_P (dC, dI) vwCl [(h0, .inr (11, [.ref h1, .ref g0, .ref g1, .ref g2, .ref g3, .ref g4, .ref g5])), (h1, .inr (9, [.ref h2, .int 16])), (h2, .inl (cB, 4000, .inl f_8))] H_7 := hP1
  have hD : va_D A [(h0, .inr (11, [.ref h1, .ref g0, .ref g1, .ref g2, .ref g3, .ref g4, .ref g5])), (h1, .inr (9, [.ref h2, .int 16])), (h2, .inl (cB, 4000, .inl f_8))] := hD1
  have hS := hS1
  clear hP1 hD1 hS1
  clear hw
  refine lv_aload_n hx hb dX11_feed_48 rfl (lv_at hl 0 rfl) ?_
  refine va_get (D := (dC, dI)) (ci := 11) (v := .ref h1) (C := RX11) (T := TX11) (N := 7) hx hb hts i_kX11_feed_X11 hown hK hP 0 rfl rfl 0 (by decide) (hts (Cond.fieldLink RX11 15 "CompiledHouse" "tape" "LCompiledHouse$Tape;") (List.mem_cons_of_mem _ (List.mem_append_left _ (List.mem_of_getElem? (i := 0) rfl)))) (fun _ h9 => h9) rfl dX11_feed_49 ?_
  refine lv_iload hx hb dX11_feed_52 (lv_at hl 5 rfl) ?_
  have hPc := hP.sub (ws' := [(h1, .inr (9, [.ref h2, .int 16])), (h2, .inl (cB, 4000, .inl f_8))]) [1, 2] rfl
  have hDc := hD.sub (ws' := [(h1, .inr (9, [.ref h2, .int 16])), (h2, .inl (cB, 4000, .inl f_8))]) [1, 2] (by decide) rfl
  have hFc := va_free (wc := [(h1, .inr (9, [.ref h2, .int 16])), (h2, .inl (cB, 4000, .inl f_8))]) hD hS hA [1, 2] rfl
  refine va_callv (va_runV (As := [.int p4]) (rest := []) ⟨hx, hb, hml, hown, hts⟩ (kX9_take_v4 l dC dI cI cB cZ h1 h2 H_7.size f_8 p4) (cwV 1 hts g_kX11_feed_6 rfl rfl rfl (by decide +kernel) ⟨Nat.le_of_ble_eq_true rfl, Nat.le_of_ble_eq_true rfl⟩) ⟨fun a U g mk q => by obtain ⟨q0, q1, qP, qK, qD⟩ := q; exact ⟨q0, q1, qP, va_K.moved (u := U) (U := U.calling g mk a) (Vm.Alike.refl U.vm) qK, qD⟩, va_recv hK hPc (ci := 9) (q0 := 0) rfl rfl, fun U hU hW => ⟨rfl, by rw [hU], by rw [hU]; exact hPc, va_K.moved hW.alike hK, hDc.weaken (fun _ _ _ _ => trivial)⟩⟩ rfl rfl hl.1 rfl (lv_room (Nat.le_of_ble_eq_true rfl)) dX11_feed_54 ⟨Nat.le_of_ble_eq_true rfl, Nat.le_of_ble_eq_true rfl⟩) hS (fun q _ h => hFc q h) hFc (fun u t H_9 locs ht hvm hw hB hz1 hk1 hS1 => ?_)
  obtain ⟨f_10, hP1, hK1, hD1⟩ := hB
  rw [ht] at hP1
  obtain ⟨hP2, hD2⟩ := va_join (wr := [(h0, .inr (11, [.ref h1, .ref g0, .ref g1, .ref g2, .ref g3, .ref g4, .ref g5]))]) (w1 := [(h1, .inr (9, [.ref h2, .int 20])), (h2, .inl (cB, 4000, .inl f_10))]) hP hD [1, 2] [0] rfl rfl (by decide) (by decide) hk1 hFc hP1 hD1
  clear hP1 hK1 hD1
  clear hP hD hS hPc hDc hFc hk1 hz1 ht hvm
  have hP1 := hP2
  have hD1 := hD2
  clear hP2 hD2
  have hP : va_P (dC, dI) vwCl [(h0, .inr (11, [.ref h1, .ref g0, .ref g1, .ref g2, .ref g3, .ref g4, .ref g5])), (h1, .inr (9, [.ref h2, .int 20])), (h2, .inl (cB, 4000, .inl f_10))] H_9 := hP1
  have hD : va_D A [(h0, .inr (11, [.ref h1, .ref g0, .ref g1, .ref g2, .ref g3, .ref g4, .ref g5])), (h1, .inr (9, [.ref h2, .int 20])), (h2, .inl (cB, 4000, .inl f_10))] := hD1
  have hS := hS1
  clear hP1 hD1 hS1
  clear hw
  refine lv_aload_n hx hb dX11_feed_57 rfl (lv_at hl 0 rfl) ?_
  refine va_get (D := (dC, dI)) (ci := 11) (v := .ref h1) (C := RX11) (T := TX11) (N := 7) hx hb hts i_kX11_feed_X11 hown hK hP 0 rfl rfl 0 (by decide) (hts (Cond.fieldLink RX11 15 "CompiledHouse" "tape" "LCompiledHouse$Tape;") (List.mem_cons_of_mem _ (List.mem_append_left _ (List.mem_of_getElem? (i := 0) rfl)))) (fun _ h9 => h9) rfl dX11_feed_58 ?_
  refine va_get (D := (dC, dI)) (ci := 9) (v := .int 20) (C := RX9) (T := TX9) (N := 2) hx hb hts i_kX11_feed_X9 hown hK hP 1 rfl rfl 1 (by decide) (hts (Cond.fieldLink RX11 82 "CompiledHouse$Tape" "count" "I") (List.mem_cons_of_mem _ (List.mem_append_left _ (List.mem_of_getElem? (i := 1) rfl)))) (fun _ h9 => h9) rfl dX11_feed_61 ?_
  have hP9 := hP.sub (ws' := [(h0, .inr (11, [.ref h1, .ref g0, .ref g1, .ref g2, .ref g3, .ref g4, .ref g5])), (h1, .inr (9, [.ref h2, .int 20])), (h2, .inl (cB, 4000, .inl f_10))]) [0, 1, 2] rfl
  have hD9 := hD.sub (ws' := [(h0, .inr (11, [.ref h1, .ref g0, .ref g1, .ref g2, .ref g3, .ref g4, .ref g5])), (h1, .inr (9, [.ref h2, .int 20])), (h2, .inl (cB, 4000, .inl f_10))]) [0, 1, 2] (by decide) rfl
  refine W.widen (k := 0) (n := 0) (by decide) (by decide) ?_
  exact W.iret (v := 20) hx hb hr (fun t ht hW => ⟨⟨20, (), rfl, rfl, f_10, by rw [ht]; exact hP9, va_K.moved hW.alike hK, hD9⟩, hS.F ht⟩) hS.2.2 dX11_feed_64
def vs_kX12_feed : List Cond := Cond.code yX12_feed cX12_feed 8 (some .int) :: (([Cond.fieldLink RX12 153 "CompiledHouseModel" "taped" "I", Cond.fieldLink RX12 9 "CompiledHouseModel" "tape" "[I"] : List Cond) ++ (wsX120))
theorem i_kX12_feed_X12 : ∀ w ∈ wsX120, w ∈ vs_kX12_feed := fun w h => List.mem_cons_of_mem _ (List.mem_append_right _ h)
set_option maxHeartbeats 4000000 in
set_option maxRecDepth 100000 in
theorem kX12_feed (l : Launch) (dC : Nat → ClassId) (dI : Nat → Nat → Nat) (cI cB cZ : ClassId) (h0 : Nat) (h1 : Nat) (g0 : Nat) (g1 : Nat) (g2 : Nat) (g3 : Nat) (g4 : Nat) (g5 : Nat) (g6 : Nat) (g7 : Nat) (g8 : Nat) (g9 : Nat) (g10 : Nat) (g11 : Nat) (g12 : Nat) (g13 : Nat) (g14 : Nat) (g15 : Nat) (g16 : Nat) (g17 : Nat) (g18 : Nat) (g19 : Nat) (g20 : Nat) (g21 : Nat) (g22 : Nat) (g23 : Nat) (g24 : Nat) (g25 : Nat) (g26 : Nat) (g27 : Nat) (g28 : Nat) (g29 : Nat) (g30 : Nat) (g31 : Nat) (g32 : Nat) (g33 : Nat) (g34 : Nat) (g35 : Nat) (g36 : Nat) (g37 : Nat) (g38 : Nat) (g39 : Nat) (g40 : Nat) (g41 : Nat) (g42 : Nat) (g43 : Nat) (g44 : Nat) (g45 : Nat) (sz : Nat) (p0 : Int32) (p1 : Int32) (p2 : Int32) (p3 : Int32) (p4 : Int32) : Met l yX12_feed vs_kX12_feed ({ frames := 0, cells := 0, slots := 0, locals := 0 }) (va_Pc [.ref h0, .int p0, .int p1, .int p2, .int p3, .int p4] (fun U => U.heap.size = sz ∧ va_P (dC, dI) vwCl [(h0, .inr (12, [.ref h1, .ref g0, .int 0, .int 0, .ref g1, .ref g2, .ref g3, .int 0, .int 0, .ref g4, .ref g5, .ref g6, .ref g7, .int 0, .int 0, .int 0, .ref g8, .ref g9, .ref g10, .ref g11, .ref g12, .ref g13, .ref g14, .ref g15, .int 0, .ref g16, .ref g17, .ref g18, .ref g19, .ref g20, .ref g21, .ref g22, .ref g23, .ref g24, .ref g25, .int 0, .int 0, .int 0, .ref g26, .ref g27, .ref g28, .ref g29, .int 0, .int 0, .int 0, .int 0, .int 0, .int 0, .int 0, .int 0, .int 0, .int 0, .int 0, .int 0, .int 0, .int 0, .ref g30, .ref g31, .ref g32, .ref g33, .int 0, .int 0, .int 0, .int 0, .int 0, .int 0, .int 0, .ref g34, .ref g35, .ref g36, .int 0, .ref g37, .int 0, .int 0, .int 0, .int 0, .int 0, .int 0, .int 0, .int 0, .int 0, .int 0, .int 0, .int 0, .int 0, .int 0, .int 0, .int 0, .ref g38, .ref g39, .ref g40, .ref g41, .ref g42, .ref g43, .ref g44, .ref g45, .int 0])), (h1, .inl (cI, 4000, .inl (fun _ => 0)))] U.heap ∧ va_K (dC, dI) vwCl (ty3 cI cB cZ) U ∧ va_D (fun _ => True) [(h0, .inr (12, [.ref h1, .ref g0, .int 0, .int 0, .ref g1, .ref g2, .ref g3, .int 0, .int 0, .ref g4, .ref g5, .ref g6, .ref g7, .int 0, .int 0, .int 0, .ref g8, .ref g9, .ref g10, .ref g11, .ref g12, .ref g13, .ref g14, .ref g15, .int 0, .ref g16, .ref g17, .ref g18, .ref g19, .ref g20, .ref g21, .ref g22, .ref g23, .ref g24, .ref g25, .int 0, .int 0, .int 0, .ref g26, .ref g27, .ref g28, .ref g29, .int 0, .int 0, .int 0, .int 0, .int 0, .int 0, .int 0, .int 0, .int 0, .int 0, .int 0, .int 0, .int 0, .int 0, .ref g30, .ref g31, .ref g32, .ref g33, .int 0, .int 0, .int 0, .int 0, .int 0, .int 0, .int 0, .ref g34, .ref g35, .ref g36, .int 0, .ref g37, .int 0, .int 0, .int 0, .int 0, .int 0, .int 0, .int 0, .int 0, .int 0, .int 0, .int 0, .int 0, .int 0, .int 0, .int 0, .int 0, .ref g38, .ref g39, .ref g40, .ref g41, .ref g42, .ref g43, .ref g44, .ref g45, .int 0])), (h1, .inl (cI, 4000, .inl (fun _ => 0)))])) (va_Qi (fun (r : Int32) (_ : Unit) => r = 20) (fun (_ : Unit) (t : State) => ∃ (k0 : Nat → Int32), va_P (dC, dI) vwCl [(h0, .inr (12, [.ref h1, .ref g0, .int 20, .int 0, .ref g1, .ref g2, .ref g3, .int 0, .int 0, .ref g4, .ref g5, .ref g6, .ref g7, .int 0, .int 0, .int 0, .ref g8, .ref g9, .ref g10, .ref g11, .ref g12, .ref g13, .ref g14, .ref g15, .int 0, .ref g16, .ref g17, .ref g18, .ref g19, .ref g20, .ref g21, .ref g22, .ref g23, .ref g24, .ref g25, .int 0, .int 0, .int 0, .ref g26, .ref g27, .ref g28, .ref g29, .int 0, .int 0, .int 0, .int 0, .int 0, .int 0, .int 0, .int 0, .int 0, .int 0, .int 0, .int 0, .int 0, .int 0, .ref g30, .ref g31, .ref g32, .ref g33, .int 0, .int 0, .int 0, .int 0, .int 0, .int 0, .int 0, .ref g34, .ref g35, .ref g36, .int 0, .ref g37, .int 0, .int 0, .int 0, .int 0, .int 0, .int 0, .int 0, .int 0, .int 0, .int 0, .int 0, .int 0, .int 0, .int 0, .int 0, .int 0, .ref g38, .ref g39, .ref g40, .ref g41, .ref g42, .ref g43, .ref g44, .ref g45, .int 0])), (h1, .inl (cI, 4000, .inl k0))] t.heap ∧ va_K (dC, dI) vwCl (ty3 cI cB cZ) t ∧ va_D (va_A [(h0, .inr (12, [.ref h1, .ref g0, .int 0, .int 0, .ref g1, .ref g2, .ref g3, .int 0, .int 0, .ref g4, .ref g5, .ref g6, .ref g7, .int 0, .int 0, .int 0, .ref g8, .ref g9, .ref g10, .ref g11, .ref g12, .ref g13, .ref g14, .ref g15, .int 0, .ref g16, .ref g17, .ref g18, .ref g19, .ref g20, .ref g21, .ref g22, .ref g23, .ref g24, .ref g25, .int 0, .int 0, .int 0, .ref g26, .ref g27, .ref g28, .ref g29, .int 0, .int 0, .int 0, .int 0, .int 0, .int 0, .int 0, .int 0, .int 0, .int 0, .int 0, .int 0, .int 0, .int 0, .ref g30, .ref g31, .ref g32, .ref g33, .int 0, .int 0, .int 0, .int 0, .int 0, .int 0, .int 0, .ref g34, .ref g35, .ref g36, .int 0, .ref g37, .int 0, .int 0, .int 0, .int 0, .int 0, .int 0, .int 0, .int 0, .int 0, .int 0, .int 0, .int 0, .int 0, .int 0, .int 0, .int 0, .ref g38, .ref g39, .ref g40, .ref g41, .ref g42, .ref g43, .ref g44, .ref g45, .int 0])), (h1, .inl (cI, 4000, .inl (fun _ => 0)))] sz) [(h0, .inr (12, [.ref h1, .ref g0, .int 20, .int 0, .ref g1, .ref g2, .ref g3, .int 0, .int 0, .ref g4, .ref g5, .ref g6, .ref g7, .int 0, .int 0, .int 0, .ref g8, .ref g9, .ref g10, .ref g11, .ref g12, .ref g13, .ref g14, .ref g15, .int 0, .ref g16, .ref g17, .ref g18, .ref g19, .ref g20, .ref g21, .ref g22, .ref g23, .ref g24, .ref g25, .int 0, .int 0, .int 0, .ref g26, .ref g27, .ref g28, .ref g29, .int 0, .int 0, .int 0, .int 0, .int 0, .int 0, .int 0, .int 0, .int 0, .int 0, .int 0, .int 0, .int 0, .int 0, .ref g30, .ref g31, .ref g32, .ref g33, .int 0, .int 0, .int 0, .int 0, .int 0, .int 0, .int 0, .ref g34, .ref g35, .ref g36, .int 0, .ref g37, .int 0, .int 0, .int 0, .int 0, .int 0, .int 0, .int 0, .int 0, .int 0, .int 0, .int 0, .int 0, .int 0, .int 0, .int 0, .int 0, .ref g38, .ref g39, .ref g40, .ref g41, .ref g42, .ref g43, .ref g44, .ref g45, .int 0])), (h1, .inl (cI, 4000, .inl k0))]) (va_A [(h0, .inr (12, [.ref h1, .ref g0, .int 0, .int 0, .ref g1, .ref g2, .ref g3, .int 0, .int 0, .ref g4, .ref g5, .ref g6, .ref g7, .int 0, .int 0, .int 0, .ref g8, .ref g9, .ref g10, .ref g11, .ref g12, .ref g13, .ref g14, .ref g15, .int 0, .ref g16, .ref g17, .ref g18, .ref g19, .ref g20, .ref g21, .ref g22, .ref g23, .ref g24, .ref g25, .int 0, .int 0, .int 0, .ref g26, .ref g27, .ref g28, .ref g29, .int 0, .int 0, .int 0, .int 0, .int 0, .int 0, .int 0, .int 0, .int 0, .int 0, .int 0, .int 0, .int 0, .int 0, .ref g30, .ref g31, .ref g32, .ref g33, .int 0, .int 0, .int 0, .int 0, .int 0, .int 0, .int 0, .ref g34, .ref g35, .ref g36, .int 0, .ref g37, .int 0, .int 0, .int 0, .int 0, .int 0, .int 0, .int 0, .int 0, .int 0, .int 0, .int 0, .int 0, .int 0, .int 0, .int 0, .int 0, .ref g38, .ref g39, .ref g40, .ref g41, .ref g42, .ref g43, .ref g44, .ref g45, .int 0])), (h1, .inl (cI, 4000, .inl (fun _ => 0)))] sz)) 0 0 (va_A [(h0, .inr (12, [.ref h1, .ref g0, .int 0, .int 0, .ref g1, .ref g2, .ref g3, .int 0, .int 0, .ref g4, .ref g5, .ref g6, .ref g7, .int 0, .int 0, .int 0, .ref g8, .ref g9, .ref g10, .ref g11, .ref g12, .ref g13, .ref g14, .ref g15, .int 0, .ref g16, .ref g17, .ref g18, .ref g19, .ref g20, .ref g21, .ref g22, .ref g23, .ref g24, .ref g25, .int 0, .int 0, .int 0, .ref g26, .ref g27, .ref g28, .ref g29, .int 0, .int 0, .int 0, .int 0, .int 0, .int 0, .int 0, .int 0, .int 0, .int 0, .int 0, .int 0, .int 0, .int 0, .ref g30, .ref g31, .ref g32, .ref g33, .int 0, .int 0, .int 0, .int 0, .int 0, .int 0, .int 0, .ref g34, .ref g35, .ref g36, .int 0, .ref g37, .int 0, .int 0, .int 0, .int 0, .int 0, .int 0, .int 0, .int 0, .int 0, .int 0, .int 0, .int 0, .int 0, .int 0, .int 0, .int 0, .ref g38, .ref g39, .ref g40, .ref g41, .ref g42, .ref g43, .ref g44, .ref g45, .int 0])), (h1, .inl (cI, 4000, .inl (fun _ => 0)))] sz) := by
  refine Met.ofW (cc := cX12_feed) (maxL := 8) (ret := (some .int)) (by decide) rfl ?_
  intro p e s m args below meth c s₁ B hml hv
  obtain ⟨rfl, hsz, hP, hK, hD0⟩ := hv
  have hx := B.exec
  have hb := B.bytes
  have hr := B.returns
  have hts := atoms_spec (ws := vs_kX12_feed) B.pre
  have hown : s.vm.findClass RX12 = some m.cls := findClass_of_methodNamed B.named
  have hlocks := B.notSynchronized
  subst hsz
  have hD := hD0.self (sz := s.heap.size)
  clear hD0
  generalize hAe : va_A [(h0, .inr (12, [.ref h1, .ref g0, .int 0, .int 0, .ref g1, .ref g2, .ref g3, .int 0, .int 0, .ref g4, .ref g5, .ref g6, .ref g7, .int 0, .int 0, .int 0, .ref g8, .ref g9, .ref g10, .ref g11, .ref g12, .ref g13, .ref g14, .ref g15, .int 0, .ref g16, .ref g17, .ref g18, .ref g19, .ref g20, .ref g21, .ref g22, .ref g23, .ref g24, .ref g25, .int 0, .int 0, .int 0, .ref g26, .ref g27, .ref g28, .ref g29, .int 0, .int 0, .int 0, .int 0, .int 0, .int 0, .int 0, .int 0, .int 0, .int 0, .int 0, .int 0, .int 0, .int 0, .ref g30, .ref g31, .ref g32, .ref g33, .int 0, .int 0, .int 0, .int 0, .int 0, .int 0, .int 0, .ref g34, .ref g35, .ref g36, .int 0, .ref g37, .int 0, .int 0, .int 0, .int 0, .int 0, .int 0, .int 0, .int 0, .int 0, .int 0, .int 0, .int 0, .int 0, .int 0, .int 0, .int 0, .ref g38, .ref g39, .ref g40, .ref g41, .ref g42, .ref g43, .ref g44, .ref g45, .int 0])), (h1, .inl (cI, 4000, .inl (fun _ => 0)))] s.heap.size = A at hD ⊢
  have hA : ∀ q : Nat, s.heap.size ≤ q → A q := fun q h => by rw [← hAe]; exact Or.inr h
  clear hAe
  have hS : va_S A s.heap s.heap [] := va_S.rf
  have hl := lv_entry ([.ref h0, .int p0, .int p1, .int p2, .int p3, .int p4]) (n := 8) (Nat.le_of_ble_eq_true rfl)
  rw [lg_entry_eq]
  generalize (lg_sl ([.ref h0, .int p0, .int p1, .int p2, .int p3, .int p4]) ++ List.replicate (8 - (lg_sl ([.ref h0, .int p0, .int p1, .int p2, .int p3, .int p4])).length) Slot.unset).toArray = ls at hl ⊢
  replace hl : lv_has ls 8 [(0, .ref h0), (1, .int p0), (2, .int p1), (3, .int p2), (4, .int p3), (5, .int p4)] := hl
  refine my_st (fun H locs eH el => ?_)
  replace hP : va_P (dC, dI) vwCl [(h0, .inr (12, [.ref h1, .ref g0, .int 0, .int 0, .ref g1, .ref g2, .ref g3, .int 0, .int 0, .ref g4, .ref g5, .ref g6, .ref g7, .int 0, .int 0, .int 0, .ref g8, .ref g9, .ref g10, .ref g11, .ref g12, .ref g13, .ref g14, .ref g15, .int 0, .ref g16, .ref g17, .ref g18, .ref g19, .ref g20, .ref g21, .ref g22, .ref g23, .ref g24, .ref g25, .int 0, .int 0, .int 0, .ref g26, .ref g27, .ref g28, .ref g29, .int 0, .int 0, .int 0, .int 0, .int 0, .int 0, .int 0, .int 0, .int 0, .int 0, .int 0, .int 0, .int 0, .int 0, .ref g30, .ref g31, .ref g32, .ref g33, .int 0, .int 0, .int 0, .int 0, .int 0, .int 0, .int 0, .ref g34, .ref g35, .ref g36, .int 0, .ref g37, .int 0, .int 0, .int 0, .int 0, .int 0, .int 0, .int 0, .int 0, .int 0, .int 0, .int 0, .int 0, .int 0, .int 0, .int 0, .int 0, .ref g38, .ref g39, .ref g40, .ref g41, .ref g42, .ref g43, .ref g44, .ref g45, .int 0])), (h1, .inl (cI, 4000, .inl (fun _ => 0)))] H := by rw [eH]; exact hP
  replace hS : va_S A s.heap H locs := by rw [eH, el]; exact hS
  clear eH el
  refine lv_aload_n hx hb dX12_feed_0 rfl (lv_at hl 0 rfl) ?_
  refine va_get (D := (dC, dI)) (ci := 12) (v := .int 0) (C := RX12) (T := TX12) (N := 97) hx hb hts i_kX12_feed_X12 hown hK hP 0 rfl rfl 2 (by decide) (hts (Cond.fieldLink RX12 153 "CompiledHouseModel" "taped" "I") (List.mem_cons_of_mem _ (List.mem_append_left _ (List.mem_of_getElem? (i := 0) rfl)))) (fun _ h9 => h9) rfl dX12_feed_1 ?_
  refine lv_bipush (v := 20) hx hb dX12_feed_4 (by decide) ?_
  refine lv_iadd hx hb dX12_feed_6 ?_
  refine my_top 20 (by decide) ?_
  refine lv_sipush (v := 4000) hx hb dX12_feed_7 (by decide) ?_
  refine lv_icmp_le (tgt := 15) hx hb dX12_feed_10 (by decide) (fun _ => ?_) (fun c_0 => absurd (by decide) c_0)
  refine lv_iconst (v := 0) hx hb dX12_feed_15 (by decide) ?_
  refine lv_istore (lv' := [(6, .int 0), (0, .ref h0), (1, .int p0), (2, .int p1), (3, .int p2), (4, .int p3), (5, .int p4)]) hx hb dX12_feed_16 hl (by decide) rfl (fun ls hl => ?_)
  obtain ⟨kk, ekk⟩ : ∃ k : Nat, k = 0 := ⟨_, rfl⟩
  obtain ⟨xk, exk⟩ : ∃ x : Int32, x = nI kk := ⟨_, rfl⟩
  replace hl : lv_has ls 8 [(6, .int xk), (0, .ref h0), (1, .int p0), (2, .int p1), (3, .int p2), (4, .int p3), (5, .int p4)] := by rw [exk, ekk, nI_0]; exact hl
  obtain ⟨nn, enn⟩ : ∃ n : Nat, n + kk = 20 := ⟨20, by omega⟩
  clear ekk
  obtain ⟨fk, efk⟩ : ∃ f : Nat → Int32, f = (fun _ => 0) := ⟨_, rfl⟩
  replace hP : va_P (dC, dI) vwCl [(h0, .inr (12, [.ref h1, .ref g0, .int 0, .int 0, .ref g1, .ref g2, .ref g3, .int 0, .int 0, .ref g4, .ref g5, .ref g6, .ref g7, .int 0, .int 0, .int 0, .ref g8, .ref g9, .ref g10, .ref g11, .ref g12, .ref g13, .ref g14, .ref g15, .int 0, .ref g16, .ref g17, .ref g18, .ref g19, .ref g20, .ref g21, .ref g22, .ref g23, .ref g24, .ref g25, .int 0, .int 0, .int 0, .ref g26, .ref g27, .ref g28, .ref g29, .int 0, .int 0, .int 0, .int 0, .int 0, .int 0, .int 0, .int 0, .int 0, .int 0, .int 0, .int 0, .int 0, .int 0, .ref g30, .ref g31, .ref g32, .ref g33, .int 0, .int 0, .int 0, .int 0, .int 0, .int 0, .int 0, .ref g34, .ref g35, .ref g36, .int 0, .ref g37, .int 0, .int 0, .int 0, .int 0, .int 0, .int 0, .int 0, .int 0, .int 0, .int 0, .int 0, .int 0, .int 0, .int 0, .int 0, .int 0, .ref g38, .ref g39, .ref g40, .ref g41, .ref g42, .ref g43, .ref g44, .ref g45, .int 0])), (h1, .inl (cI, 4000, .inl fk))] H := by rw [efk]; exact hP
  replace hD : va_D A [(h0, .inr (12, [.ref h1, .ref g0, .int 0, .int 0, .ref g1, .ref g2, .ref g3, .int 0, .int 0, .ref g4, .ref g5, .ref g6, .ref g7, .int 0, .int 0, .int 0, .ref g8, .ref g9, .ref g10, .ref g11, .ref g12, .ref g13, .ref g14, .ref g15, .int 0, .ref g16, .ref g17, .ref g18, .ref g19, .ref g20, .ref g21, .ref g22, .ref g23, .ref g24, .ref g25, .int 0, .int 0, .int 0, .ref g26, .ref g27, .ref g28, .ref g29, .int 0, .int 0, .int 0, .int 0, .int 0, .int 0, .int 0, .int 0, .int 0, .int 0, .int 0, .int 0, .int 0, .int 0, .ref g30, .ref g31, .ref g32, .ref g33, .int 0, .int 0, .int 0, .int 0, .int 0, .int 0, .int 0, .ref g34, .ref g35, .ref g36, .int 0, .ref g37, .int 0, .int 0, .int 0, .int 0, .int 0, .int 0, .int 0, .int 0, .int 0, .int 0, .int 0, .int 0, .int 0, .int 0, .int 0, .int 0, .ref g38, .ref g39, .ref g40, .ref g41, .ref g42, .ref g43, .ref g44, .ref g45, .int 0])), (h1, .inl (cI, 4000, .inl fk))] := by rw [efk]; exact hD
  clear efk
  induction nn generalizing kk xk fk H locs ls with
  | zero =>
    obtain rfl : kk = 20 := by omega
    obtain rfl : xk = 20 := exk.trans (by decide)
    refine lv_iload hx hb dX12_feed_18 (lv_at hl 0 rfl) ?_
    refine lv_bipush (v := 20) hx hb dX12_feed_20 (by decide) ?_
    refine lv_icmp_ge (tgt := 108) hx hb dX12_feed_22 (by decide) (fun _ => ?_) (fun c_0 => absurd (by decide) c_0)
    refine lv_aload_n hx hb dX12_feed_108 rfl (lv_at hl 1 rfl) ?_
    refine lv_dup hx hb dX12_feed_109 rfl ?_
    refine va_get (D := (dC, dI)) (ci := 12) (v := .int 0) (C := RX12) (T := TX12) (N := 97) hx hb hts i_kX12_feed_X12 hown hK hP 0 rfl rfl 2 (by decide) (hts (Cond.fieldLink RX12 153 "CompiledHouseModel" "taped" "I") (List.mem_cons_of_mem _ (List.mem_append_left _ (List.mem_of_getElem? (i := 0) rfl)))) (fun _ h9 => h9) rfl dX12_feed_110 ?_
    refine lv_bipush (v := 20) hx hb dX12_feed_113 (by decide) ?_
    refine lv_iadd hx hb dX12_feed_115 ?_
    refine my_top 20 (by decide) ?_
    refine va_put (D := (dC, dI)) (ci := 12) (v := .int 20) (ty := .int) (C := RX12) (T := TX12) (N := 97) hx hb hts i_kX12_feed_X12 tyX12 tyX12_ok nmX12 hown hK hP hD hS 0 rfl rfl 2 (by decide) (hts (Cond.fieldLink RX12 153 "CompiledHouseModel" "taped" "I") (List.mem_cons_of_mem _ (List.mem_append_left _ (List.mem_of_getElem? (i := 0) rfl)))) (fun _ h9 => h9) rfl (by decide +kernel) rfl rfl (Nat.le_of_ble_eq_true rfl) dX12_feed_116 (fun H_1 locs hP1 hD1 hS1 => ?_)
    clear hP hD hS
    have hP : va_P (dC, dI) vwCl [(h0, .inr (12, [.ref h1, .ref g0, .int 20, .int 0, .ref g1, .ref g2, .ref g3, .int 0, .int 0, .ref g4, .ref g5, .ref g6, .ref g7, .int 0, .int 0, .int 0, .ref g8, .ref g9, .ref g10, .ref g11, .ref g12, .ref g13, .ref g14, .ref g15, .int 0, .ref g16, .ref g17, .ref g18, .ref g19, .ref g20, .ref g21, .ref g22, .ref g23, .ref g24, .ref g25, .int 0, .int 0, .int 0, .ref g26, .ref g27, .ref g28, .ref g29, .int 0, .int 0, .int 0, .int 0, .int 0, .int 0, .int 0, .int 0, .int 0, .int 0, .int 0, .int 0, .int 0, .int 0, .ref g30, .ref g31, .ref g32, .ref g33, .int 0, .int 0, .int 0, .int 0, .int 0, .int 0, .int 0, .ref g34, .ref g35, .ref g36, .int 0, .ref g37, .int 0, .int 0, .int 0, .int 0, .int 0, .int 0, .int 0, .int 0, .int 0, .int 0, .int 0, .int 0, .int 0, .int 0, .int 0, .int 0, .ref g38, .ref g39, .ref g40, .ref g41, .ref g42, .ref g43, .ref g44, .ref g45, .int 0])), (h1, .inl (cI, 4000, .inl fk))] H_1 := hP1
    have hD : va_D A [(h0, .inr (12, [.ref h1, .ref g0, .int 20, .int 0, .ref g1, .ref g2, .ref g3, .int 0, .int 0, .ref g4, .ref g5, .ref g6, .ref g7, .int 0, .int 0, .int 0, .ref g8, .ref g9, .ref g10, .ref g11, .ref g12, .ref g13, .ref g14, .ref g15, .int 0, .ref g16, .ref g17, .ref g18, .ref g19, .ref g20, .ref g21, .ref g22, .ref g23, .ref g24, .ref g25, .int 0, .int 0, .int 0, .ref g26, .ref g27, .ref g28, .ref g29, .int 0, .int 0, .int 0, .int 0, .int 0, .int 0, .int 0, .int 0, .int 0, .int 0, .int 0, .int 0, .int 0, .int 0, .ref g30, .ref g31, .ref g32, .ref g33, .int 0, .int 0, .int 0, .int 0, .int 0, .int 0, .int 0, .ref g34, .ref g35, .ref g36, .int 0, .ref g37, .int 0, .int 0, .int 0, .int 0, .int 0, .int 0, .int 0, .int 0, .int 0, .int 0, .int 0, .int 0, .int 0, .int 0, .int 0, .int 0, .ref g38, .ref g39, .ref g40, .ref g41, .ref g42, .ref g43, .ref g44, .ref g45, .int 0])), (h1, .inl (cI, 4000, .inl fk))] := hD1
    have hS := hS1
    clear hP1 hD1 hS1
    refine lv_aload_n hx hb dX12_feed_119 rfl (lv_at hl 1 rfl) ?_
    refine va_get (D := (dC, dI)) (ci := 12) (v := .int 20) (C := RX12) (T := TX12) (N := 97) hx hb hts i_kX12_feed_X12 hown hK hP 0 rfl rfl 2 (by decide) (hts (Cond.fieldLink RX12 153 "CompiledHouseModel" "taped" "I") (List.mem_cons_of_mem _ (List.mem_append_left _ (List.mem_of_getElem? (i := 0) rfl)))) (fun _ h9 => h9) rfl dX12_feed_120 ?_
    have hP9 := hP.sub (ws' := [(h0, .inr (12, [.ref h1, .ref g0, .int 20, .int 0, .ref g1, .ref g2, .ref g3, .int 0, .int 0, .ref g4, .ref g5, .ref g6, .ref g7, .int 0, .int 0, .int 0, .ref g8, .ref g9, .ref g10, .ref g11, .ref g12, .ref g13, .ref g14, .ref g15, .int 0, .ref g16, .ref g17, .ref g18, .ref g19, .ref g20, .ref g21, .ref g22, .ref g23, .ref g24, .ref g25, .int 0, .int 0, .int 0, .ref g26, .ref g27, .ref g28, .ref g29, .int 0, .int 0, .int 0, .int 0, .int 0, .int 0, .int 0, .int 0, .int 0, .int 0, .int 0, .int 0, .int 0, .int 0, .ref g30, .ref g31, .ref g32, .ref g33, .int 0, .int 0, .int 0, .int 0, .int 0, .int 0, .int 0, .ref g34, .ref g35, .ref g36, .int 0, .ref g37, .int 0, .int 0, .int 0, .int 0, .int 0, .int 0, .int 0, .int 0, .int 0, .int 0, .int 0, .int 0, .int 0, .int 0, .int 0, .int 0, .ref g38, .ref g39, .ref g40, .ref g41, .ref g42, .ref g43, .ref g44, .ref g45, .int 0])), (h1, .inl (cI, 4000, .inl fk))]) [0, 1] rfl
    have hD9 := hD.sub (ws' := [(h0, .inr (12, [.ref h1, .ref g0, .int 20, .int 0, .ref g1, .ref g2, .ref g3, .int 0, .int 0, .ref g4, .ref g5, .ref g6, .ref g7, .int 0, .int 0, .int 0, .ref g8, .ref g9, .ref g10, .ref g11, .ref g12, .ref g13, .ref g14, .ref g15, .int 0, .ref g16, .ref g17, .ref g18, .ref g19, .ref g20, .ref g21, .ref g22, .ref g23, .ref g24, .ref g25, .int 0, .int 0, .int 0, .ref g26, .ref g27, .ref g28, .ref g29, .int 0, .int 0, .int 0, .int 0, .int 0, .int 0, .int 0, .int 0, .int 0, .int 0, .int 0, .int 0, .int 0, .int 0, .ref g30, .ref g31, .ref g32, .ref g33, .int 0, .int 0, .int 0, .int 0, .int 0, .int 0, .int 0, .ref g34, .ref g35, .ref g36, .int 0, .ref g37, .int 0, .int 0, .int 0, .int 0, .int 0, .int 0, .int 0, .int 0, .int 0, .int 0, .int 0, .int 0, .int 0, .int 0, .int 0, .int 0, .ref g38, .ref g39, .ref g40, .ref g41, .ref g42, .ref g43, .ref g44, .ref g45, .int 0])), (h1, .inl (cI, 4000, .inl fk))]) [0, 1] (by decide) rfl
    refine W.widen (k := 0) (n := 0) (by decide) (by decide) ?_
    exact W.iret (v := 20) hx hb hr (fun t ht hW => ⟨⟨20, (), rfl, rfl, fk, by rw [ht]; exact hP9, va_K.moved hW.alike hK, hD9⟩, hS.F ht⟩) hS.2.2 dX12_feed_123
  | succ nn ih =>
    have hkk : kk < 20 := by omega
    have hbd : ¬ (20 : Int32) ≤ xk := by rw [exk, show (20 : Int32) = nI 20 by decide]; exact nI_ge hkk (by omega)
    refine lv_iload hx hb dX12_feed_18 (lv_at hl 0 rfl) ?_
    refine lv_bipush (v := 20) hx hb dX12_feed_20 (by decide) ?_
    refine lv_icmp_ge (tgt := 108) hx hb dX12_feed_22 (by decide) (fun c_0 => absurd c_0 hbd) (fun _ => ?_)
    refine lv_iload hx hb dX12_feed_25 (lv_at hl 0 rfl) ?_
    refine lv_iconst (v := 4) hx hb dX12_feed_27 (by decide) ?_
    refine lv_icmp_ge (tgt := 35) hx hb dX12_feed_28 (by decide) (fun c_2 => ?_) (fun c_2 => ?_)
    · refine lv_iload hx hb dX12_feed_35 (lv_at hl 0 rfl) ?_
      refine lv_bipush (v := 8) hx hb dX12_feed_37 (by decide) ?_
      refine lv_icmp_ge (tgt := 46) hx hb dX12_feed_39 (by decide) (fun c_3 => ?_) (fun c_3 => ?_)
      · refine lv_iload hx hb dX12_feed_46 (lv_at hl 0 rfl) ?_
        refine lv_bipush (v := 12) hx hb dX12_feed_48 (by decide) ?_
        refine lv_icmp_ge (tgt := 57) hx hb dX12_feed_50 (by decide) (fun c_4 => ?_) (fun c_4 => ?_)
        · refine lv_iload hx hb dX12_feed_57 (lv_at hl 0 rfl) ?_
          refine lv_bipush (v := 16) hx hb dX12_feed_59 (by decide) ?_
          refine lv_icmp_ge (tgt := 69) hx hb dX12_feed_61 (by decide) (fun c_5 => ?_) (fun c_5 => ?_)
          · refine lv_iload hx hb dX12_feed_69 (lv_at hl 6 rfl) ?_
            refine lv_istore (lv' := [(7, .int p4), (6, .int xk), (0, .ref h0), (1, .int p0), (2, .int p1), (3, .int p2), (4, .int p3), (5, .int p4)]) hx hb dX12_feed_71 hl (by decide) rfl (fun ls hl => ?_)
            refine lv_aload_n hx hb dX12_feed_73 rfl (lv_at hl 2 rfl) ?_
            refine va_get (D := (dC, dI)) (ci := 12) (v := .ref h1) (C := RX12) (T := TX12) (N := 97) hx hb hts i_kX12_feed_X12 hown hK hP 0 rfl rfl 0 (by decide) (hts (Cond.fieldLink RX12 9 "CompiledHouseModel" "tape" "[I") (List.mem_cons_of_mem _ (List.mem_append_left _ (List.mem_of_getElem? (i := 1) rfl)))) (fun _ h9 => h9) rfl dX12_feed_74 ?_
            refine lv_aload_n hx hb dX12_feed_77 rfl (lv_at hl 2 rfl) ?_
            refine va_get (D := (dC, dI)) (ci := 12) (v := .int 0) (C := RX12) (T := TX12) (N := 97) hx hb hts i_kX12_feed_X12 hown hK hP 0 rfl rfl 2 (by decide) (hts (Cond.fieldLink RX12 153 "CompiledHouseModel" "taped" "I") (List.mem_cons_of_mem _ (List.mem_append_left _ (List.mem_of_getElem? (i := 0) rfl)))) (fun _ h9 => h9) rfl dX12_feed_78 ?_
            refine lv_iload hx hb dX12_feed_81 (lv_at hl 1 rfl) ?_
            refine lv_iadd hx hb dX12_feed_83 ?_
            refine lv_topi (fun x_6 ex_6 => ?_)
            refine lv_iload hx hb dX12_feed_84 (lv_at hl 0 rfl) ?_
            refine lv_bipush (v := 24) hx hb dX12_feed_86 (by decide) ?_
            refine lv_bipush (v := 8) hx hb dX12_feed_88 (by decide) ?_
            refine lv_iload hx hb dX12_feed_90 (lv_at hl 1 rfl) ?_
            refine lv_iconst (v := 4) hx hb dX12_feed_92 (by decide) ?_
            refine lv_irem hx hb dX12_feed_93 (by decide) ?_
            refine lv_topi (fun x_7 ex_7 => ?_)
            refine lv_imul hx hb dX12_feed_94 ?_
            refine lv_topi (fun x_8 ex_8 => ?_)
            refine lv_isub hx hb dX12_feed_95 ?_
            refine lv_topi (fun x_9 ex_9 => ?_)
            refine lv_ishr hx hb dX12_feed_96 ?_
            refine lv_topi (fun x_10 ex_10 => ?_)
            refine lv_sipush (v := 255) hx hb dX12_feed_97 (by decide) ?_
            refine lv_iand hx hb dX12_feed_100 ?_
            refine lv_topi (fun x_11 ex_11 => ?_)
            refine my_iast hx hb hK hP hD hS 1 0 rfl rfl (by rw [ex_6, exk, show (0 : Int32) + nI kk = nI kk by rw [← nI_0, nI_add, Nat.zero_add]]; exact vp_in_nI (Nat.lt_of_lt_of_le hkk (by decide)) (by omega)) dX12_feed_101 (fun f_13 H_12 locs hP1 hD1 hS1 => ?_)
            clear hP hD hS
            have hP : va_P (dC, dI) vwCl [(h0, .inr (12, [.ref h1, .ref g0, .int 0, .int 0, .ref g1, .ref g2, .ref g3, .int 0, .int 0, .ref g4, .ref g5, .ref g6, .ref g7, .int 0, .int 0, .int 0, .ref g8, .ref g9, .ref g10, .ref g11, .ref g12, .ref g13, .ref g14, .ref g15, .int 0, .ref g16, .ref g17, .ref g18, .ref g19, .ref g20, .ref g21, .ref g22, .ref g23, .ref g24, .ref g25, .int 0, .int 0, .int 0, .ref g26, .ref g27, .ref g28, .ref g29, .int 0, .int 0, .int 0, .int 0, .int 0, .int 0, .int 0, .int 0, .int 0, .int 0, .int 0, .int 0, .int 0, .int 0, .ref g30, .ref g31, .ref g32, .ref g33, .int 0, .int 0, .int 0, .int 0, .int 0, .int 0, .int 0, .ref g34, .ref g35, .ref g36, .int 0, .ref g37, .int 0, .int 0, .int 0, .int 0, .int 0, .int 0, .int 0, .int 0, .int 0, .int 0, .int 0, .int 0, .int 0, .int 0, .int 0, .int 0, .ref g38, .ref g39, .ref g40, .ref g41, .ref g42, .ref g43, .ref g44, .ref g45, .int 0])), (h1, .inl (cI, 4000, .inl f_13))] H_12 := hP1
            have hD : va_D A [(h0, .inr (12, [.ref h1, .ref g0, .int 0, .int 0, .ref g1, .ref g2, .ref g3, .int 0, .int 0, .ref g4, .ref g5, .ref g6, .ref g7, .int 0, .int 0, .int 0, .ref g8, .ref g9, .ref g10, .ref g11, .ref g12, .ref g13, .ref g14, .ref g15, .int 0, .ref g16, .ref g17, .ref g18, .ref g19, .ref g20, .ref g21, .ref g22, .ref g23, .ref g24, .ref g25, .int 0, .int 0, .int 0, .ref g26, .ref g27, .ref g28, .ref g29, .int 0, .int 0, .int 0, .int 0, .int 0, .int 0, .int 0, .int 0, .int 0, .int 0, .int 0, .int 0, .int 0, .int 0, .ref g30, .ref g31, .ref g32, .ref g33, .int 0, .int 0, .int 0, .int 0, .int 0, .int 0, .int 0, .ref g34, .ref g35, .ref g36, .int 0, .ref g37, .int 0, .int 0, .int 0, .int 0, .int 0, .int 0, .int 0, .int 0, .int 0, .int 0, .int 0, .int 0, .int 0, .int 0, .int 0, .int 0, .ref g38, .ref g39, .ref g40, .ref g41, .ref g42, .ref g43, .ref g44, .ref g45, .int 0])), (h1, .inl (cI, 4000, .inl f_13))] := hD1
            have hS := hS1
            clear hP1 hD1 hS1
            obtain ⟨x_14, ex_14⟩ : ∃ y : Int32, y = xk + 1 := ⟨_, rfl⟩
            refine lv_iinc (v := x_14) (lv' := [(6, .int x_14), (7, .int p4), (0, .ref h0), (1, .int p0), (2, .int p1), (3, .int p2), (4, .int p3), (5, .int p4)]) hx hb dX12_feed_102 hl (k := 1) rfl (by rw [ex_14]; rfl) (by decide) rfl (fun ls hl => ?_)
            refine lv_goto (tgt := 18) hx hb dX12_feed_105 (by decide) ?_
            exact ih (kk := kk + 1) (xk := x_14) (fk := f_13) (H := H_12) (locs := locs) (ls := ls) (by first | assumption | omega | exact (by rw [ex_14, exk]; exact nI_1 kk) | exact lv_sub hl [0, 2, 3, 4, 5, 6, 7] rfl) (by first | assumption | omega | exact (by rw [ex_14, exk]; exact nI_1 kk) | exact lv_sub hl [0, 2, 3, 4, 5, 6, 7] rfl) (by first | assumption | omega | exact (by rw [ex_14, exk]; exact nI_1 kk) | exact lv_sub hl [0, 2, 3, 4, 5, 6, 7] rfl) (by first | assumption | omega | exact (by rw [ex_14, exk]; exact nI_1 kk) | exact lv_sub hl [0, 2, 3, 4, 5, 6, 7] rfl) (by first | assumption | omega | exact (by rw [ex_14, exk]; exact nI_1 kk) | exact lv_sub hl [0, 2, 3, 4, 5, 6, 7] rfl) (by first | assumption | omega | exact (by rw [ex_14, exk]; exact nI_1 kk) | exact lv_sub hl [0, 2, 3, 4, 5, 6, 7] rfl)
          · refine lv_iload hx hb dX12_feed_64 (lv_at hl 5 rfl) ?_
            refine lv_goto (tgt := 71) hx hb dX12_feed_66 (by decide) ?_
            refine lv_istore (lv' := [(7, .int p3), (6, .int xk), (0, .ref h0), (1, .int p0), (2, .int p1), (3, .int p2), (4, .int p3), (5, .int p4)]) hx hb dX12_feed_71 hl (by decide) rfl (fun ls hl => ?_)
            refine lv_aload_n hx hb dX12_feed_73 rfl (lv_at hl 2 rfl) ?_
            refine va_get (D := (dC, dI)) (ci := 12) (v := .ref h1) (C := RX12) (T := TX12) (N := 97) hx hb hts i_kX12_feed_X12 hown hK hP 0 rfl rfl 0 (by decide) (hts (Cond.fieldLink RX12 9 "CompiledHouseModel" "tape" "[I") (List.mem_cons_of_mem _ (List.mem_append_left _ (List.mem_of_getElem? (i := 1) rfl)))) (fun _ h9 => h9) rfl dX12_feed_74 ?_
            refine lv_aload_n hx hb dX12_feed_77 rfl (lv_at hl 2 rfl) ?_
            refine va_get (D := (dC, dI)) (ci := 12) (v := .int 0) (C := RX12) (T := TX12) (N := 97) hx hb hts i_kX12_feed_X12 hown hK hP 0 rfl rfl 2 (by decide) (hts (Cond.fieldLink RX12 153 "CompiledHouseModel" "taped" "I") (List.mem_cons_of_mem _ (List.mem_append_left _ (List.mem_of_getElem? (i := 0) rfl)))) (fun _ h9 => h9) rfl dX12_feed_78 ?_
            refine lv_iload hx hb dX12_feed_81 (lv_at hl 1 rfl) ?_
            refine lv_iadd hx hb dX12_feed_83 ?_
            refine lv_topi (fun x_15 ex_15 => ?_)
            refine lv_iload hx hb dX12_feed_84 (lv_at hl 0 rfl) ?_
            refine lv_bipush (v := 24) hx hb dX12_feed_86 (by decide) ?_
            refine lv_bipush (v := 8) hx hb dX12_feed_88 (by decide) ?_
            refine lv_iload hx hb dX12_feed_90 (lv_at hl 1 rfl) ?_
            refine lv_iconst (v := 4) hx hb dX12_feed_92 (by decide) ?_
            refine lv_irem hx hb dX12_feed_93 (by decide) ?_
            refine lv_topi (fun x_16 ex_16 => ?_)
            refine lv_imul hx hb dX12_feed_94 ?_
            refine lv_topi (fun x_17 ex_17 => ?_)
            refine lv_isub hx hb dX12_feed_95 ?_
            refine lv_topi (fun x_18 ex_18 => ?_)
            refine lv_ishr hx hb dX12_feed_96 ?_
            refine lv_topi (fun x_19 ex_19 => ?_)
            refine lv_sipush (v := 255) hx hb dX12_feed_97 (by decide) ?_
            refine lv_iand hx hb dX12_feed_100 ?_
            refine lv_topi (fun x_20 ex_20 => ?_)
            refine my_iast hx hb hK hP hD hS 1 0 rfl rfl (by rw [ex_15, exk, show (0 : Int32) + nI kk = nI kk by rw [← nI_0, nI_add, Nat.zero_add]]; exact vp_in_nI (Nat.lt_of_lt_of_le hkk (by decide)) (by omega)) dX12_feed_101 (fun f_22 H_21 locs hP1 hD1 hS1 => ?_)
            clear hP hD hS
            have hP : va_P (dC, dI) vwCl [(h0, .inr (12, [.ref h1, .ref g0, .int 0, .int 0, .ref g1, .ref g2, .ref g3, .int 0, .int 0, .ref g4, .ref g5, .ref g6, .ref g7, .int 0, .int 0, .int 0, .ref g8, .ref g9, .ref g10, .ref g11, .ref g12, .ref g13, .ref g14, .ref g15, .int 0, .ref g16, .ref g17, .ref g18, .ref g19, .ref g20, .ref g21, .ref g22, .ref g23, .ref g24, .ref g25, .int 0, .int 0, .int 0, .ref g26, .ref g27, .ref g28, .ref g29, .int 0, .int 0, .int 0, .int 0, .int 0, .int 0, .int 0, .int 0, .int 0, .int 0, .int 0, .int 0, .int 0, .int 0, .ref g30, .ref g31, .ref g32, .ref g33, .int 0, .int 0, .int 0, .int 0, .int 0, .int 0, .int 0, .ref g34, .ref g35, .ref g36, .int 0, .ref g37, .int 0, .int 0, .int 0, .int 0, .int 0, .int 0, .int 0, .int 0, .int 0, .int 0, .int 0, .int 0, .int 0, .int 0, .int 0, .int 0, .ref g38, .ref g39, .ref g40, .ref g41, .ref g42, .ref g43, .ref g44, .ref g45, .int 0])), (h1, .inl (cI, 4000, .inl f_22))] H_21 := hP1
            have hD : va_D A [(h0, .inr (12, [.ref h1, .ref g0, .int 0, .int 0, .ref g1, .ref g2, .ref g3, .int 0, .int 0, .ref g4, .ref g5, .ref g6, .ref g7, .int 0, .int 0, .int 0, .ref g8, .ref g9, .ref g10, .ref g11, .ref g12, .ref g13, .ref g14, .ref g15, .int 0, .ref g16, .ref g17, .ref g18, .ref g19, .ref g20, .ref g21, .ref g22, .ref g23, .ref g24, .ref g25, .int 0, .int 0, .int 0, .ref g26, .ref g27, .ref g28, .ref g29, .int 0, .int 0, .int 0, .int 0, .int 0, .int 0, .int 0, .int 0, .int 0, .int 0, .int 0, .int 0, .int 0, .int 0, .ref g30, .ref g31, .ref g32, .ref g33, .int 0, .int 0, .int 0, .int 0, .int 0, .int 0, .int 0, .ref g34, .ref g35, .ref g36, .int 0, .ref g37, .int 0, .int 0, .int 0, .int 0, .int 0, .int 0, .int 0, .int 0, .int 0, .int 0, .int 0, .int 0, .int 0, .int 0, .int 0, .int 0, .ref g38, .ref g39, .ref g40, .ref g41, .ref g42, .ref g43, .ref g44, .ref g45, .int 0])), (h1, .inl (cI, 4000, .inl f_22))] := hD1
            have hS := hS1
            clear hP1 hD1 hS1
            obtain ⟨x_23, ex_23⟩ : ∃ y : Int32, y = xk + 1 := ⟨_, rfl⟩
            refine lv_iinc (v := x_23) (lv' := [(6, .int x_23), (7, .int p3), (0, .ref h0), (1, .int p0), (2, .int p1), (3, .int p2), (4, .int p3), (5, .int p4)]) hx hb dX12_feed_102 hl (k := 1) rfl (by rw [ex_23]; rfl) (by decide) rfl (fun ls hl => ?_)
            refine lv_goto (tgt := 18) hx hb dX12_feed_105 (by decide) ?_
            exact ih (kk := kk + 1) (xk := x_23) (fk := f_22) (H := H_21) (locs := locs) (ls := ls) (by first | assumption | omega | exact (by rw [ex_23, exk]; exact nI_1 kk) | exact lv_sub hl [0, 2, 3, 4, 5, 6, 7] rfl) (by first | assumption | omega | exact (by rw [ex_23, exk]; exact nI_1 kk) | exact lv_sub hl [0, 2, 3, 4, 5, 6, 7] rfl) (by first | assumption | omega | exact (by rw [ex_23, exk]; exact nI_1 kk) | exact lv_sub hl [0, 2, 3, 4, 5, 6, 7] rfl) (by first | assumption | omega | exact (by rw [ex_23, exk]; exact nI_1 kk) | exact lv_sub hl [0, 2, 3, 4, 5, 6, 7] rfl) (by first | assumption | omega | exact (by rw [ex_23, exk]; exact nI_1 kk) | exact lv_sub hl [0, 2, 3, 4, 5, 6, 7] rfl) (by first | assumption | omega | exact (by rw [ex_23, exk]; exact nI_1 kk) | exact lv_sub hl [0, 2, 3, 4, 5, 6, 7] rfl)
        · refine lv_iload_n hx hb dX12_feed_53 rfl (lv_at hl 4 rfl) ?_
          refine lv_goto (tgt := 71) hx hb dX12_feed_54 (by decide) ?_
          refine lv_istore (lv' := [(7, .int p2), (6, .int xk), (0, .ref h0), (1, .int p0), (2, .int p1), (3, .int p2), (4, .int p3), (5, .int p4)]) hx hb dX12_feed_71 hl (by decide) rfl (fun ls hl => ?_)
          refine lv_aload_n hx hb dX12_feed_73 rfl (lv_at hl 2 rfl) ?_
          refine va_get (D := (dC, dI)) (ci := 12) (v := .ref h1) (C := RX12) (T := TX12) (N := 97) hx hb hts i_kX12_feed_X12 hown hK hP 0 rfl rfl 0 (by decide) (hts (Cond.fieldLink RX12 9 "CompiledHouseModel" "tape" "[I") (List.mem_cons_of_mem _ (List.mem_append_left _ (List.mem_of_getElem? (i := 1) rfl)))) (fun _ h9 => h9) rfl dX12_feed_74 ?_
          refine lv_aload_n hx hb dX12_feed_77 rfl (lv_at hl 2 rfl) ?_
          refine va_get (D := (dC, dI)) (ci := 12) (v := .int 0) (C := RX12) (T := TX12) (N := 97) hx hb hts i_kX12_feed_X12 hown hK hP 0 rfl rfl 2 (by decide) (hts (Cond.fieldLink RX12 153 "CompiledHouseModel" "taped" "I") (List.mem_cons_of_mem _ (List.mem_append_left _ (List.mem_of_getElem? (i := 0) rfl)))) (fun _ h9 => h9) rfl dX12_feed_78 ?_
          refine lv_iload hx hb dX12_feed_81 (lv_at hl 1 rfl) ?_
          refine lv_iadd hx hb dX12_feed_83 ?_
          refine lv_topi (fun x_24 ex_24 => ?_)
          refine lv_iload hx hb dX12_feed_84 (lv_at hl 0 rfl) ?_
          refine lv_bipush (v := 24) hx hb dX12_feed_86 (by decide) ?_
          refine lv_bipush (v := 8) hx hb dX12_feed_88 (by decide) ?_
          refine lv_iload hx hb dX12_feed_90 (lv_at hl 1 rfl) ?_
          refine lv_iconst (v := 4) hx hb dX12_feed_92 (by decide) ?_
          refine lv_irem hx hb dX12_feed_93 (by decide) ?_
          refine lv_topi (fun x_25 ex_25 => ?_)
          refine lv_imul hx hb dX12_feed_94 ?_
          refine lv_topi (fun x_26 ex_26 => ?_)
          refine lv_isub hx hb dX12_feed_95 ?_
          refine lv_topi (fun x_27 ex_27 => ?_)
          refine lv_ishr hx hb dX12_feed_96 ?_
          refine lv_topi (fun x_28 ex_28 => ?_)
          refine lv_sipush (v := 255) hx hb dX12_feed_97 (by decide) ?_
          refine lv_iand hx hb dX12_feed_100 ?_
          refine lv_topi (fun x_29 ex_29 => ?_)
          refine my_iast hx hb hK hP hD hS 1 0 rfl rfl (by rw [ex_24, exk, show (0 : Int32) + nI kk = nI kk by rw [← nI_0, nI_add, Nat.zero_add]]; exact vp_in_nI (Nat.lt_of_lt_of_le hkk (by decide)) (by omega)) dX12_feed_101 (fun f_31 H_30 locs hP1 hD1 hS1 => ?_)
          clear hP hD hS
          have hP : va_P (dC, dI) vwCl [(h0, .inr (12, [.ref h1, .ref g0, .int 0, .int 0, .ref g1, .ref g2, .ref g3, .int 0, .int 0, .ref g4, .ref g5, .ref g6, .ref g7, .int 0, .int 0, .int 0, .ref g8, .ref g9, .ref g10, .ref g11, .ref g12, .ref g13, .ref g14, .ref g15, .int 0, .ref g16, .ref g17, .ref g18, .ref g19, .ref g20, .ref g21, .ref g22, .ref g23, .ref g24, .ref g25, .int 0, .int 0, .int 0, .ref g26, .ref g27, .ref g28, .ref g29, .int 0, .int 0, .int 0, .int 0, .int 0, .int 0, .int 0, .int 0, .int 0, .int 0, .int 0, .int 0, .int 0, .int 0, .ref g30, .ref g31, .ref g32, .ref g33, .int 0, .int 0, .int 0, .int 0, .int 0, .int 0, .int 0, .ref g34, .ref g35, .ref g36, .int 0, .ref g37, .int 0, .int 0, .int 0, .int 0, .int 0, .int 0, .int 0, .int 0, .int 0, .int 0, .int 0, .int 0, .int 0, .int 0, .int 0, .int 0, .ref g38, .ref g39, .ref g40, .ref g41, .ref g42, .ref g43, .ref g44, .ref g45, .int 0])), (h1, .inl (cI, 4000, .inl f_31))] H_30 := hP1
          have hD : va_D A [(h0, .inr (12, [.ref h1, .ref g0, .int 0, .int 0, .ref g1, .ref g2, .ref g3, .int 0, .int 0, .ref g4, .ref g5, .ref g6, .ref g7, .int 0, .int 0, .int 0, .ref g8, .ref g9, .ref g10, .ref g11, .ref g12, .ref g13, .ref g14, .ref g15, .int 0, .ref g16, .ref g17, .ref g18, .ref g19, .ref g20, .ref g21, .ref g22, .ref g23, .ref g24, .ref g25, .int 0, .int 0, .int 0, .ref g26, .ref g27, .ref g28, .ref g29, .int 0, .int 0, .int 0, .int 0, .int 0, .int 0, .int 0, .int 0, .int 0, .int 0, .int 0, .int 0, .int 0, .int 0, .ref g30, .ref g31, .ref g32, .ref g33, .int 0, .int 0, .int 0, .int 0, .int 0, .int 0, .int 0, .ref g34, .ref g35, .ref g36, .int 0, .ref g37, .int 0, .int 0, .int 0, .int 0, .int 0, .int 0, .int 0, .int 0, .int 0, .int 0, .int 0, .int 0, .int 0, .int 0, .int 0, .int 0, .ref g38, .ref g39, .ref g40, .ref g41, .ref g42, .ref g43, .ref g44, .ref g45, .int 0])), (h1, .inl (cI, 4000, .inl f_31))] := hD1
          have hS := hS1
          clear hP1 hD1 hS1
          obtain ⟨x_32, ex_32⟩ : ∃ y : Int32, y = xk + 1 := ⟨_, rfl⟩
          refine lv_iinc (v := x_32) (lv' := [(6, .int x_32), (7, .int p2), (0, .ref h0), (1, .int p0), (2, .int p1), (3, .int p2), (4, .int p3), (5, .int p4)]) hx hb dX12_feed_102 hl (k := 1) rfl (by rw [ex_32]; rfl) (by decide) rfl (fun ls hl => ?_)
          refine lv_goto (tgt := 18) hx hb dX12_feed_105 (by decide) ?_
          exact ih (kk := kk + 1) (xk := x_32) (fk := f_31) (H := H_30) (locs := locs) (ls := ls) (by first | assumption | omega | exact (by rw [ex_32, exk]; exact nI_1 kk) | exact lv_sub hl [0, 2, 3, 4, 5, 6, 7] rfl) (by first | assumption | omega | exact (by rw [ex_32, exk]; exact nI_1 kk) | exact lv_sub hl [0, 2, 3, 4, 5, 6, 7] rfl) (by first | assumption | omega | exact (by rw [ex_32, exk]; exact nI_1 kk) | exact lv_sub hl [0, 2, 3, 4, 5, 6, 7] rfl) (by first | assumption | omega | exact (by rw [ex_32, exk]; exact nI_1 kk) | exact lv_sub hl [0, 2, 3, 4, 5, 6, 7] rfl) (by first | assumption | omega | exact (by rw [ex_32, exk]; exact nI_1 kk) | exact lv_sub hl [0, 2, 3, 4, 5, 6, 7] rfl) (by first | assumption | omega | exact (by rw [ex_32, exk]; exact nI_1 kk) | exact lv_sub hl [0, 2, 3, 4, 5, 6, 7] rfl)
      · refine lv_iload_n hx hb dX12_feed_42 rfl (lv_at hl 3 rfl) ?_
        refine lv_goto (tgt := 71) hx hb dX12_feed_43 (by decide) ?_
        refine lv_istore (lv' := [(7, .int p1), (6, .int xk), (0, .ref h0), (1, .int p0), (2, .int p1), (3, .int p2), (4, .int p3), (5, .int p4)]) hx hb dX12_feed_71 hl (by decide) rfl (fun ls hl => ?_)
        refine lv_aload_n hx hb dX12_feed_73 rfl (lv_at hl 2 rfl) ?_
        refine va_get (D := (dC, dI)) (ci := 12) (v := .ref h1) (C := RX12) (T := TX12) (N := 97) hx hb hts i_kX12_feed_X12 hown hK hP 0 rfl rfl 0 (by decide) (hts (Cond.fieldLink RX12 9 "CompiledHouseModel" "tape" "[I") (List.mem_cons_of_mem _ (List.mem_append_left _ (List.mem_of_getElem? (i := 1) rfl)))) (fun _ h9 => h9) rfl dX12_feed_74 ?_
        refine lv_aload_n hx hb dX12_feed_77 rfl (lv_at hl 2 rfl) ?_
        refine va_get (D := (dC, dI)) (ci := 12) (v := .int 0) (C := RX12) (T := TX12) (N := 97) hx hb hts i_kX12_feed_X12 hown hK hP 0 rfl rfl 2 (by decide) (hts (Cond.fieldLink RX12 153 "CompiledHouseModel" "taped" "I") (List.mem_cons_of_mem _ (List.mem_append_left _ (List.mem_of_getElem? (i := 0) rfl)))) (fun _ h9 => h9) rfl dX12_feed_78 ?_
        refine lv_iload hx hb dX12_feed_81 (lv_at hl 1 rfl) ?_
        refine lv_iadd hx hb dX12_feed_83 ?_
        refine lv_topi (fun x_33 ex_33 => ?_)
        refine lv_iload hx hb dX12_feed_84 (lv_at hl 0 rfl) ?_
        refine lv_bipush (v := 24) hx hb dX12_feed_86 (by decide) ?_
        refine lv_bipush (v := 8) hx hb dX12_feed_88 (by decide) ?_
        refine lv_iload hx hb dX12_feed_90 (lv_at hl 1 rfl) ?_
        refine lv_iconst (v := 4) hx hb dX12_feed_92 (by decide) ?_
        refine lv_irem hx hb dX12_feed_93 (by decide) ?_
        refine lv_topi (fun x_34 ex_34 => ?_)
        refine lv_imul hx hb dX12_feed_94 ?_
        refine lv_topi (fun x_35 ex_35 => ?_)
        refine lv_isub hx hb dX12_feed_95 ?_
        refine lv_topi (fun x_36 ex_36 => ?_)
        refine lv_ishr hx hb dX12_feed_96 ?_
        refine lv_topi (fun x_37 ex_37 => ?_)
        refine lv_sipush (v := 255) hx hb dX12_feed_97 (by decide) ?_
        refine lv_iand hx hb dX12_feed_100 ?_
        refine lv_topi (fun x_38 ex_38 => ?_)
        refine my_iast hx hb hK hP hD hS 1 0 rfl rfl (by rw [ex_33, exk, show (0 : Int32) + nI kk = nI kk by rw [← nI_0, nI_add, Nat.zero_add]]; exact vp_in_nI (Nat.lt_of_lt_of_le hkk (by decide)) (by omega)) dX12_feed_101 (fun f_40 H_39 locs hP1 hD1 hS1 => ?_)
        clear hP hD hS
        have hP : va_P (dC, dI) vwCl [(h0, .inr (12, [.ref h1, .ref g0, .int 0, .int 0, .ref g1, .ref g2, .ref g3, .int 0, .int 0, .ref g4, .ref g5, .ref g6, .ref g7, .int 0, .int 0, .int 0, .ref g8, .ref g9, .ref g10, .ref g11, .ref g12, .ref g13, .ref g14, .ref g15, .int 0, .ref g16, .ref g17, .ref g18, .ref g19, .ref g20, .ref g21, .ref g22, .ref g23, .ref g24, .ref g25, .int 0, .int 0, .int 0, .ref g26, .ref g27, .ref g28, .ref g29, .int 0, .int 0, .int 0, .int 0, .int 0, .int 0, .int 0, .int 0, .int 0, .int 0, .int 0, .int 0, .int 0, .int 0, .ref g30, .ref g31, .ref g32, .ref g33, .int 0, .int 0, .int 0, .int 0, .int 0, .int 0, .int 0, .ref g34, .ref g35, .ref g36, .int 0, .ref g37, .int 0, .int 0, .int 0, .int 0, .int 0, .int 0, .int 0, .int 0, .int 0, .int 0, .int 0, .int 0, .int 0, .int 0, .int 0, .int 0, .ref g38, .ref g39, .ref g40, .ref g41, .ref g42, .ref g43, .ref g44, .ref g45, .int 0])), (h1, .inl (cI, 4000, .inl f_40))] H_39 := hP1
        have hD : va_D A [(h0, .inr (12, [.ref h1, .ref g0, .int 0, .int 0, .ref g1, .ref g2, .ref g3, .int 0, .int 0, .ref g4, .ref g5, .ref g6, .ref g7, .int 0, .int 0, .int 0, .ref g8, .ref g9, .ref g10, .ref g11, .ref g12, .ref g13, .ref g14, .ref g15, .int 0, .ref g16, .ref g17, .ref g18, .ref g19, .ref g20, .ref g21, .ref g22, .ref g23, .ref g24, .ref g25, .int 0, .int 0, .int 0, .ref g26, .ref g27, .ref g28, .ref g29, .int 0, .int 0, .int 0, .int 0, .int 0, .int 0, .int 0, .int 0, .int 0, .int 0, .int 0, .int 0, .int 0, .int 0, .ref g30, .ref g31, .ref g32, .ref g33, .int 0, .int 0, .int 0, .int 0, .int 0, .int 0, .int 0, .ref g34, .ref g35, .ref g36, .int 0, .ref g37, .int 0, .int 0, .int 0, .int 0, .int 0, .int 0, .int 0, .int 0, .int 0, .int 0, .int 0, .int 0, .int 0, .int 0, .int 0, .int 0, .ref g38, .ref g39, .ref g40, .ref g41, .ref g42, .ref g43, .ref g44, .ref g45, .int 0])), (h1, .inl (cI, 4000, .inl f_40))] := hD1
        have hS := hS1
        clear hP1 hD1 hS1
        obtain ⟨x_41, ex_41⟩ : ∃ y : Int32, y = xk + 1 := ⟨_, rfl⟩
        refine lv_iinc (v := x_41) (lv' := [(6, .int x_41), (7, .int p1), (0, .ref h0), (1, .int p0), (2, .int p1), (3, .int p2), (4, .int p3), (5, .int p4)]) hx hb dX12_feed_102 hl (k := 1) rfl (by rw [ex_41]; rfl) (by decide) rfl (fun ls hl => ?_)
        refine lv_goto (tgt := 18) hx hb dX12_feed_105 (by decide) ?_
        exact ih (kk := kk + 1) (xk := x_41) (fk := f_40) (H := H_39) (locs := locs) (ls := ls) (by first | assumption | omega | exact (by rw [ex_41, exk]; exact nI_1 kk) | exact lv_sub hl [0, 2, 3, 4, 5, 6, 7] rfl) (by first | assumption | omega | exact (by rw [ex_41, exk]; exact nI_1 kk) | exact lv_sub hl [0, 2, 3, 4, 5, 6, 7] rfl) (by first | assumption | omega | exact (by rw [ex_41, exk]; exact nI_1 kk) | exact lv_sub hl [0, 2, 3, 4, 5, 6, 7] rfl) (by first | assumption | omega | exact (by rw [ex_41, exk]; exact nI_1 kk) | exact lv_sub hl [0, 2, 3, 4, 5, 6, 7] rfl) (by first | assumption | omega | exact (by rw [ex_41, exk]; exact nI_1 kk) | exact lv_sub hl [0, 2, 3, 4, 5, 6, 7] rfl) (by first | assumption | omega | exact (by rw [ex_41, exk]; exact nI_1 kk) | exact lv_sub hl [0, 2, 3, 4, 5, 6, 7] rfl)
    · refine lv_iload_n hx hb dX12_feed_31 rfl (lv_at hl 2 rfl) ?_
      refine lv_goto (tgt := 71) hx hb dX12_feed_32 (by decide) ?_
      refine lv_istore (lv' := [(7, .int p0), (6, .int xk), (0, .ref h0), (1, .int p0), (2, .int p1), (3, .int p2), (4, .int p3), (5, .int p4)]) hx hb dX12_feed_71 hl (by decide) rfl (fun ls hl => ?_)
      refine lv_aload_n hx hb dX12_feed_73 rfl (lv_at hl 2 rfl) ?_
      refine va_get (D := (dC, dI)) (ci := 12) (v := .ref h1) (C := RX12) (T := TX12) (N := 97) hx hb hts i_kX12_feed_X12 hown hK hP 0 rfl rfl 0 (by decide) (hts (Cond.fieldLink RX12 9 "CompiledHouseModel" "tape" "[I") (List.mem_cons_of_mem _ (List.mem_append_left _ (List.mem_of_getElem? (i := 1) rfl)))) (fun _ h9 => h9) rfl dX12_feed_74 ?_
      refine lv_aload_n hx hb dX12_feed_77 rfl (lv_at hl 2 rfl) ?_
      refine va_get (D := (dC, dI)) (ci := 12) (v := .int 0) (C := RX12) (T := TX12) (N := 97) hx hb hts i_kX12_feed_X12 hown hK hP 0 rfl rfl 2 (by decide) (hts (Cond.fieldLink RX12 153 "CompiledHouseModel" "taped" "I") (List.mem_cons_of_mem _ (List.mem_append_left _ (List.mem_of_getElem? (i := 0) rfl)))) (fun _ h9 => h9) rfl dX12_feed_78 ?_
      refine lv_iload hx hb dX12_feed_81 (lv_at hl 1 rfl) ?_
      refine lv_iadd hx hb dX12_feed_83 ?_
      refine lv_topi (fun x_42 ex_42 => ?_)
      refine lv_iload hx hb dX12_feed_84 (lv_at hl 0 rfl) ?_
      refine lv_bipush (v := 24) hx hb dX12_feed_86 (by decide) ?_
      refine lv_bipush (v := 8) hx hb dX12_feed_88 (by decide) ?_
      refine lv_iload hx hb dX12_feed_90 (lv_at hl 1 rfl) ?_
      refine lv_iconst (v := 4) hx hb dX12_feed_92 (by decide) ?_
      refine lv_irem hx hb dX12_feed_93 (by decide) ?_
      refine lv_topi (fun x_43 ex_43 => ?_)
      refine lv_imul hx hb dX12_feed_94 ?_
      refine lv_topi (fun x_44 ex_44 => ?_)
      refine lv_isub hx hb dX12_feed_95 ?_
      refine lv_topi (fun x_45 ex_45 => ?_)
      refine lv_ishr hx hb dX12_feed_96 ?_
      refine lv_topi (fun x_46 ex_46 => ?_)
      refine lv_sipush (v := 255) hx hb dX12_feed_97 (by decide) ?_
      refine lv_iand hx hb dX12_feed_100 ?_
      refine lv_topi (fun x_47 ex_47 => ?_)
      refine my_iast hx hb hK hP hD hS 1 0 rfl rfl (by rw [ex_42, exk, show (0 : Int32) + nI kk = nI kk by rw [← nI_0, nI_add, Nat.zero_add]]; exact vp_in_nI (Nat.lt_of_lt_of_le hkk (by decide)) (by omega)) dX12_feed_101 (fun f_49 H_48 locs hP1 hD1 hS1 => ?_)
      clear hP hD hS
      have hP : va_P (dC, dI) vwCl [(h0, .inr (12, [.ref h1, .ref g0, .int 0, .int 0, .ref g1, .ref g2, .ref g3, .int 0, .int 0, .ref g4, .ref g5, .ref g6, .ref g7, .int 0, .int 0, .int 0, .ref g8, .ref g9, .ref g10, .ref g11, .ref g12, .ref g13, .ref g14, .ref g15, .int 0, .ref g16, .ref g17, .ref g18, .ref g19, .ref g20, .ref g21, .ref g22, .ref g23, .ref g24, .ref g25, .int 0, .int 0, .int 0, .ref g26, .ref g27, .ref g28, .ref g29, .int 0, .int 0, .int 0, .int 0, .int 0, .int 0, .int 0, .int 0, .int 0, .int 0, .int 0, .int 0, .int 0, .int 0, .ref g30, .ref g31, .ref g32, .ref g33, .int 0, .int 0, .int 0, .int 0, .int 0, .int 0, .int 0, .ref g34, .ref g35, .ref g36, .int 0, .ref g37, .int 0, .int 0, .int 0, .int 0, .int 0, .int 0, .int 0, .int 0, .int 0, .int 0, .int 0, .int 0, .int 0, .int 0, .int 0, .int 0, .ref g38, .ref g39, .ref g40, .ref g41, .ref g42, .ref g43, .ref g44, .ref g45, .int 0])), (h1, .inl (cI, 4000, .inl f_49))] H_48 := hP1
      have hD : va_D A [(h0, .inr (12, [.ref h1, .ref g0, .int 0, .int 0, .ref g1, .ref g2, .ref g3, .int 0, .int 0, .ref g4, .ref g5, .ref g6, .ref g7, .int 0, .int 0, .int 0, .ref g8, .ref g9, .ref g10, .ref g11, .ref g12, .ref g13, .ref g14, .ref g15, .int 0, .ref g16, .ref g17, .ref g18, .ref g19, .ref g20, .ref g21, .ref g22, .ref g23, .ref g24, .ref g25, .int 0, .int 0, .int 0, .ref g26, .ref g27, .ref g28, .ref g29, .int 0, .int 0, .int 0, .int 0, .int 0, .int 0, .int 0, .int 0, .int 0, .int 0, .int 0, .int 0, .int 0, .int 0, .ref g30, .ref g31, .ref g32, .ref g33, .int 0, .int 0, .int 0, .int 0, .int 0, .int 0, .int 0, .ref g34, .ref g35, .ref g36, .int 0, .ref g37, .int 0, .int 0, .int 0, .int 0, .int 0, .int 0, .int 0, .int 0, .int 0, .int 0, .int 0, .int 0, .int 0, .int 0, .int 0, .int 0, .ref g38, .ref g39, .ref g40, .ref g41, .ref g42, .ref g43, .ref g44, .ref g45, .int 0])), (h1, .inl (cI, 4000, .inl f_49))] := hD1
      have hS := hS1
      clear hP1 hD1 hS1
      obtain ⟨x_50, ex_50⟩ : ∃ y : Int32, y = xk + 1 := ⟨_, rfl⟩
      refine lv_iinc (v := x_50) (lv' := [(6, .int x_50), (7, .int p0), (0, .ref h0), (1, .int p0), (2, .int p1), (3, .int p2), (4, .int p3), (5, .int p4)]) hx hb dX12_feed_102 hl (k := 1) rfl (by rw [ex_50]; rfl) (by decide) rfl (fun ls hl => ?_)
      refine lv_goto (tgt := 18) hx hb dX12_feed_105 (by decide) ?_
      exact ih (kk := kk + 1) (xk := x_50) (fk := f_49) (H := H_48) (locs := locs) (ls := ls) (by first | assumption | omega | exact (by rw [ex_50, exk]; exact nI_1 kk) | exact lv_sub hl [0, 2, 3, 4, 5, 6, 7] rfl) (by first | assumption | omega | exact (by rw [ex_50, exk]; exact nI_1 kk) | exact lv_sub hl [0, 2, 3, 4, 5, 6, 7] rfl) (by first | assumption | omega | exact (by rw [ex_50, exk]; exact nI_1 kk) | exact lv_sub hl [0, 2, 3, 4, 5, 6, 7] rfl) (by first | assumption | omega | exact (by rw [ex_50, exk]; exact nI_1 kk) | exact lv_sub hl [0, 2, 3, 4, 5, 6, 7] rfl) (by first | assumption | omega | exact (by rw [ex_50, exk]; exact nI_1 kk) | exact lv_sub hl [0, 2, 3, 4, 5, 6, 7] rfl) (by first | assumption | omega | exact (by rw [ex_50, exk]; exact nI_1 kk) | exact lv_sub hl [0, 2, 3, 4, 5, 6, 7] rfl)
