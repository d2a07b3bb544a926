def vs_kX12_end : List Cond := Cond.code yX12_end cX12_end 2 (some .int) :: (([Cond.fieldLink RX12 153 "CompiledHouseModel" "taped" "I"] : List Cond) ++ (wsX120))
theorem i_kX12_end_X12 : ∀ w ∈ wsX120, w ∈ vs_kX12_end := fun w h => List.mem_cons_of_mem _ (List.mem_append_right _ h)
def sp_kX12_end (p0 : Int32) : Int32 := if p0 < 0 then (-1) else (if p0 ≤ 0 then p0 else ((-1)))
set_option maxHeartbeats 4000000 in
set_option maxRecDepth 100000 in
theorem kX12_end (l : Launch) (dC : Nat → ClassId) (dI : Nat → Nat → Nat) (cI cB cZ : ClassId) (h0 : Nat) (g0 : Nat) (g1 : Nat) (g2 : Nat) (g3 : Nat) (g4 : Nat) (g5 : Nat) (g6 : Nat) (g7 : Nat) (g8 : Nat) (g9 : Nat) (g10 : Nat) (g11 : Nat) (g12 : Nat) (g13 : Nat) (g14 : Nat) (g15 : Nat) (g16 : Nat) (g17 : Nat) (g18 : Nat) (g19 : Nat) (g20 : Nat) (g21 : Nat) (g22 : Nat) (g23 : Nat) (g24 : Nat) (g25 : Nat) (g26 : Nat) (g27 : Nat) (g28 : Nat) (g29 : Nat) (g30 : Nat) (g31 : Nat) (g32 : Nat) (g33 : Nat) (g34 : Nat) (g35 : Nat) (g36 : Nat) (g37 : Nat) (g38 : Nat) (g39 : Nat) (g40 : Nat) (g41 : Nat) (g42 : Nat) (g43 : Nat) (g44 : Nat) (g45 : Nat) (g46 : Nat) (sz : Nat) (p0 : Int32) : Met l yX12_end vs_kX12_end ({ frames := 0, cells := 0, slots := 0, locals := 0 }) (va_Pc [.ref h0, .int p0] (fun U => U.heap.size = sz ∧ va_P (dC, dI) vwCl [(h0, .inr (12, [.ref g0, .ref g1, .int 0, .int 0, .ref g2, .ref g3, .ref g4, .int 0, .int 0, .ref g5, .ref g6, .ref g7, .ref g8, .int 0, .int 0, .int 0, .ref g9, .ref g10, .ref g11, .ref g12, .ref g13, .ref g14, .ref g15, .ref g16, .int 0, .ref g17, .ref g18, .ref g19, .ref g20, .ref g21, .ref g22, .ref g23, .ref g24, .ref g25, .ref g26, .int 0, .int 0, .int 0, .ref g27, .ref g28, .ref g29, .ref g30, .int 0, .int 0, .int 0, .int 0, .int 0, .int 0, .int 0, .int 0, .int 0, .int 0, .int 0, .int 0, .int 0, .int 0, .ref g31, .ref g32, .ref g33, .ref g34, .int 0, .int 0, .int 0, .int 0, .int 0, .int 0, .int 0, .ref g35, .ref g36, .ref g37, .int 0, .ref g38, .int 0, .int 0, .int 0, .int 0, .int 0, .int 0, .int 0, .int 0, .int 0, .int 0, .int 0, .int 0, .int 0, .int 0, .int 0, .int 0, .ref g39, .ref g40, .ref g41, .ref g42, .ref g43, .ref g44, .ref g45, .ref g46, .int 0]))] U.heap ∧ va_K (dC, dI) vwCl (ty3 cI cB cZ) U ∧ va_D (fun _ => True) [(h0, .inr (12, [.ref g0, .ref g1, .int 0, .int 0, .ref g2, .ref g3, .ref g4, .int 0, .int 0, .ref g5, .ref g6, .ref g7, .ref g8, .int 0, .int 0, .int 0, .ref g9, .ref g10, .ref g11, .ref g12, .ref g13, .ref g14, .ref g15, .ref g16, .int 0, .ref g17, .ref g18, .ref g19, .ref g20, .ref g21, .ref g22, .ref g23, .ref g24, .ref g25, .ref g26, .int 0, .int 0, .int 0, .ref g27, .ref g28, .ref g29, .ref g30, .int 0, .int 0, .int 0, .int 0, .int 0, .int 0, .int 0, .int 0, .int 0, .int 0, .int 0, .int 0, .int 0, .int 0, .ref g31, .ref g32, .ref g33, .ref g34, .int 0, .int 0, .int 0, .int 0, .int 0, .int 0, .int 0, .ref g35, .ref g36, .ref g37, .int 0, .ref g38, .int 0, .int 0, .int 0, .int 0, .int 0, .int 0, .int 0, .int 0, .int 0, .int 0, .int 0, .int 0, .int 0, .int 0, .int 0, .int 0, .ref g39, .ref g40, .ref g41, .ref g42, .ref g43, .ref g44, .ref g45, .ref g46, .int 0]))])) (va_Qi (fun (r : Int32) (_ : Unit) => r = sp_kX12_end p0) (fun (_ : Unit) (_ : State) => True) (va_A [(h0, .inr (12, [.ref g0, .ref g1, .int 0, .int 0, .ref g2, .ref g3, .ref g4, .int 0, .int 0, .ref g5, .ref g6, .ref g7, .ref g8, .int 0, .int 0, .int 0, .ref g9, .ref g10, .ref g11, .ref g12, .ref g13, .ref g14, .ref g15, .ref g16, .int 0, .ref g17, .ref g18, .ref g19, .ref g20, .ref g21, .ref g22, .ref g23, .ref g24, .ref g25, .ref g26, .int 0, .int 0, .int 0, .ref g27, .ref g28, .ref g29, .ref g30, .int 0, .int 0, .int 0, .int 0, .int 0, .int 0, .int 0, .int 0, .int 0, .int 0, .int 0, .int 0, .int 0, .int 0, .ref g31, .ref g32, .ref g33, .ref g34, .int 0, .int 0, .int 0, .int 0, .int 0, .int 0, .int 0, .ref g35, .ref g36, .ref g37, .int 0, .ref g38, .int 0, .int 0, .int 0, .int 0, .int 0, .int 0, .int 0, .int 0, .int 0, .int 0, .int 0, .int 0, .int 0, .int 0, .int 0, .int 0, .ref g39, .ref g40, .ref g41, .ref g42, .ref g43, .ref g44, .ref g45, .ref g46, .int 0]))] sz)) 0 0 (va_A [(h0, .inr (12, [.ref g0, .ref g1, .int 0, .int 0, .ref g2, .ref g3, .ref g4, .int 0, .int 0, .ref g5, .ref g6, .ref g7, .ref g8, .int 0, .int 0, .int 0, .ref g9, .ref g10, .ref g11, .ref g12, .ref g13, .ref g14, .ref g15, .ref g16, .int 0, .ref g17, .ref g18, .ref g19, .ref g20, .ref g21, .ref g22, .ref g23, .ref g24, .ref g25, .ref g26, .int 0, .int 0, .int 0, .ref g27, .ref g28, .ref g29, .ref g30, .int 0, .int 0, .int 0, .int 0, .int 0, .int 0, .int 0, .int 0, .int 0, .int 0, .int 0, .int 0, .int 0, .int 0, .ref g31, .ref g32, .ref g33, .ref g34, .int 0, .int 0, .int 0, .int 0, .int 0, .int 0, .int 0, .ref g35, .ref g36, .ref g37, .int 0, .ref g38, .int 0, .int 0, .int 0, .int 0, .int 0, .int 0, .int 0, .int 0, .int 0, .int 0, .int 0, .int 0, .int 0, .int 0, .int 0, .int 0, .ref g39, .ref g40, .ref g41, .ref g42, .ref g43, .ref g44, .ref g45, .ref g46, .int 0]))] sz) := by
  refine Met.ofW (cc := cX12_end) (maxL := 2) (ret := (some .int)) (by decide) rfl ?_
  intro p e s m args below meth c s₁ B hml hv
  obtain ⟨rfl, hsz, hP, hK, hD0⟩ := hv
  have hx := B.exec
  have hb := B.bytes
  have hr := B.returns
  have hts := atoms_spec (ws := vs_kX12_end) B.pre
  have hown : s.vm.findClass RX12 = some m.cls := findClass_of_methodNamed B.named
  have hlocks := B.notSynchronized
  subst hsz
  have hD := hD0.self (sz := s.heap.size)
  clear hD0
  generalize hAe : va_A [(h0, .inr (12, [.ref g0, .ref g1, .int 0, .int 0, .ref g2, .ref g3, .ref g4, .int 0, .int 0, .ref g5, .ref g6, .ref g7, .ref g8, .int 0, .int 0, .int 0, .ref g9, .ref g10, .ref g11, .ref g12, .ref g13, .ref g14, .ref g15, .ref g16, .int 0, .ref g17, .ref g18, .ref g19, .ref g20, .ref g21, .ref g22, .ref g23, .ref g24, .ref g25, .ref g26, .int 0, .int 0, .int 0, .ref g27, .ref g28, .ref g29, .ref g30, .int 0, .int 0, .int 0, .int 0, .int 0, .int 0, .int 0, .int 0, .int 0, .int 0, .int 0, .int 0, .int 0, .int 0, .ref g31, .ref g32, .ref g33, .ref g34, .int 0, .int 0, .int 0, .int 0, .int 0, .int 0, .int 0, .ref g35, .ref g36, .ref g37, .int 0, .ref g38, .int 0, .int 0, .int 0, .int 0, .int 0, .int 0, .int 0, .int 0, .int 0, .int 0, .int 0, .int 0, .int 0, .int 0, .int 0, .int 0, .ref g39, .ref g40, .ref g41, .ref g42, .ref g43, .ref g44, .ref g45, .ref g46, .int 0]))] s.heap.size = A at hD ⊢
  have hA : ∀ q : Nat, s.heap.size ≤ q → A q := fun q h => by rw [← hAe]; exact Or.inr h
  clear hAe
  have hS : va_S A s.heap s.heap [] := va_S.rf
  have hl := lv_entry ([.ref h0, .int p0]) (n := 2) (Nat.le_of_ble_eq_true rfl)
  rw [lg_entry_eq]
  generalize (lg_sl ([.ref h0, .int p0]) ++ List.replicate (2 - (lg_sl ([.ref h0, .int p0])).length) Slot.unset).toArray = ls at hl ⊢
  replace hl : lv_has ls 2 [(0, .ref h0), (1, .int p0)] := hl
  refine my_st (fun H locs eH el => ?_)
  replace hP : va_P (dC, dI) vwCl [(h0, .inr (12, [.ref g0, .ref g1, .int 0, .int 0, .ref g2, .ref g3, .ref g4, .int 0, .int 0, .ref g5, .ref g6, .ref g7, .ref g8, .int 0, .int 0, .int 0, .ref g9, .ref g10, .ref g11, .ref g12, .ref g13, .ref g14, .ref g15, .ref g16, .int 0, .ref g17, .ref g18, .ref g19, .ref g20, .ref g21, .ref g22, .ref g23, .ref g24, .ref g25, .ref g26, .int 0, .int 0, .int 0, .ref g27, .ref g28, .ref g29, .ref g30, .int 0, .int 0, .int 0, .int 0, .int 0, .int 0, .int 0, .int 0, .int 0, .int 0, .int 0, .int 0, .int 0, .int 0, .ref g31, .ref g32, .ref g33, .ref g34, .int 0, .int 0, .int 0, .int 0, .int 0, .int 0, .int 0, .ref g35, .ref g36, .ref g37, .int 0, .ref g38, .int 0, .int 0, .int 0, .int 0, .int 0, .int 0, .int 0, .int 0, .int 0, .int 0, .int 0, .int 0, .int 0, .int 0, .int 0, .int 0, .ref g39, .ref g40, .ref g41, .ref g42, .ref g43, .ref g44, .ref g45, .ref g46, .int 0]))] H := by rw [eH]; exact hP
  replace hS : va_S A s.heap H locs := by rw [eH, el]; exact hS
  clear eH el
  refine lv_iload_n hx hb dX12_end_0 rfl (lv_at hl 1 rfl) ?_
  refine lv_if_lt (tgt := 12) hx hb dX12_end_1 (by decide) (fun c_1 => ?_) (fun c_1 => ?_)
  · refine lv_iconst (v := (-1)) hx hb dX12_end_12 (by decide) ?_
    exact W.iret (v := (-1)) hx hb hr (fun t ht hW => ⟨⟨(-1), (), rfl, by unfold sp_kX12_end; rw [if_pos c_1], trivial⟩, hS.F ht⟩) hS.2.2 dX12_end_13
  · refine lv_iload_n hx hb dX12_end_4 rfl (lv_at hl 1 rfl) ?_
    refine lv_aload_n hx hb dX12_end_5 rfl (lv_at hl 0 rfl) ?_
    refine va_get (D := (dC, dI)) (ci := 12) (v := .int 0) (C := RX12) (T := TX12) (N := 97) hx hb hts i_kX12_end_X12 hown hK hP 0 rfl rfl 2 (by decide) (hts (Cond.fieldLink RX12 153 "CompiledHouseModel" "taped" "I") (List.mem_cons_of_mem _ (List.mem_append_left _ (List.mem_of_getElem? (i := 0) rfl)))) (fun _ h9 => h9) rfl dX12_end_6 ?_
    refine lv_icmp_le (tgt := 14) hx hb dX12_end_9 (by decide) (fun c_2 => ?_) (fun c_2 => ?_)
    · refine lv_aload_n hx hb dX12_end_14 rfl (lv_at hl 0 rfl) ?_
      refine lv_iload_n hx hb dX12_end_15 rfl (lv_at hl 1 rfl) ?_
      refine va_put (D := (dC, dI)) (ci := 12) (v := .int p0) (ty := .int) (C := RX12) (T := TX12) (N := 97) hx hb hts i_kX12_end_X12 tyX12 tyX12_ok nmX12 hown hK hP hD hS 0 rfl rfl 2 (by decide) (hts (Cond.fieldLink RX12 153 "CompiledHouseModel" "taped" "I") (List.mem_cons_of_mem _ (List.mem_append_left _ (List.mem_of_getElem? (i := 0) rfl)))) (fun _ h9 => h9) rfl (by decide +kernel) rfl rfl (Nat.le_of_ble_eq_true rfl) dX12_end_16 (fun H_3 locs hP1 hD1 hS1 => ?_)
      clear hP hD hS
      have hP : va_P (dC, dI) vwCl [(h0, .inr (12, [.ref g0, .ref g1, .int p0, .int 0, .ref g2, .ref g3, .ref g4, .int 0, .int 0, .ref g5, .ref g6, .ref g7, .ref g8, .int 0, .int 0, .int 0, .ref g9, .ref g10, .ref g11, .ref g12, .ref g13, .ref g14, .ref g15, .ref g16, .int 0, .ref g17, .ref g18, .ref g19, .ref g20, .ref g21, .ref g22, .ref g23, .ref g24, .ref g25, .ref g26, .int 0, .int 0, .int 0, .ref g27, .ref g28, .ref g29, .ref g30, .int 0, .int 0, .int 0, .int 0, .int 0, .int 0, .int 0, .int 0, .int 0, .int 0, .int 0, .int 0, .int 0, .int 0, .ref g31, .ref g32, .ref g33, .ref g34, .int 0, .int 0, .int 0, .int 0, .int 0, .int 0, .int 0, .ref g35, .ref g36, .ref g37, .int 0, .ref g38, .int 0, .int 0, .int 0, .int 0, .int 0, .int 0, .int 0, .int 0, .int 0, .int 0, .int 0, .int 0, .int 0, .int 0, .int 0, .int 0, .ref g39, .ref g40, .ref g41, .ref g42, .ref g43, .ref g44, .ref g45, .ref g46, .int 0]))] H_3 := hP1
      have hD : va_D A [(h0, .inr (12, [.ref g0, .ref g1, .int p0, .int 0, .ref g2, .ref g3, .ref g4, .int 0, .int 0, .ref g5, .ref g6, .ref g7, .ref g8, .int 0, .int 0, .int 0, .ref g9, .ref g10, .ref g11, .ref g12, .ref g13, .ref g14, .ref g15, .ref g16, .int 0, .ref g17, .ref g18, .ref g19, .ref g20, .ref g21, .ref g22, .ref g23, .ref g24, .ref g25, .ref g26, .int 0, .int 0, .int 0, .ref g27, .ref g28, .ref g29, .ref g30, .int 0, .int 0, .int 0, .int 0, .int 0, .int 0, .int 0, .int 0, .int 0, .int 0, .int 0, .int 0, .int 0, .int 0, .ref g31, .ref g32, .ref g33, .ref g34, .int 0, .int 0, .int 0, .int 0, .int 0, .int 0, .int 0, .ref g35, .ref g36, .ref g37, .int 0, .ref g38, .int 0, .int 0, .int 0, .int 0, .int 0, .int 0, .int 0, .int 0, .int 0, .int 0, .int 0, .int 0, .int 0, .int 0, .int 0, .int 0, .ref g39, .ref g40, .ref g41, .ref g42, .ref g43, .ref g44, .ref g45, .ref g46, .int 0]))] := hD1
      have hS := hS1
      clear hP1 hD1 hS1
      refine lv_iload_n hx hb dX12_end_19 rfl (lv_at hl 1 rfl) ?_
      exact W.iret (v := p0) hx hb hr (fun t ht hW => ⟨⟨p0, (), rfl, by unfold sp_kX12_end; rw [if_neg c_1, if_pos c_2], trivial⟩, hS.F ht⟩) hS.2.2 dX12_end_20
    · refine lv_iconst (v := (-1)) hx hb dX12_end_12 (by decide) ?_
      exact W.iret (v := (-1)) hx hb hr (fun t ht hW => ⟨⟨(-1), (), rfl, by unfold sp_kX12_end; rw [if_neg c_1, if_neg c_2], trivial⟩, hS.F ht⟩) hS.2.2 dX12_end_13
def vs_kX12_look : List Cond := Cond.code yX12_look cX12_look 3 (some .int) :: (([Cond.fieldLink RX12 509 "CompiledHouseModel" "there" "Z"] : List Cond) ++ (wsX120))
theorem i_kX12_look_X12 : ∀ w ∈ wsX120, w ∈ vs_kX12_look := fun w h => List.mem_cons_of_mem _ (List.mem_append_right _ h)
set_option maxHeartbeats 4000000 in
set_option maxRecDepth 100000 in
theorem kX12_look (l : Launch) (dC : Nat → ClassId) (dI : Nat → Nat → Nat) (cI cB cZ : ClassId) (h0 : Nat) (g0 : Nat) (g1 : Nat) (g2 : Nat) (g3 : Nat) (g4 : Nat) (g5 : Nat) (g6 : Nat) (g7 : Nat) (g8 : Nat) (g9 : Nat) (g10 : Nat) (g11 : Nat) (g12 : Nat) (g13 : Nat) (g14 : Nat) (g15 : Nat) (g16 : Nat) (g17 : Nat) (g18 : Nat) (g19 : Nat) (g20 : Nat) (g21 : Nat) (g22 : Nat) (g23 : Nat) (g24 : Nat) (g25 : Nat) (g26 : Nat) (g27 : Nat) (g28 : Nat) (g29 : Nat) (g30 : Nat) (g31 : Nat) (g32 : Nat) (g33 : Nat) (g34 : Nat) (g35 : Nat) (g36 : Nat) (g37 : Nat) (g38 : Nat) (g39 : Nat) (g40 : Nat) (g41 : Nat) (g42 : Nat) (g43 : Nat) (g44 : Nat) (g45 : Nat) (g46 : Nat) (sz : Nat) (p0 : Int32) (p1 : Int32) : Met l yX12_look vs_kX12_look ({ frames := 0, cells := 0, slots := 0, locals := 0 }) (va_Pc [.ref h0, .int p0, .int p1] (fun U => U.heap.size = sz ∧ va_P (dC, dI) vwCl [(h0, .inr (12, [.ref g0, .ref g1, .int 0, .int 0, .ref g2, .ref g3, .ref g4, .int 0, .int 0, .ref g5, .ref g6, .ref g7, .ref g8, .int 0, .int 0, .int 0, .ref g9, .ref g10, .ref g11, .ref g12, .ref g13, .ref g14, .ref g15, .ref g16, .int 0, .ref g17, .ref g18, .ref g19, .ref g20, .ref g21, .ref g22, .ref g23, .ref g24, .ref g25, .ref g26, .int 0, .int 0, .int 0, .ref g27, .ref g28, .ref g29, .ref g30, .int 0, .int 0, .int 0, .int 0, .int 0, .int 0, .int 0, .int 0, .int 0, .int 0, .int 0, .int 0, .int 0, .int 0, .ref g31, .ref g32, .ref g33, .ref g34, .int 0, .int 0, .int 0, .int 0, .int 0, .int 0, .int 0, .ref g35, .ref g36, .ref g37, .int 0, .ref g38, .int 0, .int 0, .int 0, .int 0, .int 0, .int 0, .int 0, .int 0, .int 0, .int 0, .int 0, .int 0, .int 0, .int 0, .int 0, .int 0, .ref g39, .ref g40, .ref g41, .ref g42, .ref g43, .ref g44, .ref g45, .ref g46, .int 0]))] U.heap ∧ va_K (dC, dI) vwCl (ty3 cI cB cZ) U ∧ va_D (fun _ => True) [(h0, .inr (12, [.ref g0, .ref g1, .int 0, .int 0, .ref g2, .ref g3, .ref g4, .int 0, .int 0, .ref g5, .ref g6, .ref g7, .ref g8, .int 0, .int 0, .int 0, .ref g9, .ref g10, .ref g11, .ref g12, .ref g13, .ref g14, .ref g15, .ref g16, .int 0, .ref g17, .ref g18, .ref g19, .ref g20, .ref g21, .ref g22, .ref g23, .ref g24, .ref g25, .ref g26, .int 0, .int 0, .int 0, .ref g27, .ref g28, .ref g29, .ref g30, .int 0, .int 0, .int 0, .int 0, .int 0, .int 0, .int 0, .int 0, .int 0, .int 0, .int 0, .int 0, .int 0, .int 0, .ref g31, .ref g32, .ref g33, .ref g34, .int 0, .int 0, .int 0, .int 0, .int 0, .int 0, .int 0, .ref g35, .ref g36, .ref g37, .int 0, .ref g38, .int 0, .int 0, .int 0, .int 0, .int 0, .int 0, .int 0, .int 0, .int 0, .int 0, .int 0, .int 0, .int 0, .int 0, .int 0, .int 0, .ref g39, .ref g40, .ref g41, .ref g42, .ref g43, .ref g44, .ref g45, .ref g46, .int 0]))])) (va_Qi (fun (r : Int32) (_ : Unit) => r = (-1)) (fun (_ : Unit) (t : State) => va_P (dC, dI) vwCl [(h0, .inr (12, [.ref g0, .ref g1, .int 0, .int 0, .ref g2, .ref g3, .ref g4, .int 0, .int 0, .ref g5, .ref g6, .ref g7, .ref g8, .int 0, .int 0, .int 0, .ref g9, .ref g10, .ref g11, .ref g12, .ref g13, .ref g14, .ref g15, .ref g16, .int 0, .ref g17, .ref g18, .ref g19, .ref g20, .ref g21, .ref g22, .ref g23, .ref g24, .ref g25, .ref g26, .int 0, .int 0, .int 0, .ref g27, .ref g28, .ref g29, .ref g30, .int 0, .int 0, .int 0, .int 0, .int 0, .int 0, .int 0, .int 0, .int 0, .int 0, .int 0, .int 0, .int 0, .int 0, .ref g31, .ref g32, .ref g33, .ref g34, .int 0, .int 0, .int 0, .int 0, .int 0, .int 0, .int 0, .ref g35, .ref g36, .ref g37, .int 0, .ref g38, .int 0, .int 0, .int 0, .int 0, .int 0, .int 0, .int 0, .int 0, .int 0, .int 0, .int 0, .int 0, .int 0, .int 0, .int 0, .int 0, .ref g39, .ref g40, .ref g41, .ref g42, .ref g43, .ref g44, .ref g45, .ref g46, .int 0]))] t.heap ∧ va_K (dC, dI) vwCl (ty3 cI cB cZ) t ∧ va_D (va_A [(h0, .inr (12, [.ref g0, .ref g1, .int 0, .int 0, .ref g2, .ref g3, .ref g4, .int 0, .int 0, .ref g5, .ref g6, .ref g7, .ref g8, .int 0, .int 0, .int 0, .ref g9, .ref g10, .ref g11, .ref g12, .ref g13, .ref g14, .ref g15, .ref g16, .int 0, .ref g17, .ref g18, .ref g19, .ref g20, .ref g21, .ref g22, .ref g23, .ref g24, .ref g25, .ref g26, .int 0, .int 0, .int 0, .ref g27, .ref g28, .ref g29, .ref g30, .int 0, .int 0, .int 0, .int 0, .int 0, .int 0, .int 0, .int 0, .int 0, .int 0, .int 0, .int 0, .int 0, .int 0, .ref g31, .ref g32, .ref g33, .ref g34, .int 0, .int 0, .int 0, .int 0, .int 0, .int 0, .int 0, .ref g35, .ref g36, .ref g37, .int 0, .ref g38, .int 0, .int 0, .int 0, .int 0, .int 0, .int 0, .int 0, .int 0, .int 0, .int 0, .int 0, .int 0, .int 0, .int 0, .int 0, .int 0, .ref g39, .ref g40, .ref g41, .ref g42, .ref g43, .ref g44, .ref g45, .ref g46, .int 0]))] sz) [(h0, .inr (12, [.ref g0, .ref g1, .int 0, .int 0, .ref g2, .ref g3, .ref g4, .int 0, .int 0, .ref g5, .ref g6, .ref g7, .ref g8, .int 0, .int 0, .int 0, .ref g9, .ref g10, .ref g11, .ref g12, .ref g13, .ref g14, .ref g15, .ref g16, .int 0, .ref g17, .ref g18, .ref g19, .ref g20, .ref g21, .ref g22, .ref g23, .ref g24, .ref g25, .ref g26, .int 0, .int 0, .int 0, .ref g27, .ref g28, .ref g29, .ref g30, .int 0, .int 0, .int 0, .int 0, .int 0, .int 0, .int 0, .int 0, .int 0, .int 0, .int 0, .int 0, .int 0, .int 0, .ref g31, .ref g32, .ref g33, .ref g34, .int 0, .int 0, .int 0, .int 0, .int 0, .int 0, .int 0, .ref g35, .ref g36, .ref g37, .int 0, .ref g38, .int 0, .int 0, .int 0, .int 0, .int 0, .int 0, .int 0, .int 0, .int 0, .int 0, .int 0, .int 0, .int 0, .int 0, .int 0, .int 0, .ref g39, .ref g40, .ref g41, .ref g42, .ref g43, .ref g44, .ref g45, .ref g46, .int 0]))]) (va_A [(h0, .inr (12, [.ref g0, .ref g1, .int 0, .int 0, .ref g2, .ref g3, .ref g4, .int 0, .int 0, .ref g5, .ref g6, .ref g7, .ref g8, .int 0, .int 0, .int 0, .ref g9, .ref g10, .ref g11, .ref g12, .ref g13, .ref g14, .ref g15, .ref g16, .int 0, .ref g17, .ref g18, .ref g19, .ref g20, .ref g21, .ref g22, .ref g23, .ref g24, .ref g25, .ref g26, .int 0, .int 0, .int 0, .ref g27, .ref g28, .ref g29, .ref g30, .int 0, .int 0, .int 0, .int 0, .int 0, .int 0, .int 0, .int 0, .int 0, .int 0, .int 0, .int 0, .int 0, .int 0, .ref g31, .ref g32, .ref g33, .ref g34, .int 0, .int 0, .int 0, .int 0, .int 0, .int 0, .int 0, .ref g35, .ref g36, .ref g37, .int 0, .ref g38, .int 0, .int 0, .int 0, .int 0, .int 0, .int 0, .int 0, .int 0, .int 0, .int 0, .int 0, .int 0, .int 0, .int 0, .int 0, .int 0, .ref g39, .ref g40, .ref g41, .ref g42, .ref g43, .ref g44, .ref g45, .ref g46, .int 0]))] sz)) 0 0 (va_A [(h0, .inr (12, [.ref g0, .ref g1, .int 0, .int 0, .ref g2, .ref g3, .ref g4, .int 0, .int 0, .ref g5, .ref g6, .ref g7, .ref g8, .int 0, .int 0, .int 0, .ref g9, .ref g10, .ref g11, .ref g12, .ref g13, .ref g14, .ref g15, .ref g16, .int 0, .ref g17, .ref g18, .ref g19, .ref g20, .ref g21, .ref g22, .ref g23, .ref g24, .ref g25, .ref g26, .int 0, .int 0, .int 0, .ref g27, .ref g28, .ref g29, .ref g30, .int 0, .int 0, .int 0, .int 0, .int 0, .int 0, .int 0, .int 0, .int 0, .int 0, .int 0, .int 0, .int 0, .int 0, .ref g31, .ref g32, .ref g33, .ref g34, .int 0, .int 0, .int 0, .int 0, .int 0, .int 0, .int 0, .ref g35, .ref g36, .ref g37, .int 0, .ref g38, .int 0, .int 0, .int 0, .int 0, .int 0, .int 0, .int 0, .int 0, .int 0, .int 0, .int 0, .int 0, .int 0, .int 0, .int 0, .int 0, .ref g39, .ref g40, .ref g41, .ref g42, .ref g43, .ref g44, .ref g45, .ref g46, .int 0]))] sz) := by
  refine Met.ofW (cc := cX12_look) (maxL := 3) (ret := (some .int)) (by decide) rfl ?_
  intro p e s m args below meth c s₁ B hml hv
  obtain ⟨rfl, hsz, hP, hK, hD0⟩ := hv
  have hx := B.exec
  have hb := B.bytes
  have hr := B.returns
  have hts := atoms_spec (ws := vs_kX12_look) B.pre
  have hown : s.vm.findClass RX12 = some m.cls := findClass_of_methodNamed B.named
  have hlocks := B.notSynchronized
  subst hsz
  have hD := hD0.self (sz := s.heap.size)
  clear hD0
  generalize hAe : va_A [(h0, .inr (12, [.ref g0, .ref g1, .int 0, .int 0, .ref g2, .ref g3, .ref g4, .int 0, .int 0, .ref g5, .ref g6, .ref g7, .ref g8, .int 0, .int 0, .int 0, .ref g9, .ref g10, .ref g11, .ref g12, .ref g13, .ref g14, .ref g15, .ref g16, .int 0, .ref g17, .ref g18, .ref g19, .ref g20, .ref g21, .ref g22, .ref g23, .ref g24, .ref g25, .ref g26, .int 0, .int 0, .int 0, .ref g27, .ref g28, .ref g29, .ref g30, .int 0, .int 0, .int 0, .int 0, .int 0, .int 0, .int 0, .int 0, .int 0, .int 0, .int 0, .int 0, .int 0, .int 0, .ref g31, .ref g32, .ref g33, .ref g34, .int 0, .int 0, .int 0, .int 0, .int 0, .int 0, .int 0, .ref g35, .ref g36, .ref g37, .int 0, .ref g38, .int 0, .int 0, .int 0, .int 0, .int 0, .int 0, .int 0, .int 0, .int 0, .int 0, .int 0, .int 0, .int 0, .int 0, .int 0, .int 0, .ref g39, .ref g40, .ref g41, .ref g42, .ref g43, .ref g44, .ref g45, .ref g46, .int 0]))] s.heap.size = A at hD ⊢
  have hA : ∀ q : Nat, s.heap.size ≤ q → A q := fun q h => by rw [← hAe]; exact Or.inr h
  clear hAe
  have hS : va_S A s.heap s.heap [] := va_S.rf
  have hl := lv_entry ([.ref h0, .int p0, .int p1]) (n := 3) (Nat.le_of_ble_eq_true rfl)
  rw [lg_entry_eq]
  generalize (lg_sl ([.ref h0, .int p0, .int p1]) ++ List.replicate (3 - (lg_sl ([.ref h0, .int p0, .int p1])).length) Slot.unset).toArray = ls at hl ⊢
  replace hl : lv_has ls 3 [(0, .ref h0), (1, .int p0), (2, .int p1)] := hl
  refine my_st (fun H locs eH el => ?_)
  replace hP : va_P (dC, dI) vwCl [(h0, .inr (12, [.ref g0, .ref g1, .int 0, .int 0, .ref g2, .ref g3, .ref g4, .int 0, .int 0, .ref g5, .ref g6, .ref g7, .ref g8, .int 0, .int 0, .int 0, .ref g9, .ref g10, .ref g11, .ref g12, .ref g13, .ref g14, .ref g15, .ref g16, .int 0, .ref g17, .ref g18, .ref g19, .ref g20, .ref g21, .ref g22, .ref g23, .ref g24, .ref g25, .ref g26, .int 0, .int 0, .int 0, .ref g27, .ref g28, .ref g29, .ref g30, .int 0, .int 0, .int 0, .int 0, .int 0, .int 0, .int 0, .int 0, .int 0, .int 0, .int 0, .int 0, .int 0, .int 0, .ref g31, .ref g32, .ref g33, .ref g34, .int 0, .int 0, .int 0, .int 0, .int 0, .int 0, .int 0, .ref g35, .ref g36, .ref g37, .int 0, .ref g38, .int 0, .int 0, .int 0, .int 0, .int 0, .int 0, .int 0, .int 0, .int 0, .int 0, .int 0, .int 0, .int 0, .int 0, .int 0, .int 0, .ref g39, .ref g40, .ref g41, .ref g42, .ref g43, .ref g44, .ref g45, .ref g46, .int 0]))] H := by rw [eH]; exact hP
  replace hS : va_S A s.heap H locs := by rw [eH, el]; exact hS
  clear eH el
  refine lv_aload_n hx hb dX12_look_0 rfl (lv_at hl 0 rfl) ?_
  refine va_get (D := (dC, dI)) (ci := 12) (v := .int 0) (C := RX12) (T := TX12) (N := 97) hx hb hts i_kX12_look_X12 hown hK hP 0 rfl rfl 73 (by decide) (hts (Cond.fieldLink RX12 509 "CompiledHouseModel" "there" "Z") (List.mem_cons_of_mem _ (List.mem_append_left _ (List.mem_of_getElem? (i := 0) rfl)))) (fun _ h9 => h9) rfl dX12_look_1 ?_
  refine lv_if_ne (tgt := 9) hx hb dX12_look_4 (by decide) (fun c_0 => absurd (by decide) c_0) (fun _ => ?_)
  refine lv_iconst (v := (-1)) hx hb dX12_look_7 (by decide) ?_
  have hP9 := hP.sub (ws' := [(h0, .inr (12, [.ref g0, .ref g1, .int 0, .int 0, .ref g2, .ref g3, .ref g4, .int 0, .int 0, .ref g5, .ref g6, .ref g7, .ref g8, .int 0, .int 0, .int 0, .ref g9, .ref g10, .ref g11, .ref g12, .ref g13, .ref g14, .ref g15, .ref g16, .int 0, .ref g17, .ref g18, .ref g19, .ref g20, .ref g21, .ref g22, .ref g23, .ref g24, .ref g25, .ref g26, .int 0, .int 0, .int 0, .ref g27, .ref g28, .ref g29, .ref g30, .int 0, .int 0, .int 0, .int 0, .int 0, .int 0, .int 0, .int 0, .int 0, .int 0, .int 0, .int 0, .int 0, .int 0, .ref g31, .ref g32, .ref g33, .ref g34, .int 0, .int 0, .int 0, .int 0, .int 0, .int 0, .int 0, .ref g35, .ref g36, .ref g37, .int 0, .ref g38, .int 0, .int 0, .int 0, .int 0, .int 0, .int 0, .int 0, .int 0, .int 0, .int 0, .int 0, .int 0, .int 0, .int 0, .int 0, .int 0, .ref g39, .ref g40, .ref g41, .ref g42, .ref g43, .ref g44, .ref g45, .ref g46, .int 0]))]) [0] rfl
  have hD9 := hD.sub (ws' := [(h0, .inr (12, [.ref g0, .ref g1, .int 0, .int 0, .ref g2, .ref g3, .ref g4, .int 0, .int 0, .ref g5, .ref g6, .ref g7, .ref g8, .int 0, .int 0, .int 0, .ref g9, .ref g10, .ref g11, .ref g12, .ref g13, .ref g14, .ref g15, .ref g16, .int 0, .ref g17, .ref g18, .ref g19, .ref g20, .ref g21, .ref g22, .ref g23, .ref g24, .ref g25, .ref g26, .int 0, .int 0, .int 0, .ref g27, .ref g28, .ref g29, .ref g30, .int 0, .int 0, .int 0, .int 0, .int 0, .int 0, .int 0, .int 0, .int 0, .int 0, .int 0, .int 0, .int 0, .int 0, .ref g31, .ref g32, .ref g33, .ref g34, .int 0, .int 0, .int 0, .int 0, .int 0, .int 0, .int 0, .ref g35, .ref g36, .ref g37, .int 0, .ref g38, .int 0, .int 0, .int 0, .int 0, .int 0, .int 0, .int 0, .int 0, .int 0, .int 0, .int 0, .int 0, .int 0, .int 0, .int 0, .int 0, .ref g39, .ref g40, .ref g41, .ref g42, .ref g43, .ref g44, .ref g45, .ref g46, .int 0]))]) [0] (by decide) rfl
  refine W.widen (k := 0) (n := 0) (by decide) (by decide) ?_
  exact W.iret (v := (-1)) hx hb hr (fun t ht hW => ⟨⟨(-1), (), rfl, rfl, by rw [ht]; exact hP9, va_K.moved hW.alike hK, hD9⟩, hS.F ht⟩) hS.2.2 dX12_look_8
def vs_kX12_give : List Cond := Cond.code yX12_give cX12_give 2 (some .int) :: (([Cond.fieldLink RX12 509 "CompiledHouseModel" "there" "Z"] : List Cond) ++ (wsX120))
theorem i_kX12_give_X12 : ∀ w ∈ wsX120, w ∈ vs_kX12_give := fun w h => List.mem_cons_of_mem _ (List.mem_append_right _ h)
set_option maxHeartbeats 4000000 in
set_option maxRecDepth 100000 in
theorem kX12_give (l : Launch) (dC : Nat → ClassId) (dI : Nat → Nat → Nat) (cI cB cZ : ClassId) (h0 : Nat) (g0 : Nat) (g1 : Nat) (g2 : Nat) (g3 : Nat) (g4 : Nat) (g5 : Nat) (g6 : Nat) (g7 : Nat) (g8 : Nat) (g9 : Nat) (g10 : Nat) (g11 : Nat) (g12 : Nat) (g13 : Nat) (g14 : Nat) (g15 : Nat) (g16 : Nat) (g17 : Nat) (g18 : Nat) (g19 : Nat) (g20 : Nat) (g21 : Nat) (g22 : Nat) (g23 : Nat) (g24 : Nat) (g25 : Nat) (g26 : Nat) (g27 : Nat) (g28 : Nat) (g29 : Nat) (g30 : Nat) (g31 : Nat) (g32 : Nat) (g33 : Nat) (g34 : Nat) (g35 : Nat) (g36 : Nat) (g37 : Nat) (g38 : Nat) (g39 : Nat) (g40 : Nat) (g41 : Nat) (g42 : Nat) (g43 : Nat) (g44 : Nat) (g45 : Nat) (g46 : Nat) (sz : Nat) (p0 : Int32) : Met l yX12_give vs_kX12_give ({ frames := 0, cells := 0, slots := 0, locals := 0 }) (va_Pc [.ref h0, .int p0] (fun U => U.heap.size = sz ∧ va_P (dC, dI) vwCl [(h0, .inr (12, [.ref g0, .ref g1, .int 0, .int 0, .ref g2, .ref g3, .ref g4, .int 0, .int 0, .ref g5, .ref g6, .ref g7, .ref g8, .int 0, .int 0, .int 0, .ref g9, .ref g10, .ref g11, .ref g12, .ref g13, .ref g14, .ref g15, .ref g16, .int 0, .ref g17, .ref g18, .ref g19, .ref g20, .ref g21, .ref g22, .ref g23, .ref g24, .ref g25, .ref g26, .int 0, .int 0, .int 0, .ref g27, .ref g28, .ref g29, .ref g30, .int 0, .int 0, .int 0, .int 0, .int 0, .int 0, .int 0, .int 0, .int 0, .int 0, .int 0, .int 0, .int 0, .int 0, .ref g31, .ref g32, .ref g33, .ref g34, .int 0, .int 0, .int 0, .int 0, .int 0, .int 0, .int 0, .ref g35, .ref g36, .ref g37, .int 0, .ref g38, .int 0, .int 0, .int 0, .int 0, .int 0, .int 0, .int 0, .int 0, .int 0, .int 0, .int 0, .int 0, .int 0, .int 0, .int 0, .int 0, .ref g39, .ref g40, .ref g41, .ref g42, .ref g43, .ref g44, .ref g45, .ref g46, .int 0]))] U.heap ∧ va_K (dC, dI) vwCl (ty3 cI cB cZ) U ∧ va_D (fun _ => True) [(h0, .inr (12, [.ref g0, .ref g1, .int 0, .int 0, .ref g2, .ref g3, .ref g4, .int 0, .int 0, .ref g5, .ref g6, .ref g7, .ref g8, .int 0, .int 0, .int 0, .ref g9, .ref g10, .ref g11, .ref g12, .ref g13, .ref g14, .ref g15, .ref g16, .int 0, .ref g17, .ref g18, .ref g19, .ref g20, .ref g21, .ref g22, .ref g23, .ref g24, .ref g25, .ref g26, .int 0, .int 0, .int 0, .ref g27, .ref g28, .ref g29, .ref g30, .int 0, .int 0, .int 0, .int 0, .int 0, .int 0, .int 0, .int 0, .int 0, .int 0, .int 0, .int 0, .int 0, .int 0, .ref g31, .ref g32, .ref g33, .ref g34, .int 0, .int 0, .int 0, .int 0, .int 0, .int 0, .int 0, .ref g35, .ref g36, .ref g37, .int 0, .ref g38, .int 0, .int 0, .int 0, .int 0, .int 0, .int 0, .int 0, .int 0, .int 0, .int 0, .int 0, .int 0, .int 0, .int 0, .int 0, .int 0, .ref g39, .ref g40, .ref g41, .ref g42, .ref g43, .ref g44, .ref g45, .ref g46, .int 0]))])) (va_Qi (fun (r : Int32) (_ : Unit) => r = (-1)) (fun (_ : Unit) (t : State) => va_P (dC, dI) vwCl [(h0, .inr (12, [.ref g0, .ref g1, .int 0, .int 0, .ref g2, .ref g3, .ref g4, .int 0, .int 0, .ref g5, .ref g6, .ref g7, .ref g8, .int 0, .int 0, .int 0, .ref g9, .ref g10, .ref g11, .ref g12, .ref g13, .ref g14, .ref g15, .ref g16, .int 0, .ref g17, .ref g18, .ref g19, .ref g20, .ref g21, .ref g22, .ref g23, .ref g24, .ref g25, .ref g26, .int 0, .int 0, .int 0, .ref g27, .ref g28, .ref g29, .ref g30, .int 0, .int 0, .int 0, .int 0, .int 0, .int 0, .int 0, .int 0, .int 0, .int 0, .int 0, .int 0, .int 0, .int 0, .ref g31, .ref g32, .ref g33, .ref g34, .int 0, .int 0, .int 0, .int 0, .int 0, .int 0, .int 0, .ref g35, .ref g36, .ref g37, .int 0, .ref g38, .int 0, .int 0, .int 0, .int 0, .int 0, .int 0, .int 0, .int 0, .int 0, .int 0, .int 0, .int 0, .int 0, .int 0, .int 0, .int 0, .ref g39, .ref g40, .ref g41, .ref g42, .ref g43, .ref g44, .ref g45, .ref g46, .int 0]))] t.heap ∧ va_K (dC, dI) vwCl (ty3 cI cB cZ) t ∧ va_D (va_A [(h0, .inr (12, [.ref g0, .ref g1, .int 0, .int 0, .ref g2, .ref g3, .ref g4, .int 0, .int 0, .ref g5, .ref g6, .ref g7, .ref g8, .int 0, .int 0, .int 0, .ref g9, .ref g10, .ref g11, .ref g12, .ref g13, .ref g14, .ref g15, .ref g16, .int 0, .ref g17, .ref g18, .ref g19, .ref g20, .ref g21, .ref g22, .ref g23, .ref g24, .ref g25, .ref g26, .int 0, .int 0, .int 0, .ref g27, .ref g28, .ref g29, .ref g30, .int 0, .int 0, .int 0, .int 0, .int 0, .int 0, .int 0, .int 0, .int 0, .int 0, .int 0, .int 0, .int 0, .int 0, .ref g31, .ref g32, .ref g33, .ref g34, .int 0, .int 0, .int 0, .int 0, .int 0, .int 0, .int 0, .ref g35, .ref g36, .ref g37, .int 0, .ref g38, .int 0, .int 0, .int 0, .int 0, .int 0, .int 0, .int 0, .int 0, .int 0, .int 0, .int 0, .int 0, .int 0, .int 0, .int 0, .int 0, .ref g39, .ref g40, .ref g41, .ref g42, .ref g43, .ref g44, .ref g45, .ref g46, .int 0]))] sz) [(h0, .inr (12, [.ref g0, .ref g1, .int 0, .int 0, .ref g2, .ref g3, .ref g4, .int 0, .int 0, .ref g5, .ref g6, .ref g7, .ref g8, .int 0, .int 0, .int 0, .ref g9, .ref g10, .ref g11, .ref g12, .ref g13, .ref g14, .ref g15, .ref g16, .int 0, .ref g17, .ref g18, .ref g19, .ref g20, .ref g21, .ref g22, .ref g23, .ref g24, .ref g25, .ref g26, .int 0, .int 0, .int 0, .ref g27, .ref g28, .ref g29, .ref g30, .int 0, .int 0, .int 0, .int 0, .int 0, .int 0, .int 0, .int 0, .int 0, .int 0, .int 0, .int 0, .int 0, .int 0, .ref g31, .ref g32, .ref g33, .ref g34, .int 0, .int 0, .int 0, .int 0, .int 0, .int 0, .int 0, .ref g35, .ref g36, .ref g37, .int 0, .ref g38, .int 0, .int 0, .int 0, .int 0, .int 0, .int 0, .int 0, .int 0, .int 0, .int 0, .int 0, .int 0, .int 0, .int 0, .int 0, .int 0, .ref g39, .ref g40, .ref g41, .ref g42, .ref g43, .ref g44, .ref g45, .ref g46, .int 0]))]) (va_A [(h0, .inr (12, [.ref g0, .ref g1, .int 0, .int 0, .ref g2, .ref g3, .ref g4, .int 0, .int 0, .ref g5, .ref g6, .ref g7, .ref g8, .int 0, .int 0, .int 0, .ref g9, .ref g10, .ref g11, .ref g12, .ref g13, .ref g14, .ref g15, .ref g16, .int 0, .ref g17, .ref g18, .ref g19, .ref g20, .ref g21, .ref g22, .ref g23, .ref g24, .ref g25, .ref g26, .int 0, .int 0, .int 0, .ref g27, .ref g28, .ref g29, .ref g30, .int 0, .int 0, .int 0, .int 0, .int 0, .int 0, .int 0, .int 0, .int 0, .int 0, .int 0, .int 0, .int 0, .int 0, .ref g31, .ref g32, .ref g33, .ref g34, .int 0, .int 0, .int 0, .int 0, .int 0, .int 0, .int 0, .ref g35, .ref g36, .ref g37, .int 0, .ref g38, .int 0, .int 0, .int 0, .int 0, .int 0, .int 0, .int 0, .int 0, .int 0, .int 0, .int 0, .int 0, .int 0, .int 0, .int 0, .int 0, .ref g39, .ref g40, .ref g41, .ref g42, .ref g43, .ref g44, .ref g45, .ref g46, .int 0]))] sz)) 0 0 (va_A [(h0, .inr (12, [.ref g0, .ref g1, .int 0, .int 0, .ref g2, .ref g3, .ref g4, .int 0, .int 0, .ref g5, .ref g6, .ref g7, .ref g8, .int 0, .int 0, .int 0, .ref g9, .ref g10, .ref g11, .ref g12, .ref g13, .ref g14, .ref g15, .ref g16, .int 0, .ref g17, .ref g18, .ref g19, .ref g20, .ref g21, .ref g22, .ref g23, .ref g24, .ref g25, .ref g26, .int 0, .int 0, .int 0, .ref g27, .ref g28, .ref g29, .ref g30, .int 0, .int 0, .int 0, .int 0, .int 0, .int 0, .int 0, .int 0, .int 0, .int 0, .int 0, .int 0, .int 0, .int 0, .ref g31, .ref g32, .ref g33, .ref g34, .int 0, .int 0, .int 0, .int 0, .int 0, .int 0, .int 0, .ref g35, .ref g36, .ref g37, .int 0, .ref g38, .int 0, .int 0, .int 0, .int 0, .int 0, .int 0, .int 0, .int 0, .int 0, .int 0, .int 0, .int 0, .int 0, .int 0, .int 0, .int 0, .ref g39, .ref g40, .ref g41, .ref g42, .ref g43, .ref g44, .ref g45, .ref g46, .int 0]))] sz) := by
  refine Met.ofW (cc := cX12_give) (maxL := 2) (ret := (some .int)) (by decide) rfl ?_
  intro p e s m args below meth c s₁ B hml hv
  obtain ⟨rfl, hsz, hP, hK, hD0⟩ := hv
  have hx := B.exec
  have hb := B.bytes
  have hr := B.returns
  have hts := atoms_spec (ws := vs_kX12_give) B.pre
  have hown : s.vm.findClass RX12 = some m.cls := findClass_of_methodNamed B.named
  have hlocks := B.notSynchronized
  subst hsz
  have hD := hD0.self (sz := s.heap.size)
  clear hD0
  generalize hAe : va_A [(h0, .inr (12, [.ref g0, .ref g1, .int 0, .int 0, .ref g2, .ref g3, .ref g4, .int 0, .int 0, .ref g5, .ref g6, .ref g7, .ref g8, .int 0, .int 0, .int 0, .ref g9, .ref g10, .ref g11, .ref g12, .ref g13, .ref g14, .ref g15, .ref g16, .int 0, .ref g17, .ref g18, .ref g19, .ref g20, .ref g21, .ref g22, .ref g23, .ref g24, .ref g25, .ref g26, .int 0, .int 0, .int 0, .ref g27, .ref g28, .ref g29, .ref g30, .int 0, .int 0, .int 0, .int 0, .int 0, .int 0, .int 0, .int 0, .int 0, .int 0, .int 0, .int 0, .int 0, .int 0, .ref g31, .ref g32, .ref g33, .ref g34, .int 0, .int 0, .int 0, .int 0, .int 0, .int 0, .int 0, .ref g35, .ref g36, .ref g37, .int 0, .ref g38, .int 0, .int 0, .int 0, .int 0, .int 0, .int 0, .int 0, .int 0, .int 0, .int 0, .int 0, .int 0, .int 0, .int 0, .int 0, .int 0, .ref g39, .ref g40, .ref g41, .ref g42, .ref g43, .ref g44, .ref g45, .ref g46, .int 0]))] s.heap.size = A at hD ⊢
  have hA : ∀ q : Nat, s.heap.size ≤ q → A q := fun q h => by rw [← hAe]; exact Or.inr h
  clear hAe
  have hS : va_S A s.heap s.heap [] := va_S.rf
  have hl := lv_entry ([.ref h0, .int p0]) (n := 2) (Nat.le_of_ble_eq_true rfl)
  rw [lg_entry_eq]
  generalize (lg_sl ([.ref h0, .int p0]) ++ List.replicate (2 - (lg_sl ([.ref h0, .int p0])).length) Slot.unset).toArray = ls at hl ⊢
  replace hl : lv_has ls 2 [(0, .ref h0), (1, .int p0)] := hl
  refine my_st (fun H locs eH el => ?_)
  replace hP : va_P (dC, dI) vwCl [(h0, .inr (12, [.ref g0, .ref g1, .int 0, .int 0, .ref g2, .ref g3, .ref g4, .int 0, .int 0, .ref g5, .ref g6, .ref g7, .ref g8, .int 0, .int 0, .int 0, .ref g9, .ref g10, .ref g11, .ref g12, .ref g13, .ref g14, .ref g15, .ref g16, .int 0, .ref g17, .ref g18, .ref g19, .ref g20, .ref g21, .ref g22, .ref g23, .ref g24, .ref g25, .ref g26, .int 0, .int 0, .int 0, .ref g27, .ref g28, .ref g29, .ref g30, .int 0, .int 0, .int 0, .int 0, .int 0, .int 0, .int 0, .int 0, .int 0, .int 0, .int 0, .int 0, .int 0, .int 0, .ref g31, .ref g32, .ref g33, .ref g34, .int 0, .int 0, .int 0, .int 0, .int 0, .int 0, .int 0, .ref g35, .ref g36, .ref g37, .int 0, .ref g38, .int 0, .int 0, .int 0, .int 0, .int 0, .int 0, .int 0, .int 0, .int 0, .int 0, .int 0, .int 0, .int 0, .int 0, .int 0, .int 0, .ref g39, .ref g40, .ref g41, .ref g42, .ref g43, .ref g44, .ref g45, .ref g46, .int 0]))] H := by rw [eH]; exact hP
  replace hS : va_S A s.heap H locs := by rw [eH, el]; exact hS
  clear eH el
  refine lv_aload_n hx hb dX12_give_0 rfl (lv_at hl 0 rfl) ?_
  refine va_get (D := (dC, dI)) (ci := 12) (v := .int 0) (C := RX12) (T := TX12) (N := 97) hx hb hts i_kX12_give_X12 hown hK hP 0 rfl rfl 73 (by decide) (hts (Cond.fieldLink RX12 509 "CompiledHouseModel" "there" "Z") (List.mem_cons_of_mem _ (List.mem_append_left _ (List.mem_of_getElem? (i := 0) rfl)))) (fun _ h9 => h9) rfl dX12_give_1 ?_
  refine lv_if_eq (tgt := 17) hx hb dX12_give_4 (by decide) (fun _ => ?_) (fun c_0 => absurd (by decide) c_0)
  refine lv_iconst (v := (-1)) hx hb dX12_give_17 (by decide) ?_
  have hP9 := hP.sub (ws' := [(h0, .inr (12, [.ref g0, .ref g1, .int 0, .int 0, .ref g2, .ref g3, .ref g4, .int 0, .int 0, .ref g5, .ref g6, .ref g7, .ref g8, .int 0, .int 0, .int 0, .ref g9, .ref g10, .ref g11, .ref g12, .ref g13, .ref g14, .ref g15, .ref g16, .int 0, .ref g17, .ref g18, .ref g19, .ref g20, .ref g21, .ref g22, .ref g23, .ref g24, .ref g25, .ref g26, .int 0, .int 0, .int 0, .ref g27, .ref g28, .ref g29, .ref g30, .int 0, .int 0, .int 0, .int 0, .int 0, .int 0, .int 0, .int 0, .int 0, .int 0, .int 0, .int 0, .int 0, .int 0, .ref g31, .ref g32, .ref g33, .ref g34, .int 0, .int 0, .int 0, .int 0, .int 0, .int 0, .int 0, .ref g35, .ref g36, .ref g37, .int 0, .ref g38, .int 0, .int 0, .int 0, .int 0, .int 0, .int 0, .int 0, .int 0, .int 0, .int 0, .int 0, .int 0, .int 0, .int 0, .int 0, .int 0, .ref g39, .ref g40, .ref g41, .ref g42, .ref g43, .ref g44, .ref g45, .ref g46, .int 0]))]) [0] rfl
  have hD9 := hD.sub (ws' := [(h0, .inr (12, [.ref g0, .ref g1, .int 0, .int 0, .ref g2, .ref g3, .ref g4, .int 0, .int 0, .ref g5, .ref g6, .ref g7, .ref g8, .int 0, .int 0, .int 0, .ref g9, .ref g10, .ref g11, .ref g12, .ref g13, .ref g14, .ref g15, .ref g16, .int 0, .ref g17, .ref g18, .ref g19, .ref g20, .ref g21, .ref g22, .ref g23, .ref g24, .ref g25, .ref g26, .int 0, .int 0, .int 0, .ref g27, .ref g28, .ref g29, .ref g30, .int 0, .int 0, .int 0, .int 0, .int 0, .int 0, .int 0, .int 0, .int 0, .int 0, .int 0, .int 0, .int 0, .int 0, .ref g31, .ref g32, .ref g33, .ref g34, .int 0, .int 0, .int 0, .int 0, .int 0, .int 0, .int 0, .ref g35, .ref g36, .ref g37, .int 0, .ref g38, .int 0, .int 0, .int 0, .int 0, .int 0, .int 0, .int 0, .int 0, .int 0, .int 0, .int 0, .int 0, .int 0, .int 0, .int 0, .int 0, .ref g39, .ref g40, .ref g41, .ref g42, .ref g43, .ref g44, .ref g45, .ref g46, .int 0]))]) [0] (by decide) rfl
  refine W.widen (k := 0) (n := 0) (by decide) (by decide) ?_
  exact W.iret (v := (-1)) hx hb hr (fun t ht hW => ⟨⟨(-1), (), rfl, rfl, by rw [ht]; exact hP9, va_K.moved hW.alike hK, hD9⟩, hS.F ht⟩) hS.2.2 dX12_give_18
def vs_kX12_begin : List Cond := Cond.code yX12_begin cX12_begin 3 (some .boolean) :: (([Cond.fieldLink RX12 509 "CompiledHouseModel" "there" "Z"] : List Cond) ++ (wsX120))
theorem i_kX12_begin_X12 : ∀ w ∈ wsX120, w ∈ vs_kX12_begin := fun w h => List.mem_cons_of_mem _ (List.mem_append_right _ h)
set_option maxHeartbeats 4000000 in
set_option maxRecDepth 100000 in
theorem kX12_begin (l : Launch) (dC : Nat → ClassId) (dI : Nat → Nat → Nat) (cI cB cZ : ClassId) (h0 : Nat) (g0 : Nat) (g1 : Nat) (g2 : Nat) (g3 : Nat) (g4 : Nat) (g5 : Nat) (g6 : Nat) (g7 : Nat) (g8 : Nat) (g9 : Nat) (g10 : Nat) (g11 : Nat) (g12 : Nat) (g13 : Nat) (g14 : Nat) (g15 : Nat) (g16 : Nat) (g17 : Nat) (g18 : Nat) (g19 : Nat) (g20 : Nat) (g21 : Nat) (g22 : Nat) (g23 : Nat) (g24 : Nat) (g25 : Nat) (g26 : Nat) (g27 : Nat) (g28 : Nat) (g29 : Nat) (g30 : Nat) (g31 : Nat) (g32 : Nat) (g33 : Nat) (g34 : Nat) (g35 : Nat) (g36 : Nat) (g37 : Nat) (g38 : Nat) (g39 : Nat) (g40 : Nat) (g41 : Nat) (g42 : Nat) (g43 : Nat) (g44 : Nat) (g45 : Nat) (g46 : Nat) (sz : Nat) (p0 : Int32) : Met l yX12_begin vs_kX12_begin ({ frames := 0, cells := 0, slots := 0, locals := 0 }) (va_Pc [.ref h0, .int p0] (fun U => U.heap.size = sz ∧ va_P (dC, dI) vwCl [(h0, .inr (12, [.ref g0, .ref g1, .int 0, .int 0, .ref g2, .ref g3, .ref g4, .int 0, .int 0, .ref g5, .ref g6, .ref g7, .ref g8, .int 0, .int 0, .int 0, .ref g9, .ref g10, .ref g11, .ref g12, .ref g13, .ref g14, .ref g15, .ref g16, .int 0, .ref g17, .ref g18, .ref g19, .ref g20, .ref g21, .ref g22, .ref g23, .ref g24, .ref g25, .ref g26, .int 0, .int 0, .int 0, .ref g27, .ref g28, .ref g29, .ref g30, .int 0, .int 0, .int 0, .int 0, .int 0, .int 0, .int 0, .int 0, .int 0, .int 0, .int 0, .int 0, .int 0, .int 0, .ref g31, .ref g32, .ref g33, .ref g34, .int 0, .int 0, .int 0, .int 0, .int 0, .int 0, .int 0, .ref g35, .ref g36, .ref g37, .int 0, .ref g38, .int 0, .int 0, .int 0, .int 0, .int 0, .int 0, .int 0, .int 0, .int 0, .int 0, .int 0, .int 0, .int 0, .int 0, .int 0, .int 0, .ref g39, .ref g40, .ref g41, .ref g42, .ref g43, .ref g44, .ref g45, .ref g46, .int 0]))] U.heap ∧ va_K (dC, dI) vwCl (ty3 cI cB cZ) U ∧ va_D (fun _ => True) [(h0, .inr (12, [.ref g0, .ref g1, .int 0, .int 0, .ref g2, .ref g3, .ref g4, .int 0, .int 0, .ref g5, .ref g6, .ref g7, .ref g8, .int 0, .int 0, .int 0, .ref g9, .ref g10, .ref g11, .ref g12, .ref g13, .ref g14, .ref g15, .ref g16, .int 0, .ref g17, .ref g18, .ref g19, .ref g20, .ref g21, .ref g22, .ref g23, .ref g24, .ref g25, .ref g26, .int 0, .int 0, .int 0, .ref g27, .ref g28, .ref g29, .ref g30, .int 0, .int 0, .int 0, .int 0, .int 0, .int 0, .int 0, .int 0, .int 0, .int 0, .int 0, .int 0, .int 0, .int 0, .ref g31, .ref g32, .ref g33, .ref g34, .int 0, .int 0, .int 0, .int 0, .int 0, .int 0, .int 0, .ref g35, .ref g36, .ref g37, .int 0, .ref g38, .int 0, .int 0, .int 0, .int 0, .int 0, .int 0, .int 0, .int 0, .int 0, .int 0, .int 0, .int 0, .int 0, .int 0, .int 0, .int 0, .ref g39, .ref g40, .ref g41, .ref g42, .ref g43, .ref g44, .ref g45, .ref g46, .int 0]))])) (va_Qi (fun (r : Int32) (_ : Unit) => r = 0) (fun (_ : Unit) (t : State) => va_P (dC, dI) vwCl [(h0, .inr (12, [.ref g0, .ref g1, .int 0, .int 0, .ref g2, .ref g3, .ref g4, .int 0, .int 0, .ref g5, .ref g6, .ref g7, .ref g8, .int 0, .int 0, .int 0, .ref g9, .ref g10, .ref g11, .ref g12, .ref g13, .ref g14, .ref g15, .ref g16, .int 0, .ref g17, .ref g18, .ref g19, .ref g20, .ref g21, .ref g22, .ref g23, .ref g24, .ref g25, .ref g26, .int 0, .int 0, .int 0, .ref g27, .ref g28, .ref g29, .ref g30, .int 0, .int 0, .int 0, .int 0, .int 0, .int 0, .int 0, .int 0, .int 0, .int 0, .int 0, .int 0, .int 0, .int 0, .ref g31, .ref g32, .ref g33, .ref g34, .int 0, .int 0, .int 0, .int 0, .int 0, .int 0, .int 0, .ref g35, .ref g36, .ref g37, .int 0, .ref g38, .int 0, .int 0, .int 0, .int 0, .int 0, .int 0, .int 0, .int 0, .int 0, .int 0, .int 0, .int 0, .int 0, .int 0, .int 0, .int 0, .ref g39, .ref g40, .ref g41, .ref g42, .ref g43, .ref g44, .ref g45, .ref g46, .int 0]))] t.heap ∧ va_K (dC, dI) vwCl (ty3 cI cB cZ) t ∧ va_D (va_A [(h0, .inr (12, [.ref g0, .ref g1, .int 0, .int 0, .ref g2, .ref g3, .ref g4, .int 0, .int 0, .ref g5, .ref g6, .ref g7, .ref g8, .int 0, .int 0, .int 0, .ref g9, .ref g10, .ref g11, .ref g12, .ref g13, .ref g14, .ref g15, .ref g16, .int 0, .ref g17, .ref g18, .ref g19, .ref g20, .ref g21, .ref g22, .ref g23, .ref g24, .ref g25, .ref g26, .int 0, .int 0, .int 0, .ref g27, .ref g28, .ref g29, .ref g30, .int 0, .int 0, .int 0, .int 0, .int 0, .int 0, .int 0, .int 0, .int 0, .int 0, .int 0, .int 0, .int 0, .int 0, .ref g31, .ref g32, .ref g33, .ref g34, .int 0, .int 0, .int 0, .int 0, .int 0, .int 0, .int 0, .ref g35, .ref g36, .ref g37, .int 0, .ref g38, .int 0, .int 0, .int 0, .int 0, .int 0, .int 0, .int 0, .int 0, .int 0, .int 0, .int 0, .int 0, .int 0, .int 0, .int 0, .int 0, .ref g39, .ref g40, .ref g41, .ref g42, .ref g43, .ref g44, .ref g45, .ref g46, .int 0]))] sz) [(h0, .inr (12, [.ref g0, .ref g1, .int 0, .int 0, .ref g2, .ref g3, .ref g4, .int 0, .int 0, .ref g5, .ref g6, .ref g7, .ref g8, .int 0, .int 0, .int 0, .ref g9, .ref g10, .ref g11, .ref g12, .ref g13, .ref g14, .ref g15, .ref g16, .int 0, .ref g17, .ref g18, .ref g19, .ref g20, .ref g21, .ref g22, .ref g23, .ref g24, .ref g25, .ref g26, .int 0, .int 0, .int 0, .ref g27, .ref g28, .ref g29, .ref g30, .int 0, .int 0, .int 0, .int 0, .int 0, .int 0, .int 0, .int 0, .int 0, .int 0, .int 0, .int 0, .int 0, .int 0, .ref g31, .ref g32, .ref g33, .ref g34, .int 0, .int 0, .int 0, .int 0, .int 0, .int 0, .int 0, .ref g35, .ref g36, .ref g37, .int 0, .ref g38, .int 0, .int 0, .int 0, .int 0, .int 0, .int 0, .int 0, .int 0, .int 0, .int 0, .int 0, .int 0, .int 0, .int 0, .int 0, .int 0, .ref g39, .ref g40, .ref g41, .ref g42, .ref g43, .ref g44, .ref g45, .ref g46, .int 0]))]) (va_A [(h0, .inr (12, [.ref g0, .ref g1, .int 0, .int 0, .ref g2, .ref g3, .ref g4, .int 0, .int 0, .ref g5, .ref g6, .ref g7, .ref g8, .int 0, .int 0, .int 0, .ref g9, .ref g10, .ref g11, .ref g12, .ref g13, .ref g14, .ref g15, .ref g16, .int 0, .ref g17, .ref g18, .ref g19, .ref g20, .ref g21, .ref g22, .ref g23, .ref g24, .ref g25, .ref g26, .int 0, .int 0, .int 0, .ref g27, .ref g28, .ref g29, .ref g30, .int 0, .int 0, .int 0, .int 0, .int 0, .int 0, .int 0, .int 0, .int 0, .int 0, .int 0, .int 0, .int 0, .int 0, .ref g31, .ref g32, .ref g33, .ref g34, .int 0, .int 0, .int 0, .int 0, .int 0, .int 0, .int 0, .ref g35, .ref g36, .ref g37, .int 0, .ref g38, .int 0, .int 0, .int 0, .int 0, .int 0, .int 0, .int 0, .int 0, .int 0, .int 0, .int 0, .int 0, .int 0, .int 0, .int 0, .int 0, .ref g39, .ref g40, .ref g41, .ref g42, .ref g43, .ref g44, .ref g45, .ref g46, .int 0]))] sz)) 0 0 (va_A [(h0, .inr (12, [.ref g0, .ref g1, .int 0, .int 0, .ref g2, .ref g3, .ref g4, .int 0, .int 0, .ref g5, .ref g6, .ref g7, .ref g8, .int 0, .int 0, .int 0, .ref g9, .ref g10, .ref g11, .ref g12, .ref g13, .ref g14, .ref g15, .ref g16, .int 0, .ref g17, .ref g18, .ref g19, .ref g20, .ref g21, .ref g22, .ref g23, .ref g24, .ref g25, .ref g26, .int 0, .int 0, .int 0, .ref g27, .ref g28, .ref g29, .ref g30, .int 0, .int 0, .int 0, .int 0, .int 0, .int 0, .int 0, .int 0, .int 0, .int 0, .int 0, .int 0, .int 0, .int 0, .ref g31, .ref g32, .ref g33, .ref g34, .int 0, .int 0, .int 0, .int 0, .int 0, .int 0, .int 0, .ref g35, .ref g36, .ref g37, .int 0, .ref g38, .int 0, .int 0, .int 0, .int 0, .int 0, .int 0, .int 0, .int 0, .int 0, .int 0, .int 0, .int 0, .int 0, .int 0, .int 0, .int 0, .ref g39, .ref g40, .ref g41, .ref g42, .ref g43, .ref g44, .ref g45, .ref g46, .int 0]))] sz) := by
  refine Met.ofW (cc := cX12_begin) (maxL := 3) (ret := (some .boolean)) (by decide) rfl ?_
  intro p e s m args below meth c s₁ B hml hv
  obtain ⟨rfl, hsz, hP, hK, hD0⟩ := hv
  have hx := B.exec
  have hb := B.bytes
  have hr := B.returns
  have hts := atoms_spec (ws := vs_kX12_begin) B.pre
  have hown : s.vm.findClass RX12 = some m.cls := findClass_of_methodNamed B.named
  have hlocks := B.notSynchronized
  subst hsz
  have hD := hD0.self (sz := s.heap.size)
  clear hD0
  generalize hAe : va_A [(h0, .inr (12, [.ref g0, .ref g1, .int 0, .int 0, .ref g2, .ref g3, .ref g4, .int 0, .int 0, .ref g5, .ref g6, .ref g7, .ref g8, .int 0, .int 0, .int 0, .ref g9, .ref g10, .ref g11, .ref g12, .ref g13, .ref g14, .ref g15, .ref g16, .int 0, .ref g17, .ref g18, .ref g19, .ref g20, .ref g21, .ref g22, .ref g23, .ref g24, .ref g25, .ref g26, .int 0, .int 0, .int 0, .ref g27, .ref g28, .ref g29, .ref g30, .int 0, .int 0, .int 0, .int 0, .int 0, .int 0, .int 0, .int 0, .int 0, .int 0, .int 0, .int 0, .int 0, .int 0, .ref g31, .ref g32, .ref g33, .ref g34, .int 0, .int 0, .int 0, .int 0, .int 0, .int 0, .int 0, .ref g35, .ref g36, .ref g37, .int 0, .ref g38, .int 0, .int 0, .int 0, .int 0, .int 0, .int 0, .int 0, .int 0, .int 0, .int 0, .int 0, .int 0, .int 0, .int 0, .int 0, .int 0, .ref g39, .ref g40, .ref g41, .ref g42, .ref g43, .ref g44, .ref g45, .ref g46, .int 0]))] s.heap.size = A at hD ⊢
  have hA : ∀ q : Nat, s.heap.size ≤ q → A q := fun q h => by rw [← hAe]; exact Or.inr h
  clear hAe
  have hS : va_S A s.heap s.heap [] := va_S.rf
  have hl := lv_entry ([.ref h0, .int p0]) (n := 3) (Nat.le_of_ble_eq_true rfl)
  rw [lg_entry_eq]
  generalize (lg_sl ([.ref h0, .int p0]) ++ List.replicate (3 - (lg_sl ([.ref h0, .int p0])).length) Slot.unset).toArray = ls at hl ⊢
  replace hl : lv_has ls 3 [(0, .ref h0), (1, .int p0)] := hl
  refine my_st (fun H locs eH el => ?_)
  replace hP : va_P (dC, dI) vwCl [(h0, .inr (12, [.ref g0, .ref g1, .int 0, .int 0, .ref g2, .ref g3, .ref g4, .int 0, .int 0, .ref g5, .ref g6, .ref g7, .ref g8, .int 0, .int 0, .int 0, .ref g9, .ref g10, .ref g11, .ref g12, .ref g13, .ref g14, .ref g15, .ref g16, .int 0, .ref g17, .ref g18, .ref g19, .ref g20, .ref g21, .ref g22, .ref g23, .ref g24, .ref g25, .ref g26, .int 0, .int 0, .int 0, .ref g27, .ref g28, .ref g29, .ref g30, .int 0, .int 0, .int 0, .int 0, .int 0, .int 0, .int 0, .int 0, .int 0, .int 0, .int 0, .int 0, .int 0, .int 0, .ref g31, .ref g32, .ref g33, .ref g34, .int 0, .int 0, .int 0, .int 0, .int 0, .int 0, .int 0, .ref g35, .ref g36, .ref g37, .int 0, .ref g38, .int 0, .int 0, .int 0, .int 0, .int 0, .int 0, .int 0, .int 0, .int 0, .int 0, .int 0, .int 0, .int 0, .int 0, .int 0, .int 0, .ref g39, .ref g40, .ref g41, .ref g42, .ref g43, .ref g44, .ref g45, .ref g46, .int 0]))] H := by rw [eH]; exact hP
  replace hS : va_S A s.heap H locs := by rw [eH, el]; exact hS
  clear eH el
  refine lv_aload_n hx hb dX12_begin_0 rfl (lv_at hl 0 rfl) ?_
  refine va_get (D := (dC, dI)) (ci := 12) (v := .int 0) (C := RX12) (T := TX12) (N := 97) hx hb hts i_kX12_begin_X12 hown hK hP 0 rfl rfl 73 (by decide) (hts (Cond.fieldLink RX12 509 "CompiledHouseModel" "there" "Z") (List.mem_cons_of_mem _ (List.mem_append_left _ (List.mem_of_getElem? (i := 0) rfl)))) (fun _ h9 => h9) rfl dX12_begin_1 ?_
  refine lv_if_eq (tgt := 19) hx hb dX12_begin_4 (by decide) (fun _ => ?_) (fun c_0 => absurd (by decide) c_0)
  refine lv_iconst (v := 0) hx hb dX12_begin_19 (by decide) ?_
  have hP9 := hP.sub (ws' := [(h0, .inr (12, [.ref g0, .ref g1, .int 0, .int 0, .ref g2, .ref g3, .ref g4, .int 0, .int 0, .ref g5, .ref g6, .ref g7, .ref g8, .int 0, .int 0, .int 0, .ref g9, .ref g10, .ref g11, .ref g12, .ref g13, .ref g14, .ref g15, .ref g16, .int 0, .ref g17, .ref g18, .ref g19, .ref g20, .ref g21, .ref g22, .ref g23, .ref g24, .ref g25, .ref g26, .int 0, .int 0, .int 0, .ref g27, .ref g28, .ref g29, .ref g30, .int 0, .int 0, .int 0, .int 0, .int 0, .int 0, .int 0, .int 0, .int 0, .int 0, .int 0, .int 0, .int 0, .int 0, .ref g31, .ref g32, .ref g33, .ref g34, .int 0, .int 0, .int 0, .int 0, .int 0, .int 0, .int 0, .ref g35, .ref g36, .ref g37, .int 0, .ref g38, .int 0, .int 0, .int 0, .int 0, .int 0, .int 0, .int 0, .int 0, .int 0, .int 0, .int 0, .int 0, .int 0, .int 0, .int 0, .int 0, .ref g39, .ref g40, .ref g41, .ref g42, .ref g43, .ref g44, .ref g45, .ref g46, .int 0]))]) [0] rfl
  have hD9 := hD.sub (ws' := [(h0, .inr (12, [.ref g0, .ref g1, .int 0, .int 0, .ref g2, .ref g3, .ref g4, .int 0, .int 0, .ref g5, .ref g6, .ref g7, .ref g8, .int 0, .int 0, .int 0, .ref g9, .ref g10, .ref g11, .ref g12, .ref g13, .ref g14, .ref g15, .ref g16, .int 0, .ref g17, .ref g18, .ref g19, .ref g20, .ref g21, .ref g22, .ref g23, .ref g24, .ref g25, .ref g26, .int 0, .int 0, .int 0, .ref g27, .ref g28, .ref g29, .ref g30, .int 0, .int 0, .int 0, .int 0, .int 0, .int 0, .int 0, .int 0, .int 0, .int 0, .int 0, .int 0, .int 0, .int 0, .ref g31, .ref g32, .ref g33, .ref g34, .int 0, .int 0, .int 0, .int 0, .int 0, .int 0, .int 0, .ref g35, .ref g36, .ref g37, .int 0, .ref g38, .int 0, .int 0, .int 0, .int 0, .int 0, .int 0, .int 0, .int 0, .int 0, .int 0, .int 0, .int 0, .int 0, .int 0, .int 0, .int 0, .ref g39, .ref g40, .ref g41, .ref g42, .ref g43, .ref g44, .ref g45, .ref g46, .int 0]))]) [0] (by decide) rfl
  refine W.widen (k := 0) (n := 0) (by decide) (by decide) ?_
  exact W.zret (v := 0) hx hb hr rfl (fun t ht hW => ⟨⟨0, (), rfl, rfl, by rw [ht]; exact hP9, va_K.moved hW.alike hK, hD9⟩, hS.F ht⟩) hS.2.2 dX12_begin_20
def vs_kX12_run : List Cond := Cond.code yX12_run cX12_run 3 (some .int) :: (([Cond.fieldLink RX12 512 "CompiledHouseModel" "how" "I"] : List Cond) ++ (wsX120))
theorem i_kX12_run_X12 : ∀ w ∈ wsX120, w ∈ vs_kX12_run := fun w h => List.mem_cons_of_mem _ (List.mem_append_right _ h)
def sp_kX12_run (p0 : Int32) : Int32 := if p0 < 0 then (-1) else (if 1000 < p0 then (-1) else ((-1)))
set_option maxHeartbeats 4000000 in
set_option maxRecDepth 100000 in
theorem kX12_run (l : Launch) (dC : Nat → ClassId) (dI : Nat → Nat → Nat) (cI cB cZ : ClassId) (h0 : Nat) (g0 : Nat) (g1 : Nat) (g2 : Nat) (g3 : Nat) (g4 : Nat) (g5 : Nat) (g6 : Nat) (g7 : Nat) (g8 : Nat) (g9 : Nat) (g10 : Nat) (g11 : Nat) (g12 : Nat) (g13 : Nat) (g14 : Nat) (g15 : Nat) (g16 : Nat) (g17 : Nat) (g18 : Nat) (g19 : Nat) (g20 : Nat) (g21 : Nat) (g22 : Nat) (g23 : Nat) (g24 : Nat) (g25 : Nat) (g26 : Nat) (g27 : Nat) (g28 : Nat) (g29 : Nat) (g30 : Nat) (g31 : Nat) (g32 : Nat) (g33 : Nat) (g34 : Nat) (g35 : Nat) (g36 : Nat) (g37 : Nat) (g38 : Nat) (g39 : Nat) (g40 : Nat) (g41 : Nat) (g42 : Nat) (g43 : Nat) (g44 : Nat) (g45 : Nat) (g46 : Nat) (sz : Nat) (p0 : Int32) : Met l yX12_run vs_kX12_run ({ frames := 0, cells := 0, slots := 0, locals := 0 }) (va_Pc [.ref h0, .int p0] (fun U => U.heap.size = sz ∧ va_P (dC, dI) vwCl [(h0, .inr (12, [.ref g0, .ref g1, .int 0, .int 0, .ref g2, .ref g3, .ref g4, .int 0, .int 0, .ref g5, .ref g6, .ref g7, .ref g8, .int 0, .int 0, .int 0, .ref g9, .ref g10, .ref g11, .ref g12, .ref g13, .ref g14, .ref g15, .ref g16, .int 0, .ref g17, .ref g18, .ref g19, .ref g20, .ref g21, .ref g22, .ref g23, .ref g24, .ref g25, .ref g26, .int 0, .int 0, .int 0, .ref g27, .ref g28, .ref g29, .ref g30, .int 0, .int 0, .int 0, .int 0, .int 0, .int 0, .int 0, .int 0, .int 0, .int 0, .int 0, .int 0, .int 0, .int 0, .ref g31, .ref g32, .ref g33, .ref g34, .int 0, .int 0, .int 0, .int 0, .int 0, .int 0, .int 0, .ref g35, .ref g36, .ref g37, .int 0, .ref g38, .int 0, .int 0, .int 0, .int 0, .int 0, .int 0, .int 0, .int 0, .int 0, .int 0, .int 0, .int 0, .int 0, .int 0, .int 0, .int 0, .ref g39, .ref g40, .ref g41, .ref g42, .ref g43, .ref g44, .ref g45, .ref g46, .int 0]))] U.heap ∧ va_K (dC, dI) vwCl (ty3 cI cB cZ) U ∧ va_D (fun _ => True) [(h0, .inr (12, [.ref g0, .ref g1, .int 0, .int 0, .ref g2, .ref g3, .ref g4, .int 0, .int 0, .ref g5, .ref g6, .ref g7, .ref g8, .int 0, .int 0, .int 0, .ref g9, .ref g10, .ref g11, .ref g12, .ref g13, .ref g14, .ref g15, .ref g16, .int 0, .ref g17, .ref g18, .ref g19, .ref g20, .ref g21, .ref g22, .ref g23, .ref g24, .ref g25, .ref g26, .int 0, .int 0, .int 0, .ref g27, .ref g28, .ref g29, .ref g30, .int 0, .int 0, .int 0, .int 0, .int 0, .int 0, .int 0, .int 0, .int 0, .int 0, .int 0, .int 0, .int 0, .int 0, .ref g31, .ref g32, .ref g33, .ref g34, .int 0, .int 0, .int 0, .int 0, .int 0, .int 0, .int 0, .ref g35, .ref g36, .ref g37, .int 0, .ref g38, .int 0, .int 0, .int 0, .int 0, .int 0, .int 0, .int 0, .int 0, .int 0, .int 0, .int 0, .int 0, .int 0, .int 0, .int 0, .int 0, .ref g39, .ref g40, .ref g41, .ref g42, .ref g43, .ref g44, .ref g45, .ref g46, .int 0]))])) (va_Qi (fun (r : Int32) (_ : Unit) => r = sp_kX12_run p0) (fun (_ : Unit) (_ : State) => True) (va_A [(h0, .inr (12, [.ref g0, .ref g1, .int 0, .int 0, .ref g2, .ref g3, .ref g4, .int 0, .int 0, .ref g5, .ref g6, .ref g7, .ref g8, .int 0, .int 0, .int 0, .ref g9, .ref g10, .ref g11, .ref g12, .ref g13, .ref g14, .ref g15, .ref g16, .int 0, .ref g17, .ref g18, .ref g19, .ref g20, .ref g21, .ref g22, .ref g23, .ref g24, .ref g25, .ref g26, .int 0, .int 0, .int 0, .ref g27, .ref g28, .ref g29, .ref g30, .int 0, .int 0, .int 0, .int 0, .int 0, .int 0, .int 0, .int 0, .int 0, .int 0, .int 0, .int 0, .int 0, .int 0, .ref g31, .ref g32, .ref g33, .ref g34, .int 0, .int 0, .int 0, .int 0, .int 0, .int 0, .int 0, .ref g35, .ref g36, .ref g37, .int 0, .ref g38, .int 0, .int 0, .int 0, .int 0, .int 0, .int 0, .int 0, .int 0, .int 0, .int 0, .int 0, .int 0, .int 0, .int 0, .int 0, .int 0, .ref g39, .ref g40, .ref g41, .ref g42, .ref g43, .ref g44, .ref g45, .ref g46, .int 0]))] sz)) 0 0 (va_A [(h0, .inr (12, [.ref g0, .ref g1, .int 0, .int 0, .ref g2, .ref g3, .ref g4, .int 0, .int 0, .ref g5, .ref g6, .ref g7, .ref g8, .int 0, .int 0, .int 0, .ref g9, .ref g10, .ref g11, .ref g12, .ref g13, .ref g14, .ref g15, .ref g16, .int 0, .ref g17, .ref g18, .ref g19, .ref g20, .ref g21, .ref g22, .ref g23, .ref g24, .ref g25, .ref g26, .int 0, .int 0, .int 0, .ref g27, .ref g28, .ref g29, .ref g30, .int 0, .int 0, .int 0, .int 0, .int 0, .int 0, .int 0, .int 0, .int 0, .int 0, .int 0, .int 0, .int 0, .int 0, .ref g31, .ref g32, .ref g33, .ref g34, .int 0, .int 0, .int 0, .int 0, .int 0, .int 0, .int 0, .ref g35, .ref g36, .ref g37, .int 0, .ref g38, .int 0, .int 0, .int 0, .int 0, .int 0, .int 0, .int 0, .int 0, .int 0, .int 0, .int 0, .int 0, .int 0, .int 0, .int 0, .int 0, .ref g39, .ref g40, .ref g41, .ref g42, .ref g43, .ref g44, .ref g45, .ref g46, .int 0]))] sz) := by
  refine Met.ofW (cc := cX12_run) (maxL := 3) (ret := (some .int)) (by decide) rfl ?_
  intro p e s m args below meth c s₁ B hml hv
  obtain ⟨rfl, hsz, hP, hK, hD0⟩ := hv
  have hx := B.exec
  have hb := B.bytes
  have hr := B.returns
  have hts := atoms_spec (ws := vs_kX12_run) B.pre
  have hown : s.vm.findClass RX12 = some m.cls := findClass_of_methodNamed B.named
  have hlocks := B.notSynchronized
  subst hsz
  have hD := hD0.self (sz := s.heap.size)
  clear hD0
  generalize hAe : va_A [(h0, .inr (12, [.ref g0, .ref g1, .int 0, .int 0, .ref g2, .ref g3, .ref g4, .int 0, .int 0, .ref g5, .ref g6, .ref g7, .ref g8, .int 0, .int 0, .int 0, .ref g9, .ref g10, .ref g11, .ref g12, .ref g13, .ref g14, .ref g15, .ref g16, .int 0, .ref g17, .ref g18, .ref g19, .ref g20, .ref g21, .ref g22, .ref g23, .ref g24, .ref g25, .ref g26, .int 0, .int 0, .int 0, .ref g27, .ref g28, .ref g29, .ref g30, .int 0, .int 0, .int 0, .int 0, .int 0, .int 0, .int 0, .int 0, .int 0, .int 0, .int 0, .int 0, .int 0, .int 0, .ref g31, .ref g32, .ref g33, .ref g34, .int 0, .int 0, .int 0, .int 0, .int 0, .int 0, .int 0, .ref g35, .ref g36, .ref g37, .int 0, .ref g38, .int 0, .int 0, .int 0, .int 0, .int 0, .int 0, .int 0, .int 0, .int 0, .int 0, .int 0, .int 0, .int 0, .int 0, .int 0, .int 0, .ref g39, .ref g40, .ref g41, .ref g42, .ref g43, .ref g44, .ref g45, .ref g46, .int 0]))] s.heap.size = A at hD ⊢
  have hA : ∀ q : Nat, s.heap.size ≤ q → A q := fun q h => by rw [← hAe]; exact Or.inr h
  clear hAe
  have hS : va_S A s.heap s.heap [] := va_S.rf
  have hl := lv_entry ([.ref h0, .int p0]) (n := 3) (Nat.le_of_ble_eq_true rfl)
  rw [lg_entry_eq]
  generalize (lg_sl ([.ref h0, .int p0]) ++ List.replicate (3 - (lg_sl ([.ref h0, .int p0])).length) Slot.unset).toArray = ls at hl ⊢
  replace hl : lv_has ls 3 [(0, .ref h0), (1, .int p0)] := hl
  refine my_st (fun H locs eH el => ?_)
  replace hP : va_P (dC, dI) vwCl [(h0, .inr (12, [.ref g0, .ref g1, .int 0, .int 0, .ref g2, .ref g3, .ref g4, .int 0, .int 0, .ref g5, .ref g6, .ref g7, .ref g8, .int 0, .int 0, .int 0, .ref g9, .ref g10, .ref g11, .ref g12, .ref g13, .ref g14, .ref g15, .ref g16, .int 0, .ref g17, .ref g18, .ref g19, .ref g20, .ref g21, .ref g22, .ref g23, .ref g24, .ref g25, .ref g26, .int 0, .int 0, .int 0, .ref g27, .ref g28, .ref g29, .ref g30, .int 0, .int 0, .int 0, .int 0, .int 0, .int 0, .int 0, .int 0, .int 0, .int 0, .int 0, .int 0, .int 0, .int 0, .ref g31, .ref g32, .ref g33, .ref g34, .int 0, .int 0, .int 0, .int 0, .int 0, .int 0, .int 0, .ref g35, .ref g36, .ref g37, .int 0, .ref g38, .int 0, .int 0, .int 0, .int 0, .int 0, .int 0, .int 0, .int 0, .int 0, .int 0, .int 0, .int 0, .int 0, .int 0, .int 0, .int 0, .ref g39, .ref g40, .ref g41, .ref g42, .ref g43, .ref g44, .ref g45, .ref g46, .int 0]))] H := by rw [eH]; exact hP
  replace hS : va_S A s.heap H locs := by rw [eH, el]; exact hS
  clear eH el
  refine lv_iload_n hx hb dX12_run_0 rfl (lv_at hl 1 rfl) ?_
  refine lv_if_lt (tgt := 18) hx hb dX12_run_1 (by decide) (fun c_1 => ?_) (fun c_1 => ?_)
  · refine lv_iconst (v := (-1)) hx hb dX12_run_18 (by decide) ?_
    exact W.iret (v := (-1)) hx hb hr (fun t ht hW => ⟨⟨(-1), (), rfl, by unfold sp_kX12_run; rw [if_pos c_1], trivial⟩, hS.F ht⟩) hS.2.2 dX12_run_19
  · refine lv_iload_n hx hb dX12_run_4 rfl (lv_at hl 1 rfl) ?_
    refine lv_sipush (v := 1000) hx hb dX12_run_5 (by decide) ?_
    refine lv_icmp_gt (tgt := 18) hx hb dX12_run_8 (by decide) (fun c_2 => ?_) (fun c_2 => ?_)
    · refine lv_iconst (v := (-1)) hx hb dX12_run_18 (by decide) ?_
      exact W.iret (v := (-1)) hx hb hr (fun t ht hW => ⟨⟨(-1), (), rfl, by unfold sp_kX12_run; rw [if_neg c_1, if_pos c_2], trivial⟩, hS.F ht⟩) hS.2.2 dX12_run_19
    · refine lv_aload_n hx hb dX12_run_11 rfl (lv_at hl 0 rfl) ?_
      refine va_get (D := (dC, dI)) (ci := 12) (v := .int 0) (C := RX12) (T := TX12) (N := 97) hx hb hts i_kX12_run_X12 hown hK hP 0 rfl rfl 75 (by decide) (hts (Cond.fieldLink RX12 512 "CompiledHouseModel" "how" "I") (List.mem_cons_of_mem _ (List.mem_append_left _ (List.mem_of_getElem? (i := 0) rfl)))) (fun _ h9 => h9) rfl dX12_run_12 ?_
      refine lv_if_ne (tgt := 20) hx hb dX12_run_15 (by decide) (fun c_0 => absurd (by decide) c_0) (fun _ => ?_)
      refine lv_iconst (v := (-1)) hx hb dX12_run_18 (by decide) ?_
      exact W.iret (v := (-1)) hx hb hr (fun t ht hW => ⟨⟨(-1), (), rfl, by unfold sp_kX12_run; rw [if_neg c_1, if_neg c_2], trivial⟩, hS.F ht⟩) hS.2.2 dX12_run_19
def vs_kX12_output : List Cond := Cond.code yX12_output cX12_output 2 (some .int) :: (([Cond.fieldLink RX12 518 "CompiledHouseModel" "outputs" "I", Cond.fieldLink RX12 132 "CompiledHouseModel" "output" "[I"] : List Cond) ++ (wsX120))
theorem i_kX12_output_X12 : ∀ w ∈ wsX120, w ∈ vs_kX12_output := fun w h => List.mem_cons_of_mem _ (List.mem_append_right _ h)
def sp_kX12_output (p0 : Int32) : Int32 := if p0 < 0 then 0 else (if 0 ≤ p0 then 0 else (0))
set_option maxHeartbeats 4000000 in
set_option maxRecDepth 100000 in
theorem kX12_output (l : Launch) (dC : Nat → ClassId) (dI : Nat → Nat → Nat) (cI cB cZ : ClassId) (h0 : Nat) (h1 : Nat) (g0 : Nat) (g1 : Nat) (g2 : Nat) (g3 : Nat) (g4 : Nat) (g5 : Nat) (g6 : Nat) (g7 : Nat) (g8 : Nat) (g9 : Nat) (g10 : Nat) (g11 : Nat) (g12 : Nat) (g13 : Nat) (g14 : Nat) (g15 : Nat) (g16 : Nat) (g17 : Nat) (g18 : Nat) (g19 : Nat) (g20 : Nat) (g21 : Nat) (g22 : Nat) (g23 : Nat) (g24 : Nat) (g25 : Nat) (g26 : Nat) (g27 : Nat) (g28 : Nat) (g29 : Nat) (g30 : Nat) (g31 : Nat) (g32 : Nat) (g33 : Nat) (g34 : Nat) (g35 : Nat) (g36 : Nat) (g37 : Nat) (g38 : Nat) (g39 : Nat) (g40 : Nat) (g41 : Nat) (g42 : Nat) (g43 : Nat) (g44 : Nat) (g45 : Nat) (sz : Nat) (p0 : Int32) : Met l yX12_output vs_kX12_output ({ frames := 0, cells := 0, slots := 0, locals := 0 }) (va_Pc [.ref h0, .int p0] (fun U => U.heap.size = sz ∧ va_P (dC, dI) vwCl [(h0, .inr (12, [.ref g0, .ref g1, .int 0, .int 0, .ref g2, .ref g3, .ref g4, .int 0, .int 0, .ref g5, .ref g6, .ref g7, .ref g8, .int 0, .int 0, .int 0, .ref g9, .ref g10, .ref g11, .ref g12, .ref g13, .ref g14, .ref g15, .ref g16, .int 0, .ref g17, .ref g18, .ref g19, .ref g20, .ref g21, .ref g22, .ref g23, .ref g24, .ref g25, .ref g26, .int 0, .int 0, .int 0, .ref g27, .ref g28, .ref g29, .ref g30, .int 0, .int 0, .int 0, .int 0, .int 0, .int 0, .int 0, .int 0, .int 0, .int 0, .int 0, .int 0, .int 0, .int 0, .ref g31, .ref g32, .ref g33, .ref g34, .int 0, .int 0, .int 0, .int 0, .int 0, .int 0, .int 0, .ref g35, .ref g36, .ref g37, .int 0, .ref g38, .int 0, .int 0, .int 0, .int 0, .int 0, .int 0, .int 0, .int 0, .int 0, .int 0, .int 0, .int 0, .int 0, .int 0, .int 0, .int 0, .ref g39, .ref h1, .ref g40, .ref g41, .ref g42, .ref g43, .ref g44, .ref g45, .int 0])), (h1, .inl (cI, 2000, .inl (fun _ => 0)))] U.heap ∧ va_K (dC, dI) vwCl (ty3 cI cB cZ) U ∧ va_D (fun _ => True) [(h0, .inr (12, [.ref g0, .ref g1, .int 0, .int 0, .ref g2, .ref g3, .ref g4, .int 0, .int 0, .ref g5, .ref g6, .ref g7, .ref g8, .int 0, .int 0, .int 0, .ref g9, .ref g10, .ref g11, .ref g12, .ref g13, .ref g14, .ref g15, .ref g16, .int 0, .ref g17, .ref g18, .ref g19, .ref g20, .ref g21, .ref g22, .ref g23, .ref g24, .ref g25, .ref g26, .int 0, .int 0, .int 0, .ref g27, .ref g28, .ref g29, .ref g30, .int 0, .int 0, .int 0, .int 0, .int 0, .int 0, .int 0, .int 0, .int 0, .int 0, .int 0, .int 0, .int 0, .int 0, .ref g31, .ref g32, .ref g33, .ref g34, .int 0, .int 0, .int 0, .int 0, .int 0, .int 0, .int 0, .ref g35, .ref g36, .ref g37, .int 0, .ref g38, .int 0, .int 0, .int 0, .int 0, .int 0, .int 0, .int 0, .int 0, .int 0, .int 0, .int 0, .int 0, .int 0, .int 0, .int 0, .int 0, .ref g39, .ref h1, .ref g40, .ref g41, .ref g42, .ref g43, .ref g44, .ref g45, .int 0])), (h1, .inl (cI, 2000, .inl (fun _ => 0)))])) (va_Qi (fun (r : Int32) (_ : Unit) => r = sp_kX12_output p0) (fun (_ : Unit) (_ : State) => True) (va_A [(h0, .inr (12, [.ref g0, .ref g1, .int 0, .int 0, .ref g2, .ref g3, .ref g4, .int 0, .int 0, .ref g5, .ref g6, .ref g7, .ref g8, .int 0, .int 0, .int 0, .ref g9, .ref g10, .ref g11, .ref g12, .ref g13, .ref g14, .ref g15, .ref g16, .int 0, .ref g17, .ref g18, .ref g19, .ref g20, .ref g21, .ref g22, .ref g23, .ref g24, .ref g25, .ref g26, .int 0, .int 0, .int 0, .ref g27, .ref g28, .ref g29, .ref g30, .int 0, .int 0, .int 0, .int 0, .int 0, .int 0, .int 0, .int 0, .int 0, .int 0, .int 0, .int 0, .int 0, .int 0, .ref g31, .ref g32, .ref g33, .ref g34, .int 0, .int 0, .int 0, .int 0, .int 0, .int 0, .int 0, .ref g35, .ref g36, .ref g37, .int 0, .ref g38, .int 0, .int 0, .int 0, .int 0, .int 0, .int 0, .int 0, .int 0, .int 0, .int 0, .int 0, .int 0, .int 0, .int 0, .int 0, .int 0, .ref g39, .ref h1, .ref g40, .ref g41, .ref g42, .ref g43, .ref g44, .ref g45, .int 0])), (h1, .inl (cI, 2000, .inl (fun _ => 0)))] sz)) 0 0 (va_A [(h0, .inr (12, [.ref g0, .ref g1, .int 0, .int 0, .ref g2, .ref g3, .ref g4, .int 0, .int 0, .ref g5, .ref g6, .ref g7, .ref g8, .int 0, .int 0, .int 0, .ref g9, .ref g10, .ref g11, .ref g12, .ref g13, .ref g14, .ref g15, .ref g16, .int 0, .ref g17, .ref g18, .ref g19, .ref g20, .ref g21, .ref g22, .ref g23, .ref g24, .ref g25, .ref g26, .int 0, .int 0, .int 0, .ref g27, .ref g28, .ref g29, .ref g30, .int 0, .int 0, .int 0, .int 0, .int 0, .int 0, .int 0, .int 0, .int 0, .int 0, .int 0, .int 0, .int 0, .int 0, .ref g31, .ref g32, .ref g33, .ref g34, .int 0, .int 0, .int 0, .int 0, .int 0, .int 0, .int 0, .ref g35, .ref g36, .ref g37, .int 0, .ref g38, .int 0, .int 0, .int 0, .int 0, .int 0, .int 0, .int 0, .int 0, .int 0, .int 0, .int 0, .int 0, .int 0, .int 0, .int 0, .int 0, .ref g39, .ref h1, .ref g40, .ref g41, .ref g42, .ref g43, .ref g44, .ref g45, .int 0])), (h1, .inl (cI, 2000, .inl (fun _ => 0)))] sz) := by
  refine Met.ofW (cc := cX12_output) (maxL := 2) (ret := (some .int)) (by decide) rfl ?_
  intro p e s m args below meth c s₁ B hml hv
  obtain ⟨rfl, hsz, hP, hK, hD0⟩ := hv
  have hx := B.exec
  have hb := B.bytes
  have hr := B.returns
  have hts := atoms_spec (ws := vs_kX12_output) B.pre
  have hown : s.vm.findClass RX12 = some m.cls := findClass_of_methodNamed B.named
  have hlocks := B.notSynchronized
  subst hsz
  have hD := hD0.self (sz := s.heap.size)
  clear hD0
  generalize hAe : va_A [(h0, .inr (12, [.ref g0, .ref g1, .int 0, .int 0, .ref g2, .ref g3, .ref g4, .int 0, .int 0, .ref g5, .ref g6, .ref g7, .ref g8, .int 0, .int 0, .int 0, .ref g9, .ref g10, .ref g11, .ref g12, .ref g13, .ref g14, .ref g15, .ref g16, .int 0, .ref g17, .ref g18, .ref g19, .ref g20, .ref g21, .ref g22, .ref g23, .ref g24, .ref g25, .ref g26, .int 0, .int 0, .int 0, .ref g27, .ref g28, .ref g29, .ref g30, .int 0, .int 0, .int 0, .int 0, .int 0, .int 0, .int 0, .int 0, .int 0, .int 0, .int 0, .int 0, .int 0, .int 0, .ref g31, .ref g32, .ref g33, .ref g34, .int 0, .int 0, .int 0, .int 0, .int 0, .int 0, .int 0, .ref g35, .ref g36, .ref g37, .int 0, .ref g38, .int 0, .int 0, .int 0, .int 0, .int 0, .int 0, .int 0, .int 0, .int 0, .int 0, .int 0, .int 0, .int 0, .int 0, .int 0, .int 0, .ref g39, .ref h1, .ref g40, .ref g41, .ref g42, .ref g43, .ref g44, .ref g45, .int 0])), (h1, .inl (cI, 2000, .inl (fun _ => 0)))] s.heap.size = A at hD ⊢
  have hA : ∀ q : Nat, s.heap.size ≤ q → A q := fun q h => by rw [← hAe]; exact Or.inr h
  clear hAe
  have hS : va_S A s.heap s.heap [] := va_S.rf
  have hl := lv_entry ([.ref h0, .int p0]) (n := 2) (Nat.le_of_ble_eq_true rfl)
  rw [lg_entry_eq]
  generalize (lg_sl ([.ref h0, .int p0]) ++ List.replicate (2 - (lg_sl ([.ref h0, .int p0])).length) Slot.unset).toArray = ls at hl ⊢
  replace hl : lv_has ls 2 [(0, .ref h0), (1, .int p0)] := hl
  refine my_st (fun H locs eH el => ?_)
  replace hP : va_P (dC, dI) vwCl [(h0, .inr (12, [.ref g0, .ref g1, .int 0, .int 0, .ref g2, .ref g3, .ref g4, .int 0, .int 0, .ref g5, .ref g6, .ref g7, .ref g8, .int 0, .int 0, .int 0, .ref g9, .ref g10, .ref g11, .ref g12, .ref g13, .ref g14, .ref g15, .ref g16, .int 0, .ref g17, .ref g18, .ref g19, .ref g20, .ref g21, .ref g22, .ref g23, .ref g24, .ref g25, .ref g26, .int 0, .int 0, .int 0, .ref g27, .ref g28, .ref g29, .ref g30, .int 0, .int 0, .int 0, .int 0, .int 0, .int 0, .int 0, .int 0, .int 0, .int 0, .int 0, .int 0, .int 0, .int 0, .ref g31, .ref g32, .ref g33, .ref g34, .int 0, .int 0, .int 0, .int 0, .int 0, .int 0, .int 0, .ref g35, .ref g36, .ref g37, .int 0, .ref g38, .int 0, .int 0, .int 0, .int 0, .int 0, .int 0, .int 0, .int 0, .int 0, .int 0, .int 0, .int 0, .int 0, .int 0, .int 0, .int 0, .ref g39, .ref h1, .ref g40, .ref g41, .ref g42, .ref g43, .ref g44, .ref g45, .int 0])), (h1, .inl (cI, 2000, .inl (fun _ => 0)))] H := by rw [eH]; exact hP
  replace hS : va_S A s.heap H locs := by rw [eH, el]; exact hS
  clear eH el
  refine lv_iload_n hx hb dX12_output_0 rfl (lv_at hl 1 rfl) ?_
  refine lv_if_lt (tgt := 19) hx hb dX12_output_1 (by decide) (fun c_1 => ?_) (fun c_1 => ?_)
  · refine lv_iconst (v := 0) hx hb dX12_output_19 (by decide) ?_
    refine lv_goto (tgt := 29) hx hb dX12_output_20 (by decide) ?_
    exact W.iret (v := 0) hx hb hr (fun t ht hW => ⟨⟨0, (), rfl, by unfold sp_kX12_output; rw [if_pos c_1], trivial⟩, hS.F ht⟩) hS.2.2 dX12_output_29
  · refine lv_iload_n hx hb dX12_output_4 rfl (lv_at hl 1 rfl) ?_
    refine lv_aload_n hx hb dX12_output_5 rfl (lv_at hl 0 rfl) ?_
    refine va_get (D := (dC, dI)) (ci := 12) (v := .int 0) (C := RX12) (T := TX12) (N := 97) hx hb hts i_kX12_output_X12 hown hK hP 0 rfl rfl 79 (by decide) (hts (Cond.fieldLink RX12 518 "CompiledHouseModel" "outputs" "I") (List.mem_cons_of_mem _ (List.mem_append_left _ (List.mem_of_getElem? (i := 0) rfl)))) (fun _ h9 => h9) rfl dX12_output_6 ?_
    refine lv_icmp_ge (tgt := 19) hx hb dX12_output_9 (by decide) (fun c_2 => ?_) (fun c_2 => ?_)
    · refine lv_iconst (v := 0) hx hb dX12_output_19 (by decide) ?_
      refine lv_goto (tgt := 29) hx hb dX12_output_20 (by decide) ?_
      exact W.iret (v := 0) hx hb hr (fun t ht hW => ⟨⟨0, (), rfl, by unfold sp_kX12_output; rw [if_neg c_1, if_pos c_2], trivial⟩, hS.F ht⟩) hS.2.2 dX12_output_29
    · refine lv_iload_n hx hb dX12_output_12 rfl (lv_at hl 1 rfl) ?_
      refine lv_sipush (v := 2000) hx hb dX12_output_13 (by decide) ?_
      refine lv_icmp_lt (tgt := 23) hx hb dX12_output_16 (by decide) (fun c_3 => ?_) (fun c_3 => ?_)
      · refine lv_aload_n hx hb dX12_output_23 rfl (lv_at hl 0 rfl) ?_
        refine va_get (D := (dC, dI)) (ci := 12) (v := .ref h1) (C := RX12) (T := TX12) (N := 97) hx hb hts i_kX12_output_X12 hown hK hP 0 rfl rfl 89 (by decide) (hts (Cond.fieldLink RX12 132 "CompiledHouseModel" "output" "[I") (List.mem_cons_of_mem _ (List.mem_append_left _ (List.mem_of_getElem? (i := 1) rfl)))) (fun _ h9 => h9) rfl dX12_output_24 ?_
        refine lv_iload_n hx hb dX12_output_27 rfl (lv_at hl 1 rfl) ?_
        exfalso; have h1 := c_1; have h2 := c_2; simp only [my_lt, my_le] at h1 h2; omega
      · refine lv_iconst (v := 0) hx hb dX12_output_19 (by decide) ?_
        refine lv_goto (tgt := 29) hx hb dX12_output_20 (by decide) ?_
        exact W.iret (v := 0) hx hb hr (fun t ht hW => ⟨⟨0, (), rfl, by unfold sp_kX12_output; rw [if_neg c_1, if_neg c_2], trivial⟩, hS.F ht⟩) hS.2.2 dX12_output_29
def vs_kX12_world : List Cond := Cond.code yX12_world cX12_world 2 (some .int) :: (([Cond.fieldLink RX12 512 "CompiledHouseModel" "how" "I", Cond.fieldLink RX12 518 "CompiledHouseModel" "outputs" "I", Cond.fieldLink RX12 515 "CompiledHouseModel" "inputs" "I"] : List Cond) ++ (wsX120))
theorem i_kX12_world_X12 : ∀ w ∈ wsX120, w ∈ vs_kX12_world := fun w h => List.mem_cons_of_mem _ (List.mem_append_right _ h)
def sp_kX12_world (p0 : Int32) : Int32 := if p0.toInt < 0 ∨ 7 < p0.toInt then (-1) else (if p0 = 0 then 0 else (if p0 = 1 then 0 else (if p0 = 2 then 0 else (if p0 = 3 then 0 else (if p0 = 4 then 0 else (if p0 = 5 then (-1) else (if p0 = 6 then 0 else (0))))))))
set_option maxHeartbeats 4000000 in
set_option maxRecDepth 100000 in
theorem kX12_world (l : Launch) (dC : Nat → ClassId) (dI : Nat → Nat → Nat) (cI cB cZ : ClassId) (h0 : Nat) (g0 : Nat) (g1 : Nat) (g2 : Nat) (g3 : Nat) (g4 : Nat) (g5 : Nat) (g6 : Nat) (g7 : Nat) (g8 : Nat) (g9 : Nat) (g10 : Nat) (g11 : Nat) (g12 : Nat) (g13 : Nat) (g14 : Nat) (g15 : Nat) (g16 : Nat) (g17 : Nat) (g18 : Nat) (g19 : Nat) (g20 : Nat) (g21 : Nat) (g22 : Nat) (g23 : Nat) (g24 : Nat) (g25 : Nat) (g26 : Nat) (g27 : Nat) (g28 : Nat) (g29 : Nat) (g30 : Nat) (g31 : Nat) (g32 : Nat) (g33 : Nat) (g34 : Nat) (g35 : Nat) (g36 : Nat) (g37 : Nat) (g38 : Nat) (g39 : Nat) (g40 : Nat) (g41 : Nat) (g42 : Nat) (g43 : Nat) (g44 : Nat) (g45 : Nat) (g46 : Nat) (sz : Nat) (p0 : Int32) : Met l yX12_world vs_kX12_world ({ frames := 0, cells := 0, slots := 0, locals := 0 }) (va_Pc [.ref h0, .int p0] (fun U => U.heap.size = sz ∧ va_P (dC, dI) vwCl [(h0, .inr (12, [.ref g0, .ref g1, .int 0, .int 0, .ref g2, .ref g3, .ref g4, .int 0, .int 0, .ref g5, .ref g6, .ref g7, .ref g8, .int 0, .int 0, .int 0, .ref g9, .ref g10, .ref g11, .ref g12, .ref g13, .ref g14, .ref g15, .ref g16, .int 0, .ref g17, .ref g18, .ref g19, .ref g20, .ref g21, .ref g22, .ref g23, .ref g24, .ref g25, .ref g26, .int 0, .int 0, .int 0, .ref g27, .ref g28, .ref g29, .ref g30, .int 0, .int 0, .int 0, .int 0, .int 0, .int 0, .int 0, .int 0, .int 0, .int 0, .int 0, .int 0, .int 0, .int 0, .ref g31, .ref g32, .ref g33, .ref g34, .int 0, .int 0, .int 0, .int 0, .int 0, .int 0, .int 0, .ref g35, .ref g36, .ref g37, .int 0, .ref g38, .int 0, .int 0, .int 0, .int 0, .int 0, .int 0, .int 0, .int 0, .int 0, .int 0, .int 0, .int 0, .int 0, .int 0, .int 0, .int 0, .ref g39, .ref g40, .ref g41, .ref g42, .ref g43, .ref g44, .ref g45, .ref g46, .int 0]))] U.heap ∧ va_K (dC, dI) vwCl (ty3 cI cB cZ) U ∧ va_D (fun _ => True) [(h0, .inr (12, [.ref g0, .ref g1, .int 0, .int 0, .ref g2, .ref g3, .ref g4, .int 0, .int 0, .ref g5, .ref g6, .ref g7, .ref g8, .int 0, .int 0, .int 0, .ref g9, .ref g10, .ref g11, .ref g12, .ref g13, .ref g14, .ref g15, .ref g16, .int 0, .ref g17, .ref g18, .ref g19, .ref g20, .ref g21, .ref g22, .ref g23, .ref g24, .ref g25, .ref g26, .int 0, .int 0, .int 0, .ref g27, .ref g28, .ref g29, .ref g30, .int 0, .int 0, .int 0, .int 0, .int 0, .int 0, .int 0, .int 0, .int 0, .int 0, .int 0, .int 0, .int 0, .int 0, .ref g31, .ref g32, .ref g33, .ref g34, .int 0, .int 0, .int 0, .int 0, .int 0, .int 0, .int 0, .ref g35, .ref g36, .ref g37, .int 0, .ref g38, .int 0, .int 0, .int 0, .int 0, .int 0, .int 0, .int 0, .int 0, .int 0, .int 0, .int 0, .int 0, .int 0, .int 0, .int 0, .int 0, .ref g39, .ref g40, .ref g41, .ref g42, .ref g43, .ref g44, .ref g45, .ref g46, .int 0]))])) (va_Qi (fun (r : Int32) (_ : Unit) => r = sp_kX12_world p0) (fun (_ : Unit) (_ : State) => True) (va_A [(h0, .inr (12, [.ref g0, .ref g1, .int 0, .int 0, .ref g2, .ref g3, .ref g4, .int 0, .int 0, .ref g5, .ref g6, .ref g7, .ref g8, .int 0, .int 0, .int 0, .ref g9, .ref g10, .ref g11, .ref g12, .ref g13, .ref g14, .ref g15, .ref g16, .int 0, .ref g17, .ref g18, .ref g19, .ref g20, .ref g21, .ref g22, .ref g23, .ref g24, .ref g25, .ref g26, .int 0, .int 0, .int 0, .ref g27, .ref g28, .ref g29, .ref g30, .int 0, .int 0, .int 0, .int 0, .int 0, .int 0, .int 0, .int 0, .int 0, .int 0, .int 0, .int 0, .int 0, .int 0, .ref g31, .ref g32, .ref g33, .ref g34, .int 0, .int 0, .int 0, .int 0, .int 0, .int 0, .int 0, .ref g35, .ref g36, .ref g37, .int 0, .ref g38, .int 0, .int 0, .int 0, .int 0, .int 0, .int 0, .int 0, .int 0, .int 0, .int 0, .int 0, .int 0, .int 0, .int 0, .int 0, .int 0, .ref g39, .ref g40, .ref g41, .ref g42, .ref g43, .ref g44, .ref g45, .ref g46, .int 0]))] sz)) 0 0 (va_A [(h0, .inr (12, [.ref g0, .ref g1, .int 0, .int 0, .ref g2, .ref g3, .ref g4, .int 0, .int 0, .ref g5, .ref g6, .ref g7, .ref g8, .int 0, .int 0, .int 0, .ref g9, .ref g10, .ref g11, .ref g12, .ref g13, .ref g14, .ref g15, .ref g16, .int 0, .ref g17, .ref g18, .ref g19, .ref g20, .ref g21, .ref g22, .ref g23, .ref g24, .ref g25, .ref g26, .int 0, .int 0, .int 0, .ref g27, .ref g28, .ref g29, .ref g30, .int 0, .int 0, .int 0, .int 0, .int 0, .int 0, .int 0, .int 0, .int 0, .int 0, .int 0, .int 0, .int 0, .int 0, .ref g31, .ref g32, .ref g33, .ref g34, .int 0, .int 0, .int 0, .int 0, .int 0, .int 0, .int 0, .ref g35, .ref g36, .ref g37, .int 0, .ref g38, .int 0, .int 0, .int 0, .int 0, .int 0, .int 0, .int 0, .int 0, .int 0, .int 0, .int 0, .int 0, .int 0, .int 0, .int 0, .int 0, .ref g39, .ref g40, .ref g41, .ref g42, .ref g43, .ref g44, .ref g45, .ref g46, .int 0]))] sz) := by
  refine Met.ofW (cc := cX12_world) (maxL := 2) (ret := (some .int)) (by decide) rfl ?_
  intro p e s m args below meth c s₁ B hml hv
  obtain ⟨rfl, hsz, hP, hK, hD0⟩ := hv
  have hx := B.exec
  have hb := B.bytes
  have hr := B.returns
  have hts := atoms_spec (ws := vs_kX12_world) B.pre
  have hown : s.vm.findClass RX12 = some m.cls := findClass_of_methodNamed B.named
  have hlocks := B.notSynchronized
  subst hsz
  have hD := hD0.self (sz := s.heap.size)
  clear hD0
  generalize hAe : va_A [(h0, .inr (12, [.ref g0, .ref g1, .int 0, .int 0, .ref g2, .ref g3, .ref g4, .int 0, .int 0, .ref g5, .ref g6, .ref g7, .ref g8, .int 0, .int 0, .int 0, .ref g9, .ref g10, .ref g11, .ref g12, .ref g13, .ref g14, .ref g15, .ref g16, .int 0, .ref g17, .ref g18, .ref g19, .ref g20, .ref g21, .ref g22, .ref g23, .ref g24, .ref g25, .ref g26, .int 0, .int 0, .int 0, .ref g27, .ref g28, .ref g29, .ref g30, .int 0, .int 0, .int 0, .int 0, .int 0, .int 0, .int 0, .int 0, .int 0, .int 0, .int 0, .int 0, .int 0, .int 0, .ref g31, .ref g32, .ref g33, .ref g34, .int 0, .int 0, .int 0, .int 0, .int 0, .int 0, .int 0, .ref g35, .ref g36, .ref g37, .int 0, .ref g38, .int 0, .int 0, .int 0, .int 0, .int 0, .int 0, .int 0, .int 0, .int 0, .int 0, .int 0, .int 0, .int 0, .int 0, .int 0, .int 0, .ref g39, .ref g40, .ref g41, .ref g42, .ref g43, .ref g44, .ref g45, .ref g46, .int 0]))] s.heap.size = A at hD ⊢
  have hA : ∀ q : Nat, s.heap.size ≤ q → A q := fun q h => by rw [← hAe]; exact Or.inr h
  clear hAe
  have hS : va_S A s.heap s.heap [] := va_S.rf
  have hl := lv_entry ([.ref h0, .int p0]) (n := 2) (Nat.le_of_ble_eq_true rfl)
  rw [lg_entry_eq]
  generalize (lg_sl ([.ref h0, .int p0]) ++ List.replicate (2 - (lg_sl ([.ref h0, .int p0])).length) Slot.unset).toArray = ls at hl ⊢
  replace hl : lv_has ls 2 [(0, .ref h0), (1, .int p0)] := hl
  refine my_st (fun H locs eH el => ?_)
  replace hP : va_P (dC, dI) vwCl [(h0, .inr (12, [.ref g0, .ref g1, .int 0, .int 0, .ref g2, .ref g3, .ref g4, .int 0, .int 0, .ref g5, .ref g6, .ref g7, .ref g8, .int 0, .int 0, .int 0, .ref g9, .ref g10, .ref g11, .ref g12, .ref g13, .ref g14, .ref g15, .ref g16, .int 0, .ref g17, .ref g18, .ref g19, .ref g20, .ref g21, .ref g22, .ref g23, .ref g24, .ref g25, .ref g26, .int 0, .int 0, .int 0, .ref g27, .ref g28, .ref g29, .ref g30, .int 0, .int 0, .int 0, .int 0, .int 0, .int 0, .int 0, .int 0, .int 0, .int 0, .int 0, .int 0, .int 0, .int 0, .ref g31, .ref g32, .ref g33, .ref g34, .int 0, .int 0, .int 0, .int 0, .int 0, .int 0, .int 0, .ref g35, .ref g36, .ref g37, .int 0, .ref g38, .int 0, .int 0, .int 0, .int 0, .int 0, .int 0, .int 0, .int 0, .int 0, .int 0, .int 0, .int 0, .int 0, .int 0, .int 0, .int 0, .ref g39, .ref g40, .ref g41, .ref g42, .ref g43, .ref g44, .ref g45, .ref g46, .int 0]))] H := by rw [eH]; exact hP
  replace hS : va_S A s.heap H locs := by rw [eH, el]; exact hS
  clear eH el
  refine lv_iload_n hx hb dX12_world_0 rfl (lv_at hl 1 rfl) ?_
  rcases my_sw7 p0 with rfl | rfl | rfl | rfl | rfl | rfl | rfl | rfl | hsw
  · refine lv_tableIn (off := 47) (tgt := 48) hx hb dX12_world_1 (by decide) (by decide) (by decide) (by decide) ?_
    refine lv_aload_n hx hb dX12_world_48 rfl (lv_at hl 0 rfl) ?_
    refine va_get (D := (dC, dI)) (ci := 12) (v := .int 0) (C := RX12) (T := TX12) (N := 97) hx hb hts i_kX12_world_X12 hown hK hP 0 rfl rfl 75 (by decide) (hts (Cond.fieldLink RX12 512 "CompiledHouseModel" "how" "I") (List.mem_cons_of_mem _ (List.mem_append_left _ (List.mem_of_getElem? (i := 0) rfl)))) (fun _ h9 => h9) rfl dX12_world_49 ?_
    exact W.iret (v := 0) hx hb hr (fun t ht hW => ⟨⟨0, (), rfl, by decide, trivial⟩, hS.F ht⟩) hS.2.2 dX12_world_52
  · refine lv_tableIn (off := 52) (tgt := 53) hx hb dX12_world_1 (by decide) (by decide) (by decide) (by decide) ?_
    refine lv_aload_n hx hb dX12_world_53 rfl (lv_at hl 0 rfl) ?_
    refine va_get (D := (dC, dI)) (ci := 12) (v := .int 0) (C := RX12) (T := TX12) (N := 97) hx hb hts i_kX12_world_X12 hown hK hP 0 rfl rfl 75 (by decide) (hts (Cond.fieldLink RX12 512 "CompiledHouseModel" "how" "I") (List.mem_cons_of_mem _ (List.mem_append_left _ (List.mem_of_getElem? (i := 0) rfl)))) (fun _ h9 => h9) rfl dX12_world_54 ?_
    refine lv_if_ne (tgt := 64) hx hb dX12_world_57 (by decide) (fun c_0 => absurd (by decide) c_0) (fun _ => ?_)
    refine lv_iconst (v := 0) hx hb dX12_world_60 (by decide) ?_
    refine lv_goto (tgt := 68) hx hb dX12_world_61 (by decide) ?_
    exact W.iret (v := 0) hx hb hr (fun t ht hW => ⟨⟨0, (), rfl, by decide, trivial⟩, hS.F ht⟩) hS.2.2 dX12_world_68
  · refine lv_tableIn (off := 68) (tgt := 69) hx hb dX12_world_1 (by decide) (by decide) (by decide) (by decide) ?_
    refine lv_aload_n hx hb dX12_world_69 rfl (lv_at hl 0 rfl) ?_
    refine va_get (D := (dC, dI)) (ci := 12) (v := .int 0) (C := RX12) (T := TX12) (N := 97) hx hb hts i_kX12_world_X12 hown hK hP 0 rfl rfl 79 (by decide) (hts (Cond.fieldLink RX12 518 "CompiledHouseModel" "outputs" "I") (List.mem_cons_of_mem _ (List.mem_append_left _ (List.mem_of_getElem? (i := 1) rfl)))) (fun _ h9 => h9) rfl dX12_world_70 ?_
    exact W.iret (v := 0) hx hb hr (fun t ht hW => ⟨⟨0, (), rfl, by decide, trivial⟩, hS.F ht⟩) hS.2.2 dX12_world_73
  · refine lv_tableIn (off := 73) (tgt := 74) hx hb dX12_world_1 (by decide) (by decide) (by decide) (by decide) ?_
    refine lv_aload_n hx hb dX12_world_74 rfl (lv_at hl 0 rfl) ?_
    refine va_get (D := (dC, dI)) (ci := 12) (v := .int 0) (C := RX12) (T := TX12) (N := 97) hx hb hts i_kX12_world_X12 hown hK hP 0 rfl rfl 80 (by decide) (hts (Cond.fieldLink RX12 515 "CompiledHouseModel" "inputs" "I") (List.mem_cons_of_mem _ (List.mem_append_left _ (List.mem_of_getElem? (i := 2) rfl)))) (fun _ h9 => h9) rfl dX12_world_75 ?_
    exact W.iret (v := 0) hx hb hr (fun t ht hW => ⟨⟨0, (), rfl, by decide, trivial⟩, hS.F ht⟩) hS.2.2 dX12_world_78
  · refine lv_tableIn (off := 78) (tgt := 79) hx hb dX12_world_1 (by decide) (by decide) (by decide) (by decide) ?_
    refine lv_aload_n hx hb dX12_world_79 rfl (lv_at hl 0 rfl) ?_
    refine va_get (D := (dC, dI)) (ci := 12) (v := .int 0) (C := RX12) (T := TX12) (N := 97) hx hb hts i_kX12_world_X12 hown hK hP 0 rfl rfl 75 (by decide) (hts (Cond.fieldLink RX12 512 "CompiledHouseModel" "how" "I") (List.mem_cons_of_mem _ (List.mem_append_left _ (List.mem_of_getElem? (i := 0) rfl)))) (fun _ h9 => h9) rfl dX12_world_80 ?_
    refine lv_iconst (v := 3) hx hb dX12_world_83 (by decide) ?_
    refine lv_icmp_eq (tgt := 95) hx hb dX12_world_84 (by decide) (fun c_0 => absurd c_0 (by decide)) (fun _ => ?_)
    refine lv_aload_n hx hb dX12_world_87 rfl (lv_at hl 0 rfl) ?_
    refine va_get (D := (dC, dI)) (ci := 12) (v := .int 0) (C := RX12) (T := TX12) (N := 97) hx hb hts i_kX12_world_X12 hown hK hP 0 rfl rfl 75 (by decide) (hts (Cond.fieldLink RX12 512 "CompiledHouseModel" "how" "I") (List.mem_cons_of_mem _ (List.mem_append_left _ (List.mem_of_getElem? (i := 0) rfl)))) (fun _ h9 => h9) rfl dX12_world_88 ?_
    refine lv_iconst (v := 4) hx hb dX12_world_91 (by decide) ?_
    refine lv_icmp_ne (tgt := 102) hx hb dX12_world_92 (by decide) (fun _ => ?_) (fun c_0 => absurd c_0 (by decide))
    refine lv_iconst (v := 0) hx hb dX12_world_102 (by decide) ?_
    exact W.iret (v := 0) hx hb hr (fun t ht hW => ⟨⟨0, (), rfl, by decide, trivial⟩, hS.F ht⟩) hS.2.2 dX12_world_103
  · refine lv_tableIn (off := 103) (tgt := 104) hx hb dX12_world_1 (by decide) (by decide) (by decide) (by decide) ?_
    refine lv_aload_n hx hb dX12_world_104 rfl (lv_at hl 0 rfl) ?_
    refine va_get (D := (dC, dI)) (ci := 12) (v := .int 0) (C := RX12) (T := TX12) (N := 97) hx hb hts i_kX12_world_X12 hown hK hP 0 rfl rfl 75 (by decide) (hts (Cond.fieldLink RX12 512 "CompiledHouseModel" "how" "I") (List.mem_cons_of_mem _ (List.mem_append_left _ (List.mem_of_getElem? (i := 0) rfl)))) (fun _ h9 => h9) rfl dX12_world_105 ?_
    refine lv_iconst (v := 5) hx hb dX12_world_108 (by decide) ?_
    refine lv_icmp_eq (tgt := 121) hx hb dX12_world_109 (by decide) (fun c_0 => absurd c_0 (by decide)) (fun _ => ?_)
    refine lv_aload_n hx hb dX12_world_112 rfl (lv_at hl 0 rfl) ?_
    refine va_get (D := (dC, dI)) (ci := 12) (v := .int 0) (C := RX12) (T := TX12) (N := 97) hx hb hts i_kX12_world_X12 hown hK hP 0 rfl rfl 75 (by decide) (hts (Cond.fieldLink RX12 512 "CompiledHouseModel" "how" "I") (List.mem_cons_of_mem _ (List.mem_append_left _ (List.mem_of_getElem? (i := 0) rfl)))) (fun _ h9 => h9) rfl dX12_world_113 ?_
    refine lv_bipush (v := 6) hx hb dX12_world_116 (by decide) ?_
    refine lv_icmp_ne (tgt := 128) hx hb dX12_world_118 (by decide) (fun _ => ?_) (fun c_0 => absurd c_0 (by decide))
    refine lv_iconst (v := (-1)) hx hb dX12_world_128 (by decide) ?_
    exact W.iret (v := (-1)) hx hb hr (fun t ht hW => ⟨⟨(-1), (), rfl, by decide, trivial⟩, hS.F ht⟩) hS.2.2 dX12_world_129
  · refine lv_tableIn (off := 129) (tgt := 130) hx hb dX12_world_1 (by decide) (by decide) (by decide) (by decide) ?_
    refine lv_aload_n hx hb dX12_world_130 rfl (lv_at hl 0 rfl) ?_
    refine va_get (D := (dC, dI)) (ci := 12) (v := .int 0) (C := RX12) (T := TX12) (N := 97) hx hb hts i_kX12_world_X12 hown hK hP 0 rfl rfl 75 (by decide) (hts (Cond.fieldLink RX12 512 "CompiledHouseModel" "how" "I") (List.mem_cons_of_mem _ (List.mem_append_left _ (List.mem_of_getElem? (i := 0) rfl)))) (fun _ h9 => h9) rfl dX12_world_131 ?_
    refine lv_if_ne (tgt := 141) hx hb dX12_world_134 (by decide) (fun c_0 => absurd (by decide) c_0) (fun _ => ?_)
    refine lv_iconst (v := 0) hx hb dX12_world_137 (by decide) ?_
    refine lv_goto (tgt := 145) hx hb dX12_world_138 (by decide) ?_
    exact W.iret (v := 0) hx hb hr (fun t ht hW => ⟨⟨0, (), rfl, by decide, trivial⟩, hS.F ht⟩) hS.2.2 dX12_world_145
  · refine lv_tableIn (off := 145) (tgt := 146) hx hb dX12_world_1 (by decide) (by decide) (by decide) (by decide) ?_
    refine lv_aload_n hx hb dX12_world_146 rfl (lv_at hl 0 rfl) ?_
    refine va_get (D := (dC, dI)) (ci := 12) (v := .int 0) (C := RX12) (T := TX12) (N := 97) hx hb hts i_kX12_world_X12 hown hK hP 0 rfl rfl 75 (by decide) (hts (Cond.fieldLink RX12 512 "CompiledHouseModel" "how" "I") (List.mem_cons_of_mem _ (List.mem_append_left _ (List.mem_of_getElem? (i := 0) rfl)))) (fun _ h9 => h9) rfl dX12_world_147 ?_
    refine lv_if_ne (tgt := 157) hx hb dX12_world_150 (by decide) (fun c_0 => absurd (by decide) c_0) (fun _ => ?_)
    refine lv_iconst (v := 0) hx hb dX12_world_153 (by decide) ?_
    refine lv_goto (tgt := 161) hx hb dX12_world_154 (by decide) ?_
    exact W.iret (v := 0) hx hb hr (fun t ht hW => ⟨⟨0, (), rfl, by decide, trivial⟩, hS.F ht⟩) hS.2.2 dX12_world_161
  · refine lv_tableOut (tgt := 162) hx hb dX12_world_1 hsw (by decide) ?_
    refine lv_iconst (v := (-1)) hx hb dX12_world_162 (by decide) ?_
    exact W.iret (v := (-1)) hx hb hr (fun t ht hW => ⟨⟨(-1), (), rfl, by unfold sp_kX12_world; rw [if_pos hsw], trivial⟩, hS.F ht⟩) hS.2.2 dX12_world_163
def vs_kX12_global : List Cond := Cond.code yX12_global cX12_global 5 (some .int) :: (([Cond.fieldLink RX12 509 "CompiledHouseModel" "there" "Z"] : List Cond) ++ (wsX120))
theorem i_kX12_global_X12 : ∀ w ∈ wsX120, w ∈ vs_kX12_global := fun w h => List.mem_cons_of_mem _ (List.mem_append_right _ h)
set_option maxHeartbeats 4000000 in
set_option maxRecDepth 100000 in
theorem kX12_global (l : Launch) (dC : Nat → ClassId) (dI : Nat → Nat → Nat) (cI cB cZ : ClassId) (h0 : Nat) (g0 : Nat) (g1 : Nat) (g2 : Nat) (g3 : Nat) (g4 : Nat) (g5 : Nat) (g6 : Nat) (g7 : Nat) (g8 : Nat) (g9 : Nat) (g10 : Nat) (g11 : Nat) (g12 : Nat) (g13 : Nat) (g14 : Nat) (g15 : Nat) (g16 : Nat) (g17 : Nat) (g18 : Nat) (g19 : Nat) (g20 : Nat) (g21 : Nat) (g22 : Nat) (g23 : Nat) (g24 : Nat) (g25 : Nat) (g26 : Nat) (g27 : Nat) (g28 : Nat) (g29 : Nat) (g30 : Nat) (g31 : Nat) (g32 : Nat) (g33 : Nat) (g34 : Nat) (g35 : Nat) (g36 : Nat) (g37 : Nat) (g38 : Nat) (g39 : Nat) (g40 : Nat) (g41 : Nat) (g42 : Nat) (g43 : Nat) (g44 : Nat) (g45 : Nat) (g46 : Nat) (sz : Nat) (p0 : Int32) : Met l yX12_global vs_kX12_global ({ frames := 0, cells := 0, slots := 0, locals := 0 }) (va_Pc [.ref h0, .int p0] (fun U => U.heap.size = sz ∧ va_P (dC, dI) vwCl [(h0, .inr (12, [.ref g0, .ref g1, .int 0, .int 0, .ref g2, .ref g3, .ref g4, .int 0, .int 0, .ref g5, .ref g6, .ref g7, .ref g8, .int 0, .int 0, .int 0, .ref g9, .ref g10, .ref g11, .ref g12, .ref g13, .ref g14, .ref g15, .ref g16, .int 0, .ref g17, .ref g18, .ref g19, .ref g20, .ref g21, .ref g22, .ref g23, .ref g24, .ref g25, .ref g26, .int 0, .int 0, .int 0, .ref g27, .ref g28, .ref g29, .ref g30, .int 0, .int 0, .int 0, .int 0, .int 0, .int 0, .int 0, .int 0, .int 0, .int 0, .int 0, .int 0, .int 0, .int 0, .ref g31, .ref g32, .ref g33, .ref g34, .int 0, .int 0, .int 0, .int 0, .int 0, .int 0, .int 0, .ref g35, .ref g36, .ref g37, .int 0, .ref g38, .int 0, .int 0, .int 0, .int 0, .int 0, .int 0, .int 0, .int 0, .int 0, .int 0, .int 0, .int 0, .int 0, .int 0, .int 0, .int 0, .ref g39, .ref g40, .ref g41, .ref g42, .ref g43, .ref g44, .ref g45, .ref g46, .int 0]))] U.heap ∧ va_K (dC, dI) vwCl (ty3 cI cB cZ) U ∧ va_D (fun _ => True) [(h0, .inr (12, [.ref g0, .ref g1, .int 0, .int 0, .ref g2, .ref g3, .ref g4, .int 0, .int 0, .ref g5, .ref g6, .ref g7, .ref g8, .int 0, .int 0, .int 0, .ref g9, .ref g10, .ref g11, .ref g12, .ref g13, .ref g14, .ref g15, .ref g16, .int 0, .ref g17, .ref g18, .ref g19, .ref g20, .ref g21, .ref g22, .ref g23, .ref g24, .ref g25, .ref g26, .int 0, .int 0, .int 0, .ref g27, .ref g28, .ref g29, .ref g30, .int 0, .int 0, .int 0, .int 0, .int 0, .int 0, .int 0, .int 0, .int 0, .int 0, .int 0, .int 0, .int 0, .int 0, .ref g31, .ref g32, .ref g33, .ref g34, .int 0, .int 0, .int 0, .int 0, .int 0, .int 0, .int 0, .ref g35, .ref g36, .ref g37, .int 0, .ref g38, .int 0, .int 0, .int 0, .int 0, .int 0, .int 0, .int 0, .int 0, .int 0, .int 0, .int 0, .int 0, .int 0, .int 0, .int 0, .int 0, .ref g39, .ref g40, .ref g41, .ref g42, .ref g43, .ref g44, .ref g45, .ref g46, .int 0]))])) (va_Qi (fun (r : Int32) (_ : Unit) => r = 0) (fun (_ : Unit) (t : State) => va_P (dC, dI) vwCl [(h0, .inr (12, [.ref g0, .ref g1, .int 0, .int 0, .ref g2, .ref g3, .ref g4, .int 0, .int 0, .ref g5, .ref g6, .ref g7, .ref g8, .int 0, .int 0, .int 0, .ref g9, .ref g10, .ref g11, .ref g12, .ref g13, .ref g14, .ref g15, .ref g16, .int 0, .ref g17, .ref g18, .ref g19, .ref g20, .ref g21, .ref g22, .ref g23, .ref g24, .ref g25, .ref g26, .int 0, .int 0, .int 0, .ref g27, .ref g28, .ref g29, .ref g30, .int 0, .int 0, .int 0, .int 0, .int 0, .int 0, .int 0, .int 0, .int 0, .int 0, .int 0, .int 0, .int 0, .int 0, .ref g31, .ref g32, .ref g33, .ref g34, .int 0, .int 0, .int 0, .int 0, .int 0, .int 0, .int 0, .ref g35, .ref g36, .ref g37, .int 0, .ref g38, .int 0, .int 0, .int 0, .int 0, .int 0, .int 0, .int 0, .int 0, .int 0, .int 0, .int 0, .int 0, .int 0, .int 0, .int 0, .int 0, .ref g39, .ref g40, .ref g41, .ref g42, .ref g43, .ref g44, .ref g45, .ref g46, .int 0]))] t.heap ∧ va_K (dC, dI) vwCl (ty3 cI cB cZ) t ∧ va_D (va_A [(h0, .inr (12, [.ref g0, .ref g1, .int 0, .int 0, .ref g2, .ref g3, .ref g4, .int 0, .int 0, .ref g5, .ref g6, .ref g7, .ref g8, .int 0, .int 0, .int 0, .ref g9, .ref g10, .ref g11, .ref g12, .ref g13, .ref g14, .ref g15, .ref g16, .int 0, .ref g17, .ref g18, .ref g19, .ref g20, .ref g21, .ref g22, .ref g23, .ref g24, .ref g25, .ref g26, .int 0, .int 0, .int 0, .ref g27, .ref g28, .ref g29, .ref g30, .int 0, .int 0, .int 0, .int 0, .int 0, .int 0, .int 0, .int 0, .int 0, .int 0, .int 0, .int 0, .int 0, .int 0, .ref g31, .ref g32, .ref g33, .ref g34, .int 0, .int 0, .int 0, .int 0, .int 0, .int 0, .int 0, .ref g35, .ref g36, .ref g37, .int 0, .ref g38, .int 0, .int 0, .int 0, .int 0, .int 0, .int 0, .int 0, .int 0, .int 0, .int 0, .int 0, .int 0, .int 0, .int 0, .int 0, .int 0, .ref g39, .ref g40, .ref g41, .ref g42, .ref g43, .ref g44, .ref g45, .ref g46, .int 0]))] sz) [(h0, .inr (12, [.ref g0, .ref g1, .int 0, .int 0, .ref g2, .ref g3, .ref g4, .int 0, .int 0, .ref g5, .ref g6, .ref g7, .ref g8, .int 0, .int 0, .int 0, .ref g9, .ref g10, .ref g11, .ref g12, .ref g13, .ref g14, .ref g15, .ref g16, .int 0, .ref g17, .ref g18, .ref g19, .ref g20, .ref g21, .ref g22, .ref g23, .ref g24, .ref g25, .ref g26, .int 0, .int 0, .int 0, .ref g27, .ref g28, .ref g29, .ref g30, .int 0, .int 0, .int 0, .int 0, .int 0, .int 0, .int 0, .int 0, .int 0, .int 0, .int 0, .int 0, .int 0, .int 0, .ref g31, .ref g32, .ref g33, .ref g34, .int 0, .int 0, .int 0, .int 0, .int 0, .int 0, .int 0, .ref g35, .ref g36, .ref g37, .int 0, .ref g38, .int 0, .int 0, .int 0, .int 0, .int 0, .int 0, .int 0, .int 0, .int 0, .int 0, .int 0, .int 0, .int 0, .int 0, .int 0, .int 0, .ref g39, .ref g40, .ref g41, .ref g42, .ref g43, .ref g44, .ref g45, .ref g46, .int 0]))]) (va_A [(h0, .inr (12, [.ref g0, .ref g1, .int 0, .int 0, .ref g2, .ref g3, .ref g4, .int 0, .int 0, .ref g5, .ref g6, .ref g7, .ref g8, .int 0, .int 0, .int 0, .ref g9, .ref g10, .ref g11, .ref g12, .ref g13, .ref g14, .ref g15, .ref g16, .int 0, .ref g17, .ref g18, .ref g19, .ref g20, .ref g21, .ref g22, .ref g23, .ref g24, .ref g25, .ref g26, .int 0, .int 0, .int 0, .ref g27, .ref g28, .ref g29, .ref g30, .int 0, .int 0, .int 0, .int 0, .int 0, .int 0, .int 0, .int 0, .int 0, .int 0, .int 0, .int 0, .int 0, .int 0, .ref g31, .ref g32, .ref g33, .ref g34, .int 0, .int 0, .int 0, .int 0, .int 0, .int 0, .int 0, .ref g35, .ref g36, .ref g37, .int 0, .ref g38, .int 0, .int 0, .int 0, .int 0, .int 0, .int 0, .int 0, .int 0, .int 0, .int 0, .int 0, .int 0, .int 0, .int 0, .int 0, .int 0, .ref g39, .ref g40, .ref g41, .ref g42, .ref g43, .ref g44, .ref g45, .ref g46, .int 0]))] sz)) 0 0 (va_A [(h0, .inr (12, [.ref g0, .ref g1, .int 0, .int 0, .ref g2, .ref g3, .ref g4, .int 0, .int 0, .ref g5, .ref g6, .ref g7, .ref g8, .int 0, .int 0, .int 0, .ref g9, .ref g10, .ref g11, .ref g12, .ref g13, .ref g14, .ref g15, .ref g16, .int 0, .ref g17, .ref g18, .ref g19, .ref g20, .ref g21, .ref g22, .ref g23, .ref g24, .ref g25, .ref g26, .int 0, .int 0, .int 0, .ref g27, .ref g28, .ref g29, .ref g30, .int 0, .int 0, .int 0, .int 0, .int 0, .int 0, .int 0, .int 0, .int 0, .int 0, .int 0, .int 0, .int 0, .int 0, .ref g31, .ref g32, .ref g33, .ref g34, .int 0, .int 0, .int 0, .int 0, .int 0, .int 0, .int 0, .ref g35, .ref g36, .ref g37, .int 0, .ref g38, .int 0, .int 0, .int 0, .int 0, .int 0, .int 0, .int 0, .int 0, .int 0, .int 0, .int 0, .int 0, .int 0, .int 0, .int 0, .int 0, .ref g39, .ref g40, .ref g41, .ref g42, .ref g43, .ref g44, .ref g45, .ref g46, .int 0]))] sz) := by
  refine Met.ofW (cc := cX12_global) (maxL := 5) (ret := (some .int)) (by decide) rfl ?_
  intro p e s m args below meth c s₁ B hml hv
  obtain ⟨rfl, hsz, hP, hK, hD0⟩ := hv
  have hx := B.exec
  have hb := B.bytes
  have hr := B.returns
  have hts := atoms_spec (ws := vs_kX12_global) B.pre
  have hown : s.vm.findClass RX12 = some m.cls := findClass_of_methodNamed B.named
  have hlocks := B.notSynchronized
  subst hsz
  have hD := hD0.self (sz := s.heap.size)
  clear hD0
  generalize hAe : va_A [(h0, .inr (12, [.ref g0, .ref g1, .int 0, .int 0, .ref g2, .ref g3, .ref g4, .int 0, .int 0, .ref g5, .ref g6, .ref g7, .ref g8, .int 0, .int 0, .int 0, .ref g9, .ref g10, .ref g11, .ref g12, .ref g13, .ref g14, .ref g15, .ref g16, .int 0, .ref g17, .ref g18, .ref g19, .ref g20, .ref g21, .ref g22, .ref g23, .ref g24, .ref g25, .ref g26, .int 0, .int 0, .int 0, .ref g27, .ref g28, .ref g29, .ref g30, .int 0, .int 0, .int 0, .int 0, .int 0, .int 0, .int 0, .int 0, .int 0, .int 0, .int 0, .int 0, .int 0, .int 0, .ref g31, .ref g32, .ref g33, .ref g34, .int 0, .int 0, .int 0, .int 0, .int 0, .int 0, .int 0, .ref g35, .ref g36, .ref g37, .int 0, .ref g38, .int 0, .int 0, .int 0, .int 0, .int 0, .int 0, .int 0, .int 0, .int 0, .int 0, .int 0, .int 0, .int 0, .int 0, .int 0, .int 0, .ref g39, .ref g40, .ref g41, .ref g42, .ref g43, .ref g44, .ref g45, .ref g46, .int 0]))] s.heap.size = A at hD ⊢
  have hA : ∀ q : Nat, s.heap.size ≤ q → A q := fun q h => by rw [← hAe]; exact Or.inr h
  clear hAe
  have hS : va_S A s.heap s.heap [] := va_S.rf
  have hl := lv_entry ([.ref h0, .int p0]) (n := 5) (Nat.le_of_ble_eq_true rfl)
  rw [lg_entry_eq]
  generalize (lg_sl ([.ref h0, .int p0]) ++ List.replicate (5 - (lg_sl ([.ref h0, .int p0])).length) Slot.unset).toArray = ls at hl ⊢
  replace hl : lv_has ls 5 [(0, .ref h0), (1, .int p0)] := hl
  refine my_st (fun H locs eH el => ?_)
  replace hP : va_P (dC, dI) vwCl [(h0, .inr (12, [.ref g0, .ref g1, .int 0, .int 0, .ref g2, .ref g3, .ref g4, .int 0, .int 0, .ref g5, .ref g6, .ref g7, .ref g8, .int 0, .int 0, .int 0, .ref g9, .ref g10, .ref g11, .ref g12, .ref g13, .ref g14, .ref g15, .ref g16, .int 0, .ref g17, .ref g18, .ref g19, .ref g20, .ref g21, .ref g22, .ref g23, .ref g24, .ref g25, .ref g26, .int 0, .int 0, .int 0, .ref g27, .ref g28, .ref g29, .ref g30, .int 0, .int 0, .int 0, .int 0, .int 0, .int 0, .int 0, .int 0, .int 0, .int 0, .int 0, .int 0, .int 0, .int 0, .ref g31, .ref g32, .ref g33, .ref g34, .int 0, .int 0, .int 0, .int 0, .int 0, .int 0, .int 0, .ref g35, .ref g36, .ref g37, .int 0, .ref g38, .int 0, .int 0, .int 0, .int 0, .int 0, .int 0, .int 0, .int 0, .int 0, .int 0, .int 0, .int 0, .int 0, .int 0, .int 0, .int 0, .ref g39, .ref g40, .ref g41, .ref g42, .ref g43, .ref g44, .ref g45, .ref g46, .int 0]))] H := by rw [eH]; exact hP
  replace hS : va_S A s.heap H locs := by rw [eH, el]; exact hS
  clear eH el
  refine lv_aload_n hx hb dX12_global_0 rfl (lv_at hl 0 rfl) ?_
  refine va_get (D := (dC, dI)) (ci := 12) (v := .int 0) (C := RX12) (T := TX12) (N := 97) hx hb hts i_kX12_global_X12 hown hK hP 0 rfl rfl 73 (by decide) (hts (Cond.fieldLink RX12 509 "CompiledHouseModel" "there" "Z") (List.mem_cons_of_mem _ (List.mem_append_left _ (List.mem_of_getElem? (i := 0) rfl)))) (fun _ h9 => h9) rfl dX12_global_1 ?_
  refine lv_if_eq (tgt := 19) hx hb dX12_global_4 (by decide) (fun _ => ?_) (fun c_0 => absurd (by decide) c_0)
  refine lv_iconst (v := 0) hx hb dX12_global_19 (by decide) ?_
  have hP9 := hP.sub (ws' := [(h0, .inr (12, [.ref g0, .ref g1, .int 0, .int 0, .ref g2, .ref g3, .ref g4, .int 0, .int 0, .ref g5, .ref g6, .ref g7, .ref g8, .int 0, .int 0, .int 0, .ref g9, .ref g10, .ref g11, .ref g12, .ref g13, .ref g14, .ref g15, .ref g16, .int 0, .ref g17, .ref g18, .ref g19, .ref g20, .ref g21, .ref g22, .ref g23, .ref g24, .ref g25, .ref g26, .int 0, .int 0, .int 0, .ref g27, .ref g28, .ref g29, .ref g30, .int 0, .int 0, .int 0, .int 0, .int 0, .int 0, .int 0, .int 0, .int 0, .int 0, .int 0, .int 0, .int 0, .int 0, .ref g31, .ref g32, .ref g33, .ref g34, .int 0, .int 0, .int 0, .int 0, .int 0, .int 0, .int 0, .ref g35, .ref g36, .ref g37, .int 0, .ref g38, .int 0, .int 0, .int 0, .int 0, .int 0, .int 0, .int 0, .int 0, .int 0, .int 0, .int 0, .int 0, .int 0, .int 0, .int 0, .int 0, .ref g39, .ref g40, .ref g41, .ref g42, .ref g43, .ref g44, .ref g45, .ref g46, .int 0]))]) [0] rfl
  have hD9 := hD.sub (ws' := [(h0, .inr (12, [.ref g0, .ref g1, .int 0, .int 0, .ref g2, .ref g3, .ref g4, .int 0, .int 0, .ref g5, .ref g6, .ref g7, .ref g8, .int 0, .int 0, .int 0, .ref g9, .ref g10, .ref g11, .ref g12, .ref g13, .ref g14, .ref g15, .ref g16, .int 0, .ref g17, .ref g18, .ref g19, .ref g20, .ref g21, .ref g22, .ref g23, .ref g24, .ref g25, .ref g26, .int 0, .int 0, .int 0, .ref g27, .ref g28, .ref g29, .ref g30, .int 0, .int 0, .int 0, .int 0, .int 0, .int 0, .int 0, .int 0, .int 0, .int 0, .int 0, .int 0, .int 0, .int 0, .ref g31, .ref g32, .ref g33, .ref g34, .int 0, .int 0, .int 0, .int 0, .int 0, .int 0, .int 0, .ref g35, .ref g36, .ref g37, .int 0, .ref g38, .int 0, .int 0, .int 0, .int 0, .int 0, .int 0, .int 0, .int 0, .int 0, .int 0, .int 0, .int 0, .int 0, .int 0, .int 0, .int 0, .ref g39, .ref g40, .ref g41, .ref g42, .ref g43, .ref g44, .ref g45, .ref g46, .int 0]))]) [0] (by decide) rfl
  refine W.widen (k := 0) (n := 0) (by decide) (by decide) ?_
  exact W.iret (v := 0) hx hb hr (fun t ht hW => ⟨⟨0, (), rfl, rfl, by rw [ht]; exact hP9, va_K.moved hW.alike hK, hD9⟩, hS.F ht⟩) hS.2.2 dX12_global_20
def vs_kX12_put : List Cond := Cond.code yX12_put cX12_put 3 (some .boolean) :: (([Cond.fieldLink RX12 147 "CompiledHouseModel" "memory" "[I"] : List Cond) ++ (wsX120))
theorem i_kX12_put_X12 : ∀ w ∈ wsX120, w ∈ vs_kX12_put := fun w h => List.mem_cons_of_mem _ (List.mem_append_right _ h)
def sp_kX12_put (p0 : Int32) (p1 : Int32) : Int32 := if (p0 &&& 3) = 0 then if p0 < 0 then 0 else (if p0 ≤ 16380 then 1 else (0)) else (0)
set_option maxHeartbeats 4000000 in
set_option maxRecDepth 100000 in
theorem kX12_put (l : Launch) (dC : Nat → ClassId) (dI : Nat → Nat → Nat) (cI cB cZ : ClassId) (h0 : Nat) (h1 : Nat) (g0 : Nat) (g1 : Nat) (g2 : Nat) (g3 : Nat) (g4 : Nat) (g5 : Nat) (g6 : Nat) (g7 : Nat) (g8 : Nat) (g9 : Nat) (g10 : Nat) (g11 : Nat) (g12 : Nat) (g13 : Nat) (g14 : Nat) (g15 : Nat) (g16 : Nat) (g17 : Nat) (g18 : Nat) (g19 : Nat) (g20 : Nat) (g21 : Nat) (g22 : Nat) (g23 : Nat) (g24 : Nat) (g25 : Nat) (g26 : Nat) (g27 : Nat) (g28 : Nat) (g29 : Nat) (g30 : Nat) (g31 : Nat) (g32 : Nat) (g33 : Nat) (g34 : Nat) (g35 : Nat) (g36 : Nat) (g37 : Nat) (g38 : Nat) (g39 : Nat) (g40 : Nat) (g41 : Nat) (g42 : Nat) (g43 : Nat) (g44 : Nat) (g45 : Nat) (sz : Nat) (p0 : Int32) (p1 : Int32) : Met l yX12_put vs_kX12_put ({ frames := 0, cells := 0, slots := 0, locals := 0 }) (va_Pc [.ref h0, .int p0, .int p1] (fun U => U.heap.size = sz ∧ va_P (dC, dI) vwCl [(h0, .inr (12, [.ref g0, .ref g1, .int 0, .int 0, .ref g2, .ref g3, .ref g4, .int 0, .int 0, .ref g5, .ref g6, .ref g7, .ref g8, .int 0, .int 0, .int 0, .ref g9, .ref g10, .ref g11, .ref g12, .ref g13, .ref g14, .ref g15, .ref g16, .int 0, .ref g17, .ref g18, .ref g19, .ref g20, .ref g21, .ref g22, .ref g23, .ref g24, .ref g25, .ref g26, .int 0, .int 0, .int 0, .ref g27, .ref g28, .ref g29, .ref g30, .int 0, .int 0, .int 0, .int 0, .int 0, .int 0, .int 0, .int 0, .int 0, .int 0, .int 0, .int 0, .int 0, .int 0, .ref g31, .ref g32, .ref g33, .ref g34, .int 0, .int 0, .int 0, .int 0, .int 0, .int 0, .int 0, .ref g35, .ref g36, .ref g37, .int 0, .ref g38, .int 0, .int 0, .int 0, .int 0, .int 0, .int 0, .int 0, .int 0, .int 0, .int 0, .int 0, .int 0, .int 0, .int 0, .int 0, .int 0, .ref g39, .ref g40, .ref g41, .ref g42, .ref g43, .ref g44, .ref h1, .ref g45, .int 0])), (h1, .inl (cI, 4096, .inl (fun _ => 0)))] U.heap ∧ va_K (dC, dI) vwCl (ty3 cI cB cZ) U ∧ va_D (fun _ => True) [(h0, .inr (12, [.ref g0, .ref g1, .int 0, .int 0, .ref g2, .ref g3, .ref g4, .int 0, .int 0, .ref g5, .ref g6, .ref g7, .ref g8, .int 0, .int 0, .int 0, .ref g9, .ref g10, .ref g11, .ref g12, .ref g13, .ref g14, .ref g15, .ref g16, .int 0, .ref g17, .ref g18, .ref g19, .ref g20, .ref g21, .ref g22, .ref g23, .ref g24, .ref g25, .ref g26, .int 0, .int 0, .int 0, .ref g27, .ref g28, .ref g29, .ref g30, .int 0, .int 0, .int 0, .int 0, .int 0, .int 0, .int 0, .int 0, .int 0, .int 0, .int 0, .int 0, .int 0, .int 0, .ref g31, .ref g32, .ref g33, .ref g34, .int 0, .int 0, .int 0, .int 0, .int 0, .int 0, .int 0, .ref g35, .ref g36, .ref g37, .int 0, .ref g38, .int 0, .int 0, .int 0, .int 0, .int 0, .int 0, .int 0, .int 0, .int 0, .int 0, .int 0, .int 0, .int 0, .int 0, .int 0, .int 0, .ref g39, .ref g40, .ref g41, .ref g42, .ref g43, .ref g44, .ref h1, .ref g45, .int 0])), (h1, .inl (cI, 4096, .inl (fun _ => 0)))])) (va_Qi (fun (r : Int32) (_ : Unit) => r = sp_kX12_put p0 p1) (fun (_ : Unit) (_ : State) => True) (va_A [(h0, .inr (12, [.ref g0, .ref g1, .int 0, .int 0, .ref g2, .ref g3, .ref g4, .int 0, .int 0, .ref g5, .ref g6, .ref g7, .ref g8, .int 0, .int 0, .int 0, .ref g9, .ref g10, .ref g11, .ref g12, .ref g13, .ref g14, .ref g15, .ref g16, .int 0, .ref g17, .ref g18, .ref g19, .ref g20, .ref g21, .ref g22, .ref g23, .ref g24, .ref g25, .ref g26, .int 0, .int 0, .int 0, .ref g27, .ref g28, .ref g29, .ref g30, .int 0, .int 0, .int 0, .int 0, .int 0, .int 0, .int 0, .int 0, .int 0, .int 0, .int 0, .int 0, .int 0, .int 0, .ref g31, .ref g32, .ref g33, .ref g34, .int 0, .int 0, .int 0, .int 0, .int 0, .int 0, .int 0, .ref g35, .ref g36, .ref g37, .int 0, .ref g38, .int 0, .int 0, .int 0, .int 0, .int 0, .int 0, .int 0, .int 0, .int 0, .int 0, .int 0, .int 0, .int 0, .int 0, .int 0, .int 0, .ref g39, .ref g40, .ref g41, .ref g42, .ref g43, .ref g44, .ref h1, .ref g45, .int 0])), (h1, .inl (cI, 4096, .inl (fun _ => 0)))] sz)) 0 0 (va_A [(h0, .inr (12, [.ref g0, .ref g1, .int 0, .int 0, .ref g2, .ref g3, .ref g4, .int 0, .int 0, .ref g5, .ref g6, .ref g7, .ref g8, .int 0, .int 0, .int 0, .ref g9, .ref g10, .ref g11, .ref g12, .ref g13, .ref g14, .ref g15, .ref g16, .int 0, .ref g17, .ref g18, .ref g19, .ref g20, .ref g21, .ref g22, .ref g23, .ref g24, .ref g25, .ref g26, .int 0, .int 0, .int 0, .ref g27, .ref g28, .ref g29, .ref g30, .int 0, .int 0, .int 0, .int 0, .int 0, .int 0, .int 0, .int 0, .int 0, .int 0, .int 0, .int 0, .int 0, .int 0, .ref g31, .ref g32, .ref g33, .ref g34, .int 0, .int 0, .int 0, .int 0, .int 0, .int 0, .int 0, .ref g35, .ref g36, .ref g37, .int 0, .ref g38, .int 0, .int 0, .int 0, .int 0, .int 0, .int 0, .int 0, .int 0, .int 0, .int 0, .int 0, .int 0, .int 0, .int 0, .int 0, .int 0, .ref g39, .ref g40, .ref g41, .ref g42, .ref g43, .ref g44, .ref h1, .ref g45, .int 0])), (h1, .inl (cI, 4096, .inl (fun _ => 0)))] sz) := by
  refine Met.ofW (cc := cX12_put) (maxL := 3) (ret := (some .boolean)) (by decide) rfl ?_
  intro p e s m args below meth c s₁ B hml hv
  obtain ⟨rfl, hsz, hP, hK, hD0⟩ := hv
  have hx := B.exec
  have hb := B.bytes
  have hr := B.returns
  have hts := atoms_spec (ws := vs_kX12_put) B.pre
  have hown : s.vm.findClass RX12 = some m.cls := findClass_of_methodNamed B.named
  have hlocks := B.notSynchronized
  subst hsz
  have hD := hD0.self (sz := s.heap.size)
  clear hD0
  generalize hAe : va_A [(h0, .inr (12, [.ref g0, .ref g1, .int 0, .int 0, .ref g2, .ref g3, .ref g4, .int 0, .int 0, .ref g5, .ref g6, .ref g7, .ref g8, .int 0, .int 0, .int 0, .ref g9, .ref g10, .ref g11, .ref g12, .ref g13, .ref g14, .ref g15, .ref g16, .int 0, .ref g17, .ref g18, .ref g19, .ref g20, .ref g21, .ref g22, .ref g23, .ref g24, .ref g25, .ref g26, .int 0, .int 0, .int 0, .ref g27, .ref g28, .ref g29, .ref g30, .int 0, .int 0, .int 0, .int 0, .int 0, .int 0, .int 0, .int 0, .int 0, .int 0, .int 0, .int 0, .int 0, .int 0, .ref g31, .ref g32, .ref g33, .ref g34, .int 0, .int 0, .int 0, .int 0, .int 0, .int 0, .int 0, .ref g35, .ref g36, .ref g37, .int 0, .ref g38, .int 0, .int 0, .int 0, .int 0, .int 0, .int 0, .int 0, .int 0, .int 0, .int 0, .int 0, .int 0, .int 0, .int 0, .int 0, .int 0, .ref g39, .ref g40, .ref g41, .ref g42, .ref g43, .ref g44, .ref h1, .ref g45, .int 0])), (h1, .inl (cI, 4096, .inl (fun _ => 0)))] s.heap.size = A at hD ⊢
  have hA : ∀ q : Nat, s.heap.size ≤ q → A q := fun q h => by rw [← hAe]; exact Or.inr h
  clear hAe
  have hS : va_S A s.heap s.heap [] := va_S.rf
  have hl := lv_entry ([.ref h0, .int p0, .int p1]) (n := 3) (Nat.le_of_ble_eq_true rfl)
  rw [lg_entry_eq]
  generalize (lg_sl ([.ref h0, .int p0, .int p1]) ++ List.replicate (3 - (lg_sl ([.ref h0, .int p0, .int p1])).length) Slot.unset).toArray = ls at hl ⊢
  replace hl : lv_has ls 3 [(0, .ref h0), (1, .int p0), (2, .int p1)] := hl
  refine my_st (fun H locs eH el => ?_)
  replace hP : va_P (dC, dI) vwCl [(h0, .inr (12, [.ref g0, .ref g1, .int 0, .int 0, .ref g2, .ref g3, .ref g4, .int 0, .int 0, .ref g5, .ref g6, .ref g7, .ref g8, .int 0, .int 0, .int 0, .ref g9, .ref g10, .ref g11, .ref g12, .ref g13, .ref g14, .ref g15, .ref g16, .int 0, .ref g17, .ref g18, .ref g19, .ref g20, .ref g21, .ref g22, .ref g23, .ref g24, .ref g25, .ref g26, .int 0, .int 0, .int 0, .ref g27, .ref g28, .ref g29, .ref g30, .int 0, .int 0, .int 0, .int 0, .int 0, .int 0, .int 0, .int 0, .int 0, .int 0, .int 0, .int 0, .int 0, .int 0, .ref g31, .ref g32, .ref g33, .ref g34, .int 0, .int 0, .int 0, .int 0, .int 0, .int 0, .int 0, .ref g35, .ref g36, .ref g37, .int 0, .ref g38, .int 0, .int 0, .int 0, .int 0, .int 0, .int 0, .int 0, .int 0, .int 0, .int 0, .int 0, .int 0, .int 0, .int 0, .int 0, .int 0, .ref g39, .ref g40, .ref g41, .ref g42, .ref g43, .ref g44, .ref h1, .ref g45, .int 0])), (h1, .inl (cI, 4096, .inl (fun _ => 0)))] H := by rw [eH]; exact hP
  replace hS : va_S A s.heap H locs := by rw [eH, el]; exact hS
  clear eH el
  refine lv_iload_n hx hb dX12_put_0 rfl (lv_at hl 1 rfl) ?_
  refine lv_iconst (v := 3) hx hb dX12_put_1 (by decide) ?_
  refine lv_iand hx hb dX12_put_2 ?_
  refine lv_if_ne (tgt := 17) hx hb dX12_put_3 (by decide) (fun c_1 => ?_) (fun c_1 => ?_)
  · refine lv_iconst (v := 0) hx hb dX12_put_17 (by decide) ?_
    exact W.zret (v := 0) hx hb hr rfl (fun t ht hW => ⟨⟨0, (), rfl, by unfold sp_kX12_put; rw [if_neg c_1], trivial⟩, hS.F ht⟩) hS.2.2 dX12_put_18
  · refine lv_iload_n hx hb dX12_put_6 rfl (lv_at hl 1 rfl) ?_
    refine lv_if_lt (tgt := 17) hx hb dX12_put_7 (by decide) (fun c_2 => ?_) (fun c_2 => ?_)
    · refine lv_iconst (v := 0) hx hb dX12_put_17 (by decide) ?_
      exact W.zret (v := 0) hx hb hr rfl (fun t ht hW => ⟨⟨0, (), rfl, by unfold sp_kX12_put; rw [if_pos c_1, if_pos c_2], trivial⟩, hS.F ht⟩) hS.2.2 dX12_put_18
    · refine lv_iload_n hx hb dX12_put_10 rfl (lv_at hl 1 rfl) ?_
      refine lv_sipush (v := 16380) hx hb dX12_put_11 (by decide) ?_
      refine lv_icmp_le (tgt := 19) hx hb dX12_put_14 (by decide) (fun c_3 => ?_) (fun c_3 => ?_)
      · refine lv_aload_n hx hb dX12_put_19 rfl (lv_at hl 0 rfl) ?_
        refine va_get (D := (dC, dI)) (ci := 12) (v := .ref h1) (C := RX12) (T := TX12) (N := 97) hx hb hts i_kX12_put_X12 hown hK hP 0 rfl rfl 94 (by decide) (hts (Cond.fieldLink RX12 147 "CompiledHouseModel" "memory" "[I") (List.mem_cons_of_mem _ (List.mem_append_left _ (List.mem_of_getElem? (i := 0) rfl)))) (fun _ h9 => h9) rfl dX12_put_20 ?_
        refine lv_iload_n hx hb dX12_put_23 rfl (lv_at hl 1 rfl) ?_
        refine lv_iconst (v := 2) hx hb dX12_put_24 (by decide) ?_
        refine lv_ishr hx hb dX12_put_25 ?_
        refine lv_iload_n hx hb dX12_put_26 rfl (lv_at hl 2 rfl) ?_
        refine my_iast hx hb hK hP hD hS 1 0 rfl rfl (my_hold c_2 (my_put c_3)) dX12_put_27 (fun f_5 H_4 locs hP1 hD1 hS1 => ?_)
        clear hP hD hS
        have hP : va_P (dC, dI) vwCl [(h0, .inr (12, [.ref g0, .ref g1, .int 0, .int 0, .ref g2, .ref g3, .ref g4, .int 0, .int 0, .ref g5, .ref g6, .ref g7, .ref g8, .int 0, .int 0, .int 0, .ref g9, .ref g10, .ref g11, .ref g12, .ref g13, .ref g14, .ref g15, .ref g16, .int 0, .ref g17, .ref g18, .ref g19, .ref g20, .ref g21, .ref g22, .ref g23, .ref g24, .ref g25, .ref g26, .int 0, .int 0, .int 0, .ref g27, .ref g28, .ref g29, .ref g30, .int 0, .int 0, .int 0, .int 0, .int 0, .int 0, .int 0, .int 0, .int 0, .int 0, .int 0, .int 0, .int 0, .int 0, .ref g31, .ref g32, .ref g33, .ref g34, .int 0, .int 0, .int 0, .int 0, .int 0, .int 0, .int 0, .ref g35, .ref g36, .ref g37, .int 0, .ref g38, .int 0, .int 0, .int 0, .int 0, .int 0, .int 0, .int 0, .int 0, .int 0, .int 0, .int 0, .int 0, .int 0, .int 0, .int 0, .int 0, .ref g39, .ref g40, .ref g41, .ref g42, .ref g43, .ref g44, .ref h1, .ref g45, .int 0])), (h1, .inl (cI, 4096, .inl f_5))] H_4 := hP1
        have hD : va_D A [(h0, .inr (12, [.ref g0, .ref g1, .int 0, .int 0, .ref g2, .ref g3, .ref g4, .int 0, .int 0, .ref g5, .ref g6, .ref g7, .ref g8, .int 0, .int 0, .int 0, .ref g9, .ref g10, .ref g11, .ref g12, .ref g13, .ref g14, .ref g15, .ref g16, .int 0, .ref g17, .ref g18, .ref g19, .ref g20, .ref g21, .ref g22, .ref g23, .ref g24, .ref g25, .ref g26, .int 0, .int 0, .int 0, .ref g27, .ref g28, .ref g29, .ref g30, .int 0, .int 0, .int 0, .int 0, .int 0, .int 0, .int 0, .int 0, .int 0, .int 0, .int 0, .int 0, .int 0, .int 0, .ref g31, .ref g32, .ref g33, .ref g34, .int 0, .int 0, .int 0, .int 0, .int 0, .int 0, .int 0, .ref g35, .ref g36, .ref g37, .int 0, .ref g38, .int 0, .int 0, .int 0, .int 0, .int 0, .int 0, .int 0, .int 0, .int 0, .int 0, .int 0, .int 0, .int 0, .int 0, .int 0, .int 0, .ref g39, .ref g40, .ref g41, .ref g42, .ref g43, .ref g44, .ref h1, .ref g45, .int 0])), (h1, .inl (cI, 4096, .inl f_5))] := hD1
        have hS := hS1
        clear hP1 hD1 hS1
        refine lv_iconst (v := 1) hx hb dX12_put_28 (by decide) ?_
        exact W.zret (v := 1) hx hb hr rfl (fun t ht hW => ⟨⟨1, (), rfl, by unfold sp_kX12_put; rw [if_pos c_1, if_neg c_2, if_pos c_3], trivial⟩, hS.F ht⟩) hS.2.2 dX12_put_29
      · refine lv_iconst (v := 0) hx hb dX12_put_17 (by decide) ?_
        exact W.zret (v := 0) hx hb hr rfl (fun t ht hW => ⟨⟨0, (), rfl, by unfold sp_kX12_put; rw [if_pos c_1, if_neg c_2, if_neg c_3], trivial⟩, hS.F ht⟩) hS.2.2 dX12_put_18
def vs_kX12_set : List Cond := Cond.code yX12_set cX12_set 3 (some .boolean) :: (([Cond.fieldLink RX12 150 "CompiledHouseModel" "register" "[I"] : List Cond) ++ (wsX120))
theorem i_kX12_set_X12 : ∀ w ∈ wsX120, w ∈ vs_kX12_set := fun w h => List.mem_cons_of_mem _ (List.mem_append_right _ h)
def sp_kX12_set (p0 : Int32) (p1 : Int32) : Int32 := if p0 < 1 then 0 else (if p0 ≤ 32 then 1 else (0))
set_option maxHeartbeats 4000000 in
set_option maxRecDepth 100000 in
theorem kX12_set (l : Launch) (dC : Nat → ClassId) (dI : Nat → Nat → Nat) (cI cB cZ : ClassId) (h0 : Nat) (h1 : Nat) (g0 : Nat) (g1 : Nat) (g2 : Nat) (g3 : Nat) (g4 : Nat) (g5 : Nat) (g6 : Nat) (g7 : Nat) (g8 : Nat) (g9 : Nat) (g10 : Nat) (g11 : Nat) (g12 : Nat) (g13 : Nat) (g14 : Nat) (g15 : Nat) (g16 : Nat) (g17 : Nat) (g18 : Nat) (g19 : Nat) (g20 : Nat) (g21 : Nat) (g22 : Nat) (g23 : Nat) (g24 : Nat) (g25 : Nat) (g26 : Nat) (g27 : Nat) (g28 : Nat) (g29 : Nat) (g30 : Nat) (g31 : Nat) (g32 : Nat) (g33 : Nat) (g34 : Nat) (g35 : Nat) (g36 : Nat) (g37 : Nat) (g38 : Nat) (g39 : Nat) (g40 : Nat) (g41 : Nat) (g42 : Nat) (g43 : Nat) (g44 : Nat) (g45 : Nat) (sz : Nat) (p0 : Int32) (p1 : Int32) : Met l yX12_set vs_kX12_set ({ frames := 0, cells := 0, slots := 0, locals := 0 }) (va_Pc [.ref h0, .int p0, .int p1] (fun U => U.heap.size = sz ∧ va_P (dC, dI) vwCl [(h0, .inr (12, [.ref g0, .ref g1, .int 0, .int 0, .ref g2, .ref g3, .ref g4, .int 0, .int 0, .ref g5, .ref g6, .ref g7, .ref g8, .int 0, .int 0, .int 0, .ref g9, .ref g10, .ref g11, .ref g12, .ref g13, .ref g14, .ref g15, .ref g16, .int 0, .ref g17, .ref g18, .ref g19, .ref g20, .ref g21, .ref g22, .ref g23, .ref g24, .ref g25, .ref g26, .int 0, .int 0, .int 0, .ref g27, .ref g28, .ref g29, .ref g30, .int 0, .int 0, .int 0, .int 0, .int 0, .int 0, .int 0, .int 0, .int 0, .int 0, .int 0, .int 0, .int 0, .int 0, .ref g31, .ref g32, .ref g33, .ref g34, .int 0, .int 0, .int 0, .int 0, .int 0, .int 0, .int 0, .ref g35, .ref g36, .ref g37, .int 0, .ref g38, .int 0, .int 0, .int 0, .int 0, .int 0, .int 0, .int 0, .int 0, .int 0, .int 0, .int 0, .int 0, .int 0, .int 0, .int 0, .int 0, .ref g39, .ref g40, .ref g41, .ref g42, .ref g43, .ref g44, .ref g45, .ref h1, .int 0])), (h1, .inl (cI, 33, .inl (fun _ => 0)))] U.heap ∧ va_K (dC, dI) vwCl (ty3 cI cB cZ) U ∧ va_D (fun _ => True) [(h0, .inr (12, [.ref g0, .ref g1, .int 0, .int 0, .ref g2, .ref g3, .ref g4, .int 0, .int 0, .ref g5, .ref g6, .ref g7, .ref g8, .int 0, .int 0, .int 0, .ref g9, .ref g10, .ref g11, .ref g12, .ref g13, .ref g14, .ref g15, .ref g16, .int 0, .ref g17, .ref g18, .ref g19, .ref g20, .ref g21, .ref g22, .ref g23, .ref g24, .ref g25, .ref g26, .int 0, .int 0, .int 0, .ref g27, .ref g28, .ref g29, .ref g30, .int 0, .int 0, .int 0, .int 0, .int 0, .int 0, .int 0, .int 0, .int 0, .int 0, .int 0, .int 0, .int 0, .int 0, .ref g31, .ref g32, .ref g33, .ref g34, .int 0, .int 0, .int 0, .int 0, .int 0, .int 0, .int 0, .ref g35, .ref g36, .ref g37, .int 0, .ref g38, .int 0, .int 0, .int 0, .int 0, .int 0, .int 0, .int 0, .int 0, .int 0, .int 0, .int 0, .int 0, .int 0, .int 0, .int 0, .int 0, .ref g39, .ref g40, .ref g41, .ref g42, .ref g43, .ref g44, .ref g45, .ref h1, .int 0])), (h1, .inl (cI, 33, .inl (fun _ => 0)))])) (va_Qi (fun (r : Int32) (_ : Unit) => r = sp_kX12_set p0 p1) (fun (_ : Unit) (_ : State) => True) (va_A [(h0, .inr (12, [.ref g0, .ref g1, .int 0, .int 0, .ref g2, .ref g3, .ref g4, .int 0, .int 0, .ref g5, .ref g6, .ref g7, .ref g8, .int 0, .int 0, .int 0, .ref g9, .ref g10, .ref g11, .ref g12, .ref g13, .ref g14, .ref g15, .ref g16, .int 0, .ref g17, .ref g18, .ref g19, .ref g20, .ref g21, .ref g22, .ref g23, .ref g24, .ref g25, .ref g26, .int 0, .int 0, .int 0, .ref g27, .ref g28, .ref g29, .ref g30, .int 0, .int 0, .int 0, .int 0, .int 0, .int 0, .int 0, .int 0, .int 0, .int 0, .int 0, .int 0, .int 0, .int 0, .ref g31, .ref g32, .ref g33, .ref g34, .int 0, .int 0, .int 0, .int 0, .int 0, .int 0, .int 0, .ref g35, .ref g36, .ref g37, .int 0, .ref g38, .int 0, .int 0, .int 0, .int 0, .int 0, .int 0, .int 0, .int 0, .int 0, .int 0, .int 0, .int 0, .int 0, .int 0, .int 0, .int 0, .ref g39, .ref g40, .ref g41, .ref g42, .ref g43, .ref g44, .ref g45, .ref h1, .int 0])), (h1, .inl (cI, 33, .inl (fun _ => 0)))] sz)) 0 0 (va_A [(h0, .inr (12, [.ref g0, .ref g1, .int 0, .int 0, .ref g2, .ref g3, .ref g4, .int 0, .int 0, .ref g5, .ref g6, .ref g7, .ref g8, .int 0, .int 0, .int 0, .ref g9, .ref g10, .ref g11, .ref g12, .ref g13, .ref g14, .ref g15, .ref g16, .int 0, .ref g17, .ref g18, .ref g19, .ref g20, .ref g21, .ref g22, .ref g23, .ref g24, .ref g25, .ref g26, .int 0, .int 0, .int 0, .ref g27, .ref g28, .ref g29, .ref g30, .int 0, .int 0, .int 0, .int 0, .int 0, .int 0, .int 0, .int 0, .int 0, .int 0, .int 0, .int 0, .int 0, .int 0, .ref g31, .ref g32, .ref g33, .ref g34, .int 0, .int 0, .int 0, .int 0, .int 0, .int 0, .int 0, .ref g35, .ref g36, .ref g37, .int 0, .ref g38, .int 0, .int 0, .int 0, .int 0, .int 0, .int 0, .int 0, .int 0, .int 0, .int 0, .int 0, .int 0, .int 0, .int 0, .int 0, .int 0, .ref g39, .ref g40, .ref g41, .ref g42, .ref g43, .ref g44, .ref g45, .ref h1, .int 0])), (h1, .inl (cI, 33, .inl (fun _ => 0)))] sz) := by
  refine Met.ofW (cc := cX12_set) (maxL := 3) (ret := (some .boolean)) (by decide) rfl ?_
  intro p e s m args below meth c s₁ B hml hv
  obtain ⟨rfl, hsz, hP, hK, hD0⟩ := hv
  have hx := B.exec
  have hb := B.bytes
  have hr := B.returns
  have hts := atoms_spec (ws := vs_kX12_set) B.pre
  have hown : s.vm.findClass RX12 = some m.cls := findClass_of_methodNamed B.named
  have hlocks := B.notSynchronized
  subst hsz
  have hD := hD0.self (sz := s.heap.size)
  clear hD0
  generalize hAe : va_A [(h0, .inr (12, [.ref g0, .ref g1, .int 0, .int 0, .ref g2, .ref g3, .ref g4, .int 0, .int 0, .ref g5, .ref g6, .ref g7, .ref g8, .int 0, .int 0, .int 0, .ref g9, .ref g10, .ref g11, .ref g12, .ref g13, .ref g14, .ref g15, .ref g16, .int 0, .ref g17, .ref g18, .ref g19, .ref g20, .ref g21, .ref g22, .ref g23, .ref g24, .ref g25, .ref g26, .int 0, .int 0, .int 0, .ref g27, .ref g28, .ref g29, .ref g30, .int 0, .int 0, .int 0, .int 0, .int 0, .int 0, .int 0, .int 0, .int 0, .int 0, .int 0, .int 0, .int 0, .int 0, .ref g31, .ref g32, .ref g33, .ref g34, .int 0, .int 0, .int 0, .int 0, .int 0, .int 0, .int 0, .ref g35, .ref g36, .ref g37, .int 0, .ref g38, .int 0, .int 0, .int 0, .int 0, .int 0, .int 0, .int 0, .int 0, .int 0, .int 0, .int 0, .int 0, .int 0, .int 0, .int 0, .int 0, .ref g39, .ref g40, .ref g41, .ref g42, .ref g43, .ref g44, .ref g45, .ref h1, .int 0])), (h1, .inl (cI, 33, .inl (fun _ => 0)))] s.heap.size = A at hD ⊢
  have hA : ∀ q : Nat, s.heap.size ≤ q → A q := fun q h => by rw [← hAe]; exact Or.inr h
  clear hAe
  have hS : va_S A s.heap s.heap [] := va_S.rf
  have hl := lv_entry ([.ref h0, .int p0, .int p1]) (n := 3) (Nat.le_of_ble_eq_true rfl)
  rw [lg_entry_eq]
  generalize (lg_sl ([.ref h0, .int p0, .int p1]) ++ List.replicate (3 - (lg_sl ([.ref h0, .int p0, .int p1])).length) Slot.unset).toArray = ls at hl ⊢
  replace hl : lv_has ls 3 [(0, .ref h0), (1, .int p0), (2, .int p1)] := hl
  refine my_st (fun H locs eH el => ?_)
  replace hP : va_P (dC, dI) vwCl [(h0, .inr (12, [.ref g0, .ref g1, .int 0, .int 0, .ref g2, .ref g3, .ref g4, .int 0, .int 0, .ref g5, .ref g6, .ref g7, .ref g8, .int 0, .int 0, .int 0, .ref g9, .ref g10, .ref g11, .ref g12, .ref g13, .ref g14, .ref g15, .ref g16, .int 0, .ref g17, .ref g18, .ref g19, .ref g20, .ref g21, .ref g22, .ref g23, .ref g24, .ref g25, .ref g26, .int 0, .int 0, .int 0, .ref g27, .ref g28, .ref g29, .ref g30, .int 0, .int 0, .int 0, .int 0, .int 0, .int 0, .int 0, .int 0, .int 0, .int 0, .int 0, .int 0, .int 0, .int 0, .ref g31, .ref g32, .ref g33, .ref g34, .int 0, .int 0, .int 0, .int 0, .int 0, .int 0, .int 0, .ref g35, .ref g36, .ref g37, .int 0, .ref g38, .int 0, .int 0, .int 0, .int 0, .int 0, .int 0, .int 0, .int 0, .int 0, .int 0, .int 0, .int 0, .int 0, .int 0, .int 0, .int 0, .ref g39, .ref g40, .ref g41, .ref g42, .ref g43, .ref g44, .ref g45, .ref h1, .int 0])), (h1, .inl (cI, 33, .inl (fun _ => 0)))] H := by rw [eH]; exact hP
  replace hS : va_S A s.heap H locs := by rw [eH, el]; exact hS
  clear eH el
  refine lv_iload_n hx hb dX12_set_0 rfl (lv_at hl 1 rfl) ?_
  refine lv_iconst (v := 1) hx hb dX12_set_1 (by decide) ?_
  refine lv_icmp_lt (tgt := 11) hx hb dX12_set_2 (by decide) (fun c_1 => ?_) (fun c_1 => ?_)
  · refine lv_iconst (v := 0) hx hb dX12_set_11 (by decide) ?_
    exact W.zret (v := 0) hx hb hr rfl (fun t ht hW => ⟨⟨0, (), rfl, by unfold sp_kX12_set; rw [if_pos c_1], trivial⟩, hS.F ht⟩) hS.2.2 dX12_set_12
  · refine lv_iload_n hx hb dX12_set_5 rfl (lv_at hl 1 rfl) ?_
    refine lv_bipush (v := 32) hx hb dX12_set_6 (by decide) ?_
    refine lv_icmp_le (tgt := 13) hx hb dX12_set_8 (by decide) (fun c_2 => ?_) (fun c_2 => ?_)
    · refine lv_aload_n hx hb dX12_set_13 rfl (lv_at hl 0 rfl) ?_
      refine va_get (D := (dC, dI)) (ci := 12) (v := .ref h1) (C := RX12) (T := TX12) (N := 97) hx hb hts i_kX12_set_X12 hown hK hP 0 rfl rfl 95 (by decide) (hts (Cond.fieldLink RX12 150 "CompiledHouseModel" "register" "[I") (List.mem_cons_of_mem _ (List.mem_append_left _ (List.mem_of_getElem? (i := 0) rfl)))) (fun _ h9 => h9) rfl dX12_set_14 ?_
      refine lv_iload_n hx hb dX12_set_17 rfl (lv_at hl 1 rfl) ?_
      refine lv_iload_n hx hb dX12_set_18 rfl (lv_at hl 2 rfl) ?_
      refine my_iast hx hb hK hP hD hS 1 0 rfl rfl (by rw [vp_in_iff]; have h1 := c_1; have h2 := c_2; simp only [my_lt, my_le, show (1 : Int32).toInt = 1 by decide, show (32 : Int32).toInt = 32 by decide] at h1 h2; omega) dX12_set_19 (fun f_4 H_3 locs hP1 hD1 hS1 => ?_)
      clear hP hD hS
      have hP : va_P (dC, dI) vwCl [(h0, .inr (12, [.ref g0, .ref g1, .int 0, .int 0, .ref g2, .ref g3, .ref g4, .int 0, .int 0, .ref g5, .ref g6, .ref g7, .ref g8, .int 0, .int 0, .int 0, .ref g9, .ref g10, .ref g11, .ref g12, .ref g13, .ref g14, .ref g15, .ref g16, .int 0, .ref g17, .ref g18, .ref g19, .ref g20, .ref g21, .ref g22, .ref g23, .ref g24, .ref g25, .ref g26, .int 0, .int 0, .int 0, .ref g27, .ref g28, .ref g29, .ref g30, .int 0, .int 0, .int 0, .int 0, .int 0, .int 0, .int 0, .int 0, .int 0, .int 0, .int 0, .int 0, .int 0, .int 0, .ref g31, .ref g32, .ref g33, .ref g34, .int 0, .int 0, .int 0, .int 0, .int 0, .int 0, .int 0, .ref g35, .ref g36, .ref g37, .int 0, .ref g38, .int 0, .int 0, .int 0, .int 0, .int 0, .int 0, .int 0, .int 0, .int 0, .int 0, .int 0, .int 0, .int 0, .int 0, .int 0, .int 0, .ref g39, .ref g40, .ref g41, .ref g42, .ref g43, .ref g44, .ref g45, .ref h1, .int 0])), (h1, .inl (cI, 33, .inl f_4))] H_3 := hP1
      have hD : va_D A [(h0, .inr (12, [.ref g0, .ref g1, .int 0, .int 0, .ref g2, .ref g3, .ref g4, .int 0, .int 0, .ref g5, .ref g6, .ref g7, .ref g8, .int 0, .int 0, .int 0, .ref g9, .ref g10, .ref g11, .ref g12, .ref g13, .ref g14, .ref g15, .ref g16, .int 0, .ref g17, .ref g18, .ref g19, .ref g20, .ref g21, .ref g22, .ref g23, .ref g24, .ref g25, .ref g26, .int 0, .int 0, .int 0, .ref g27, .ref g28, .ref g29, .ref g30, .int 0, .int 0, .int 0, .int 0, .int 0, .int 0, .int 0, .int 0, .int 0, .int 0, .int 0, .int 0, .int 0, .int 0, .ref g31, .ref g32, .ref g33, .ref g34, .int 0, .int 0, .int 0, .int 0, .int 0, .int 0, .int 0, .ref g35, .ref g36, .ref g37, .int 0, .ref g38, .int 0, .int 0, .int 0, .int 0, .int 0, .int 0, .int 0, .int 0, .int 0, .int 0, .int 0, .int 0, .int 0, .int 0, .int 0, .int 0, .ref g39, .ref g40, .ref g41, .ref g42, .ref g43, .ref g44, .ref g45, .ref h1, .int 0])), (h1, .inl (cI, 33, .inl f_4))] := hD1
      have hS := hS1
      clear hP1 hD1 hS1
      refine lv_iconst (v := 1) hx hb dX12_set_20 (by decide) ?_
      exact W.zret (v := 1) hx hb hr rfl (fun t ht hW => ⟨⟨1, (), rfl, by unfold sp_kX12_set; rw [if_neg c_1, if_pos c_2], trivial⟩, hS.F ht⟩) hS.2.2 dX12_set_21
    · refine lv_iconst (v := 0) hx hb dX12_set_11 (by decide) ?_
      exact W.zret (v := 0) hx hb hr rfl (fun t ht hW => ⟨⟨0, (), rfl, by unfold sp_kX12_set; rw [if_neg c_1, if_neg c_2], trivial⟩, hS.F ht⟩) hS.2.2 dX12_set_12
def vs_kX12_isOut : List Cond := Cond.code yX12_isOut cX12_isOut 1 (some .boolean) :: (([] : List Cond) ++ (([] : List Cond)))
set_option maxHeartbeats 4000000 in
set_option maxRecDepth 100000 in
theorem kX12_isOut (l : Launch) (dC : Nat → ClassId) (dI : Nat → Nat → Nat) (cI cB cZ : ClassId) (sz : Nat) : Met l yX12_isOut vs_kX12_isOut ({ frames := 0, cells := 0, slots := 0, locals := 0 }) (va_Pc [.int 0] (fun U => U.heap.size = sz ∧ va_P (dC, dI) vwCl [] U.heap ∧ va_K (dC, dI) vwCl (ty3 cI cB cZ) U ∧ va_D (fun _ => True) [])) (va_Qi (fun (r : Int32) (_ : Unit) => r = 0) (fun (_ : Unit) (t : State) => va_P (dC, dI) vwCl [] t.heap ∧ va_K (dC, dI) vwCl (ty3 cI cB cZ) t ∧ va_D (va_A [] sz) []) (va_A [] sz)) 0 0 (va_A [] sz) := by
  refine Met.ofW (cc := cX12_isOut) (maxL := 1) (ret := (some .boolean)) (by decide) rfl ?_
  intro p e s m args below meth c s₁ B hml hv
  obtain ⟨rfl, hsz, hP, hK, hD0⟩ := hv
  have hx := B.exec
  have hb := B.bytes
  have hr := B.returns
  have hts := atoms_spec (ws := vs_kX12_isOut) B.pre
  have hown : s.vm.findClass RX12 = some m.cls := findClass_of_methodNamed B.named
  have hlocks := B.notSynchronized
  subst hsz
  have hD := hD0.self (sz := s.heap.size)
  clear hD0
  generalize hAe : va_A [] s.heap.size = A at hD ⊢
  have hA : ∀ q : Nat, s.heap.size ≤ q → A q := fun q h => by rw [← hAe]; exact Or.inr h
  clear hAe
  have hS : va_S A s.heap s.heap [] := va_S.rf
  have hl := lv_entry ([.int 0]) (n := 1) (Nat.le_of_ble_eq_true rfl)
  rw [lg_entry_eq]
  generalize (lg_sl ([.int 0]) ++ List.replicate (1 - (lg_sl ([.int 0])).length) Slot.unset).toArray = ls at hl ⊢
  replace hl : lv_has ls 1 [(0, .int 0)] := hl
  refine my_st (fun H locs eH el => ?_)
  replace hP : va_P (dC, dI) vwCl [] H := by rw [eH]; exact hP
  replace hS : va_S A s.heap H locs := by rw [eH, el]; exact hS
  clear eH el
  refine lv_iload_n hx hb dX12_isOut_0 rfl (lv_at hl 0 rfl) ?_
  refine lv_if_lt (tgt := 11) hx hb dX12_isOut_1 (by decide) (fun c_0 => absurd c_0 (by decide)) (fun _ => ?_)
  refine lv_iload_n hx hb dX12_isOut_4 rfl (lv_at hl 0 rfl) ?_
  refine lv_sipush (v := 16383) hx hb dX12_isOut_5 (by decide) ?_
  refine lv_icmp_le (tgt := 15) hx hb dX12_isOut_8 (by decide) (fun _ => ?_) (fun c_0 => absurd (by decide) c_0)
  refine lv_iconst (v := 0) hx hb dX12_isOut_15 (by decide) ?_
  have hP9 := hP.sub (ws' := []) [] rfl
  have hD9 := hD.sub (ws' := []) [] (by decide) rfl
  refine W.widen (k := 0) (n := 0) (by decide) (by decide) ?_
  exact W.zret (v := 0) hx hb hr rfl (fun t ht hW => ⟨⟨0, (), rfl, rfl, by rw [ht]; exact hP9, va_K.moved hW.alike hK, hD9⟩, hS.F ht⟩) hS.2.2 dX12_isOut_16
def vs_kX12_part : List Cond := Cond.code yX12_part cX12_part 3 (some .int) :: (([] : List Cond) ++ (([] : List Cond)))
set_option maxHeartbeats 4000000 in
set_option maxRecDepth 100000 in
theorem kX12_part (l : Launch) (dC : Nat → ClassId) (dI : Nat → Nat → Nat) (cI cB cZ : ClassId) (sz : Nat) : Met l yX12_part vs_kX12_part ({ frames := 0, cells := 0, slots := 0, locals := 0 }) (va_Pc [.int 0, .int 7, .int 5] (fun U => U.heap.size = sz ∧ va_P (dC, dI) vwCl [] U.heap ∧ va_K (dC, dI) vwCl (ty3 cI cB cZ) U ∧ va_D (fun _ => True) [])) (va_Qi (fun (r : Int32) (_ : Unit) => r = 0) (fun (_ : Unit) (t : State) => va_P (dC, dI) vwCl [] t.heap ∧ va_K (dC, dI) vwCl (ty3 cI cB cZ) t ∧ va_D (va_A [] sz) []) (va_A [] sz)) 0 0 (va_A [] sz) := by
  refine Met.ofW (cc := cX12_part) (maxL := 3) (ret := (some .int)) (by decide) rfl ?_
  intro p e s m args below meth c s₁ B hml hv
  obtain ⟨rfl, hsz, hP, hK, hD0⟩ := hv
  have hx := B.exec
  have hb := B.bytes
  have hr := B.returns
  have hts := atoms_spec (ws := vs_kX12_part) B.pre
  have hown : s.vm.findClass RX12 = some m.cls := findClass_of_methodNamed B.named
  have hlocks := B.notSynchronized
  subst hsz
  have hD := hD0.self (sz := s.heap.size)
  clear hD0
  generalize hAe : va_A [] s.heap.size = A at hD ⊢
  have hA : ∀ q : Nat, s.heap.size ≤ q → A q := fun q h => by rw [← hAe]; exact Or.inr h
  clear hAe
  have hS : va_S A s.heap s.heap [] := va_S.rf
  have hl := lv_entry ([.int 0, .int 7, .int 5]) (n := 3) (Nat.le_of_ble_eq_true rfl)
  rw [lg_entry_eq]
  generalize (lg_sl ([.int 0, .int 7, .int 5]) ++ List.replicate (3 - (lg_sl ([.int 0, .int 7, .int 5])).length) Slot.unset).toArray = ls at hl ⊢
  replace hl : lv_has ls 3 [(0, .int 0), (1, .int 7), (2, .int 5)] := hl
  refine my_st (fun H locs eH el => ?_)
  replace hP : va_P (dC, dI) vwCl [] H := by rw [eH]; exact hP
  replace hS : va_S A s.heap H locs := by rw [eH, el]; exact hS
  clear eH el
  refine lv_iload_n hx hb dX12_part_0 rfl (lv_at hl 0 rfl) ?_
  refine lv_iload_n hx hb dX12_part_1 rfl (lv_at hl 1 rfl) ?_
  refine lv_iushr hx hb dX12_part_2 rfl ?_
  refine my_top 0 (by decide) ?_
  refine lv_iconst (v := 1) hx hb dX12_part_3 (by decide) ?_
  refine lv_iload_n hx hb dX12_part_4 rfl (lv_at hl 2 rfl) ?_
  refine lv_ishl hx hb dX12_part_5 ?_
  refine my_top 32 (by decide) ?_
  refine lv_iconst (v := 1) hx hb dX12_part_6 (by decide) ?_
  refine lv_isub hx hb dX12_part_7 ?_
  refine my_top 31 (by decide) ?_
  refine lv_iand hx hb dX12_part_8 ?_
  refine my_top 0 (by decide) ?_
  have hP9 := hP.sub (ws' := []) [] rfl
  have hD9 := hD.sub (ws' := []) [] (by decide) rfl
  refine W.widen (k := 0) (n := 0) (by decide) (by decide) ?_
  exact W.iret (v := 0) hx hb hr (fun t ht hW => ⟨⟨0, (), rfl, rfl, by rw [ht]; exact hP9, va_K.moved hW.alike hK, hD9⟩, hS.F ht⟩) hS.2.2 dX12_part_9
def vs_kX12_part_v1 : List Cond := Cond.code yX12_part cX12_part 3 (some .int) :: (([] : List Cond) ++ (([] : List Cond)))
set_option maxHeartbeats 4000000 in
set_option maxRecDepth 100000 in
theorem kX12_part_v1 (l : Launch) (dC : Nat → ClassId) (dI : Nat → Nat → Nat) (cI cB cZ : ClassId) (sz : Nat) : Met l yX12_part vs_kX12_part_v1 ({ frames := 0, cells := 0, slots := 0, locals := 0 }) (va_Pc [.int 0, .int 12, .int 3] (fun U => U.heap.size = sz ∧ va_P (dC, dI) vwCl [] U.heap ∧ va_K (dC, dI) vwCl (ty3 cI cB cZ) U ∧ va_D (fun _ => True) [])) (va_Qi (fun (r : Int32) (_ : Unit) => r = 0) (fun (_ : Unit) (t : State) => va_P (dC, dI) vwCl [] t.heap ∧ va_K (dC, dI) vwCl (ty3 cI cB cZ) t ∧ va_D (va_A [] sz) []) (va_A [] sz)) 0 0 (va_A [] sz) := by
  refine Met.ofW (cc := cX12_part) (maxL := 3) (ret := (some .int)) (by decide) rfl ?_
  intro p e s m args below meth c s₁ B hml hv
  obtain ⟨rfl, hsz, hP, hK, hD0⟩ := hv
  have hx := B.exec
  have hb := B.bytes
  have hr := B.returns
  have hts := atoms_spec (ws := vs_kX12_part_v1) B.pre
  have hown : s.vm.findClass RX12 = some m.cls := findClass_of_methodNamed B.named
  have hlocks := B.notSynchronized
  subst hsz
  have hD := hD0.self (sz := s.heap.size)
  clear hD0
  generalize hAe : va_A [] s.heap.size = A at hD ⊢
  have hA : ∀ q : Nat, s.heap.size ≤ q → A q := fun q h => by rw [← hAe]; exact Or.inr h
  clear hAe
  have hS : va_S A s.heap s.heap [] := va_S.rf
  have hl := lv_entry ([.int 0, .int 12, .int 3]) (n := 3) (Nat.le_of_ble_eq_true rfl)
  rw [lg_entry_eq]
  generalize (lg_sl ([.int 0, .int 12, .int 3]) ++ List.replicate (3 - (lg_sl ([.int 0, .int 12, .int 3])).length) Slot.unset).toArray = ls at hl ⊢
  replace hl : lv_has ls 3 [(0, .int 0), (1, .int 12), (2, .int 3)] := hl
  refine my_st (fun H locs eH el => ?_)
  replace hP : va_P (dC, dI) vwCl [] H := by rw [eH]; exact hP
  replace hS : va_S A s.heap H locs := by rw [eH, el]; exact hS
  clear eH el
  refine lv_iload_n hx hb dX12_part_0 rfl (lv_at hl 0 rfl) ?_
  refine lv_iload_n hx hb dX12_part_1 rfl (lv_at hl 1 rfl) ?_
  refine lv_iushr hx hb dX12_part_2 rfl ?_
  refine my_top 0 (by decide) ?_
  refine lv_iconst (v := 1) hx hb dX12_part_3 (by decide) ?_
  refine lv_iload_n hx hb dX12_part_4 rfl (lv_at hl 2 rfl) ?_
  refine lv_ishl hx hb dX12_part_5 ?_
  refine my_top 8 (by decide) ?_
  refine lv_iconst (v := 1) hx hb dX12_part_6 (by decide) ?_
  refine lv_isub hx hb dX12_part_7 ?_
  refine my_top 7 (by decide) ?_
  refine lv_iand hx hb dX12_part_8 ?_
  refine my_top 0 (by decide) ?_
  have hP9 := hP.sub (ws' := []) [] rfl
  have hD9 := hD.sub (ws' := []) [] (by decide) rfl
  refine W.widen (k := 0) (n := 0) (by decide) (by decide) ?_
  exact W.iret (v := 0) hx hb hr (fun t ht hW => ⟨⟨0, (), rfl, rfl, by rw [ht]; exact hP9, va_K.moved hW.alike hK, hD9⟩, hS.F ht⟩) hS.2.2 dX12_part_9
def vs_kX12_part_v2 : List Cond := Cond.code yX12_part cX12_part 3 (some .int) :: (([] : List Cond) ++ (([] : List Cond)))
set_option maxHeartbeats 4000000 in
set_option maxRecDepth 100000 in
theorem kX12_part_v2 (l : Launch) (dC : Nat → ClassId) (dI : Nat → Nat → Nat) (cI cB cZ : ClassId) (sz : Nat) : Met l yX12_part vs_kX12_part_v2 ({ frames := 0, cells := 0, slots := 0, locals := 0 }) (va_Pc [.int 0, .int 25, .int 7] (fun U => U.heap.size = sz ∧ va_P (dC, dI) vwCl [] U.heap ∧ va_K (dC, dI) vwCl (ty3 cI cB cZ) U ∧ va_D (fun _ => True) [])) (va_Qi (fun (r : Int32) (_ : Unit) => r = 0) (fun (_ : Unit) (t : State) => va_P (dC, dI) vwCl [] t.heap ∧ va_K (dC, dI) vwCl (ty3 cI cB cZ) t ∧ va_D (va_A [] sz) []) (va_A [] sz)) 0 0 (va_A [] sz) := by
  refine Met.ofW (cc := cX12_part) (maxL := 3) (ret := (some .int)) (by decide) rfl ?_
  intro p e s m args below meth c s₁ B hml hv
  obtain ⟨rfl, hsz, hP, hK, hD0⟩ := hv
  have hx := B.exec
  have hb := B.bytes
  have hr := B.returns
  have hts := atoms_spec (ws := vs_kX12_part_v2) B.pre
  have hown : s.vm.findClass RX12 = some m.cls := findClass_of_methodNamed B.named
  have hlocks := B.notSynchronized
  subst hsz
  have hD := hD0.self (sz := s.heap.size)
  clear hD0
  generalize hAe : va_A [] s.heap.size = A at hD ⊢
  have hA : ∀ q : Nat, s.heap.size ≤ q → A q := fun q h => by rw [← hAe]; exact Or.inr h
  clear hAe
  have hS : va_S A s.heap s.heap [] := va_S.rf
  have hl := lv_entry ([.int 0, .int 25, .int 7]) (n := 3) (Nat.le_of_ble_eq_true rfl)
  rw [lg_entry_eq]
  generalize (lg_sl ([.int 0, .int 25, .int 7]) ++ List.replicate (3 - (lg_sl ([.int 0, .int 25, .int 7])).length) Slot.unset).toArray = ls at hl ⊢
  replace hl : lv_has ls 3 [(0, .int 0), (1, .int 25), (2, .int 7)] := hl
  refine my_st (fun H locs eH el => ?_)
  replace hP : va_P (dC, dI) vwCl [] H := by rw [eH]; exact hP
  replace hS : va_S A s.heap H locs := by rw [eH, el]; exact hS
  clear eH el
  refine lv_iload_n hx hb dX12_part_0 rfl (lv_at hl 0 rfl) ?_
  refine lv_iload_n hx hb dX12_part_1 rfl (lv_at hl 1 rfl) ?_
  refine lv_iushr hx hb dX12_part_2 rfl ?_
  refine my_top 0 (by decide) ?_
  refine lv_iconst (v := 1) hx hb dX12_part_3 (by decide) ?_
  refine lv_iload_n hx hb dX12_part_4 rfl (lv_at hl 2 rfl) ?_
  refine lv_ishl hx hb dX12_part_5 ?_
  refine my_top 128 (by decide) ?_
  refine lv_iconst (v := 1) hx hb dX12_part_6 (by decide) ?_
  refine lv_isub hx hb dX12_part_7 ?_
  refine my_top 127 (by decide) ?_
  refine lv_iand hx hb dX12_part_8 ?_
  refine my_top 0 (by decide) ?_
  have hP9 := hP.sub (ws' := []) [] rfl
  have hD9 := hD.sub (ws' := []) [] (by decide) rfl
  refine W.widen (k := 0) (n := 0) (by decide) (by decide) ?_
  exact W.iret (v := 0) hx hb hr (fun t ht hW => ⟨⟨0, (), rfl, rfl, by rw [ht]; exact hP9, va_K.moved hW.alike hK, hD9⟩, hS.F ht⟩) hS.2.2 dX12_part_9
def vs_kX12_part_v3 : List Cond := Cond.code yX12_part cX12_part 3 (some .int) :: (([] : List Cond) ++ (([] : List Cond)))
set_option maxHeartbeats 4000000 in
set_option maxRecDepth 100000 in
theorem kX12_part_v3 (l : Launch) (dC : Nat → ClassId) (dI : Nat → Nat → Nat) (cI cB cZ : ClassId) (sz : Nat) : Met l yX12_part vs_kX12_part_v3 ({ frames := 0, cells := 0, slots := 0, locals := 0 }) (va_Pc [.int 0, .int 15, .int 5] (fun U => U.heap.size = sz ∧ va_P (dC, dI) vwCl [] U.heap ∧ va_K (dC, dI) vwCl (ty3 cI cB cZ) U ∧ va_D (fun _ => True) [])) (va_Qi (fun (r : Int32) (_ : Unit) => r = 0) (fun (_ : Unit) (t : State) => va_P (dC, dI) vwCl [] t.heap ∧ va_K (dC, dI) vwCl (ty3 cI cB cZ) t ∧ va_D (va_A [] sz) []) (va_A [] sz)) 0 0 (va_A [] sz) := by
  refine Met.ofW (cc := cX12_part) (maxL := 3) (ret := (some .int)) (by decide) rfl ?_
  intro p e s m args below meth c s₁ B hml hv
  obtain ⟨rfl, hsz, hP, hK, hD0⟩ := hv
  have hx := B.exec
  have hb := B.bytes
  have hr := B.returns
  have hts := atoms_spec (ws := vs_kX12_part_v3) B.pre
  have hown : s.vm.findClass RX12 = some m.cls := findClass_of_methodNamed B.named
  have hlocks := B.notSynchronized
  subst hsz
  have hD := hD0.self (sz := s.heap.size)
  clear hD0
  generalize hAe : va_A [] s.heap.size = A at hD ⊢
  have hA : ∀ q : Nat, s.heap.size ≤ q → A q := fun q h => by rw [← hAe]; exact Or.inr h
  clear hAe
  have hS : va_S A s.heap s.heap [] := va_S.rf
  have hl := lv_entry ([.int 0, .int 15, .int 5]) (n := 3) (Nat.le_of_ble_eq_true rfl)
  rw [lg_entry_eq]
  generalize (lg_sl ([.int 0, .int 15, .int 5]) ++ List.replicate (3 - (lg_sl ([.int 0, .int 15, .int 5])).length) Slot.unset).toArray = ls at hl ⊢
  replace hl : lv_has ls 3 [(0, .int 0), (1, .int 15), (2, .int 5)] := hl
  refine my_st (fun H locs eH el => ?_)
  replace hP : va_P (dC, dI) vwCl [] H := by rw [eH]; exact hP
  replace hS : va_S A s.heap H locs := by rw [eH, el]; exact hS
  clear eH el
  refine lv_iload_n hx hb dX12_part_0 rfl (lv_at hl 0 rfl) ?_
  refine lv_iload_n hx hb dX12_part_1 rfl (lv_at hl 1 rfl) ?_
  refine lv_iushr hx hb dX12_part_2 rfl ?_
  refine my_top 0 (by decide) ?_
  refine lv_iconst (v := 1) hx hb dX12_part_3 (by decide) ?_
  refine lv_iload_n hx hb dX12_part_4 rfl (lv_at hl 2 rfl) ?_
  refine lv_ishl hx hb dX12_part_5 ?_
  refine my_top 32 (by decide) ?_
  refine lv_iconst (v := 1) hx hb dX12_part_6 (by decide) ?_
  refine lv_isub hx hb dX12_part_7 ?_
  refine my_top 31 (by decide) ?_
  refine lv_iand hx hb dX12_part_8 ?_
  refine my_top 0 (by decide) ?_
  have hP9 := hP.sub (ws' := []) [] rfl
  have hD9 := hD.sub (ws' := []) [] (by decide) rfl
  refine W.widen (k := 0) (n := 0) (by decide) (by decide) ?_
  exact W.iret (v := 0) hx hb hr (fun t ht hW => ⟨⟨0, (), rfl, rfl, by rw [ht]; exact hP9, va_K.moved hW.alike hK, hD9⟩, hS.F ht⟩) hS.2.2 dX12_part_9
def vs_kX12_part_v4 : List Cond := Cond.code yX12_part cX12_part 3 (some .int) :: (([] : List Cond) ++ (([] : List Cond)))
set_option maxHeartbeats 4000000 in
set_option maxRecDepth 100000 in
theorem kX12_part_v4 (l : Launch) (dC : Nat → ClassId) (dI : Nat → Nat → Nat) (cI cB cZ : ClassId) (sz : Nat) : Met l yX12_part vs_kX12_part_v4 ({ frames := 0, cells := 0, slots := 0, locals := 0 }) (va_Pc [.int 0, .int 20, .int 5] (fun U => U.heap.size = sz ∧ va_P (dC, dI) vwCl [] U.heap ∧ va_K (dC, dI) vwCl (ty3 cI cB cZ) U ∧ va_D (fun _ => True) [])) (va_Qi (fun (r : Int32) (_ : Unit) => r = 0) (fun (_ : Unit) (t : State) => va_P (dC, dI) vwCl [] t.heap ∧ va_K (dC, dI) vwCl (ty3 cI cB cZ) t ∧ va_D (va_A [] sz) []) (va_A [] sz)) 0 0 (va_A [] sz) := by
  refine Met.ofW (cc := cX12_part) (maxL := 3) (ret := (some .int)) (by decide) rfl ?_
  intro p e s m args below meth c s₁ B hml hv
  obtain ⟨rfl, hsz, hP, hK, hD0⟩ := hv
  have hx := B.exec
  have hb := B.bytes
  have hr := B.returns
  have hts := atoms_spec (ws := vs_kX12_part_v4) B.pre
  have hown : s.vm.findClass RX12 = some m.cls := findClass_of_methodNamed B.named
  have hlocks := B.notSynchronized
  subst hsz
  have hD := hD0.self (sz := s.heap.size)
  clear hD0
  generalize hAe : va_A [] s.heap.size = A at hD ⊢
  have hA : ∀ q : Nat, s.heap.size ≤ q → A q := fun q h => by rw [← hAe]; exact Or.inr h
  clear hAe
  have hS : va_S A s.heap s.heap [] := va_S.rf
  have hl := lv_entry ([.int 0, .int 20, .int 5]) (n := 3) (Nat.le_of_ble_eq_true rfl)
  rw [lg_entry_eq]
  generalize (lg_sl ([.int 0, .int 20, .int 5]) ++ List.replicate (3 - (lg_sl ([.int 0, .int 20, .int 5])).length) Slot.unset).toArray = ls at hl ⊢
  replace hl : lv_has ls 3 [(0, .int 0), (1, .int 20), (2, .int 5)] := hl
  refine my_st (fun H locs eH el => ?_)
  replace hP : va_P (dC, dI) vwCl [] H := by rw [eH]; exact hP
  replace hS : va_S A s.heap H locs := by rw [eH, el]; exact hS
  clear eH el
  refine lv_iload_n hx hb dX12_part_0 rfl (lv_at hl 0 rfl) ?_
  refine lv_iload_n hx hb dX12_part_1 rfl (lv_at hl 1 rfl) ?_
  refine lv_iushr hx hb dX12_part_2 rfl ?_
  refine my_top 0 (by decide) ?_
  refine lv_iconst (v := 1) hx hb dX12_part_3 (by decide) ?_
  refine lv_iload_n hx hb dX12_part_4 rfl (lv_at hl 2 rfl) ?_
  refine lv_ishl hx hb dX12_part_5 ?_
  refine my_top 32 (by decide) ?_
  refine lv_iconst (v := 1) hx hb dX12_part_6 (by decide) ?_
  refine lv_isub hx hb dX12_part_7 ?_
  refine my_top 31 (by decide) ?_
  refine lv_iand hx hb dX12_part_8 ?_
  refine my_top 0 (by decide) ?_
  have hP9 := hP.sub (ws' := []) [] rfl
  have hD9 := hD.sub (ws' := []) [] (by decide) rfl
  refine W.widen (k := 0) (n := 0) (by decide) (by decide) ?_
  exact W.iret (v := 0) hx hb hr (fun t ht hW => ⟨⟨0, (), rfl, rfl, by rw [ht]; exact hP9, va_K.moved hW.alike hK, hD9⟩, hS.F ht⟩) hS.2.2 dX12_part_9
def vs_kX12_part_v5 : List Cond := Cond.code yX12_part cX12_part 3 (some .int) :: (([] : List Cond) ++ (([] : List Cond)))
set_option maxHeartbeats 4000000 in
set_option maxRecDepth 100000 in
theorem kX12_part_v5 (l : Launch) (dC : Nat → ClassId) (dI : Nat → Nat → Nat) (cI cB cZ : ClassId) (sz : Nat) : Met l yX12_part vs_kX12_part_v5 ({ frames := 0, cells := 0, slots := 0, locals := 0 }) (va_Pc [.int 0, .int 0, .int 7] (fun U => U.heap.size = sz ∧ va_P (dC, dI) vwCl [] U.heap ∧ va_K (dC, dI) vwCl (ty3 cI cB cZ) U ∧ va_D (fun _ => True) [])) (va_Qi (fun (r : Int32) (_ : Unit) => r = 0) (fun (_ : Unit) (t : State) => va_P (dC, dI) vwCl [] t.heap ∧ va_K (dC, dI) vwCl (ty3 cI cB cZ) t ∧ va_D (va_A [] sz) []) (va_A [] sz)) 0 0 (va_A [] sz) := by
  refine Met.ofW (cc := cX12_part) (maxL := 3) (ret := (some .int)) (by decide) rfl ?_
  intro p e s m args below meth c s₁ B hml hv
  obtain ⟨rfl, hsz, hP, hK, hD0⟩ := hv
  have hx := B.exec
  have hb := B.bytes
  have hr := B.returns
  have hts := atoms_spec (ws := vs_kX12_part_v5) B.pre
  have hown : s.vm.findClass RX12 = some m.cls := findClass_of_methodNamed B.named
  have hlocks := B.notSynchronized
  subst hsz
  have hD := hD0.self (sz := s.heap.size)
  clear hD0
  generalize hAe : va_A [] s.heap.size = A at hD ⊢
  have hA : ∀ q : Nat, s.heap.size ≤ q → A q := fun q h => by rw [← hAe]; exact Or.inr h
  clear hAe
  have hS : va_S A s.heap s.heap [] := va_S.rf
  have hl := lv_entry ([.int 0, .int 0, .int 7]) (n := 3) (Nat.le_of_ble_eq_true rfl)
  rw [lg_entry_eq]
  generalize (lg_sl ([.int 0, .int 0, .int 7]) ++ List.replicate (3 - (lg_sl ([.int 0, .int 0, .int 7])).length) Slot.unset).toArray = ls at hl ⊢
  replace hl : lv_has ls 3 [(0, .int 0), (1, .int 0), (2, .int 7)] := hl
  refine my_st (fun H locs eH el => ?_)
  replace hP : va_P (dC, dI) vwCl [] H := by rw [eH]; exact hP
  replace hS : va_S A s.heap H locs := by rw [eH, el]; exact hS
  clear eH el
  refine lv_iload_n hx hb dX12_part_0 rfl (lv_at hl 0 rfl) ?_
  refine lv_iload_n hx hb dX12_part_1 rfl (lv_at hl 1 rfl) ?_
  refine lv_iushr hx hb dX12_part_2 rfl ?_
  refine my_top 0 (by decide) ?_
  refine lv_iconst (v := 1) hx hb dX12_part_3 (by decide) ?_
  refine lv_iload_n hx hb dX12_part_4 rfl (lv_at hl 2 rfl) ?_
  refine lv_ishl hx hb dX12_part_5 ?_
  refine my_top 128 (by decide) ?_
  refine lv_iconst (v := 1) hx hb dX12_part_6 (by decide) ?_
  refine lv_isub hx hb dX12_part_7 ?_
  refine my_top 127 (by decide) ?_
  refine lv_iand hx hb dX12_part_8 ?_
  refine my_top 0 (by decide) ?_
  have hP9 := hP.sub (ws' := []) [] rfl
  have hD9 := hD.sub (ws' := []) [] (by decide) rfl
  refine W.widen (k := 0) (n := 0) (by decide) (by decide) ?_
  exact W.iret (v := 0) hx hb hr (fun t ht hW => ⟨⟨0, (), rfl, rfl, by rw [ht]; exact hP9, va_K.moved hW.alike hK, hD9⟩, hS.F ht⟩) hS.2.2 dX12_part_9
def vs_kX12_oneWord : List Cond := Cond.code yX12_oneWord cX12_oneWord 9 (some .int) :: (([Cond.fieldLink RX12 150 "CompiledHouseModel" "register" "[I", Cond.fieldLink RX12 147 "CompiledHouseModel" "memory" "[I", Cond.constant RX12 610 (1048691)] : List Cond) ++ ((wsX120) ++ ((va_wsS RX12 576 yX12_isOut vs_kX12_isOut) ++ ((va_wsS RX12 579 yX12_part vs_kX12_part) ++ ((va_wsS RX12 579 yX12_part vs_kX12_part_v1) ++ ((va_wsS RX12 579 yX12_part vs_kX12_part_v2) ++ ((va_wsS RX12 579 yX12_part vs_kX12_part_v3) ++ ((va_wsS RX12 579 yX12_part vs_kX12_part_v4) ++ (va_wsS RX12 579 yX12_part vs_kX12_part_v5)))))))))
theorem i_kX12_oneWord_X12 : ∀ w ∈ wsX120, w ∈ vs_kX12_oneWord := fun w h => List.mem_cons_of_mem _ (List.mem_append_right _ (List.mem_append_left _ h))
theorem g_kX12_oneWord_1 : GoodIn vs_kX12_oneWord (va_wsS RX12 576 yX12_isOut vs_kX12_isOut) := fun w h => ⟨List.mem_cons_of_mem _ (List.mem_append_right _ (List.mem_append_right _ (List.mem_append_left _ h))), good_of_word (List.all_eq_true.mp (show (va_wsS RX12 576 yX12_isOut vs_kX12_isOut).all goodWord = true by decide +kernel) w h)⟩
theorem g_kX12_oneWord_2 : GoodIn vs_kX12_oneWord (va_wsS RX12 579 yX12_part vs_kX12_part) := fun w h => ⟨List.mem_cons_of_mem _ (List.mem_append_right _ (List.mem_append_right _ (List.mem_append_right _ (List.mem_append_left _ h)))), good_of_word (List.all_eq_true.mp (show (va_wsS RX12 579 yX12_part vs_kX12_part).all goodWord = true by decide +kernel) w h)⟩
theorem g_kX12_oneWord_3 : GoodIn vs_kX12_oneWord (va_wsS RX12 579 yX12_part vs_kX12_part_v1) := fun w h => ⟨List.mem_cons_of_mem _ (List.mem_append_right _ (List.mem_append_right _ (List.mem_append_right _ (List.mem_append_right _ (List.mem_append_left _ h))))), good_of_word (List.all_eq_true.mp (show (va_wsS RX12 579 yX12_part vs_kX12_part_v1).all goodWord = true by decide +kernel) w h)⟩
theorem g_kX12_oneWord_4 : GoodIn vs_kX12_oneWord (va_wsS RX12 579 yX12_part vs_kX12_part_v2) := fun w h => ⟨List.mem_cons_of_mem _ (List.mem_append_right _ (List.mem_append_right _ (List.mem_append_right _ (List.mem_append_right _ (List.mem_append_right _ (List.mem_append_left _ h)))))), good_of_word (List.all_eq_true.mp (show (va_wsS RX12 579 yX12_part vs_kX12_part_v2).all goodWord = true by decide +kernel) w h)⟩
theorem g_kX12_oneWord_5 : GoodIn vs_kX12_oneWord (va_wsS RX12 579 yX12_part vs_kX12_part_v3) := fun w h => ⟨List.mem_cons_of_mem _ (List.mem_append_right _ (List.mem_append_right _ (List.mem_append_right _ (List.mem_append_right _ (List.mem_append_right _ (List.mem_append_right _ (List.mem_append_left _ h))))))), good_of_word (List.all_eq_true.mp (show (va_wsS RX12 579 yX12_part vs_kX12_part_v3).all goodWord = true by decide +kernel) w h)⟩
theorem g_kX12_oneWord_6 : GoodIn vs_kX12_oneWord (va_wsS RX12 579 yX12_part vs_kX12_part_v4) := fun w h => ⟨List.mem_cons_of_mem _ (List.mem_append_right _ (List.mem_append_right _ (List.mem_append_right _ (List.mem_append_right _ (List.mem_append_right _ (List.mem_append_right _ (List.mem_append_right _ (List.mem_append_left _ h)))))))), good_of_word (List.all_eq_true.mp (show (va_wsS RX12 579 yX12_part vs_kX12_part_v4).all goodWord = true by decide +kernel) w h)⟩
theorem g_kX12_oneWord_7 : GoodIn vs_kX12_oneWord (va_wsS RX12 579 yX12_part vs_kX12_part_v5) := fun w h => ⟨List.mem_cons_of_mem _ (List.mem_append_right _ (List.mem_append_right _ (List.mem_append_right _ (List.mem_append_right _ (List.mem_append_right _ (List.mem_append_right _ (List.mem_append_right _ (List.mem_append_right _ h)))))))), good_of_word (List.all_eq_true.mp (show (va_wsS RX12 579 yX12_part vs_kX12_part_v5).all goodWord = true by decide +kernel) w h)⟩
set_option maxHeartbeats 4000000 in
set_option maxRecDepth 100000 in
theorem kX12_oneWord (l : Launch) (dC : Nat → ClassId) (dI : Nat → Nat → Nat) (cI cB cZ : ClassId) (h0 : Nat) (h1 : Nat) (h2 : Nat) (g0 : Nat) (g1 : Nat) (g2 : Nat) (g3 : Nat) (g4 : Nat) (g5 : Nat) (g6 : Nat) (g7 : Nat) (g8 : Nat) (g9 : Nat) (g10 : Nat) (g11 : Nat) (g12 : Nat) (g13 : Nat) (g14 : Nat) (g15 : Nat) (g16 : Nat) (g17 : Nat) (g18 : Nat) (g19 : Nat) (g20 : Nat) (g21 : Nat) (g22 : Nat) (g23 : Nat) (g24 : Nat) (g25 : Nat) (g26 : Nat) (g27 : Nat) (g28 : Nat) (g29 : Nat) (g30 : Nat) (g31 : Nat) (g32 : Nat) (g33 : Nat) (g34 : Nat) (g35 : Nat) (g36 : Nat) (g37 : Nat) (g38 : Nat) (g39 : Nat) (g40 : Nat) (g41 : Nat) (g42 : Nat) (g43 : Nat) (g44 : Nat) (sz : Nat) : Met l yX12_oneWord vs_kX12_oneWord ({ frames := 1, cells := 0, slots := 0, locals := 22 }) (va_Pc [.ref h0] (fun U => U.heap.size = sz ∧ va_P (dC, dI) vwCl [(h0, .inr (12, [.ref g0, .ref g1, .int 0, .int 0, .ref g2, .ref g3, .ref g4, .int 0, .int 0, .ref g5, .ref g6, .ref g7, .ref g8, .int 0, .int 0, .int 0, .ref g9, .ref g10, .ref g11, .ref g12, .ref g13, .ref g14, .ref g15, .ref g16, .int 0, .ref g17, .ref g18, .ref g19, .ref g20, .ref g21, .ref g22, .ref g23, .ref g24, .ref g25, .ref g26, .int 0, .int 0, .int 0, .ref g27, .ref g28, .ref g29, .ref g30, .int 0, .int 0, .int 0, .int 0, .int 0, .int 0, .int 0, .int 0, .int 0, .int 0, .int 0, .int 0, .int 0, .int 0, .ref g31, .ref g32, .ref g33, .ref g34, .int 0, .int 0, .int 0, .int 0, .int 0, .int 0, .int 0, .ref g35, .ref g36, .ref g37, .int 0, .ref g38, .int 0, .int 0, .int 0, .int 0, .int 0, .int 0, .int 0, .int 0, .int 0, .int 0, .int 0, .int 0, .int 0, .int 0, .int 0, .int 0, .ref g39, .ref g40, .ref g41, .ref g42, .ref g43, .ref g44, .ref h2, .ref h1, .int 0])), (h1, .inl (cI, 33, .inl (fun _ => 0))), (h2, .inl (cI, 4096, .inl (fun _ => 0)))] U.heap ∧ va_K (dC, dI) vwCl (ty3 cI cB cZ) U ∧ va_D (fun _ => True) [(h0, .inr (12, [.ref g0, .ref g1, .int 0, .int 0, .ref g2, .ref g3, .ref g4, .int 0, .int 0, .ref g5, .ref g6, .ref g7, .ref g8, .int 0, .int 0, .int 0, .ref g9, .ref g10, .ref g11, .ref g12, .ref g13, .ref g14, .ref g15, .ref g16, .int 0, .ref g17, .ref g18, .ref g19, .ref g20, .ref g21, .ref g22, .ref g23, .ref g24, .ref g25, .ref g26, .int 0, .int 0, .int 0, .ref g27, .ref g28, .ref g29, .ref g30, .int 0, .int 0, .int 0, .int 0, .int 0, .int 0, .int 0, .int 0, .int 0, .int 0, .int 0, .int 0, .int 0, .int 0, .ref g31, .ref g32, .ref g33, .ref g34, .int 0, .int 0, .int 0, .int 0, .int 0, .int 0, .int 0, .ref g35, .ref g36, .ref g37, .int 0, .ref g38, .int 0, .int 0, .int 0, .int 0, .int 0, .int 0, .int 0, .int 0, .int 0, .int 0, .int 0, .int 0, .int 0, .int 0, .int 0, .int 0, .ref g39, .ref g40, .ref g41, .ref g42, .ref g43, .ref g44, .ref h2, .ref h1, .int 0])), (h1, .inl (cI, 33, .inl (fun _ => 0))), (h2, .inl (cI, 4096, .inl (fun _ => 0)))])) (va_Qi (fun (r : Int32) (_ : Unit) => r = 2) (fun (_ : Unit) (t : State) => va_P (dC, dI) vwCl [(h0, .inr (12, [.ref g0, .ref g1, .int 0, .int 0, .ref g2, .ref g3, .ref g4, .int 0, .int 0, .ref g5, .ref g6, .ref g7, .ref g8, .int 0, .int 0, .int 0, .ref g9, .ref g10, .ref g11, .ref g12, .ref g13, .ref g14, .ref g15, .ref g16, .int 0, .ref g17, .ref g18, .ref g19, .ref g20, .ref g21, .ref g22, .ref g23, .ref g24, .ref g25, .ref g26, .int 0, .int 0, .int 0, .ref g27, .ref g28, .ref g29, .ref g30, .int 0, .int 0, .int 0, .int 0, .int 0, .int 0, .int 0, .int 0, .int 0, .int 0, .int 0, .int 0, .int 0, .int 0, .ref g31, .ref g32, .ref g33, .ref g34, .int 0, .int 0, .int 0, .int 0, .int 0, .int 0, .int 0, .ref g35, .ref g36, .ref g37, .int 0, .ref g38, .int 0, .int 0, .int 0, .int 0, .int 0, .int 0, .int 0, .int 0, .int 0, .int 0, .int 0, .int 0, .int 0, .int 0, .int 0, .int 0, .ref g39, .ref g40, .ref g41, .ref g42, .ref g43, .ref g44, .ref h2, .ref h1, .int 0])), (h1, .inl (cI, 33, .inl (fun _ => 0))), (h2, .inl (cI, 4096, .inl (fun _ => 0)))] t.heap ∧ va_K (dC, dI) vwCl (ty3 cI cB cZ) t ∧ va_D (va_A [(h0, .inr (12, [.ref g0, .ref g1, .int 0, .int 0, .ref g2, .ref g3, .ref g4, .int 0, .int 0, .ref g5, .ref g6, .ref g7, .ref g8, .int 0, .int 0, .int 0, .ref g9, .ref g10, .ref g11, .ref g12, .ref g13, .ref g14, .ref g15, .ref g16, .int 0, .ref g17, .ref g18, .ref g19, .ref g20, .ref g21, .ref g22, .ref g23, .ref g24, .ref g25, .ref g26, .int 0, .int 0, .int 0, .ref g27, .ref g28, .ref g29, .ref g30, .int 0, .int 0, .int 0, .int 0, .int 0, .int 0, .int 0, .int 0, .int 0, .int 0, .int 0, .int 0, .int 0, .int 0, .ref g31, .ref g32, .ref g33, .ref g34, .int 0, .int 0, .int 0, .int 0, .int 0, .int 0, .int 0, .ref g35, .ref g36, .ref g37, .int 0, .ref g38, .int 0, .int 0, .int 0, .int 0, .int 0, .int 0, .int 0, .int 0, .int 0, .int 0, .int 0, .int 0, .int 0, .int 0, .int 0, .int 0, .ref g39, .ref g40, .ref g41, .ref g42, .ref g43, .ref g44, .ref h2, .ref h1, .int 0])), (h1, .inl (cI, 33, .inl (fun _ => 0))), (h2, .inl (cI, 4096, .inl (fun _ => 0)))] sz) [(h0, .inr (12, [.ref g0, .ref g1, .int 0, .int 0, .ref g2, .ref g3, .ref g4, .int 0, .int 0, .ref g5, .ref g6, .ref g7, .ref g8, .int 0, .int 0, .int 0, .ref g9, .ref g10, .ref g11, .ref g12, .ref g13, .ref g14, .ref g15, .ref g16, .int 0, .ref g17, .ref g18, .ref g19, .ref g20, .ref g21, .ref g22, .ref g23, .ref g24, .ref g25, .ref g26, .int 0, .int 0, .int 0, .ref g27, .ref g28, .ref g29, .ref g30, .int 0, .int 0, .int 0, .int 0, .int 0, .int 0, .int 0, .int 0, .int 0, .int 0, .int 0, .int 0, .int 0, .int 0, .ref g31, .ref g32, .ref g33, .ref g34, .int 0, .int 0, .int 0, .int 0, .int 0, .int 0, .int 0, .ref g35, .ref g36, .ref g37, .int 0, .ref g38, .int 0, .int 0, .int 0, .int 0, .int 0, .int 0, .int 0, .int 0, .int 0, .int 0, .int 0, .int 0, .int 0, .int 0, .int 0, .int 0, .ref g39, .ref g40, .ref g41, .ref g42, .ref g43, .ref g44, .ref h2, .ref h1, .int 0])), (h1, .inl (cI, 33, .inl (fun _ => 0))), (h2, .inl (cI, 4096, .inl (fun _ => 0)))]) (va_A [(h0, .inr (12, [.ref g0, .ref g1, .int 0, .int 0, .ref g2, .ref g3, .ref g4, .int 0, .int 0, .ref g5, .ref g6, .ref g7, .ref g8, .int 0, .int 0, .int 0, .ref g9, .ref g10, .ref g11, .ref g12, .ref g13, .ref g14, .ref g15, .ref g16, .int 0, .ref g17, .ref g18, .ref g19, .ref g20, .ref g21, .ref g22, .ref g23, .ref g24, .ref g25, .ref g26, .int 0, .int 0, .int 0, .ref g27, .ref g28, .ref g29, .ref g30, .int 0, .int 0, .int 0, .int 0, .int 0, .int 0, .int 0, .int 0, .int 0, .int 0, .int 0, .int 0, .int 0, .int 0, .ref g31, .ref g32, .ref g33, .ref g34, .int 0, .int 0, .int 0, .int 0, .int 0, .int 0, .int 0, .ref g35, .ref g36, .ref g37, .int 0, .ref g38, .int 0, .int 0, .int 0, .int 0, .int 0, .int 0, .int 0, .int 0, .int 0, .int 0, .int 0, .int 0, .int 0, .int 0, .int 0, .int 0, .ref g39, .ref g40, .ref g41, .ref g42, .ref g43, .ref g44, .ref h2, .ref h1, .int 0])), (h1, .inl (cI, 33, .inl (fun _ => 0))), (h2, .inl (cI, 4096, .inl (fun _ => 0)))] sz)) 0 0 (va_A [(h0, .inr (12, [.ref g0, .ref g1, .int 0, .int 0, .ref g2, .ref g3, .ref g4, .int 0, .int 0, .ref g5, .ref g6, .ref g7, .ref g8, .int 0, .int 0, .int 0, .ref g9, .ref g10, .ref g11, .ref g12, .ref g13, .ref g14, .ref g15, .ref g16, .int 0, .ref g17, .ref g18, .ref g19, .ref g20, .ref g21, .ref g22, .ref g23, .ref g24, .ref g25, .ref g26, .int 0, .int 0, .int 0, .ref g27, .ref g28, .ref g29, .ref g30, .int 0, .int 0, .int 0, .int 0, .int 0, .int 0, .int 0, .int 0, .int 0, .int 0, .int 0, .int 0, .int 0, .int 0, .ref g31, .ref g32, .ref g33, .ref g34, .int 0, .int 0, .int 0, .int 0, .int 0, .int 0, .int 0, .ref g35, .ref g36, .ref g37, .int 0, .ref g38, .int 0, .int 0, .int 0, .int 0, .int 0, .int 0, .int 0, .int 0, .int 0, .int 0, .int 0, .int 0, .int 0, .int 0, .int 0, .int 0, .ref g39, .ref g40, .ref g41, .ref g42, .ref g43, .ref g44, .ref h2, .ref h1, .int 0])), (h1, .inl (cI, 33, .inl (fun _ => 0))), (h2, .inl (cI, 4096, .inl (fun _ => 0)))] sz) := by
  refine Met.ofW (cc := cX12_oneWord) (maxL := 9) (ret := (some .int)) (by decide) rfl ?_
  intro p e s m args below meth c s₁ B hml hv
  obtain ⟨rfl, hsz, hP, hK, hD0⟩ := hv
  have hx := B.exec
  have hb := B.bytes
  have hr := B.returns
  have hts := atoms_spec (ws := vs_kX12_oneWord) B.pre
  have hown : s.vm.findClass RX12 = some m.cls := findClass_of_methodNamed B.named
  have hlocks := B.notSynchronized
  subst hsz
  have hD := hD0.self (sz := s.heap.size)
  clear hD0
  generalize hAe : va_A [(h0, .inr (12, [.ref g0, .ref g1, .int 0, .int 0, .ref g2, .ref g3, .ref g4, .int 0, .int 0, .ref g5, .ref g6, .ref g7, .ref g8, .int 0, .int 0, .int 0, .ref g9, .ref g10, .ref g11, .ref g12, .ref g13, .ref g14, .ref g15, .ref g16, .int 0, .ref g17, .ref g18, .ref g19, .ref g20, .ref g21, .ref g22, .ref g23, .ref g24, .ref g25, .ref g26, .int 0, .int 0, .int 0, .ref g27, .ref g28, .ref g29, .ref g30, .int 0, .int 0, .int 0, .int 0, .int 0, .int 0, .int 0, .int 0, .int 0, .int 0, .int 0, .int 0, .int 0, .int 0, .ref g31, .ref g32, .ref g33, .ref g34, .int 0, .int 0, .int 0, .int 0, .int 0, .int 0, .int 0, .ref g35, .ref g36, .ref g37, .int 0, .ref g38, .int 0, .int 0, .int 0, .int 0, .int 0, .int 0, .int 0, .int 0, .int 0, .int 0, .int 0, .int 0, .int 0, .int 0, .int 0, .int 0, .ref g39, .ref g40, .ref g41, .ref g42, .ref g43, .ref g44, .ref h2, .ref h1, .int 0])), (h1, .inl (cI, 33, .inl (fun _ => 0))), (h2, .inl (cI, 4096, .inl (fun _ => 0)))] s.heap.size = A at hD ⊢
  have hA : ∀ q : Nat, s.heap.size ≤ q → A q := fun q h => by rw [← hAe]; exact Or.inr h
  clear hAe
  have hS : va_S A s.heap s.heap [] := va_S.rf
  have hl := lv_entry ([.ref h0]) (n := 9) (Nat.le_of_ble_eq_true rfl)
  rw [lg_entry_eq]
  generalize (lg_sl ([.ref h0]) ++ List.replicate (9 - (lg_sl ([.ref h0])).length) Slot.unset).toArray = ls at hl ⊢
  replace hl : lv_has ls 9 [(0, .ref h0)] := hl
  refine my_st (fun H locs eH el => ?_)
  replace hP : va_P (dC, dI) vwCl [(h0, .inr (12, [.ref g0, .ref g1, .int 0, .int 0, .ref g2, .ref g3, .ref g4, .int 0, .int 0, .ref g5, .ref g6, .ref g7, .ref g8, .int 0, .int 0, .int 0, .ref g9, .ref g10, .ref g11, .ref g12, .ref g13, .ref g14, .ref g15, .ref g16, .int 0, .ref g17, .ref g18, .ref g19, .ref g20, .ref g21, .ref g22, .ref g23, .ref g24, .ref g25, .ref g26, .int 0, .int 0, .int 0, .ref g27, .ref g28, .ref g29, .ref g30, .int 0, .int 0, .int 0, .int 0, .int 0, .int 0, .int 0, .int 0, .int 0, .int 0, .int 0, .int 0, .int 0, .int 0, .ref g31, .ref g32, .ref g33, .ref g34, .int 0, .int 0, .int 0, .int 0, .int 0, .int 0, .int 0, .ref g35, .ref g36, .ref g37, .int 0, .ref g38, .int 0, .int 0, .int 0, .int 0, .int 0, .int 0, .int 0, .int 0, .int 0, .int 0, .int 0, .int 0, .int 0, .int 0, .int 0, .int 0, .ref g39, .ref g40, .ref g41, .ref g42, .ref g43, .ref g44, .ref h2, .ref h1, .int 0])), (h1, .inl (cI, 33, .inl (fun _ => 0))), (h2, .inl (cI, 4096, .inl (fun _ => 0)))] H := by rw [eH]; exact hP
  replace hS : va_S A s.heap H locs := by rw [eH, el]; exact hS
  clear eH el
  refine lv_aload_n hx hb dX12_oneWord_0 rfl (lv_at hl 0 rfl) ?_
  refine va_get (D := (dC, dI)) (ci := 12) (v := .ref h1) (C := RX12) (T := TX12) (N := 97) hx hb hts i_kX12_oneWord_X12 hown hK hP 0 rfl rfl 95 (by decide) (hts (Cond.fieldLink RX12 150 "CompiledHouseModel" "register" "[I") (List.mem_cons_of_mem _ (List.mem_append_left _ (List.mem_of_getElem? (i := 0) rfl)))) (fun _ h9 => h9) rfl dX12_oneWord_1 ?_
  refine lv_bipush (v := 32) hx hb dX12_oneWord_4 (by decide) ?_
  refine va_iald hx hb hK hP 1 0 rfl rfl (my_in (by decide)) dX12_oneWord_6 ?_
  refine my_top 0 (rfl) ?_
  refine lv_istore_n (lv' := [(1, .int 0), (0, .ref h0)]) hx hb dX12_oneWord_7 rfl hl (by decide) rfl (fun ls hl => ?_)
  refine lv_iload_n hx hb dX12_oneWord_8 rfl (lv_at hl 0 rfl) ?_
  refine lv_iconst (v := 3) hx hb dX12_oneWord_9 (by decide) ?_
  refine lv_iand hx hb dX12_oneWord_10 ?_
  refine my_top 0 (by decide) ?_
  refine lv_if_ne (tgt := 21) hx hb dX12_oneWord_11 (by decide) (fun c_0 => absurd (by decide) c_0) (fun _ => ?_)
  refine lv_iload_n hx hb dX12_oneWord_14 rfl (lv_at hl 0 rfl) ?_
  have hPc := hP.sub (ws' := []) [] rfl
  have hDc := hD.sub (ws' := []) [] (by decide) rfl
  have hFc := va_free (wc := []) hD hS hA [] rfl
  refine va_calli (va_runS (As := [.int 0]) (rest := []) ⟨hx, hb, hml, hown, hts⟩ (kX12_isOut l dC dI cI cB cZ H.size ) (va_cwS 1 hts g_kX12_oneWord_1 rfl rfl rfl (by decide +kernel) ⟨Nat.le_of_ble_eq_true rfl, Nat.le_of_ble_eq_true rfl⟩) ⟨fun a U g mk q => by obtain ⟨q0, q1, qP, qK, qD⟩ := q; exact ⟨q0, q1, qP, va_K.moved (u := U) (U := U.calling g mk a) (Vm.Alike.refl U.vm) qK, qD⟩, fun U hU hW => ⟨rfl, by rw [hU], by rw [hU]; exact hPc, va_K.moved hW.alike hK, hDc.weaken (fun _ _ _ _ => trivial)⟩⟩ rfl rfl hl.1 rfl (lv_room (Nat.le_of_ble_eq_true rfl)) dX12_oneWord_15 ⟨Nat.le_of_ble_eq_true rfl, Nat.le_of_ble_eq_true rfl⟩) hS (fun q _ h => hFc q h) hFc (fun r_2 u t H_1 locs ht hvm hw hB hz1 hk1 hS1 => ?_)
  obtain ⟨hP1, hK1, hD1⟩ := hB
  rw [ht] at hP1
  obtain ⟨hP2, hD2⟩ := va_join (wr := [(h0, .inr (12, [.ref g0, .ref g1, .int 0, .int 0, .ref g2, .ref g3, .ref g4, .int 0, .int 0, .ref g5, .ref g6, .ref g7, .ref g8, .int 0, .int 0, .int 0, .ref g9, .ref g10, .ref g11, .ref g12, .ref g13, .ref g14, .ref g15, .ref g16, .int 0, .ref g17, .ref g18, .ref g19, .ref g20, .ref g21, .ref g22, .ref g23, .ref g24, .ref g25, .ref g26, .int 0, .int 0, .int 0, .ref g27, .ref g28, .ref g29, .ref g30, .int 0, .int 0, .int 0, .int 0, .int 0, .int 0, .int 0, .int 0, .int 0, .int 0, .int 0, .int 0, .int 0, .int 0, .ref g31, .ref g32, .ref g33, .ref g34, .int 0, .int 0, .int 0, .int 0, .int 0, .int 0, .int 0, .ref g35, .ref g36, .ref g37, .int 0, .ref g38, .int 0, .int 0, .int 0, .int 0, .int 0, .int 0, .int 0, .int 0, .int 0, .int 0, .int 0, .int 0, .int 0, .int 0, .int 0, .int 0, .ref g39, .ref g40, .ref g41, .ref g42, .ref g43, .ref g44, .ref h2, .ref h1, .int 0])), (h1, .inl (cI, 33, .inl (fun _ => 0))), (h2, .inl (cI, 4096, .inl (fun _ => 0)))]) (w1 := []) hP hD [] [0, 1, 2] rfl rfl (by decide) (by decide) hk1 hFc hP1 hD1
  clear hP1 hK1 hD1
  clear hP hD hS hPc hDc hFc hk1 hz1 ht hvm
  have hP1 := hP2
  have hD1 := hD2
  clear hP2 hD2
  have hP : va_P (dC, dI) vwCl [(h0, .inr (12, [.ref g0, .ref g1, .int 0, .int 0, .ref g2, .ref g3, .ref g4, .int 0, .int 0, .ref g5, .ref g6, .ref g7, .ref g8, .int 0, .int 0, .int 0, .ref g9, .ref g10, .ref g11, .ref g12, .ref g13, .ref g14, .ref g15, .ref g16, .int 0, .ref g17, .ref g18, .ref g19, .ref g20, .ref g21, .ref g22, .ref g23, .ref g24, .ref g25, .ref g26, .int 0, .int 0, .int 0, .ref g27, .ref g28, .ref g29, .ref g30, .int 0, .int 0, .int 0, .int 0, .int 0, .int 0, .int 0, .int 0, .int 0, .int 0, .int 0, .int 0, .int 0, .int 0, .ref g31, .ref g32, .ref g33, .ref g34, .int 0, .int 0, .int 0, .int 0, .int 0, .int 0, .int 0, .ref g35, .ref g36, .ref g37, .int 0, .ref g38, .int 0, .int 0, .int 0, .int 0, .int 0, .int 0, .int 0, .int 0, .int 0, .int 0, .int 0, .int 0, .int 0, .int 0, .int 0, .int 0, .ref g39, .ref g40, .ref g41, .ref g42, .ref g43, .ref g44, .ref h2, .ref h1, .int 0])), (h1, .inl (cI, 33, .inl (fun _ => 0))), (h2, .inl (cI, 4096, .inl (fun _ => 0)))] H_1 := hP1
  have hD : va_D A [(h0, .inr (12, [.ref g0, .ref g1, .int 0, .int 0, .ref g2, .ref g3, .ref g4, .int 0, .int 0, .ref g5, .ref g6, .ref g7, .ref g8, .int 0, .int 0, .int 0, .ref g9, .ref g10, .ref g11, .ref g12, .ref g13, .ref g14, .ref g15, .ref g16, .int 0, .ref g17, .ref g18, .ref g19, .ref g20, .ref g21, .ref g22, .ref g23, .ref g24, .ref g25, .ref g26, .int 0, .int 0, .int 0, .ref g27, .ref g28, .ref g29, .ref g30, .int 0, .int 0, .int 0, .int 0, .int 0, .int 0, .int 0, .int 0, .int 0, .int 0, .int 0, .int 0, .int 0, .int 0, .ref g31, .ref g32, .ref g33, .ref g34, .int 0, .int 0, .int 0, .int 0, .int 0, .int 0, .int 0, .ref g35, .ref g36, .ref g37, .int 0, .ref g38, .int 0, .int 0, .int 0, .int 0, .int 0, .int 0, .int 0, .int 0, .int 0, .int 0, .int 0, .int 0, .int 0, .int 0, .int 0, .int 0, .ref g39, .ref g40, .ref g41, .ref g42, .ref g43, .ref g44, .ref h2, .ref h1, .int 0])), (h1, .inl (cI, 33, .inl (fun _ => 0))), (h2, .inl (cI, 4096, .inl (fun _ => 0)))] := hD1
  have hS := hS1
  clear hP1 hD1 hS1
  obtain rfl := hw
  refine lv_if_eq (tgt := 23) hx hb dX12_oneWord_18 (by decide) (fun _ => ?_) (fun c_0 => absurd (by decide) c_0)
  refine lv_aload_n hx hb dX12_oneWord_23 rfl (lv_at hl 1 rfl) ?_
  refine va_get (D := (dC, dI)) (ci := 12) (v := .ref h2) (C := RX12) (T := TX12) (N := 97) hx hb hts i_kX12_oneWord_X12 hown hK hP 0 rfl rfl 94 (by decide) (hts (Cond.fieldLink RX12 147 "CompiledHouseModel" "memory" "[I") (List.mem_cons_of_mem _ (List.mem_append_left _ (List.mem_of_getElem? (i := 1) rfl)))) (fun _ h9 => h9) rfl dX12_oneWord_24 ?_
  refine lv_iload_n hx hb dX12_oneWord_27 rfl (lv_at hl 0 rfl) ?_
  refine lv_iconst (v := 2) hx hb dX12_oneWord_28 (by decide) ?_
  refine lv_ishr hx hb dX12_oneWord_29 ?_
  refine my_top 0 (by decide) ?_
  refine va_iald hx hb hK hP 2 0 rfl rfl (my_in (by decide)) dX12_oneWord_30 ?_
  refine my_top 0 (rfl) ?_
  refine lv_istore_n (lv' := [(2, .int 0), (1, .int 0), (0, .ref h0)]) hx hb dX12_oneWord_31 rfl hl (by decide) rfl (fun ls hl => ?_)
  refine lv_iload_n hx hb dX12_oneWord_32 rfl (lv_at hl 0 rfl) ?_
  refine lv_bipush (v := 7) hx hb dX12_oneWord_33 (by decide) ?_
  refine lv_iconst (v := 5) hx hb dX12_oneWord_35 (by decide) ?_
  have hPc := hP.sub (ws' := []) [] rfl
  have hDc := hD.sub (ws' := []) [] (by decide) rfl
  have hFc := va_free (wc := []) hD hS hA [] rfl
  refine va_calli (va_runS (As := [.int 0, .int 7, .int 5]) (rest := []) ⟨hx, hb, hml, hown, hts⟩ (kX12_part l dC dI cI cB cZ H_1.size ) (va_cwS 3 hts g_kX12_oneWord_2 rfl rfl rfl (by decide +kernel) ⟨Nat.le_of_ble_eq_true rfl, Nat.le_of_ble_eq_true rfl⟩) ⟨fun a U g mk q => by obtain ⟨q0, q1, qP, qK, qD⟩ := q; exact ⟨q0, q1, qP, va_K.moved (u := U) (U := U.calling g mk a) (Vm.Alike.refl U.vm) qK, qD⟩, fun U hU hW => ⟨rfl, by rw [hU], by rw [hU]; exact hPc, va_K.moved hW.alike hK, hDc.weaken (fun _ _ _ _ => trivial)⟩⟩ rfl rfl hl.1 rfl (lv_room (Nat.le_of_ble_eq_true rfl)) dX12_oneWord_36 ⟨Nat.le_of_ble_eq_true rfl, Nat.le_of_ble_eq_true rfl⟩) hS (fun q _ h => hFc q h) hFc (fun r_4 u t H_3 locs ht hvm hw hB hz1 hk1 hS1 => ?_)
  obtain ⟨hP1, hK1, hD1⟩ := hB
  rw [ht] at hP1
  obtain ⟨hP2, hD2⟩ := va_join (wr := [(h0, .inr (12, [.ref g0, .ref g1, .int 0, .int 0, .ref g2, .ref g3, .ref g4, .int 0, .int 0, .ref g5, .ref g6, .ref g7, .ref g8, .int 0, .int 0, .int 0, .ref g9, .ref g10, .ref g11, .ref g12, .ref g13, .ref g14, .ref g15, .ref g16, .int 0, .ref g17, .ref g18, .ref g19, .ref g20, .ref g21, .ref g22, .ref g23, .ref g24, .ref g25, .ref g26, .int 0, .int 0, .int 0, .ref g27, .ref g28, .ref g29, .ref g30, .int 0, .int 0, .int 0, .int 0, .int 0, .int 0, .int 0, .int 0, .int 0, .int 0, .int 0, .int 0, .int 0, .int 0, .ref g31, .ref g32, .ref g33, .ref g34, .int 0, .int 0, .int 0, .int 0, .int 0, .int 0, .int 0, .ref g35, .ref g36, .ref g37, .int 0, .ref g38, .int 0, .int 0, .int 0, .int 0, .int 0, .int 0, .int 0, .int 0, .int 0, .int 0, .int 0, .int 0, .int 0, .int 0, .int 0, .int 0, .ref g39, .ref g40, .ref g41, .ref g42, .ref g43, .ref g44, .ref h2, .ref h1, .int 0])), (h1, .inl (cI, 33, .inl (fun _ => 0))), (h2, .inl (cI, 4096, .inl (fun _ => 0)))]) (w1 := []) hP hD [] [0, 1, 2] rfl rfl (by decide) (by decide) hk1 hFc hP1 hD1
  clear hP1 hK1 hD1
  clear hP hD hS hPc hDc hFc hk1 hz1 ht hvm
  have hP1 := hP2
  have hD1 := hD2
  clear hP2 hD2
  have hP : va_P (dC, dI) vwCl [(h0, .inr (12, [.ref g0, .ref g1, .int 0, .int 0, .ref g2, .ref g3, .ref g4, .int 0, .int 0, .ref g5, .ref g6, .ref g7, .ref g8, .int 0, .int 0, .int 0, .ref g9, .ref g10, .ref g11, .ref g12, .ref g13, .ref g14, .ref g15, .ref g16, .int 0, .ref g17, .ref g18, .ref g19, .ref g20, .ref g21, .ref g22, .ref g23, .ref g24, .ref g25, .ref g26, .int 0, .int 0, .int 0, .ref g27, .ref g28, .ref g29, .ref g30, .int 0, .int 0, .int 0, .int 0, .int 0, .int 0, .int 0, .int 0, .int 0, .int 0, .int 0, .int 0, .int 0, .int 0, .ref g31, .ref g32, .ref g33, .ref g34, .int 0, .int 0, .int 0, .int 0, .int 0, .int 0, .int 0, .ref g35, .ref g36, .ref g37, .int 0, .ref g38, .int 0, .int 0, .int 0, .int 0, .int 0, .int 0, .int 0, .int 0, .int 0, .int 0, .int 0, .int 0, .int 0, .int 0, .int 0, .int 0, .ref g39, .ref g40, .ref g41, .ref g42, .ref g43, .ref g44, .ref h2, .ref h1, .int 0])), (h1, .inl (cI, 33, .inl (fun _ => 0))), (h2, .inl (cI, 4096, .inl (fun _ => 0)))] H_3 := hP1
  have hD : va_D A [(h0, .inr (12, [.ref g0, .ref g1, .int 0, .int 0, .ref g2, .ref g3, .ref g4, .int 0, .int 0, .ref g5, .ref g6, .ref g7, .ref g8, .int 0, .int 0, .int 0, .ref g9, .ref g10, .ref g11, .ref g12, .ref g13, .ref g14, .ref g15, .ref g16, .int 0, .ref g17, .ref g18, .ref g19, .ref g20, .ref g21, .ref g22, .ref g23, .ref g24, .ref g25, .ref g26, .int 0, .int 0, .int 0, .ref g27, .ref g28, .ref g29, .ref g30, .int 0, .int 0, .int 0, .int 0, .int 0, .int 0, .int 0, .int 0, .int 0, .int 0, .int 0, .int 0, .int 0, .int 0, .ref g31, .ref g32, .ref g33, .ref g34, .int 0, .int 0, .int 0, .int 0, .int 0, .int 0, .int 0, .ref g35, .ref g36, .ref g37, .int 0, .ref g38, .int 0, .int 0, .int 0, .int 0, .int 0, .int 0, .int 0, .int 0, .int 0, .int 0, .int 0, .int 0, .int 0, .int 0, .int 0, .int 0, .ref g39, .ref g40, .ref g41, .ref g42, .ref g43, .ref g44, .ref h2, .ref h1, .int 0])), (h1, .inl (cI, 33, .inl (fun _ => 0))), (h2, .inl (cI, 4096, .inl (fun _ => 0)))] := hD1
  have hS := hS1
  clear hP1 hD1 hS1
  obtain rfl := hw
  refine lv_istore_n (lv' := [(3, .int 0), (2, .int 0), (1, .int 0), (0, .ref h0)]) hx hb dX12_oneWord_39 rfl hl (by decide) rfl (fun ls hl => ?_)
  refine lv_iload_n hx hb dX12_oneWord_40 rfl (lv_at hl 1 rfl) ?_
  refine lv_bipush (v := 12) hx hb dX12_oneWord_41 (by decide) ?_
  refine lv_iconst (v := 3) hx hb dX12_oneWord_43 (by decide) ?_
  have hPc := hP.sub (ws' := []) [] rfl
  have hDc := hD.sub (ws' := []) [] (by decide) rfl
  have hFc := va_free (wc := []) hD hS hA [] rfl
  refine va_calli (va_runS (As := [.int 0, .int 12, .int 3]) (rest := []) ⟨hx, hb, hml, hown, hts⟩ (kX12_part_v1 l dC dI cI cB cZ H_3.size ) (va_cwS 3 hts g_kX12_oneWord_3 rfl rfl rfl (by decide +kernel) ⟨Nat.le_of_ble_eq_true rfl, Nat.le_of_ble_eq_true rfl⟩) ⟨fun a U g mk q => by obtain ⟨q0, q1, qP, qK, qD⟩ := q; exact ⟨q0, q1, qP, va_K.moved (u := U) (U := U.calling g mk a) (Vm.Alike.refl U.vm) qK, qD⟩, fun U hU hW => ⟨rfl, by rw [hU], by rw [hU]; exact hPc, va_K.moved hW.alike hK, hDc.weaken (fun _ _ _ _ => trivial)⟩⟩ rfl rfl hl.1 rfl (lv_room (Nat.le_of_ble_eq_true rfl)) dX12_oneWord_44 ⟨Nat.le_of_ble_eq_true rfl, Nat.le_of_ble_eq_true rfl⟩) hS (fun q _ h => hFc q h) hFc (fun r_6 u t H_5 locs ht hvm hw hB hz1 hk1 hS1 => ?_)
  obtain ⟨hP1, hK1, hD1⟩ := hB
  rw [ht] at hP1
  obtain ⟨hP2, hD2⟩ := va_join (wr := [(h0, .inr (12, [.ref g0, .ref g1, .int 0, .int 0, .ref g2, .ref g3, .ref g4, .int 0, .int 0, .ref g5, .ref g6, .ref g7, .ref g8, .int 0, .int 0, .int 0, .ref g9, .ref g10, .ref g11, .ref g12, .ref g13, .ref g14, .ref g15, .ref g16, .int 0, .ref g17, .ref g18, .ref g19, .ref g20, .ref g21, .ref g22, .ref g23, .ref g24, .ref g25, .ref g26, .int 0, .int 0, .int 0, .ref g27, .ref g28, .ref g29, .ref g30, .int 0, .int 0, .int 0, .int 0, .int 0, .int 0, .int 0, .int 0, .int 0, .int 0, .int 0, .int 0, .int 0, .int 0, .ref g31, .ref g32, .ref g33, .ref g34, .int 0, .int 0, .int 0, .int 0, .int 0, .int 0, .int 0, .ref g35, .ref g36, .ref g37, .int 0, .ref g38, .int 0, .int 0, .int 0, .int 0, .int 0, .int 0, .int 0, .int 0, .int 0, .int 0, .int 0, .int 0, .int 0, .int 0, .int 0, .int 0, .ref g39, .ref g40, .ref g41, .ref g42, .ref g43, .ref g44, .ref h2, .ref h1, .int 0])), (h1, .inl (cI, 33, .inl (fun _ => 0))), (h2, .inl (cI, 4096, .inl (fun _ => 0)))]) (w1 := []) hP hD [] [0, 1, 2] rfl rfl (by decide) (by decide) hk1 hFc hP1 hD1
  clear hP1 hK1 hD1
  clear hP hD hS hPc hDc hFc hk1 hz1 ht hvm
  have hP1 := hP2
  have hD1 := hD2
  clear hP2 hD2
  have hP : va_P (dC, dI) vwCl [(h0, .inr (12, [.ref g0, .ref g1, .int 0, .int 0, .ref g2, .ref g3, .ref g4, .int 0, .int 0, .ref g5, .ref g6, .ref g7, .ref g8, .int 0, .int 0, .int 0, .ref g9, .ref g10, .ref g11, .ref g12, .ref g13, .ref g14, .ref g15, .ref g16, .int 0, .ref g17, .ref g18, .ref g19, .ref g20, .ref g21, .ref g22, .ref g23, .ref g24, .ref g25, .ref g26, .int 0, .int 0, .int 0, .ref g27, .ref g28, .ref g29, .ref g30, .int 0, .int 0, .int 0, .int 0, .int 0, .int 0, .int 0, .int 0, .int 0, .int 0, .int 0, .int 0, .int 0, .int 0, .ref g31, .ref g32, .ref g33, .ref g34, .int 0, .int 0, .int 0, .int 0, .int 0, .int 0, .int 0, .ref g35, .ref g36, .ref g37, .int 0, .ref g38, .int 0, .int 0, .int 0, .int 0, .int 0, .int 0, .int 0, .int 0, .int 0, .int 0, .int 0, .int 0, .int 0, .int 0, .int 0, .int 0, .ref g39, .ref g40, .ref g41, .ref g42, .ref g43, .ref g44, .ref h2, .ref h1, .int 0])), (h1, .inl (cI, 33, .inl (fun _ => 0))), (h2, .inl (cI, 4096, .inl (fun _ => 0)))] H_5 := hP1
  have hD : va_D A [(h0, .inr (12, [.ref g0, .ref g1, .int 0, .int 0, .ref g2, .ref g3, .ref g4, .int 0, .int 0, .ref g5, .ref g6, .ref g7, .ref g8, .int 0, .int 0, .int 0, .ref g9, .ref g10, .ref g11, .ref g12, .ref g13, .ref g14, .ref g15, .ref g16, .int 0, .ref g17, .ref g18, .ref g19, .ref g20, .ref g21, .ref g22, .ref g23, .ref g24, .ref g25, .ref g26, .int 0, .int 0, .int 0, .ref g27, .ref g28, .ref g29, .ref g30, .int 0, .int 0, .int 0, .int 0, .int 0, .int 0, .int 0, .int 0, .int 0, .int 0, .int 0, .int 0, .int 0, .int 0, .ref g31, .ref g32, .ref g33, .ref g34, .int 0, .int 0, .int 0, .int 0, .int 0, .int 0, .int 0, .ref g35, .ref g36, .ref g37, .int 0, .ref g38, .int 0, .int 0, .int 0, .int 0, .int 0, .int 0, .int 0, .int 0, .int 0, .int 0, .int 0, .int 0, .int 0, .int 0, .int 0, .int 0, .ref g39, .ref g40, .ref g41, .ref g42, .ref g43, .ref g44, .ref h2, .ref h1, .int 0])), (h1, .inl (cI, 33, .inl (fun _ => 0))), (h2, .inl (cI, 4096, .inl (fun _ => 0)))] := hD1
  have hS := hS1
  clear hP1 hD1 hS1
  obtain rfl := hw
  refine lv_istore (lv' := [(4, .int 0), (3, .int 0), (2, .int 0), (1, .int 0), (0, .ref h0)]) hx hb dX12_oneWord_47 hl (by decide) rfl (fun ls hl => ?_)
  refine lv_iload_n hx hb dX12_oneWord_49 rfl (lv_at hl 2 rfl) ?_
  refine lv_bipush (v := 25) hx hb dX12_oneWord_50 (by decide) ?_
  refine lv_bipush (v := 7) hx hb dX12_oneWord_52 (by decide) ?_
  have hPc := hP.sub (ws' := []) [] rfl
  have hDc := hD.sub (ws' := []) [] (by decide) rfl
  have hFc := va_free (wc := []) hD hS hA [] rfl
  refine va_calli (va_runS (As := [.int 0, .int 25, .int 7]) (rest := []) ⟨hx, hb, hml, hown, hts⟩ (kX12_part_v2 l dC dI cI cB cZ H_5.size ) (va_cwS 3 hts g_kX12_oneWord_4 rfl rfl rfl (by decide +kernel) ⟨Nat.le_of_ble_eq_true rfl, Nat.le_of_ble_eq_true rfl⟩) ⟨fun a U g mk q => by obtain ⟨q0, q1, qP, qK, qD⟩ := q; exact ⟨q0, q1, qP, va_K.moved (u := U) (U := U.calling g mk a) (Vm.Alike.refl U.vm) qK, qD⟩, fun U hU hW => ⟨rfl, by rw [hU], by rw [hU]; exact hPc, va_K.moved hW.alike hK, hDc.weaken (fun _ _ _ _ => trivial)⟩⟩ rfl rfl hl.1 rfl (lv_room (Nat.le_of_ble_eq_true rfl)) dX12_oneWord_54 ⟨Nat.le_of_ble_eq_true rfl, Nat.le_of_ble_eq_true rfl⟩) hS (fun q _ h => hFc q h) hFc (fun r_8 u t H_7 locs ht hvm hw hB hz1 hk1 hS1 => ?_)
  obtain ⟨hP1, hK1, hD1⟩ := hB
  rw [ht] at hP1
  obtain ⟨hP2, hD2⟩ := va_join (wr := [(h0, .inr (12, [.ref g0, .ref g1, .int 0, .int 0, .ref g2, .ref g3, .ref g4, .int 0, .int 0, .ref g5, .ref g6, .ref g7, .ref g8, .int 0, .int 0, .int 0, .ref g9, .ref g10, .ref g11, .ref g12, .ref g13, .ref g14, .ref g15, .ref g16, .int 0, .ref g17, .ref g18, .ref g19, .ref g20, .ref g21, .ref g22, .ref g23, .ref g24, .ref g25, .ref g26, .int 0, .int 0, .int 0, .ref g27, .ref g28, .ref g29, .ref g30, .int 0, .int 0, .int 0, .int 0, .int 0, .int 0, .int 0, .int 0, .int 0, .int 0, .int 0, .int 0, .int 0, .int 0, .ref g31, .ref g32, .ref g33, .ref g34, .int 0, .int 0, .int 0, .int 0, .int 0, .int 0, .int 0, .ref g35, .ref g36, .ref g37, .int 0, .ref g38, .int 0, .int 0, .int 0, .int 0, .int 0, .int 0, .int 0, .int 0, .int 0, .int 0, .int 0, .int 0, .int 0, .int 0, .int 0, .int 0, .ref g39, .ref g40, .ref g41, .ref g42, .ref g43, .ref g44, .ref h2, .ref h1, .int 0])), (h1, .inl (cI, 33, .inl (fun _ => 0))), (h2, .inl (cI, 4096, .inl (fun _ => 0)))]) (w1 := []) hP hD [] [0, 1, 2] rfl rfl (by decide) (by decide) hk1 hFc hP1 hD1
  clear hP1 hK1 hD1
  clear hP hD hS hPc hDc hFc hk1 hz1 ht hvm
  have hP1 := hP2
  have hD1 := hD2
  clear hP2 hD2
  have hP : va_P (dC, dI) vwCl [(h0, .inr (12, [.ref g0, .ref g1, .int 0, .int 0, .ref g2, .ref g3, .ref g4, .int 0, .int 0, .ref g5, .ref g6, .ref g7, .ref g8, .int 0, .int 0, .int 0, .ref g9, .ref g10, .ref g11, .ref g12, .ref g13, .ref g14, .ref g15, .ref g16, .int 0, .ref g17, .ref g18, .ref g19, .ref g20, .ref g21, .ref g22, .ref g23, .ref g24, .ref g25, .ref g26, .int 0, .int 0, .int 0, .ref g27, .ref g28, .ref g29, .ref g30, .int 0, .int 0, .int 0, .int 0, .int 0, .int 0, .int 0, .int 0, .int 0, .int 0, .int 0, .int 0, .int 0, .int 0, .ref g31, .ref g32, .ref g33, .ref g34, .int 0, .int 0, .int 0, .int 0, .int 0, .int 0, .int 0, .ref g35, .ref g36, .ref g37, .int 0, .ref g38, .int 0, .int 0, .int 0, .int 0, .int 0, .int 0, .int 0, .int 0, .int 0, .int 0, .int 0, .int 0, .int 0, .int 0, .int 0, .int 0, .ref g39, .ref g40, .ref g41, .ref g42, .ref g43, .ref g44, .ref h2, .ref h1, .int 0])), (h1, .inl (cI, 33, .inl (fun _ => 0))), (h2, .inl (cI, 4096, .inl (fun _ => 0)))] H_7 := hP1
  have hD : va_D A [(h0, .inr (12, [.ref g0, .ref g1, .int 0, .int 0, .ref g2, .ref g3, .ref g4, .int 0, .int 0, .ref g5, .ref g6, .ref g7, .ref g8, .int 0, .int 0, .int 0, .ref g9, .ref g10, .ref g11, .ref g12, .ref g13, .ref g14, .ref g15, .ref g16, .int 0, .ref g17, .ref g18, .ref g19, .ref g20, .ref g21, .ref g22, .ref g23, .ref g24, .ref g25, .ref g26, .int 0, .int 0, .int 0, .ref g27, .ref g28, .ref g29, .ref g30, .int 0, .int 0, .int 0, .int 0, .int 0, .int 0, .int 0, .int 0, .int 0, .int 0, .int 0, .int 0, .int 0, .int 0, .ref g31, .ref g32, .ref g33, .ref g34, .int 0, .int 0, .int 0, .int 0, .int 0, .int 0, .int 0, .ref g35, .ref g36, .ref g37, .int 0, .ref g38, .int 0, .int 0, .int 0, .int 0, .int 0, .int 0, .int 0, .int 0, .int 0, .int 0, .int 0, .int 0, .int 0, .int 0, .int 0, .int 0, .ref g39, .ref g40, .ref g41, .ref g42, .ref g43, .ref g44, .ref h2, .ref h1, .int 0])), (h1, .inl (cI, 33, .inl (fun _ => 0))), (h2, .inl (cI, 4096, .inl (fun _ => 0)))] := hD1
  have hS := hS1
  clear hP1 hD1 hS1
  obtain rfl := hw
  refine lv_istore (lv' := [(5, .int 0), (4, .int 0), (3, .int 0), (2, .int 0), (1, .int 0), (0, .ref h0)]) hx hb dX12_oneWord_57 hl (by decide) rfl (fun ls hl => ?_)
  refine lv_aload_n hx hb dX12_oneWord_59 rfl (lv_at hl 5 rfl) ?_
  refine va_get (D := (dC, dI)) (ci := 12) (v := .ref h1) (C := RX12) (T := TX12) (N := 97) hx hb hts i_kX12_oneWord_X12 hown hK hP 0 rfl rfl 95 (by decide) (hts (Cond.fieldLink RX12 150 "CompiledHouseModel" "register" "[I") (List.mem_cons_of_mem _ (List.mem_append_left _ (List.mem_of_getElem? (i := 0) rfl)))) (fun _ h9 => h9) rfl dX12_oneWord_60 ?_
  refine lv_iload_n hx hb dX12_oneWord_63 rfl (lv_at hl 3 rfl) ?_
  refine lv_bipush (v := 15) hx hb dX12_oneWord_64 (by decide) ?_
  refine lv_iconst (v := 5) hx hb dX12_oneWord_66 (by decide) ?_
  have hPc := hP.sub (ws' := []) [] rfl
  have hDc := hD.sub (ws' := []) [] (by decide) rfl
  have hFc := va_free (wc := []) hD hS hA [] rfl
  refine va_calli (va_runS (As := [.int 0, .int 15, .int 5]) (rest := [.ref h1]) ⟨hx, hb, hml, hown, hts⟩ (kX12_part_v3 l dC dI cI cB cZ H_7.size ) (va_cwS 3 hts g_kX12_oneWord_5 rfl rfl rfl (by decide +kernel) ⟨Nat.le_of_ble_eq_true rfl, Nat.le_of_ble_eq_true rfl⟩) ⟨fun a U g mk q => by obtain ⟨q0, q1, qP, qK, qD⟩ := q; exact ⟨q0, q1, qP, va_K.moved (u := U) (U := U.calling g mk a) (Vm.Alike.refl U.vm) qK, qD⟩, fun U hU hW => ⟨rfl, by rw [hU], by rw [hU]; exact hPc, va_K.moved hW.alike hK, hDc.weaken (fun _ _ _ _ => trivial)⟩⟩ rfl rfl hl.1 rfl (lv_room (Nat.le_of_ble_eq_true rfl)) dX12_oneWord_67 ⟨Nat.le_of_ble_eq_true rfl, Nat.le_of_ble_eq_true rfl⟩) hS (fun q _ h => hFc q h) hFc (fun r_10 u t H_9 locs ht hvm hw hB hz1 hk1 hS1 => ?_)
  obtain ⟨hP1, hK1, hD1⟩ := hB
  rw [ht] at hP1
  obtain ⟨hP2, hD2⟩ := va_join (wr := [(h0, .inr (12, [.ref g0, .ref g1, .int 0, .int 0, .ref g2, .ref g3, .ref g4, .int 0, .int 0, .ref g5, .ref g6, .ref g7, .ref g8, .int 0, .int 0, .int 0, .ref g9, .ref g10, .ref g11, .ref g12, .ref g13, .ref g14, .ref g15, .ref g16, .int 0, .ref g17, .ref g18, .ref g19, .ref g20, .ref g21, .ref g22, .ref g23, .ref g24, .ref g25, .ref g26, .int 0, .int 0, .int 0, .ref g27, .ref g28, .ref g29, .ref g30, .int 0, .int 0, .int 0, .int 0, .int 0, .int 0, .int 0, .int 0, .int 0, .int 0, .int 0, .int 0, .int 0, .int 0, .ref g31, .ref g32, .ref g33, .ref g34, .int 0, .int 0, .int 0, .int 0, .int 0, .int 0, .int 0, .ref g35, .ref g36, .ref g37, .int 0, .ref g38, .int 0, .int 0, .int 0, .int 0, .int 0, .int 0, .int 0, .int 0, .int 0, .int 0, .int 0, .int 0, .int 0, .int 0, .int 0, .int 0, .ref g39, .ref g40, .ref g41, .ref g42, .ref g43, .ref g44, .ref h2, .ref h1, .int 0])), (h1, .inl (cI, 33, .inl (fun _ => 0))), (h2, .inl (cI, 4096, .inl (fun _ => 0)))]) (w1 := []) hP hD [] [0, 1, 2] rfl rfl (by decide) (by decide) hk1 hFc hP1 hD1
  clear hP1 hK1 hD1
  clear hP hD hS hPc hDc hFc hk1 hz1 ht hvm
  have hP1 := hP2
  have hD1 := hD2
  clear hP2 hD2
  have hP : va_P (dC, dI) vwCl [(h0, .inr (12, [.ref g0, .ref g1, .int 0, .int 0, .ref g2, .ref g3, .ref g4, .int 0, .int 0, .ref g5, .ref g6, .ref g7, .ref g8, .int 0, .int 0, .int 0, .ref g9, .ref g10, .ref g11, .ref g12, .ref g13, .ref g14, .ref g15, .ref g16, .int 0, .ref g17, .ref g18, .ref g19, .ref g20, .ref g21, .ref g22, .ref g23, .ref g24, .ref g25, .ref g26, .int 0, .int 0, .int 0, .ref g27, .ref g28, .ref g29, .ref g30, .int 0, .int 0, .int 0, .int 0, .int 0, .int 0, .int 0, .int 0, .int 0, .int 0, .int 0, .int 0, .int 0, .int 0, .ref g31, .ref g32, .ref g33, .ref g34, .int 0, .int 0, .int 0, .int 0, .int 0, .int 0, .int 0, .ref g35, .ref g36, .ref g37, .int 0, .ref g38, .int 0, .int 0, .int 0, .int 0, .int 0, .int 0, .int 0, .int 0, .int 0, .int 0, .int 0, .int 0, .int 0, .int 0, .int 0, .int 0, .ref g39, .ref g40, .ref g41, .ref g42, .ref g43, .ref g44, .ref h2, .ref h1, .int 0])), (h1, .inl (cI, 33, .inl (fun _ => 0))), (h2, .inl (cI, 4096, .inl (fun _ => 0)))] H_9 := hP1
  have hD : va_D A [(h0, .inr (12, [.ref g0, .ref g1, .int 0, .int 0, .ref g2, .ref g3, .ref g4, .int 0, .int 0, .ref g5, .ref g6, .ref g7, .ref g8, .int 0, .int 0, .int 0, .ref g9, .ref g10, .ref g11, .ref g12, .ref g13, .ref g14, .ref g15, .ref g16, .int 0, .ref g17, .ref g18, .ref g19, .ref g20, .ref g21, .ref g22, .ref g23, .ref g24, .ref g25, .ref g26, .int 0, .int 0, .int 0, .ref g27, .ref g28, .ref g29, .ref g30, .int 0, .int 0, .int 0, .int 0, .int 0, .int 0, .int 0, .int 0, .int 0, .int 0, .int 0, .int 0, .int 0, .int 0, .ref g31, .ref g32, .ref g33, .ref g34, .int 0, .int 0, .int 0, .int 0, .int 0, .int 0, .int 0, .ref g35, .ref g36, .ref g37, .int 0, .ref g38, .int 0, .int 0, .int 0, .int 0, .int 0, .int 0, .int 0, .int 0, .int 0, .int 0, .int 0, .int 0, .int 0, .int 0, .int 0, .int 0, .ref g39, .ref g40, .ref g41, .ref g42, .ref g43, .ref g44, .ref h2, .ref h1, .int 0])), (h1, .inl (cI, 33, .inl (fun _ => 0))), (h2, .inl (cI, 4096, .inl (fun _ => 0)))] := hD1
  have hS := hS1
  clear hP1 hD1 hS1
  obtain rfl := hw
  refine va_iald hx hb hK hP 1 0 rfl rfl (my_in (by decide)) dX12_oneWord_70 ?_
  refine my_top 0 (rfl) ?_
  refine lv_istore (lv' := [(6, .int 0), (5, .int 0), (4, .int 0), (3, .int 0), (2, .int 0), (1, .int 0), (0, .ref h0)]) hx hb dX12_oneWord_71 hl (by decide) rfl (fun ls hl => ?_)
  refine lv_aload_n hx hb dX12_oneWord_73 rfl (lv_at hl 6 rfl) ?_
  refine va_get (D := (dC, dI)) (ci := 12) (v := .ref h1) (C := RX12) (T := TX12) (N := 97) hx hb hts i_kX12_oneWord_X12 hown hK hP 0 rfl rfl 95 (by decide) (hts (Cond.fieldLink RX12 150 "CompiledHouseModel" "register" "[I") (List.mem_cons_of_mem _ (List.mem_append_left _ (List.mem_of_getElem? (i := 0) rfl)))) (fun _ h9 => h9) rfl dX12_oneWord_74 ?_
  refine lv_iload_n hx hb dX12_oneWord_77 rfl (lv_at hl 4 rfl) ?_
  refine lv_bipush (v := 20) hx hb dX12_oneWord_78 (by decide) ?_
  refine lv_iconst (v := 5) hx hb dX12_oneWord_80 (by decide) ?_
  have hPc := hP.sub (ws' := []) [] rfl
  have hDc := hD.sub (ws' := []) [] (by decide) rfl
  have hFc := va_free (wc := []) hD hS hA [] rfl
  refine va_calli (va_runS (As := [.int 0, .int 20, .int 5]) (rest := [.ref h1]) ⟨hx, hb, hml, hown, hts⟩ (kX12_part_v4 l dC dI cI cB cZ H_9.size ) (va_cwS 3 hts g_kX12_oneWord_6 rfl rfl rfl (by decide +kernel) ⟨Nat.le_of_ble_eq_true rfl, Nat.le_of_ble_eq_true rfl⟩) ⟨fun a U g mk q => by obtain ⟨q0, q1, qP, qK, qD⟩ := q; exact ⟨q0, q1, qP, va_K.moved (u := U) (U := U.calling g mk a) (Vm.Alike.refl U.vm) qK, qD⟩, fun U hU hW => ⟨rfl, by rw [hU], by rw [hU]; exact hPc, va_K.moved hW.alike hK, hDc.weaken (fun _ _ _ _ => trivial)⟩⟩ rfl rfl hl.1 rfl (lv_room (Nat.le_of_ble_eq_true rfl)) dX12_oneWord_81 ⟨Nat.le_of_ble_eq_true rfl, Nat.le_of_ble_eq_true rfl⟩) hS (fun q _ h => hFc q h) hFc (fun r_12 u t H_11 locs ht hvm hw hB hz1 hk1 hS1 => ?_)
  obtain ⟨hP1, hK1, hD1⟩ := hB
  rw [ht] at hP1
  obtain ⟨hP2, hD2⟩ := va_join (wr := [(h0, .inr (12, [.ref g0, .ref g1, .int 0, .int 0, .ref g2, .ref g3, .ref g4, .int 0, .int 0, .ref g5, .ref g6, .ref g7, .ref g8, .int 0, .int 0, .int 0, .ref g9, .ref g10, .ref g11, .ref g12, .ref g13, .ref g14, .ref g15, .ref g16, .int 0, .ref g17, .ref g18, .ref g19, .ref g20, .ref g21, .ref g22, .ref g23, .ref g24, .ref g25, .ref g26, .int 0, .int 0, .int 0, .ref g27, .ref g28, .ref g29, .ref g30, .int 0, .int 0, .int 0, .int 0, .int 0, .int 0, .int 0, .int 0, .int 0, .int 0, .int 0, .int 0, .int 0, .int 0, .ref g31, .ref g32, .ref g33, .ref g34, .int 0, .int 0, .int 0, .int 0, .int 0, .int 0, .int 0, .ref g35, .ref g36, .ref g37, .int 0, .ref g38, .int 0, .int 0, .int 0, .int 0, .int 0, .int 0, .int 0, .int 0, .int 0, .int 0, .int 0, .int 0, .int 0, .int 0, .int 0, .int 0, .ref g39, .ref g40, .ref g41, .ref g42, .ref g43, .ref g44, .ref h2, .ref h1, .int 0])), (h1, .inl (cI, 33, .inl (fun _ => 0))), (h2, .inl (cI, 4096, .inl (fun _ => 0)))]) (w1 := []) hP hD [] [0, 1, 2] rfl rfl (by decide) (by decide) hk1 hFc hP1 hD1
  clear hP1 hK1 hD1
  clear hP hD hS hPc hDc hFc hk1 hz1 ht hvm
  have hP1 := hP2
  have hD1 := hD2
  clear hP2 hD2
  have hP : va_P (dC, dI) vwCl [(h0, .inr (12, [.ref g0, .ref g1, .int 0, .int 0, .ref g2, .ref g3, .ref g4, .int 0, .int 0, .ref g5, .ref g6, .ref g7, .ref g8, .int 0, .int 0, .int 0, .ref g9, .ref g10, .ref g11, .ref g12, .ref g13, .ref g14, .ref g15, .ref g16, .int 0, .ref g17, .ref g18, .ref g19, .ref g20, .ref g21, .ref g22, .ref g23, .ref g24, .ref g25, .ref g26, .int 0, .int 0, .int 0, .ref g27, .ref g28, .ref g29, .ref g30, .int 0, .int 0, .int 0, .int 0, .int 0, .int 0, .int 0, .int 0, .int 0, .int 0, .int 0, .int 0, .int 0, .int 0, .ref g31, .ref g32, .ref g33, .ref g34, .int 0, .int 0, .int 0, .int 0, .int 0, .int 0, .int 0, .ref g35, .ref g36, .ref g37, .int 0, .ref g38, .int 0, .int 0, .int 0, .int 0, .int 0, .int 0, .int 0, .int 0, .int 0, .int 0, .int 0, .int 0, .int 0, .int 0, .int 0, .int 0, .ref g39, .ref g40, .ref g41, .ref g42, .ref g43, .ref g44, .ref h2, .ref h1, .int 0])), (h1, .inl (cI, 33, .inl (fun _ => 0))), (h2, .inl (cI, 4096, .inl (fun _ => 0)))] H_11 := hP1
  have hD : va_D A [(h0, .inr (12, [.ref g0, .ref g1, .int 0, .int 0, .ref g2, .ref g3, .ref g4, .int 0, .int 0, .ref g5, .ref g6, .ref g7, .ref g8, .int 0, .int 0, .int 0, .ref g9, .ref g10, .ref g11, .ref g12, .ref g13, .ref g14, .ref g15, .ref g16, .int 0, .ref g17, .ref g18, .ref g19, .ref g20, .ref g21, .ref g22, .ref g23, .ref g24, .ref g25, .ref g26, .int 0, .int 0, .int 0, .ref g27, .ref g28, .ref g29, .ref g30, .int 0, .int 0, .int 0, .int 0, .int 0, .int 0, .int 0, .int 0, .int 0, .int 0, .int 0, .int 0, .int 0, .int 0, .ref g31, .ref g32, .ref g33, .ref g34, .int 0, .int 0, .int 0, .int 0, .int 0, .int 0, .int 0, .ref g35, .ref g36, .ref g37, .int 0, .ref g38, .int 0, .int 0, .int 0, .int 0, .int 0, .int 0, .int 0, .int 0, .int 0, .int 0, .int 0, .int 0, .int 0, .int 0, .int 0, .int 0, .ref g39, .ref g40, .ref g41, .ref g42, .ref g43, .ref g44, .ref h2, .ref h1, .int 0])), (h1, .inl (cI, 33, .inl (fun _ => 0))), (h2, .inl (cI, 4096, .inl (fun _ => 0)))] := hD1
  have hS := hS1
  clear hP1 hD1 hS1
  obtain rfl := hw
  refine va_iald hx hb hK hP 1 0 rfl rfl (my_in (by decide)) dX12_oneWord_84 ?_
  refine my_top 0 (rfl) ?_
  refine lv_istore (lv' := [(7, .int 0), (6, .int 0), (5, .int 0), (4, .int 0), (3, .int 0), (2, .int 0), (1, .int 0), (0, .ref h0)]) hx hb dX12_oneWord_85 hl (by decide) rfl (fun ls hl => ?_)
  refine lv_iload_n hx hb dX12_oneWord_87 rfl (lv_at hl 5 rfl) ?_
  refine lv_bipush (v := 20) hx hb dX12_oneWord_88 (by decide) ?_
  refine lv_ishr hx hb dX12_oneWord_90 ?_
  refine my_top 0 (by decide) ?_
  refine lv_istore (lv' := [(8, .int 0), (7, .int 0), (6, .int 0), (5, .int 0), (4, .int 0), (3, .int 0), (2, .int 0), (1, .int 0), (0, .ref h0)]) hx hb dX12_oneWord_91 hl (by decide) rfl (fun ls hl => ?_)
  refine lv_iload_n hx hb dX12_oneWord_93 rfl (lv_at hl 6 rfl) ?_
  refine lv_iconst (v := 0) hx hb dX12_oneWord_94 (by decide) ?_
  refine lv_bipush (v := 7) hx hb dX12_oneWord_95 (by decide) ?_
  have hPc := hP.sub (ws' := []) [] rfl
  have hDc := hD.sub (ws' := []) [] (by decide) rfl
  have hFc := va_free (wc := []) hD hS hA [] rfl
  refine va_calli (va_runS (As := [.int 0, .int 0, .int 7]) (rest := []) ⟨hx, hb, hml, hown, hts⟩ (kX12_part_v5 l dC dI cI cB cZ H_11.size ) (va_cwS 3 hts g_kX12_oneWord_7 rfl rfl rfl (by decide +kernel) ⟨Nat.le_of_ble_eq_true rfl, Nat.le_of_ble_eq_true rfl⟩) ⟨fun a U g mk q => by obtain ⟨q0, q1, qP, qK, qD⟩ := q; exact ⟨q0, q1, qP, va_K.moved (u := U) (U := U.calling g mk a) (Vm.Alike.refl U.vm) qK, qD⟩, fun U hU hW => ⟨rfl, by rw [hU], by rw [hU]; exact hPc, va_K.moved hW.alike hK, hDc.weaken (fun _ _ _ _ => trivial)⟩⟩ rfl rfl hl.1 rfl (lv_room (Nat.le_of_ble_eq_true rfl)) dX12_oneWord_97 ⟨Nat.le_of_ble_eq_true rfl, Nat.le_of_ble_eq_true rfl⟩) hS (fun q _ h => hFc q h) hFc (fun r_14 u t H_13 locs ht hvm hw hB hz1 hk1 hS1 => ?_)
  obtain ⟨hP1, hK1, hD1⟩ := hB
  rw [ht] at hP1
  obtain ⟨hP2, hD2⟩ := va_join (wr := [(h0, .inr (12, [.ref g0, .ref g1, .int 0, .int 0, .ref g2, .ref g3, .ref g4, .int 0, .int 0, .ref g5, .ref g6, .ref g7, .ref g8, .int 0, .int 0, .int 0, .ref g9, .ref g10, .ref g11, .ref g12, .ref g13, .ref g14, .ref g15, .ref g16, .int 0, .ref g17, .ref g18, .ref g19, .ref g20, .ref g21, .ref g22, .ref g23, .ref g24, .ref g25, .ref g26, .int 0, .int 0, .int 0, .ref g27, .ref g28, .ref g29, .ref g30, .int 0, .int 0, .int 0, .int 0, .int 0, .int 0, .int 0, .int 0, .int 0, .int 0, .int 0, .int 0, .int 0, .int 0, .ref g31, .ref g32, .ref g33, .ref g34, .int 0, .int 0, .int 0, .int 0, .int 0, .int 0, .int 0, .ref g35, .ref g36, .ref g37, .int 0, .ref g38, .int 0, .int 0, .int 0, .int 0, .int 0, .int 0, .int 0, .int 0, .int 0, .int 0, .int 0, .int 0, .int 0, .int 0, .int 0, .int 0, .ref g39, .ref g40, .ref g41, .ref g42, .ref g43, .ref g44, .ref h2, .ref h1, .int 0])), (h1, .inl (cI, 33, .inl (fun _ => 0))), (h2, .inl (cI, 4096, .inl (fun _ => 0)))]) (w1 := []) hP hD [] [0, 1, 2] rfl rfl (by decide) (by decide) hk1 hFc hP1 hD1
  clear hP1 hK1 hD1
  clear hP hD hS hPc hDc hFc hk1 hz1 ht hvm
  have hP1 := hP2
  have hD1 := hD2
  clear hP2 hD2
  have hP : va_P (dC, dI) vwCl [(h0, .inr (12, [.ref g0, .ref g1, .int 0, .int 0, .ref g2, .ref g3, .ref g4, .int 0, .int 0, .ref g5, .ref g6, .ref g7, .ref g8, .int 0, .int 0, .int 0, .ref g9, .ref g10, .ref g11, .ref g12, .ref g13, .ref g14, .ref g15, .ref g16, .int 0, .ref g17, .ref g18, .ref g19, .ref g20, .ref g21, .ref g22, .ref g23, .ref g24, .ref g25, .ref g26, .int 0, .int 0, .int 0, .ref g27, .ref g28, .ref g29, .ref g30, .int 0, .int 0, .int 0, .int 0, .int 0, .int 0, .int 0, .int 0, .int 0, .int 0, .int 0, .int 0, .int 0, .int 0, .ref g31, .ref g32, .ref g33, .ref g34, .int 0, .int 0, .int 0, .int 0, .int 0, .int 0, .int 0, .ref g35, .ref g36, .ref g37, .int 0, .ref g38, .int 0, .int 0, .int 0, .int 0, .int 0, .int 0, .int 0, .int 0, .int 0, .int 0, .int 0, .int 0, .int 0, .int 0, .int 0, .int 0, .ref g39, .ref g40, .ref g41, .ref g42, .ref g43, .ref g44, .ref h2, .ref h1, .int 0])), (h1, .inl (cI, 33, .inl (fun _ => 0))), (h2, .inl (cI, 4096, .inl (fun _ => 0)))] H_13 := hP1
  have hD : va_D A [(h0, .inr (12, [.ref g0, .ref g1, .int 0, .int 0, .ref g2, .ref g3, .ref g4, .int 0, .int 0, .ref g5, .ref g6, .ref g7, .ref g8, .int 0, .int 0, .int 0, .ref g9, .ref g10, .ref g11, .ref g12, .ref g13, .ref g14, .ref g15, .ref g16, .int 0, .ref g17, .ref g18, .ref g19, .ref g20, .ref g21, .ref g22, .ref g23, .ref g24, .ref g25, .ref g26, .int 0, .int 0, .int 0, .ref g27, .ref g28, .ref g29, .ref g30, .int 0, .int 0, .int 0, .int 0, .int 0, .int 0, .int 0, .int 0, .int 0, .int 0, .int 0, .int 0, .int 0, .int 0, .ref g31, .ref g32, .ref g33, .ref g34, .int 0, .int 0, .int 0, .int 0, .int 0, .int 0, .int 0, .ref g35, .ref g36, .ref g37, .int 0, .ref g38, .int 0, .int 0, .int 0, .int 0, .int 0, .int 0, .int 0, .int 0, .int 0, .int 0, .int 0, .int 0, .int 0, .int 0, .int 0, .int 0, .ref g39, .ref g40, .ref g41, .ref g42, .ref g43, .ref g44, .ref h2, .ref h1, .int 0])), (h1, .inl (cI, 33, .inl (fun _ => 0))), (h2, .inl (cI, 4096, .inl (fun _ => 0)))] := hD1
  have hS := hS1
  clear hP1 hD1 hS1
  obtain rfl := hw
  refine lv_lookup (off := 346) (tgt := 446) hx hb dX12_oneWord_100 (by decide) (by decide) (by decide) ?_
  refine lv_iload_n hx hb dX12_oneWord_446 rfl (lv_at hl 6 rfl) ?_
  refine lv_bipush (v := 115) hx hb dX12_oneWord_447 (by decide) ?_
  refine lv_icmp_eq (tgt := 461) hx hb dX12_oneWord_449 (by decide) (fun c_0 => absurd c_0 (by decide)) (fun _ => ?_)
  refine lv_iload_n hx hb dX12_oneWord_452 rfl (lv_at hl 6 rfl) ?_
  refine lv_ldcw (v := 1048691) hx hb hown (hts (Cond.constant RX12 610 (1048691)) (List.mem_cons_of_mem _ (List.mem_append_left _ (List.mem_of_getElem? (i := 2) rfl)))) dX12_oneWord_453 ?_
  refine lv_icmp_eq (tgt := 461) hx hb dX12_oneWord_456 (by decide) (fun c_0 => absurd c_0 (by decide)) (fun _ => ?_)
  refine lv_iconst (v := 2) hx hb dX12_oneWord_459 (by decide) ?_
  have hP9 := hP.sub (ws' := [(h0, .inr (12, [.ref g0, .ref g1, .int 0, .int 0, .ref g2, .ref g3, .ref g4, .int 0, .int 0, .ref g5, .ref g6, .ref g7, .ref g8, .int 0, .int 0, .int 0, .ref g9, .ref g10, .ref g11, .ref g12, .ref g13, .ref g14, .ref g15, .ref g16, .int 0, .ref g17, .ref g18, .ref g19, .ref g20, .ref g21, .ref g22, .ref g23, .ref g24, .ref g25, .ref g26, .int 0, .int 0, .int 0, .ref g27, .ref g28, .ref g29, .ref g30, .int 0, .int 0, .int 0, .int 0, .int 0, .int 0, .int 0, .int 0, .int 0, .int 0, .int 0, .int 0, .int 0, .int 0, .ref g31, .ref g32, .ref g33, .ref g34, .int 0, .int 0, .int 0, .int 0, .int 0, .int 0, .int 0, .ref g35, .ref g36, .ref g37, .int 0, .ref g38, .int 0, .int 0, .int 0, .int 0, .int 0, .int 0, .int 0, .int 0, .int 0, .int 0, .int 0, .int 0, .int 0, .int 0, .int 0, .int 0, .ref g39, .ref g40, .ref g41, .ref g42, .ref g43, .ref g44, .ref h2, .ref h1, .int 0])), (h1, .inl (cI, 33, .inl (fun _ => 0))), (h2, .inl (cI, 4096, .inl (fun _ => 0)))]) [0, 1, 2] rfl
  have hD9 := hD.sub (ws' := [(h0, .inr (12, [.ref g0, .ref g1, .int 0, .int 0, .ref g2, .ref g3, .ref g4, .int 0, .int 0, .ref g5, .ref g6, .ref g7, .ref g8, .int 0, .int 0, .int 0, .ref g9, .ref g10, .ref g11, .ref g12, .ref g13, .ref g14, .ref g15, .ref g16, .int 0, .ref g17, .ref g18, .ref g19, .ref g20, .ref g21, .ref g22, .ref g23, .ref g24, .ref g25, .ref g26, .int 0, .int 0, .int 0, .ref g27, .ref g28, .ref g29, .ref g30, .int 0, .int 0, .int 0, .int 0, .int 0, .int 0, .int 0, .int 0, .int 0, .int 0, .int 0, .int 0, .int 0, .int 0, .ref g31, .ref g32, .ref g33, .ref g34, .int 0, .int 0, .int 0, .int 0, .int 0, .int 0, .int 0, .ref g35, .ref g36, .ref g37, .int 0, .ref g38, .int 0, .int 0, .int 0, .int 0, .int 0, .int 0, .int 0, .int 0, .int 0, .int 0, .int 0, .int 0, .int 0, .int 0, .int 0, .int 0, .ref g39, .ref g40, .ref g41, .ref g42, .ref g43, .ref g44, .ref h2, .ref h1, .int 0])), (h1, .inl (cI, 33, .inl (fun _ => 0))), (h2, .inl (cI, 4096, .inl (fun _ => 0)))]) [0, 1, 2] (by decide) rfl
  refine W.widen (k := 0) (n := 0) (by decide) (by decide) ?_
  exact W.iret (v := 2) hx hb hr (fun t ht hW => ⟨⟨2, (), rfl, rfl, by rw [ht]; exact hP9, va_K.moved hW.alike hK, hD9⟩, hS.F ht⟩) hS.2.2 dX12_oneWord_460
def vs_kX12_go : List Cond := Cond.code yX12_go cX12_go 4 (some .int) :: (([] : List Cond) ++ (wsV RX12 573 RX12 yX12_oneWord vs_kX12_oneWord))
theorem g_kX12_go_0 : GoodIn vs_kX12_go (wsV RX12 573 RX12 yX12_oneWord vs_kX12_oneWord) := fun w h => ⟨List.mem_cons_of_mem _ (List.mem_append_right _ h), good_of_word (List.all_eq_true.mp (show (wsV RX12 573 RX12 yX12_oneWord vs_kX12_oneWord).all goodWord = true by decide +kernel) w h)⟩
def sp_kX12_go (p0 : Int32) : Int32 := if p0 < 1 then (-1) else (if p0 ≤ 1000 then if p0 ≤ 0 then 0 else (if p0 ≤ 1 then 2 else (2)) else ((-1)))
set_option maxHeartbeats 4000000 in
set_option maxRecDepth 100000 in
theorem kX12_go (l : Launch) (dC : Nat → ClassId) (dI : Nat → Nat → Nat) (cI cB cZ : ClassId) (h0 : Nat) (h1 : Nat) (h2 : Nat) (g0 : Nat) (g1 : Nat) (g2 : Nat) (g3 : Nat) (g4 : Nat) (g5 : Nat) (g6 : Nat) (g7 : Nat) (g8 : Nat) (g9 : Nat) (g10 : Nat) (g11 : Nat) (g12 : Nat) (g13 : Nat) (g14 : Nat) (g15 : Nat) (g16 : Nat) (g17 : Nat) (g18 : Nat) (g19 : Nat) (g20 : Nat) (g21 : Nat) (g22 : Nat) (g23 : Nat) (g24 : Nat) (g25 : Nat) (g26 : Nat) (g27 : Nat) (g28 : Nat) (g29 : Nat) (g30 : Nat) (g31 : Nat) (g32 : Nat) (g33 : Nat) (g34 : Nat) (g35 : Nat) (g36 : Nat) (g37 : Nat) (g38 : Nat) (g39 : Nat) (g40 : Nat) (g41 : Nat) (g42 : Nat) (g43 : Nat) (g44 : Nat) (sz : Nat) (p0 : Int32) : Met l yX12_go vs_kX12_go ({ frames := 2, cells := 0, slots := 0, locals := 50 }) (va_Pc [.ref h0, .int p0] (fun U => U.heap.size = sz ∧ va_P (dC, dI) vwCl [(h0, .inr (12, [.ref g0, .ref g1, .int 0, .int 0, .ref g2, .ref g3, .ref g4, .int 0, .int 0, .ref g5, .ref g6, .ref g7, .ref g8, .int 0, .int 0, .int 0, .ref g9, .ref g10, .ref g11, .ref g12, .ref g13, .ref g14, .ref g15, .ref g16, .int 0, .ref g17, .ref g18, .ref g19, .ref g20, .ref g21, .ref g22, .ref g23, .ref g24, .ref g25, .ref g26, .int 0, .int 0, .int 0, .ref g27, .ref g28, .ref g29, .ref g30, .int 0, .int 0, .int 0, .int 0, .int 0, .int 0, .int 0, .int 0, .int 0, .int 0, .int 0, .int 0, .int 0, .int 0, .ref g31, .ref g32, .ref g33, .ref g34, .int 0, .int 0, .int 0, .int 0, .int 0, .int 0, .int 0, .ref g35, .ref g36, .ref g37, .int 0, .ref g38, .int 0, .int 0, .int 0, .int 0, .int 0, .int 0, .int 0, .int 0, .int 0, .int 0, .int 0, .int 0, .int 0, .int 0, .int 0, .int 0, .ref g39, .ref g40, .ref g41, .ref g42, .ref g43, .ref g44, .ref h2, .ref h1, .int 0])), (h1, .inl (cI, 33, .inl (fun _ => 0))), (h2, .inl (cI, 4096, .inl (fun _ => 0)))] U.heap ∧ va_K (dC, dI) vwCl (ty3 cI cB cZ) U ∧ va_D (fun _ => True) [(h0, .inr (12, [.ref g0, .ref g1, .int 0, .int 0, .ref g2, .ref g3, .ref g4, .int 0, .int 0, .ref g5, .ref g6, .ref g7, .ref g8, .int 0, .int 0, .int 0, .ref g9, .ref g10, .ref g11, .ref g12, .ref g13, .ref g14, .ref g15, .ref g16, .int 0, .ref g17, .ref g18, .ref g19, .ref g20, .ref g21, .ref g22, .ref g23, .ref g24, .ref g25, .ref g26, .int 0, .int 0, .int 0, .ref g27, .ref g28, .ref g29, .ref g30, .int 0, .int 0, .int 0, .int 0, .int 0, .int 0, .int 0, .int 0, .int 0, .int 0, .int 0, .int 0, .int 0, .int 0, .ref g31, .ref g32, .ref g33, .ref g34, .int 0, .int 0, .int 0, .int 0, .int 0, .int 0, .int 0, .ref g35, .ref g36, .ref g37, .int 0, .ref g38, .int 0, .int 0, .int 0, .int 0, .int 0, .int 0, .int 0, .int 0, .int 0, .int 0, .int 0, .int 0, .int 0, .int 0, .int 0, .int 0, .ref g39, .ref g40, .ref g41, .ref g42, .ref g43, .ref g44, .ref h2, .ref h1, .int 0])), (h1, .inl (cI, 33, .inl (fun _ => 0))), (h2, .inl (cI, 4096, .inl (fun _ => 0)))])) (va_Qi (fun (r : Int32) (_ : Unit) => r = sp_kX12_go p0) (fun (_ : Unit) (_ : State) => True) (va_A [(h0, .inr (12, [.ref g0, .ref g1, .int 0, .int 0, .ref g2, .ref g3, .ref g4, .int 0, .int 0, .ref g5, .ref g6, .ref g7, .ref g8, .int 0, .int 0, .int 0, .ref g9, .ref g10, .ref g11, .ref g12, .ref g13, .ref g14, .ref g15, .ref g16, .int 0, .ref g17, .ref g18, .ref g19, .ref g20, .ref g21, .ref g22, .ref g23, .ref g24, .ref g25, .ref g26, .int 0, .int 0, .int 0, .ref g27, .ref g28, .ref g29, .ref g30, .int 0, .int 0, .int 0, .int 0, .int 0, .int 0, .int 0, .int 0, .int 0, .int 0, .int 0, .int 0, .int 0, .int 0, .ref g31, .ref g32, .ref g33, .ref g34, .int 0, .int 0, .int 0, .int 0, .int 0, .int 0, .int 0, .ref g35, .ref g36, .ref g37, .int 0, .ref g38, .int 0, .int 0, .int 0, .int 0, .int 0, .int 0, .int 0, .int 0, .int 0, .int 0, .int 0, .int 0, .int 0, .int 0, .int 0, .int 0, .ref g39, .ref g40, .ref g41, .ref g42, .ref g43, .ref g44, .ref h2, .ref h1, .int 0])), (h1, .inl (cI, 33, .inl (fun _ => 0))), (h2, .inl (cI, 4096, .inl (fun _ => 0)))] sz)) 0 0 (va_A [(h0, .inr (12, [.ref g0, .ref g1, .int 0, .int 0, .ref g2, .ref g3, .ref g4, .int 0, .int 0, .ref g5, .ref g6, .ref g7, .ref g8, .int 0, .int 0, .int 0, .ref g9, .ref g10, .ref g11, .ref g12, .ref g13, .ref g14, .ref g15, .ref g16, .int 0, .ref g17, .ref g18, .ref g19, .ref g20, .ref g21, .ref g22, .ref g23, .ref g24, .ref g25, .ref g26, .int 0, .int 0, .int 0, .ref g27, .ref g28, .ref g29, .ref g30, .int 0, .int 0, .int 0, .int 0, .int 0, .int 0, .int 0, .int 0, .int 0, .int 0, .int 0, .int 0, .int 0, .int 0, .ref g31, .ref g32, .ref g33, .ref g34, .int 0, .int 0, .int 0, .int 0, .int 0, .int 0, .int 0, .ref g35, .ref g36, .ref g37, .int 0, .ref g38, .int 0, .int 0, .int 0, .int 0, .int 0, .int 0, .int 0, .int 0, .int 0, .int 0, .int 0, .int 0, .int 0, .int 0, .int 0, .int 0, .ref g39, .ref g40, .ref g41, .ref g42, .ref g43, .ref g44, .ref h2, .ref h1, .int 0])), (h1, .inl (cI, 33, .inl (fun _ => 0))), (h2, .inl (cI, 4096, .inl (fun _ => 0)))] sz) := by
  refine Met.ofW (cc := cX12_go) (maxL := 4) (ret := (some .int)) (by decide) rfl ?_
  intro p e s m args below meth c s₁ B hml hv
  obtain ⟨rfl, hsz, hP, hK, hD0⟩ := hv
  have hx := B.exec
  have hb := B.bytes
  have hr := B.returns
  have hts := atoms_spec (ws := vs_kX12_go) B.pre
  have hown : s.vm.findClass RX12 = some m.cls := findClass_of_methodNamed B.named
  have hlocks := B.notSynchronized
  subst hsz
  have hD := hD0.self (sz := s.heap.size)
  clear hD0
  generalize hAe : va_A [(h0, .inr (12, [.ref g0, .ref g1, .int 0, .int 0, .ref g2, .ref g3, .ref g4, .int 0, .int 0, .ref g5, .ref g6, .ref g7, .ref g8, .int 0, .int 0, .int 0, .ref g9, .ref g10, .ref g11, .ref g12, .ref g13, .ref g14, .ref g15, .ref g16, .int 0, .ref g17, .ref g18, .ref g19, .ref g20, .ref g21, .ref g22, .ref g23, .ref g24, .ref g25, .ref g26, .int 0, .int 0, .int 0, .ref g27, .ref g28, .ref g29, .ref g30, .int 0, .int 0, .int 0, .int 0, .int 0, .int 0, .int 0, .int 0, .int 0, .int 0, .int 0, .int 0, .int 0, .int 0, .ref g31, .ref g32, .ref g33, .ref g34, .int 0, .int 0, .int 0, .int 0, .int 0, .int 0, .int 0, .ref g35, .ref g36, .ref g37, .int 0, .ref g38, .int 0, .int 0, .int 0, .int 0, .int 0, .int 0, .int 0, .int 0, .int 0, .int 0, .int 0, .int 0, .int 0, .int 0, .int 0, .int 0, .ref g39, .ref g40, .ref g41, .ref g42, .ref g43, .ref g44, .ref h2, .ref h1, .int 0])), (h1, .inl (cI, 33, .inl (fun _ => 0))), (h2, .inl (cI, 4096, .inl (fun _ => 0)))] s.heap.size = A at hD ⊢
  have hA : ∀ q : Nat, s.heap.size ≤ q → A q := fun q h => by rw [← hAe]; exact Or.inr h
  clear hAe
  have hS : va_S A s.heap s.heap [] := va_S.rf
  have hl := lv_entry ([.ref h0, .int p0]) (n := 4) (Nat.le_of_ble_eq_true rfl)
  rw [lg_entry_eq]
  generalize (lg_sl ([.ref h0, .int p0]) ++ List.replicate (4 - (lg_sl ([.ref h0, .int p0])).length) Slot.unset).toArray = ls at hl ⊢
  replace hl : lv_has ls 4 [(0, .ref h0), (1, .int p0)] := hl
  refine my_st (fun H locs eH el => ?_)
  replace hP : va_P (dC, dI) vwCl [(h0, .inr (12, [.ref g0, .ref g1, .int 0, .int 0, .ref g2, .ref g3, .ref g4, .int 0, .int 0, .ref g5, .ref g6, .ref g7, .ref g8, .int 0, .int 0, .int 0, .ref g9, .ref g10, .ref g11, .ref g12, .ref g13, .ref g14, .ref g15, .ref g16, .int 0, .ref g17, .ref g18, .ref g19, .ref g20, .ref g21, .ref g22, .ref g23, .ref g24, .ref g25, .ref g26, .int 0, .int 0, .int 0, .ref g27, .ref g28, .ref g29, .ref g30, .int 0, .int 0, .int 0, .int 0, .int 0, .int 0, .int 0, .int 0, .int 0, .int 0, .int 0, .int 0, .int 0, .int 0, .ref g31, .ref g32, .ref g33, .ref g34, .int 0, .int 0, .int 0, .int 0, .int 0, .int 0, .int 0, .ref g35, .ref g36, .ref g37, .int 0, .ref g38, .int 0, .int 0, .int 0, .int 0, .int 0, .int 0, .int 0, .int 0, .int 0, .int 0, .int 0, .int 0, .int 0, .int 0, .int 0, .int 0, .ref g39, .ref g40, .ref g41, .ref g42, .ref g43, .ref g44, .ref h2, .ref h1, .int 0])), (h1, .inl (cI, 33, .inl (fun _ => 0))), (h2, .inl (cI, 4096, .inl (fun _ => 0)))] H := by rw [eH]; exact hP
  replace hS : va_S A s.heap H locs := by rw [eH, el]; exact hS
  clear eH el
  refine lv_iload_n hx hb dX12_go_0 rfl (lv_at hl 1 rfl) ?_
  refine lv_iconst (v := 1) hx hb dX12_go_1 (by decide) ?_
  refine lv_icmp_lt (tgt := 12) hx hb dX12_go_2 (by decide) (fun c_1 => ?_) (fun c_1 => ?_)
  · refine lv_iconst (v := (-1)) hx hb dX12_go_12 (by decide) ?_
    exact W.iret (v := (-1)) hx hb hr (fun t ht hW => ⟨⟨(-1), (), rfl, by unfold sp_kX12_go; rw [if_pos c_1], trivial⟩, hS.F ht⟩) hS.2.2 dX12_go_13
  · refine lv_iload_n hx hb dX12_go_5 rfl (lv_at hl 1 rfl) ?_
    refine lv_sipush (v := 1000) hx hb dX12_go_6 (by decide) ?_
    refine lv_icmp_le (tgt := 14) hx hb dX12_go_9 (by decide) (fun c_2 => ?_) (fun c_2 => ?_)
    · refine lv_iconst (v := 0) hx hb dX12_go_14 (by decide) ?_
      refine lv_istore_n (lv' := [(2, .int 0), (0, .ref h0), (1, .int p0)]) hx hb dX12_go_15 rfl hl (by decide) rfl (fun ls hl => ?_)
      refine lv_iconst (v := 0) hx hb dX12_go_16 (by decide) ?_
      refine lv_istore_n (lv' := [(3, .int 0), (2, .int 0), (0, .ref h0), (1, .int p0)]) hx hb dX12_go_17 rfl hl (by decide) rfl (fun ls hl => ?_)
      refine lv_iload_n hx hb dX12_go_18 rfl (lv_at hl 0 rfl) ?_
      refine lv_iload_n hx hb dX12_go_19 rfl (lv_at hl 3 rfl) ?_
      refine lv_icmp_ge (tgt := 38) hx hb dX12_go_20 (by decide) (fun c_3 => ?_) (fun c_3 => ?_)
      · refine lv_iload_n hx hb dX12_go_38 rfl (lv_at hl 1 rfl) ?_
        exact W.iret (v := 0) hx hb hr (fun t ht hW => ⟨⟨0, (), rfl, by unfold sp_kX12_go; rw [if_neg c_1, if_pos c_2, if_pos c_3], trivial⟩, hS.F ht⟩) hS.2.2 dX12_go_39
      · refine lv_iload_n hx hb dX12_go_23 rfl (lv_at hl 1 rfl) ?_
        refine lv_if_ne (tgt := 38) hx hb dX12_go_24 (by decide) (fun c_0 => absurd (by decide) c_0) (fun _ => ?_)
        refine lv_aload_n hx hb dX12_go_27 rfl (lv_at hl 2 rfl) ?_
        have hPc := hP.sub (ws' := [(h0, .inr (12, [.ref g0, .ref g1, .int 0, .int 0, .ref g2, .ref g3, .ref g4, .int 0, .int 0, .ref g5, .ref g6, .ref g7, .ref g8, .int 0, .int 0, .int 0, .ref g9, .ref g10, .ref g11, .ref g12, .ref g13, .ref g14, .ref g15, .ref g16, .int 0, .ref g17, .ref g18, .ref g19, .ref g20, .ref g21, .ref g22, .ref g23, .ref g24, .ref g25, .ref g26, .int 0, .int 0, .int 0, .ref g27, .ref g28, .ref g29, .ref g30, .int 0, .int 0, .int 0, .int 0, .int 0, .int 0, .int 0, .int 0, .int 0, .int 0, .int 0, .int 0, .int 0, .int 0, .ref g31, .ref g32, .ref g33, .ref g34, .int 0, .int 0, .int 0, .int 0, .int 0, .int 0, .int 0, .ref g35, .ref g36, .ref g37, .int 0, .ref g38, .int 0, .int 0, .int 0, .int 0, .int 0, .int 0, .int 0, .int 0, .int 0, .int 0, .int 0, .int 0, .int 0, .int 0, .int 0, .int 0, .ref g39, .ref g40, .ref g41, .ref g42, .ref g43, .ref g44, .ref h2, .ref h1, .int 0])), (h1, .inl (cI, 33, .inl (fun _ => 0))), (h2, .inl (cI, 4096, .inl (fun _ => 0)))]) [0, 1, 2] rfl
        have hDc := hD.sub (ws' := [(h0, .inr (12, [.ref g0, .ref g1, .int 0, .int 0, .ref g2, .ref g3, .ref g4, .int 0, .int 0, .ref g5, .ref g6, .ref g7, .ref g8, .int 0, .int 0, .int 0, .ref g9, .ref g10, .ref g11, .ref g12, .ref g13, .ref g14, .ref g15, .ref g16, .int 0, .ref g17, .ref g18, .ref g19, .ref g20, .ref g21, .ref g22, .ref g23, .ref g24, .ref g25, .ref g26, .int 0, .int 0, .int 0, .ref g27, .ref g28, .ref g29, .ref g30, .int 0, .int 0, .int 0, .int 0, .int 0, .int 0, .int 0, .int 0, .int 0, .int 0, .int 0, .int 0, .int 0, .int 0, .ref g31, .ref g32, .ref g33, .ref g34, .int 0, .int 0, .int 0, .int 0, .int 0, .int 0, .int 0, .ref g35, .ref g36, .ref g37, .int 0, .ref g38, .int 0, .int 0, .int 0, .int 0, .int 0, .int 0, .int 0, .int 0, .int 0, .int 0, .int 0, .int 0, .int 0, .int 0, .int 0, .int 0, .ref g39, .ref g40, .ref g41, .ref g42, .ref g43, .ref g44, .ref h2, .ref h1, .int 0])), (h1, .inl (cI, 33, .inl (fun _ => 0))), (h2, .inl (cI, 4096, .inl (fun _ => 0)))]) [0, 1, 2] (by decide) rfl
        have hFc := va_free (wc := [(h0, .inr (12, [.ref g0, .ref g1, .int 0, .int 0, .ref g2, .ref g3, .ref g4, .int 0, .int 0, .ref g5, .ref g6, .ref g7, .ref g8, .int 0, .int 0, .int 0, .ref g9, .ref g10, .ref g11, .ref g12, .ref g13, .ref g14, .ref g15, .ref g16, .int 0, .ref g17, .ref g18, .ref g19, .ref g20, .ref g21, .ref g22, .ref g23, .ref g24, .ref g25, .ref g26, .int 0, .int 0, .int 0, .ref g27, .ref g28, .ref g29, .ref g30, .int 0, .int 0, .int 0, .int 0, .int 0, .int 0, .int 0, .int 0, .int 0, .int 0, .int 0, .int 0, .int 0, .int 0, .ref g31, .ref g32, .ref g33, .ref g34, .int 0, .int 0, .int 0, .int 0, .int 0, .int 0, .int 0, .ref g35, .ref g36, .ref g37, .int 0, .ref g38, .int 0, .int 0, .int 0, .int 0, .int 0, .int 0, .int 0, .int 0, .int 0, .int 0, .int 0, .int 0, .int 0, .int 0, .int 0, .int 0, .ref g39, .ref g40, .ref g41, .ref g42, .ref g43, .ref g44, .ref h2, .ref h1, .int 0])), (h1, .inl (cI, 33, .inl (fun _ => 0))), (h2, .inl (cI, 4096, .inl (fun _ => 0)))]) hD hS hA [0, 1, 2] rfl
        refine va_calli (va_runV (As := []) (rest := []) ⟨hx, hb, hml, hown, hts⟩ (kX12_oneWord l dC dI cI cB cZ h0 h1 h2 g0 g1 g2 g3 g4 g5 g6 g7 g8 g9 g10 g11 g12 g13 g14 g15 g16 g17 g18 g19 g20 g21 g22 g23 g24 g25 g26 g27 g28 g29 g30 g31 g32 g33 g34 g35 g36 g37 g38 g39 g40 g41 g42 g43 g44 H.size ) (cwV 0 hts g_kX12_go_0 rfl rfl rfl (by decide +kernel) ⟨Nat.le_of_ble_eq_true rfl, Nat.le_of_ble_eq_true rfl⟩) ⟨fun a U g mk q => by obtain ⟨q0, q1, qP, qK, qD⟩ := q; exact ⟨q0, q1, qP, va_K.moved (u := U) (U := U.calling g mk a) (Vm.Alike.refl U.vm) qK, qD⟩, va_recv hK hPc (ci := 12) (q0 := 0) rfl rfl, fun U hU hW => ⟨rfl, by rw [hU], by rw [hU]; exact hPc, va_K.moved hW.alike hK, hDc.weaken (fun _ _ _ _ => trivial)⟩⟩ rfl rfl hl.1 rfl (lv_room (Nat.le_of_ble_eq_true rfl)) dX12_go_28 ⟨Nat.le_of_ble_eq_true rfl, Nat.le_of_ble_eq_true rfl⟩) hS (fun q _ h => hFc q h) hFc (fun r_5 u t H_4 locs ht hvm hw hB hz1 hk1 hS1 => ?_)
        obtain ⟨hP1, hK1, hD1⟩ := hB
        rw [ht] at hP1
        obtain ⟨hP2, hD2⟩ := va_join (wr := []) (w1 := [(h0, .inr (12, [.ref g0, .ref g1, .int 0, .int 0, .ref g2, .ref g3, .ref g4, .int 0, .int 0, .ref g5, .ref g6, .ref g7, .ref g8, .int 0, .int 0, .int 0, .ref g9, .ref g10, .ref g11, .ref g12, .ref g13, .ref g14, .ref g15, .ref g16, .int 0, .ref g17, .ref g18, .ref g19, .ref g20, .ref g21, .ref g22, .ref g23, .ref g24, .ref g25, .ref g26, .int 0, .int 0, .int 0, .ref g27, .ref g28, .ref g29, .ref g30, .int 0, .int 0, .int 0, .int 0, .int 0, .int 0, .int 0, .int 0, .int 0, .int 0, .int 0, .int 0, .int 0, .int 0, .ref g31, .ref g32, .ref g33, .ref g34, .int 0, .int 0, .int 0, .int 0, .int 0, .int 0, .int 0, .ref g35, .ref g36, .ref g37, .int 0, .ref g38, .int 0, .int 0, .int 0, .int 0, .int 0, .int 0, .int 0, .int 0, .int 0, .int 0, .int 0, .int 0, .int 0, .int 0, .int 0, .int 0, .ref g39, .ref g40, .ref g41, .ref g42, .ref g43, .ref g44, .ref h2, .ref h1, .int 0])), (h1, .inl (cI, 33, .inl (fun _ => 0))), (h2, .inl (cI, 4096, .inl (fun _ => 0)))]) hP hD [0, 1, 2] [] rfl rfl (by decide) (by decide) hk1 hFc hP1 hD1
        clear hP1 hK1 hD1
        clear hP hD hS hPc hDc hFc hk1 hz1 ht hvm
        have hP1 := hP2
        have hD1 := hD2
        clear hP2 hD2
        have hP : va_P (dC, dI) vwCl [(h0, .inr (12, [.ref g0, .ref g1, .int 0, .int 0, .ref g2, .ref g3, .ref g4, .int 0, .int 0, .ref g5, .ref g6, .ref g7, .ref g8, .int 0, .int 0, .int 0, .ref g9, .ref g10, .ref g11, .ref g12, .ref g13, .ref g14, .ref g15, .ref g16, .int 0, .ref g17, .ref g18, .ref g19, .ref g20, .ref g21, .ref g22, .ref g23, .ref g24, .ref g25, .ref g26, .int 0, .int 0, .int 0, .ref g27, .ref g28, .ref g29, .ref g30, .int 0, .int 0, .int 0, .int 0, .int 0, .int 0, .int 0, .int 0, .int 0, .int 0, .int 0, .int 0, .int 0, .int 0, .ref g31, .ref g32, .ref g33, .ref g34, .int 0, .int 0, .int 0, .int 0, .int 0, .int 0, .int 0, .ref g35, .ref g36, .ref g37, .int 0, .ref g38, .int 0, .int 0, .int 0, .int 0, .int 0, .int 0, .int 0, .int 0, .int 0, .int 0, .int 0, .int 0, .int 0, .int 0, .int 0, .int 0, .ref g39, .ref g40, .ref g41, .ref g42, .ref g43, .ref g44, .ref h2, .ref h1, .int 0])), (h1, .inl (cI, 33, .inl (fun _ => 0))), (h2, .inl (cI, 4096, .inl (fun _ => 0)))] H_4 := hP1
        have hD : va_D A [(h0, .inr (12, [.ref g0, .ref g1, .int 0, .int 0, .ref g2, .ref g3, .ref g4, .int 0, .int 0, .ref g5, .ref g6, .ref g7, .ref g8, .int 0, .int 0, .int 0, .ref g9, .ref g10, .ref g11, .ref g12, .ref g13, .ref g14, .ref g15, .ref g16, .int 0, .ref g17, .ref g18, .ref g19, .ref g20, .ref g21, .ref g22, .ref g23, .ref g24, .ref g25, .ref g26, .int 0, .int 0, .int 0, .ref g27, .ref g28, .ref g29, .ref g30, .int 0, .int 0, .int 0, .int 0, .int 0, .int 0, .int 0, .int 0, .int 0, .int 0, .int 0, .int 0, .int 0, .int 0, .ref g31, .ref g32, .ref g33, .ref g34, .int 0, .int 0, .int 0, .int 0, .int 0, .int 0, .int 0, .ref g35, .ref g36, .ref g37, .int 0, .ref g38, .int 0, .int 0, .int 0, .int 0, .int 0, .int 0, .int 0, .int 0, .int 0, .int 0, .int 0, .int 0, .int 0, .int 0, .int 0, .int 0, .ref g39, .ref g40, .ref g41, .ref g42, .ref g43, .ref g44, .ref h2, .ref h1, .int 0])), (h1, .inl (cI, 33, .inl (fun _ => 0))), (h2, .inl (cI, 4096, .inl (fun _ => 0)))] := hD1
        have hS := hS1
        clear hP1 hD1 hS1
        obtain rfl := hw
        refine lv_istore_n (lv' := [(2, .int 2), (3, .int 0), (0, .ref h0), (1, .int p0)]) hx hb dX12_go_31 rfl hl (by decide) rfl (fun ls hl => ?_)
        refine lv_iinc (v := 1) (lv' := [(3, .int 1), (2, .int 2), (0, .ref h0), (1, .int p0)]) hx hb dX12_go_32 hl (k := 1) rfl (by decide) (by decide) rfl (fun ls hl => ?_)
        refine lv_goto (tgt := 18) hx hb dX12_go_35 (by decide) ?_
        refine lv_iload_n hx hb dX12_go_18 rfl (lv_at hl 0 rfl) ?_
        refine lv_iload_n hx hb dX12_go_19 rfl (lv_at hl 3 rfl) ?_
        refine lv_icmp_ge (tgt := 38) hx hb dX12_go_20 (by decide) (fun c_6 => ?_) (fun c_6 => ?_)
        · refine lv_iload_n hx hb dX12_go_38 rfl (lv_at hl 1 rfl) ?_
          exact W.iret (v := 2) hx hb hr (fun t ht hW => ⟨⟨2, (), rfl, by unfold sp_kX12_go; rw [if_neg c_1, if_pos c_2, if_neg c_3, if_pos c_6], trivial⟩, hS.F ht⟩) hS.2.2 dX12_go_39
        · refine lv_iload_n hx hb dX12_go_23 rfl (lv_at hl 1 rfl) ?_
          refine lv_if_ne (tgt := 38) hx hb dX12_go_24 (by decide) (fun _ => ?_) (fun c_0 => absurd c_0 (by decide))
          refine lv_iload_n hx hb dX12_go_38 rfl (lv_at hl 1 rfl) ?_
          exact W.iret (v := 2) hx hb hr (fun t ht hW => ⟨⟨2, (), rfl, by unfold sp_kX12_go; rw [if_neg c_1, if_pos c_2, if_neg c_3, if_neg c_6], trivial⟩, hS.F ht⟩) hS.2.2 dX12_go_39
    · refine lv_iconst (v := (-1)) hx hb dX12_go_12 (by decide) ?_
      exact W.iret (v := (-1)) hx hb hr (fun t ht hW => ⟨⟨(-1), (), rfl, by unfold sp_kX12_go; rw [if_neg c_1, if_neg c_2], trivial⟩, hS.F ht⟩) hS.2.2 dX12_go_13
def vs_kX12_board : List Cond := Cond.code yX12_board cX12_board 2 (some .int) :: (([Cond.fieldLink RX12 147 "CompiledHouseModel" "memory" "[I", Cond.fieldLink RX12 570 "CompiledHouseModel" "done" "I", Cond.fieldLink RX12 150 "CompiledHouseModel" "register" "[I"] : List Cond) ++ (wsX120))
theorem i_kX12_board_X12 : ∀ w ∈ wsX120, w ∈ vs_kX12_board := fun w h => List.mem_cons_of_mem _ (List.mem_append_right _ h)
def sp_kX12_board (p0 : Int32) : Int32 := if p0 < 0 then if p0 = 33 then 0 else (if p0 < 100 then (-1) else (if 4196 ≤ p0 then (-1) else (0))) else (if 33 ≤ p0 then if p0 = 33 then 0 else (if p0 < 100 then (-1) else (if 4196 ≤ p0 then (-1) else (0))) else (0))
set_option maxHeartbeats 4000000 in
set_option maxRecDepth 100000 in
theorem kX12_board (l : Launch) (dC : Nat → ClassId) (dI : Nat → Nat → Nat) (cI cB cZ : ClassId) (h0 : Nat) (h1 : Nat) (h2 : Nat) (g0 : Nat) (g1 : Nat) (g2 : Nat) (g3 : Nat) (g4 : Nat) (g5 : Nat) (g6 : Nat) (g7 : Nat) (g8 : Nat) (g9 : Nat) (g10 : Nat) (g11 : Nat) (g12 : Nat) (g13 : Nat) (g14 : Nat) (g15 : Nat) (g16 : Nat) (g17 : Nat) (g18 : Nat) (g19 : Nat) (g20 : Nat) (g21 : Nat) (g22 : Nat) (g23 : Nat) (g24 : Nat) (g25 : Nat) (g26 : Nat) (g27 : Nat) (g28 : Nat) (g29 : Nat) (g30 : Nat) (g31 : Nat) (g32 : Nat) (g33 : Nat) (g34 : Nat) (g35 : Nat) (g36 : Nat) (g37 : Nat) (g38 : Nat) (g39 : Nat) (g40 : Nat) (g41 : Nat) (g42 : Nat) (g43 : Nat) (g44 : Nat) (sz : Nat) (p0 : Int32) : Met l yX12_board vs_kX12_board ({ frames := 0, cells := 0, slots := 0, locals := 0 }) (va_Pc [.ref h0, .int p0] (fun U => U.heap.size = sz ∧ va_P (dC, dI) vwCl [(h0, .inr (12, [.ref g0, .ref g1, .int 0, .int 0, .ref g2, .ref g3, .ref g4, .int 0, .int 0, .ref g5, .ref g6, .ref g7, .ref g8, .int 0, .int 0, .int 0, .ref g9, .ref g10, .ref g11, .ref g12, .ref g13, .ref g14, .ref g15, .ref g16, .int 0, .ref g17, .ref g18, .ref g19, .ref g20, .ref g21, .ref g22, .ref g23, .ref g24, .ref g25, .ref g26, .int 0, .int 0, .int 0, .ref g27, .ref g28, .ref g29, .ref g30, .int 0, .int 0, .int 0, .int 0, .int 0, .int 0, .int 0, .int 0, .int 0, .int 0, .int 0, .int 0, .int 0, .int 0, .ref g31, .ref g32, .ref g33, .ref g34, .int 0, .int 0, .int 0, .int 0, .int 0, .int 0, .int 0, .ref g35, .ref g36, .ref g37, .int 0, .ref g38, .int 0, .int 0, .int 0, .int 0, .int 0, .int 0, .int 0, .int 0, .int 0, .int 0, .int 0, .int 0, .int 0, .int 0, .int 0, .int 0, .ref g39, .ref g40, .ref g41, .ref g42, .ref g43, .ref g44, .ref h2, .ref h1, .int 0])), (h1, .inl (cI, 33, .inl (fun _ => 0))), (h2, .inl (cI, 4096, .inl (fun _ => 0)))] U.heap ∧ va_K (dC, dI) vwCl (ty3 cI cB cZ) U ∧ va_D (fun _ => True) [(h0, .inr (12, [.ref g0, .ref g1, .int 0, .int 0, .ref g2, .ref g3, .ref g4, .int 0, .int 0, .ref g5, .ref g6, .ref g7, .ref g8, .int 0, .int 0, .int 0, .ref g9, .ref g10, .ref g11, .ref g12, .ref g13, .ref g14, .ref g15, .ref g16, .int 0, .ref g17, .ref g18, .ref g19, .ref g20, .ref g21, .ref g22, .ref g23, .ref g24, .ref g25, .ref g26, .int 0, .int 0, .int 0, .ref g27, .ref g28, .ref g29, .ref g30, .int 0, .int 0, .int 0, .int 0, .int 0, .int 0, .int 0, .int 0, .int 0, .int 0, .int 0, .int 0, .int 0, .int 0, .ref g31, .ref g32, .ref g33, .ref g34, .int 0, .int 0, .int 0, .int 0, .int 0, .int 0, .int 0, .ref g35, .ref g36, .ref g37, .int 0, .ref g38, .int 0, .int 0, .int 0, .int 0, .int 0, .int 0, .int 0, .int 0, .int 0, .int 0, .int 0, .int 0, .int 0, .int 0, .int 0, .int 0, .ref g39, .ref g40, .ref g41, .ref g42, .ref g43, .ref g44, .ref h2, .ref h1, .int 0])), (h1, .inl (cI, 33, .inl (fun _ => 0))), (h2, .inl (cI, 4096, .inl (fun _ => 0)))])) (va_Qi (fun (r : Int32) (_ : Unit) => r = sp_kX12_board p0) (fun (_ : Unit) (_ : State) => True) (va_A [(h0, .inr (12, [.ref g0, .ref g1, .int 0, .int 0, .ref g2, .ref g3, .ref g4, .int 0, .int 0, .ref g5, .ref g6, .ref g7, .ref g8, .int 0, .int 0, .int 0, .ref g9, .ref g10, .ref g11, .ref g12, .ref g13, .ref g14, .ref g15, .ref g16, .int 0, .ref g17, .ref g18, .ref g19, .ref g20, .ref g21, .ref g22, .ref g23, .ref g24, .ref g25, .ref g26, .int 0, .int 0, .int 0, .ref g27, .ref g28, .ref g29, .ref g30, .int 0, .int 0, .int 0, .int 0, .int 0, .int 0, .int 0, .int 0, .int 0, .int 0, .int 0, .int 0, .int 0, .int 0, .ref g31, .ref g32, .ref g33, .ref g34, .int 0, .int 0, .int 0, .int 0, .int 0, .int 0, .int 0, .ref g35, .ref g36, .ref g37, .int 0, .ref g38, .int 0, .int 0, .int 0, .int 0, .int 0, .int 0, .int 0, .int 0, .int 0, .int 0, .int 0, .int 0, .int 0, .int 0, .int 0, .int 0, .ref g39, .ref g40, .ref g41, .ref g42, .ref g43, .ref g44, .ref h2, .ref h1, .int 0])), (h1, .inl (cI, 33, .inl (fun _ => 0))), (h2, .inl (cI, 4096, .inl (fun _ => 0)))] sz)) 0 0 (va_A [(h0, .inr (12, [.ref g0, .ref g1, .int 0, .int 0, .ref g2, .ref g3, .ref g4, .int 0, .int 0, .ref g5, .ref g6, .ref g7, .ref g8, .int 0, .int 0, .int 0, .ref g9, .ref g10, .ref g11, .ref g12, .ref g13, .ref g14, .ref g15, .ref g16, .int 0, .ref g17, .ref g18, .ref g19, .ref g20, .ref g21, .ref g22, .ref g23, .ref g24, .ref g25, .ref g26, .int 0, .int 0, .int 0, .ref g27, .ref g28, .ref g29, .ref g30, .int 0, .int 0, .int 0, .int 0, .int 0, .int 0, .int 0, .int 0, .int 0, .int 0, .int 0, .int 0, .int 0, .int 0, .ref g31, .ref g32, .ref g33, .ref g34, .int 0, .int 0, .int 0, .int 0, .int 0, .int 0, .int 0, .ref g35, .ref g36, .ref g37, .int 0, .ref g38, .int 0, .int 0, .int 0, .int 0, .int 0, .int 0, .int 0, .int 0, .int 0, .int 0, .int 0, .int 0, .int 0, .int 0, .int 0, .int 0, .ref g39, .ref g40, .ref g41, .ref g42, .ref g43, .ref g44, .ref h2, .ref h1, .int 0])), (h1, .inl (cI, 33, .inl (fun _ => 0))), (h2, .inl (cI, 4096, .inl (fun _ => 0)))] sz) := by
  refine Met.ofW (cc := cX12_board) (maxL := 2) (ret := (some .int)) (by decide) rfl ?_
  intro p e s m args below meth c s₁ B hml hv
  obtain ⟨rfl, hsz, hP, hK, hD0⟩ := hv
  have hx := B.exec
  have hb := B.bytes
  have hr := B.returns
  have hts := atoms_spec (ws := vs_kX12_board) B.pre
  have hown : s.vm.findClass RX12 = some m.cls := findClass_of_methodNamed B.named
  have hlocks := B.notSynchronized
  subst hsz
  have hD := hD0.self (sz := s.heap.size)
  clear hD0
  generalize hAe : va_A [(h0, .inr (12, [.ref g0, .ref g1, .int 0, .int 0, .ref g2, .ref g3, .ref g4, .int 0, .int 0, .ref g5, .ref g6, .ref g7, .ref g8, .int 0, .int 0, .int 0, .ref g9, .ref g10, .ref g11, .ref g12, .ref g13, .ref g14, .ref g15, .ref g16, .int 0, .ref g17, .ref g18, .ref g19, .ref g20, .ref g21, .ref g22, .ref g23, .ref g24, .ref g25, .ref g26, .int 0, .int 0, .int 0, .ref g27, .ref g28, .ref g29, .ref g30, .int 0, .int 0, .int 0, .int 0, .int 0, .int 0, .int 0, .int 0, .int 0, .int 0, .int 0, .int 0, .int 0, .int 0, .ref g31, .ref g32, .ref g33, .ref g34, .int 0, .int 0, .int 0, .int 0, .int 0, .int 0, .int 0, .ref g35, .ref g36, .ref g37, .int 0, .ref g38, .int 0, .int 0, .int 0, .int 0, .int 0, .int 0, .int 0, .int 0, .int 0, .int 0, .int 0, .int 0, .int 0, .int 0, .int 0, .int 0, .ref g39, .ref g40, .ref g41, .ref g42, .ref g43, .ref g44, .ref h2, .ref h1, .int 0])), (h1, .inl (cI, 33, .inl (fun _ => 0))), (h2, .inl (cI, 4096, .inl (fun _ => 0)))] s.heap.size = A at hD ⊢
  have hA : ∀ q : Nat, s.heap.size ≤ q → A q := fun q h => by rw [← hAe]; exact Or.inr h
  clear hAe
  have hS : va_S A s.heap s.heap [] := va_S.rf
  have hl := lv_entry ([.ref h0, .int p0]) (n := 2) (Nat.le_of_ble_eq_true rfl)
  rw [lg_entry_eq]
  generalize (lg_sl ([.ref h0, .int p0]) ++ List.replicate (2 - (lg_sl ([.ref h0, .int p0])).length) Slot.unset).toArray = ls at hl ⊢
  replace hl : lv_has ls 2 [(0, .ref h0), (1, .int p0)] := hl
  refine my_st (fun H locs eH el => ?_)
  replace hP : va_P (dC, dI) vwCl [(h0, .inr (12, [.ref g0, .ref g1, .int 0, .int 0, .ref g2, .ref g3, .ref g4, .int 0, .int 0, .ref g5, .ref g6, .ref g7, .ref g8, .int 0, .int 0, .int 0, .ref g9, .ref g10, .ref g11, .ref g12, .ref g13, .ref g14, .ref g15, .ref g16, .int 0, .ref g17, .ref g18, .ref g19, .ref g20, .ref g21, .ref g22, .ref g23, .ref g24, .ref g25, .ref g26, .int 0, .int 0, .int 0, .ref g27, .ref g28, .ref g29, .ref g30, .int 0, .int 0, .int 0, .int 0, .int 0, .int 0, .int 0, .int 0, .int 0, .int 0, .int 0, .int 0, .int 0, .int 0, .ref g31, .ref g32, .ref g33, .ref g34, .int 0, .int 0, .int 0, .int 0, .int 0, .int 0, .int 0, .ref g35, .ref g36, .ref g37, .int 0, .ref g38, .int 0, .int 0, .int 0, .int 0, .int 0, .int 0, .int 0, .int 0, .int 0, .int 0, .int 0, .int 0, .int 0, .int 0, .int 0, .int 0, .ref g39, .ref g40, .ref g41, .ref g42, .ref g43, .ref g44, .ref h2, .ref h1, .int 0])), (h1, .inl (cI, 33, .inl (fun _ => 0))), (h2, .inl (cI, 4096, .inl (fun _ => 0)))] H := by rw [eH]; exact hP
  replace hS : va_S A s.heap H locs := by rw [eH, el]; exact hS
  clear eH el
  refine lv_iload_n hx hb dX12_board_0 rfl (lv_at hl 1 rfl) ?_
  refine lv_if_lt (tgt := 19) hx hb dX12_board_1 (by decide) (fun c_1 => ?_) (fun c_1 => ?_)
  · refine lv_iload_n hx hb dX12_board_19 rfl (lv_at hl 1 rfl) ?_
    refine lv_bipush (v := 33) hx hb dX12_board_20 (by decide) ?_
    refine lv_icmp_ne (tgt := 32) hx hb dX12_board_22 (by decide) (fun c_2 => ?_) (fun c_2 => ?_)
    · refine lv_iload_n hx hb dX12_board_32 rfl (lv_at hl 1 rfl) ?_
      refine lv_bipush (v := 100) hx hb dX12_board_33 (by decide) ?_
      refine lv_icmp_lt (tgt := 57) hx hb dX12_board_35 (by decide) (fun c_3 => ?_) (fun c_3 => ?_)
      · refine lv_iconst (v := (-1)) hx hb dX12_board_57 (by decide) ?_
        exact W.iret (v := (-1)) hx hb hr (fun t ht hW => ⟨⟨(-1), (), rfl, by unfold sp_kX12_board; rw [if_pos c_1, if_neg c_2, if_pos c_3], trivial⟩, hS.F ht⟩) hS.2.2 dX12_board_58
      · refine lv_iload_n hx hb dX12_board_38 rfl (lv_at hl 1 rfl) ?_
        refine lv_sipush (v := 4196) hx hb dX12_board_39 (by decide) ?_
        refine lv_icmp_ge (tgt := 57) hx hb dX12_board_42 (by decide) (fun c_4 => ?_) (fun c_4 => ?_)
        · refine lv_iconst (v := (-1)) hx hb dX12_board_57 (by decide) ?_
          exact W.iret (v := (-1)) hx hb hr (fun t ht hW => ⟨⟨(-1), (), rfl, by unfold sp_kX12_board; rw [if_pos c_1, if_neg c_2, if_neg c_3, if_pos c_4], trivial⟩, hS.F ht⟩) hS.2.2 dX12_board_58
        · refine lv_aload_n hx hb dX12_board_45 rfl (lv_at hl 0 rfl) ?_
          refine va_get (D := (dC, dI)) (ci := 12) (v := .ref h2) (C := RX12) (T := TX12) (N := 97) hx hb hts i_kX12_board_X12 hown hK hP 0 rfl rfl 94 (by decide) (hts (Cond.fieldLink RX12 147 "CompiledHouseModel" "memory" "[I") (List.mem_cons_of_mem _ (List.mem_append_left _ (List.mem_of_getElem? (i := 0) rfl)))) (fun _ h9 => h9) rfl dX12_board_46 ?_
          refine lv_iload_n hx hb dX12_board_49 rfl (lv_at hl 1 rfl) ?_
          refine lv_bipush (v := 100) hx hb dX12_board_50 (by decide) ?_
          refine lv_isub hx hb dX12_board_52 ?_
          refine va_iald hx hb hK hP 2 0 rfl rfl (my_shown c_3 c_4) dX12_board_53 ?_
          refine my_top 0 (rfl) ?_
          refine lv_goto (tgt := 58) hx hb dX12_board_54 (by decide) ?_
          exact W.iret (v := 0) hx hb hr (fun t ht hW => ⟨⟨0, (), rfl, by unfold sp_kX12_board; rw [if_pos c_1, if_neg c_2, if_neg c_3, if_neg c_4], trivial⟩, hS.F ht⟩) hS.2.2 dX12_board_58
    · refine lv_aload_n hx hb dX12_board_25 rfl (lv_at hl 0 rfl) ?_
      refine va_get (D := (dC, dI)) (ci := 12) (v := .int 0) (C := RX12) (T := TX12) (N := 97) hx hb hts i_kX12_board_X12 hown hK hP 0 rfl rfl 96 (by decide) (hts (Cond.fieldLink RX12 570 "CompiledHouseModel" "done" "I") (List.mem_cons_of_mem _ (List.mem_append_left _ (List.mem_of_getElem? (i := 1) rfl)))) (fun _ h9 => h9) rfl dX12_board_26 ?_
      refine lv_goto (tgt := 58) hx hb dX12_board_29 (by decide) ?_
      exact W.iret (v := 0) hx hb hr (fun t ht hW => ⟨⟨0, (), rfl, by unfold sp_kX12_board; rw [if_pos c_1, if_pos c_2], trivial⟩, hS.F ht⟩) hS.2.2 dX12_board_58
  · refine lv_iload_n hx hb dX12_board_4 rfl (lv_at hl 1 rfl) ?_
    refine lv_bipush (v := 33) hx hb dX12_board_5 (by decide) ?_
    refine lv_icmp_ge (tgt := 19) hx hb dX12_board_7 (by decide) (fun c_5 => ?_) (fun c_5 => ?_)
    · refine lv_iload_n hx hb dX12_board_19 rfl (lv_at hl 1 rfl) ?_
      refine lv_bipush (v := 33) hx hb dX12_board_20 (by decide) ?_
      refine lv_icmp_ne (tgt := 32) hx hb dX12_board_22 (by decide) (fun c_6 => ?_) (fun c_6 => ?_)
      · refine lv_iload_n hx hb dX12_board_32 rfl (lv_at hl 1 rfl) ?_
        refine lv_bipush (v := 100) hx hb dX12_board_33 (by decide) ?_
        refine lv_icmp_lt (tgt := 57) hx hb dX12_board_35 (by decide) (fun c_7 => ?_) (fun c_7 => ?_)
        · refine lv_iconst (v := (-1)) hx hb dX12_board_57 (by decide) ?_
          exact W.iret (v := (-1)) hx hb hr (fun t ht hW => ⟨⟨(-1), (), rfl, by unfold sp_kX12_board; rw [if_neg c_1, if_pos c_5, if_neg c_6, if_pos c_7], trivial⟩, hS.F ht⟩) hS.2.2 dX12_board_58
        · refine lv_iload_n hx hb dX12_board_38 rfl (lv_at hl 1 rfl) ?_
          refine lv_sipush (v := 4196) hx hb dX12_board_39 (by decide) ?_
          refine lv_icmp_ge (tgt := 57) hx hb dX12_board_42 (by decide) (fun c_8 => ?_) (fun c_8 => ?_)
          · refine lv_iconst (v := (-1)) hx hb dX12_board_57 (by decide) ?_
            exact W.iret (v := (-1)) hx hb hr (fun t ht hW => ⟨⟨(-1), (), rfl, by unfold sp_kX12_board; rw [if_neg c_1, if_pos c_5, if_neg c_6, if_neg c_7, if_pos c_8], trivial⟩, hS.F ht⟩) hS.2.2 dX12_board_58
          · refine lv_aload_n hx hb dX12_board_45 rfl (lv_at hl 0 rfl) ?_
            refine va_get (D := (dC, dI)) (ci := 12) (v := .ref h2) (C := RX12) (T := TX12) (N := 97) hx hb hts i_kX12_board_X12 hown hK hP 0 rfl rfl 94 (by decide) (hts (Cond.fieldLink RX12 147 "CompiledHouseModel" "memory" "[I") (List.mem_cons_of_mem _ (List.mem_append_left _ (List.mem_of_getElem? (i := 0) rfl)))) (fun _ h9 => h9) rfl dX12_board_46 ?_
            refine lv_iload_n hx hb dX12_board_49 rfl (lv_at hl 1 rfl) ?_
            refine lv_bipush (v := 100) hx hb dX12_board_50 (by decide) ?_
            refine lv_isub hx hb dX12_board_52 ?_
            refine va_iald hx hb hK hP 2 0 rfl rfl (my_shown c_7 c_8) dX12_board_53 ?_
            refine my_top 0 (rfl) ?_
            refine lv_goto (tgt := 58) hx hb dX12_board_54 (by decide) ?_
            exact W.iret (v := 0) hx hb hr (fun t ht hW => ⟨⟨0, (), rfl, by unfold sp_kX12_board; rw [if_neg c_1, if_pos c_5, if_neg c_6, if_neg c_7, if_neg c_8], trivial⟩, hS.F ht⟩) hS.2.2 dX12_board_58
      · refine lv_aload_n hx hb dX12_board_25 rfl (lv_at hl 0 rfl) ?_
        refine va_get (D := (dC, dI)) (ci := 12) (v := .int 0) (C := RX12) (T := TX12) (N := 97) hx hb hts i_kX12_board_X12 hown hK hP 0 rfl rfl 96 (by decide) (hts (Cond.fieldLink RX12 570 "CompiledHouseModel" "done" "I") (List.mem_cons_of_mem _ (List.mem_append_left _ (List.mem_of_getElem? (i := 1) rfl)))) (fun _ h9 => h9) rfl dX12_board_26 ?_
        refine lv_goto (tgt := 58) hx hb dX12_board_29 (by decide) ?_
        exact W.iret (v := 0) hx hb hr (fun t ht hW => ⟨⟨0, (), rfl, by unfold sp_kX12_board; rw [if_neg c_1, if_pos c_5, if_pos c_6], trivial⟩, hS.F ht⟩) hS.2.2 dX12_board_58
    · refine lv_aload_n hx hb dX12_board_10 rfl (lv_at hl 0 rfl) ?_
      refine va_get (D := (dC, dI)) (ci := 12) (v := .ref h1) (C := RX12) (T := TX12) (N := 97) hx hb hts i_kX12_board_X12 hown hK hP 0 rfl rfl 95 (by decide) (hts (Cond.fieldLink RX12 150 "CompiledHouseModel" "register" "[I") (List.mem_cons_of_mem _ (List.mem_append_left _ (List.mem_of_getElem? (i := 2) rfl)))) (fun _ h9 => h9) rfl dX12_board_11 ?_
      refine lv_iload_n hx hb dX12_board_14 rfl (lv_at hl 1 rfl) ?_
      refine va_iald hx hb hK hP 1 0 rfl rfl (by rw [vp_in_iff]; have h1 := c_1; have h2 := c_5; simp only [my_lt, my_le, show (0 : Int32).toInt = 0 by decide, show (33 : Int32).toInt = 33 by decide] at h1 h2; omega) dX12_board_15 ?_
      refine my_top 0 (rfl) ?_
      refine lv_goto (tgt := 58) hx hb dX12_board_16 (by decide) ?_
      exact W.iret (v := 0) hx hb hr (fun t ht hW => ⟨⟨0, (), rfl, by unfold sp_kX12_board; rw [if_neg c_1, if_neg c_5], trivial⟩, hS.F ht⟩) hS.2.2 dX12_board_58
