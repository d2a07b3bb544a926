def vs_kX11_end : List Cond := Cond.code yX11_end cX11_end 2 (some .int) :: (([Cond.fieldLink RX11 15 "CompiledHouse" "tape" "LCompiledHouse$Tape;", Cond.fieldLink RX11 82 "CompiledHouse$Tape" "count" "I"] : List Cond) ++ ((wsX110) ++ (wsX90)))
theorem i_kX11_end_X11 : ∀ w ∈ wsX110, w ∈ vs_kX11_end := fun w h => List.mem_cons_of_mem _ (List.mem_append_right _ (List.mem_append_left _ h))
theorem i_kX11_end_X9 : ∀ w ∈ wsX90, w ∈ vs_kX11_end := fun w h => List.mem_cons_of_mem _ (List.mem_append_right _ (List.mem_append_right _ h))
def sp_kX11_end (p0 : Int32) : Int32 := if p0 < 0 then (-1) else (if p0 ≤ 0 then p0 else ((-1)))
set_option maxHeartbeats 4000000 in
set_option maxRecDepth 100000 in
theorem kX11_end (l : Launch) (dC : Nat → ClassId) (dI : Nat → Nat → Nat) (cI cB cZ : ClassId) (h0 : Nat) (h1 : Nat) (g0 : Nat) (g1 : Nat) (g2 : Nat) (g3 : Nat) (g4 : Nat) (g5 : Nat) (g6 : Nat) (sz : Nat) (p0 : Int32) : Met l yX11_end vs_kX11_end ({ frames := 0, cells := 0, slots := 0, locals := 0 }) (va_Pc [.ref h0, .int p0] (fun U => U.heap.size = sz ∧ va_P (dC, dI) vwCl [(h0, .inr (11, [.ref h1, .ref g0, .ref g1, .ref g2, .ref g3, .ref g4, .ref g5])), (h1, .inr (9, [.ref g6, .int 0]))] U.heap ∧ va_K (dC, dI) vwCl (ty3 cI cB cZ) U ∧ va_D (fun _ => True) [(h0, .inr (11, [.ref h1, .ref g0, .ref g1, .ref g2, .ref g3, .ref g4, .ref g5])), (h1, .inr (9, [.ref g6, .int 0]))])) (va_Qi (fun (r : Int32) (_ : Unit) => r = sp_kX11_end p0) (fun (_ : Unit) (_ : State) => True) (va_A [(h0, .inr (11, [.ref h1, .ref g0, .ref g1, .ref g2, .ref g3, .ref g4, .ref g5])), (h1, .inr (9, [.ref g6, .int 0]))] sz)) 0 0 (va_A [(h0, .inr (11, [.ref h1, .ref g0, .ref g1, .ref g2, .ref g3, .ref g4, .ref g5])), (h1, .inr (9, [.ref g6, .int 0]))] sz) := by
  refine Met.ofW (cc := cX11_end) (maxL := 2) (ret := (some .int)) (by decide) rfl ?_
  intro p e s m args below meth c s₁ B hml hv
  obtain ⟨rfl, hsz, hP, hK, hD0⟩ := hv
  have hx := B.exec
  have hb := B.bytes
  have hr := B.returns
  have hts := atoms_spec (ws := vs_kX11_end) B.pre
  have hown : s.vm.findClass RX11 = some m.cls := findClass_of_methodNamed B.named
  have hlocks := B.notSynchronized
  subst hsz
  have hD := hD0.self (sz := s.heap.size)
  clear hD0
  generalize hAe : va_A [(h0, .inr (11, [.ref h1, .ref g0, .ref g1, .ref g2, .ref g3, .ref g4, .ref g5])), (h1, .inr (9, [.ref g6, .int 0]))] s.heap.size = A at hD ⊢
  have hA : ∀ q : Nat, s.heap.size ≤ q → A q := fun q h => by rw [← hAe]; exact Or.inr h
  clear hAe
  have hS : va_S A s.heap s.heap [] := va_S.rf
  have hl := lv_entry ([.ref h0, .int p0]) (n := 2) (Nat.le_of_ble_eq_true rfl)
  rw [lg_entry_eq]
  generalize (lg_sl ([.ref h0, .int p0]) ++ List.replicate (2 - (lg_sl ([.ref h0, .int p0])).length) Slot.unset).toArray = ls at hl ⊢
  replace hl : lv_has ls 2 [(0, .ref h0), (1, .int p0)] := hl
  refine my_st (fun H locs eH el => ?_)
  replace hP : va_P (dC, dI) vwCl [(h0, .inr (11, [.ref h1, .ref g0, .ref g1, .ref g2, .ref g3, .ref g4, .ref g5])), (h1, .inr (9, [.ref g6, .int 0]))] H := by rw [eH]; exact hP
  replace hS : va_S A s.heap H locs := by rw [eH, el]; exact hS
  clear eH el
  refine lv_iload_n hx hb dX11_end_0 rfl (lv_at hl 1 rfl) ?_
  refine lv_if_lt (tgt := 15) hx hb dX11_end_1 (by decide) (fun c_1 => ?_) (fun c_1 => ?_)
  · refine lv_iconst (v := (-1)) hx hb dX11_end_15 (by decide) ?_
    exact W.iret (v := (-1)) hx hb hr (fun t ht hW => ⟨⟨(-1), (), rfl, by unfold sp_kX11_end; rw [if_pos c_1], trivial⟩, hS.F ht⟩) hS.2.2 dX11_end_16
  · refine lv_iload_n hx hb dX11_end_4 rfl (lv_at hl 1 rfl) ?_
    refine lv_aload_n hx hb dX11_end_5 rfl (lv_at hl 0 rfl) ?_
    refine va_get (D := (dC, dI)) (ci := 11) (v := .ref h1) (C := RX11) (T := TX11) (N := 7) hx hb hts i_kX11_end_X11 hown hK hP 0 rfl rfl 0 (by decide) (hts (Cond.fieldLink RX11 15 "CompiledHouse" "tape" "LCompiledHouse$Tape;") (List.mem_cons_of_mem _ (List.mem_append_left _ (List.mem_of_getElem? (i := 0) rfl)))) (fun _ h9 => h9) rfl dX11_end_6 ?_
    refine va_get (D := (dC, dI)) (ci := 9) (v := .int 0) (C := RX9) (T := TX9) (N := 2) hx hb hts i_kX11_end_X9 hown hK hP 1 rfl rfl 1 (by decide) (hts (Cond.fieldLink RX11 82 "CompiledHouse$Tape" "count" "I") (List.mem_cons_of_mem _ (List.mem_append_left _ (List.mem_of_getElem? (i := 1) rfl)))) (fun _ h9 => h9) rfl dX11_end_9 ?_
    refine lv_icmp_le (tgt := 17) hx hb dX11_end_12 (by decide) (fun c_2 => ?_) (fun c_2 => ?_)
    · refine lv_aload_n hx hb dX11_end_17 rfl (lv_at hl 0 rfl) ?_
      refine va_get (D := (dC, dI)) (ci := 11) (v := .ref h1) (C := RX11) (T := TX11) (N := 7) hx hb hts i_kX11_end_X11 hown hK hP 0 rfl rfl 0 (by decide) (hts (Cond.fieldLink RX11 15 "CompiledHouse" "tape" "LCompiledHouse$Tape;") (List.mem_cons_of_mem _ (List.mem_append_left _ (List.mem_of_getElem? (i := 0) rfl)))) (fun _ h9 => h9) rfl dX11_end_18 ?_
      refine lv_iload_n hx hb dX11_end_21 rfl (lv_at hl 1 rfl) ?_
      refine va_put (D := (dC, dI)) (ci := 9) (v := .int p0) (ty := .int) (C := RX9) (T := TX9) (N := 2) hx hb hts i_kX11_end_X9 tyX9 tyX9_ok nmX9 hown hK hP hD hS 1 rfl rfl 1 (by decide) (hts (Cond.fieldLink RX11 82 "CompiledHouse$Tape" "count" "I") (List.mem_cons_of_mem _ (List.mem_append_left _ (List.mem_of_getElem? (i := 1) rfl)))) (fun _ h9 => h9) rfl (by decide +kernel) rfl rfl (Nat.le_of_ble_eq_true rfl) dX11_end_22 (fun H_3 locs hP1 hD1 hS1 => ?_)
      clear hP hD hS
      have hP : va_P (dC, dI) vwCl [(h0, .inr (11, [.ref h1, .ref g0, .ref g1, .ref g2, .ref g3, .ref g4, .ref g5])), (h1, .inr (9, [.ref g6, .int p0]))] H_3 := hP1
      have hD : va_D A [(h0, .inr (11, [.ref h1, .ref g0, .ref g1, .ref g2, .ref g3, .ref g4, .ref g5])), (h1, .inr (9, [.ref g6, .int p0]))] := hD1
      have hS := hS1
      clear hP1 hD1 hS1
      refine lv_iload_n hx hb dX11_end_25 rfl (lv_at hl 1 rfl) ?_
      exact W.iret (v := p0) hx hb hr (fun t ht hW => ⟨⟨p0, (), rfl, by unfold sp_kX11_end; rw [if_neg c_1, if_pos c_2], trivial⟩, hS.F ht⟩) hS.2.2 dX11_end_26
    · refine lv_iconst (v := (-1)) hx hb dX11_end_15 (by decide) ?_
      exact W.iret (v := (-1)) hx hb hr (fun t ht hW => ⟨⟨(-1), (), rfl, by unfold sp_kX11_end; rw [if_neg c_1, if_neg c_2], trivial⟩, hS.F ht⟩) hS.2.2 dX11_end_16
def vs_kX11_look : List Cond := Cond.code yX11_look cX11_look 3 (some .int) :: (([Cond.fieldLink RX11 31 "CompiledHouse" "program" "LCompiledHouse$Program;", Cond.fieldLink RX11 113 "CompiledHouse$Program" "there" "Z"] : List Cond) ++ ((wsX110) ++ (wsX80)))
theorem i_kX11_look_X11 : ∀ w ∈ wsX110, w ∈ vs_kX11_look := fun w h => List.mem_cons_of_mem _ (List.mem_append_right _ (List.mem_append_left _ h))
theorem i_kX11_look_X8 : ∀ w ∈ wsX80, w ∈ vs_kX11_look := fun w h => List.mem_cons_of_mem _ (List.mem_append_right _ (List.mem_append_right _ h))
set_option maxHeartbeats 4000000 in
set_option maxRecDepth 100000 in
theorem kX11_look (l : Launch) (dC : Nat → ClassId) (dI : Nat → Nat → Nat) (cI cB cZ : ClassId) (h0 : Nat) (h1 : Nat) (g0 : Nat) (g1 : Nat) (g2 : Nat) (g3 : Nat) (g4 : Nat) (g5 : Nat) (g6 : Nat) (g7 : Nat) (g8 : Nat) (g9 : Nat) (g10 : Nat) (g11 : Nat) (g12 : Nat) (g13 : Nat) (g14 : Nat) (sz : Nat) (p0 : Int32) (p1 : Int32) : Met l yX11_look vs_kX11_look ({ frames := 0, cells := 0, slots := 0, locals := 0 }) (va_Pc [.ref h0, .int p0, .int p1] (fun U => U.heap.size = sz ∧ va_P (dC, dI) vwCl [(h0, .inr (11, [.ref g0, .ref g1, .ref h1, .ref g2, .ref g3, .ref g4, .ref g5])), (h1, .inr (8, [.int 0, .int 0, .int 0, .int 0, .ref g6, .ref g7, .ref g8, .ref g9, .ref g10, .ref g11, .ref g12, .ref g13, .int 0, .ref g14]))] U.heap ∧ va_K (dC, dI) vwCl (ty3 cI cB cZ) U ∧ va_D (fun _ => True) [(h0, .inr (11, [.ref g0, .ref g1, .ref h1, .ref g2, .ref g3, .ref g4, .ref g5])), (h1, .inr (8, [.int 0, .int 0, .int 0, .int 0, .ref g6, .ref g7, .ref g8, .ref g9, .ref g10, .ref g11, .ref g12, .ref g13, .int 0, .ref g14]))])) (va_Qi (fun (r : Int32) (_ : Unit) => r = (-1)) (fun (_ : Unit) (t : State) => va_P (dC, dI) vwCl [(h0, .inr (11, [.ref g0, .ref g1, .ref h1, .ref g2, .ref g3, .ref g4, .ref g5])), (h1, .inr (8, [.int 0, .int 0, .int 0, .int 0, .ref g6, .ref g7, .ref g8, .ref g9, .ref g10, .ref g11, .ref g12, .ref g13, .int 0, .ref g14]))] t.heap ∧ va_K (dC, dI) vwCl (ty3 cI cB cZ) t ∧ va_D (va_A [(h0, .inr (11, [.ref g0, .ref g1, .ref h1, .ref g2, .ref g3, .ref g4, .ref g5])), (h1, .inr (8, [.int 0, .int 0, .int 0, .int 0, .ref g6, .ref g7, .ref g8, .ref g9, .ref g10, .ref g11, .ref g12, .ref g13, .int 0, .ref g14]))] sz) [(h0, .inr (11, [.ref g0, .ref g1, .ref h1, .ref g2, .ref g3, .ref g4, .ref g5])), (h1, .inr (8, [.int 0, .int 0, .int 0, .int 0, .ref g6, .ref g7, .ref g8, .ref g9, .ref g10, .ref g11, .ref g12, .ref g13, .int 0, .ref g14]))]) (va_A [(h0, .inr (11, [.ref g0, .ref g1, .ref h1, .ref g2, .ref g3, .ref g4, .ref g5])), (h1, .inr (8, [.int 0, .int 0, .int 0, .int 0, .ref g6, .ref g7, .ref g8, .ref g9, .ref g10, .ref g11, .ref g12, .ref g13, .int 0, .ref g14]))] sz)) 0 0 (va_A [(h0, .inr (11, [.ref g0, .ref g1, .ref h1, .ref g2, .ref g3, .ref g4, .ref g5])), (h1, .inr (8, [.int 0, .int 0, .int 0, .int 0, .ref g6, .ref g7, .ref g8, .ref g9, .ref g10, .ref g11, .ref g12, .ref g13, .int 0, .ref g14]))] sz) := by
  refine Met.ofW (cc := cX11_look) (maxL := 3) (ret := (some .int)) (by decide) rfl ?_
  intro p e s m args below meth c s₁ B hml hv
  obtain ⟨rfl, hsz, hP, hK, hD0⟩ := hv
  have hx := B.exec
  have hb := B.bytes
  have hr := B.returns
  have hts := atoms_spec (ws := vs_kX11_look) B.pre
  have hown : s.vm.findClass RX11 = some m.cls := findClass_of_methodNamed B.named
  have hlocks := B.notSynchronized
  subst hsz
  have hD := hD0.self (sz := s.heap.size)
  clear hD0
  generalize hAe : va_A [(h0, .inr (11, [.ref g0, .ref g1, .ref h1, .ref g2, .ref g3, .ref g4, .ref g5])), (h1, .inr (8, [.int 0, .int 0, .int 0, .int 0, .ref g6, .ref g7, .ref g8, .ref g9, .ref g10, .ref g11, .ref g12, .ref g13, .int 0, .ref g14]))] s.heap.size = A at hD ⊢
  have hA : ∀ q : Nat, s.heap.size ≤ q → A q := fun q h => by rw [← hAe]; exact Or.inr h
  clear hAe
  have hS : va_S A s.heap s.heap [] := va_S.rf
  have hl := lv_entry ([.ref h0, .int p0, .int p1]) (n := 3) (Nat.le_of_ble_eq_true rfl)
  rw [lg_entry_eq]
  generalize (lg_sl ([.ref h0, .int p0, .int p1]) ++ List.replicate (3 - (lg_sl ([.ref h0, .int p0, .int p1])).length) Slot.unset).toArray = ls at hl ⊢
  replace hl : lv_has ls 3 [(0, .ref h0), (1, .int p0), (2, .int p1)] := hl
  refine my_st (fun H locs eH el => ?_)
  replace hP : va_P (dC, dI) vwCl [(h0, .inr (11, [.ref g0, .ref g1, .ref h1, .ref g2, .ref g3, .ref g4, .ref g5])), (h1, .inr (8, [.int 0, .int 0, .int 0, .int 0, .ref g6, .ref g7, .ref g8, .ref g9, .ref g10, .ref g11, .ref g12, .ref g13, .int 0, .ref g14]))] H := by rw [eH]; exact hP
  replace hS : va_S A s.heap H locs := by rw [eH, el]; exact hS
  clear eH el
  refine lv_aload_n hx hb dX11_look_0 rfl (lv_at hl 0 rfl) ?_
  refine va_get (D := (dC, dI)) (ci := 11) (v := .ref h1) (C := RX11) (T := TX11) (N := 7) hx hb hts i_kX11_look_X11 hown hK hP 0 rfl rfl 2 (by decide) (hts (Cond.fieldLink RX11 31 "CompiledHouse" "program" "LCompiledHouse$Program;") (List.mem_cons_of_mem _ (List.mem_append_left _ (List.mem_of_getElem? (i := 0) rfl)))) (fun _ h9 => h9) rfl dX11_look_1 ?_
  refine va_get (D := (dC, dI)) (ci := 8) (v := .int 0) (C := RX8) (T := TX8) (N := 14) hx hb hts i_kX11_look_X8 hown hK hP 1 rfl rfl 0 (by decide) (hts (Cond.fieldLink RX11 113 "CompiledHouse$Program" "there" "Z") (List.mem_cons_of_mem _ (List.mem_append_left _ (List.mem_of_getElem? (i := 1) rfl)))) (fun _ h9 => h9) rfl dX11_look_4 ?_
  refine lv_if_ne (tgt := 12) hx hb dX11_look_7 (by decide) (fun c_0 => absurd (by decide) c_0) (fun _ => ?_)
  refine lv_iconst (v := (-1)) hx hb dX11_look_10 (by decide) ?_
  have hP9 := hP.sub (ws' := [(h0, .inr (11, [.ref g0, .ref g1, .ref h1, .ref g2, .ref g3, .ref g4, .ref g5])), (h1, .inr (8, [.int 0, .int 0, .int 0, .int 0, .ref g6, .ref g7, .ref g8, .ref g9, .ref g10, .ref g11, .ref g12, .ref g13, .int 0, .ref g14]))]) [0, 1] rfl
  have hD9 := hD.sub (ws' := [(h0, .inr (11, [.ref g0, .ref g1, .ref h1, .ref g2, .ref g3, .ref g4, .ref g5])), (h1, .inr (8, [.int 0, .int 0, .int 0, .int 0, .ref g6, .ref g7, .ref g8, .ref g9, .ref g10, .ref g11, .ref g12, .ref g13, .int 0, .ref g14]))]) [0, 1] (by decide) rfl
  refine W.widen (k := 0) (n := 0) (by decide) (by decide) ?_
  exact W.iret (v := (-1)) hx hb hr (fun t ht hW => ⟨⟨(-1), (), rfl, rfl, by rw [ht]; exact hP9, va_K.moved hW.alike hK, hD9⟩, hS.F ht⟩) hS.2.2 dX11_look_11
def vs_kX11_give : List Cond := Cond.code yX11_give cX11_give 2 (some .int) :: (([Cond.fieldLink RX11 31 "CompiledHouse" "program" "LCompiledHouse$Program;", Cond.fieldLink RX11 113 "CompiledHouse$Program" "there" "Z"] : List Cond) ++ ((wsX110) ++ (wsX80)))
theorem i_kX11_give_X11 : ∀ w ∈ wsX110, w ∈ vs_kX11_give := fun w h => List.mem_cons_of_mem _ (List.mem_append_right _ (List.mem_append_left _ h))
theorem i_kX11_give_X8 : ∀ w ∈ wsX80, w ∈ vs_kX11_give := fun w h => List.mem_cons_of_mem _ (List.mem_append_right _ (List.mem_append_right _ h))
set_option maxHeartbeats 4000000 in
set_option maxRecDepth 100000 in
theorem kX11_give (l : Launch) (dC : Nat → ClassId) (dI : Nat → Nat → Nat) (cI cB cZ : ClassId) (h0 : Nat) (h1 : Nat) (g0 : Nat) (g1 : Nat) (g2 : Nat) (g3 : Nat) (g4 : Nat) (g5 : Nat) (g6 : Nat) (g7 : Nat) (g8 : Nat) (g9 : Nat) (g10 : Nat) (g11 : Nat) (g12 : Nat) (g13 : Nat) (g14 : Nat) (sz : Nat) (p0 : Int32) : Met l yX11_give vs_kX11_give ({ frames := 0, cells := 0, slots := 0, locals := 0 }) (va_Pc [.ref h0, .int p0] (fun U => U.heap.size = sz ∧ va_P (dC, dI) vwCl [(h0, .inr (11, [.ref g0, .ref g1, .ref h1, .ref g2, .ref g3, .ref g4, .ref g5])), (h1, .inr (8, [.int 0, .int 0, .int 0, .int 0, .ref g6, .ref g7, .ref g8, .ref g9, .ref g10, .ref g11, .ref g12, .ref g13, .int 0, .ref g14]))] U.heap ∧ va_K (dC, dI) vwCl (ty3 cI cB cZ) U ∧ va_D (fun _ => True) [(h0, .inr (11, [.ref g0, .ref g1, .ref h1, .ref g2, .ref g3, .ref g4, .ref g5])), (h1, .inr (8, [.int 0, .int 0, .int 0, .int 0, .ref g6, .ref g7, .ref g8, .ref g9, .ref g10, .ref g11, .ref g12, .ref g13, .int 0, .ref g14]))])) (va_Qi (fun (r : Int32) (_ : Unit) => r = (-1)) (fun (_ : Unit) (t : State) => va_P (dC, dI) vwCl [(h0, .inr (11, [.ref g0, .ref g1, .ref h1, .ref g2, .ref g3, .ref g4, .ref g5])), (h1, .inr (8, [.int 0, .int 0, .int 0, .int 0, .ref g6, .ref g7, .ref g8, .ref g9, .ref g10, .ref g11, .ref g12, .ref g13, .int 0, .ref g14]))] t.heap ∧ va_K (dC, dI) vwCl (ty3 cI cB cZ) t ∧ va_D (va_A [(h0, .inr (11, [.ref g0, .ref g1, .ref h1, .ref g2, .ref g3, .ref g4, .ref g5])), (h1, .inr (8, [.int 0, .int 0, .int 0, .int 0, .ref g6, .ref g7, .ref g8, .ref g9, .ref g10, .ref g11, .ref g12, .ref g13, .int 0, .ref g14]))] sz) [(h0, .inr (11, [.ref g0, .ref g1, .ref h1, .ref g2, .ref g3, .ref g4, .ref g5])), (h1, .inr (8, [.int 0, .int 0, .int 0, .int 0, .ref g6, .ref g7, .ref g8, .ref g9, .ref g10, .ref g11, .ref g12, .ref g13, .int 0, .ref g14]))]) (va_A [(h0, .inr (11, [.ref g0, .ref g1, .ref h1, .ref g2, .ref g3, .ref g4, .ref g5])), (h1, .inr (8, [.int 0, .int 0, .int 0, .int 0, .ref g6, .ref g7, .ref g8, .ref g9, .ref g10, .ref g11, .ref g12, .ref g13, .int 0, .ref g14]))] sz)) 0 0 (va_A [(h0, .inr (11, [.ref g0, .ref g1, .ref h1, .ref g2, .ref g3, .ref g4, .ref g5])), (h1, .inr (8, [.int 0, .int 0, .int 0, .int 0, .ref g6, .ref g7, .ref g8, .ref g9, .ref g10, .ref g11, .ref g12, .ref g13, .int 0, .ref g14]))] sz) := by
  refine Met.ofW (cc := cX11_give) (maxL := 2) (ret := (some .int)) (by decide) rfl ?_
  intro p e s m args below meth c s₁ B hml hv
  obtain ⟨rfl, hsz, hP, hK, hD0⟩ := hv
  have hx := B.exec
  have hb := B.bytes
  have hr := B.returns
  have hts := atoms_spec (ws := vs_kX11_give) B.pre
  have hown : s.vm.findClass RX11 = some m.cls := findClass_of_methodNamed B.named
  have hlocks := B.notSynchronized
  subst hsz
  have hD := hD0.self (sz := s.heap.size)
  clear hD0
  generalize hAe : va_A [(h0, .inr (11, [.ref g0, .ref g1, .ref h1, .ref g2, .ref g3, .ref g4, .ref g5])), (h1, .inr (8, [.int 0, .int 0, .int 0, .int 0, .ref g6, .ref g7, .ref g8, .ref g9, .ref g10, .ref g11, .ref g12, .ref g13, .int 0, .ref g14]))] s.heap.size = A at hD ⊢
  have hA : ∀ q : Nat, s.heap.size ≤ q → A q := fun q h => by rw [← hAe]; exact Or.inr h
  clear hAe
  have hS : va_S A s.heap s.heap [] := va_S.rf
  have hl := lv_entry ([.ref h0, .int p0]) (n := 2) (Nat.le_of_ble_eq_true rfl)
  rw [lg_entry_eq]
  generalize (lg_sl ([.ref h0, .int p0]) ++ List.replicate (2 - (lg_sl ([.ref h0, .int p0])).length) Slot.unset).toArray = ls at hl ⊢
  replace hl : lv_has ls 2 [(0, .ref h0), (1, .int p0)] := hl
  refine my_st (fun H locs eH el => ?_)
  replace hP : va_P (dC, dI) vwCl [(h0, .inr (11, [.ref g0, .ref g1, .ref h1, .ref g2, .ref g3, .ref g4, .ref g5])), (h1, .inr (8, [.int 0, .int 0, .int 0, .int 0, .ref g6, .ref g7, .ref g8, .ref g9, .ref g10, .ref g11, .ref g12, .ref g13, .int 0, .ref g14]))] H := by rw [eH]; exact hP
  replace hS : va_S A s.heap H locs := by rw [eH, el]; exact hS
  clear eH el
  refine lv_aload_n hx hb dX11_give_0 rfl (lv_at hl 0 rfl) ?_
  refine va_get (D := (dC, dI)) (ci := 11) (v := .ref h1) (C := RX11) (T := TX11) (N := 7) hx hb hts i_kX11_give_X11 hown hK hP 0 rfl rfl 2 (by decide) (hts (Cond.fieldLink RX11 31 "CompiledHouse" "program" "LCompiledHouse$Program;") (List.mem_cons_of_mem _ (List.mem_append_left _ (List.mem_of_getElem? (i := 0) rfl)))) (fun _ h9 => h9) rfl dX11_give_1 ?_
  refine va_get (D := (dC, dI)) (ci := 8) (v := .int 0) (C := RX8) (T := TX8) (N := 14) hx hb hts i_kX11_give_X8 hown hK hP 1 rfl rfl 0 (by decide) (hts (Cond.fieldLink RX11 113 "CompiledHouse$Program" "there" "Z") (List.mem_cons_of_mem _ (List.mem_append_left _ (List.mem_of_getElem? (i := 1) rfl)))) (fun _ h9 => h9) rfl dX11_give_4 ?_
  refine lv_if_eq (tgt := 21) hx hb dX11_give_7 (by decide) (fun _ => ?_) (fun c_0 => absurd (by decide) c_0)
  refine lv_iconst (v := (-1)) hx hb dX11_give_21 (by decide) ?_
  have hP9 := hP.sub (ws' := [(h0, .inr (11, [.ref g0, .ref g1, .ref h1, .ref g2, .ref g3, .ref g4, .ref g5])), (h1, .inr (8, [.int 0, .int 0, .int 0, .int 0, .ref g6, .ref g7, .ref g8, .ref g9, .ref g10, .ref g11, .ref g12, .ref g13, .int 0, .ref g14]))]) [0, 1] rfl
  have hD9 := hD.sub (ws' := [(h0, .inr (11, [.ref g0, .ref g1, .ref h1, .ref g2, .ref g3, .ref g4, .ref g5])), (h1, .inr (8, [.int 0, .int 0, .int 0, .int 0, .ref g6, .ref g7, .ref g8, .ref g9, .ref g10, .ref g11, .ref g12, .ref g13, .int 0, .ref g14]))]) [0, 1] (by decide) rfl
  refine W.widen (k := 0) (n := 0) (by decide) (by decide) ?_
  exact W.iret (v := (-1)) hx hb hr (fun t ht hW => ⟨⟨(-1), (), rfl, rfl, by rw [ht]; exact hP9, va_K.moved hW.alike hK, hD9⟩, hS.F ht⟩) hS.2.2 dX11_give_22
def vs_kX11_begin : List Cond := Cond.code yX11_begin cX11_begin 2 (some .boolean) :: (([Cond.fieldLink RX11 31 "CompiledHouse" "program" "LCompiledHouse$Program;", Cond.fieldLink RX11 113 "CompiledHouse$Program" "there" "Z"] : List Cond) ++ ((wsX110) ++ (wsX80)))
theorem i_kX11_begin_X11 : ∀ w ∈ wsX110, w ∈ vs_kX11_begin := fun w h => List.mem_cons_of_mem _ (List.mem_append_right _ (List.mem_append_left _ h))
theorem i_kX11_begin_X8 : ∀ w ∈ wsX80, w ∈ vs_kX11_begin := fun w h => List.mem_cons_of_mem _ (List.mem_append_right _ (List.mem_append_right _ h))
set_option maxHeartbeats 4000000 in
set_option maxRecDepth 100000 in
theorem kX11_begin (l : Launch) (dC : Nat → ClassId) (dI : Nat → Nat → Nat) (cI cB cZ : ClassId) (h0 : Nat) (h1 : Nat) (g0 : Nat) (g1 : Nat) (g2 : Nat) (g3 : Nat) (g4 : Nat) (g5 : Nat) (g6 : Nat) (g7 : Nat) (g8 : Nat) (g9 : Nat) (g10 : Nat) (g11 : Nat) (g12 : Nat) (g13 : Nat) (g14 : Nat) (sz : Nat) (p0 : Int32) : Met l yX11_begin vs_kX11_begin ({ frames := 0, cells := 0, slots := 0, locals := 0 }) (va_Pc [.ref h0, .int p0] (fun U => U.heap.size = sz ∧ va_P (dC, dI) vwCl [(h0, .inr (11, [.ref g0, .ref g1, .ref h1, .ref g2, .ref g3, .ref g4, .ref g5])), (h1, .inr (8, [.int 0, .int 0, .int 0, .int 0, .ref g6, .ref g7, .ref g8, .ref g9, .ref g10, .ref g11, .ref g12, .ref g13, .int 0, .ref g14]))] U.heap ∧ va_K (dC, dI) vwCl (ty3 cI cB cZ) U ∧ va_D (fun _ => True) [(h0, .inr (11, [.ref g0, .ref g1, .ref h1, .ref g2, .ref g3, .ref g4, .ref g5])), (h1, .inr (8, [.int 0, .int 0, .int 0, .int 0, .ref g6, .ref g7, .ref g8, .ref g9, .ref g10, .ref g11, .ref g12, .ref g13, .int 0, .ref g14]))])) (va_Qi (fun (r : Int32) (_ : Unit) => r = 0) (fun (_ : Unit) (t : State) => va_P (dC, dI) vwCl [(h0, .inr (11, [.ref g0, .ref g1, .ref h1, .ref g2, .ref g3, .ref g4, .ref g5])), (h1, .inr (8, [.int 0, .int 0, .int 0, .int 0, .ref g6, .ref g7, .ref g8, .ref g9, .ref g10, .ref g11, .ref g12, .ref g13, .int 0, .ref g14]))] t.heap ∧ va_K (dC, dI) vwCl (ty3 cI cB cZ) t ∧ va_D (va_A [(h0, .inr (11, [.ref g0, .ref g1, .ref h1, .ref g2, .ref g3, .ref g4, .ref g5])), (h1, .inr (8, [.int 0, .int 0, .int 0, .int 0, .ref g6, .ref g7, .ref g8, .ref g9, .ref g10, .ref g11, .ref g12, .ref g13, .int 0, .ref g14]))] sz) [(h0, .inr (11, [.ref g0, .ref g1, .ref h1, .ref g2, .ref g3, .ref g4, .ref g5])), (h1, .inr (8, [.int 0, .int 0, .int 0, .int 0, .ref g6, .ref g7, .ref g8, .ref g9, .ref g10, .ref g11, .ref g12, .ref g13, .int 0, .ref g14]))]) (va_A [(h0, .inr (11, [.ref g0, .ref g1, .ref h1, .ref g2, .ref g3, .ref g4, .ref g5])), (h1, .inr (8, [.int 0, .int 0, .int 0, .int 0, .ref g6, .ref g7, .ref g8, .ref g9, .ref g10, .ref g11, .ref g12, .ref g13, .int 0, .ref g14]))] sz)) 0 0 (va_A [(h0, .inr (11, [.ref g0, .ref g1, .ref h1, .ref g2, .ref g3, .ref g4, .ref g5])), (h1, .inr (8, [.int 0, .int 0, .int 0, .int 0, .ref g6, .ref g7, .ref g8, .ref g9, .ref g10, .ref g11, .ref g12, .ref g13, .int 0, .ref g14]))] sz) := by
  refine Met.ofW (cc := cX11_begin) (maxL := 2) (ret := (some .boolean)) (by decide) rfl ?_
  intro p e s m args below meth c s₁ B hml hv
  obtain ⟨rfl, hsz, hP, hK, hD0⟩ := hv
  have hx := B.exec
  have hb := B.bytes
  have hr := B.returns
  have hts := atoms_spec (ws := vs_kX11_begin) B.pre
  have hown : s.vm.findClass RX11 = some m.cls := findClass_of_methodNamed B.named
  have hlocks := B.notSynchronized
  subst hsz
  have hD := hD0.self (sz := s.heap.size)
  clear hD0
  generalize hAe : va_A [(h0, .inr (11, [.ref g0, .ref g1, .ref h1, .ref g2, .ref g3, .ref g4, .ref g5])), (h1, .inr (8, [.int 0, .int 0, .int 0, .int 0, .ref g6, .ref g7, .ref g8, .ref g9, .ref g10, .ref g11, .ref g12, .ref g13, .int 0, .ref g14]))] s.heap.size = A at hD ⊢
  have hA : ∀ q : Nat, s.heap.size ≤ q → A q := fun q h => by rw [← hAe]; exact Or.inr h
  clear hAe
  have hS : va_S A s.heap s.heap [] := va_S.rf
  have hl := lv_entry ([.ref h0, .int p0]) (n := 2) (Nat.le_of_ble_eq_true rfl)
  rw [lg_entry_eq]
  generalize (lg_sl ([.ref h0, .int p0]) ++ List.replicate (2 - (lg_sl ([.ref h0, .int p0])).length) Slot.unset).toArray = ls at hl ⊢
  replace hl : lv_has ls 2 [(0, .ref h0), (1, .int p0)] := hl
  refine my_st (fun H locs eH el => ?_)
  replace hP : va_P (dC, dI) vwCl [(h0, .inr (11, [.ref g0, .ref g1, .ref h1, .ref g2, .ref g3, .ref g4, .ref g5])), (h1, .inr (8, [.int 0, .int 0, .int 0, .int 0, .ref g6, .ref g7, .ref g8, .ref g9, .ref g10, .ref g11, .ref g12, .ref g13, .int 0, .ref g14]))] H := by rw [eH]; exact hP
  replace hS : va_S A s.heap H locs := by rw [eH, el]; exact hS
  clear eH el
  refine lv_aload_n hx hb dX11_begin_0 rfl (lv_at hl 0 rfl) ?_
  refine va_get (D := (dC, dI)) (ci := 11) (v := .ref h1) (C := RX11) (T := TX11) (N := 7) hx hb hts i_kX11_begin_X11 hown hK hP 0 rfl rfl 2 (by decide) (hts (Cond.fieldLink RX11 31 "CompiledHouse" "program" "LCompiledHouse$Program;") (List.mem_cons_of_mem _ (List.mem_append_left _ (List.mem_of_getElem? (i := 0) rfl)))) (fun _ h9 => h9) rfl dX11_begin_1 ?_
  refine va_get (D := (dC, dI)) (ci := 8) (v := .int 0) (C := RX8) (T := TX8) (N := 14) hx hb hts i_kX11_begin_X8 hown hK hP 1 rfl rfl 0 (by decide) (hts (Cond.fieldLink RX11 113 "CompiledHouse$Program" "there" "Z") (List.mem_cons_of_mem _ (List.mem_append_left _ (List.mem_of_getElem? (i := 1) rfl)))) (fun _ h9 => h9) rfl dX11_begin_4 ?_
  refine lv_if_eq (tgt := 22) hx hb dX11_begin_7 (by decide) (fun _ => ?_) (fun c_0 => absurd (by decide) c_0)
  refine lv_iconst (v := 0) hx hb dX11_begin_22 (by decide) ?_
  have hP9 := hP.sub (ws' := [(h0, .inr (11, [.ref g0, .ref g1, .ref h1, .ref g2, .ref g3, .ref g4, .ref g5])), (h1, .inr (8, [.int 0, .int 0, .int 0, .int 0, .ref g6, .ref g7, .ref g8, .ref g9, .ref g10, .ref g11, .ref g12, .ref g13, .int 0, .ref g14]))]) [0, 1] rfl
  have hD9 := hD.sub (ws' := [(h0, .inr (11, [.ref g0, .ref g1, .ref h1, .ref g2, .ref g3, .ref g4, .ref g5])), (h1, .inr (8, [.int 0, .int 0, .int 0, .int 0, .ref g6, .ref g7, .ref g8, .ref g9, .ref g10, .ref g11, .ref g12, .ref g13, .int 0, .ref g14]))]) [0, 1] (by decide) rfl
  refine W.widen (k := 0) (n := 0) (by decide) (by decide) ?_
  exact W.zret (v := 0) hx hb hr rfl (fun t ht hW => ⟨⟨0, (), rfl, rfl, by rw [ht]; exact hP9, va_K.moved hW.alike hK, hD9⟩, hS.F ht⟩) hS.2.2 dX11_begin_23
def vs_kX11_run : List Cond := Cond.code yX11_run cX11_run 2 (some .int) :: (([Cond.fieldLink RX11 47 "CompiledHouse" "machine" "LCompiledHouse$Machine;", Cond.fieldLink RX11 146 "CompiledHouse$Machine" "state" "I"] : List Cond) ++ ((wsX110) ++ (wsX60)))
theorem i_kX11_run_X11 : ∀ w ∈ wsX110, w ∈ vs_kX11_run := fun w h => List.mem_cons_of_mem _ (List.mem_append_right _ (List.mem_append_left _ h))
theorem i_kX11_run_X6 : ∀ w ∈ wsX60, w ∈ vs_kX11_run := fun w h => List.mem_cons_of_mem _ (List.mem_append_right _ (List.mem_append_right _ h))
def sp_kX11_run (p0 : Int32) : Int32 := if p0 < 0 then (-1) else (if 1000 < p0 then (-1) else ((-1)))
set_option maxHeartbeats 4000000 in
set_option maxRecDepth 100000 in
theorem kX11_run (l : Launch) (dC : Nat → ClassId) (dI : Nat → Nat → Nat) (cI cB cZ : ClassId) (h0 : Nat) (h1 : Nat) (g0 : Nat) (g1 : Nat) (g2 : Nat) (g3 : Nat) (g4 : Nat) (g5 : Nat) (g6 : Nat) (g7 : Nat) (g8 : Nat) (sz : Nat) (p0 : Int32) : Met l yX11_run vs_kX11_run ({ frames := 0, cells := 0, slots := 0, locals := 0 }) (va_Pc [.ref h0, .int p0] (fun U => U.heap.size = sz ∧ va_P (dC, dI) vwCl [(h0, .inr (11, [.ref g0, .ref g1, .ref g2, .ref g3, .ref h1, .ref g4, .ref g5])), (h1, .inr (6, [.ref g6, .ref g2, .ref g3, .ref g7, .ref g8, .int 0, .int 0, .int 0, .int 2000, .int 0, .int 0, .int 0, .int 0, .int 0, .int 0, .int (-1), .int 0]))] U.heap ∧ va_K (dC, dI) vwCl (ty3 cI cB cZ) U ∧ va_D (fun _ => True) [(h0, .inr (11, [.ref g0, .ref g1, .ref g2, .ref g3, .ref h1, .ref g4, .ref g5])), (h1, .inr (6, [.ref g6, .ref g2, .ref g3, .ref g7, .ref g8, .int 0, .int 0, .int 0, .int 2000, .int 0, .int 0, .int 0, .int 0, .int 0, .int 0, .int (-1), .int 0]))])) (va_Qi (fun (r : Int32) (_ : Unit) => r = sp_kX11_run p0) (fun (_ : Unit) (_ : State) => True) (va_A [(h0, .inr (11, [.ref g0, .ref g1, .ref g2, .ref g3, .ref h1, .ref g4, .ref g5])), (h1, .inr (6, [.ref g6, .ref g2, .ref g3, .ref g7, .ref g8, .int 0, .int 0, .int 0, .int 2000, .int 0, .int 0, .int 0, .int 0, .int 0, .int 0, .int (-1), .int 0]))] sz)) 0 0 (va_A [(h0, .inr (11, [.ref g0, .ref g1, .ref g2, .ref g3, .ref h1, .ref g4, .ref g5])), (h1, .inr (6, [.ref g6, .ref g2, .ref g3, .ref g7, .ref g8, .int 0, .int 0, .int 0, .int 2000, .int 0, .int 0, .int 0, .int 0, .int 0, .int 0, .int (-1), .int 0]))] sz) := by
  refine Met.ofW (cc := cX11_run) (maxL := 2) (ret := (some .int)) (by decide) rfl ?_
  intro p e s m args below meth c s₁ B hml hv
  obtain ⟨rfl, hsz, hP, hK, hD0⟩ := hv
  have hx := B.exec
  have hb := B.bytes
  have hr := B.returns
  have hts := atoms_spec (ws := vs_kX11_run) B.pre
  have hown : s.vm.findClass RX11 = some m.cls := findClass_of_methodNamed B.named
  have hlocks := B.notSynchronized
  subst hsz
  have hD := hD0.self (sz := s.heap.size)
  clear hD0
  generalize hAe : va_A [(h0, .inr (11, [.ref g0, .ref g1, .ref g2, .ref g3, .ref h1, .ref g4, .ref g5])), (h1, .inr (6, [.ref g6, .ref g2, .ref g3, .ref g7, .ref g8, .int 0, .int 0, .int 0, .int 2000, .int 0, .int 0, .int 0, .int 0, .int 0, .int 0, .int (-1), .int 0]))] s.heap.size = A at hD ⊢
  have hA : ∀ q : Nat, s.heap.size ≤ q → A q := fun q h => by rw [← hAe]; exact Or.inr h
  clear hAe
  have hS : va_S A s.heap s.heap [] := va_S.rf
  have hl := lv_entry ([.ref h0, .int p0]) (n := 2) (Nat.le_of_ble_eq_true rfl)
  rw [lg_entry_eq]
  generalize (lg_sl ([.ref h0, .int p0]) ++ List.replicate (2 - (lg_sl ([.ref h0, .int p0])).length) Slot.unset).toArray = ls at hl ⊢
  replace hl : lv_has ls 2 [(0, .ref h0), (1, .int p0)] := hl
  refine my_st (fun H locs eH el => ?_)
  replace hP : va_P (dC, dI) vwCl [(h0, .inr (11, [.ref g0, .ref g1, .ref g2, .ref g3, .ref h1, .ref g4, .ref g5])), (h1, .inr (6, [.ref g6, .ref g2, .ref g3, .ref g7, .ref g8, .int 0, .int 0, .int 0, .int 2000, .int 0, .int 0, .int 0, .int 0, .int 0, .int 0, .int (-1), .int 0]))] H := by rw [eH]; exact hP
  replace hS : va_S A s.heap H locs := by rw [eH, el]; exact hS
  clear eH el
  refine lv_iload_n hx hb dX11_run_0 rfl (lv_at hl 1 rfl) ?_
  refine lv_if_lt (tgt := 21) hx hb dX11_run_1 (by decide) (fun c_1 => ?_) (fun c_1 => ?_)
  · refine lv_iconst (v := (-1)) hx hb dX11_run_21 (by decide) ?_
    exact W.iret (v := (-1)) hx hb hr (fun t ht hW => ⟨⟨(-1), (), rfl, by unfold sp_kX11_run; rw [if_pos c_1], trivial⟩, hS.F ht⟩) hS.2.2 dX11_run_22
  · refine lv_iload_n hx hb dX11_run_4 rfl (lv_at hl 1 rfl) ?_
    refine lv_sipush (v := 1000) hx hb dX11_run_5 (by decide) ?_
    refine lv_icmp_gt (tgt := 21) hx hb dX11_run_8 (by decide) (fun c_2 => ?_) (fun c_2 => ?_)
    · refine lv_iconst (v := (-1)) hx hb dX11_run_21 (by decide) ?_
      exact W.iret (v := (-1)) hx hb hr (fun t ht hW => ⟨⟨(-1), (), rfl, by unfold sp_kX11_run; rw [if_neg c_1, if_pos c_2], trivial⟩, hS.F ht⟩) hS.2.2 dX11_run_22
    · refine lv_aload_n hx hb dX11_run_11 rfl (lv_at hl 0 rfl) ?_
      refine va_get (D := (dC, dI)) (ci := 11) (v := .ref h1) (C := RX11) (T := TX11) (N := 7) hx hb hts i_kX11_run_X11 hown hK hP 0 rfl rfl 4 (by decide) (hts (Cond.fieldLink RX11 47 "CompiledHouse" "machine" "LCompiledHouse$Machine;") (List.mem_cons_of_mem _ (List.mem_append_left _ (List.mem_of_getElem? (i := 0) rfl)))) (fun _ h9 => h9) rfl dX11_run_12 ?_
      refine va_get (D := (dC, dI)) (ci := 6) (v := .int 0) (C := RX6) (T := TX6) (N := 17) hx hb hts i_kX11_run_X6 hown hK hP 1 rfl rfl 12 (by decide) (hts (Cond.fieldLink RX11 146 "CompiledHouse$Machine" "state" "I") (List.mem_cons_of_mem _ (List.mem_append_left _ (List.mem_of_getElem? (i := 1) rfl)))) (fun _ h9 => h9) rfl dX11_run_15 ?_
      refine lv_if_ne (tgt := 23) hx hb dX11_run_18 (by decide) (fun c_0 => absurd (by decide) c_0) (fun _ => ?_)
      refine lv_iconst (v := (-1)) hx hb dX11_run_21 (by decide) ?_
      exact W.iret (v := (-1)) hx hb hr (fun t ht hW => ⟨⟨(-1), (), rfl, by unfold sp_kX11_run; rw [if_neg c_1, if_neg c_2], trivial⟩, hS.F ht⟩) hS.2.2 dX11_run_22
def vs_kX7_shown : List Cond := Cond.code yX7_shown cX7_shown 2 (some .int) :: (([Cond.fieldLink RX7 23 "CompiledHouse$Ports" "shownCount" "I"] : List Cond) ++ (wsX70))
theorem i_kX7_shown_X7 : ∀ w ∈ wsX70, w ∈ vs_kX7_shown := fun w h => List.mem_cons_of_mem _ (List.mem_append_right _ h)
def sp_kX7_shown (p0 : Int32) : Int32 := if p0 < 0 then 0 else (if 2000 ≤ p0 then 0 else (0))
set_option maxHeartbeats 4000000 in
set_option maxRecDepth 100000 in
theorem kX7_shown (l : Launch) (dC : Nat → ClassId) (dI : Nat → Nat → Nat) (cI cB cZ : ClassId) (h0 : Nat) (h1 : Nat) (g0 : Nat) (sz : Nat) (p0 : Int32) : Met l yX7_shown vs_kX7_shown ({ frames := 0, cells := 0, slots := 0, locals := 0 }) (va_Pc [.ref h0, .int p0] (fun U => U.heap.size = sz ∧ va_P (dC, dI) vwCl [(h0, .inr (7, [.ref g0, .int 0, .int 0, .ref h1, .int 0])), (h1, .inl (cI, 2000, .inl (fun _ => 0)))] U.heap ∧ va_K (dC, dI) vwCl (ty3 cI cB cZ) U ∧ va_D (fun _ => True) [(h0, .inr (7, [.ref g0, .int 0, .int 0, .ref h1, .int 0])), (h1, .inl (cI, 2000, .inl (fun _ => 0)))])) (va_Qi (fun (r : Int32) (_ : Unit) => r = sp_kX7_shown p0) (fun (_ : Unit) (_ : State) => True) (va_A [(h0, .inr (7, [.ref g0, .int 0, .int 0, .ref h1, .int 0])), (h1, .inl (cI, 2000, .inl (fun _ => 0)))] sz)) 0 0 (va_A [(h0, .inr (7, [.ref g0, .int 0, .int 0, .ref h1, .int 0])), (h1, .inl (cI, 2000, .inl (fun _ => 0)))] sz) := by
  refine Met.ofW (cc := cX7_shown) (maxL := 2) (ret := (some .int)) (by decide) rfl ?_
  intro p e s m args below meth c s₁ B hml hv
  obtain ⟨rfl, hsz, hP, hK, hD0⟩ := hv
  have hx := B.exec
  have hb := B.bytes
  have hr := B.returns
  have hts := atoms_spec (ws := vs_kX7_shown) B.pre
  have hown : s.vm.findClass RX7 = some m.cls := findClass_of_methodNamed B.named
  have hlocks := B.notSynchronized
  subst hsz
  have hD := hD0.self (sz := s.heap.size)
  clear hD0
  generalize hAe : va_A [(h0, .inr (7, [.ref g0, .int 0, .int 0, .ref h1, .int 0])), (h1, .inl (cI, 2000, .inl (fun _ => 0)))] s.heap.size = A at hD ⊢
  have hA : ∀ q : Nat, s.heap.size ≤ q → A q := fun q h => by rw [← hAe]; exact Or.inr h
  clear hAe
  have hS : va_S A s.heap s.heap [] := va_S.rf
  have hl := lv_entry ([.ref h0, .int p0]) (n := 2) (Nat.le_of_ble_eq_true rfl)
  rw [lg_entry_eq]
  generalize (lg_sl ([.ref h0, .int p0]) ++ List.replicate (2 - (lg_sl ([.ref h0, .int p0])).length) Slot.unset).toArray = ls at hl ⊢
  replace hl : lv_has ls 2 [(0, .ref h0), (1, .int p0)] := hl
  refine my_st (fun H locs eH el => ?_)
  replace hP : va_P (dC, dI) vwCl [(h0, .inr (7, [.ref g0, .int 0, .int 0, .ref h1, .int 0])), (h1, .inl (cI, 2000, .inl (fun _ => 0)))] H := by rw [eH]; exact hP
  replace hS : va_S A s.heap H locs := by rw [eH, el]; exact hS
  clear eH el
  refine lv_iload_n hx hb dX7_shown_0 rfl (lv_at hl 1 rfl) ?_
  refine lv_if_lt (tgt := 19) hx hb dX7_shown_1 (by decide) (fun c_1 => ?_) (fun c_1 => ?_)
  · refine lv_iconst (v := 0) hx hb dX7_shown_19 (by decide) ?_
    refine lv_goto (tgt := 29) hx hb dX7_shown_20 (by decide) ?_
    exact W.iret (v := 0) hx hb hr (fun t ht hW => ⟨⟨0, (), rfl, by unfold sp_kX7_shown; rw [if_pos c_1], trivial⟩, hS.F ht⟩) hS.2.2 dX7_shown_29
  · refine lv_iload_n hx hb dX7_shown_4 rfl (lv_at hl 1 rfl) ?_
    refine lv_sipush (v := 2000) hx hb dX7_shown_5 (by decide) ?_
    refine lv_icmp_ge (tgt := 19) hx hb dX7_shown_8 (by decide) (fun c_2 => ?_) (fun c_2 => ?_)
    · refine lv_iconst (v := 0) hx hb dX7_shown_19 (by decide) ?_
      refine lv_goto (tgt := 29) hx hb dX7_shown_20 (by decide) ?_
      exact W.iret (v := 0) hx hb hr (fun t ht hW => ⟨⟨0, (), rfl, by unfold sp_kX7_shown; rw [if_neg c_1, if_pos c_2], trivial⟩, hS.F ht⟩) hS.2.2 dX7_shown_29
    · refine lv_iload_n hx hb dX7_shown_11 rfl (lv_at hl 1 rfl) ?_
      refine lv_aload_n hx hb dX7_shown_12 rfl (lv_at hl 0 rfl) ?_
      refine va_get (D := (dC, dI)) (ci := 7) (v := .int 0) (C := RX7) (T := TX7) (N := 5) hx hb hts i_kX7_shown_X7 hown hK hP 0 rfl rfl 4 (by decide) (hts (Cond.fieldLink RX7 23 "CompiledHouse$Ports" "shownCount" "I") (List.mem_cons_of_mem _ (List.mem_append_left _ (List.mem_of_getElem? (i := 0) rfl)))) (fun _ h9 => h9) rfl dX7_shown_13 ?_
      refine lv_icmp_lt (tgt := 23) hx hb dX7_shown_16 (by decide) (fun c_0 => absurd c_0 c_1) (fun _ => ?_)
      refine lv_iconst (v := 0) hx hb dX7_shown_19 (by decide) ?_
      refine lv_goto (tgt := 29) hx hb dX7_shown_20 (by decide) ?_
      exact W.iret (v := 0) hx hb hr (fun t ht hW => ⟨⟨0, (), rfl, by unfold sp_kX7_shown; rw [if_neg c_1, if_neg c_2], trivial⟩, hS.F ht⟩) hS.2.2 dX7_shown_29
def vs_kX11_output : List Cond := Cond.code yX11_output cX11_output 2 (some .int) :: (([Cond.fieldLink RX11 38 "CompiledHouse" "ports" "LCompiledHouse$Ports;"] : List Cond) ++ ((wsX110) ++ (wsV RX11 152 RX7 yX7_shown vs_kX7_shown)))
theorem i_kX11_output_X11 : ∀ w ∈ wsX110, w ∈ vs_kX11_output := fun w h => List.mem_cons_of_mem _ (List.mem_append_right _ (List.mem_append_left _ h))
theorem g_kX11_output_1 : GoodIn vs_kX11_output (wsV RX11 152 RX7 yX7_shown vs_kX7_shown) := fun w h => ⟨List.mem_cons_of_mem _ (List.mem_append_right _ (List.mem_append_right _ h)), good_of_word (List.all_eq_true.mp (show (wsV RX11 152 RX7 yX7_shown vs_kX7_shown).all goodWord = true by decide +kernel) w h)⟩
def sp_kX11_output (p0 : Int32) : Int32 := (sp_kX7_shown p0)
set_option maxHeartbeats 4000000 in
set_option maxRecDepth 100000 in
theorem kX11_output (l : Launch) (dC : Nat → ClassId) (dI : Nat → Nat → Nat) (cI cB cZ : ClassId) (h0 : Nat) (h1 : Nat) (h2 : Nat) (g0 : Nat) (g1 : Nat) (g2 : Nat) (g3 : Nat) (g4 : Nat) (g5 : Nat) (g6 : Nat) (sz : Nat) (p0 : Int32) : Met l yX11_output vs_kX11_output ({ frames := 1, cells := 0, slots := 0, locals := 21 }) (va_Pc [.ref h0, .int p0] (fun U => U.heap.size = sz ∧ va_P (dC, dI) vwCl [(h0, .inr (11, [.ref g0, .ref g1, .ref g2, .ref h1, .ref g3, .ref g4, .ref g5])), (h1, .inr (7, [.ref g6, .int 0, .int 0, .ref h2, .int 0])), (h2, .inl (cI, 2000, .inl (fun _ => 0)))] U.heap ∧ va_K (dC, dI) vwCl (ty3 cI cB cZ) U ∧ va_D (fun _ => True) [(h0, .inr (11, [.ref g0, .ref g1, .ref g2, .ref h1, .ref g3, .ref g4, .ref g5])), (h1, .inr (7, [.ref g6, .int 0, .int 0, .ref h2, .int 0])), (h2, .inl (cI, 2000, .inl (fun _ => 0)))])) (va_Qi (fun (r : Int32) (_ : Unit) => r = sp_kX11_output p0) (fun (_ : Unit) (_ : State) => True) (va_A [(h0, .inr (11, [.ref g0, .ref g1, .ref g2, .ref h1, .ref g3, .ref g4, .ref g5])), (h1, .inr (7, [.ref g6, .int 0, .int 0, .ref h2, .int 0])), (h2, .inl (cI, 2000, .inl (fun _ => 0)))] sz)) 0 0 (va_A [(h0, .inr (11, [.ref g0, .ref g1, .ref g2, .ref h1, .ref g3, .ref g4, .ref g5])), (h1, .inr (7, [.ref g6, .int 0, .int 0, .ref h2, .int 0])), (h2, .inl (cI, 2000, .inl (fun _ => 0)))] sz) := by
  refine Met.ofW (cc := cX11_output) (maxL := 2) (ret := (some .int)) (by decide) rfl ?_
  intro p e s m args below meth c s₁ B hml hv
  obtain ⟨rfl, hsz, hP, hK, hD0⟩ := hv
  have hx := B.exec
  have hb := B.bytes
  have hr := B.returns
  have hts := atoms_spec (ws := vs_kX11_output) B.pre
  have hown : s.vm.findClass RX11 = some m.cls := findClass_of_methodNamed B.named
  have hlocks := B.notSynchronized
  subst hsz
  have hD := hD0.self (sz := s.heap.size)
  clear hD0
  generalize hAe : va_A [(h0, .inr (11, [.ref g0, .ref g1, .ref g2, .ref h1, .ref g3, .ref g4, .ref g5])), (h1, .inr (7, [.ref g6, .int 0, .int 0, .ref h2, .int 0])), (h2, .inl (cI, 2000, .inl (fun _ => 0)))] s.heap.size = A at hD ⊢
  have hA : ∀ q : Nat, s.heap.size ≤ q → A q := fun q h => by rw [← hAe]; exact Or.inr h
  clear hAe
  have hS : va_S A s.heap s.heap [] := va_S.rf
  have hl := lv_entry ([.ref h0, .int p0]) (n := 2) (Nat.le_of_ble_eq_true rfl)
  rw [lg_entry_eq]
  generalize (lg_sl ([.ref h0, .int p0]) ++ List.replicate (2 - (lg_sl ([.ref h0, .int p0])).length) Slot.unset).toArray = ls at hl ⊢
  replace hl : lv_has ls 2 [(0, .ref h0), (1, .int p0)] := hl
  refine my_st (fun H locs eH el => ?_)
  replace hP : va_P (dC, dI) vwCl [(h0, .inr (11, [.ref g0, .ref g1, .ref g2, .ref h1, .ref g3, .ref g4, .ref g5])), (h1, .inr (7, [.ref g6, .int 0, .int 0, .ref h2, .int 0])), (h2, .inl (cI, 2000, .inl (fun _ => 0)))] H := by rw [eH]; exact hP
  replace hS : va_S A s.heap H locs := by rw [eH, el]; exact hS
  clear eH el
  refine lv_aload_n hx hb dX11_output_0 rfl (lv_at hl 0 rfl) ?_
  refine va_get (D := (dC, dI)) (ci := 11) (v := .ref h1) (C := RX11) (T := TX11) (N := 7) hx hb hts i_kX11_output_X11 hown hK hP 0 rfl rfl 3 (by decide) (hts (Cond.fieldLink RX11 38 "CompiledHouse" "ports" "LCompiledHouse$Ports;") (List.mem_cons_of_mem _ (List.mem_append_left _ (List.mem_of_getElem? (i := 0) rfl)))) (fun _ h9 => h9) rfl dX11_output_1 ?_
  refine lv_iload_n hx hb dX11_output_4 rfl (lv_at hl 1 rfl) ?_
  have hPc := hP.sub (ws' := [(h1, .inr (7, [.ref g6, .int 0, .int 0, .ref h2, .int 0])), (h2, .inl (cI, 2000, .inl (fun _ => 0)))]) [1, 2] rfl
  have hDc := hD.sub (ws' := [(h1, .inr (7, [.ref g6, .int 0, .int 0, .ref h2, .int 0])), (h2, .inl (cI, 2000, .inl (fun _ => 0)))]) [1, 2] (by decide) rfl
  have hFc := va_free (wc := [(h1, .inr (7, [.ref g6, .int 0, .int 0, .ref h2, .int 0])), (h2, .inl (cI, 2000, .inl (fun _ => 0)))]) hD hS hA [1, 2] rfl
  refine va_calli (va_runV (As := [.int p0]) (rest := []) ⟨hx, hb, hml, hown, hts⟩ (kX7_shown l dC dI cI cB cZ h1 h2 g6 H.size p0) (cwV 1 hts g_kX11_output_1 rfl rfl rfl (by decide +kernel) ⟨Nat.le_of_ble_eq_true rfl, Nat.le_of_ble_eq_true rfl⟩) ⟨fun a U g mk q => by obtain ⟨q0, q1, qP, qK, qD⟩ := q; exact ⟨q0, q1, qP, va_K.moved (u := U) (U := U.calling g mk a) (Vm.Alike.refl U.vm) qK, qD⟩, va_recv hK hPc (ci := 7) (q0 := 0) rfl rfl, fun U hU hW => ⟨rfl, by rw [hU], by rw [hU]; exact hPc, va_K.moved hW.alike hK, hDc.weaken (fun _ _ _ _ => trivial)⟩⟩ rfl rfl hl.1 rfl (lv_room (Nat.le_of_ble_eq_true rfl)) dX11_output_5 ⟨Nat.le_of_ble_eq_true rfl, Nat.le_of_ble_eq_true rfl⟩) hS (fun q _ h => hFc q h) hFc (fun r_2 u t H_1 locs ht hvm hw hB hz1 hk1 hS1 => ?_)
  obtain ⟨hP2, hD2⟩ := va_join (wr := [(h0, .inr (11, [.ref g0, .ref g1, .ref g2, .ref h1, .ref g3, .ref g4, .ref g5]))]) (w1 := []) hP hD [1, 2] [0] rfl rfl (by decide) (by decide) hk1 hFc (fun _ _ h => by simp at h) ⟨fun _ _ _ _ h => by simp at h, fun _ _ h => by simp at h⟩
  clear hP hD hS hPc hDc hFc hk1 hz1 ht hvm
  have hP1 := hP2
  have hD1 := hD2
  clear hP2 hD2
  have hP : va_P (dC, dI) vwCl [(h0, .inr (11, [.ref g0, .ref g1, .ref g2, .ref h1, .ref g3, .ref g4, .ref g5]))] H_1 := hP1
  have hD : va_D A [(h0, .inr (11, [.ref g0, .ref g1, .ref g2, .ref h1, .ref g3, .ref g4, .ref g5]))] := hD1
  have hS := hS1
  clear hP1 hD1 hS1
  obtain rfl := hw
  exact W.iret (v := (sp_kX7_shown p0)) hx hb hr (fun t ht hW => ⟨⟨(sp_kX7_shown p0), (), rfl, rfl, trivial⟩, hS.F ht⟩) hS.2.2 dX11_output_8
def vs_kX6_depth : List Cond := Cond.code yX6_depth cX6_depth 1 (some .int) :: (([Cond.fieldLink RX6 34 "CompiledHouse$Machine" "behind" "I"] : List Cond) ++ (wsX60))
theorem i_kX6_depth_X6 : ∀ w ∈ wsX60, w ∈ vs_kX6_depth := fun w h => List.mem_cons_of_mem _ (List.mem_append_right _ h)
set_option maxHeartbeats 4000000 in
set_option maxRecDepth 100000 in
theorem kX6_depth (l : Launch) (dC : Nat → ClassId) (dI : Nat → Nat → Nat) (cI cB cZ : ClassId) (h0 : Nat) (g0 : Nat) (g1 : Nat) (g2 : Nat) (g3 : Nat) (g4 : Nat) (sz : Nat) : Met l yX6_depth vs_kX6_depth ({ frames := 0, cells := 0, slots := 0, locals := 0 }) (va_Pc [.ref h0] (fun U => U.heap.size = sz ∧ va_P (dC, dI) vwCl [(h0, .inr (6, [.ref g0, .ref g1, .ref g2, .ref g3, .ref g4, .int 0, .int 0, .int 0, .int 2000, .int 0, .int 0, .int 0, .int 0, .int 0, .int 0, .int (-1), .int 0]))] U.heap ∧ va_K (dC, dI) vwCl (ty3 cI cB cZ) U ∧ va_D (fun _ => True) [(h0, .inr (6, [.ref g0, .ref g1, .ref g2, .ref g3, .ref g4, .int 0, .int 0, .int 0, .int 2000, .int 0, .int 0, .int 0, .int 0, .int 0, .int 0, .int (-1), .int 0]))])) (va_Qi (fun (r : Int32) (_ : Unit) => r = 0) (fun (_ : Unit) (t : State) => va_P (dC, dI) vwCl [(h0, .inr (6, [.ref g0, .ref g1, .ref g2, .ref g3, .ref g4, .int 0, .int 0, .int 0, .int 2000, .int 0, .int 0, .int 0, .int 0, .int 0, .int 0, .int (-1), .int 0]))] t.heap ∧ va_K (dC, dI) vwCl (ty3 cI cB cZ) t ∧ va_D (va_A [(h0, .inr (6, [.ref g0, .ref g1, .ref g2, .ref g3, .ref g4, .int 0, .int 0, .int 0, .int 2000, .int 0, .int 0, .int 0, .int 0, .int 0, .int 0, .int (-1), .int 0]))] sz) [(h0, .inr (6, [.ref g0, .ref g1, .ref g2, .ref g3, .ref g4, .int 0, .int 0, .int 0, .int 2000, .int 0, .int 0, .int 0, .int 0, .int 0, .int 0, .int (-1), .int 0]))]) (va_A [(h0, .inr (6, [.ref g0, .ref g1, .ref g2, .ref g3, .ref g4, .int 0, .int 0, .int 0, .int 2000, .int 0, .int 0, .int 0, .int 0, .int 0, .int 0, .int (-1), .int 0]))] sz)) 0 0 (va_A [(h0, .inr (6, [.ref g0, .ref g1, .ref g2, .ref g3, .ref g4, .int 0, .int 0, .int 0, .int 2000, .int 0, .int 0, .int 0, .int 0, .int 0, .int 0, .int (-1), .int 0]))] sz) := by
  refine Met.ofW (cc := cX6_depth) (maxL := 1) (ret := (some .int)) (by decide) rfl ?_
  intro p e s m args below meth c s₁ B hml hv
  obtain ⟨rfl, hsz, hP, hK, hD0⟩ := hv
  have hx := B.exec
  have hb := B.bytes
  have hr := B.returns
  have hts := atoms_spec (ws := vs_kX6_depth) B.pre
  have hown : s.vm.findClass RX6 = some m.cls := findClass_of_methodNamed B.named
  have hlocks := B.notSynchronized
  subst hsz
  have hD := hD0.self (sz := s.heap.size)
  clear hD0
  generalize hAe : va_A [(h0, .inr (6, [.ref g0, .ref g1, .ref g2, .ref g3, .ref g4, .int 0, .int 0, .int 0, .int 2000, .int 0, .int 0, .int 0, .int 0, .int 0, .int 0, .int (-1), .int 0]))] s.heap.size = A at hD ⊢
  have hA : ∀ q : Nat, s.heap.size ≤ q → A q := fun q h => by rw [← hAe]; exact Or.inr h
  clear hAe
  have hS : va_S A s.heap s.heap [] := va_S.rf
  have hl := lv_entry ([.ref h0]) (n := 1) (Nat.le_of_ble_eq_true rfl)
  rw [lg_entry_eq]
  generalize (lg_sl ([.ref h0]) ++ List.replicate (1 - (lg_sl ([.ref h0])).length) Slot.unset).toArray = ls at hl ⊢
  replace hl : lv_has ls 1 [(0, .ref h0)] := hl
  refine my_st (fun H locs eH el => ?_)
  replace hP : va_P (dC, dI) vwCl [(h0, .inr (6, [.ref g0, .ref g1, .ref g2, .ref g3, .ref g4, .int 0, .int 0, .int 0, .int 2000, .int 0, .int 0, .int 0, .int 0, .int 0, .int 0, .int (-1), .int 0]))] H := by rw [eH]; exact hP
  replace hS : va_S A s.heap H locs := by rw [eH, el]; exact hS
  clear eH el
  refine lv_aload_n hx hb dX6_depth_0 rfl (lv_at hl 0 rfl) ?_
  refine va_get (D := (dC, dI)) (ci := 6) (v := .int 2000) (C := RX6) (T := TX6) (N := 17) hx hb hts i_kX6_depth_X6 hown hK hP 0 rfl rfl 8 (by decide) (hts (Cond.fieldLink RX6 34 "CompiledHouse$Machine" "behind" "I") (List.mem_cons_of_mem _ (List.mem_append_left _ (List.mem_of_getElem? (i := 0) rfl)))) (fun _ h9 => h9) rfl dX6_depth_1 ?_
  refine lv_sipush (v := 2000) hx hb dX6_depth_4 (by decide) ?_
  refine lv_isub hx hb dX6_depth_7 ?_
  refine my_top 0 (by decide) ?_
  have hP9 := hP.sub (ws' := [(h0, .inr (6, [.ref g0, .ref g1, .ref g2, .ref g3, .ref g4, .int 0, .int 0, .int 0, .int 2000, .int 0, .int 0, .int 0, .int 0, .int 0, .int 0, .int (-1), .int 0]))]) [0] rfl
  have hD9 := hD.sub (ws' := [(h0, .inr (6, [.ref g0, .ref g1, .ref g2, .ref g3, .ref g4, .int 0, .int 0, .int 0, .int 2000, .int 0, .int 0, .int 0, .int 0, .int 0, .int 0, .int (-1), .int 0]))]) [0] (by decide) rfl
  refine W.widen (k := 0) (n := 0) (by decide) (by decide) ?_
  exact W.iret (v := 0) hx hb hr (fun t ht hW => ⟨⟨0, (), rfl, rfl, by rw [ht]; exact hP9, va_K.moved hW.alike hK, hD9⟩, hS.F ht⟩) hS.2.2 dX6_depth_8
def vs_kX11_world : List Cond := Cond.code yX11_world cX11_world 2 (some .int) :: (([Cond.fieldLink RX11 47 "CompiledHouse" "machine" "LCompiledHouse$Machine;", Cond.fieldLink RX11 146 "CompiledHouse$Machine" "state" "I", Cond.fieldLink RX11 156 "CompiledHouse$Machine" "taken" "I", Cond.fieldLink RX11 38 "CompiledHouse" "ports" "LCompiledHouse$Ports;", Cond.fieldLink RX11 159 "CompiledHouse$Ports" "shownCount" "I", Cond.fieldLink RX11 140 "CompiledHouse$Ports" "waiting" "I", Cond.fieldLink RX11 162 "CompiledHouse$Machine" "value" "I", Cond.fieldLink RX11 165 "CompiledHouse$Machine" "place" "I", Cond.fieldLink RX11 171 "CompiledHouse$Machine" "limit" "I"] : List Cond) ++ ((wsX110) ++ ((wsX60) ++ ((wsX70) ++ (wsV RX11 168 RX6 yX6_depth vs_kX6_depth)))))
theorem i_kX11_world_X11 : ∀ w ∈ wsX110, w ∈ vs_kX11_world := fun w h => List.mem_cons_of_mem _ (List.mem_append_right _ (List.mem_append_left _ h))
theorem i_kX11_world_X6 : ∀ w ∈ wsX60, w ∈ vs_kX11_world := fun w h => List.mem_cons_of_mem _ (List.mem_append_right _ (List.mem_append_right _ (List.mem_append_left _ h)))
theorem i_kX11_world_X7 : ∀ w ∈ wsX70, w ∈ vs_kX11_world := fun w h => List.mem_cons_of_mem _ (List.mem_append_right _ (List.mem_append_right _ (List.mem_append_right _ (List.mem_append_left _ h))))
theorem g_kX11_world_3 : GoodIn vs_kX11_world (wsV RX11 168 RX6 yX6_depth vs_kX6_depth) := fun w h => ⟨List.mem_cons_of_mem _ (List.mem_append_right _ (List.mem_append_right _ (List.mem_append_right _ (List.mem_append_right _ h)))), good_of_word (List.all_eq_true.mp (show (wsV RX11 168 RX6 yX6_depth vs_kX6_depth).all goodWord = true by decide +kernel) w h)⟩
def sp_kX11_world (p0 : Int32) : Int32 := if p0.toInt < 0 ∨ 7 < p0.toInt then (-1) else (if p0 = 0 then 0 else (if p0 = 1 then 0 else (if p0 = 2 then 0 else (if p0 = 3 then 0 else (if p0 = 4 then 0 else (if p0 = 5 then (-1) else (if p0 = 6 then 0 else (0))))))))
set_option maxHeartbeats 4000000 in
set_option maxRecDepth 100000 in
theorem kX11_world (l : Launch) (dC : Nat → ClassId) (dI : Nat → Nat → Nat) (cI cB cZ : ClassId) (h0 : Nat) (h1 : Nat) (h2 : Nat) (g0 : Nat) (g1 : Nat) (g2 : Nat) (g3 : Nat) (g4 : Nat) (g5 : Nat) (g6 : Nat) (g7 : Nat) (g8 : Nat) (g9 : Nat) (sz : Nat) (p0 : Int32) : Met l yX11_world vs_kX11_world ({ frames := 1, cells := 0, slots := 0, locals := 20 }) (va_Pc [.ref h0, .int p0] (fun U => U.heap.size = sz ∧ va_P (dC, dI) vwCl [(h0, .inr (11, [.ref g0, .ref g1, .ref g2, .ref h2, .ref h1, .ref g3, .ref g4])), (h1, .inr (6, [.ref g5, .ref g2, .ref h2, .ref g6, .ref g7, .int 0, .int 0, .int 0, .int 2000, .int 0, .int 0, .int 0, .int 0, .int 0, .int 0, .int (-1), .int 0])), (h2, .inr (7, [.ref g8, .int 0, .int 0, .ref g9, .int 0]))] U.heap ∧ va_K (dC, dI) vwCl (ty3 cI cB cZ) U ∧ va_D (fun _ => True) [(h0, .inr (11, [.ref g0, .ref g1, .ref g2, .ref h2, .ref h1, .ref g3, .ref g4])), (h1, .inr (6, [.ref g5, .ref g2, .ref h2, .ref g6, .ref g7, .int 0, .int 0, .int 0, .int 2000, .int 0, .int 0, .int 0, .int 0, .int 0, .int 0, .int (-1), .int 0])), (h2, .inr (7, [.ref g8, .int 0, .int 0, .ref g9, .int 0]))])) (va_Qi (fun (r : Int32) (_ : Unit) => r = sp_kX11_world p0) (fun (_ : Unit) (_ : State) => True) (va_A [(h0, .inr (11, [.ref g0, .ref g1, .ref g2, .ref h2, .ref h1, .ref g3, .ref g4])), (h1, .inr (6, [.ref g5, .ref g2, .ref h2, .ref g6, .ref g7, .int 0, .int 0, .int 0, .int 2000, .int 0, .int 0, .int 0, .int 0, .int 0, .int 0, .int (-1), .int 0])), (h2, .inr (7, [.ref g8, .int 0, .int 0, .ref g9, .int 0]))] sz)) 0 0 (va_A [(h0, .inr (11, [.ref g0, .ref g1, .ref g2, .ref h2, .ref h1, .ref g3, .ref g4])), (h1, .inr (6, [.ref g5, .ref g2, .ref h2, .ref g6, .ref g7, .int 0, .int 0, .int 0, .int 2000, .int 0, .int 0, .int 0, .int 0, .int 0, .int 0, .int (-1), .int 0])), (h2, .inr (7, [.ref g8, .int 0, .int 0, .ref g9, .int 0]))] sz) := by
  refine Met.ofW (cc := cX11_world) (maxL := 2) (ret := (some .int)) (by decide) rfl ?_
  intro p e s m args below meth c s₁ B hml hv
  obtain ⟨rfl, hsz, hP, hK, hD0⟩ := hv
  have hx := B.exec
  have hb := B.bytes
  have hr := B.returns
  have hts := atoms_spec (ws := vs_kX11_world) B.pre
  have hown : s.vm.findClass RX11 = some m.cls := findClass_of_methodNamed B.named
  have hlocks := B.notSynchronized
  subst hsz
  have hD := hD0.self (sz := s.heap.size)
  clear hD0
  generalize hAe : va_A [(h0, .inr (11, [.ref g0, .ref g1, .ref g2, .ref h2, .ref h1, .ref g3, .ref g4])), (h1, .inr (6, [.ref g5, .ref g2, .ref h2, .ref g6, .ref g7, .int 0, .int 0, .int 0, .int 2000, .int 0, .int 0, .int 0, .int 0, .int 0, .int 0, .int (-1), .int 0])), (h2, .inr (7, [.ref g8, .int 0, .int 0, .ref g9, .int 0]))] s.heap.size = A at hD ⊢
  have hA : ∀ q : Nat, s.heap.size ≤ q → A q := fun q h => by rw [← hAe]; exact Or.inr h
  clear hAe
  have hS : va_S A s.heap s.heap [] := va_S.rf
  have hl := lv_entry ([.ref h0, .int p0]) (n := 2) (Nat.le_of_ble_eq_true rfl)
  rw [lg_entry_eq]
  generalize (lg_sl ([.ref h0, .int p0]) ++ List.replicate (2 - (lg_sl ([.ref h0, .int p0])).length) Slot.unset).toArray = ls at hl ⊢
  replace hl : lv_has ls 2 [(0, .ref h0), (1, .int p0)] := hl
  refine my_st (fun H locs eH el => ?_)
  replace hP : va_P (dC, dI) vwCl [(h0, .inr (11, [.ref g0, .ref g1, .ref g2, .ref h2, .ref h1, .ref g3, .ref g4])), (h1, .inr (6, [.ref g5, .ref g2, .ref h2, .ref g6, .ref g7, .int 0, .int 0, .int 0, .int 2000, .int 0, .int 0, .int 0, .int 0, .int 0, .int 0, .int (-1), .int 0])), (h2, .inr (7, [.ref g8, .int 0, .int 0, .ref g9, .int 0]))] H := by rw [eH]; exact hP
  replace hS : va_S A s.heap H locs := by rw [eH, el]; exact hS
  clear eH el
  refine lv_iload_n hx hb dX11_world_0 rfl (lv_at hl 1 rfl) ?_
  rcases my_sw7 p0 with rfl | rfl | rfl | rfl | rfl | rfl | rfl | rfl | hsw
  · refine lv_tableIn (off := 47) (tgt := 48) hx hb dX11_world_1 (by decide) (by decide) (by decide) (by decide) ?_
    refine lv_aload_n hx hb dX11_world_48 rfl (lv_at hl 0 rfl) ?_
    refine va_get (D := (dC, dI)) (ci := 11) (v := .ref h1) (C := RX11) (T := TX11) (N := 7) hx hb hts i_kX11_world_X11 hown hK hP 0 rfl rfl 4 (by decide) (hts (Cond.fieldLink RX11 47 "CompiledHouse" "machine" "LCompiledHouse$Machine;") (List.mem_cons_of_mem _ (List.mem_append_left _ (List.mem_of_getElem? (i := 0) rfl)))) (fun _ h9 => h9) rfl dX11_world_49 ?_
    refine va_get (D := (dC, dI)) (ci := 6) (v := .int 0) (C := RX6) (T := TX6) (N := 17) hx hb hts i_kX11_world_X6 hown hK hP 1 rfl rfl 12 (by decide) (hts (Cond.fieldLink RX11 146 "CompiledHouse$Machine" "state" "I") (List.mem_cons_of_mem _ (List.mem_append_left _ (List.mem_of_getElem? (i := 1) rfl)))) (fun _ h9 => h9) rfl dX11_world_52 ?_
    exact W.iret (v := 0) hx hb hr (fun t ht hW => ⟨⟨0, (), rfl, by decide, trivial⟩, hS.F ht⟩) hS.2.2 dX11_world_55
  · refine lv_tableIn (off := 55) (tgt := 56) hx hb dX11_world_1 (by decide) (by decide) (by decide) (by decide) ?_
    refine lv_aload_n hx hb dX11_world_56 rfl (lv_at hl 0 rfl) ?_
    refine va_get (D := (dC, dI)) (ci := 11) (v := .ref h1) (C := RX11) (T := TX11) (N := 7) hx hb hts i_kX11_world_X11 hown hK hP 0 rfl rfl 4 (by decide) (hts (Cond.fieldLink RX11 47 "CompiledHouse" "machine" "LCompiledHouse$Machine;") (List.mem_cons_of_mem _ (List.mem_append_left _ (List.mem_of_getElem? (i := 0) rfl)))) (fun _ h9 => h9) rfl dX11_world_57 ?_
    refine va_get (D := (dC, dI)) (ci := 6) (v := .int 0) (C := RX6) (T := TX6) (N := 17) hx hb hts i_kX11_world_X6 hown hK hP 1 rfl rfl 13 (by decide) (hts (Cond.fieldLink RX11 156 "CompiledHouse$Machine" "taken" "I") (List.mem_cons_of_mem _ (List.mem_append_left _ (List.mem_of_getElem? (i := 2) rfl)))) (fun _ h9 => h9) rfl dX11_world_60 ?_
    exact W.iret (v := 0) hx hb hr (fun t ht hW => ⟨⟨0, (), rfl, by decide, trivial⟩, hS.F ht⟩) hS.2.2 dX11_world_63
  · refine lv_tableIn (off := 63) (tgt := 64) hx hb dX11_world_1 (by decide) (by decide) (by decide) (by decide) ?_
    refine lv_aload_n hx hb dX11_world_64 rfl (lv_at hl 0 rfl) ?_
    refine va_get (D := (dC, dI)) (ci := 11) (v := .ref h2) (C := RX11) (T := TX11) (N := 7) hx hb hts i_kX11_world_X11 hown hK hP 0 rfl rfl 3 (by decide) (hts (Cond.fieldLink RX11 38 "CompiledHouse" "ports" "LCompiledHouse$Ports;") (List.mem_cons_of_mem _ (List.mem_append_left _ (List.mem_of_getElem? (i := 3) rfl)))) (fun _ h9 => h9) rfl dX11_world_65 ?_
    refine va_get (D := (dC, dI)) (ci := 7) (v := .int 0) (C := RX7) (T := TX7) (N := 5) hx hb hts i_kX11_world_X7 hown hK hP 2 rfl rfl 4 (by decide) (hts (Cond.fieldLink RX11 159 "CompiledHouse$Ports" "shownCount" "I") (List.mem_cons_of_mem _ (List.mem_append_left _ (List.mem_of_getElem? (i := 4) rfl)))) (fun _ h9 => h9) rfl dX11_world_68 ?_
    exact W.iret (v := 0) hx hb hr (fun t ht hW => ⟨⟨0, (), rfl, by decide, trivial⟩, hS.F ht⟩) hS.2.2 dX11_world_71
  · refine lv_tableIn (off := 71) (tgt := 72) hx hb dX11_world_1 (by decide) (by decide) (by decide) (by decide) ?_
    refine lv_aload_n hx hb dX11_world_72 rfl (lv_at hl 0 rfl) ?_
    refine va_get (D := (dC, dI)) (ci := 11) (v := .ref h2) (C := RX11) (T := TX11) (N := 7) hx hb hts i_kX11_world_X11 hown hK hP 0 rfl rfl 3 (by decide) (hts (Cond.fieldLink RX11 38 "CompiledHouse" "ports" "LCompiledHouse$Ports;") (List.mem_cons_of_mem _ (List.mem_append_left _ (List.mem_of_getElem? (i := 3) rfl)))) (fun _ h9 => h9) rfl dX11_world_73 ?_
    refine va_get (D := (dC, dI)) (ci := 7) (v := .int 0) (C := RX7) (T := TX7) (N := 5) hx hb hts i_kX11_world_X7 hown hK hP 2 rfl rfl 2 (by decide) (hts (Cond.fieldLink RX11 140 "CompiledHouse$Ports" "waiting" "I") (List.mem_cons_of_mem _ (List.mem_append_left _ (List.mem_of_getElem? (i := 5) rfl)))) (fun _ h9 => h9) rfl dX11_world_76 ?_
    exact W.iret (v := 0) hx hb hr (fun t ht hW => ⟨⟨0, (), rfl, by decide, trivial⟩, hS.F ht⟩) hS.2.2 dX11_world_79
  · refine lv_tableIn (off := 79) (tgt := 80) hx hb dX11_world_1 (by decide) (by decide) (by decide) (by decide) ?_
    refine lv_aload_n hx hb dX11_world_80 rfl (lv_at hl 0 rfl) ?_
    refine va_get (D := (dC, dI)) (ci := 11) (v := .ref h1) (C := RX11) (T := TX11) (N := 7) hx hb hts i_kX11_world_X11 hown hK hP 0 rfl rfl 4 (by decide) (hts (Cond.fieldLink RX11 47 "CompiledHouse" "machine" "LCompiledHouse$Machine;") (List.mem_cons_of_mem _ (List.mem_append_left _ (List.mem_of_getElem? (i := 0) rfl)))) (fun _ h9 => h9) rfl dX11_world_81 ?_
    refine va_get (D := (dC, dI)) (ci := 6) (v := .int 0) (C := RX6) (T := TX6) (N := 17) hx hb hts i_kX11_world_X6 hown hK hP 1 rfl rfl 14 (by decide) (hts (Cond.fieldLink RX11 162 "CompiledHouse$Machine" "value" "I") (List.mem_cons_of_mem _ (List.mem_append_left _ (List.mem_of_getElem? (i := 6) rfl)))) (fun _ h9 => h9) rfl dX11_world_84 ?_
    exact W.iret (v := 0) hx hb hr (fun t ht hW => ⟨⟨0, (), rfl, by decide, trivial⟩, hS.F ht⟩) hS.2.2 dX11_world_87
  · refine lv_tableIn (off := 87) (tgt := 88) hx hb dX11_world_1 (by decide) (by decide) (by decide) (by decide) ?_
    refine lv_aload_n hx hb dX11_world_88 rfl (lv_at hl 0 rfl) ?_
    refine va_get (D := (dC, dI)) (ci := 11) (v := .ref h1) (C := RX11) (T := TX11) (N := 7) hx hb hts i_kX11_world_X11 hown hK hP 0 rfl rfl 4 (by decide) (hts (Cond.fieldLink RX11 47 "CompiledHouse" "machine" "LCompiledHouse$Machine;") (List.mem_cons_of_mem _ (List.mem_append_left _ (List.mem_of_getElem? (i := 0) rfl)))) (fun _ h9 => h9) rfl dX11_world_89 ?_
    refine va_get (D := (dC, dI)) (ci := 6) (v := .int (-1)) (C := RX6) (T := TX6) (N := 17) hx hb hts i_kX11_world_X6 hown hK hP 1 rfl rfl 15 (by decide) (hts (Cond.fieldLink RX11 165 "CompiledHouse$Machine" "place" "I") (List.mem_cons_of_mem _ (List.mem_append_left _ (List.mem_of_getElem? (i := 7) rfl)))) (fun _ h9 => h9) rfl dX11_world_92 ?_
    exact W.iret (v := (-1)) hx hb hr (fun t ht hW => ⟨⟨(-1), (), rfl, by decide, trivial⟩, hS.F ht⟩) hS.2.2 dX11_world_95
  · refine lv_tableIn (off := 95) (tgt := 96) hx hb dX11_world_1 (by decide) (by decide) (by decide) (by decide) ?_
    refine lv_aload_n hx hb dX11_world_96 rfl (lv_at hl 0 rfl) ?_
    refine va_get (D := (dC, dI)) (ci := 11) (v := .ref h1) (C := RX11) (T := TX11) (N := 7) hx hb hts i_kX11_world_X11 hown hK hP 0 rfl rfl 4 (by decide) (hts (Cond.fieldLink RX11 47 "CompiledHouse" "machine" "LCompiledHouse$Machine;") (List.mem_cons_of_mem _ (List.mem_append_left _ (List.mem_of_getElem? (i := 0) rfl)))) (fun _ h9 => h9) rfl dX11_world_97 ?_
    have hPc := hP.sub (ws' := [(h1, .inr (6, [.ref g5, .ref g2, .ref h2, .ref g6, .ref g7, .int 0, .int 0, .int 0, .int 2000, .int 0, .int 0, .int 0, .int 0, .int 0, .int 0, .int (-1), .int 0]))]) [1] rfl
    have hDc := hD.sub (ws' := [(h1, .inr (6, [.ref g5, .ref g2, .ref h2, .ref g6, .ref g7, .int 0, .int 0, .int 0, .int 2000, .int 0, .int 0, .int 0, .int 0, .int 0, .int 0, .int (-1), .int 0]))]) [1] (by decide) rfl
    have hFc := va_free (wc := [(h1, .inr (6, [.ref g5, .ref g2, .ref h2, .ref g6, .ref g7, .int 0, .int 0, .int 0, .int 2000, .int 0, .int 0, .int 0, .int 0, .int 0, .int 0, .int (-1), .int 0]))]) hD hS hA [1] rfl
    refine va_calli (va_runV (As := []) (rest := []) ⟨hx, hb, hml, hown, hts⟩ (kX6_depth l dC dI cI cB cZ h1 g5 g2 h2 g6 g7 H.size ) (cwV 0 hts g_kX11_world_3 rfl rfl rfl (by decide +kernel) ⟨Nat.le_of_ble_eq_true rfl, Nat.le_of_ble_eq_true rfl⟩) ⟨fun a U g mk q => by obtain ⟨q0, q1, qP, qK, qD⟩ := q; exact ⟨q0, q1, qP, va_K.moved (u := U) (U := U.calling g mk a) (Vm.Alike.refl U.vm) qK, qD⟩, va_recv hK hPc (ci := 6) (q0 := 0) rfl rfl, fun U hU hW => ⟨rfl, by rw [hU], by rw [hU]; exact hPc, va_K.moved hW.alike hK, hDc.weaken (fun _ _ _ _ => trivial)⟩⟩ rfl rfl hl.1 rfl (lv_room (Nat.le_of_ble_eq_true rfl)) dX11_world_100 ⟨Nat.le_of_ble_eq_true rfl, Nat.le_of_ble_eq_true rfl⟩) hS (fun q _ h => hFc q h) hFc (fun r_2 u t H_1 locs ht hvm hw hB hz1 hk1 hS1 => ?_)
    obtain ⟨hP1, hK1, hD1⟩ := hB
    rw [ht] at hP1
    obtain ⟨hP2, hD2⟩ := va_join (wr := [(h0, .inr (11, [.ref g0, .ref g1, .ref g2, .ref h2, .ref h1, .ref g3, .ref g4])), (h2, .inr (7, [.ref g8, .int 0, .int 0, .ref g9, .int 0]))]) (w1 := [(h1, .inr (6, [.ref g5, .ref g2, .ref h2, .ref g6, .ref g7, .int 0, .int 0, .int 0, .int 2000, .int 0, .int 0, .int 0, .int 0, .int 0, .int 0, .int (-1), .int 0]))]) hP hD [1] [0, 2] rfl rfl (by decide) (by decide) hk1 hFc hP1 hD1
    clear hP1 hK1 hD1
    clear hP hD hS hPc hDc hFc hk1 hz1 ht hvm
    have hP1 := hP2
    have hD1 := hD2
    clear hP2 hD2
    have hP : va_P (dC, dI) vwCl [(h0, .inr (11, [.ref g0, .ref g1, .ref g2, .ref h2, .ref h1, .ref g3, .ref g4])), (h2, .inr (7, [.ref g8, .int 0, .int 0, .ref g9, .int 0])), (h1, .inr (6, [.ref g5, .ref g2, .ref h2, .ref g6, .ref g7, .int 0, .int 0, .int 0, .int 2000, .int 0, .int 0, .int 0, .int 0, .int 0, .int 0, .int (-1), .int 0]))] H_1 := hP1
    have hD : va_D A [(h0, .inr (11, [.ref g0, .ref g1, .ref g2, .ref h2, .ref h1, .ref g3, .ref g4])), (h2, .inr (7, [.ref g8, .int 0, .int 0, .ref g9, .int 0])), (h1, .inr (6, [.ref g5, .ref g2, .ref h2, .ref g6, .ref g7, .int 0, .int 0, .int 0, .int 2000, .int 0, .int 0, .int 0, .int 0, .int 0, .int 0, .int (-1), .int 0]))] := hD1
    have hS := hS1
    clear hP1 hD1 hS1
    obtain rfl := hw
    exact W.iret (v := 0) hx hb hr (fun t ht hW => ⟨⟨0, (), rfl, by decide, trivial⟩, hS.F ht⟩) hS.2.2 dX11_world_103
  · refine lv_tableIn (off := 103) (tgt := 104) hx hb dX11_world_1 (by decide) (by decide) (by decide) (by decide) ?_
    refine lv_aload_n hx hb dX11_world_104 rfl (lv_at hl 0 rfl) ?_
    refine va_get (D := (dC, dI)) (ci := 11) (v := .ref h1) (C := RX11) (T := TX11) (N := 7) hx hb hts i_kX11_world_X11 hown hK hP 0 rfl rfl 4 (by decide) (hts (Cond.fieldLink RX11 47 "CompiledHouse" "machine" "LCompiledHouse$Machine;") (List.mem_cons_of_mem _ (List.mem_append_left _ (List.mem_of_getElem? (i := 0) rfl)))) (fun _ h9 => h9) rfl dX11_world_105 ?_
    refine va_get (D := (dC, dI)) (ci := 6) (v := .int 0) (C := RX6) (T := TX6) (N := 17) hx hb hts i_kX11_world_X6 hown hK hP 1 rfl rfl 16 (by decide) (hts (Cond.fieldLink RX11 171 "CompiledHouse$Machine" "limit" "I") (List.mem_cons_of_mem _ (List.mem_append_left _ (List.mem_of_getElem? (i := 8) rfl)))) (fun _ h9 => h9) rfl dX11_world_108 ?_
    exact W.iret (v := 0) hx hb hr (fun t ht hW => ⟨⟨0, (), rfl, by decide, trivial⟩, hS.F ht⟩) hS.2.2 dX11_world_111
  · refine lv_tableOut (tgt := 112) hx hb dX11_world_1 hsw (by decide) ?_
    refine lv_iconst (v := (-1)) hx hb dX11_world_112 (by decide) ?_
    exact W.iret (v := (-1)) hx hb hr (fun t ht hW => ⟨⟨(-1), (), rfl, by unfold sp_kX11_world; rw [if_pos hsw], trivial⟩, hS.F ht⟩) hS.2.2 dX11_world_113
def vs_kX11_global : List Cond := Cond.code yX11_global cX11_global 2 (some .int) :: (([Cond.fieldLink RX11 31 "CompiledHouse" "program" "LCompiledHouse$Program;", Cond.fieldLink RX11 113 "CompiledHouse$Program" "there" "Z"] : List Cond) ++ ((wsX110) ++ (wsX80)))
theorem i_kX11_global_X11 : ∀ w ∈ wsX110, w ∈ vs_kX11_global := fun w h => List.mem_cons_of_mem _ (List.mem_append_right _ (List.mem_append_left _ h))
theorem i_kX11_global_X8 : ∀ w ∈ wsX80, w ∈ vs_kX11_global := fun w h => List.mem_cons_of_mem _ (List.mem_append_right _ (List.mem_append_right _ h))
set_option maxHeartbeats 4000000 in
set_option maxRecDepth 100000 in
theorem kX11_global (l : Launch) (dC : Nat → ClassId) (dI : Nat → Nat → Nat) (cI cB cZ : ClassId) (h0 : Nat) (h1 : Nat) (g0 : Nat) (g1 : Nat) (g2 : Nat) (g3 : Nat) (g4 : Nat) (g5 : Nat) (g6 : Nat) (g7 : Nat) (g8 : Nat) (g9 : Nat) (g10 : Nat) (g11 : Nat) (g12 : Nat) (g13 : Nat) (g14 : Nat) (sz : Nat) (p0 : Int32) : Met l yX11_global vs_kX11_global ({ frames := 0, cells := 0, slots := 0, locals := 0 }) (va_Pc [.ref h0, .int p0] (fun U => U.heap.size = sz ∧ va_P (dC, dI) vwCl [(h0, .inr (11, [.ref g0, .ref g1, .ref h1, .ref g2, .ref g3, .ref g4, .ref g5])), (h1, .inr (8, [.int 0, .int 0, .int 0, .int 0, .ref g6, .ref g7, .ref g8, .ref g9, .ref g10, .ref g11, .ref g12, .ref g13, .int 0, .ref g14]))] U.heap ∧ va_K (dC, dI) vwCl (ty3 cI cB cZ) U ∧ va_D (fun _ => True) [(h0, .inr (11, [.ref g0, .ref g1, .ref h1, .ref g2, .ref g3, .ref g4, .ref g5])), (h1, .inr (8, [.int 0, .int 0, .int 0, .int 0, .ref g6, .ref g7, .ref g8, .ref g9, .ref g10, .ref g11, .ref g12, .ref g13, .int 0, .ref g14]))])) (va_Qi (fun (r : Int32) (_ : Unit) => r = 0) (fun (_ : Unit) (t : State) => va_P (dC, dI) vwCl [(h0, .inr (11, [.ref g0, .ref g1, .ref h1, .ref g2, .ref g3, .ref g4, .ref g5])), (h1, .inr (8, [.int 0, .int 0, .int 0, .int 0, .ref g6, .ref g7, .ref g8, .ref g9, .ref g10, .ref g11, .ref g12, .ref g13, .int 0, .ref g14]))] t.heap ∧ va_K (dC, dI) vwCl (ty3 cI cB cZ) t ∧ va_D (va_A [(h0, .inr (11, [.ref g0, .ref g1, .ref h1, .ref g2, .ref g3, .ref g4, .ref g5])), (h1, .inr (8, [.int 0, .int 0, .int 0, .int 0, .ref g6, .ref g7, .ref g8, .ref g9, .ref g10, .ref g11, .ref g12, .ref g13, .int 0, .ref g14]))] sz) [(h0, .inr (11, [.ref g0, .ref g1, .ref h1, .ref g2, .ref g3, .ref g4, .ref g5])), (h1, .inr (8, [.int 0, .int 0, .int 0, .int 0, .ref g6, .ref g7, .ref g8, .ref g9, .ref g10, .ref g11, .ref g12, .ref g13, .int 0, .ref g14]))]) (va_A [(h0, .inr (11, [.ref g0, .ref g1, .ref h1, .ref g2, .ref g3, .ref g4, .ref g5])), (h1, .inr (8, [.int 0, .int 0, .int 0, .int 0, .ref g6, .ref g7, .ref g8, .ref g9, .ref g10, .ref g11, .ref g12, .ref g13, .int 0, .ref g14]))] sz)) 0 0 (va_A [(h0, .inr (11, [.ref g0, .ref g1, .ref h1, .ref g2, .ref g3, .ref g4, .ref g5])), (h1, .inr (8, [.int 0, .int 0, .int 0, .int 0, .ref g6, .ref g7, .ref g8, .ref g9, .ref g10, .ref g11, .ref g12, .ref g13, .int 0, .ref g14]))] sz) := by
  refine Met.ofW (cc := cX11_global) (maxL := 2) (ret := (some .int)) (by decide) rfl ?_
  intro p e s m args below meth c s₁ B hml hv
  obtain ⟨rfl, hsz, hP, hK, hD0⟩ := hv
  have hx := B.exec
  have hb := B.bytes
  have hr := B.returns
  have hts := atoms_spec (ws := vs_kX11_global) B.pre
  have hown : s.vm.findClass RX11 = some m.cls := findClass_of_methodNamed B.named
  have hlocks := B.notSynchronized
  subst hsz
  have hD := hD0.self (sz := s.heap.size)
  clear hD0
  generalize hAe : va_A [(h0, .inr (11, [.ref g0, .ref g1, .ref h1, .ref g2, .ref g3, .ref g4, .ref g5])), (h1, .inr (8, [.int 0, .int 0, .int 0, .int 0, .ref g6, .ref g7, .ref g8, .ref g9, .ref g10, .ref g11, .ref g12, .ref g13, .int 0, .ref g14]))] s.heap.size = A at hD ⊢
  have hA : ∀ q : Nat, s.heap.size ≤ q → A q := fun q h => by rw [← hAe]; exact Or.inr h
  clear hAe
  have hS : va_S A s.heap s.heap [] := va_S.rf
  have hl := lv_entry ([.ref h0, .int p0]) (n := 2) (Nat.le_of_ble_eq_true rfl)
  rw [lg_entry_eq]
  generalize (lg_sl ([.ref h0, .int p0]) ++ List.replicate (2 - (lg_sl ([.ref h0, .int p0])).length) Slot.unset).toArray = ls at hl ⊢
  replace hl : lv_has ls 2 [(0, .ref h0), (1, .int p0)] := hl
  refine my_st (fun H locs eH el => ?_)
  replace hP : va_P (dC, dI) vwCl [(h0, .inr (11, [.ref g0, .ref g1, .ref h1, .ref g2, .ref g3, .ref g4, .ref g5])), (h1, .inr (8, [.int 0, .int 0, .int 0, .int 0, .ref g6, .ref g7, .ref g8, .ref g9, .ref g10, .ref g11, .ref g12, .ref g13, .int 0, .ref g14]))] H := by rw [eH]; exact hP
  replace hS : va_S A s.heap H locs := by rw [eH, el]; exact hS
  clear eH el
  refine lv_aload_n hx hb dX11_global_0 rfl (lv_at hl 0 rfl) ?_
  refine va_get (D := (dC, dI)) (ci := 11) (v := .ref h1) (C := RX11) (T := TX11) (N := 7) hx hb hts i_kX11_global_X11 hown hK hP 0 rfl rfl 2 (by decide) (hts (Cond.fieldLink RX11 31 "CompiledHouse" "program" "LCompiledHouse$Program;") (List.mem_cons_of_mem _ (List.mem_append_left _ (List.mem_of_getElem? (i := 0) rfl)))) (fun _ h9 => h9) rfl dX11_global_1 ?_
  refine va_get (D := (dC, dI)) (ci := 8) (v := .int 0) (C := RX8) (T := TX8) (N := 14) hx hb hts i_kX11_global_X8 hown hK hP 1 rfl rfl 0 (by decide) (hts (Cond.fieldLink RX11 113 "CompiledHouse$Program" "there" "Z") (List.mem_cons_of_mem _ (List.mem_append_left _ (List.mem_of_getElem? (i := 1) rfl)))) (fun _ h9 => h9) rfl dX11_global_4 ?_
  refine lv_if_eq (tgt := 25) hx hb dX11_global_7 (by decide) (fun _ => ?_) (fun c_0 => absurd (by decide) c_0)
  refine lv_iconst (v := 0) hx hb dX11_global_25 (by decide) ?_
  have hP9 := hP.sub (ws' := [(h0, .inr (11, [.ref g0, .ref g1, .ref h1, .ref g2, .ref g3, .ref g4, .ref g5])), (h1, .inr (8, [.int 0, .int 0, .int 0, .int 0, .ref g6, .ref g7, .ref g8, .ref g9, .ref g10, .ref g11, .ref g12, .ref g13, .int 0, .ref g14]))]) [0, 1] rfl
  have hD9 := hD.sub (ws' := [(h0, .inr (11, [.ref g0, .ref g1, .ref h1, .ref g2, .ref g3, .ref g4, .ref g5])), (h1, .inr (8, [.int 0, .int 0, .int 0, .int 0, .ref g6, .ref g7, .ref g8, .ref g9, .ref g10, .ref g11, .ref g12, .ref g13, .int 0, .ref g14]))]) [0, 1] (by decide) rfl
  refine W.widen (k := 0) (n := 0) (by decide) (by decide) ?_
  exact W.iret (v := 0) hx hb hr (fun t ht hW => ⟨⟨0, (), rfl, rfl, by rw [ht]; exact hP9, va_K.moved hW.alike hK, hD9⟩, hS.F ht⟩) hS.2.2 dX11_global_26
def vs_kX0_hold : List Cond := Cond.code yX0_hold cX0_hold 3 (some .boolean) :: (([Cond.fieldLink RX0 11 "CompiledHouse$Board" "memory" "[I"] : List Cond) ++ (wsX00))
theorem i_kX0_hold_X0 : ∀ w ∈ wsX00, w ∈ vs_kX0_hold := fun w h => List.mem_cons_of_mem _ (List.mem_append_right _ h)
def sp_kX0_hold (p0 : Int32) (p1 : Int32) : Int32 := if p0 < 0 then 0 else (if 16384 ≤ p0 then 0 else (if (p0 &&& 3) = 0 then 1 else (0)))
set_option maxHeartbeats 4000000 in
set_option maxRecDepth 100000 in
theorem kX0_hold (l : Launch) (dC : Nat → ClassId) (dI : Nat → Nat → Nat) (cI cB cZ : ClassId) (h0 : Nat) (h1 : Nat) (g0 : Nat) (sz : Nat) (p0 : Int32) (p1 : Int32) : Met l yX0_hold vs_kX0_hold ({ frames := 0, cells := 0, slots := 0, locals := 0 }) (va_Pc [.ref h0, .int p0, .int p1] (fun U => U.heap.size = sz ∧ va_P (dC, dI) vwCl [(h0, .inr (0, [.ref h1, .ref g0, .int 0, .int 0, .int 0])), (h1, .inl (cI, 4096, .inl (fun _ => 0)))] U.heap ∧ va_K (dC, dI) vwCl (ty3 cI cB cZ) U ∧ va_D (fun _ => True) [(h0, .inr (0, [.ref h1, .ref g0, .int 0, .int 0, .int 0])), (h1, .inl (cI, 4096, .inl (fun _ => 0)))])) (va_Qi (fun (r : Int32) (_ : Unit) => r = sp_kX0_hold p0 p1) (fun (_ : Unit) (_ : State) => True) (va_A [(h0, .inr (0, [.ref h1, .ref g0, .int 0, .int 0, .int 0])), (h1, .inl (cI, 4096, .inl (fun _ => 0)))] sz)) 0 0 (va_A [(h0, .inr (0, [.ref h1, .ref g0, .int 0, .int 0, .int 0])), (h1, .inl (cI, 4096, .inl (fun _ => 0)))] sz) := by
  refine Met.ofW (cc := cX0_hold) (maxL := 3) (ret := (some .boolean)) (by decide) rfl ?_
  intro p e s m args below meth c s₁ B hml hv
  obtain ⟨rfl, hsz, hP, hK, hD0⟩ := hv
  have hx := B.exec
  have hb := B.bytes
  have hr := B.returns
  have hts := atoms_spec (ws := vs_kX0_hold) B.pre
  have hown : s.vm.findClass RX0 = some m.cls := findClass_of_methodNamed B.named
  have hlocks := B.notSynchronized
  subst hsz
  have hD := hD0.self (sz := s.heap.size)
  clear hD0
  generalize hAe : va_A [(h0, .inr (0, [.ref h1, .ref g0, .int 0, .int 0, .int 0])), (h1, .inl (cI, 4096, .inl (fun _ => 0)))] s.heap.size = A at hD ⊢
  have hA : ∀ q : Nat, s.heap.size ≤ q → A q := fun q h => by rw [← hAe]; exact Or.inr h
  clear hAe
  have hS : va_S A s.heap s.heap [] := va_S.rf
  have hl := lv_entry ([.ref h0, .int p0, .int p1]) (n := 3) (Nat.le_of_ble_eq_true rfl)
  rw [lg_entry_eq]
  generalize (lg_sl ([.ref h0, .int p0, .int p1]) ++ List.replicate (3 - (lg_sl ([.ref h0, .int p0, .int p1])).length) Slot.unset).toArray = ls at hl ⊢
  replace hl : lv_has ls 3 [(0, .ref h0), (1, .int p0), (2, .int p1)] := hl
  refine my_st (fun H locs eH el => ?_)
  replace hP : va_P (dC, dI) vwCl [(h0, .inr (0, [.ref h1, .ref g0, .int 0, .int 0, .int 0])), (h1, .inl (cI, 4096, .inl (fun _ => 0)))] H := by rw [eH]; exact hP
  replace hS : va_S A s.heap H locs := by rw [eH, el]; exact hS
  clear eH el
  refine lv_iload_n hx hb dX0_hold_0 rfl (lv_at hl 1 rfl) ?_
  refine lv_if_lt (tgt := 17) hx hb dX0_hold_1 (by decide) (fun c_1 => ?_) (fun c_1 => ?_)
  · refine lv_iconst (v := 0) hx hb dX0_hold_17 (by decide) ?_
    exact W.zret (v := 0) hx hb hr rfl (fun t ht hW => ⟨⟨0, (), rfl, by unfold sp_kX0_hold; rw [if_pos c_1], trivial⟩, hS.F ht⟩) hS.2.2 dX0_hold_18
  · refine lv_iload_n hx hb dX0_hold_4 rfl (lv_at hl 1 rfl) ?_
    refine lv_sipush (v := 16384) hx hb dX0_hold_5 (by decide) ?_
    refine lv_icmp_ge (tgt := 17) hx hb dX0_hold_8 (by decide) (fun c_2 => ?_) (fun c_2 => ?_)
    · refine lv_iconst (v := 0) hx hb dX0_hold_17 (by decide) ?_
      exact W.zret (v := 0) hx hb hr rfl (fun t ht hW => ⟨⟨0, (), rfl, by unfold sp_kX0_hold; rw [if_neg c_1, if_pos c_2], trivial⟩, hS.F ht⟩) hS.2.2 dX0_hold_18
    · refine lv_iload_n hx hb dX0_hold_11 rfl (lv_at hl 1 rfl) ?_
      refine lv_iconst (v := 3) hx hb dX0_hold_12 (by decide) ?_
      refine lv_iand hx hb dX0_hold_13 ?_
      refine lv_if_eq (tgt := 19) hx hb dX0_hold_14 (by decide) (fun c_3 => ?_) (fun c_3 => ?_)
      · refine lv_aload_n hx hb dX0_hold_19 rfl (lv_at hl 0 rfl) ?_
        refine va_get (D := (dC, dI)) (ci := 0) (v := .ref h1) (C := RX0) (T := TX0) (N := 5) hx hb hts i_kX0_hold_X0 hown hK hP 0 rfl rfl 0 (by decide) (hts (Cond.fieldLink RX0 11 "CompiledHouse$Board" "memory" "[I") (List.mem_cons_of_mem _ (List.mem_append_left _ (List.mem_of_getElem? (i := 0) rfl)))) (fun _ h9 => h9) rfl dX0_hold_20 ?_
        refine lv_iload_n hx hb dX0_hold_23 rfl (lv_at hl 1 rfl) ?_
        refine lv_iconst (v := 2) hx hb dX0_hold_24 (by decide) ?_
        refine lv_ishr hx hb dX0_hold_25 ?_
        refine lv_iload_n hx hb dX0_hold_26 rfl (lv_at hl 2 rfl) ?_
        refine my_iast hx hb hK hP hD hS 1 0 rfl rfl (my_hold c_1 c_2) dX0_hold_27 (fun f_5 H_4 locs hP1 hD1 hS1 => ?_)
        clear hP hD hS
        have hP : va_P (dC, dI) vwCl [(h0, .inr (0, [.ref h1, .ref g0, .int 0, .int 0, .int 0])), (h1, .inl (cI, 4096, .inl f_5))] H_4 := hP1
        have hD : va_D A [(h0, .inr (0, [.ref h1, .ref g0, .int 0, .int 0, .int 0])), (h1, .inl (cI, 4096, .inl f_5))] := hD1
        have hS := hS1
        clear hP1 hD1 hS1
        refine lv_iconst (v := 1) hx hb dX0_hold_28 (by decide) ?_
        exact W.zret (v := 1) hx hb hr rfl (fun t ht hW => ⟨⟨1, (), rfl, by unfold sp_kX0_hold; rw [if_neg c_1, if_neg c_2, if_pos c_3], trivial⟩, hS.F ht⟩) hS.2.2 dX0_hold_29
      · refine lv_iconst (v := 0) hx hb dX0_hold_17 (by decide) ?_
        exact W.zret (v := 0) hx hb hr rfl (fun t ht hW => ⟨⟨0, (), rfl, by unfold sp_kX0_hold; rw [if_neg c_1, if_neg c_2, if_neg c_3], trivial⟩, hS.F ht⟩) hS.2.2 dX0_hold_18
def vs_kX11_put : List Cond := Cond.code yX11_put cX11_put 3 (some .boolean) :: (([Cond.fieldLink RX11 78 "CompiledHouse" "board" "LCompiledHouse$Board;"] : List Cond) ++ ((wsX110) ++ (wsV RX11 180 RX0 yX0_hold vs_kX0_hold)))
theorem i_kX11_put_X11 : ∀ w ∈ wsX110, w ∈ vs_kX11_put := fun w h => List.mem_cons_of_mem _ (List.mem_append_right _ (List.mem_append_left _ h))
theorem g_kX11_put_1 : GoodIn vs_kX11_put (wsV RX11 180 RX0 yX0_hold vs_kX0_hold) := fun w h => ⟨List.mem_cons_of_mem _ (List.mem_append_right _ (List.mem_append_right _ h)), good_of_word (List.all_eq_true.mp (show (wsV RX11 180 RX0 yX0_hold vs_kX0_hold).all goodWord = true by decide +kernel) w h)⟩
def sp_kX11_put (p0 : Int32) (p1 : Int32) : Int32 := (sp_kX0_hold p0 p1)
set_option maxHeartbeats 4000000 in
set_option maxRecDepth 100000 in
theorem kX11_put (l : Launch) (dC : Nat → ClassId) (dI : Nat → Nat → Nat) (cI cB cZ : ClassId) (h0 : Nat) (h1 : Nat) (h2 : Nat) (g0 : Nat) (g1 : Nat) (g2 : Nat) (g3 : Nat) (g4 : Nat) (g5 : Nat) (g6 : Nat) (sz : Nat) (p0 : Int32) (p1 : Int32) : Met l yX11_put vs_kX11_put ({ frames := 1, cells := 0, slots := 0, locals := 22 }) (va_Pc [.ref h0, .int p0, .int p1] (fun U => U.heap.size = sz ∧ va_P (dC, dI) vwCl [(h0, .inr (11, [.ref g0, .ref g1, .ref g2, .ref g3, .ref g4, .ref g5, .ref h1])), (h1, .inr (0, [.ref h2, .ref g6, .int 0, .int 0, .int 0])), (h2, .inl (cI, 4096, .inl (fun _ => 0)))] U.heap ∧ va_K (dC, dI) vwCl (ty3 cI cB cZ) U ∧ va_D (fun _ => True) [(h0, .inr (11, [.ref g0, .ref g1, .ref g2, .ref g3, .ref g4, .ref g5, .ref h1])), (h1, .inr (0, [.ref h2, .ref g6, .int 0, .int 0, .int 0])), (h2, .inl (cI, 4096, .inl (fun _ => 0)))])) (va_Qi (fun (r : Int32) (_ : Unit) => r = sp_kX11_put p0 p1) (fun (_ : Unit) (_ : State) => True) (va_A [(h0, .inr (11, [.ref g0, .ref g1, .ref g2, .ref g3, .ref g4, .ref g5, .ref h1])), (h1, .inr (0, [.ref h2, .ref g6, .int 0, .int 0, .int 0])), (h2, .inl (cI, 4096, .inl (fun _ => 0)))] sz)) 0 0 (va_A [(h0, .inr (11, [.ref g0, .ref g1, .ref g2, .ref g3, .ref g4, .ref g5, .ref h1])), (h1, .inr (0, [.ref h2, .ref g6, .int 0, .int 0, .int 0])), (h2, .inl (cI, 4096, .inl (fun _ => 0)))] sz) := by
  refine Met.ofW (cc := cX11_put) (maxL := 3) (ret := (some .boolean)) (by decide) rfl ?_
  intro p e s m args below meth c s₁ B hml hv
  obtain ⟨rfl, hsz, hP, hK, hD0⟩ := hv
  have hx := B.exec
  have hb := B.bytes
  have hr := B.returns
  have hts := atoms_spec (ws := vs_kX11_put) B.pre
  have hown : s.vm.findClass RX11 = some m.cls := findClass_of_methodNamed B.named
  have hlocks := B.notSynchronized
  subst hsz
  have hD := hD0.self (sz := s.heap.size)
  clear hD0
  generalize hAe : va_A [(h0, .inr (11, [.ref g0, .ref g1, .ref g2, .ref g3, .ref g4, .ref g5, .ref h1])), (h1, .inr (0, [.ref h2, .ref g6, .int 0, .int 0, .int 0])), (h2, .inl (cI, 4096, .inl (fun _ => 0)))] s.heap.size = A at hD ⊢
  have hA : ∀ q : Nat, s.heap.size ≤ q → A q := fun q h => by rw [← hAe]; exact Or.inr h
  clear hAe
  have hS : va_S A s.heap s.heap [] := va_S.rf
  have hl := lv_entry ([.ref h0, .int p0, .int p1]) (n := 3) (Nat.le_of_ble_eq_true rfl)
  rw [lg_entry_eq]
  generalize (lg_sl ([.ref h0, .int p0, .int p1]) ++ List.replicate (3 - (lg_sl ([.ref h0, .int p0, .int p1])).length) Slot.unset).toArray = ls at hl ⊢
  replace hl : lv_has ls 3 [(0, .ref h0), (1, .int p0), (2, .int p1)] := hl
  refine my_st (fun H locs eH el => ?_)
  replace hP : va_P (dC, dI) vwCl [(h0, .inr (11, [.ref g0, .ref g1, .ref g2, .ref g3, .ref g4, .ref g5, .ref h1])), (h1, .inr (0, [.ref h2, .ref g6, .int 0, .int 0, .int 0])), (h2, .inl (cI, 4096, .inl (fun _ => 0)))] H := by rw [eH]; exact hP
  replace hS : va_S A s.heap H locs := by rw [eH, el]; exact hS
  clear eH el
  refine lv_aload_n hx hb dX11_put_0 rfl (lv_at hl 0 rfl) ?_
  refine va_get (D := (dC, dI)) (ci := 11) (v := .ref h1) (C := RX11) (T := TX11) (N := 7) hx hb hts i_kX11_put_X11 hown hK hP 0 rfl rfl 6 (by decide) (hts (Cond.fieldLink RX11 78 "CompiledHouse" "board" "LCompiledHouse$Board;") (List.mem_cons_of_mem _ (List.mem_append_left _ (List.mem_of_getElem? (i := 0) rfl)))) (fun _ h9 => h9) rfl dX11_put_1 ?_
  refine lv_iload_n hx hb dX11_put_4 rfl (lv_at hl 1 rfl) ?_
  refine lv_iload_n hx hb dX11_put_5 rfl (lv_at hl 2 rfl) ?_
  have hPc := hP.sub (ws' := [(h1, .inr (0, [.ref h2, .ref g6, .int 0, .int 0, .int 0])), (h2, .inl (cI, 4096, .inl (fun _ => 0)))]) [1, 2] rfl
  have hDc := hD.sub (ws' := [(h1, .inr (0, [.ref h2, .ref g6, .int 0, .int 0, .int 0])), (h2, .inl (cI, 4096, .inl (fun _ => 0)))]) [1, 2] (by decide) rfl
  have hFc := va_free (wc := [(h1, .inr (0, [.ref h2, .ref g6, .int 0, .int 0, .int 0])), (h2, .inl (cI, 4096, .inl (fun _ => 0)))]) hD hS hA [1, 2] rfl
  refine va_calli (va_runV (As := [.int p0, .int p1]) (rest := []) ⟨hx, hb, hml, hown, hts⟩ (kX0_hold l dC dI cI cB cZ h1 h2 g6 H.size p0 p1) (cwV 2 hts g_kX11_put_1 rfl rfl rfl (by decide +kernel) ⟨Nat.le_of_ble_eq_true rfl, Nat.le_of_ble_eq_true rfl⟩) ⟨fun a U g mk q => by obtain ⟨q0, q1, qP, qK, qD⟩ := q; exact ⟨q0, q1, qP, va_K.moved (u := U) (U := U.calling g mk a) (Vm.Alike.refl U.vm) qK, qD⟩, va_recv hK hPc (ci := 0) (q0 := 0) rfl rfl, fun U hU hW => ⟨rfl, by rw [hU], by rw [hU]; exact hPc, va_K.moved hW.alike hK, hDc.weaken (fun _ _ _ _ => trivial)⟩⟩ rfl rfl hl.1 rfl (lv_room (Nat.le_of_ble_eq_true rfl)) dX11_put_6 ⟨Nat.le_of_ble_eq_true rfl, Nat.le_of_ble_eq_true rfl⟩) hS (fun q _ h => hFc q h) hFc (fun r_2 u t H_1 locs ht hvm hw hB hz1 hk1 hS1 => ?_)
  obtain ⟨hP2, hD2⟩ := va_join (wr := [(h0, .inr (11, [.ref g0, .ref g1, .ref g2, .ref g3, .ref g4, .ref g5, .ref h1]))]) (w1 := []) hP hD [1, 2] [0] rfl rfl (by decide) (by decide) hk1 hFc (fun _ _ h => by simp at h) ⟨fun _ _ _ _ h => by simp at h, fun _ _ h => by simp at h⟩
  clear hP hD hS hPc hDc hFc hk1 hz1 ht hvm
  have hP1 := hP2
  have hD1 := hD2
  clear hP2 hD2
  have hP : va_P (dC, dI) vwCl [(h0, .inr (11, [.ref g0, .ref g1, .ref g2, .ref g3, .ref g4, .ref g5, .ref h1]))] H_1 := hP1
  have hD : va_D A [(h0, .inr (11, [.ref g0, .ref g1, .ref g2, .ref g3, .ref g4, .ref g5, .ref h1]))] := hD1
  have hS := hS1
  clear hP1 hD1 hS1
  obtain rfl := hw
  exact W.zret (v := (sp_kX0_hold p0 p1)) hx hb hr (by unfold sp_kX0_hold; (repeat' split) <;> rfl) (fun t ht hW => ⟨⟨(sp_kX0_hold p0 p1), (), rfl, rfl, trivial⟩, hS.F ht⟩) hS.2.2 dX11_put_9
def vs_kX0_keep : List Cond := Cond.code yX0_keep cX0_keep 3 (some .int) :: (([Cond.fieldLink RX0 15 "CompiledHouse$Board" "registers" "[I"] : List Cond) ++ (wsX00))
theorem i_kX0_keep_X0 : ∀ w ∈ wsX00, w ∈ vs_kX0_keep := fun w h => List.mem_cons_of_mem _ (List.mem_append_right _ h)
def sp_kX0_keep (p0 : Int32) (p1 : Int32) : Int32 := if p0 ≤ 0 then 0 else (if 32 ≤ p0 then 0 else (0))
set_option maxHeartbeats 4000000 in
set_option maxRecDepth 100000 in
theorem kX0_keep (l : Launch) (dC : Nat → ClassId) (dI : Nat → Nat → Nat) (cI cB cZ : ClassId) (h0 : Nat) (h1 : Nat) (g0 : Nat) (sz : Nat) (p0 : Int32) (p1 : Int32) : Met l yX0_keep vs_kX0_keep ({ frames := 0, cells := 0, slots := 0, locals := 0 }) (va_Pc [.ref h0, .int p0, .int p1] (fun U => U.heap.size = sz ∧ va_P (dC, dI) vwCl [(h0, .inr (0, [.ref g0, .ref h1, .int 0, .int 0, .int 0])), (h1, .inl (cI, 32, .inl (fun _ => 0)))] U.heap ∧ va_K (dC, dI) vwCl (ty3 cI cB cZ) U ∧ va_D (fun _ => True) [(h0, .inr (0, [.ref g0, .ref h1, .int 0, .int 0, .int 0])), (h1, .inl (cI, 32, .inl (fun _ => 0)))])) (va_Qi (fun (r : Int32) (_ : Unit) => r = sp_kX0_keep p0 p1) (fun (_ : Unit) (_ : State) => True) (va_A [(h0, .inr (0, [.ref g0, .ref h1, .int 0, .int 0, .int 0])), (h1, .inl (cI, 32, .inl (fun _ => 0)))] sz)) 0 0 (va_A [(h0, .inr (0, [.ref g0, .ref h1, .int 0, .int 0, .int 0])), (h1, .inl (cI, 32, .inl (fun _ => 0)))] sz) := by
  refine Met.ofW (cc := cX0_keep) (maxL := 3) (ret := (some .int)) (by decide) rfl ?_
  intro p e s m args below meth c s₁ B hml hv
  obtain ⟨rfl, hsz, hP, hK, hD0⟩ := hv
  have hx := B.exec
  have hb := B.bytes
  have hr := B.returns
  have hts := atoms_spec (ws := vs_kX0_keep) B.pre
  have hown : s.vm.findClass RX0 = some m.cls := findClass_of_methodNamed B.named
  have hlocks := B.notSynchronized
  subst hsz
  have hD := hD0.self (sz := s.heap.size)
  clear hD0
  generalize hAe : va_A [(h0, .inr (0, [.ref g0, .ref h1, .int 0, .int 0, .int 0])), (h1, .inl (cI, 32, .inl (fun _ => 0)))] s.heap.size = A at hD ⊢
  have hA : ∀ q : Nat, s.heap.size ≤ q → A q := fun q h => by rw [← hAe]; exact Or.inr h
  clear hAe
  have hS : va_S A s.heap s.heap [] := va_S.rf
  have hl := lv_entry ([.ref h0, .int p0, .int p1]) (n := 3) (Nat.le_of_ble_eq_true rfl)
  rw [lg_entry_eq]
  generalize (lg_sl ([.ref h0, .int p0, .int p1]) ++ List.replicate (3 - (lg_sl ([.ref h0, .int p0, .int p1])).length) Slot.unset).toArray = ls at hl ⊢
  replace hl : lv_has ls 3 [(0, .ref h0), (1, .int p0), (2, .int p1)] := hl
  refine my_st (fun H locs eH el => ?_)
  replace hP : va_P (dC, dI) vwCl [(h0, .inr (0, [.ref g0, .ref h1, .int 0, .int 0, .int 0])), (h1, .inl (cI, 32, .inl (fun _ => 0)))] H := by rw [eH]; exact hP
  replace hS : va_S A s.heap H locs := by rw [eH, el]; exact hS
  clear eH el
  refine lv_iload_n hx hb dX0_keep_0 rfl (lv_at hl 1 rfl) ?_
  refine lv_if_le (tgt := 17) hx hb dX0_keep_1 (by decide) (fun c_1 => ?_) (fun c_1 => ?_)
  · refine lv_iconst (v := 0) hx hb dX0_keep_17 (by decide) ?_
    exact W.iret (v := 0) hx hb hr (fun t ht hW => ⟨⟨0, (), rfl, by unfold sp_kX0_keep; rw [if_pos c_1], trivial⟩, hS.F ht⟩) hS.2.2 dX0_keep_18
  · refine lv_iload_n hx hb dX0_keep_4 rfl (lv_at hl 1 rfl) ?_
    refine lv_bipush (v := 32) hx hb dX0_keep_5 (by decide) ?_
    refine lv_icmp_ge (tgt := 17) hx hb dX0_keep_7 (by decide) (fun c_2 => ?_) (fun c_2 => ?_)
    · refine lv_iconst (v := 0) hx hb dX0_keep_17 (by decide) ?_
      exact W.iret (v := 0) hx hb hr (fun t ht hW => ⟨⟨0, (), rfl, by unfold sp_kX0_keep; rw [if_neg c_1, if_pos c_2], trivial⟩, hS.F ht⟩) hS.2.2 dX0_keep_18
    · refine lv_aload_n hx hb dX0_keep_10 rfl (lv_at hl 0 rfl) ?_
      refine va_get (D := (dC, dI)) (ci := 0) (v := .ref h1) (C := RX0) (T := TX0) (N := 5) hx hb hts i_kX0_keep_X0 hown hK hP 0 rfl rfl 1 (by decide) (hts (Cond.fieldLink RX0 15 "CompiledHouse$Board" "registers" "[I") (List.mem_cons_of_mem _ (List.mem_append_left _ (List.mem_of_getElem? (i := 0) rfl)))) (fun _ h9 => h9) rfl dX0_keep_11 ?_
      refine lv_iload_n hx hb dX0_keep_14 rfl (lv_at hl 1 rfl) ?_
      refine lv_iload_n hx hb dX0_keep_15 rfl (lv_at hl 2 rfl) ?_
      refine my_iast hx hb hK hP hD hS 1 0 rfl rfl (by rw [vp_in_iff]; have h1 := c_1; have h2 := c_2; simp only [my_lt, my_le, show (0 : Int32).toInt = 0 by decide, show (32 : Int32).toInt = 32 by decide] at h1 h2; omega) dX0_keep_16 (fun f_4 H_3 locs hP1 hD1 hS1 => ?_)
      clear hP hD hS
      have hP : va_P (dC, dI) vwCl [(h0, .inr (0, [.ref g0, .ref h1, .int 0, .int 0, .int 0])), (h1, .inl (cI, 32, .inl f_4))] H_3 := hP1
      have hD : va_D A [(h0, .inr (0, [.ref g0, .ref h1, .int 0, .int 0, .int 0])), (h1, .inl (cI, 32, .inl f_4))] := hD1
      have hS := hS1
      clear hP1 hD1 hS1
      refine lv_iconst (v := 0) hx hb dX0_keep_17 (by decide) ?_
      exact W.iret (v := 0) hx hb hr (fun t ht hW => ⟨⟨0, (), rfl, by unfold sp_kX0_keep; rw [if_neg c_1, if_neg c_2], trivial⟩, hS.F ht⟩) hS.2.2 dX0_keep_18
def vs_kX0_change : List Cond := Cond.code yX0_change cX0_change 3 (some .boolean) :: (([Cond.fieldLink RX0 18 "CompiledHouse$Board" "pc" "I"] : List Cond) ++ ((wsV RX0 22 RX0 yX0_keep vs_kX0_keep) ++ (wsX00)))
theorem g_kX0_change_0 : GoodIn vs_kX0_change (wsV RX0 22 RX0 yX0_keep vs_kX0_keep) := fun w h => ⟨List.mem_cons_of_mem _ (List.mem_append_right _ (List.mem_append_left _ h)), good_of_word (List.all_eq_true.mp (show (wsV RX0 22 RX0 yX0_keep vs_kX0_keep).all goodWord = true by decide +kernel) w h)⟩
theorem i_kX0_change_X0 : ∀ w ∈ wsX00, w ∈ vs_kX0_change := fun w h => List.mem_cons_of_mem _ (List.mem_append_right _ (List.mem_append_right _ h))
def sp_kX0_change (p0 : Int32) (p1 : Int32) : Int32 := if p0 < 1 then 0 else (if p0 ≤ 32 then if p0 = 32 then 1 else (1) else (0))
set_option maxHeartbeats 4000000 in
set_option maxRecDepth 100000 in
theorem kX0_change (l : Launch) (dC : Nat → ClassId) (dI : Nat → Nat → Nat) (cI cB cZ : ClassId) (h0 : Nat) (h1 : Nat) (g0 : Nat) (sz : Nat) (p0 : Int32) (p1 : Int32) : Met l yX0_change vs_kX0_change ({ frames := 1, cells := 0, slots := 0, locals := 22 }) (va_Pc [.ref h0, .int p0, .int p1] (fun U => U.heap.size = sz ∧ va_P (dC, dI) vwCl [(h0, .inr (0, [.ref g0, .ref h1, .int 0, .int 0, .int 0])), (h1, .inl (cI, 32, .inl (fun _ => 0)))] U.heap ∧ va_K (dC, dI) vwCl (ty3 cI cB cZ) U ∧ va_D (fun _ => True) [(h0, .inr (0, [.ref g0, .ref h1, .int 0, .int 0, .int 0])), (h1, .inl (cI, 32, .inl (fun _ => 0)))])) (va_Qi (fun (r : Int32) (_ : Unit) => r = sp_kX0_change p0 p1) (fun (_ : Unit) (_ : State) => True) (va_A [(h0, .inr (0, [.ref g0, .ref h1, .int 0, .int 0, .int 0])), (h1, .inl (cI, 32, .inl (fun _ => 0)))] sz)) 0 0 (va_A [(h0, .inr (0, [.ref g0, .ref h1, .int 0, .int 0, .int 0])), (h1, .inl (cI, 32, .inl (fun _ => 0)))] sz) := by
  refine Met.ofW (cc := cX0_change) (maxL := 3) (ret := (some .boolean)) (by decide) rfl ?_
  intro p e s m args below meth c s₁ B hml hv
  obtain ⟨rfl, hsz, hP, hK, hD0⟩ := hv
  have hx := B.exec
  have hb := B.bytes
  have hr := B.returns
  have hts := atoms_spec (ws := vs_kX0_change) B.pre
  have hown : s.vm.findClass RX0 = some m.cls := findClass_of_methodNamed B.named
  have hlocks := B.notSynchronized
  subst hsz
  have hD := hD0.self (sz := s.heap.size)
  clear hD0
  generalize hAe : va_A [(h0, .inr (0, [.ref g0, .ref h1, .int 0, .int 0, .int 0])), (h1, .inl (cI, 32, .inl (fun _ => 0)))] s.heap.size = A at hD ⊢
  have hA : ∀ q : Nat, s.heap.size ≤ q → A q := fun q h => by rw [← hAe]; exact Or.inr h
  clear hAe
  have hS : va_S A s.heap s.heap [] := va_S.rf
  have hl := lv_entry ([.ref h0, .int p0, .int p1]) (n := 3) (Nat.le_of_ble_eq_true rfl)
  rw [lg_entry_eq]
  generalize (lg_sl ([.ref h0, .int p0, .int p1]) ++ List.replicate (3 - (lg_sl ([.ref h0, .int p0, .int p1])).length) Slot.unset).toArray = ls at hl ⊢
  replace hl : lv_has ls 3 [(0, .ref h0), (1, .int p0), (2, .int p1)] := hl
  refine my_st (fun H locs eH el => ?_)
  replace hP : va_P (dC, dI) vwCl [(h0, .inr (0, [.ref g0, .ref h1, .int 0, .int 0, .int 0])), (h1, .inl (cI, 32, .inl (fun _ => 0)))] H := by rw [eH]; exact hP
  replace hS : va_S A s.heap H locs := by rw [eH, el]; exact hS
  clear eH el
  refine lv_iload_n hx hb dX0_change_0 rfl (lv_at hl 1 rfl) ?_
  refine lv_iconst (v := 1) hx hb dX0_change_1 (by decide) ?_
  refine lv_icmp_lt (tgt := 11) hx hb dX0_change_2 (by decide) (fun c_1 => ?_) (fun c_1 => ?_)
  · refine lv_iconst (v := 0) hx hb dX0_change_11 (by decide) ?_
    exact W.zret (v := 0) hx hb hr rfl (fun t ht hW => ⟨⟨0, (), rfl, by unfold sp_kX0_change; rw [if_pos c_1], trivial⟩, hS.F ht⟩) hS.2.2 dX0_change_12
  · refine lv_iload_n hx hb dX0_change_5 rfl (lv_at hl 1 rfl) ?_
    refine lv_bipush (v := 32) hx hb dX0_change_6 (by decide) ?_
    refine lv_icmp_le (tgt := 13) hx hb dX0_change_8 (by decide) (fun c_2 => ?_) (fun c_2 => ?_)
    · refine lv_iload_n hx hb dX0_change_13 rfl (lv_at hl 1 rfl) ?_
      refine lv_bipush (v := 32) hx hb dX0_change_14 (by decide) ?_
      refine lv_icmp_ne (tgt := 27) hx hb dX0_change_16 (by decide) (fun c_3 => ?_) (fun c_3 => ?_)
      · refine lv_aload_n hx hb dX0_change_27 rfl (lv_at hl 0 rfl) ?_
        refine lv_iload_n hx hb dX0_change_28 rfl (lv_at hl 1 rfl) ?_
        refine lv_iload_n hx hb dX0_change_29 rfl (lv_at hl 2 rfl) ?_
        have hPc := hP.sub (ws' := [(h0, .inr (0, [.ref g0, .ref h1, .int 0, .int 0, .int 0])), (h1, .inl (cI, 32, .inl (fun _ => 0)))]) [0, 1] rfl
        have hDc := hD.sub (ws' := [(h0, .inr (0, [.ref g0, .ref h1, .int 0, .int 0, .int 0])), (h1, .inl (cI, 32, .inl (fun _ => 0)))]) [0, 1] (by decide) rfl
        have hFc := va_free (wc := [(h0, .inr (0, [.ref g0, .ref h1, .int 0, .int 0, .int 0])), (h1, .inl (cI, 32, .inl (fun _ => 0)))]) hD hS hA [0, 1] rfl
        refine va_calli (va_runV (As := [.int p0, .int p1]) (rest := []) ⟨hx, hb, hml, hown, hts⟩ (kX0_keep l dC dI cI cB cZ h0 h1 g0 H.size p0 p1) (cwV 2 hts g_kX0_change_0 rfl rfl rfl (by decide +kernel) ⟨Nat.le_of_ble_eq_true rfl, Nat.le_of_ble_eq_true rfl⟩) ⟨fun a U g mk q => by obtain ⟨q0, q1, qP, qK, qD⟩ := q; exact ⟨q0, q1, qP, va_K.moved (u := U) (U := U.calling g mk a) (Vm.Alike.refl U.vm) qK, qD⟩, va_recv hK hPc (ci := 0) (q0 := 0) rfl rfl, fun U hU hW => ⟨rfl, by rw [hU], by rw [hU]; exact hPc, va_K.moved hW.alike hK, hDc.weaken (fun _ _ _ _ => trivial)⟩⟩ rfl rfl hl.1 rfl (lv_room (Nat.le_of_ble_eq_true rfl)) dX0_change_30 ⟨Nat.le_of_ble_eq_true rfl, Nat.le_of_ble_eq_true rfl⟩) hS (fun q _ h => hFc q h) hFc (fun r_5 u t H_4 locs ht hvm hw hB hz1 hk1 hS1 => ?_)
        obtain ⟨hP2, hD2⟩ := va_join (wr := []) (w1 := []) hP hD [0, 1] [] rfl rfl (by decide) (by decide) hk1 hFc (fun _ _ h => by simp at h) ⟨fun _ _ _ _ h => by simp at h, fun _ _ h => by simp at h⟩
        clear hP hD hS hPc hDc hFc hk1 hz1 ht hvm
        have hP1 := hP2
        have hD1 := hD2
        clear hP2 hD2
        have hP : va_P (dC, dI) vwCl [] H_4 := hP1
        have hD : va_D A [] := hD1
        have hS := hS1
        clear hP1 hD1 hS1
        obtain rfl := hw
        refine lv_pop hx hb dX0_change_33 rfl ?_
        refine lv_iconst (v := 1) hx hb dX0_change_34 (by decide) ?_
        exact W.zret (v := 1) hx hb hr rfl (fun t ht hW => ⟨⟨1, (), rfl, by unfold sp_kX0_change; rw [if_neg c_1, if_pos c_2, if_neg c_3], trivial⟩, hS.F ht⟩) hS.2.2 dX0_change_35
      · refine lv_aload_n hx hb dX0_change_19 rfl (lv_at hl 0 rfl) ?_
        refine lv_iload_n hx hb dX0_change_20 rfl (lv_at hl 2 rfl) ?_
        refine va_put (D := (dC, dI)) (ci := 0) (v := .int p1) (ty := .int) (C := RX0) (T := TX0) (N := 5) hx hb hts i_kX0_change_X0 tyX0 tyX0_ok nmX0 hown hK hP hD hS 0 rfl rfl 2 (by decide) (hts (Cond.fieldLink RX0 18 "CompiledHouse$Board" "pc" "I") (List.mem_cons_of_mem _ (List.mem_append_left _ (List.mem_of_getElem? (i := 0) rfl)))) (fun _ h9 => h9) rfl (by decide +kernel) rfl rfl (Nat.le_of_ble_eq_true rfl) dX0_change_21 (fun H_6 locs hP1 hD1 hS1 => ?_)
        clear hP hD hS
        have hP : va_P (dC, dI) vwCl [(h0, .inr (0, [.ref g0, .ref h1, .int p1, .int 0, .int 0])), (h1, .inl (cI, 32, .inl (fun _ => 0)))] H_6 := hP1
        have hD : va_D A [(h0, .inr (0, [.ref g0, .ref h1, .int p1, .int 0, .int 0])), (h1, .inl (cI, 32, .inl (fun _ => 0)))] := hD1
        have hS := hS1
        clear hP1 hD1 hS1
        refine lv_goto (tgt := 34) hx hb dX0_change_24 (by decide) ?_
        refine lv_iconst (v := 1) hx hb dX0_change_34 (by decide) ?_
        exact W.zret (v := 1) hx hb hr rfl (fun t ht hW => ⟨⟨1, (), rfl, by unfold sp_kX0_change; rw [if_neg c_1, if_pos c_2, if_pos c_3], trivial⟩, hS.F ht⟩) hS.2.2 dX0_change_35
    · refine lv_iconst (v := 0) hx hb dX0_change_11 (by decide) ?_
      exact W.zret (v := 0) hx hb hr rfl (fun t ht hW => ⟨⟨0, (), rfl, by unfold sp_kX0_change; rw [if_neg c_1, if_neg c_2], trivial⟩, hS.F ht⟩) hS.2.2 dX0_change_12
def vs_kX11_set : List Cond := Cond.code yX11_set cX11_set 3 (some .boolean) :: (([Cond.fieldLink RX11 78 "CompiledHouse" "board" "LCompiledHouse$Board;"] : List Cond) ++ ((wsX110) ++ (wsV RX11 184 RX0 yX0_change vs_kX0_change)))
theorem i_kX11_set_X11 : ∀ w ∈ wsX110, w ∈ vs_kX11_set := fun w h => List.mem_cons_of_mem _ (List.mem_append_right _ (List.mem_append_left _ h))
theorem g_kX11_set_1 : GoodIn vs_kX11_set (wsV RX11 184 RX0 yX0_change vs_kX0_change) := fun w h => ⟨List.mem_cons_of_mem _ (List.mem_append_right _ (List.mem_append_right _ h)), good_of_word (List.all_eq_true.mp (show (wsV RX11 184 RX0 yX0_change vs_kX0_change).all goodWord = true by decide +kernel) w h)⟩
def sp_kX11_set (p0 : Int32) (p1 : Int32) : Int32 := (sp_kX0_change p0 p1)
set_option maxHeartbeats 4000000 in
set_option maxRecDepth 100000 in
theorem kX11_set (l : Launch) (dC : Nat → ClassId) (dI : Nat → Nat → Nat) (cI cB cZ : ClassId) (h0 : Nat) (h1 : Nat) (h2 : Nat) (g0 : Nat) (g1 : Nat) (g2 : Nat) (g3 : Nat) (g4 : Nat) (g5 : Nat) (g6 : Nat) (sz : Nat) (p0 : Int32) (p1 : Int32) : Met l yX11_set vs_kX11_set ({ frames := 2, cells := 0, slots := 0, locals := 44 }) (va_Pc [.ref h0, .int p0, .int p1] (fun U => U.heap.size = sz ∧ va_P (dC, dI) vwCl [(h0, .inr (11, [.ref g0, .ref g1, .ref g2, .ref g3, .ref g4, .ref g5, .ref h1])), (h1, .inr (0, [.ref g6, .ref h2, .int 0, .int 0, .int 0])), (h2, .inl (cI, 32, .inl (fun _ => 0)))] U.heap ∧ va_K (dC, dI) vwCl (ty3 cI cB cZ) U ∧ va_D (fun _ => True) [(h0, .inr (11, [.ref g0, .ref g1, .ref g2, .ref g3, .ref g4, .ref g5, .ref h1])), (h1, .inr (0, [.ref g6, .ref h2, .int 0, .int 0, .int 0])), (h2, .inl (cI, 32, .inl (fun _ => 0)))])) (va_Qi (fun (r : Int32) (_ : Unit) => r = sp_kX11_set p0 p1) (fun (_ : Unit) (_ : State) => True) (va_A [(h0, .inr (11, [.ref g0, .ref g1, .ref g2, .ref g3, .ref g4, .ref g5, .ref h1])), (h1, .inr (0, [.ref g6, .ref h2, .int 0, .int 0, .int 0])), (h2, .inl (cI, 32, .inl (fun _ => 0)))] sz)) 0 0 (va_A [(h0, .inr (11, [.ref g0, .ref g1, .ref g2, .ref g3, .ref g4, .ref g5, .ref h1])), (h1, .inr (0, [.ref g6, .ref h2, .int 0, .int 0, .int 0])), (h2, .inl (cI, 32, .inl (fun _ => 0)))] sz) := by
  refine Met.ofW (cc := cX11_set) (maxL := 3) (ret := (some .boolean)) (by decide) rfl ?_
  intro p e s m args below meth c s₁ B hml hv
  obtain ⟨rfl, hsz, hP, hK, hD0⟩ := hv
  have hx := B.exec
  have hb := B.bytes
  have hr := B.returns
  have hts := atoms_spec (ws := vs_kX11_set) B.pre
  have hown : s.vm.findClass RX11 = some m.cls := findClass_of_methodNamed B.named
  have hlocks := B.notSynchronized
  subst hsz
  have hD := hD0.self (sz := s.heap.size)
  clear hD0
  generalize hAe : va_A [(h0, .inr (11, [.ref g0, .ref g1, .ref g2, .ref g3, .ref g4, .ref g5, .ref h1])), (h1, .inr (0, [.ref g6, .ref h2, .int 0, .int 0, .int 0])), (h2, .inl (cI, 32, .inl (fun _ => 0)))] s.heap.size = A at hD ⊢
  have hA : ∀ q : Nat, s.heap.size ≤ q → A q := fun q h => by rw [← hAe]; exact Or.inr h
  clear hAe
  have hS : va_S A s.heap s.heap [] := va_S.rf
  have hl := lv_entry ([.ref h0, .int p0, .int p1]) (n := 3) (Nat.le_of_ble_eq_true rfl)
  rw [lg_entry_eq]
  generalize (lg_sl ([.ref h0, .int p0, .int p1]) ++ List.replicate (3 - (lg_sl ([.ref h0, .int p0, .int p1])).length) Slot.unset).toArray = ls at hl ⊢
  replace hl : lv_has ls 3 [(0, .ref h0), (1, .int p0), (2, .int p1)] := hl
  refine my_st (fun H locs eH el => ?_)
  replace hP : va_P (dC, dI) vwCl [(h0, .inr (11, [.ref g0, .ref g1, .ref g2, .ref g3, .ref g4, .ref g5, .ref h1])), (h1, .inr (0, [.ref g6, .ref h2, .int 0, .int 0, .int 0])), (h2, .inl (cI, 32, .inl (fun _ => 0)))] H := by rw [eH]; exact hP
  replace hS : va_S A s.heap H locs := by rw [eH, el]; exact hS
  clear eH el
  refine lv_aload_n hx hb dX11_set_0 rfl (lv_at hl 0 rfl) ?_
  refine va_get (D := (dC, dI)) (ci := 11) (v := .ref h1) (C := RX11) (T := TX11) (N := 7) hx hb hts i_kX11_set_X11 hown hK hP 0 rfl rfl 6 (by decide) (hts (Cond.fieldLink RX11 78 "CompiledHouse" "board" "LCompiledHouse$Board;") (List.mem_cons_of_mem _ (List.mem_append_left _ (List.mem_of_getElem? (i := 0) rfl)))) (fun _ h9 => h9) rfl dX11_set_1 ?_
  refine lv_iload_n hx hb dX11_set_4 rfl (lv_at hl 1 rfl) ?_
  refine lv_iload_n hx hb dX11_set_5 rfl (lv_at hl 2 rfl) ?_
  have hPc := hP.sub (ws' := [(h1, .inr (0, [.ref g6, .ref h2, .int 0, .int 0, .int 0])), (h2, .inl (cI, 32, .inl (fun _ => 0)))]) [1, 2] rfl
  have hDc := hD.sub (ws' := [(h1, .inr (0, [.ref g6, .ref h2, .int 0, .int 0, .int 0])), (h2, .inl (cI, 32, .inl (fun _ => 0)))]) [1, 2] (by decide) rfl
  have hFc := va_free (wc := [(h1, .inr (0, [.ref g6, .ref h2, .int 0, .int 0, .int 0])), (h2, .inl (cI, 32, .inl (fun _ => 0)))]) hD hS hA [1, 2] rfl
  refine va_calli (va_runV (As := [.int p0, .int p1]) (rest := []) ⟨hx, hb, hml, hown, hts⟩ (kX0_change l dC dI cI cB cZ h1 h2 g6 H.size p0 p1) (cwV 2 hts g_kX11_set_1 rfl rfl rfl (by decide +kernel) ⟨Nat.le_of_ble_eq_true rfl, Nat.le_of_ble_eq_true rfl⟩) ⟨fun a U g mk q => by obtain ⟨q0, q1, qP, qK, qD⟩ := q; exact ⟨q0, q1, qP, va_K.moved (u := U) (U := U.calling g mk a) (Vm.Alike.refl U.vm) qK, qD⟩, va_recv hK hPc (ci := 0) (q0 := 0) rfl rfl, fun U hU hW => ⟨rfl, by rw [hU], by rw [hU]; exact hPc, va_K.moved hW.alike hK, hDc.weaken (fun _ _ _ _ => trivial)⟩⟩ rfl rfl hl.1 rfl (lv_room (Nat.le_of_ble_eq_true rfl)) dX11_set_6 ⟨Nat.le_of_ble_eq_true rfl, Nat.le_of_ble_eq_true rfl⟩) hS (fun q _ h => hFc q h) hFc (fun r_2 u t H_1 locs ht hvm hw hB hz1 hk1 hS1 => ?_)
  obtain ⟨hP2, hD2⟩ := va_join (wr := [(h0, .inr (11, [.ref g0, .ref g1, .ref g2, .ref g3, .ref g4, .ref g5, .ref h1]))]) (w1 := []) hP hD [1, 2] [0] rfl rfl (by decide) (by decide) hk1 hFc (fun _ _ h => by simp at h) ⟨fun _ _ _ _ h => by simp at h, fun _ _ h => by simp at h⟩
  clear hP hD hS hPc hDc hFc hk1 hz1 ht hvm
  have hP1 := hP2
  have hD1 := hD2
  clear hP2 hD2
  have hP : va_P (dC, dI) vwCl [(h0, .inr (11, [.ref g0, .ref g1, .ref g2, .ref g3, .ref g4, .ref g5, .ref h1]))] H_1 := hP1
  have hD : va_D A [(h0, .inr (11, [.ref g0, .ref g1, .ref g2, .ref g3, .ref g4, .ref g5, .ref h1]))] := hD1
  have hS := hS1
  clear hP1 hD1 hS1
  obtain rfl := hw
  exact W.zret (v := (sp_kX0_change p0 p1)) hx hb hr (by unfold sp_kX0_change; (repeat' split) <;> rfl) (fun t ht hW => ⟨⟨(sp_kX0_change p0 p1), (), rfl, rfl, trivial⟩, hS.F ht⟩) hS.2.2 dX11_set_9
def vs_kX0_does : List Cond := Cond.code yX0_does cX0_does 3 (some .int) :: (([Cond.constant RX0 61 (1048691)] : List Cond) ++ (([] : List Cond)))
set_option maxHeartbeats 4000000 in
set_option maxRecDepth 100000 in
theorem kX0_does (l : Launch) (dC : Nat → ClassId) (dI : Nat → Nat → Nat) (cI cB cZ : ClassId) (h0 : Nat) (g0 : Nat) (g1 : Nat) (sz : Nat) : Met l yX0_does vs_kX0_does ({ frames := 0, cells := 0, slots := 0, locals := 0 }) (va_Pc [.ref h0, .int 0] (fun U => U.heap.size = sz ∧ va_P (dC, dI) vwCl [(h0, .inr (0, [.ref g0, .ref g1, .int 0, .int 0, .int 4]))] U.heap ∧ va_K (dC, dI) vwCl (ty3 cI cB cZ) U ∧ va_D (fun _ => True) [(h0, .inr (0, [.ref g0, .ref g1, .int 0, .int 0, .int 4]))])) (va_Qi (fun (r : Int32) (_ : Unit) => r = 2) (fun (_ : Unit) (t : State) => va_P (dC, dI) vwCl [(h0, .inr (0, [.ref g0, .ref g1, .int 0, .int 0, .int 4]))] t.heap ∧ va_K (dC, dI) vwCl (ty3 cI cB cZ) t ∧ va_D (va_A [(h0, .inr (0, [.ref g0, .ref g1, .int 0, .int 0, .int 4]))] sz) [(h0, .inr (0, [.ref g0, .ref g1, .int 0, .int 0, .int 4]))]) (va_A [(h0, .inr (0, [.ref g0, .ref g1, .int 0, .int 0, .int 4]))] sz)) 0 0 (va_A [(h0, .inr (0, [.ref g0, .ref g1, .int 0, .int 0, .int 4]))] sz) := by
  refine Met.ofW (cc := cX0_does) (maxL := 3) (ret := (some .int)) (by decide) rfl ?_
  intro p e s m args below meth c s₁ B hml hv
  obtain ⟨rfl, hsz, hP, hK, hD0⟩ := hv
  have hx := B.exec
  have hb := B.bytes
  have hr := B.returns
  have hts := atoms_spec (ws := vs_kX0_does) B.pre
  have hown : s.vm.findClass RX0 = some m.cls := findClass_of_methodNamed B.named
  have hlocks := B.notSynchronized
  subst hsz
  have hD := hD0.self (sz := s.heap.size)
  clear hD0
  generalize hAe : va_A [(h0, .inr (0, [.ref g0, .ref g1, .int 0, .int 0, .int 4]))] s.heap.size = A at hD ⊢
  have hA : ∀ q : Nat, s.heap.size ≤ q → A q := fun q h => by rw [← hAe]; exact Or.inr h
  clear hAe
  have hS : va_S A s.heap s.heap [] := va_S.rf
  have hl := lv_entry ([.ref h0, .int 0]) (n := 3) (Nat.le_of_ble_eq_true rfl)
  rw [lg_entry_eq]
  generalize (lg_sl ([.ref h0, .int 0]) ++ List.replicate (3 - (lg_sl ([.ref h0, .int 0])).length) Slot.unset).toArray = ls at hl ⊢
  replace hl : lv_has ls 3 [(0, .ref h0), (1, .int 0)] := hl
  refine my_st (fun H locs eH el => ?_)
  replace hP : va_P (dC, dI) vwCl [(h0, .inr (0, [.ref g0, .ref g1, .int 0, .int 0, .int 4]))] H := by rw [eH]; exact hP
  replace hS : va_S A s.heap H locs := by rw [eH, el]; exact hS
  clear eH el
  refine lv_iload_n hx hb dX0_does_0 rfl (lv_at hl 1 rfl) ?_
  refine lv_bipush (v := 127) hx hb dX0_does_1 (by decide) ?_
  refine lv_iand hx hb dX0_does_3 ?_
  refine my_top 0 (by decide) ?_
  refine lv_lookup (off := 246) (tgt := 250) hx hb dX0_does_4 (by decide) (by decide) (by decide) ?_
  refine lv_iload_n hx hb dX0_does_250 rfl (lv_at hl 1 rfl) ?_
  refine lv_bipush (v := 115) hx hb dX0_does_251 (by decide) ?_
  refine lv_icmp_ne (tgt := 261) hx hb dX0_does_253 (by decide) (fun _ => ?_) (fun c_0 => absurd c_0 (by decide))
  refine lv_iload_n hx hb dX0_does_261 rfl (lv_at hl 1 rfl) ?_
  refine lv_ldc (v := 1048691) hx hb hown (hts (Cond.constant RX0 61 (1048691)) (List.mem_cons_of_mem _ (List.mem_append_left _ (List.mem_of_getElem? (i := 0) rfl)))) dX0_does_262 ?_
  refine lv_icmp_ne (tgt := 272) hx hb dX0_does_264 (by decide) (fun _ => ?_) (fun c_0 => absurd c_0 (by decide))
  refine lv_iconst (v := 2) hx hb dX0_does_272 (by decide) ?_
  have hP9 := hP.sub (ws' := [(h0, .inr (0, [.ref g0, .ref g1, .int 0, .int 0, .int 4]))]) [0] rfl
  have hD9 := hD.sub (ws' := [(h0, .inr (0, [.ref g0, .ref g1, .int 0, .int 0, .int 4]))]) [0] (by decide) rfl
  refine W.widen (k := 0) (n := 0) (by decide) (by decide) ?_
  exact W.iret (v := 2) hx hb hr (fun t ht hW => ⟨⟨2, (), rfl, rfl, by rw [ht]; exact hP9, va_K.moved hW.alike hK, hD9⟩, hS.F ht⟩) hS.2.2 dX0_does_273
def vs_kX0_doWord : List Cond := Cond.code yX0_doWord cX0_doWord 3 (some .int) :: (([Cond.fieldLink RX0 18 "CompiledHouse$Board" "pc" "I", Cond.fieldLink RX0 11 "CompiledHouse$Board" "memory" "[I", Cond.fieldLink RX0 33 "CompiledHouse$Board" "following" "I"] : List Cond) ++ ((wsX00) ++ (wsV RX0 36 RX0 yX0_does vs_kX0_does)))
theorem i_kX0_doWord_X0 : ∀ w ∈ wsX00, w ∈ vs_kX0_doWord := fun w h => List.mem_cons_of_mem _ (List.mem_append_right _ (List.mem_append_left _ h))
theorem g_kX0_doWord_1 : GoodIn vs_kX0_doWord (wsV RX0 36 RX0 yX0_does vs_kX0_does) := fun w h => ⟨List.mem_cons_of_mem _ (List.mem_append_right _ (List.mem_append_right _ h)), good_of_word (List.all_eq_true.mp (show (wsV RX0 36 RX0 yX0_does vs_kX0_does).all goodWord = true by decide +kernel) w h)⟩
set_option maxHeartbeats 4000000 in
set_option maxRecDepth 100000 in
theorem kX0_doWord (l : Launch) (dC : Nat → ClassId) (dI : Nat → Nat → Nat) (cI cB cZ : ClassId) (h0 : Nat) (h1 : Nat) (g0 : Nat) (sz : Nat) : Met l yX0_doWord vs_kX0_doWord ({ frames := 1, cells := 0, slots := 0, locals := 22 }) (va_Pc [.ref h0] (fun U => U.heap.size = sz ∧ va_P (dC, dI) vwCl [(h0, .inr (0, [.ref h1, .ref g0, .int 0, .int 0, .int 0])), (h1, .inl (cI, 4096, .inl (fun _ => 0)))] U.heap ∧ va_K (dC, dI) vwCl (ty3 cI cB cZ) U ∧ va_D (fun _ => True) [(h0, .inr (0, [.ref h1, .ref g0, .int 0, .int 0, .int 0])), (h1, .inl (cI, 4096, .inl (fun _ => 0)))])) (va_Qi (fun (r : Int32) (_ : Unit) => r = 2) (fun (_ : Unit) (t : State) => va_P (dC, dI) vwCl [(h0, .inr (0, [.ref h1, .ref g0, .int 0, .int 0, .int 4])), (h1, .inl (cI, 4096, .inl (fun _ => 0)))] t.heap ∧ va_K (dC, dI) vwCl (ty3 cI cB cZ) t ∧ va_D (va_A [(h0, .inr (0, [.ref h1, .ref g0, .int 0, .int 0, .int 0])), (h1, .inl (cI, 4096, .inl (fun _ => 0)))] sz) [(h0, .inr (0, [.ref h1, .ref g0, .int 0, .int 0, .int 4])), (h1, .inl (cI, 4096, .inl (fun _ => 0)))]) (va_A [(h0, .inr (0, [.ref h1, .ref g0, .int 0, .int 0, .int 0])), (h1, .inl (cI, 4096, .inl (fun _ => 0)))] sz)) 0 0 (va_A [(h0, .inr (0, [.ref h1, .ref g0, .int 0, .int 0, .int 0])), (h1, .inl (cI, 4096, .inl (fun _ => 0)))] sz) := by
  refine Met.ofW (cc := cX0_doWord) (maxL := 3) (ret := (some .int)) (by decide) rfl ?_
  intro p e s m args below meth c s₁ B hml hv
  obtain ⟨rfl, hsz, hP, hK, hD0⟩ := hv
  have hx := B.exec
  have hb := B.bytes
  have hr := B.returns
  have hts := atoms_spec (ws := vs_kX0_doWord) B.pre
  have hown : s.vm.findClass RX0 = some m.cls := findClass_of_methodNamed B.named
  have hlocks := B.notSynchronized
  subst hsz
  have hD := hD0.self (sz := s.heap.size)
  clear hD0
  generalize hAe : va_A [(h0, .inr (0, [.ref h1, .ref g0, .int 0, .int 0, .int 0])), (h1, .inl (cI, 4096, .inl (fun _ => 0)))] s.heap.size = A at hD ⊢
  have hA : ∀ q : Nat, s.heap.size ≤ q → A q := fun q h => by rw [← hAe]; exact Or.inr h
  clear hAe
  have hS : va_S A s.heap s.heap [] := va_S.rf
  have hl := lv_entry ([.ref h0]) (n := 3) (Nat.le_of_ble_eq_true rfl)
  rw [lg_entry_eq]
  generalize (lg_sl ([.ref h0]) ++ List.replicate (3 - (lg_sl ([.ref h0])).length) Slot.unset).toArray = ls at hl ⊢
  replace hl : lv_has ls 3 [(0, .ref h0)] := hl
  refine my_st (fun H locs eH el => ?_)
  replace hP : va_P (dC, dI) vwCl [(h0, .inr (0, [.ref h1, .ref g0, .int 0, .int 0, .int 0])), (h1, .inl (cI, 4096, .inl (fun _ => 0)))] H := by rw [eH]; exact hP
  replace hS : va_S A s.heap H locs := by rw [eH, el]; exact hS
  clear eH el
  refine lv_aload_n hx hb dX0_doWord_0 rfl (lv_at hl 0 rfl) ?_
  refine va_get (D := (dC, dI)) (ci := 0) (v := .int 0) (C := RX0) (T := TX0) (N := 5) hx hb hts i_kX0_doWord_X0 hown hK hP 0 rfl rfl 2 (by decide) (hts (Cond.fieldLink RX0 18 "CompiledHouse$Board" "pc" "I") (List.mem_cons_of_mem _ (List.mem_append_left _ (List.mem_of_getElem? (i := 0) rfl)))) (fun _ h9 => h9) rfl dX0_doWord_1 ?_
  refine lv_iconst (v := 3) hx hb dX0_doWord_4 (by decide) ?_
  refine lv_iand hx hb dX0_doWord_5 ?_
  refine my_top 0 (by decide) ?_
  refine lv_if_ne (tgt := 26) hx hb dX0_doWord_6 (by decide) (fun c_0 => absurd (by decide) c_0) (fun _ => ?_)
  refine lv_aload_n hx hb dX0_doWord_9 rfl (lv_at hl 0 rfl) ?_
  refine va_get (D := (dC, dI)) (ci := 0) (v := .int 0) (C := RX0) (T := TX0) (N := 5) hx hb hts i_kX0_doWord_X0 hown hK hP 0 rfl rfl 2 (by decide) (hts (Cond.fieldLink RX0 18 "CompiledHouse$Board" "pc" "I") (List.mem_cons_of_mem _ (List.mem_append_left _ (List.mem_of_getElem? (i := 0) rfl)))) (fun _ h9 => h9) rfl dX0_doWord_10 ?_
  refine lv_if_lt (tgt := 26) hx hb dX0_doWord_13 (by decide) (fun c_0 => absurd c_0 (by decide)) (fun _ => ?_)
  refine lv_aload_n hx hb dX0_doWord_16 rfl (lv_at hl 0 rfl) ?_
  refine va_get (D := (dC, dI)) (ci := 0) (v := .int 0) (C := RX0) (T := TX0) (N := 5) hx hb hts i_kX0_doWord_X0 hown hK hP 0 rfl rfl 2 (by decide) (hts (Cond.fieldLink RX0 18 "CompiledHouse$Board" "pc" "I") (List.mem_cons_of_mem _ (List.mem_append_left _ (List.mem_of_getElem? (i := 0) rfl)))) (fun _ h9 => h9) rfl dX0_doWord_17 ?_
  refine lv_sipush (v := 16384) hx hb dX0_doWord_20 (by decide) ?_
  refine lv_icmp_lt (tgt := 28) hx hb dX0_doWord_23 (by decide) (fun _ => ?_) (fun c_0 => absurd (by decide) c_0)
  refine lv_aload_n hx hb dX0_doWord_28 rfl (lv_at hl 0 rfl) ?_
  refine va_get (D := (dC, dI)) (ci := 0) (v := .ref h1) (C := RX0) (T := TX0) (N := 5) hx hb hts i_kX0_doWord_X0 hown hK hP 0 rfl rfl 0 (by decide) (hts (Cond.fieldLink RX0 11 "CompiledHouse$Board" "memory" "[I") (List.mem_cons_of_mem _ (List.mem_append_left _ (List.mem_of_getElem? (i := 1) rfl)))) (fun _ h9 => h9) rfl dX0_doWord_29 ?_
  refine lv_aload_n hx hb dX0_doWord_32 rfl (lv_at hl 0 rfl) ?_
  refine va_get (D := (dC, dI)) (ci := 0) (v := .int 0) (C := RX0) (T := TX0) (N := 5) hx hb hts i_kX0_doWord_X0 hown hK hP 0 rfl rfl 2 (by decide) (hts (Cond.fieldLink RX0 18 "CompiledHouse$Board" "pc" "I") (List.mem_cons_of_mem _ (List.mem_append_left _ (List.mem_of_getElem? (i := 0) rfl)))) (fun _ h9 => h9) rfl dX0_doWord_33 ?_
  refine lv_iconst (v := 2) hx hb dX0_doWord_36 (by decide) ?_
  refine lv_ishr hx hb dX0_doWord_37 ?_
  refine my_top 0 (by decide) ?_
  refine va_iald hx hb hK hP 1 0 rfl rfl (my_in (by decide)) dX0_doWord_38 ?_
  refine my_top 0 (rfl) ?_
  refine lv_istore_n (lv' := [(1, .int 0), (0, .ref h0)]) hx hb dX0_doWord_39 rfl hl (by decide) rfl (fun ls hl => ?_)
  refine lv_aload_n hx hb dX0_doWord_40 rfl (lv_at hl 1 rfl) ?_
  refine lv_aload_n hx hb dX0_doWord_41 rfl (lv_at hl 1 rfl) ?_
  refine va_get (D := (dC, dI)) (ci := 0) (v := .int 0) (C := RX0) (T := TX0) (N := 5) hx hb hts i_kX0_doWord_X0 hown hK hP 0 rfl rfl 2 (by decide) (hts (Cond.fieldLink RX0 18 "CompiledHouse$Board" "pc" "I") (List.mem_cons_of_mem _ (List.mem_append_left _ (List.mem_of_getElem? (i := 0) rfl)))) (fun _ h9 => h9) rfl dX0_doWord_42 ?_
  refine lv_iconst (v := 4) hx hb dX0_doWord_45 (by decide) ?_
  refine lv_iadd hx hb dX0_doWord_46 ?_
  refine my_top 4 (by decide) ?_
  refine va_put (D := (dC, dI)) (ci := 0) (v := .int 4) (ty := .int) (C := RX0) (T := TX0) (N := 5) hx hb hts i_kX0_doWord_X0 tyX0 tyX0_ok nmX0 hown hK hP hD hS 0 rfl rfl 4 (by decide) (hts (Cond.fieldLink RX0 33 "CompiledHouse$Board" "following" "I") (List.mem_cons_of_mem _ (List.mem_append_left _ (List.mem_of_getElem? (i := 2) rfl)))) (fun _ h9 => h9) rfl (by decide +kernel) rfl rfl (Nat.le_of_ble_eq_true rfl) dX0_doWord_47 (fun H_1 locs hP1 hD1 hS1 => ?_)
  clear hP hD hS
  have hP : va_P (dC, dI) vwCl [(h0, .inr (0, [.ref h1, .ref g0, .int 0, .int 0, .int 4])), (h1, .inl (cI, 4096, .inl (fun _ => 0)))] H_1 := hP1
  have hD : va_D A [(h0, .inr (0, [.ref h1, .ref g0, .int 0, .int 0, .int 4])), (h1, .inl (cI, 4096, .inl (fun _ => 0)))] := hD1
  have hS := hS1
  clear hP1 hD1 hS1
  refine lv_aload_n hx hb dX0_doWord_50 rfl (lv_at hl 1 rfl) ?_
  refine lv_iload_n hx hb dX0_doWord_51 rfl (lv_at hl 0 rfl) ?_
  have hPc := hP.sub (ws' := [(h0, .inr (0, [.ref h1, .ref g0, .int 0, .int 0, .int 4]))]) [0] rfl
  have hDc := hD.sub (ws' := [(h0, .inr (0, [.ref h1, .ref g0, .int 0, .int 0, .int 4]))]) [0] (by decide) rfl
  have hFc := va_free (wc := [(h0, .inr (0, [.ref h1, .ref g0, .int 0, .int 0, .int 4]))]) hD hS hA [0] rfl
  refine va_calli (va_runV (As := [.int 0]) (rest := []) ⟨hx, hb, hml, hown, hts⟩ (kX0_does l dC dI cI cB cZ h0 h1 g0 H_1.size ) (cwV 1 hts g_kX0_doWord_1 rfl rfl rfl (by decide +kernel) ⟨Nat.le_of_ble_eq_true rfl, Nat.le_of_ble_eq_true rfl⟩) ⟨fun a U g mk q => by obtain ⟨q0, q1, qP, qK, qD⟩ := q; exact ⟨q0, q1, qP, va_K.moved (u := U) (U := U.calling g mk a) (Vm.Alike.refl U.vm) qK, qD⟩, va_recv hK hPc (ci := 0) (q0 := 0) rfl rfl, fun U hU hW => ⟨rfl, by rw [hU], by rw [hU]; exact hPc, va_K.moved hW.alike hK, hDc.weaken (fun _ _ _ _ => trivial)⟩⟩ rfl rfl hl.1 rfl (lv_room (Nat.le_of_ble_eq_true rfl)) dX0_doWord_52 ⟨Nat.le_of_ble_eq_true rfl, Nat.le_of_ble_eq_true rfl⟩) hS (fun q _ h => hFc q h) hFc (fun r_3 u t H_2 locs ht hvm hw hB hz1 hk1 hS1 => ?_)
  obtain ⟨hP1, hK1, hD1⟩ := hB
  rw [ht] at hP1
  obtain ⟨hP2, hD2⟩ := va_join (wr := [(h1, .inl (cI, 4096, .inl (fun _ => 0)))]) (w1 := [(h0, .inr (0, [.ref h1, .ref g0, .int 0, .int 0, .int 4]))]) hP hD [0] [1] rfl rfl (by decide) (by decide) hk1 hFc hP1 hD1
  clear hP1 hK1 hD1
  clear hP hD hS hPc hDc hFc hk1 hz1 ht hvm
  have hP1 := hP2
  have hD1 := hD2
  clear hP2 hD2
  have hP : va_P (dC, dI) vwCl [(h1, .inl (cI, 4096, .inl (fun _ => 0))), (h0, .inr (0, [.ref h1, .ref g0, .int 0, .int 0, .int 4]))] H_2 := hP1
  have hD : va_D A [(h1, .inl (cI, 4096, .inl (fun _ => 0))), (h0, .inr (0, [.ref h1, .ref g0, .int 0, .int 0, .int 4]))] := hD1
  have hS := hS1
  clear hP1 hD1 hS1
  obtain rfl := hw
  refine lv_istore_n (lv' := [(2, .int 2), (1, .int 0), (0, .ref h0)]) hx hb dX0_doWord_55 rfl hl (by decide) rfl (fun ls hl => ?_)
  refine lv_iload_n hx hb dX0_doWord_56 rfl (lv_at hl 0 rfl) ?_
  refine lv_if_eq (tgt := 72) hx hb dX0_doWord_57 (by decide) (fun c_0 => absurd c_0 (by decide)) (fun _ => ?_)
  refine lv_iload_n hx hb dX0_doWord_60 rfl (lv_at hl 0 rfl) ?_
  refine lv_bipush (v := 6) hx hb dX0_doWord_61 (by decide) ?_
  refine lv_icmp_eq (tgt := 72) hx hb dX0_doWord_63 (by decide) (fun c_0 => absurd c_0 (by decide)) (fun _ => ?_)
  refine lv_iload_n hx hb dX0_doWord_66 rfl (lv_at hl 0 rfl) ?_
  refine lv_bipush (v := 7) hx hb dX0_doWord_67 (by decide) ?_
  refine lv_icmp_ne (tgt := 90) hx hb dX0_doWord_69 (by decide) (fun _ => ?_) (fun c_0 => absurd c_0 (by decide))
  refine lv_iload_n hx hb dX0_doWord_90 rfl (lv_at hl 0 rfl) ?_
  have hP9 := hP.sub (ws' := [(h0, .inr (0, [.ref h1, .ref g0, .int 0, .int 0, .int 4])), (h1, .inl (cI, 4096, .inl (fun _ => 0)))]) [1, 0] rfl
  have hD9 := hD.sub (ws' := [(h0, .inr (0, [.ref h1, .ref g0, .int 0, .int 0, .int 4])), (h1, .inl (cI, 4096, .inl (fun _ => 0)))]) [1, 0] (by decide) rfl
  refine W.widen (k := 0) (n := 0) (by decide) (by decide) ?_
  exact W.iret (v := 2) hx hb hr (fun t ht hW => ⟨⟨2, (), rfl, rfl, by rw [ht]; exact hP9, va_K.moved hW.alike hK, hD9⟩, hS.F ht⟩) hS.2.2 dX0_doWord_91
def vs_kX0_doWords : List Cond := Cond.code yX0_doWords cX0_doWords 4 (some .int) :: (([] : List Cond) ++ (wsV RX0 29 RX0 yX0_doWord vs_kX0_doWord))
theorem g_kX0_doWords_0 : GoodIn vs_kX0_doWords (wsV RX0 29 RX0 yX0_doWord vs_kX0_doWord) := fun w h => ⟨List.mem_cons_of_mem _ (List.mem_append_right _ h), good_of_word (List.all_eq_true.mp (show (wsV RX0 29 RX0 yX0_doWord vs_kX0_doWord).all goodWord = true by decide +kernel) w h)⟩
def sp_kX0_doWords (p0 : Int32) : Int32 := if p0 ≤ 0 then 0 else (if p0 ≤ 1 then 2 else (2))
set_option maxHeartbeats 4000000 in
set_option maxRecDepth 100000 in
theorem kX0_doWords (l : Launch) (dC : Nat → ClassId) (dI : Nat → Nat → Nat) (cI cB cZ : ClassId) (h0 : Nat) (h1 : Nat) (g0 : Nat) (sz : Nat) (p0 : Int32) : Met l yX0_doWords vs_kX0_doWords ({ frames := 2, cells := 0, slots := 0, locals := 44 }) (va_Pc [.ref h0, .int p0] (fun U => U.heap.size = sz ∧ va_P (dC, dI) vwCl [(h0, .inr (0, [.ref h1, .ref g0, .int 0, .int 0, .int 0])), (h1, .inl (cI, 4096, .inl (fun _ => 0)))] U.heap ∧ va_K (dC, dI) vwCl (ty3 cI cB cZ) U ∧ va_D (fun _ => True) [(h0, .inr (0, [.ref h1, .ref g0, .int 0, .int 0, .int 0])), (h1, .inl (cI, 4096, .inl (fun _ => 0)))])) (va_Qi (fun (r : Int32) (_ : Unit) => r = sp_kX0_doWords p0) (fun (_ : Unit) (_ : State) => True) (va_A [(h0, .inr (0, [.ref h1, .ref g0, .int 0, .int 0, .int 0])), (h1, .inl (cI, 4096, .inl (fun _ => 0)))] sz)) 0 0 (va_A [(h0, .inr (0, [.ref h1, .ref g0, .int 0, .int 0, .int 0])), (h1, .inl (cI, 4096, .inl (fun _ => 0)))] sz) := by
  refine Met.ofW (cc := cX0_doWords) (maxL := 4) (ret := (some .int)) (by decide) rfl ?_
  intro p e s m args below meth c s₁ B hml hv
  obtain ⟨rfl, hsz, hP, hK, hD0⟩ := hv
  have hx := B.exec
  have hb := B.bytes
  have hr := B.returns
  have hts := atoms_spec (ws := vs_kX0_doWords) B.pre
  have hown : s.vm.findClass RX0 = some m.cls := findClass_of_methodNamed B.named
  have hlocks := B.notSynchronized
  subst hsz
  have hD := hD0.self (sz := s.heap.size)
  clear hD0
  generalize hAe : va_A [(h0, .inr (0, [.ref h1, .ref g0, .int 0, .int 0, .int 0])), (h1, .inl (cI, 4096, .inl (fun _ => 0)))] s.heap.size = A at hD ⊢
  have hA : ∀ q : Nat, s.heap.size ≤ q → A q := fun q h => by rw [← hAe]; exact Or.inr h
  clear hAe
  have hS : va_S A s.heap s.heap [] := va_S.rf
  have hl := lv_entry ([.ref h0, .int p0]) (n := 4) (Nat.le_of_ble_eq_true rfl)
  rw [lg_entry_eq]
  generalize (lg_sl ([.ref h0, .int p0]) ++ List.replicate (4 - (lg_sl ([.ref h0, .int p0])).length) Slot.unset).toArray = ls at hl ⊢
  replace hl : lv_has ls 4 [(0, .ref h0), (1, .int p0)] := hl
  refine my_st (fun H locs eH el => ?_)
  replace hP : va_P (dC, dI) vwCl [(h0, .inr (0, [.ref h1, .ref g0, .int 0, .int 0, .int 0])), (h1, .inl (cI, 4096, .inl (fun _ => 0)))] H := by rw [eH]; exact hP
  replace hS : va_S A s.heap H locs := by rw [eH, el]; exact hS
  clear eH el
  refine lv_iconst (v := 0) hx hb dX0_doWords_0 (by decide) ?_
  refine lv_istore_n (lv' := [(2, .int 0), (0, .ref h0), (1, .int p0)]) hx hb dX0_doWords_1 rfl hl (by decide) rfl (fun ls hl => ?_)
  refine lv_iconst (v := 0) hx hb dX0_doWords_2 (by decide) ?_
  refine lv_istore_n (lv' := [(3, .int 0), (2, .int 0), (0, .ref h0), (1, .int p0)]) hx hb dX0_doWords_3 rfl hl (by decide) rfl (fun ls hl => ?_)
  refine lv_iload_n hx hb dX0_doWords_4 rfl (lv_at hl 0 rfl) ?_
  refine lv_iload_n hx hb dX0_doWords_5 rfl (lv_at hl 3 rfl) ?_
  refine lv_icmp_ge (tgt := 24) hx hb dX0_doWords_6 (by decide) (fun c_1 => ?_) (fun c_1 => ?_)
  · refine lv_iload_n hx hb dX0_doWords_24 rfl (lv_at hl 1 rfl) ?_
    exact W.iret (v := 0) hx hb hr (fun t ht hW => ⟨⟨0, (), rfl, by unfold sp_kX0_doWords; rw [if_pos c_1], trivial⟩, hS.F ht⟩) hS.2.2 dX0_doWords_25
  · refine lv_iload_n hx hb dX0_doWords_9 rfl (lv_at hl 1 rfl) ?_
    refine lv_if_ne (tgt := 24) hx hb dX0_doWords_10 (by decide) (fun c_0 => absurd (by decide) c_0) (fun _ => ?_)
    refine lv_aload_n hx hb dX0_doWords_13 rfl (lv_at hl 2 rfl) ?_
    have hPc := hP.sub (ws' := [(h0, .inr (0, [.ref h1, .ref g0, .int 0, .int 0, .int 0])), (h1, .inl (cI, 4096, .inl (fun _ => 0)))]) [0, 1] rfl
    have hDc := hD.sub (ws' := [(h0, .inr (0, [.ref h1, .ref g0, .int 0, .int 0, .int 0])), (h1, .inl (cI, 4096, .inl (fun _ => 0)))]) [0, 1] (by decide) rfl
    have hFc := va_free (wc := [(h0, .inr (0, [.ref h1, .ref g0, .int 0, .int 0, .int 0])), (h1, .inl (cI, 4096, .inl (fun _ => 0)))]) hD hS hA [0, 1] rfl
    refine va_calli (va_runV (As := []) (rest := []) ⟨hx, hb, hml, hown, hts⟩ (kX0_doWord l dC dI cI cB cZ h0 h1 g0 H.size ) (cwV 0 hts g_kX0_doWords_0 rfl rfl rfl (by decide +kernel) ⟨Nat.le_of_ble_eq_true rfl, Nat.le_of_ble_eq_true rfl⟩) ⟨fun a U g mk q => by obtain ⟨q0, q1, qP, qK, qD⟩ := q; exact ⟨q0, q1, qP, va_K.moved (u := U) (U := U.calling g mk a) (Vm.Alike.refl U.vm) qK, qD⟩, va_recv hK hPc (ci := 0) (q0 := 0) rfl rfl, fun U hU hW => ⟨rfl, by rw [hU], by rw [hU]; exact hPc, va_K.moved hW.alike hK, hDc.weaken (fun _ _ _ _ => trivial)⟩⟩ rfl rfl hl.1 rfl (lv_room (Nat.le_of_ble_eq_true rfl)) dX0_doWords_14 ⟨Nat.le_of_ble_eq_true rfl, Nat.le_of_ble_eq_true rfl⟩) hS (fun q _ h => hFc q h) hFc (fun r_3 u t H_2 locs ht hvm hw hB hz1 hk1 hS1 => ?_)
    obtain ⟨hP1, hK1, hD1⟩ := hB
    rw [ht] at hP1
    obtain ⟨hP2, hD2⟩ := va_join (wr := []) (w1 := [(h0, .inr (0, [.ref h1, .ref g0, .int 0, .int 0, .int 4])), (h1, .inl (cI, 4096, .inl (fun _ => 0)))]) hP hD [0, 1] [] rfl rfl (by decide) (by decide) hk1 hFc hP1 hD1
    clear hP1 hK1 hD1
    clear hP hD hS hPc hDc hFc hk1 hz1 ht hvm
    have hP1 := hP2
    have hD1 := hD2
    clear hP2 hD2
    have hP : va_P (dC, dI) vwCl [(h0, .inr (0, [.ref h1, .ref g0, .int 0, .int 0, .int 4])), (h1, .inl (cI, 4096, .inl (fun _ => 0)))] H_2 := hP1
    have hD : va_D A [(h0, .inr (0, [.ref h1, .ref g0, .int 0, .int 0, .int 4])), (h1, .inl (cI, 4096, .inl (fun _ => 0)))] := hD1
    have hS := hS1
    clear hP1 hD1 hS1
    obtain rfl := hw
    refine lv_istore_n (lv' := [(2, .int 2), (3, .int 0), (0, .ref h0), (1, .int p0)]) hx hb dX0_doWords_17 rfl hl (by decide) rfl (fun ls hl => ?_)
    refine lv_iinc (v := 1) (lv' := [(3, .int 1), (2, .int 2), (0, .ref h0), (1, .int p0)]) hx hb dX0_doWords_18 hl (k := 1) rfl (by decide) (by decide) rfl (fun ls hl => ?_)
    refine lv_goto (tgt := 4) hx hb dX0_doWords_21 (by decide) ?_
    refine lv_iload_n hx hb dX0_doWords_4 rfl (lv_at hl 0 rfl) ?_
    refine lv_iload_n hx hb dX0_doWords_5 rfl (lv_at hl 3 rfl) ?_
    refine lv_icmp_ge (tgt := 24) hx hb dX0_doWords_6 (by decide) (fun c_4 => ?_) (fun c_4 => ?_)
    · refine lv_iload_n hx hb dX0_doWords_24 rfl (lv_at hl 1 rfl) ?_
      exact W.iret (v := 2) hx hb hr (fun t ht hW => ⟨⟨2, (), rfl, by unfold sp_kX0_doWords; rw [if_neg c_1, if_pos c_4], trivial⟩, hS.F ht⟩) hS.2.2 dX0_doWords_25
    · refine lv_iload_n hx hb dX0_doWords_9 rfl (lv_at hl 1 rfl) ?_
      refine lv_if_ne (tgt := 24) hx hb dX0_doWords_10 (by decide) (fun _ => ?_) (fun c_0 => absurd c_0 (by decide))
      refine lv_iload_n hx hb dX0_doWords_24 rfl (lv_at hl 1 rfl) ?_
      exact W.iret (v := 2) hx hb hr (fun t ht hW => ⟨⟨2, (), rfl, by unfold sp_kX0_doWords; rw [if_neg c_1, if_neg c_4], trivial⟩, hS.F ht⟩) hS.2.2 dX0_doWords_25
def vs_kX11_go : List Cond := Cond.code yX11_go cX11_go 2 (some .int) :: (([Cond.fieldLink RX11 78 "CompiledHouse" "board" "LCompiledHouse$Board;"] : List Cond) ++ ((wsX110) ++ (wsV RX11 187 RX0 yX0_doWords vs_kX0_doWords)))
theorem i_kX11_go_X11 : ∀ w ∈ wsX110, w ∈ vs_kX11_go := fun w h => List.mem_cons_of_mem _ (List.mem_append_right _ (List.mem_append_left _ h))
theorem g_kX11_go_1 : GoodIn vs_kX11_go (wsV RX11 187 RX0 yX0_doWords vs_kX0_doWords) := fun w h => ⟨List.mem_cons_of_mem _ (List.mem_append_right _ (List.mem_append_right _ h)), good_of_word (List.all_eq_true.mp (show (wsV RX11 187 RX0 yX0_doWords vs_kX0_doWords).all goodWord = true by decide +kernel) w h)⟩
def sp_kX11_go (p0 : Int32) : Int32 := if p0 < 1 then (-1) else (if p0 ≤ 1000 then (sp_kX0_doWords p0) else ((-1)))
set_option maxHeartbeats 4000000 in
set_option maxRecDepth 100000 in
theorem kX11_go (l : Launch) (dC : Nat → ClassId) (dI : Nat → Nat → Nat) (cI cB cZ : ClassId) (h0 : Nat) (h1 : Nat) (h2 : Nat) (g0 : Nat) (g1 : Nat) (g2 : Nat) (g3 : Nat) (g4 : Nat) (g5 : Nat) (g6 : Nat) (sz : Nat) (p0 : Int32) : Met l yX11_go vs_kX11_go ({ frames := 3, cells := 0, slots := 0, locals := 67 }) (va_Pc [.ref h0, .int p0] (fun U => U.heap.size = sz ∧ va_P (dC, dI) vwCl [(h0, .inr (11, [.ref g0, .ref g1, .ref g2, .ref g3, .ref g4, .ref g5, .ref h1])), (h1, .inr (0, [.ref h2, .ref g6, .int 0, .int 0, .int 0])), (h2, .inl (cI, 4096, .inl (fun _ => 0)))] U.heap ∧ va_K (dC, dI) vwCl (ty3 cI cB cZ) U ∧ va_D (fun _ => True) [(h0, .inr (11, [.ref g0, .ref g1, .ref g2, .ref g3, .ref g4, .ref g5, .ref h1])), (h1, .inr (0, [.ref h2, .ref g6, .int 0, .int 0, .int 0])), (h2, .inl (cI, 4096, .inl (fun _ => 0)))])) (va_Qi (fun (r : Int32) (_ : Unit) => r = sp_kX11_go p0) (fun (_ : Unit) (_ : State) => True) (va_A [(h0, .inr (11, [.ref g0, .ref g1, .ref g2, .ref g3, .ref g4, .ref g5, .ref h1])), (h1, .inr (0, [.ref h2, .ref g6, .int 0, .int 0, .int 0])), (h2, .inl (cI, 4096, .inl (fun _ => 0)))] sz)) 0 0 (va_A [(h0, .inr (11, [.ref g0, .ref g1, .ref g2, .ref g3, .ref g4, .ref g5, .ref h1])), (h1, .inr (0, [.ref h2, .ref g6, .int 0, .int 0, .int 0])), (h2, .inl (cI, 4096, .inl (fun _ => 0)))] sz) := by
  refine Met.ofW (cc := cX11_go) (maxL := 2) (ret := (some .int)) (by decide) rfl ?_
  intro p e s m args below meth c s₁ B hml hv
  obtain ⟨rfl, hsz, hP, hK, hD0⟩ := hv
  have hx := B.exec
  have hb := B.bytes
  have hr := B.returns
  have hts := atoms_spec (ws := vs_kX11_go) B.pre
  have hown : s.vm.findClass RX11 = some m.cls := findClass_of_methodNamed B.named
  have hlocks := B.notSynchronized
  subst hsz
  have hD := hD0.self (sz := s.heap.size)
  clear hD0
  generalize hAe : va_A [(h0, .inr (11, [.ref g0, .ref g1, .ref g2, .ref g3, .ref g4, .ref g5, .ref h1])), (h1, .inr (0, [.ref h2, .ref g6, .int 0, .int 0, .int 0])), (h2, .inl (cI, 4096, .inl (fun _ => 0)))] s.heap.size = A at hD ⊢
  have hA : ∀ q : Nat, s.heap.size ≤ q → A q := fun q h => by rw [← hAe]; exact Or.inr h
  clear hAe
  have hS : va_S A s.heap s.heap [] := va_S.rf
  have hl := lv_entry ([.ref h0, .int p0]) (n := 2) (Nat.le_of_ble_eq_true rfl)
  rw [lg_entry_eq]
  generalize (lg_sl ([.ref h0, .int p0]) ++ List.replicate (2 - (lg_sl ([.ref h0, .int p0])).length) Slot.unset).toArray = ls at hl ⊢
  replace hl : lv_has ls 2 [(0, .ref h0), (1, .int p0)] := hl
  refine my_st (fun H locs eH el => ?_)
  replace hP : va_P (dC, dI) vwCl [(h0, .inr (11, [.ref g0, .ref g1, .ref g2, .ref g3, .ref g4, .ref g5, .ref h1])), (h1, .inr (0, [.ref h2, .ref g6, .int 0, .int 0, .int 0])), (h2, .inl (cI, 4096, .inl (fun _ => 0)))] H := by rw [eH]; exact hP
  replace hS : va_S A s.heap H locs := by rw [eH, el]; exact hS
  clear eH el
  refine lv_iload_n hx hb dX11_go_0 rfl (lv_at hl 1 rfl) ?_
  refine lv_iconst (v := 1) hx hb dX11_go_1 (by decide) ?_
  refine lv_icmp_lt (tgt := 12) hx hb dX11_go_2 (by decide) (fun c_1 => ?_) (fun c_1 => ?_)
  · refine lv_iconst (v := (-1)) hx hb dX11_go_12 (by decide) ?_
    refine lv_goto (tgt := 24) hx hb dX11_go_13 (by decide) ?_
    exact W.iret (v := (-1)) hx hb hr (fun t ht hW => ⟨⟨(-1), (), rfl, by unfold sp_kX11_go; rw [if_pos c_1], trivial⟩, hS.F ht⟩) hS.2.2 dX11_go_24
  · refine lv_iload_n hx hb dX11_go_5 rfl (lv_at hl 1 rfl) ?_
    refine lv_sipush (v := 1000) hx hb dX11_go_6 (by decide) ?_
    refine lv_icmp_le (tgt := 16) hx hb dX11_go_9 (by decide) (fun c_2 => ?_) (fun c_2 => ?_)
    · refine lv_aload_n hx hb dX11_go_16 rfl (lv_at hl 0 rfl) ?_
      refine va_get (D := (dC, dI)) (ci := 11) (v := .ref h1) (C := RX11) (T := TX11) (N := 7) hx hb hts i_kX11_go_X11 hown hK hP 0 rfl rfl 6 (by decide) (hts (Cond.fieldLink RX11 78 "CompiledHouse" "board" "LCompiledHouse$Board;") (List.mem_cons_of_mem _ (List.mem_append_left _ (List.mem_of_getElem? (i := 0) rfl)))) (fun _ h9 => h9) rfl dX11_go_17 ?_
      refine lv_iload_n hx hb dX11_go_20 rfl (lv_at hl 1 rfl) ?_
      have hPc := hP.sub (ws' := [(h1, .inr (0, [.ref h2, .ref g6, .int 0, .int 0, .int 0])), (h2, .inl (cI, 4096, .inl (fun _ => 0)))]) [1, 2] rfl
      have hDc := hD.sub (ws' := [(h1, .inr (0, [.ref h2, .ref g6, .int 0, .int 0, .int 0])), (h2, .inl (cI, 4096, .inl (fun _ => 0)))]) [1, 2] (by decide) rfl
      have hFc := va_free (wc := [(h1, .inr (0, [.ref h2, .ref g6, .int 0, .int 0, .int 0])), (h2, .inl (cI, 4096, .inl (fun _ => 0)))]) hD hS hA [1, 2] rfl
      refine va_calli (va_runV (As := [.int p0]) (rest := []) ⟨hx, hb, hml, hown, hts⟩ (kX0_doWords l dC dI cI cB cZ h1 h2 g6 H.size p0) (cwV 1 hts g_kX11_go_1 rfl rfl rfl (by decide +kernel) ⟨Nat.le_of_ble_eq_true rfl, Nat.le_of_ble_eq_true rfl⟩) ⟨fun a U g mk q => by obtain ⟨q0, q1, qP, qK, qD⟩ := q; exact ⟨q0, q1, qP, va_K.moved (u := U) (U := U.calling g mk a) (Vm.Alike.refl U.vm) qK, qD⟩, va_recv hK hPc (ci := 0) (q0 := 0) rfl rfl, fun U hU hW => ⟨rfl, by rw [hU], by rw [hU]; exact hPc, va_K.moved hW.alike hK, hDc.weaken (fun _ _ _ _ => trivial)⟩⟩ rfl rfl hl.1 rfl (lv_room (Nat.le_of_ble_eq_true rfl)) dX11_go_21 ⟨Nat.le_of_ble_eq_true rfl, Nat.le_of_ble_eq_true rfl⟩) hS (fun q _ h => hFc q h) hFc (fun r_4 u t H_3 locs ht hvm hw hB hz1 hk1 hS1 => ?_)
      obtain ⟨hP2, hD2⟩ := va_join (wr := [(h0, .inr (11, [.ref g0, .ref g1, .ref g2, .ref g3, .ref g4, .ref g5, .ref h1]))]) (w1 := []) hP hD [1, 2] [0] rfl rfl (by decide) (by decide) hk1 hFc (fun _ _ h => by simp at h) ⟨fun _ _ _ _ h => by simp at h, fun _ _ h => by simp at h⟩
      clear hP hD hS hPc hDc hFc hk1 hz1 ht hvm
      have hP1 := hP2
      have hD1 := hD2
      clear hP2 hD2
      have hP : va_P (dC, dI) vwCl [(h0, .inr (11, [.ref g0, .ref g1, .ref g2, .ref g3, .ref g4, .ref g5, .ref h1]))] H_3 := hP1
      have hD : va_D A [(h0, .inr (11, [.ref g0, .ref g1, .ref g2, .ref g3, .ref g4, .ref g5, .ref h1]))] := hD1
      have hS := hS1
      clear hP1 hD1 hS1
      obtain rfl := hw
      exact W.iret (v := (sp_kX0_doWords p0)) hx hb hr (fun t ht hW => ⟨⟨(sp_kX0_doWords p0), (), rfl, by unfold sp_kX11_go; rw [if_neg c_1, if_pos c_2], trivial⟩, hS.F ht⟩) hS.2.2 dX11_go_24
    · refine lv_iconst (v := (-1)) hx hb dX11_go_12 (by decide) ?_
      refine lv_goto (tgt := 24) hx hb dX11_go_13 (by decide) ?_
      exact W.iret (v := (-1)) hx hb hr (fun t ht hW => ⟨⟨(-1), (), rfl, by unfold sp_kX11_go; rw [if_neg c_1, if_neg c_2], trivial⟩, hS.F ht⟩) hS.2.2 dX11_go_24
def vs_kX0_shown : List Cond := Cond.code yX0_shown cX0_shown 2 (some .int) :: (([Cond.fieldLink RX0 11 "CompiledHouse$Board" "memory" "[I", Cond.fieldLink RX0 26 "CompiledHouse$Board" "done" "I", Cond.fieldLink RX0 18 "CompiledHouse$Board" "pc" "I", Cond.fieldLink RX0 15 "CompiledHouse$Board" "registers" "[I"] : List Cond) ++ (wsX00))
theorem i_kX0_shown_X0 : ∀ w ∈ wsX00, w ∈ vs_kX0_shown := fun w h => List.mem_cons_of_mem _ (List.mem_append_right _ h)
def sp_kX0_shown (p0 : Int32) : Int32 := if p0 < 0 then if p0 = 32 then 0 else (if p0 = 33 then 0 else (if p0 < 100 then (-1) else (if 4196 ≤ p0 then (-1) else (0)))) else (if 32 ≤ p0 then if p0 = 32 then 0 else (if p0 = 33 then 0 else (if p0 < 100 then (-1) else (if 4196 ≤ p0 then (-1) else (0)))) else (0))
set_option maxHeartbeats 4000000 in
set_option maxRecDepth 100000 in
theorem kX0_shown (l : Launch) (dC : Nat → ClassId) (dI : Nat → Nat → Nat) (cI cB cZ : ClassId) (h0 : Nat) (h1 : Nat) (h2 : Nat) (sz : Nat) (p0 : Int32) : Met l yX0_shown vs_kX0_shown ({ frames := 0, cells := 0, slots := 0, locals := 0 }) (va_Pc [.ref h0, .int p0] (fun U => U.heap.size = sz ∧ va_P (dC, dI) vwCl [(h0, .inr (0, [.ref h2, .ref h1, .int 0, .int 0, .int 0])), (h1, .inl (cI, 32, .inl (fun _ => 0))), (h2, .inl (cI, 4096, .inl (fun _ => 0)))] U.heap ∧ va_K (dC, dI) vwCl (ty3 cI cB cZ) U ∧ va_D (fun _ => True) [(h0, .inr (0, [.ref h2, .ref h1, .int 0, .int 0, .int 0])), (h1, .inl (cI, 32, .inl (fun _ => 0))), (h2, .inl (cI, 4096, .inl (fun _ => 0)))])) (va_Qi (fun (r : Int32) (_ : Unit) => r = sp_kX0_shown p0) (fun (_ : Unit) (_ : State) => True) (va_A [(h0, .inr (0, [.ref h2, .ref h1, .int 0, .int 0, .int 0])), (h1, .inl (cI, 32, .inl (fun _ => 0))), (h2, .inl (cI, 4096, .inl (fun _ => 0)))] sz)) 0 0 (va_A [(h0, .inr (0, [.ref h2, .ref h1, .int 0, .int 0, .int 0])), (h1, .inl (cI, 32, .inl (fun _ => 0))), (h2, .inl (cI, 4096, .inl (fun _ => 0)))] sz) := by
  refine Met.ofW (cc := cX0_shown) (maxL := 2) (ret := (some .int)) (by decide) rfl ?_
  intro p e s m args below meth c s₁ B hml hv
  obtain ⟨rfl, hsz, hP, hK, hD0⟩ := hv
  have hx := B.exec
  have hb := B.bytes
  have hr := B.returns
  have hts := atoms_spec (ws := vs_kX0_shown) B.pre
  have hown : s.vm.findClass RX0 = some m.cls := findClass_of_methodNamed B.named
  have hlocks := B.notSynchronized
  subst hsz
  have hD := hD0.self (sz := s.heap.size)
  clear hD0
  generalize hAe : va_A [(h0, .inr (0, [.ref h2, .ref h1, .int 0, .int 0, .int 0])), (h1, .inl (cI, 32, .inl (fun _ => 0))), (h2, .inl (cI, 4096, .inl (fun _ => 0)))] s.heap.size = A at hD ⊢
  have hA : ∀ q : Nat, s.heap.size ≤ q → A q := fun q h => by rw [← hAe]; exact Or.inr h
  clear hAe
  have hS : va_S A s.heap s.heap [] := va_S.rf
  have hl := lv_entry ([.ref h0, .int p0]) (n := 2) (Nat.le_of_ble_eq_true rfl)
  rw [lg_entry_eq]
  generalize (lg_sl ([.ref h0, .int p0]) ++ List.replicate (2 - (lg_sl ([.ref h0, .int p0])).length) Slot.unset).toArray = ls at hl ⊢
  replace hl : lv_has ls 2 [(0, .ref h0), (1, .int p0)] := hl
  refine my_st (fun H locs eH el => ?_)
  replace hP : va_P (dC, dI) vwCl [(h0, .inr (0, [.ref h2, .ref h1, .int 0, .int 0, .int 0])), (h1, .inl (cI, 32, .inl (fun _ => 0))), (h2, .inl (cI, 4096, .inl (fun _ => 0)))] H := by rw [eH]; exact hP
  replace hS : va_S A s.heap H locs := by rw [eH, el]; exact hS
  clear eH el
  refine lv_iload_n hx hb dX0_shown_0 rfl (lv_at hl 1 rfl) ?_
  refine lv_if_lt (tgt := 17) hx hb dX0_shown_1 (by decide) (fun c_1 => ?_) (fun c_1 => ?_)
  · refine lv_iload_n hx hb dX0_shown_17 rfl (lv_at hl 1 rfl) ?_
    refine lv_bipush (v := 32) hx hb dX0_shown_18 (by decide) ?_
    refine lv_icmp_ne (tgt := 28) hx hb dX0_shown_20 (by decide) (fun c_2 => ?_) (fun c_2 => ?_)
    · refine lv_iload_n hx hb dX0_shown_28 rfl (lv_at hl 1 rfl) ?_
      refine lv_bipush (v := 33) hx hb dX0_shown_29 (by decide) ?_
      refine lv_icmp_ne (tgt := 39) hx hb dX0_shown_31 (by decide) (fun c_3 => ?_) (fun c_3 => ?_)
      · refine lv_iload_n hx hb dX0_shown_39 rfl (lv_at hl 1 rfl) ?_
        refine lv_bipush (v := 100) hx hb dX0_shown_40 (by decide) ?_
        refine lv_icmp_lt (tgt := 64) hx hb dX0_shown_42 (by decide) (fun c_4 => ?_) (fun c_4 => ?_)
        · refine lv_iconst (v := (-1)) hx hb dX0_shown_64 (by decide) ?_
          exact W.iret (v := (-1)) hx hb hr (fun t ht hW => ⟨⟨(-1), (), rfl, by unfold sp_kX0_shown; rw [if_pos c_1, if_neg c_2, if_neg c_3, if_pos c_4], trivial⟩, hS.F ht⟩) hS.2.2 dX0_shown_65
        · refine lv_iload_n hx hb dX0_shown_45 rfl (lv_at hl 1 rfl) ?_
          refine lv_sipush (v := 4196) hx hb dX0_shown_46 (by decide) ?_
          refine lv_icmp_ge (tgt := 64) hx hb dX0_shown_49 (by decide) (fun c_5 => ?_) (fun c_5 => ?_)
          · refine lv_iconst (v := (-1)) hx hb dX0_shown_64 (by decide) ?_
            exact W.iret (v := (-1)) hx hb hr (fun t ht hW => ⟨⟨(-1), (), rfl, by unfold sp_kX0_shown; rw [if_pos c_1, if_neg c_2, if_neg c_3, if_neg c_4, if_pos c_5], trivial⟩, hS.F ht⟩) hS.2.2 dX0_shown_65
          · refine lv_aload_n hx hb dX0_shown_52 rfl (lv_at hl 0 rfl) ?_
            refine va_get (D := (dC, dI)) (ci := 0) (v := .ref h2) (C := RX0) (T := TX0) (N := 5) hx hb hts i_kX0_shown_X0 hown hK hP 0 rfl rfl 0 (by decide) (hts (Cond.fieldLink RX0 11 "CompiledHouse$Board" "memory" "[I") (List.mem_cons_of_mem _ (List.mem_append_left _ (List.mem_of_getElem? (i := 0) rfl)))) (fun _ h9 => h9) rfl dX0_shown_53 ?_
            refine lv_iload_n hx hb dX0_shown_56 rfl (lv_at hl 1 rfl) ?_
            refine lv_bipush (v := 100) hx hb dX0_shown_57 (by decide) ?_
            refine lv_isub hx hb dX0_shown_59 ?_
            refine va_iald hx hb hK hP 2 0 rfl rfl (my_shown c_4 c_5) dX0_shown_60 ?_
            refine my_top 0 (rfl) ?_
            refine lv_goto (tgt := 65) hx hb dX0_shown_61 (by decide) ?_
            exact W.iret (v := 0) hx hb hr (fun t ht hW => ⟨⟨0, (), rfl, by unfold sp_kX0_shown; rw [if_pos c_1, if_neg c_2, if_neg c_3, if_neg c_4, if_neg c_5], trivial⟩, hS.F ht⟩) hS.2.2 dX0_shown_65
      · refine lv_aload_n hx hb dX0_shown_34 rfl (lv_at hl 0 rfl) ?_
        refine va_get (D := (dC, dI)) (ci := 0) (v := .int 0) (C := RX0) (T := TX0) (N := 5) hx hb hts i_kX0_shown_X0 hown hK hP 0 rfl rfl 3 (by decide) (hts (Cond.fieldLink RX0 26 "CompiledHouse$Board" "done" "I") (List.mem_cons_of_mem _ (List.mem_append_left _ (List.mem_of_getElem? (i := 1) rfl)))) (fun _ h9 => h9) rfl dX0_shown_35 ?_
        exact W.iret (v := 0) hx hb hr (fun t ht hW => ⟨⟨0, (), rfl, by unfold sp_kX0_shown; rw [if_pos c_1, if_neg c_2, if_pos c_3], trivial⟩, hS.F ht⟩) hS.2.2 dX0_shown_38
    · refine lv_aload_n hx hb dX0_shown_23 rfl (lv_at hl 0 rfl) ?_
      refine va_get (D := (dC, dI)) (ci := 0) (v := .int 0) (C := RX0) (T := TX0) (N := 5) hx hb hts i_kX0_shown_X0 hown hK hP 0 rfl rfl 2 (by decide) (hts (Cond.fieldLink RX0 18 "CompiledHouse$Board" "pc" "I") (List.mem_cons_of_mem _ (List.mem_append_left _ (List.mem_of_getElem? (i := 2) rfl)))) (fun _ h9 => h9) rfl dX0_shown_24 ?_
      exact W.iret (v := 0) hx hb hr (fun t ht hW => ⟨⟨0, (), rfl, by unfold sp_kX0_shown; rw [if_pos c_1, if_pos c_2], trivial⟩, hS.F ht⟩) hS.2.2 dX0_shown_27
  · refine lv_iload_n hx hb dX0_shown_4 rfl (lv_at hl 1 rfl) ?_
    refine lv_bipush (v := 32) hx hb dX0_shown_5 (by decide) ?_
    refine lv_icmp_ge (tgt := 17) hx hb dX0_shown_7 (by decide) (fun c_6 => ?_) (fun c_6 => ?_)
    · refine lv_iload_n hx hb dX0_shown_17 rfl (lv_at hl 1 rfl) ?_
      refine lv_bipush (v := 32) hx hb dX0_shown_18 (by decide) ?_
      refine lv_icmp_ne (tgt := 28) hx hb dX0_shown_20 (by decide) (fun c_7 => ?_) (fun c_7 => ?_)
      · refine lv_iload_n hx hb dX0_shown_28 rfl (lv_at hl 1 rfl) ?_
        refine lv_bipush (v := 33) hx hb dX0_shown_29 (by decide) ?_
        refine lv_icmp_ne (tgt := 39) hx hb dX0_shown_31 (by decide) (fun c_8 => ?_) (fun c_8 => ?_)
        · refine lv_iload_n hx hb dX0_shown_39 rfl (lv_at hl 1 rfl) ?_
          refine lv_bipush (v := 100) hx hb dX0_shown_40 (by decide) ?_
          refine lv_icmp_lt (tgt := 64) hx hb dX0_shown_42 (by decide) (fun c_9 => ?_) (fun c_9 => ?_)
          · refine lv_iconst (v := (-1)) hx hb dX0_shown_64 (by decide) ?_
            exact W.iret (v := (-1)) hx hb hr (fun t ht hW => ⟨⟨(-1), (), rfl, by unfold sp_kX0_shown; rw [if_neg c_1, if_pos c_6, if_neg c_7, if_neg c_8, if_pos c_9], trivial⟩, hS.F ht⟩) hS.2.2 dX0_shown_65
          · refine lv_iload_n hx hb dX0_shown_45 rfl (lv_at hl 1 rfl) ?_
            refine lv_sipush (v := 4196) hx hb dX0_shown_46 (by decide) ?_
            refine lv_icmp_ge (tgt := 64) hx hb dX0_shown_49 (by decide) (fun c_10 => ?_) (fun c_10 => ?_)
            · refine lv_iconst (v := (-1)) hx hb dX0_shown_64 (by decide) ?_
              exact W.iret (v := (-1)) hx hb hr (fun t ht hW => ⟨⟨(-1), (), rfl, by unfold sp_kX0_shown; rw [if_neg c_1, if_pos c_6, if_neg c_7, if_neg c_8, if_neg c_9, if_pos c_10], trivial⟩, hS.F ht⟩) hS.2.2 dX0_shown_65
            · refine lv_aload_n hx hb dX0_shown_52 rfl (lv_at hl 0 rfl) ?_
              refine va_get (D := (dC, dI)) (ci := 0) (v := .ref h2) (C := RX0) (T := TX0) (N := 5) hx hb hts i_kX0_shown_X0 hown hK hP 0 rfl rfl 0 (by decide) (hts (Cond.fieldLink RX0 11 "CompiledHouse$Board" "memory" "[I") (List.mem_cons_of_mem _ (List.mem_append_left _ (List.mem_of_getElem? (i := 0) rfl)))) (fun _ h9 => h9) rfl dX0_shown_53 ?_
              refine lv_iload_n hx hb dX0_shown_56 rfl (lv_at hl 1 rfl) ?_
              refine lv_bipush (v := 100) hx hb dX0_shown_57 (by decide) ?_
              refine lv_isub hx hb dX0_shown_59 ?_
              refine va_iald hx hb hK hP 2 0 rfl rfl (my_shown c_9 c_10) dX0_shown_60 ?_
              refine my_top 0 (rfl) ?_
              refine lv_goto (tgt := 65) hx hb dX0_shown_61 (by decide) ?_
              exact W.iret (v := 0) hx hb hr (fun t ht hW => ⟨⟨0, (), rfl, by unfold sp_kX0_shown; rw [if_neg c_1, if_pos c_6, if_neg c_7, if_neg c_8, if_neg c_9, if_neg c_10], trivial⟩, hS.F ht⟩) hS.2.2 dX0_shown_65
        · refine lv_aload_n hx hb dX0_shown_34 rfl (lv_at hl 0 rfl) ?_
          refine va_get (D := (dC, dI)) (ci := 0) (v := .int 0) (C := RX0) (T := TX0) (N := 5) hx hb hts i_kX0_shown_X0 hown hK hP 0 rfl rfl 3 (by decide) (hts (Cond.fieldLink RX0 26 "CompiledHouse$Board" "done" "I") (List.mem_cons_of_mem _ (List.mem_append_left _ (List.mem_of_getElem? (i := 1) rfl)))) (fun _ h9 => h9) rfl dX0_shown_35 ?_
          exact W.iret (v := 0) hx hb hr (fun t ht hW => ⟨⟨0, (), rfl, by unfold sp_kX0_shown; rw [if_neg c_1, if_pos c_6, if_neg c_7, if_pos c_8], trivial⟩, hS.F ht⟩) hS.2.2 dX0_shown_38
      · refine lv_aload_n hx hb dX0_shown_23 rfl (lv_at hl 0 rfl) ?_
        refine va_get (D := (dC, dI)) (ci := 0) (v := .int 0) (C := RX0) (T := TX0) (N := 5) hx hb hts i_kX0_shown_X0 hown hK hP 0 rfl rfl 2 (by decide) (hts (Cond.fieldLink RX0 18 "CompiledHouse$Board" "pc" "I") (List.mem_cons_of_mem _ (List.mem_append_left _ (List.mem_of_getElem? (i := 2) rfl)))) (fun _ h9 => h9) rfl dX0_shown_24 ?_
        exact W.iret (v := 0) hx hb hr (fun t ht hW => ⟨⟨0, (), rfl, by unfold sp_kX0_shown; rw [if_neg c_1, if_pos c_6, if_pos c_7], trivial⟩, hS.F ht⟩) hS.2.2 dX0_shown_27
    · refine lv_aload_n hx hb dX0_shown_10 rfl (lv_at hl 0 rfl) ?_
      refine va_get (D := (dC, dI)) (ci := 0) (v := .ref h1) (C := RX0) (T := TX0) (N := 5) hx hb hts i_kX0_shown_X0 hown hK hP 0 rfl rfl 1 (by decide) (hts (Cond.fieldLink RX0 15 "CompiledHouse$Board" "registers" "[I") (List.mem_cons_of_mem _ (List.mem_append_left _ (List.mem_of_getElem? (i := 3) rfl)))) (fun _ h9 => h9) rfl dX0_shown_11 ?_
      refine lv_iload_n hx hb dX0_shown_14 rfl (lv_at hl 1 rfl) ?_
      refine va_iald hx hb hK hP 1 0 rfl rfl (by rw [vp_in_iff]; have h1 := c_1; have h2 := c_6; simp only [my_lt, my_le, show (0 : Int32).toInt = 0 by decide, show (32 : Int32).toInt = 32 by decide] at h1 h2; omega) dX0_shown_15 ?_
      refine my_top 0 (rfl) ?_
      exact W.iret (v := 0) hx hb hr (fun t ht hW => ⟨⟨0, (), rfl, by unfold sp_kX0_shown; rw [if_neg c_1, if_neg c_6], trivial⟩, hS.F ht⟩) hS.2.2 dX0_shown_16
def vs_kX11_board : List Cond := Cond.code yX11_board cX11_board 2 (some .int) :: (([Cond.fieldLink RX11 78 "CompiledHouse" "board" "LCompiledHouse$Board;"] : List Cond) ++ ((wsX110) ++ (wsV RX11 190 RX0 yX0_shown vs_kX0_shown)))
theorem i_kX11_board_X11 : ∀ w ∈ wsX110, w ∈ vs_kX11_board := fun w h => List.mem_cons_of_mem _ (List.mem_append_right _ (List.mem_append_left _ h))
theorem g_kX11_board_1 : GoodIn vs_kX11_board (wsV RX11 190 RX0 yX0_shown vs_kX0_shown) := fun w h => ⟨List.mem_cons_of_mem _ (List.mem_append_right _ (List.mem_append_right _ h)), good_of_word (List.all_eq_true.mp (show (wsV RX11 190 RX0 yX0_shown vs_kX0_shown).all goodWord = true by decide +kernel) w h)⟩
def sp_kX11_board (p0 : Int32) : Int32 := (sp_kX0_shown p0)
set_option maxHeartbeats 4000000 in
set_option maxRecDepth 100000 in
theorem kX11_board (l : Launch) (dC : Nat → ClassId) (dI : Nat → Nat → Nat) (cI cB cZ : ClassId) (h0 : Nat) (h1 : Nat) (h2 : Nat) (h3 : Nat) (g0 : Nat) (g1 : Nat) (g2 : Nat) (g3 : Nat) (g4 : Nat) (g5 : Nat) (sz : Nat) (p0 : Int32) : Met l yX11_board vs_kX11_board ({ frames := 1, cells := 0, slots := 0, locals := 21 }) (va_Pc [.ref h0, .int p0] (fun U => U.heap.size = sz ∧ va_P (dC, dI) vwCl [(h0, .inr (11, [.ref g0, .ref g1, .ref g2, .ref g3, .ref g4, .ref g5, .ref h1])), (h1, .inr (0, [.ref h3, .ref h2, .int 0, .int 0, .int 0])), (h2, .inl (cI, 32, .inl (fun _ => 0))), (h3, .inl (cI, 4096, .inl (fun _ => 0)))] U.heap ∧ va_K (dC, dI) vwCl (ty3 cI cB cZ) U ∧ va_D (fun _ => True) [(h0, .inr (11, [.ref g0, .ref g1, .ref g2, .ref g3, .ref g4, .ref g5, .ref h1])), (h1, .inr (0, [.ref h3, .ref h2, .int 0, .int 0, .int 0])), (h2, .inl (cI, 32, .inl (fun _ => 0))), (h3, .inl (cI, 4096, .inl (fun _ => 0)))])) (va_Qi (fun (r : Int32) (_ : Unit) => r = sp_kX11_board p0) (fun (_ : Unit) (_ : State) => True) (va_A [(h0, .inr (11, [.ref g0, .ref g1, .ref g2, .ref g3, .ref g4, .ref g5, .ref h1])), (h1, .inr (0, [.ref h3, .ref h2, .int 0, .int 0, .int 0])), (h2, .inl (cI, 32, .inl (fun _ => 0))), (h3, .inl (cI, 4096, .inl (fun _ => 0)))] sz)) 0 0 (va_A [(h0, .inr (11, [.ref g0, .ref g1, .ref g2, .ref g3, .ref g4, .ref g5, .ref h1])), (h1, .inr (0, [.ref h3, .ref h2, .int 0, .int 0, .int 0])), (h2, .inl (cI, 32, .inl (fun _ => 0))), (h3, .inl (cI, 4096, .inl (fun _ => 0)))] sz) := by
  refine Met.ofW (cc := cX11_board) (maxL := 2) (ret := (some .int)) (by decide) rfl ?_
  intro p e s m args below meth c s₁ B hml hv
  obtain ⟨rfl, hsz, hP, hK, hD0⟩ := hv
  have hx := B.exec
  have hb := B.bytes
  have hr := B.returns
  have hts := atoms_spec (ws := vs_kX11_board) B.pre
  have hown : s.vm.findClass RX11 = some m.cls := findClass_of_methodNamed B.named
  have hlocks := B.notSynchronized
  subst hsz
  have hD := hD0.self (sz := s.heap.size)
  clear hD0
  generalize hAe : va_A [(h0, .inr (11, [.ref g0, .ref g1, .ref g2, .ref g3, .ref g4, .ref g5, .ref h1])), (h1, .inr (0, [.ref h3, .ref h2, .int 0, .int 0, .int 0])), (h2, .inl (cI, 32, .inl (fun _ => 0))), (h3, .inl (cI, 4096, .inl (fun _ => 0)))] s.heap.size = A at hD ⊢
  have hA : ∀ q : Nat, s.heap.size ≤ q → A q := fun q h => by rw [← hAe]; exact Or.inr h
  clear hAe
  have hS : va_S A s.heap s.heap [] := va_S.rf
  have hl := lv_entry ([.ref h0, .int p0]) (n := 2) (Nat.le_of_ble_eq_true rfl)
  rw [lg_entry_eq]
  generalize (lg_sl ([.ref h0, .int p0]) ++ List.replicate (2 - (lg_sl ([.ref h0, .int p0])).length) Slot.unset).toArray = ls at hl ⊢
  replace hl : lv_has ls 2 [(0, .ref h0), (1, .int p0)] := hl
  refine my_st (fun H locs eH el => ?_)
  replace hP : va_P (dC, dI) vwCl [(h0, .inr (11, [.ref g0, .ref g1, .ref g2, .ref g3, .ref g4, .ref g5, .ref h1])), (h1, .inr (0, [.ref h3, .ref h2, .int 0, .int 0, .int 0])), (h2, .inl (cI, 32, .inl (fun _ => 0))), (h3, .inl (cI, 4096, .inl (fun _ => 0)))] H := by rw [eH]; exact hP
  replace hS : va_S A s.heap H locs := by rw [eH, el]; exact hS
  clear eH el
  refine lv_aload_n hx hb dX11_board_0 rfl (lv_at hl 0 rfl) ?_
  refine va_get (D := (dC, dI)) (ci := 11) (v := .ref h1) (C := RX11) (T := TX11) (N := 7) hx hb hts i_kX11_board_X11 hown hK hP 0 rfl rfl 6 (by decide) (hts (Cond.fieldLink RX11 78 "CompiledHouse" "board" "LCompiledHouse$Board;") (List.mem_cons_of_mem _ (List.mem_append_left _ (List.mem_of_getElem? (i := 0) rfl)))) (fun _ h9 => h9) rfl dX11_board_1 ?_
  refine lv_iload_n hx hb dX11_board_4 rfl (lv_at hl 1 rfl) ?_
  have hPc := hP.sub (ws' := [(h1, .inr (0, [.ref h3, .ref h2, .int 0, .int 0, .int 0])), (h2, .inl (cI, 32, .inl (fun _ => 0))), (h3, .inl (cI, 4096, .inl (fun _ => 0)))]) [1, 2, 3] rfl
  have hDc := hD.sub (ws' := [(h1, .inr (0, [.ref h3, .ref h2, .int 0, .int 0, .int 0])), (h2, .inl (cI, 32, .inl (fun _ => 0))), (h3, .inl (cI, 4096, .inl (fun _ => 0)))]) [1, 2, 3] (by decide) rfl
  have hFc := va_free (wc := [(h1, .inr (0, [.ref h3, .ref h2, .int 0, .int 0, .int 0])), (h2, .inl (cI, 32, .inl (fun _ => 0))), (h3, .inl (cI, 4096, .inl (fun _ => 0)))]) hD hS hA [1, 2, 3] rfl
  refine va_calli (va_runV (As := [.int p0]) (rest := []) ⟨hx, hb, hml, hown, hts⟩ (kX0_shown l dC dI cI cB cZ h1 h2 h3 H.size p0) (cwV 1 hts g_kX11_board_1 rfl rfl rfl (by decide +kernel) ⟨Nat.le_of_ble_eq_true rfl, Nat.le_of_ble_eq_true rfl⟩) ⟨fun a U g mk q => by obtain ⟨q0, q1, qP, qK, qD⟩ := q; exact ⟨q0, q1, qP, va_K.moved (u := U) (U := U.calling g mk a) (Vm.Alike.refl U.vm) qK, qD⟩, va_recv hK hPc (ci := 0) (q0 := 0) rfl rfl, fun U hU hW => ⟨rfl, by rw [hU], by rw [hU]; exact hPc, va_K.moved hW.alike hK, hDc.weaken (fun _ _ _ _ => trivial)⟩⟩ rfl rfl hl.1 rfl (lv_room (Nat.le_of_ble_eq_true rfl)) dX11_board_5 ⟨Nat.le_of_ble_eq_true rfl, Nat.le_of_ble_eq_true rfl⟩) hS (fun q _ h => hFc q h) hFc (fun r_2 u t H_1 locs ht hvm hw hB hz1 hk1 hS1 => ?_)
  obtain ⟨hP2, hD2⟩ := va_join (wr := [(h0, .inr (11, [.ref g0, .ref g1, .ref g2, .ref g3, .ref g4, .ref g5, .ref h1]))]) (w1 := []) hP hD [1, 2, 3] [0] rfl rfl (by decide) (by decide) hk1 hFc (fun _ _ h => by simp at h) ⟨fun _ _ _ _ h => by simp at h, fun _ _ h => by simp at h⟩
  clear hP hD hS hPc hDc hFc hk1 hz1 ht hvm
  have hP1 := hP2
  have hD1 := hD2
  clear hP2 hD2
  have hP : va_P (dC, dI) vwCl [(h0, .inr (11, [.ref g0, .ref g1, .ref g2, .ref g3, .ref g4, .ref g5, .ref h1]))] H_1 := hP1
  have hD : va_D A [(h0, .inr (11, [.ref g0, .ref g1, .ref g2, .ref g3, .ref g4, .ref g5, .ref h1]))] := hD1
  have hS := hS1
  clear hP1 hD1 hS1
  obtain rfl := hw
  exact W.iret (v := (sp_kX0_shown p0)) hx hb hr (fun t ht hW => ⟨⟨(sp_kX0_shown p0), (), rfl, rfl, trivial⟩, hS.F ht⟩) hS.2.2 dX11_board_8
