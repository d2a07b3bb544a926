/-- both sides at the head of the law's loop -/
def LINV (Fc : PF) (Gc : PG) (Fm : PF) (Gm : PG) : Prop := CI Fc Gc ∧ RI Fm Gm ∧ (Fc 88).toInt = (Fm 2).toInt ∧ 1024 ≤ xn Fc ∧ jTHr Fc Gc Fm Gm ∧ jU8 Fc Gc Fm Gm
def LST (s : State) (A : Nat → Prop) (v : EV) (ac : Nat → Nat) (bc : Nat) (am : Nat → Nat) (Fc : PF) (Gc : PG) (Fm : PF) (Gm : PG) (H : Heap) (locs : List Loc) (k n : Nat) : Prop := lCM s A v ac bc am Fc Gc Fm Gm H locs ∧ LINV Fc Gc Fm Gm ∧ k = 93 + (xn Fc - 1024) ∧ n = 456635 + 2 * (xn Fc - 1024)
theorem lw_in {i L : Nat} {j : Int32} {q : Nat} (hi : i + 6 ≤ L) (hL : L ≤ 3072) (hj : j.toInt = q) (hq : q < 6) : vp_in (nI i + j) L := by
  have e : (nI i).toInt = i := nI_toInt (by omega)
  have : (nI i + j).toInt = (nI i).toInt + j.toInt := i_addn _ rfl (by omega) (by omega)
  exact vp_in_iff.mpr ⟨by omega, by omega⟩

theorem law2_feed {p : Program} {l : Launch} {e : Env} {s : State} {m : MethodId} {below : List Frame} {meth : Method} {c : Code} {A : Nat → Prop} {v : EV} {ac am : Nat → Nat} {b L i fu : Nat} {xs : Nat → Int32} {Q : State → Prop} {ls : Array Slot} (hfu : 300000000000 ≤ fu) (C : lMC p room_1 s m #[Value.ref b] c A v RL cL_law 4 lw_tbl) (hX : va_X b L xs s s.heap) (hbl : b < s.heap.size) (hbA : ¬ A b) (hi : i + 6 ≤ L) (hL : L ≤ 3072) (hl : lv_has ls 4 [(3, .int (nI i)), (2, .ref (am 212)), (1, .ref (ac 211)), (0, .ref b)]) {bc k n : Nat} {Fc Fm : PF} {Gc Gm : PG} {H : Heap} {locs : List Loc} (h : LST s A v ac bc am Fc Gc Fm Gm H locs k n) (next : ∀ (bc k n : Nat) (Fc Fm : PF) (Gc Gm : PG) (H : Heap) (locs : List Loc), LST s A v ac bc am Fc Gc Fm Gm H locs k n → W p l e room_1 s m #[Value.ref b] below meth c H locs k n Q (F0 m 486 ls [])) : W p l e room_1 s m #[Value.ref b] below meth c H locs k n Q (F0 m 104 ls []) := by
  obtain ⟨hx, hb, hml, hown, hts, hA, hK, hXm, hXc⟩ := id C
  obtain ⟨hw, ⟨hI, hR, h88, hxn, hB, hU⟩, hk, hn⟩ := h
  have hb0 := hI.xx
  refine lv_aload_n hx hb dL_law_104 rfl (lv_at hl 2 rfl) ?_
  refine lv_aload_n hx hb dL_law_105 rfl (lv_at hl 3 rfl) ?_
  refine lv_iload_n hx hb dL_law_106 rfl (lv_at hl 0 rfl) ?_
  refine lv_iconst (v := 1) hx hb dL_law_107 (by decide) ?_
  refine lv_iadd hx hb dL_law_108 ?_
  refine va_sld hx hb hX hbl hbA hw.2.2 (lw_in (q := 1) hi hL rfl (by decide)) dL_law_109 ?_
  refine lv_aload_n hx hb dL_law_110 rfl (lv_at hl 3 rfl) ?_
  refine lv_iload_n hx hb dL_law_111 rfl (lv_at hl 0 rfl) ?_
  refine lv_iconst (v := 2) hx hb dL_law_112 (by decide) ?_
  refine lv_iadd hx hb dL_law_113 ?_
  refine va_sld hx hb hX hbl hbA hw.2.2 (lw_in (q := 2) hi hL rfl (by decide)) dL_law_114 ?_
  refine lv_aload_n hx hb dL_law_115 rfl (lv_at hl 3 rfl) ?_
  refine lv_iload_n hx hb dL_law_116 rfl (lv_at hl 0 rfl) ?_
  refine lv_iconst (v := 3) hx hb dL_law_117 (by decide) ?_
  refine lv_iadd hx hb dL_law_118 ?_
  refine va_sld hx hb hX hbl hbA hw.2.2 (lw_in (q := 3) hi hL rfl (by decide)) dL_law_119 ?_
  refine lv_aload_n hx hb dL_law_120 rfl (lv_at hl 3 rfl) ?_
  refine lv_iload_n hx hb dL_law_121 rfl (lv_at hl 0 rfl) ?_
  refine lv_iconst (v := 4) hx hb dL_law_122 (by decide) ?_
  refine lv_iadd hx hb dL_law_123 ?_
  refine va_sld hx hb hX hbl hbA hw.2.2 (lw_in (q := 4) hi hL rfl (by decide)) dL_law_124 ?_
  refine lv_aload_n hx hb dL_law_125 rfl (lv_at hl 3 rfl) ?_
  refine lv_iload_n hx hb dL_law_126 rfl (lv_at hl 0 rfl) ?_
  refine lv_iconst (v := 5) hx hb dL_law_127 (by decide) ?_
  refine lv_iadd hx hb dL_law_128 ?_
  refine va_sld hx hb hX hbl hbA hw.2.2 (lw_in (q := 5) hi hL rfl (by decide)) dL_law_129 ?_
  obtain ⟨r1, F1, G1, hm1, q1⟩ := cs_X11_feed (fu := fu) (by omega) (xs (nI i + 1).toNatClampNeg) (xs (nI i + 2).toNatClampNeg) (xs (nI i + 3).toNatClampNeg) (xs (nI i + 4).toNatClampNeg) (xs (nI i + 5).toNatClampNeg) Fc Gc hI
  have hI1 := q1.1
  have hx1 : xn Fc ≤ xn F1 := cn_X11_feed fu (xs (nI i + 1).toNatClampNeg) (xs (nI i + 2).toNatClampNeg) (xs (nI i + 3).toNatClampNeg) (xs (nI i + 4).toNatClampNeg) (xs (nI i + 5).toNatClampNeg) Fc Gc _ hm1
  have hb1 := hI1.xx
  refine lcallC (nn := 5) (As := [.int (xs (nI i + 1).toNatClampNeg), .int (xs (nI i + 2).toNatClampNeg), .int (xs (nI i + 3).toNatClampNeg), .int (xs (nI i + 4).toNatClampNeg), .int (xs (nI i + 5).toNatClampNeg)]) (rest := []) C hw (ck_X11_feed l v ac bc H.size fu (xs (nI i + 1).toNatClampNeg) (xs (nI i + 2).toNatClampNeg) (xs (nI i + 3).toNatClampNeg) (xs (nI i + 4).toNatClampNeg) (xs (nI i + 5).toNatClampNeg) Fc Gc r1 F1 G1 hm1) (va_recv hK (hw.1.sub (ws' := cW v ac bc Fc Gc) (List.range 45) rfl) (ci := 11) (q0 := 11) rfl rfl) gl_X11_feed ⟨by decide, by decide, by decide +kernel⟩ rfl (by decide) (by decide) (by show _ ≤ 600000; omega) (by show _ ≤ 7302249; omega) hl.1 rfl (by decide) dL_law_130 (fun b1 H1 locs1 hw1 => ?_)
  refine lv_pop hx hb dL_law_133 rfl ?_
  refine lv_aload_n hx hb dL_law_134 rfl (lv_at hl 1 rfl) ?_
  refine lv_aload_n hx hb dL_law_135 rfl (lv_at hl 3 rfl) ?_
  refine lv_iload_n hx hb dL_law_136 rfl (lv_at hl 0 rfl) ?_
  refine lv_iconst (v := 1) hx hb dL_law_137 (by decide) ?_
  refine lv_iadd hx hb dL_law_138 ?_
  refine va_sld hx hb hX hbl hbA hw1.2.2 (lw_in (q := 1) hi hL rfl (by decide)) dL_law_139 ?_
  refine lv_aload_n hx hb dL_law_140 rfl (lv_at hl 3 rfl) ?_
  refine lv_iload_n hx hb dL_law_141 rfl (lv_at hl 0 rfl) ?_
  refine lv_iconst (v := 2) hx hb dL_law_142 (by decide) ?_
  refine lv_iadd hx hb dL_law_143 ?_
  refine va_sld hx hb hX hbl hbA hw1.2.2 (lw_in (q := 2) hi hL rfl (by decide)) dL_law_144 ?_
  refine lv_aload_n hx hb dL_law_145 rfl (lv_at hl 3 rfl) ?_
  refine lv_iload_n hx hb dL_law_146 rfl (lv_at hl 0 rfl) ?_
  refine lv_iconst (v := 3) hx hb dL_law_147 (by decide) ?_
  refine lv_iadd hx hb dL_law_148 ?_
  refine va_sld hx hb hX hbl hbA hw1.2.2 (lw_in (q := 3) hi hL rfl (by decide)) dL_law_149 ?_
  refine lv_aload_n hx hb dL_law_150 rfl (lv_at hl 3 rfl) ?_
  refine lv_iload_n hx hb dL_law_151 rfl (lv_at hl 0 rfl) ?_
  refine lv_iconst (v := 4) hx hb dL_law_152 (by decide) ?_
  refine lv_iadd hx hb dL_law_153 ?_
  refine va_sld hx hb hX hbl hbA hw1.2.2 (lw_in (q := 4) hi hL rfl (by decide)) dL_law_154 ?_
  refine lv_aload_n hx hb dL_law_155 rfl (lv_at hl 3 rfl) ?_
  refine lv_iload_n hx hb dL_law_156 rfl (lv_at hl 0 rfl) ?_
  refine lv_iconst (v := 5) hx hb dL_law_157 (by decide) ?_
  refine lv_iadd hx hb dL_law_158 ?_
  refine va_sld hx hb hX hbl hbA hw1.2.2 (lw_in (q := 5) hi hL rfl (by decide)) dL_law_159 ?_
  obtain ⟨r2, F2, G2, hm2, q2⟩ := wq_feed (fu := fu) (by omega) (xs (nI i + 1).toNatClampNeg) (xs (nI i + 2).toNatClampNeg) (xs (nI i + 3).toNatClampNeg) (xs (nI i + 4).toNatClampNeg) (xs (nI i + 5).toNatClampNeg) hR
  have t2 : (F1 88).toInt = (F2 2).toInt ∧ r1 = r2 := by
    have a := q1.2.2.2
    have c := q2.2
    have e : r1.toInt = r2.toInt ∧ (F1 88).toInt = (F2 2).toInt := by omega
    exact ⟨e.2, i_eq.mpr e.1⟩
  refine lcallM (nn := 5) (As := [.int (xs (nI i + 1).toNatClampNeg), .int (xs (nI i + 2).toNatClampNeg), .int (xs (nI i + 3).toNatClampNeg), .int (xs (nI i + 4).toNatClampNeg), .int (xs (nI i + 5).toNatClampNeg)]) (rest := []) C hw1 (mk_feed l v am H1.size fu (xs (nI i + 1).toNatClampNeg) (xs (nI i + 2).toNatClampNeg) (xs (nI i + 3).toNatClampNeg) (xs (nI i + 4).toNatClampNeg) (xs (nI i + 5).toNatClampNeg) Fm Gm r2 F2 G2 hm2) (va_recv hK (hw1.1.sub (ws' := mW v am Fm Gm) (List.range 48) rfl) (ci := 12) (q0 := 0) rfl rfl) gl_X12_feed ⟨by decide, by decide, by decide +kernel⟩ rfl (by decide) (by decide) (by show _ ≤ 600000; omega) (by show _ ≤ 7302249; omega) hl.1 rfl (Nat.le_of_ble_eq_true rfl) dL_law_160 (fun H2 locs2 hw2 => ?_)
  refine lv_pop hx hb dL_law_163 rfl ?_
  refine lv_goto (tgt := 486) hx hb dL_law_164 (by decide) ?_
  exact next b1 _ _ F1 F2 G1 G2 H2 locs2 ⟨hw2, ⟨hI1, q2.1, t2.1, by omega, same_feedT hB hR.1.1 hm1 hm2, hU.keep ((cw_X11_feed (xs (nI i + 1).toNatClampNeg) (xs (nI i + 2).toNatClampNeg) (xs (nI i + 3).toNatClampNeg) (xs (nI i + 4).toNatClampNeg) (xs (nI i + 5).toNatClampNeg) Fc Gc _ _ _ hm1).sub rfl rfl) ((mw_feed (xs (nI i + 1).toNatClampNeg) (xs (nI i + 2).toNatClampNeg) (xs (nI i + 3).toNatClampNeg) (xs (nI i + 4).toNatClampNeg) (xs (nI i + 5).toNatClampNeg) Fm Gm _ _ _ hm2).sub rfl rfl)⟩, by omega, by omega⟩
theorem law2_end {p : Program} {l : Launch} {e : Env} {s : State} {m : MethodId} {below : List Frame} {meth : Method} {c : Code} {A : Nat → Prop} {v : EV} {ac am : Nat → Nat} {b L i fu : Nat} {xs : Nat → Int32} {Q : State → Prop} {ls : Array Slot} (hfu : 300000000000 ≤ fu) (C : lMC p room_1 s m #[Value.ref b] c A v RL cL_law 4 lw_tbl) (hX : va_X b L xs s s.heap) (hbl : b < s.heap.size) (hbA : ¬ A b) (hi : i + 6 ≤ L) (hL : L ≤ 3072) (hl : lv_has ls 4 [(3, .int (nI i)), (2, .ref (am 212)), (1, .ref (ac 211)), (0, .ref b)]) {bc k n : Nat} {Fc Fm : PF} {Gc Gm : PG} {H : Heap} {locs : List Loc} (h : LST s A v ac bc am Fc Gc Fm Gm H locs k n) (next : ∀ (bc k n : Nat) (Fc Fm : PF) (Gc Gm : PG) (H : Heap) (locs : List Loc), LST s A v ac bc am Fc Gc Fm Gm H locs k n → W p l e room_1 s m #[Value.ref b] below meth c H locs k n Q (F0 m 486 ls [])) : W p l e room_1 s m #[Value.ref b] below meth c H locs k n Q (F0 m 167 ls []) := by
  obtain ⟨hx, hb, hml, hown, hts, hA, hK, hXm, hXc⟩ := id C
  obtain ⟨hw, ⟨hI, hR, h88, hxn, hB, hU⟩, hk, hn⟩ := h
  have hb0 := hI.xx
  refine lv_aload_n hx hb dL_law_167 rfl (lv_at hl 2 rfl) ?_
  refine lv_aload_n hx hb dL_law_168 rfl (lv_at hl 3 rfl) ?_
  refine lv_iload_n hx hb dL_law_169 rfl (lv_at hl 0 rfl) ?_
  refine lv_iconst (v := 1) hx hb dL_law_170 (by decide) ?_
  refine lv_iadd hx hb dL_law_171 ?_
  refine va_sld hx hb hX hbl hbA hw.2.2 (lw_in (q := 1) hi hL rfl (by decide)) dL_law_172 ?_
  obtain ⟨r1, F1, G1, hm1, q1⟩ := cs_X11_end (fu := fu) (by omega) (xs (nI i + 1).toNatClampNeg) Fc Gc hI
  have hI1 := q1.1
  have hx1 : xn Fc ≤ xn F1 := cn_X11_end fu (xs (nI i + 1).toNatClampNeg) Fc Gc _ hm1
  have hb1 := hI1.xx
  refine lcallC (nn := 1) (As := [.int (xs (nI i + 1).toNatClampNeg)]) (rest := []) C hw (ck_X11_end l v ac bc H.size fu (xs (nI i + 1).toNatClampNeg) Fc Gc r1 F1 G1 hm1) (va_recv hK (hw.1.sub (ws' := cW v ac bc Fc Gc) (List.range 45) rfl) (ci := 11) (q0 := 11) rfl rfl) gl_X11_end ⟨by decide, by decide, by decide +kernel⟩ rfl (by decide) (by decide) (by show _ ≤ 600000; omega) (by show _ ≤ 7302249; omega) hl.1 rfl (by decide) dL_law_173 (fun b1 H1 locs1 hw1 => ?_)
  refine lv_pop hx hb dL_law_176 rfl ?_
  refine lv_aload_n hx hb dL_law_177 rfl (lv_at hl 1 rfl) ?_
  refine lv_aload_n hx hb dL_law_178 rfl (lv_at hl 3 rfl) ?_
  refine lv_iload_n hx hb dL_law_179 rfl (lv_at hl 0 rfl) ?_
  refine lv_iconst (v := 1) hx hb dL_law_180 (by decide) ?_
  refine lv_iadd hx hb dL_law_181 ?_
  refine va_sld hx hb hX hbl hbA hw1.2.2 (lw_in (q := 1) hi hL rfl (by decide)) dL_law_182 ?_
  obtain ⟨r2, F2, G2, hm2, q2⟩ := wq_end (fu := fu) (xs (nI i + 1).toNatClampNeg) hR
  have t2 : (F1 88).toInt = (F2 2).toInt ∧ r1 = r2 := by
    have a := q1.2.2.2
    have c := q2.2
    have e : r1.toInt = r2.toInt ∧ (F1 88).toInt = (F2 2).toInt := by omega
    exact ⟨e.2, i_eq.mpr e.1⟩
  refine lcallM (nn := 1) (As := [.int (xs (nI i + 1).toNatClampNeg)]) (rest := []) C hw1 (mk_end l v am H1.size fu (xs (nI i + 1).toNatClampNeg) Fm Gm r2 F2 G2 hm2) (va_recv hK (hw1.1.sub (ws' := mW v am Fm Gm) (List.range 48) rfl) (ci := 12) (q0 := 0) rfl rfl) gl_X12_end ⟨by decide, by decide, by decide +kernel⟩ rfl (by decide) (by decide) (by show _ ≤ 600000; omega) (by show _ ≤ 7302249; omega) hl.1 rfl (Nat.le_of_ble_eq_true rfl) dL_law_183 (fun H2 locs2 hw2 => ?_)
  refine lv_pop hx hb dL_law_186 rfl ?_
  refine lv_goto (tgt := 486) hx hb dL_law_187 (by decide) ?_
  exact next b1 _ _ F1 F2 G1 G2 H2 locs2 ⟨hw2, ⟨hI1, q2.1, t2.1, by omega, same_endT hB hm1 hm2, hU.keep ((cw_X11_end (xs (nI i + 1).toNatClampNeg) Fc Gc _ _ _ hm1).sub rfl rfl) ((mw_end (xs (nI i + 1).toNatClampNeg) Fm Gm _ _ _ hm2).sub rfl rfl)⟩, by omega, by omega⟩
theorem law2_read {p : Program} {l : Launch} {e : Env} {s : State} {m : MethodId} {below : List Frame} {meth : Method} {c : Code} {A : Nat → Prop} {v : EV} {ac am : Nat → Nat} {b L i fu : Nat} {xs : Nat → Int32} {Q : State → Prop} {ls : Array Slot} (hfu : 300000000000 ≤ fu) (C : lMC p room_1 s m #[Value.ref b] c A v RL cL_law 4 lw_tbl) (hX : va_X b L xs s s.heap) (hbl : b < s.heap.size) (hbA : ¬ A b) (hi : i + 6 ≤ L) (hL : L ≤ 3072) (hl : lv_has ls 4 [(3, .int (nI i)), (2, .ref (am 212)), (1, .ref (ac 211)), (0, .ref b)]) {bc k n : Nat} {Fc Fm : PF} {Gc Gm : PG} {H : Heap} {locs : List Loc} (h : LST s A v ac bc am Fc Gc Fm Gm H locs k n) (next : ∀ (bc k n : Nat) (Fc Fm : PF) (Gc Gm : PG) (H : Heap) (locs : List Loc), LST s A v ac bc am Fc Gc Fm Gm H locs k n → W p l e room_1 s m #[Value.ref b] below meth c H locs k n Q (F0 m 486 ls [])) : W p l e room_1 s m #[Value.ref b] below meth c H locs k n Q (F0 m 190 ls []) := by
  obtain ⟨hx, hb, hml, hown, hts, hA, hK, hXm, hXc⟩ := id C
  obtain ⟨hw, ⟨hI, hR, h88, hxn, hB, hU⟩, hk, hn⟩ := h
  have hb0 := hI.xx
  refine lv_aload_n hx hb dL_law_190 rfl (lv_at hl 2 rfl) ?_
  obtain ⟨r1, F1, G1, hm1, q1⟩ := cs_X11_read (fu := fu) (by omega) Fc Gc hI
  have hI1 := q1.1
  have t1 : (F1 88).toInt = 0 := q1.2.2
  have hx1 : xn Fc ≤ xn F1 := cn_X11_read fu Fc Gc _ hm1
  have hb1 := hI1.xx
  refine lcallC (nn := 0) (As := []) (rest := []) C hw (ck_X11_read l v ac bc H.size fu Fc Gc r1 F1 G1 hm1) (va_recv hK (hw.1.sub (ws' := cW v ac bc Fc Gc) (List.range 45) rfl) (ci := 11) (q0 := 11) rfl rfl) gl_X11_read ⟨by decide, by decide, by decide +kernel⟩ rfl (by decide) (by decide) (by show _ ≤ 600000; omega) (by show _ ≤ 7302249; omega) hl.1 rfl (by decide) dL_law_191 (fun b1 H1 locs1 hw1 => ?_)
  refine lv_pop hx hb dL_law_194 rfl ?_
  refine lv_aload_n hx hb dL_law_195 rfl (lv_at hl 1 rfl) ?_
  obtain ⟨r2, F2, G2, hm2, q2⟩ := wq_read (fu := fu) (by omega) hR
  have t2 : (F1 88).toInt = (F2 2).toInt := by rw [t1, q2.2]; rfl
  refine lcallM (nn := 0) (As := []) (rest := []) C hw1 (mk_read l v am H1.size fu Fm Gm r2 F2 G2 hm2) (va_recv hK (hw1.1.sub (ws' := mW v am Fm Gm) (List.range 48) rfl) (ci := 12) (q0 := 0) rfl rfl) gl_X12_read ⟨by decide, by decide, by decide +kernel⟩ rfl (by decide) (by decide) (by show _ ≤ 600000; omega) (by show _ ≤ 7302249; omega) hl.1 rfl (Nat.le_of_ble_eq_true rfl) dL_law_196 (fun H2 locs2 hw2 => ?_)
  refine lv_pop hx hb dL_law_199 rfl ?_
  refine lv_goto (tgt := 486) hx hb dL_law_200 (by decide) ?_
  exact next b1 _ _ F1 F2 G1 G2 H2 locs2 ⟨hw2, ⟨hI1, q2.1, t2, by omega, same_readT (by omega) hI hR.1 hB hm1 hm2 t1 q2.2, jU8.read (by omega) hR.1 hm1 hm2 (same_readT (by omega) hI hR.1 hB hm1 hm2 t1 q2.2).2⟩, by omega, by omega⟩
theorem law2_look {p : Program} {l : Launch} {e : Env} {s : State} {m : MethodId} {below : List Frame} {meth : Method} {c : Code} {A : Nat → Prop} {v : EV} {ac am : Nat → Nat} {b L i fu : Nat} {xs : Nat → Int32} {Q : State → Prop} {ls : Array Slot} (hfu : 300000000000 ≤ fu) (C : lMC p room_1 s m #[Value.ref b] c A v RL cL_law 4 lw_tbl) (hX : va_X b L xs s s.heap) (hbl : b < s.heap.size) (hbA : ¬ A b) (hi : i + 6 ≤ L) (hL : L ≤ 3072) (hl : lv_has ls 4 [(3, .int (nI i)), (2, .ref (am 212)), (1, .ref (ac 211)), (0, .ref b)]) {bc k n : Nat} {Fc Fm : PF} {Gc Gm : PG} {H : Heap} {locs : List Loc} (h : LST s A v ac bc am Fc Gc Fm Gm H locs k n) (next : ∀ (bc k n : Nat) (Fc Fm : PF) (Gc Gm : PG) (H : Heap) (locs : List Loc), LST s A v ac bc am Fc Gc Fm Gm H locs k n → W p l e room_1 s m #[Value.ref b] below meth c H locs k n Q (F0 m 486 ls [])) : W p l e room_1 s m #[Value.ref b] below meth c H locs k n Q (F0 m 203 ls []) := by
  obtain ⟨hx, hb, hml, hown, hts, hA, hK, hXm, hXc⟩ := id C
  obtain ⟨hw, ⟨hI, hR, h88, hxn, hB, hU⟩, hk, hn⟩ := h
  have hb0 := hI.xx
  refine lv_aload_n hx hb dL_law_203 rfl (lv_at hl 2 rfl) ?_
  refine lv_aload_n hx hb dL_law_204 rfl (lv_at hl 3 rfl) ?_
  refine lv_iload_n hx hb dL_law_205 rfl (lv_at hl 0 rfl) ?_
  refine lv_iconst (v := 1) hx hb dL_law_206 (by decide) ?_
  refine lv_iadd hx hb dL_law_207 ?_
  refine va_sld hx hb hX hbl hbA hw.2.2 (lw_in (q := 1) hi hL rfl (by decide)) dL_law_208 ?_
  refine lv_aload_n hx hb dL_law_209 rfl (lv_at hl 3 rfl) ?_
  refine lv_iload_n hx hb dL_law_210 rfl (lv_at hl 0 rfl) ?_
  refine lv_iconst (v := 2) hx hb dL_law_211 (by decide) ?_
  refine lv_iadd hx hb dL_law_212 ?_
  refine va_sld hx hb hX hbl hbA hw.2.2 (lw_in (q := 2) hi hL rfl (by decide)) dL_law_213 ?_
  obtain ⟨r1, F1, G1, hm1, q1⟩ := cs_X11_look (fu := fu) (by omega) (xs (nI i + 1).toNatClampNeg) (xs (nI i + 2).toNatClampNeg) Fc Gc hI
  obtain ⟨rfl, rfl, -⟩ := q1
  have hI1 := hI
  have t1 : (Fc 88).toInt = (Fm 2).toInt := h88
  have hx1 : xn Fc ≤ xn Fc := cn_X11_look fu (xs (nI i + 1).toNatClampNeg) (xs (nI i + 2).toNatClampNeg) Fc Gc _ hm1
  have hb1 := hI1.xx
  refine lcallC (nn := 2) (As := [.int (xs (nI i + 1).toNatClampNeg), .int (xs (nI i + 2).toNatClampNeg)]) (rest := []) C hw (ck_X11_look l v ac bc H.size fu (xs (nI i + 1).toNatClampNeg) (xs (nI i + 2).toNatClampNeg) Fc Gc r1 Fc Gc hm1) (va_recv hK (hw.1.sub (ws' := cW v ac bc Fc Gc) (List.range 45) rfl) (ci := 11) (q0 := 11) rfl rfl) gl_X11_look ⟨by decide, by decide, by decide +kernel⟩ rfl (by decide) (by decide) (by show _ ≤ 600000; omega) (by show _ ≤ 7302249; omega) hl.1 rfl (by decide) dL_law_214 (fun b1 H1 locs1 hw1 => ?_)
  refine lv_pop hx hb dL_law_217 rfl ?_
  refine lv_aload_n hx hb dL_law_218 rfl (lv_at hl 1 rfl) ?_
  refine lv_aload_n hx hb dL_law_219 rfl (lv_at hl 3 rfl) ?_
  refine lv_iload_n hx hb dL_law_220 rfl (lv_at hl 0 rfl) ?_
  refine lv_iconst (v := 1) hx hb dL_law_221 (by decide) ?_
  refine lv_iadd hx hb dL_law_222 ?_
  refine va_sld hx hb hX hbl hbA hw1.2.2 (lw_in (q := 1) hi hL rfl (by decide)) dL_law_223 ?_
  refine lv_aload_n hx hb dL_law_224 rfl (lv_at hl 3 rfl) ?_
  refine lv_iload_n hx hb dL_law_225 rfl (lv_at hl 0 rfl) ?_
  refine lv_iconst (v := 2) hx hb dL_law_226 (by decide) ?_
  refine lv_iadd hx hb dL_law_227 ?_
  refine va_sld hx hb hX hbl hbA hw1.2.2 (lw_in (q := 2) hi hL rfl (by decide)) dL_law_228 ?_
  obtain ⟨r2, F2, G2, hm2, q2⟩ := wq_look (fu := fu) (xs (nI i + 1).toNatClampNeg) (xs (nI i + 2).toNatClampNeg) hR
  have t2 : (Fc 88).toInt = (F2 2).toInt := by rw [q2.2]; exact t1
  refine lcallM (nn := 2) (As := [.int (xs (nI i + 1).toNatClampNeg), .int (xs (nI i + 2).toNatClampNeg)]) (rest := []) C hw1 (mk_look l v am H1.size fu (xs (nI i + 1).toNatClampNeg) (xs (nI i + 2).toNatClampNeg) Fm Gm r2 F2 G2 hm2) (va_recv hK (hw1.1.sub (ws' := mW v am Fm Gm) (List.range 48) rfl) (ci := 12) (q0 := 0) rfl rfl) gl_X12_look ⟨by decide, by decide, by decide +kernel⟩ rfl (by decide) (by decide) (by show _ ≤ 600000; omega) (by show _ ≤ 7302249; omega) hl.1 rfl (Nat.le_of_ble_eq_true rfl) dL_law_229 (fun H2 locs2 hw2 => ?_)
  refine lv_pop hx hb dL_law_232 rfl ?_
  refine lv_goto (tgt := 486) hx hb dL_law_233 (by decide) ?_
  exact next b1 _ _ Fc F2 Gc G2 H2 locs2 ⟨hw2, ⟨hI1, q2.1, t2, by omega, hB.keep (KX.rf : KX [] [] Fc Gc Fc Gc) (mw_look (xs (nI i + 1).toNatClampNeg) (xs (nI i + 2).toNatClampNeg) Fm Gm _ _ _ hm2) rfl rfl rfl, hU.keep (KX.rf : KX [2, 3, 4, 88] [0, 1, 87] Fc Gc Fc Gc) ((mw_look (xs (nI i + 1).toNatClampNeg) (xs (nI i + 2).toNatClampNeg) Fm Gm _ _ _ hm2).sub rfl rfl)⟩, by omega, by omega⟩
theorem law2_give {p : Program} {l : Launch} {e : Env} {s : State} {m : MethodId} {below : List Frame} {meth : Method} {c : Code} {A : Nat → Prop} {v : EV} {ac am : Nat → Nat} {b L i fu : Nat} {xs : Nat → Int32} {Q : State → Prop} {ls : Array Slot} (hfu : 300000000000 ≤ fu) (C : lMC p room_1 s m #[Value.ref b] c A v RL cL_law 4 lw_tbl) (hX : va_X b L xs s s.heap) (hbl : b < s.heap.size) (hbA : ¬ A b) (hi : i + 6 ≤ L) (hL : L ≤ 3072) (hl : lv_has ls 4 [(3, .int (nI i)), (2, .ref (am 212)), (1, .ref (ac 211)), (0, .ref b)]) {bc k n : Nat} {Fc Fm : PF} {Gc Gm : PG} {H : Heap} {locs : List Loc} (h : LST s A v ac bc am Fc Gc Fm Gm H locs k n) (next : ∀ (bc k n : Nat) (Fc Fm : PF) (Gc Gm : PG) (H : Heap) (locs : List Loc), LST s A v ac bc am Fc Gc Fm Gm H locs k n → W p l e room_1 s m #[Value.ref b] below meth c H locs k n Q (F0 m 486 ls [])) : W p l e room_1 s m #[Value.ref b] below meth c H locs k n Q (F0 m 236 ls []) := by
  obtain ⟨hx, hb, hml, hown, hts, hA, hK, hXm, hXc⟩ := id C
  obtain ⟨hw, ⟨hI, hR, h88, hxn, hB, hU⟩, hk, hn⟩ := h
  have hb0 := hI.xx
  refine lv_aload_n hx hb dL_law_236 rfl (lv_at hl 2 rfl) ?_
  refine lv_aload_n hx hb dL_law_237 rfl (lv_at hl 3 rfl) ?_
  refine lv_iload_n hx hb dL_law_238 rfl (lv_at hl 0 rfl) ?_
  refine lv_iconst (v := 1) hx hb dL_law_239 (by decide) ?_
  refine lv_iadd hx hb dL_law_240 ?_
  refine va_sld hx hb hX hbl hbA hw.2.2 (lw_in (q := 1) hi hL rfl (by decide)) dL_law_241 ?_
  obtain ⟨r1, F1, G1, hm1, q1⟩ := cs_X11_give (fu := fu) (by omega) (xs (nI i + 1).toNatClampNeg) Fc Gc hI
  have hI1 := q1.1
  have t1 : (F1 88).toInt = (Fm 2).toInt := by have := q1.2.2.1; unfold KT at this; rw [this]; exact h88
  have hx1 : xn Fc ≤ xn F1 := cn_X11_give fu (xs (nI i + 1).toNatClampNeg) Fc Gc _ hm1
  have hb1 := hI1.xx
  refine lcallC (nn := 1) (As := [.int (xs (nI i + 1).toNatClampNeg)]) (rest := []) C hw (ck_X11_give l v ac bc H.size fu (xs (nI i + 1).toNatClampNeg) Fc Gc r1 F1 G1 hm1) (va_recv hK (hw.1.sub (ws' := cW v ac bc Fc Gc) (List.range 45) rfl) (ci := 11) (q0 := 11) rfl rfl) gl_X11_give ⟨by decide, by decide, by decide +kernel⟩ rfl (by decide) (by decide) (by show _ ≤ 600000; omega) (by show _ ≤ 7302249; omega) hl.1 rfl (by decide) dL_law_242 (fun b1 H1 locs1 hw1 => ?_)
  refine lv_pop hx hb dL_law_245 rfl ?_
  refine lv_aload_n hx hb dL_law_246 rfl (lv_at hl 1 rfl) ?_
  refine lv_aload_n hx hb dL_law_247 rfl (lv_at hl 3 rfl) ?_
  refine lv_iload_n hx hb dL_law_248 rfl (lv_at hl 0 rfl) ?_
  refine lv_iconst (v := 1) hx hb dL_law_249 (by decide) ?_
  refine lv_iadd hx hb dL_law_250 ?_
  refine va_sld hx hb hX hbl hbA hw1.2.2 (lw_in (q := 1) hi hL rfl (by decide)) dL_law_251 ?_
  obtain ⟨r2, F2, G2, hm2, q2⟩ := wq_give (fu := fu) (xs (nI i + 1).toNatClampNeg) hR
  have t2 : (F1 88).toInt = (F2 2).toInt := by rw [q2.2]; exact t1
  refine lcallM (nn := 1) (As := [.int (xs (nI i + 1).toNatClampNeg)]) (rest := []) C hw1 (mk_give l v am H1.size fu (xs (nI i + 1).toNatClampNeg) Fm Gm r2 F2 G2 hm2) (va_recv hK (hw1.1.sub (ws' := mW v am Fm Gm) (List.range 48) rfl) (ci := 12) (q0 := 0) rfl rfl) gl_X12_give ⟨by decide, by decide, by decide +kernel⟩ rfl (by decide) (by decide) (by show _ ≤ 600000; omega) (by show _ ≤ 7302249; omega) hl.1 rfl (Nat.le_of_ble_eq_true rfl) dL_law_252 (fun H2 locs2 hw2 => ?_)
  refine lv_pop hx hb dL_law_255 rfl ?_
  refine lv_goto (tgt := 486) hx hb dL_law_256 (by decide) ?_
  exact next b1 _ _ F1 F2 G1 G2 H2 locs2 ⟨hw2, ⟨hI1, q2.1, t2, by omega, hB.keep (cw_X11_give (xs (nI i + 1).toNatClampNeg) Fc Gc _ _ _ hm1) (mw_give (xs (nI i + 1).toNatClampNeg) Fm Gm _ _ _ hm2) rfl rfl rfl, (same_give hB.e73.1 hU _ _ _ _ _ _ hm1 hm2).2⟩, by omega, by omega⟩
theorem law2_begin {p : Program} {l : Launch} {e : Env} {s : State} {m : MethodId} {below : List Frame} {meth : Method} {c : Code} {A : Nat → Prop} {v : EV} {ac am : Nat → Nat} {b L i fu : Nat} {xs : Nat → Int32} {Q : State → Prop} {ls : Array Slot} (hfu : 300000000000 ≤ fu) (C : lMC p room_1 s m #[Value.ref b] c A v RL cL_law 4 lw_tbl) (hX : va_X b L xs s s.heap) (hbl : b < s.heap.size) (hbA : ¬ A b) (hi : i + 6 ≤ L) (hL : L ≤ 3072) (hl : lv_has ls 4 [(3, .int (nI i)), (2, .ref (am 212)), (1, .ref (ac 211)), (0, .ref b)]) {bc k n : Nat} {Fc Fm : PF} {Gc Gm : PG} {H : Heap} {locs : List Loc} (h : LST s A v ac bc am Fc Gc Fm Gm H locs k n) (next : ∀ (bc k n : Nat) (Fc Fm : PF) (Gc Gm : PG) (H : Heap) (locs : List Loc), LST s A v ac bc am Fc Gc Fm Gm H locs k n → W p l e room_1 s m #[Value.ref b] below meth c H locs k n Q (F0 m 486 ls [])) : W p l e room_1 s m #[Value.ref b] below meth c H locs k n Q (F0 m 259 ls []) := by
  obtain ⟨hx, hb, hml, hown, hts, hA, hK, hXm, hXc⟩ := id C
  obtain ⟨hw, ⟨hI, hR, h88, hxn, hB, hU⟩, hk, hn⟩ := h
  have hb0 := hI.xx
  refine lv_aload_n hx hb dL_law_259 rfl (lv_at hl 2 rfl) ?_
  refine lv_aload_n hx hb dL_law_260 rfl (lv_at hl 3 rfl) ?_
  refine lv_iload_n hx hb dL_law_261 rfl (lv_at hl 0 rfl) ?_
  refine lv_iconst (v := 1) hx hb dL_law_262 (by decide) ?_
  refine lv_iadd hx hb dL_law_263 ?_
  refine va_sld hx hb hX hbl hbA hw.2.2 (lw_in (q := 1) hi hL rfl (by decide)) dL_law_264 ?_
  obtain ⟨r1, F1, G1, hm1, q1⟩ := cs_X11_begin (fu := fu) (by omega) (xs (nI i + 1).toNatClampNeg) Fc Gc hI
  have hI1 := q1.1
  have t1 : (F1 88).toInt = (Fm 2).toInt := by have := q1.2.2.1; unfold KT at this; rw [this]; exact h88
  have hx1 : xn Fc ≤ xn F1 := cn_X11_begin fu (xs (nI i + 1).toNatClampNeg) Fc Gc _ hm1
  have hb1 := hI1.xx
  refine lcallC (nn := 1) (As := [.int (xs (nI i + 1).toNatClampNeg)]) (rest := []) C hw (ck_X11_begin l v ac bc H.size fu (xs (nI i + 1).toNatClampNeg) Fc Gc r1 F1 G1 hm1) (va_recv hK (hw.1.sub (ws' := cW v ac bc Fc Gc) (List.range 45) rfl) (ci := 11) (q0 := 11) rfl rfl) gl_X11_begin ⟨by decide, by decide, by decide +kernel⟩ rfl (by decide) (by decide) (by show _ ≤ 600000; omega) (by show _ ≤ 7302249; omega) hl.1 rfl (by decide) dL_law_265 (fun b1 H1 locs1 hw1 => ?_)
  refine lv_pop hx hb dL_law_268 rfl ?_
  refine lv_aload_n hx hb dL_law_269 rfl (lv_at hl 1 rfl) ?_
  refine lv_aload_n hx hb dL_law_270 rfl (lv_at hl 3 rfl) ?_
  refine lv_iload_n hx hb dL_law_271 rfl (lv_at hl 0 rfl) ?_
  refine lv_iconst (v := 1) hx hb dL_law_272 (by decide) ?_
  refine lv_iadd hx hb dL_law_273 ?_
  refine va_sld hx hb hX hbl hbA hw1.2.2 (lw_in (q := 1) hi hL rfl (by decide)) dL_law_274 ?_
  obtain ⟨r2, F2, G2, hm2, q2⟩ := wq_begin (fu := fu) (by omega) (xs (nI i + 1).toNatClampNeg) hR
  have t2 : (F1 88).toInt = (F2 2).toInt := by rw [q2.2]; exact t1
  refine lcallM (nn := 1) (As := [.int (xs (nI i + 1).toNatClampNeg)]) (rest := []) C hw1 (mk_begin l v am H1.size fu (xs (nI i + 1).toNatClampNeg) Fm Gm r2 F2 G2 hm2) (va_recv hK (hw1.1.sub (ws' := mW v am Fm Gm) (List.range 48) rfl) (ci := 12) (q0 := 0) rfl rfl) gl_X12_begin ⟨by decide, by decide, by decide +kernel⟩ rfl (by decide) (by decide) (by show _ ≤ 600000; omega) (by show _ ≤ 7302249; omega) hl.1 rfl (Nat.le_of_ble_eq_true rfl) dL_law_275 (fun H2 locs2 hw2 => ?_)
  refine lv_pop hx hb dL_law_278 rfl ?_
  refine lv_goto (tgt := 486) hx hb dL_law_279 (by decide) ?_
  exact next b1 _ _ F1 F2 G1 G2 H2 locs2 ⟨hw2, ⟨hI1, q2.1, t2, by omega, hB.keep (cw_X11_begin (xs (nI i + 1).toNatClampNeg) Fc Gc _ _ _ hm1) (mw_begin (xs (nI i + 1).toNatClampNeg) Fm Gm _ _ _ hm2) rfl rfl rfl, same_beginU hB.e73.1 hB.e73.2 hU _ _ _ _ _ _ hm1 hm2⟩, by omega, by omega⟩
theorem law2_run {p : Program} {l : Launch} {e : Env} {s : State} {m : MethodId} {below : List Frame} {meth : Method} {c : Code} {A : Nat → Prop} {v : EV} {ac am : Nat → Nat} {b L i fu : Nat} {xs : Nat → Int32} {Q : State → Prop} {ls : Array Slot} (hfu : 300000000000 ≤ fu) (C : lMC p room_1 s m #[Value.ref b] c A v RL cL_law 4 lw_tbl) (hX : va_X b L xs s s.heap) (hbl : b < s.heap.size) (hbA : ¬ A b) (hi : i + 6 ≤ L) (hL : L ≤ 3072) (hl : lv_has ls 4 [(3, .int (nI i)), (2, .ref (am 212)), (1, .ref (ac 211)), (0, .ref b)]) {bc k n : Nat} {Fc Fm : PF} {Gc Gm : PG} {H : Heap} {locs : List Loc} (h : LST s A v ac bc am Fc Gc Fm Gm H locs k n) (next : ∀ (bc k n : Nat) (Fc Fm : PF) (Gc Gm : PG) (H : Heap) (locs : List Loc), LST s A v ac bc am Fc Gc Fm Gm H locs k n → W p l e room_1 s m #[Value.ref b] below meth c H locs k n Q (F0 m 486 ls [])) : W p l e room_1 s m #[Value.ref b] below meth c H locs k n Q (F0 m 282 ls []) := by
  obtain ⟨hx, hb, hml, hown, hts, hA, hK, hXm, hXc⟩ := id C
  obtain ⟨hw, ⟨hI, hR, h88, hxn, hB, hU⟩, hk, hn⟩ := h
  have hb0 := hI.xx
  refine lv_aload_n hx hb dL_law_282 rfl (lv_at hl 2 rfl) ?_
  refine lv_aload_n hx hb dL_law_283 rfl (lv_at hl 3 rfl) ?_
  refine lv_iload_n hx hb dL_law_284 rfl (lv_at hl 0 rfl) ?_
  refine lv_iconst (v := 1) hx hb dL_law_285 (by decide) ?_
  refine lv_iadd hx hb dL_law_286 ?_
  refine va_sld hx hb hX hbl hbA hw.2.2 (lw_in (q := 1) hi hL rfl (by decide)) dL_law_287 ?_
  obtain ⟨r1, F1, G1, hm1, q1⟩ := cs_X11_run (fu := fu) (by omega) (xs (nI i + 1).toNatClampNeg) Fc Gc hI
  have hI1 := q1.1
  have t1 : (F1 88).toInt = (Fm 2).toInt := by have := q1.2.2.1; unfold KT at this; rw [this]; exact h88
  have hx1 : xn Fc ≤ xn F1 := cn_X11_run fu (xs (nI i + 1).toNatClampNeg) Fc Gc _ hm1
  have hb1 := hI1.xx
  refine lcallC (nn := 1) (As := [.int (xs (nI i + 1).toNatClampNeg)]) (rest := []) C hw (ck_X11_run l v ac bc H.size fu (xs (nI i + 1).toNatClampNeg) Fc Gc r1 F1 G1 hm1) (va_recv hK (hw.1.sub (ws' := cW v ac bc Fc Gc) (List.range 45) rfl) (ci := 11) (q0 := 11) rfl rfl) gl_X11_run ⟨by decide, by decide, by decide +kernel⟩ rfl (by decide) (by decide) (by show _ ≤ 600000; omega) (by show _ ≤ 7302249; omega) hl.1 rfl (by decide) dL_law_288 (fun b1 H1 locs1 hw1 => ?_)
  refine lv_pop hx hb dL_law_291 rfl ?_
  refine lv_aload_n hx hb dL_law_292 rfl (lv_at hl 1 rfl) ?_
  refine lv_aload_n hx hb dL_law_293 rfl (lv_at hl 3 rfl) ?_
  refine lv_iload_n hx hb dL_law_294 rfl (lv_at hl 0 rfl) ?_
  refine lv_iconst (v := 1) hx hb dL_law_295 (by decide) ?_
  refine lv_iadd hx hb dL_law_296 ?_
  refine va_sld hx hb hX hbl hbA hw1.2.2 (lw_in (q := 1) hi hL rfl (by decide)) dL_law_297 ?_
  obtain ⟨r2, F2, G2, hm2, q2⟩ := wq_run (fu := fu) hfu (xs (nI i + 1).toNatClampNeg) hR
  have t2 : (F1 88).toInt = (F2 2).toInt := by rw [q2.2]; exact t1
  refine lcallM (nn := 1) (As := [.int (xs (nI i + 1).toNatClampNeg)]) (rest := []) C hw1 (mk_run l v am H1.size fu (xs (nI i + 1).toNatClampNeg) Fm Gm r2 F2 G2 hm2) (va_recv hK (hw1.1.sub (ws' := mW v am Fm Gm) (List.range 48) rfl) (ci := 12) (q0 := 0) rfl rfl) gl_X12_run ⟨by decide, by decide, by decide +kernel⟩ rfl (by decide) (by decide) (by show _ ≤ 600000; omega) (by show _ ≤ 7302249; omega) hl.1 rfl (Nat.le_of_ble_eq_true rfl) dL_law_298 (fun H2 locs2 hw2 => ?_)
  refine lv_pop hx hb dL_law_301 rfl ?_
  refine lv_goto (tgt := 486) hx hb dL_law_302 (by decide) ?_
  exact next b1 _ _ F1 F2 G1 G2 H2 locs2 ⟨hw2, ⟨hI1, q2.1, t2, by omega, hB.keep (cw_X11_run (xs (nI i + 1).toNatClampNeg) Fc Gc _ _ _ hm1) (mw_run (xs (nI i + 1).toNatClampNeg) Fm Gm _ _ _ hm2) rfl rfl rfl, (hU.run (by omega) hI hR hm1 hm2).2⟩, by omega, by omega⟩
theorem law2_output {p : Program} {l : Launch} {e : Env} {s : State} {m : MethodId} {below : List Frame} {meth : Method} {c : Code} {A : Nat → Prop} {v : EV} {ac am : Nat → Nat} {b L i fu : Nat} {xs : Nat → Int32} {Q : State → Prop} {ls : Array Slot} (hfu : 300000000000 ≤ fu) (C : lMC p room_1 s m #[Value.ref b] c A v RL cL_law 4 lw_tbl) (hX : va_X b L xs s s.heap) (hbl : b < s.heap.size) (hbA : ¬ A b) (hi : i + 6 ≤ L) (hL : L ≤ 3072) (hl : lv_has ls 4 [(3, .int (nI i)), (2, .ref (am 212)), (1, .ref (ac 211)), (0, .ref b)]) {bc k n : Nat} {Fc Fm : PF} {Gc Gm : PG} {H : Heap} {locs : List Loc} (h : LST s A v ac bc am Fc Gc Fm Gm H locs k n) (next : ∀ (bc k n : Nat) (Fc Fm : PF) (Gc Gm : PG) (H : Heap) (locs : List Loc), LST s A v ac bc am Fc Gc Fm Gm H locs k n → W p l e room_1 s m #[Value.ref b] below meth c H locs k n Q (F0 m 486 ls [])) : W p l e room_1 s m #[Value.ref b] below meth c H locs k n Q (F0 m 305 ls []) := by
  obtain ⟨hx, hb, hml, hown, hts, hA, hK, hXm, hXc⟩ := id C
  obtain ⟨hw, ⟨hI, hR, h88, hxn, hB, hU⟩, hk, hn⟩ := h
  have hb0 := hI.xx
  refine lv_aload_n hx hb dL_law_305 rfl (lv_at hl 2 rfl) ?_
  refine lv_aload_n hx hb dL_law_306 rfl (lv_at hl 3 rfl) ?_
  refine lv_iload_n hx hb dL_law_307 rfl (lv_at hl 0 rfl) ?_
  refine lv_iconst (v := 1) hx hb dL_law_308 (by decide) ?_
  refine lv_iadd hx hb dL_law_309 ?_
  refine va_sld hx hb hX hbl hbA hw.2.2 (lw_in (q := 1) hi hL rfl (by decide)) dL_law_310 ?_
  obtain ⟨r1, F1, G1, hm1, q1⟩ := cs_X11_output (fu := fu) (by omega) (xs (nI i + 1).toNatClampNeg) Fc Gc hI
  obtain ⟨rfl, rfl, -⟩ := q1
  have hI1 := hI
  have t1 : (Fc 88).toInt = (Fm 2).toInt := h88
  have hx1 : xn Fc ≤ xn Fc := cn_X11_output fu (xs (nI i + 1).toNatClampNeg) Fc Gc _ hm1
  have hb1 := hI1.xx
  refine lcallC (nn := 1) (As := [.int (xs (nI i + 1).toNatClampNeg)]) (rest := []) C hw (ck_X11_output l v ac bc H.size fu (xs (nI i + 1).toNatClampNeg) Fc Gc r1 Fc Gc hm1) (va_recv hK (hw.1.sub (ws' := cW v ac bc Fc Gc) (List.range 45) rfl) (ci := 11) (q0 := 11) rfl rfl) gl_X11_output ⟨by decide, by decide, by decide +kernel⟩ rfl (by decide) (by decide) (by show _ ≤ 600000; omega) (by show _ ≤ 7302249; omega) hl.1 rfl (by decide) dL_law_311 (fun b1 H1 locs1 hw1 => ?_)
  refine lv_aload_n hx hb dL_law_314 rfl (lv_at hl 1 rfl) ?_
  refine lv_aload_n hx hb dL_law_315 rfl (lv_at hl 3 rfl) ?_
  refine lv_iload_n hx hb dL_law_316 rfl (lv_at hl 0 rfl) ?_
  refine lv_iconst (v := 1) hx hb dL_law_317 (by decide) ?_
  refine lv_iadd hx hb dL_law_318 ?_
  refine va_sld hx hb hX hbl hbA hw1.2.2 (lw_in (q := 1) hi hL rfl (by decide)) dL_law_319 ?_
  obtain ⟨r2, F2, G2, hm2, q2⟩ := wq_output (fu := fu) (xs (nI i + 1).toNatClampNeg) hR
  have t2 : (Fc 88).toInt = (F2 2).toInt := by rw [q2.2]; exact t1
  refine lcallM (nn := 1) (As := [.int (xs (nI i + 1).toNatClampNeg)]) (rest := [.int r1]) C hw1 (mk_output l v am H1.size fu (xs (nI i + 1).toNatClampNeg) Fm Gm r2 F2 G2 hm2) (va_recv hK (hw1.1.sub (ws' := mW v am Fm Gm) (List.range 48) rfl) (ci := 12) (q0 := 0) rfl rfl) gl_X12_output ⟨by decide, by decide, by decide +kernel⟩ rfl (by decide) (by decide) (by show _ ≤ 600000; omega) (by show _ ≤ 7302249; omega) hl.1 rfl (Nat.le_of_ble_eq_true rfl) dL_law_320 (fun H2 locs2 hw2 => ?_)
  have e12 : r1 = r2 := same_output hU _ _ _ _ _ _ hm1 hm2
  refine lv_icmp_eq (tgt := 486) hx hb dL_law_323 (by decide) (fun _ => ?_) (fun c_0 => absurd e12 c_0)
  exact next b1 _ _ Fc F2 Gc G2 H2 locs2 ⟨hw2, ⟨hI1, q2.1, t2, by omega, hB.keep (KX.rf : KX [] [] Fc Gc Fc Gc) (mw_output (xs (nI i + 1).toNatClampNeg) Fm Gm _ _ _ hm2) rfl rfl rfl, hU.keep (KX.rf : KX [2, 3, 4, 88] [0, 1, 87] Fc Gc Fc Gc) ((mw_output (xs (nI i + 1).toNatClampNeg) Fm Gm _ _ _ hm2).sub rfl rfl)⟩, by omega, by omega⟩
theorem law2_world {p : Program} {l : Launch} {e : Env} {s : State} {m : MethodId} {below : List Frame} {meth : Method} {c : Code} {A : Nat → Prop} {v : EV} {ac am : Nat → Nat} {b L i fu : Nat} {xs : Nat → Int32} {Q : State → Prop} {ls : Array Slot} (hfu : 300000000000 ≤ fu) (C : lMC p room_1 s m #[Value.ref b] c A v RL cL_law 4 lw_tbl) (hX : va_X b L xs s s.heap) (hbl : b < s.heap.size) (hbA : ¬ A b) (hi : i + 6 ≤ L) (hL : L ≤ 3072) (hl : lv_has ls 4 [(3, .int (nI i)), (2, .ref (am 212)), (1, .ref (ac 211)), (0, .ref b)]) {bc k n : Nat} {Fc Fm : PF} {Gc Gm : PG} {H : Heap} {locs : List Loc} (h : LST s A v ac bc am Fc Gc Fm Gm H locs k n) (next : ∀ (bc k n : Nat) (Fc Fm : PF) (Gc Gm : PG) (H : Heap) (locs : List Loc), LST s A v ac bc am Fc Gc Fm Gm H locs k n → W p l e room_1 s m #[Value.ref b] below meth c H locs k n Q (F0 m 486 ls [])) : W p l e room_1 s m #[Value.ref b] below meth c H locs k n Q (F0 m 328 ls []) := by
  obtain ⟨hx, hb, hml, hown, hts, hA, hK, hXm, hXc⟩ := id C
  obtain ⟨hw, ⟨hI, hR, h88, hxn, hB, hU⟩, hk, hn⟩ := h
  have hb0 := hI.xx
  refine lv_aload_n hx hb dL_law_328 rfl (lv_at hl 2 rfl) ?_
  refine lv_aload_n hx hb dL_law_329 rfl (lv_at hl 3 rfl) ?_
  refine lv_iload_n hx hb dL_law_330 rfl (lv_at hl 0 rfl) ?_
  refine lv_iconst (v := 1) hx hb dL_law_331 (by decide) ?_
  refine lv_iadd hx hb dL_law_332 ?_
  refine va_sld hx hb hX hbl hbA hw.2.2 (lw_in (q := 1) hi hL rfl (by decide)) dL_law_333 ?_
  obtain ⟨r1, F1, G1, hm1, q1⟩ := cs_X11_world (fu := fu) (by omega) (xs (nI i + 1).toNatClampNeg) Fc Gc hI
  obtain ⟨rfl, rfl, -⟩ := q1
  have hI1 := hI
  have t1 : (Fc 88).toInt = (Fm 2).toInt := h88
  have hx1 : xn Fc ≤ xn Fc := cn_X11_world fu (xs (nI i + 1).toNatClampNeg) Fc Gc _ hm1
  have hb1 := hI1.xx
  refine lcallC (nn := 1) (As := [.int (xs (nI i + 1).toNatClampNeg)]) (rest := []) C hw (ck_X11_world l v ac bc H.size fu (xs (nI i + 1).toNatClampNeg) Fc Gc r1 Fc Gc hm1) (va_recv hK (hw.1.sub (ws' := cW v ac bc Fc Gc) (List.range 45) rfl) (ci := 11) (q0 := 11) rfl rfl) gl_X11_world ⟨by decide, by decide, by decide +kernel⟩ rfl (by decide) (by decide) (by show _ ≤ 600000; omega) (by show _ ≤ 7302249; omega) hl.1 rfl (by decide) dL_law_334 (fun b1 H1 locs1 hw1 => ?_)
  refine lv_pop hx hb dL_law_337 rfl ?_
  refine lv_aload_n hx hb dL_law_338 rfl (lv_at hl 1 rfl) ?_
  refine lv_aload_n hx hb dL_law_339 rfl (lv_at hl 3 rfl) ?_
  refine lv_iload_n hx hb dL_law_340 rfl (lv_at hl 0 rfl) ?_
  refine lv_iconst (v := 1) hx hb dL_law_341 (by decide) ?_
  refine lv_iadd hx hb dL_law_342 ?_
  refine va_sld hx hb hX hbl hbA hw1.2.2 (lw_in (q := 1) hi hL rfl (by decide)) dL_law_343 ?_
  obtain ⟨r2, F2, G2, hm2, q2⟩ := wq_world (fu := fu) (xs (nI i + 1).toNatClampNeg) hR
  have t2 : (Fc 88).toInt = (F2 2).toInt := by rw [q2.2]; exact t1
  refine lcallM (nn := 1) (As := [.int (xs (nI i + 1).toNatClampNeg)]) (rest := []) C hw1 (mk_world l v am H1.size fu (xs (nI i + 1).toNatClampNeg) Fm Gm r2 F2 G2 hm2) (va_recv hK (hw1.1.sub (ws' := mW v am Fm Gm) (List.range 48) rfl) (ci := 12) (q0 := 0) rfl rfl) gl_X12_world ⟨by decide, by decide, by decide +kernel⟩ rfl (by decide) (by decide) (by show _ ≤ 600000; omega) (by show _ ≤ 7302249; omega) hl.1 rfl (Nat.le_of_ble_eq_true rfl) dL_law_344 (fun H2 locs2 hw2 => ?_)
  refine lv_pop hx hb dL_law_347 rfl ?_
  refine lv_goto (tgt := 486) hx hb dL_law_348 (by decide) ?_
  exact next b1 _ _ Fc F2 Gc G2 H2 locs2 ⟨hw2, ⟨hI1, q2.1, t2, by omega, hB.keep (KX.rf : KX [] [] Fc Gc Fc Gc) (mw_world (xs (nI i + 1).toNatClampNeg) Fm Gm _ _ _ hm2) rfl rfl rfl, hU.keep (KX.rf : KX [2, 3, 4, 88] [0, 1, 87] Fc Gc Fc Gc) ((mw_world (xs (nI i + 1).toNatClampNeg) Fm Gm _ _ _ hm2).sub rfl rfl)⟩, by omega, by omega⟩
theorem law2_global {p : Program} {l : Launch} {e : Env} {s : State} {m : MethodId} {below : List Frame} {meth : Method} {c : Code} {A : Nat → Prop} {v : EV} {ac am : Nat → Nat} {b L i fu : Nat} {xs : Nat → Int32} {Q : State → Prop} {ls : Array Slot} (hfu : 300000000000 ≤ fu) (C : lMC p room_1 s m #[Value.ref b] c A v RL cL_law 4 lw_tbl) (hX : va_X b L xs s s.heap) (hbl : b < s.heap.size) (hbA : ¬ A b) (hi : i + 6 ≤ L) (hL : L ≤ 3072) (hl : lv_has ls 4 [(3, .int (nI i)), (2, .ref (am 212)), (1, .ref (ac 211)), (0, .ref b)]) {bc k n : Nat} {Fc Fm : PF} {Gc Gm : PG} {H : Heap} {locs : List Loc} (h : LST s A v ac bc am Fc Gc Fm Gm H locs k n) (next : ∀ (bc k n : Nat) (Fc Fm : PF) (Gc Gm : PG) (H : Heap) (locs : List Loc), LST s A v ac bc am Fc Gc Fm Gm H locs k n → W p l e room_1 s m #[Value.ref b] below meth c H locs k n Q (F0 m 486 ls [])) : W p l e room_1 s m #[Value.ref b] below meth c H locs k n Q (F0 m 351 ls []) := by
  obtain ⟨hx, hb, hml, hown, hts, hA, hK, hXm, hXc⟩ := id C
  obtain ⟨hw, ⟨hI, hR, h88, hxn, hB, hU⟩, hk, hn⟩ := h
  have hb0 := hI.xx
  refine lv_aload_n hx hb dL_law_351 rfl (lv_at hl 2 rfl) ?_
  refine lv_aload_n hx hb dL_law_352 rfl (lv_at hl 3 rfl) ?_
  refine lv_iload_n hx hb dL_law_353 rfl (lv_at hl 0 rfl) ?_
  refine lv_iconst (v := 1) hx hb dL_law_354 (by decide) ?_
  refine lv_iadd hx hb dL_law_355 ?_
  refine va_sld hx hb hX hbl hbA hw.2.2 (lw_in (q := 1) hi hL rfl (by decide)) dL_law_356 ?_
  obtain ⟨r1, F1, G1, hm1, q1⟩ := cs_X11_global (fu := fu) (by omega) (xs (nI i + 1).toNatClampNeg) Fc Gc hI
  obtain ⟨rfl, rfl, -⟩ := q1
  have hI1 := hI
  have t1 : (Fc 88).toInt = (Fm 2).toInt := h88
  have hx1 : xn Fc ≤ xn Fc := cn_X11_global fu (xs (nI i + 1).toNatClampNeg) Fc Gc _ hm1
  have hb1 := hI1.xx
  refine lcallC (nn := 1) (As := [.int (xs (nI i + 1).toNatClampNeg)]) (rest := []) C hw (ck_X11_global l v ac bc H.size fu (xs (nI i + 1).toNatClampNeg) Fc Gc r1 Fc Gc hm1) (va_recv hK (hw.1.sub (ws' := cW v ac bc Fc Gc) (List.range 45) rfl) (ci := 11) (q0 := 11) rfl rfl) gl_X11_global ⟨by decide, by decide, by decide +kernel⟩ rfl (by decide) (by decide) (by show _ ≤ 600000; omega) (by show _ ≤ 7302249; omega) hl.1 rfl (by decide) dL_law_357 (fun b1 H1 locs1 hw1 => ?_)
  refine lv_pop hx hb dL_law_360 rfl ?_
  refine lv_aload_n hx hb dL_law_361 rfl (lv_at hl 1 rfl) ?_
  refine lv_aload_n hx hb dL_law_362 rfl (lv_at hl 3 rfl) ?_
  refine lv_iload_n hx hb dL_law_363 rfl (lv_at hl 0 rfl) ?_
  refine lv_iconst (v := 1) hx hb dL_law_364 (by decide) ?_
  refine lv_iadd hx hb dL_law_365 ?_
  refine va_sld hx hb hX hbl hbA hw1.2.2 (lw_in (q := 1) hi hL rfl (by decide)) dL_law_366 ?_
  obtain ⟨r2, F2, G2, hm2, q2⟩ := wq_global (fu := fu) (by omega) (xs (nI i + 1).toNatClampNeg) hR
  have t2 : (Fc 88).toInt = (F2 2).toInt := by rw [q2.2]; exact t1
  refine lcallM (nn := 1) (As := [.int (xs (nI i + 1).toNatClampNeg)]) (rest := []) C hw1 (mk_global l v am H1.size fu (xs (nI i + 1).toNatClampNeg) Fm Gm r2 F2 G2 hm2) (va_recv hK (hw1.1.sub (ws' := mW v am Fm Gm) (List.range 48) rfl) (ci := 12) (q0 := 0) rfl rfl) gl_X12_global ⟨by decide, by decide, by decide +kernel⟩ rfl (by decide) (by decide) (by show _ ≤ 600000; omega) (by show _ ≤ 7302249; omega) hl.1 rfl (Nat.le_of_ble_eq_true rfl) dL_law_367 (fun H2 locs2 hw2 => ?_)
  refine lv_pop hx hb dL_law_370 rfl ?_
  refine lv_goto (tgt := 486) hx hb dL_law_371 (by decide) ?_
  exact next b1 _ _ Fc F2 Gc G2 H2 locs2 ⟨hw2, ⟨hI1, q2.1, t2, by omega, hB.keep (KX.rf : KX [] [] Fc Gc Fc Gc) (mw_global (xs (nI i + 1).toNatClampNeg) Fm Gm _ _ _ hm2) rfl rfl rfl, hU.keep (KX.rf : KX [2, 3, 4, 88] [0, 1, 87] Fc Gc Fc Gc) ((mw_global (xs (nI i + 1).toNatClampNeg) Fm Gm _ _ _ hm2).sub rfl rfl)⟩, by omega, by omega⟩
theorem law2_put {p : Program} {l : Launch} {e : Env} {s : State} {m : MethodId} {below : List Frame} {meth : Method} {c : Code} {A : Nat → Prop} {v : EV} {ac am : Nat → Nat} {b L i fu : Nat} {xs : Nat → Int32} {Q : State → Prop} {ls : Array Slot} (hfu : 300000000000 ≤ fu) (C : lMC p room_1 s m #[Value.ref b] c A v RL cL_law 4 lw_tbl) (hX : va_X b L xs s s.heap) (hbl : b < s.heap.size) (hbA : ¬ A b) (hi : i + 6 ≤ L) (hL : L ≤ 3072) (hl : lv_has ls 4 [(3, .int (nI i)), (2, .ref (am 212)), (1, .ref (ac 211)), (0, .ref b)]) {bc k n : Nat} {Fc Fm : PF} {Gc Gm : PG} {H : Heap} {locs : List Loc} (h : LST s A v ac bc am Fc Gc Fm Gm H locs k n) (next : ∀ (bc k n : Nat) (Fc Fm : PF) (Gc Gm : PG) (H : Heap) (locs : List Loc), LST s A v ac bc am Fc Gc Fm Gm H locs k n → W p l e room_1 s m #[Value.ref b] below meth c H locs k n Q (F0 m 486 ls [])) : W p l e room_1 s m #[Value.ref b] below meth c H locs k n Q (F0 m 374 ls []) := by
  obtain ⟨hx, hb, hml, hown, hts, hA, hK, hXm, hXc⟩ := id C
  obtain ⟨hw, ⟨hI, hR, h88, hxn, hB, hU⟩, hk, hn⟩ := h
  have hb0 := hI.xx
  refine lv_aload_n hx hb dL_law_374 rfl (lv_at hl 2 rfl) ?_
  refine lv_aload_n hx hb dL_law_375 rfl (lv_at hl 3 rfl) ?_
  refine lv_iload_n hx hb dL_law_376 rfl (lv_at hl 0 rfl) ?_
  refine lv_iconst (v := 1) hx hb dL_law_377 (by decide) ?_
  refine lv_iadd hx hb dL_law_378 ?_
  refine va_sld hx hb hX hbl hbA hw.2.2 (lw_in (q := 1) hi hL rfl (by decide)) dL_law_379 ?_
  refine lv_aload_n hx hb dL_law_380 rfl (lv_at hl 3 rfl) ?_
  refine lv_iload_n hx hb dL_law_381 rfl (lv_at hl 0 rfl) ?_
  refine lv_iconst (v := 2) hx hb dL_law_382 (by decide) ?_
  refine lv_iadd hx hb dL_law_383 ?_
  refine va_sld hx hb hX hbl hbA hw.2.2 (lw_in (q := 2) hi hL rfl (by decide)) dL_law_384 ?_
  obtain ⟨r1, F1, G1, hm1, q1⟩ := cs_X11_put (fu := fu) (by omega) (xs (nI i + 1).toNatClampNeg) (xs (nI i + 2).toNatClampNeg) Fc Gc hI
  have hI1 := q1.1
  have t1 : (F1 88).toInt = (Fm 2).toInt := by have := q1.2.1; unfold KT at this; rw [this]; exact h88
  have hx1 : xn Fc ≤ xn F1 := cn_X11_put fu (xs (nI i + 1).toNatClampNeg) (xs (nI i + 2).toNatClampNeg) Fc Gc _ hm1
  have hb1 := hI1.xx
  refine lcallC (nn := 2) (As := [.int (xs (nI i + 1).toNatClampNeg), .int (xs (nI i + 2).toNatClampNeg)]) (rest := []) C hw (ck_X11_put l v ac bc H.size fu (xs (nI i + 1).toNatClampNeg) (xs (nI i + 2).toNatClampNeg) Fc Gc r1 F1 G1 hm1) (va_recv hK (hw.1.sub (ws' := cW v ac bc Fc Gc) (List.range 45) rfl) (ci := 11) (q0 := 11) rfl rfl) gl_X11_put ⟨by decide, by decide, by decide +kernel⟩ rfl (by decide) (by decide) (by show _ ≤ 600000; omega) (by show _ ≤ 7302249; omega) hl.1 rfl (by decide) dL_law_385 (fun b1 H1 locs1 hw1 => ?_)
  refine lv_pop hx hb dL_law_388 rfl ?_
  refine lv_aload_n hx hb dL_law_389 rfl (lv_at hl 1 rfl) ?_
  refine lv_aload_n hx hb dL_law_390 rfl (lv_at hl 3 rfl) ?_
  refine lv_iload_n hx hb dL_law_391 rfl (lv_at hl 0 rfl) ?_
  refine lv_iconst (v := 1) hx hb dL_law_392 (by decide) ?_
  refine lv_iadd hx hb dL_law_393 ?_
  refine va_sld hx hb hX hbl hbA hw1.2.2 (lw_in (q := 1) hi hL rfl (by decide)) dL_law_394 ?_
  refine lv_aload_n hx hb dL_law_395 rfl (lv_at hl 3 rfl) ?_
  refine lv_iload_n hx hb dL_law_396 rfl (lv_at hl 0 rfl) ?_
  refine lv_iconst (v := 2) hx hb dL_law_397 (by decide) ?_
  refine lv_iadd hx hb dL_law_398 ?_
  refine va_sld hx hb hX hbl hbA hw1.2.2 (lw_in (q := 2) hi hL rfl (by decide)) dL_law_399 ?_
  obtain ⟨r2, F2, G2, hm2, q2⟩ := wq_put (fu := fu) (xs (nI i + 1).toNatClampNeg) (xs (nI i + 2).toNatClampNeg) hR
  have q2 := q2.2
  have t2 : (F1 88).toInt = (F2 2).toInt := by rw [q2.2]; exact t1
  refine lcallM (nn := 2) (As := [.int (xs (nI i + 1).toNatClampNeg), .int (xs (nI i + 2).toNatClampNeg)]) (rest := []) C hw1 (mk_put l v am H1.size fu (xs (nI i + 1).toNatClampNeg) (xs (nI i + 2).toNatClampNeg) Fm Gm r2 F2 G2 hm2) (va_recv hK (hw1.1.sub (ws' := mW v am Fm Gm) (List.range 48) rfl) (ci := 12) (q0 := 0) rfl rfl) gl_X12_put ⟨by decide, by decide, by decide +kernel⟩ rfl (by decide) (by decide) (by show _ ≤ 600000; omega) (by show _ ≤ 7302249; omega) hl.1 rfl (Nat.le_of_ble_eq_true rfl) dL_law_400 (fun H2 locs2 hw2 => ?_)
  refine lv_pop hx hb dL_law_403 rfl ?_
  refine lv_goto (tgt := 486) hx hb dL_law_404 (by decide) ?_
  exact next b1 _ _ F1 F2 G1 G2 H2 locs2 ⟨hw2, ⟨hI1, q2.1, t2, by omega, hB.keep (cw_X11_put (xs (nI i + 1).toNatClampNeg) (xs (nI i + 2).toNatClampNeg) Fc Gc _ _ _ hm1) (mw_put (xs (nI i + 1).toNatClampNeg) (xs (nI i + 2).toNatClampNeg) Fm Gm _ _ _ hm2) rfl rfl rfl, hU.keep ((cw_X11_put (xs (nI i + 1).toNatClampNeg) (xs (nI i + 2).toNatClampNeg) Fc Gc _ _ _ hm1).sub rfl rfl) ((mw_put (xs (nI i + 1).toNatClampNeg) (xs (nI i + 2).toNatClampNeg) Fm Gm _ _ _ hm2).sub rfl rfl)⟩, by omega, by omega⟩
theorem law2_set {p : Program} {l : Launch} {e : Env} {s : State} {m : MethodId} {below : List Frame} {meth : Method} {c : Code} {A : Nat → Prop} {v : EV} {ac am : Nat → Nat} {b L i fu : Nat} {xs : Nat → Int32} {Q : State → Prop} {ls : Array Slot} (hfu : 300000000000 ≤ fu) (C : lMC p room_1 s m #[Value.ref b] c A v RL cL_law 4 lw_tbl) (hX : va_X b L xs s s.heap) (hbl : b < s.heap.size) (hbA : ¬ A b) (hi : i + 6 ≤ L) (hL : L ≤ 3072) (hl : lv_has ls 4 [(3, .int (nI i)), (2, .ref (am 212)), (1, .ref (ac 211)), (0, .ref b)]) {bc k n : Nat} {Fc Fm : PF} {Gc Gm : PG} {H : Heap} {locs : List Loc} (h : LST s A v ac bc am Fc Gc Fm Gm H locs k n) (next : ∀ (bc k n : Nat) (Fc Fm : PF) (Gc Gm : PG) (H : Heap) (locs : List Loc), LST s A v ac bc am Fc Gc Fm Gm H locs k n → W p l e room_1 s m #[Value.ref b] below meth c H locs k n Q (F0 m 486 ls [])) : W p l e room_1 s m #[Value.ref b] below meth c H locs k n Q (F0 m 407 ls []) := by
  obtain ⟨hx, hb, hml, hown, hts, hA, hK, hXm, hXc⟩ := id C
  obtain ⟨hw, ⟨hI, hR, h88, hxn, hB, hU⟩, hk, hn⟩ := h
  have hb0 := hI.xx
  refine lv_aload_n hx hb dL_law_407 rfl (lv_at hl 2 rfl) ?_
  refine lv_aload_n hx hb dL_law_408 rfl (lv_at hl 3 rfl) ?_
  refine lv_iload_n hx hb dL_law_409 rfl (lv_at hl 0 rfl) ?_
  refine lv_iconst (v := 1) hx hb dL_law_410 (by decide) ?_
  refine lv_iadd hx hb dL_law_411 ?_
  refine va_sld hx hb hX hbl hbA hw.2.2 (lw_in (q := 1) hi hL rfl (by decide)) dL_law_412 ?_
  refine lv_aload_n hx hb dL_law_413 rfl (lv_at hl 3 rfl) ?_
  refine lv_iload_n hx hb dL_law_414 rfl (lv_at hl 0 rfl) ?_
  refine lv_iconst (v := 2) hx hb dL_law_415 (by decide) ?_
  refine lv_iadd hx hb dL_law_416 ?_
  refine va_sld hx hb hX hbl hbA hw.2.2 (lw_in (q := 2) hi hL rfl (by decide)) dL_law_417 ?_
  obtain ⟨r1, F1, G1, hm1, q1⟩ := cs_X11_set (fu := fu) (by omega) (xs (nI i + 1).toNatClampNeg) (xs (nI i + 2).toNatClampNeg) Fc Gc hI
  have hI1 := q1.1
  have t1 : (F1 88).toInt = (Fm 2).toInt := by have := q1.2.1; unfold KT at this; rw [this]; exact h88
  have hx1 : xn Fc ≤ xn F1 := cn_X11_set fu (xs (nI i + 1).toNatClampNeg) (xs (nI i + 2).toNatClampNeg) Fc Gc _ hm1
  have hb1 := hI1.xx
  refine lcallC (nn := 2) (As := [.int (xs (nI i + 1).toNatClampNeg), .int (xs (nI i + 2).toNatClampNeg)]) (rest := []) C hw (ck_X11_set l v ac bc H.size fu (xs (nI i + 1).toNatClampNeg) (xs (nI i + 2).toNatClampNeg) Fc Gc r1 F1 G1 hm1) (va_recv hK (hw.1.sub (ws' := cW v ac bc Fc Gc) (List.range 45) rfl) (ci := 11) (q0 := 11) rfl rfl) gl_X11_set ⟨by decide, by decide, by decide +kernel⟩ rfl (by decide) (by decide) (by show _ ≤ 600000; omega) (by show _ ≤ 7302249; omega) hl.1 rfl (by decide) dL_law_418 (fun b1 H1 locs1 hw1 => ?_)
  refine lv_pop hx hb dL_law_421 rfl ?_
  refine lv_aload_n hx hb dL_law_422 rfl (lv_at hl 1 rfl) ?_
  refine lv_aload_n hx hb dL_law_423 rfl (lv_at hl 3 rfl) ?_
  refine lv_iload_n hx hb dL_law_424 rfl (lv_at hl 0 rfl) ?_
  refine lv_iconst (v := 1) hx hb dL_law_425 (by decide) ?_
  refine lv_iadd hx hb dL_law_426 ?_
  refine va_sld hx hb hX hbl hbA hw1.2.2 (lw_in (q := 1) hi hL rfl (by decide)) dL_law_427 ?_
  refine lv_aload_n hx hb dL_law_428 rfl (lv_at hl 3 rfl) ?_
  refine lv_iload_n hx hb dL_law_429 rfl (lv_at hl 0 rfl) ?_
  refine lv_iconst (v := 2) hx hb dL_law_430 (by decide) ?_
  refine lv_iadd hx hb dL_law_431 ?_
  refine va_sld hx hb hX hbl hbA hw1.2.2 (lw_in (q := 2) hi hL rfl (by decide)) dL_law_432 ?_
  obtain ⟨r2, F2, G2, hm2, q2⟩ := wq_set (fu := fu) (xs (nI i + 1).toNatClampNeg) (xs (nI i + 2).toNatClampNeg) hR
  have q2 := q2.2
  have t2 : (F1 88).toInt = (F2 2).toInt := by rw [q2.2]; exact t1
  refine lcallM (nn := 2) (As := [.int (xs (nI i + 1).toNatClampNeg), .int (xs (nI i + 2).toNatClampNeg)]) (rest := []) C hw1 (mk_set l v am H1.size fu (xs (nI i + 1).toNatClampNeg) (xs (nI i + 2).toNatClampNeg) Fm Gm r2 F2 G2 hm2) (va_recv hK (hw1.1.sub (ws' := mW v am Fm Gm) (List.range 48) rfl) (ci := 12) (q0 := 0) rfl rfl) gl_X12_set ⟨by decide, by decide, by decide +kernel⟩ rfl (by decide) (by decide) (by show _ ≤ 600000; omega) (by show _ ≤ 7302249; omega) hl.1 rfl (Nat.le_of_ble_eq_true rfl) dL_law_433 (fun H2 locs2 hw2 => ?_)
  refine lv_pop hx hb dL_law_436 rfl ?_
  refine lv_goto (tgt := 486) hx hb dL_law_437 (by decide) ?_
  exact next b1 _ _ F1 F2 G1 G2 H2 locs2 ⟨hw2, ⟨hI1, q2.1, t2, by omega, hB.keep (cw_X11_set (xs (nI i + 1).toNatClampNeg) (xs (nI i + 2).toNatClampNeg) Fc Gc _ _ _ hm1) (mw_set (xs (nI i + 1).toNatClampNeg) (xs (nI i + 2).toNatClampNeg) Fm Gm _ _ _ hm2) rfl rfl rfl, hU.keep ((cw_X11_set (xs (nI i + 1).toNatClampNeg) (xs (nI i + 2).toNatClampNeg) Fc Gc _ _ _ hm1).sub rfl rfl) ((mw_set (xs (nI i + 1).toNatClampNeg) (xs (nI i + 2).toNatClampNeg) Fm Gm _ _ _ hm2).sub rfl rfl)⟩, by omega, by omega⟩
theorem law2_go {p : Program} {l : Launch} {e : Env} {s : State} {m : MethodId} {below : List Frame} {meth : Method} {c : Code} {A : Nat → Prop} {v : EV} {ac am : Nat → Nat} {b L i fu : Nat} {xs : Nat → Int32} {Q : State → Prop} {ls : Array Slot} (hfu : 300000000000 ≤ fu) (C : lMC p room_1 s m #[Value.ref b] c A v RL cL_law 4 lw_tbl) (hX : va_X b L xs s s.heap) (hbl : b < s.heap.size) (hbA : ¬ A b) (hi : i + 6 ≤ L) (hL : L ≤ 3072) (hl : lv_has ls 4 [(3, .int (nI i)), (2, .ref (am 212)), (1, .ref (ac 211)), (0, .ref b)]) {bc k n : Nat} {Fc Fm : PF} {Gc Gm : PG} {H : Heap} {locs : List Loc} (h : LST s A v ac bc am Fc Gc Fm Gm H locs k n) (next : ∀ (bc k n : Nat) (Fc Fm : PF) (Gc Gm : PG) (H : Heap) (locs : List Loc), LST s A v ac bc am Fc Gc Fm Gm H locs k n → W p l e room_1 s m #[Value.ref b] below meth c H locs k n Q (F0 m 486 ls [])) : W p l e room_1 s m #[Value.ref b] below meth c H locs k n Q (F0 m 440 ls []) := by
  obtain ⟨hx, hb, hml, hown, hts, hA, hK, hXm, hXc⟩ := id C
  obtain ⟨hw, ⟨hI, hR, h88, hxn, hB, hU⟩, hk, hn⟩ := h
  have hb0 := hI.xx
  refine lv_aload_n hx hb dL_law_440 rfl (lv_at hl 2 rfl) ?_
  refine lv_aload_n hx hb dL_law_441 rfl (lv_at hl 3 rfl) ?_
  refine lv_iload_n hx hb dL_law_442 rfl (lv_at hl 0 rfl) ?_
  refine lv_iconst (v := 1) hx hb dL_law_443 (by decide) ?_
  refine lv_iadd hx hb dL_law_444 ?_
  refine va_sld hx hb hX hbl hbA hw.2.2 (lw_in (q := 1) hi hL rfl (by decide)) dL_law_445 ?_
  obtain ⟨r1, F1, G1, hm1, q1⟩ := cs_X11_go (fu := fu) (by omega) (xs (nI i + 1).toNatClampNeg) Fc Gc hI
  have hI1 := q1.1
  have t1 : (F1 88).toInt = (Fm 2).toInt := by have := q1.2.1; unfold KT at this; rw [this]; exact h88
  have hx1 : xn Fc ≤ xn F1 := cn_X11_go fu (xs (nI i + 1).toNatClampNeg) Fc Gc _ hm1
  have hb1 := hI1.xx
  refine lcallC (nn := 1) (As := [.int (xs (nI i + 1).toNatClampNeg)]) (rest := []) C hw (ck_X11_go l v ac bc H.size fu (xs (nI i + 1).toNatClampNeg) Fc Gc r1 F1 G1 hm1) (va_recv hK (hw.1.sub (ws' := cW v ac bc Fc Gc) (List.range 45) rfl) (ci := 11) (q0 := 11) rfl rfl) gl_X11_go ⟨by decide, by decide, by decide +kernel⟩ rfl (by decide) (by decide) (by show _ ≤ 600000; omega) (by show _ ≤ 7302249; omega) hl.1 rfl (by decide) dL_law_446 (fun b1 H1 locs1 hw1 => ?_)
  refine lv_pop hx hb dL_law_449 rfl ?_
  refine lv_aload_n hx hb dL_law_450 rfl (lv_at hl 1 rfl) ?_
  refine lv_aload_n hx hb dL_law_451 rfl (lv_at hl 3 rfl) ?_
  refine lv_iload_n hx hb dL_law_452 rfl (lv_at hl 0 rfl) ?_
  refine lv_iconst (v := 1) hx hb dL_law_453 (by decide) ?_
  refine lv_iadd hx hb dL_law_454 ?_
  refine va_sld hx hb hX hbl hbA hw1.2.2 (lw_in (q := 1) hi hL rfl (by decide)) dL_law_455 ?_
  obtain ⟨r2, F2, G2, hm2, q2⟩ := wq_go (fu := fu) (by omega) (xs (nI i + 1).toNatClampNeg) hR
  have t2 : (F1 88).toInt = (F2 2).toInt := by rw [q2.2]; exact t1
  refine lcallM (nn := 1) (As := [.int (xs (nI i + 1).toNatClampNeg)]) (rest := []) C hw1 (mk_go l v am H1.size fu (xs (nI i + 1).toNatClampNeg) Fm Gm r2 F2 G2 hm2) (va_recv hK (hw1.1.sub (ws' := mW v am Fm Gm) (List.range 48) rfl) (ci := 12) (q0 := 0) rfl rfl) gl_X12_go ⟨by decide, by decide, by decide +kernel⟩ rfl (by decide) (by decide) (by show _ ≤ 600000; omega) (by show _ ≤ 7302249; omega) hl.1 rfl (Nat.le_of_ble_eq_true rfl) dL_law_456 (fun H2 locs2 hw2 => ?_)
  refine lv_pop hx hb dL_law_459 rfl ?_
  refine lv_goto (tgt := 486) hx hb dL_law_460 (by decide) ?_
  exact next b1 _ _ F1 F2 G1 G2 H2 locs2 ⟨hw2, ⟨hI1, q2.1, t2, by omega, hB.keep (cw_X11_go (xs (nI i + 1).toNatClampNeg) Fc Gc _ _ _ hm1) (mw_go (xs (nI i + 1).toNatClampNeg) Fm Gm _ _ _ hm2) rfl rfl rfl, hU.keep ((cw_X11_go (xs (nI i + 1).toNatClampNeg) Fc Gc _ _ _ hm1).sub rfl rfl) ((mw_go (xs (nI i + 1).toNatClampNeg) Fm Gm _ _ _ hm2).sub rfl rfl)⟩, by omega, by omega⟩
theorem law2_board {p : Program} {l : Launch} {e : Env} {s : State} {m : MethodId} {below : List Frame} {meth : Method} {c : Code} {A : Nat → Prop} {v : EV} {ac am : Nat → Nat} {b L i fu : Nat} {xs : Nat → Int32} {Q : State → Prop} {ls : Array Slot} (hfu : 300000000000 ≤ fu) (C : lMC p room_1 s m #[Value.ref b] c A v RL cL_law 4 lw_tbl) (hX : va_X b L xs s s.heap) (hbl : b < s.heap.size) (hbA : ¬ A b) (hi : i + 6 ≤ L) (hL : L ≤ 3072) (hl : lv_has ls 4 [(3, .int (nI i)), (2, .ref (am 212)), (1, .ref (ac 211)), (0, .ref b)]) {bc k n : Nat} {Fc Fm : PF} {Gc Gm : PG} {H : Heap} {locs : List Loc} (h : LST s A v ac bc am Fc Gc Fm Gm H locs k n) (next : ∀ (bc k n : Nat) (Fc Fm : PF) (Gc Gm : PG) (H : Heap) (locs : List Loc), LST s A v ac bc am Fc Gc Fm Gm H locs k n → W p l e room_1 s m #[Value.ref b] below meth c H locs k n Q (F0 m 486 ls [])) : W p l e room_1 s m #[Value.ref b] below meth c H locs k n Q (F0 m 463 ls []) := by
  obtain ⟨hx, hb, hml, hown, hts, hA, hK, hXm, hXc⟩ := id C
  obtain ⟨hw, ⟨hI, hR, h88, hxn, hB, hU⟩, hk, hn⟩ := h
  have hb0 := hI.xx
  refine lv_aload_n hx hb dL_law_463 rfl (lv_at hl 2 rfl) ?_
  refine lv_aload_n hx hb dL_law_464 rfl (lv_at hl 3 rfl) ?_
  refine lv_iload_n hx hb dL_law_465 rfl (lv_at hl 0 rfl) ?_
  refine lv_iconst (v := 1) hx hb dL_law_466 (by decide) ?_
  refine lv_iadd hx hb dL_law_467 ?_
  refine va_sld hx hb hX hbl hbA hw.2.2 (lw_in (q := 1) hi hL rfl (by decide)) dL_law_468 ?_
  obtain ⟨r1, F1, G1, hm1, q1⟩ := cs_X11_board (fu := fu) (by omega) (xs (nI i + 1).toNatClampNeg) Fc Gc hI
  obtain ⟨rfl, rfl, -⟩ := q1
  have hI1 := hI
  have t1 : (Fc 88).toInt = (Fm 2).toInt := h88
  have hx1 : xn Fc ≤ xn Fc := cn_X11_board fu (xs (nI i + 1).toNatClampNeg) Fc Gc _ hm1
  have hb1 := hI1.xx
  refine lcallC (nn := 1) (As := [.int (xs (nI i + 1).toNatClampNeg)]) (rest := []) C hw (ck_X11_board l v ac bc H.size fu (xs (nI i + 1).toNatClampNeg) Fc Gc r1 Fc Gc hm1) (va_recv hK (hw.1.sub (ws' := cW v ac bc Fc Gc) (List.range 45) rfl) (ci := 11) (q0 := 11) rfl rfl) gl_X11_board ⟨by decide, by decide, by decide +kernel⟩ rfl (by decide) (by decide) (by show _ ≤ 600000; omega) (by show _ ≤ 7302249; omega) hl.1 rfl (by decide) dL_law_469 (fun b1 H1 locs1 hw1 => ?_)
  refine lv_pop hx hb dL_law_472 rfl ?_
  refine lv_aload_n hx hb dL_law_473 rfl (lv_at hl 1 rfl) ?_
  refine lv_aload_n hx hb dL_law_474 rfl (lv_at hl 3 rfl) ?_
  refine lv_iload_n hx hb dL_law_475 rfl (lv_at hl 0 rfl) ?_
  refine lv_iconst (v := 1) hx hb dL_law_476 (by decide) ?_
  refine lv_iadd hx hb dL_law_477 ?_
  refine va_sld hx hb hX hbl hbA hw1.2.2 (lw_in (q := 1) hi hL rfl (by decide)) dL_law_478 ?_
  obtain ⟨r2, F2, G2, hm2, q2⟩ := wq_board (fu := fu) (xs (nI i + 1).toNatClampNeg) hR
  have t2 : (Fc 88).toInt = (F2 2).toInt := by rw [q2.2]; exact t1
  refine lcallM (nn := 1) (As := [.int (xs (nI i + 1).toNatClampNeg)]) (rest := []) C hw1 (mk_board l v am H1.size fu (xs (nI i + 1).toNatClampNeg) Fm Gm r2 F2 G2 hm2) (va_recv hK (hw1.1.sub (ws' := mW v am Fm Gm) (List.range 48) rfl) (ci := 12) (q0 := 0) rfl rfl) gl_X12_board ⟨by decide, by decide, by decide +kernel⟩ rfl (by decide) (by decide) (by show _ ≤ 600000; omega) (by show _ ≤ 7302249; omega) hl.1 rfl (Nat.le_of_ble_eq_true rfl) dL_law_479 (fun H2 locs2 hw2 => ?_)
  refine lv_pop hx hb dL_law_482 rfl ?_
  refine lv_goto (tgt := 486) hx hb dL_law_483 (by decide) ?_
  exact next b1 _ _ Fc F2 Gc G2 H2 locs2 ⟨hw2, ⟨hI1, q2.1, t2, by omega, hB.keep (KX.rf : KX [] [] Fc Gc Fc Gc) (mw_board (xs (nI i + 1).toNatClampNeg) Fm Gm _ _ _ hm2) rfl rfl rfl, hU.keep (KX.rf : KX [2, 3, 4, 88] [0, 1, 87] Fc Gc Fc Gc) ((mw_board (xs (nI i + 1).toNatClampNeg) Fm Gm _ _ _ hm2).sub rfl rfl)⟩, by omega, by omega⟩
