section STR
variable {l : Launch} {v : EV} {a : Nat → Nat} {b sz : Nat} {F : PF} {G : PG}
theorem ckS_coder {i : Nat} (hi : i < 4) : cMI l yJ0_coder_7d493 cJ0_coder_7d493 1 (some .byte) 0 0 v a b sz [.ref (eK v i)] F G 0 F G := cMI.of (ty := .byte) (by decide) rfl (Nat.le_of_ble_eq_true rfl) (fun p e R s m args below meth c Q A H locs ls C hw hl hret => by
  have hx := C.1
  have hb := C.2.1
  have hs := C.2.2.2.2.2.2.2.2.2.1.1.2.2.1.1 i hi
  refine va_gets hx hb C.2.2.2.2.2.2.2.2.2.1.1.1 hw.2.2.1 C.2.2.2.1 (C.2.2.2.2.1 _ cm_120) (fun _ h => h) dJ0_coder_7d493_0 ?_
  refine lv_if_eq (tgt := 13) hx hb dJ0_coder_7d493_3 (by decide) (fun c_1 => absurd c_1 (by decide)) (fun _ => ?_)
  refine lv_aload_n hx hb dJ0_coder_7d493_6 rfl (lv_at hl 0 rfl) ?_
  refine vk_getf hx hb hs.2.1 hw.2.2.1 C.2.2.2.1 (C.2.2.2.2.1 _ cm_121) (fun _ h => h) dJ0_coder_7d493_7 ?_
  refine lv_goto (tgt := 14) hx hb dJ0_coder_7d493_10 (by decide) ?_
  exact hret _ _ _ _ _ hw rfl dJ0_coder_7d493_14)
theorem ckS_isLatin1 {i : Nat} (hi : i < 4) : cMI l yJ0_isLatin1_aae02 cJ0_isLatin1_aae02 1 (some .boolean) 0 0 v a b sz [.ref (eK v i)] F G 1 F G := cMI.of (ty := .boolean) (by decide) rfl (Nat.le_of_ble_eq_true rfl) (fun p e R s m args below meth c Q A H locs ls C hw hl hret => by
  have hx := C.1
  have hb := C.2.1
  have hs := C.2.2.2.2.2.2.2.2.2.1.1.2.2.1.1 i hi
  refine va_gets hx hb C.2.2.2.2.2.2.2.2.2.1.1.1 hw.2.2.1 C.2.2.2.1 (C.2.2.2.2.1 _ cm_120) (fun _ h => h) dJ0_isLatin1_aae02_0 ?_
  refine lv_if_eq (tgt := 17) hx hb dJ0_isLatin1_aae02_3 (by decide) (fun c_1 => absurd c_1 (by decide)) (fun _ => ?_)
  refine lv_aload_n hx hb dJ0_isLatin1_aae02_6 rfl (lv_at hl 0 rfl) ?_
  refine vk_getf hx hb hs.2.1 hw.2.2.1 C.2.2.2.1 (C.2.2.2.2.1 _ cm_121) (fun _ h => h) dJ0_isLatin1_aae02_7 ?_
  refine lv_if_ne (tgt := 17) hx hb dJ0_isLatin1_aae02_10 (by decide) (fun c_1 => absurd rfl c_1) (fun _ => ?_)
  refine lv_iconst (v := 1) hx hb dJ0_isLatin1_aae02_13 (by decide) ?_
  refine lv_goto (tgt := 18) hx hb dJ0_isLatin1_aae02_14 (by decide) ?_
  exact hret _ _ _ _ _ hw rfl dJ0_isLatin1_aae02_18)
theorem ckS_check3N {k n : Int32} (h0 : ¬ k < 0) (h1 : k < n) : cMI l yJ3_checkIndex_8e157 cJ3_checkIndex_8e157 3 (some .int) 0 0 v a b sz [.int k, .int n, .null] F G k F G := cMI.of (ty := .int) (by decide) rfl (Nat.le_of_ble_eq_true rfl) (fun p e R s m args below meth c Q A H locs ls C hw hl hret => by
  have hx := C.1
  have hb := C.2.1
  refine lv_iload_n hx hb dJ3_checkIndex_8e157_0 rfl (lv_at hl 0 rfl) ?_
  refine lv_if_lt (tgt := 9) hx hb dJ3_checkIndex_8e157_1 (by decide) (fun c_1 => absurd c_1 h0) (fun _ => ?_)
  refine lv_iload_n hx hb dJ3_checkIndex_8e157_4 rfl (lv_at hl 0 rfl) ?_
  refine lv_iload_n hx hb dJ3_checkIndex_8e157_5 rfl (lv_at hl 1 rfl) ?_
  refine lv_icmp_lt (tgt := 16) hx hb dJ3_checkIndex_8e157_6 (by decide) (fun _ => ?_) (fun c_1 => absurd h1 c_1)
  refine lv_iload_n hx hb dJ3_checkIndex_8e157_16 rfl (lv_at hl 0 rfl) ?_
  exact hret _ _ _ _ _ hw rfl dJ3_checkIndex_8e157_17)
theorem ckS_check3R {k n : Int32} {t : Nat} (h0 : ¬ k < 0) (h1 : k < n) : cMI l yJ3_checkIndex_8e157 cJ3_checkIndex_8e157 3 (some .int) 0 0 v a b sz [.int k, .int n, .ref t] F G k F G := cMI.of (ty := .int) (by decide) rfl (Nat.le_of_ble_eq_true rfl) (fun p e R s m args below meth c Q A H locs ls C hw hl hret => by
  have hx := C.1
  have hb := C.2.1
  refine lv_iload_n hx hb dJ3_checkIndex_8e157_0 rfl (lv_at hl 0 rfl) ?_
  refine lv_if_lt (tgt := 9) hx hb dJ3_checkIndex_8e157_1 (by decide) (fun c_1 => absurd c_1 h0) (fun _ => ?_)
  refine lv_iload_n hx hb dJ3_checkIndex_8e157_4 rfl (lv_at hl 0 rfl) ?_
  refine lv_iload_n hx hb dJ3_checkIndex_8e157_5 rfl (lv_at hl 1 rfl) ?_
  refine lv_icmp_lt (tgt := 16) hx hb dJ3_checkIndex_8e157_6 (by decide) (fun _ => ?_) (fun c_1 => absurd h1 c_1)
  refine lv_iload_n hx hb dJ3_checkIndex_8e157_16 rfl (lv_at hl 0 rfl) ?_
  exact hret _ _ _ _ _ hw rfl dJ3_checkIndex_8e157_17)
theorem ckS_check0 {k n : Int32} (h0 : ¬ k < 0) (h1 : k < n) : cMV l yJ0_checkIndex_df160 cJ0_checkIndex_df160 2 1 22 v a b sz [.int k, .int n] F G F G := cMV.of (by decide) (Nat.le_of_ble_eq_true rfl) (fun p e R s m args below meth c Q A H locs ls C hw hl hret => by
  have hx := C.1
  have hb := C.2.1
  refine lv_iload_n hx hb dJ0_checkIndex_df160_0 rfl (lv_at hl 0 rfl) ?_
  refine lv_iload_n hx hb dJ0_checkIndex_df160_1 rfl (lv_at hl 1 rfl) ?_
  rcases C.2.2.2.2.2.2.2.2.2.1.1.2.1 with hZ | ⟨t, hZ⟩
  · refine va_gets hx hb hZ hw.2.2.1 C.2.2.2.1 (C.2.2.2.2.1 _ cm_129) (fun _ h => h) dJ0_checkIndex_df160_2 ?_
    refine ccallIS (n := 3) (As := [.int k, .int n, .null]) (rest := []) C hw (ckS_check3N h0 h1) (Nat.le_refl _) (Nat.le_refl _) cm_130 cm_131 cm_132 cm_133 (by decide +kernel) rfl (by omega) (by omega) hl.1 rfl (Nat.le_of_ble_eq_true rfl) dJ0_checkIndex_df160_5 (fun b H locs hw => ?_)
    refine lv_pop hx hb dJ0_checkIndex_df160_8 rfl ?_
    exact hret _ _ _ _ _ hw dJ0_checkIndex_df160_9
  · refine va_gets hx hb hZ hw.2.2.1 C.2.2.2.1 (C.2.2.2.2.1 _ cm_129) (fun _ h => h) dJ0_checkIndex_df160_2 ?_
    refine ccallIS (n := 3) (As := [.int k, .int n, .ref t]) (rest := []) C hw (ckS_check3R h0 h1) (Nat.le_refl _) (Nat.le_refl _) cm_130 cm_131 cm_132 cm_133 (by decide +kernel) rfl (by omega) (by omega) hl.1 rfl (Nat.le_of_ble_eq_true rfl) dJ0_checkIndex_df160_5 (fun b H locs hw => ?_)
    refine lv_pop hx hb dJ0_checkIndex_df160_8 rfl ?_
    exact hret _ _ _ _ _ hw dJ0_checkIndex_df160_9)
theorem ckS_at1 {i : Nat} {k : Int32} (hi : i < 4) (hk : vp_in k (lenS.getD i 0)) : cMI l yJ1_charAt_3b067 cJ1_charAt_3b067 2 (some .char) 2 43 v a b sz [.ref (eV v i), .int k] F G (chS i k) F G := cMI.of (ty := .char) (by decide) rfl (Nat.le_of_ble_eq_true rfl) (fun p e R s m args below meth c Q A H locs ls C hw hl hret => by
  have hx := C.1
  have hb := C.2.1
  have hs := C.2.2.2.2.2.2.2.2.2.1.1.2.2.1.1 i hi
  have hlen : lenS.getD i 0 < 2 ^ 31 := lenS_lt hi
  have h0 : ¬ k < 0 := fun h => hk (Or.inl h)
  have h1 : k < nI (lenS.getD i 0) := by
    obtain ⟨j, hj, rfl⟩ := vp_in_of hk hlen
    exact nI_lt hj hlen
  refine lv_iload_n hx hb dJ1_charAt_3b067_0 rfl (lv_at hl 1 rfl) ?_
  refine lv_aload_n hx hb dJ1_charAt_3b067_1 rfl (lv_at hl 0 rfl) ?_
  refine va_tlen (v := nI (lenS.getD i 0)) hx hb hs.2.2.2 hw.2.2.1 rfl dJ1_charAt_3b067_2 ?_
  refine ccallVS (n := 2) (As := [.int k, .int (nI (lenS.getD i 0))]) (rest := []) C hw (ckS_check0 h0 h1) (Nat.le_refl _) (Nat.le_refl _) cm_126 cm_127 cm_113 cm_128 (by decide +kernel) rfl (by omega) (by omega) hl.1 rfl (Nat.le_of_ble_eq_true rfl) dJ1_charAt_3b067_3 (fun b H locs hw => ?_)
  refine lv_aload_n hx hb dJ1_charAt_3b067_6 rfl (lv_at hl 0 rfl) ?_
  refine lv_iload_n hx hb dJ1_charAt_3b067_7 rfl (lv_at hl 1 rfl) ?_
  refine va_tb (v := .int ((bytS.getD i []).getD k.toNatClampNeg 0)) hx hb hs.2.2.2 hw.2.2.1 hk rfl dJ1_charAt_3b067_8 ?_
  refine lv_sipush (v := 255) hx hb dJ1_charAt_3b067_9 (by decide) ?_
  refine lv_iand hx hb dJ1_charAt_3b067_12 ?_
  refine lv_i2c (v := chS i k) hx hb dJ1_charAt_3b067_13 rfl ?_
  exact hret _ _ _ _ _ hw (pk_nc _) dJ1_charAt_3b067_14)
end STR
def cf_J0_length_8abf5 (fu : Nat) (i : Nat) (F : PF) (G : PG) : PR := if i < 4 then some (nI (lenS.getD i 0) >>> ((0 : Int32) &&& 31), F, G) else none
def cf_J0_charAt_5068e (fu : Nat) (i : Nat) (k : Int32) (F : PF) (G : PG) : PR := if i < 4 then (if ixb k (lenS.getD i 0) = true then some (chS i k, F, G) else none) else none
theorem clt_J0_length_8abf5 {fu i : Nat} {F : PF} {G : PG} {q : Int32 × PF × PG} (h : cf_J0_length_8abf5 fu i F G = some q) : i < 4 := by
  by_cases hi : i < 4
  · exact hi
  · exact no_elim ((if_neg hi).symm.trans h)
theorem clt_J0_charAt_5068e {fu i : Nat} {k : Int32} {F : PF} {G : PG} {q : Int32 × PF × PG} (h : cf_J0_charAt_5068e fu i k F G = some q) : i < 4 := by
  by_cases hi : i < 4
  · exact hi
  · exact no_elim ((if_neg hi).symm.trans h)
theorem ck_J0_length_8abf5 (l : Launch) (v : EV) (a : Nat → Nat) (b sz : Nat) (fu : Nat) (i : Nat) (F : PF) (G : PG) (r : Int32) (F1 : PF) (G1 : PG) (hm : cf_J0_length_8abf5 fu i F G = some (r, F1, G1)) : cMI l yJ0_length_8abf5 cJ0_length_8abf5 1 (some .int) 1 20 v a b sz [.ref (eK v i)] F G r F1 G1 := cMI.of (ty := .int) (by decide) rfl (Nat.le_of_ble_eq_true rfl) (fun p e R s m args below meth c Q A H locs ls C hw hl hret => by
  have hx := C.1
  have hb := C.2.1
  have hi := clt_J0_length_8abf5 hm
  have hm := (if_pos hi).symm.trans hm
  obtain ⟨rfl, rfl, rfl⟩ := Prod.mk.inj (Option.some.inj hm) |>.imp id Prod.mk.inj
  have hs := C.2.2.2.2.2.2.2.2.2.1.1.2.2.1.1 i hi
  refine lv_aload_n hx hb dJ0_length_8abf5_0 rfl (lv_at hl 0 rfl) ?_
  refine vk_getf hx hb hs.2.2.1 hw.2.2.1 C.2.2.2.1 (C.2.2.2.2.1 _ cm_115) (fun _ h => h) dJ0_length_8abf5_1 ?_
  refine va_tlen (v := nI (lenS.getD i 0)) hx hb hs.2.2.2 hw.2.2.1 rfl dJ0_length_8abf5_4 ?_
  refine lv_aload_n hx hb dJ0_length_8abf5_5 rfl (lv_at hl 0 rfl) ?_
  refine ccallI (n := 0) (As := []) (rest := [.int (nI (lenS.getD i 0))]) C hw (ckS_coder hi) (Nat.le_refl _) (Nat.le_refl _) (vk_recv C.2.2.2.2.2.2.2.2.2.1.1.2.2.1 hi hw.2.2.1) cm_181 cm_182 cm_183 cm_113 cm_184 (by decide +kernel) rfl (by omega) (by omega) hl.1 rfl (Nat.le_of_ble_eq_true rfl) dJ0_length_8abf5_6 (fun b H locs hw => ?_)
  refine lv_ishr hx hb dJ0_length_8abf5_9 ?_
  exact hret _ _ _ _ _ hw rfl dJ0_length_8abf5_10)
theorem ck_J0_charAt_5068e (l : Launch) (v : EV) (a : Nat → Nat) (b sz : Nat) (fu : Nat) (i : Nat) (k : Int32) (F : PF) (G : PG) (r : Int32) (F1 : PF) (G1 : PG) (hm : cf_J0_charAt_5068e fu i k F G = some (r, F1, G1)) : cMI l yJ0_charAt_5068e cJ0_charAt_5068e 2 (some .char) 3 64 v a b sz [.ref (eK v i), .int k] F G r F1 G1 := cMI.of (ty := .char) (by decide) rfl (Nat.le_of_ble_eq_true rfl) (fun p e R s m args below meth c Q A H locs ls C hw hl hret => by
  have hx := C.1
  have hb := C.2.1
  have hi := clt_J0_charAt_5068e hm
  have hm := (if_pos hi).symm.trans hm
  obtain ⟨hk, hm⟩ := ix_elim hm
  obtain ⟨rfl, rfl, rfl⟩ := Prod.mk.inj (Option.some.inj hm) |>.imp id Prod.mk.inj
  have hs := C.2.2.2.2.2.2.2.2.2.1.1.2.2.1.1 i hi
  refine lv_aload_n hx hb dJ0_charAt_5068e_0 rfl (lv_at hl 0 rfl) ?_
  refine ccallI (n := 0) (As := []) (rest := []) C hw (ckS_isLatin1 hi) (Nat.le_refl _) (Nat.le_refl _) (vk_recv C.2.2.2.2.2.2.2.2.2.1.1.2.2.1 hi hw.2.2.1) cm_116 cm_117 cm_118 cm_113 cm_119 (by decide +kernel) rfl (by omega) (by omega) hl.1 rfl (Nat.le_of_ble_eq_true rfl) dJ0_charAt_5068e_1 (fun b H locs hw => ?_)
  refine lv_if_eq (tgt := 16) hx hb dJ0_charAt_5068e_4 (by decide) (fun c_1 => absurd c_1 (by decide)) (fun _ => ?_)
  refine lv_aload_n hx hb dJ0_charAt_5068e_7 rfl (lv_at hl 0 rfl) ?_
  refine vk_getf hx hb hs.2.2.1 hw.2.2.1 C.2.2.2.1 (C.2.2.2.2.1 _ cm_115) (fun _ h => h) dJ0_charAt_5068e_8 ?_
  refine lv_iload_n hx hb dJ0_charAt_5068e_11 rfl (lv_at hl 1 rfl) ?_
  refine ccallIS (n := 2) (As := [.ref (eV v i), .int k]) (rest := []) C hw (ckS_at1 hi hk) (Nat.le_refl _) (Nat.le_refl _) cm_122 cm_123 cm_124 cm_125 (by decide +kernel) rfl (by omega) (by omega) hl.1 rfl (Nat.le_of_ble_eq_true rfl) dJ0_charAt_5068e_12 (fun b H locs hw => ?_)
  exact hret _ _ _ _ _ hw (pk_nc _) dJ0_charAt_5068e_15)
theorem cn_J0_length_8abf5 (fu i : Nat) (F : PF) (G : PG) (q : Int32 × PF × PG) (hm : cf_J0_length_8abf5 fu i F G = some q) : xn F ≤ xn q.2.1 := by
  have hm := (if_pos (clt_J0_length_8abf5 hm)).symm.trans hm
  obtain rfl := Option.some.inj hm
  exact Nat.le_refl _
theorem cn_J0_charAt_5068e (fu i : Nat) (k : Int32) (F : PF) (G : PG) (q : Int32 × PF × PG) (hm : cf_J0_charAt_5068e fu i k F G = some q) : xn F ≤ xn q.2.1 := by
  have hm := (if_pos (clt_J0_charAt_5068e hm)).symm.trans hm
  have hm := (ix_elim hm).2
  obtain rfl := Option.some.inj hm
  exact Nat.le_refl _
def cf_J0_isLatin1_aae02 (fu : Nat) (i : Nat) (F : PF) (G : PG) : PR := if i < 4 then some (1, F, G) else none
theorem clt_J0_isLatin1_aae02 {fu i : Nat} {F : PF} {G : PG} {q : Int32 × PF × PG} (h : cf_J0_isLatin1_aae02 fu i F G = some q) : i < 4 := (lt_elim h).1
theorem cn_J0_isLatin1_aae02 (fu i : Nat) (F : PF) (G : PG) (q : Int32 × PF × PG) (hm : cf_J0_isLatin1_aae02 fu i F G = some q) : xn F ≤ xn q.2.1 := by
  obtain rfl := Option.some.inj (lt_elim hm).2
  exact Nat.le_refl _
theorem ck_J0_isLatin1_aae02 (l : Launch) (v : EV) (a : Nat → Nat) (b sz : Nat) (fu : Nat) (i : Nat) (F : PF) (G : PG) (r : Int32) (F1 : PF) (G1 : PG) (hm : cf_J0_isLatin1_aae02 fu i F G = some (r, F1, G1)) : cMI l yJ0_isLatin1_aae02 cJ0_isLatin1_aae02 1 (some .boolean) 0 0 v a b sz [.ref (eK v i)] F G r F1 G1 := by
  obtain ⟨hi, hm⟩ := lt_elim hm
  obtain ⟨rfl, rfl, rfl⟩ := Prod.mk.inj (Option.some.inj hm) |>.imp id Prod.mk.inj
  exact ckS_isLatin1 hi
