section STR
variable {l : Launch} {v : EV} {a : Nat → Nat} {sz : Nat} {F : PF} {G : PG}
theorem mkS_coder {i : Nat} (hi : i < 4) : mMI l yJ0_coder_7d493 cJ0_coder_7d493 1 (some .byte) 0 0 v a sz [.ref (eK v i)] F G 0 F G := mMI.of (ty := .byte) (by decide) rfl (Nat.le_of_ble_eq_true rfl) (fun p e R s m args below meth c Q A H locs ls C hw hl hret => by
  have hx := C.1
  have hb := C.2.1
  have hs := C.2.2.2.2.2.2.2.2.2.2.2.1.1 i hi
  refine va_gets hx hb C.2.2.2.2.2.2.2.2.2.1 hw.2.2 C.2.2.2.1 (C.2.2.2.2.1 _ mm_73) (fun _ h => h) dJ0_coder_7d493_0 ?_
  refine lv_if_eq (tgt := 13) hx hb dJ0_coder_7d493_3 (by decide) (fun c_1 => absurd c_1 (by decide)) (fun _ => ?_)
  refine lv_aload_n hx hb dJ0_coder_7d493_6 rfl (lv_at hl 0 rfl) ?_
  refine vk_getf hx hb hs.2.1 hw.2.2 C.2.2.2.1 (C.2.2.2.2.1 _ mm_74) (fun _ h => h) dJ0_coder_7d493_7 ?_
  refine lv_goto (tgt := 14) hx hb dJ0_coder_7d493_10 (by decide) ?_
  exact hret _ _ _ _ hw rfl dJ0_coder_7d493_14)
theorem mkS_isLatin1 {i : Nat} (hi : i < 4) : mMI l yJ0_isLatin1_aae02 cJ0_isLatin1_aae02 1 (some .boolean) 0 0 v a sz [.ref (eK v i)] F G 1 F G := mMI.of (ty := .boolean) (by decide) rfl (Nat.le_of_ble_eq_true rfl) (fun p e R s m args below meth c Q A H locs ls C hw hl hret => by
  have hx := C.1
  have hb := C.2.1
  have hs := C.2.2.2.2.2.2.2.2.2.2.2.1.1 i hi
  refine va_gets hx hb C.2.2.2.2.2.2.2.2.2.1 hw.2.2 C.2.2.2.1 (C.2.2.2.2.1 _ mm_73) (fun _ h => h) dJ0_isLatin1_aae02_0 ?_
  refine lv_if_eq (tgt := 17) hx hb dJ0_isLatin1_aae02_3 (by decide) (fun c_1 => absurd c_1 (by decide)) (fun _ => ?_)
  refine lv_aload_n hx hb dJ0_isLatin1_aae02_6 rfl (lv_at hl 0 rfl) ?_
  refine vk_getf hx hb hs.2.1 hw.2.2 C.2.2.2.1 (C.2.2.2.2.1 _ mm_74) (fun _ h => h) dJ0_isLatin1_aae02_7 ?_
  refine lv_if_ne (tgt := 17) hx hb dJ0_isLatin1_aae02_10 (by decide) (fun c_1 => absurd rfl c_1) (fun _ => ?_)
  refine lv_iconst (v := 1) hx hb dJ0_isLatin1_aae02_13 (by decide) ?_
  refine lv_goto (tgt := 18) hx hb dJ0_isLatin1_aae02_14 (by decide) ?_
  exact hret _ _ _ _ hw rfl dJ0_isLatin1_aae02_18)
theorem mkS_check3N {k n : Int32} (h0 : ¬ k < 0) (h1 : k < n) : mMI l yJ3_checkIndex_8e157 cJ3_checkIndex_8e157 3 (some .int) 0 0 v a sz [.int k, .int n, .null] F G k F G := mMI.of (ty := .int) (by decide) rfl (Nat.le_of_ble_eq_true rfl) (fun p e R s m args below meth c Q A H locs ls C hw hl hret => by
  have hx := C.1
  have hb := C.2.1
  refine lv_iload_n hx hb dJ3_checkIndex_8e157_0 rfl (lv_at hl 0 rfl) ?_
  refine lv_if_lt (tgt := 9) hx hb dJ3_checkIndex_8e157_1 (by decide) (fun c_1 => absurd c_1 h0) (fun _ => ?_)
  refine lv_iload_n hx hb dJ3_checkIndex_8e157_4 rfl (lv_at hl 0 rfl) ?_
  refine lv_iload_n hx hb dJ3_checkIndex_8e157_5 rfl (lv_at hl 1 rfl) ?_
  refine lv_icmp_lt (tgt := 16) hx hb dJ3_checkIndex_8e157_6 (by decide) (fun _ => ?_) (fun c_1 => absurd h1 c_1)
  refine lv_iload_n hx hb dJ3_checkIndex_8e157_16 rfl (lv_at hl 0 rfl) ?_
  exact hret _ _ _ _ hw rfl dJ3_checkIndex_8e157_17)
theorem mkS_check3R {k n : Int32} {t : Nat} (h0 : ¬ k < 0) (h1 : k < n) : mMI l yJ3_checkIndex_8e157 cJ3_checkIndex_8e157 3 (some .int) 0 0 v a sz [.int k, .int n, .ref t] F G k F G := mMI.of (ty := .int) (by decide) rfl (Nat.le_of_ble_eq_true rfl) (fun p e R s m args below meth c Q A H locs ls C hw hl hret => by
  have hx := C.1
  have hb := C.2.1
  refine lv_iload_n hx hb dJ3_checkIndex_8e157_0 rfl (lv_at hl 0 rfl) ?_
  refine lv_if_lt (tgt := 9) hx hb dJ3_checkIndex_8e157_1 (by decide) (fun c_1 => absurd c_1 h0) (fun _ => ?_)
  refine lv_iload_n hx hb dJ3_checkIndex_8e157_4 rfl (lv_at hl 0 rfl) ?_
  refine lv_iload_n hx hb dJ3_checkIndex_8e157_5 rfl (lv_at hl 1 rfl) ?_
  refine lv_icmp_lt (tgt := 16) hx hb dJ3_checkIndex_8e157_6 (by decide) (fun _ => ?_) (fun c_1 => absurd h1 c_1)
  refine lv_iload_n hx hb dJ3_checkIndex_8e157_16 rfl (lv_at hl 0 rfl) ?_
  exact hret _ _ _ _ hw rfl dJ3_checkIndex_8e157_17)
theorem mkS_check0 {k n : Int32} (h0 : ¬ k < 0) (h1 : k < n) : mMV l yJ0_checkIndex_df160 cJ0_checkIndex_df160 2 1 22 v a sz [.int k, .int n] F G F G := mMV.of (by decide) (Nat.le_of_ble_eq_true rfl) (fun p e R s m args below meth c Q A H locs ls C hw hl hret => by
  have hx := C.1
  have hb := C.2.1
  refine lv_iload_n hx hb dJ0_checkIndex_df160_0 rfl (lv_at hl 0 rfl) ?_
  refine lv_iload_n hx hb dJ0_checkIndex_df160_1 rfl (lv_at hl 1 rfl) ?_
  rcases C.2.2.2.2.2.2.2.2.2.2.1 with hZ | ⟨t, hZ⟩
  · refine va_gets hx hb hZ hw.2.2 C.2.2.2.1 (C.2.2.2.2.1 _ mm_90) (fun _ h => h) dJ0_checkIndex_df160_2 ?_
    refine mcallIS (n := 3) (As := [.int k, .int n, .null]) (rest := []) C hw (mkS_check3N h0 h1) mm_91 mm_92 mm_93 mm_94 (by decide +kernel) rfl (by omega) (by omega) hl.1 rfl (Nat.le_of_ble_eq_true rfl) dJ0_checkIndex_df160_5 (fun H locs hw => ?_)
    refine lv_pop hx hb dJ0_checkIndex_df160_8 rfl ?_
    exact hret _ _ _ _ hw dJ0_checkIndex_df160_9
  · refine va_gets hx hb hZ hw.2.2 C.2.2.2.1 (C.2.2.2.2.1 _ mm_90) (fun _ h => h) dJ0_checkIndex_df160_2 ?_
    refine mcallIS (n := 3) (As := [.int k, .int n, .ref t]) (rest := []) C hw (mkS_check3R h0 h1) mm_91 mm_92 mm_93 mm_94 (by decide +kernel) rfl (by omega) (by omega) hl.1 rfl (Nat.le_of_ble_eq_true rfl) dJ0_checkIndex_df160_5 (fun H locs hw => ?_)
    refine lv_pop hx hb dJ0_checkIndex_df160_8 rfl ?_
    exact hret _ _ _ _ hw dJ0_checkIndex_df160_9)
def chS (i : Nat) (k : Int32) : Int32 := (((bytS.getD i []).getD k.toNatClampNeg 0 &&& 255).toUInt32 % 65536).toInt32
theorem mkS_at1 {i : Nat} {k : Int32} (hi : i < 4) (hk : vp_in k (lenS.getD i 0)) : mMI l yJ1_charAt_3b067 cJ1_charAt_3b067 2 (some .char) 2 43 v a sz [.ref (eV v i), .int k] F G (chS i k) F G := mMI.of (ty := .char) (by decide) rfl (Nat.le_of_ble_eq_true rfl) (fun p e R s m args below meth c Q A H locs ls C hw hl hret => by
  have hx := C.1
  have hb := C.2.1
  have hs := C.2.2.2.2.2.2.2.2.2.2.2.1.1 i hi
  have hlen : lenS.getD i 0 < 2 ^ 31 := lenS_lt hi
  have h0 : ¬ k < 0 := fun h => hk (Or.inl h)
  have h1 : k < nI (lenS.getD i 0) := by
    obtain ⟨j, hj, rfl⟩ := vp_in_of hk hlen
    exact nI_lt hj hlen
  refine lv_iload_n hx hb dJ1_charAt_3b067_0 rfl (lv_at hl 1 rfl) ?_
  refine lv_aload_n hx hb dJ1_charAt_3b067_1 rfl (lv_at hl 0 rfl) ?_
  refine va_tlen (v := nI (lenS.getD i 0)) hx hb hs.2.2.2 hw.2.2 rfl dJ1_charAt_3b067_2 ?_
  refine mcallVS (n := 2) (As := [.int k, .int (nI (lenS.getD i 0))]) (rest := []) C hw (mkS_check0 h0 h1) mm_87 mm_88 mm_66 mm_89 (by decide +kernel) rfl (by omega) (by omega) hl.1 rfl (Nat.le_of_ble_eq_true rfl) dJ1_charAt_3b067_3 (fun H locs hw => ?_)
  refine lv_aload_n hx hb dJ1_charAt_3b067_6 rfl (lv_at hl 0 rfl) ?_
  refine lv_iload_n hx hb dJ1_charAt_3b067_7 rfl (lv_at hl 1 rfl) ?_
  refine va_tb (v := .int ((bytS.getD i []).getD k.toNatClampNeg 0)) hx hb hs.2.2.2 hw.2.2 hk rfl dJ1_charAt_3b067_8 ?_
  refine lv_sipush (v := 255) hx hb dJ1_charAt_3b067_9 (by decide) ?_
  refine lv_iand hx hb dJ1_charAt_3b067_12 ?_
  refine lv_i2c (v := chS i k) hx hb dJ1_charAt_3b067_13 rfl ?_
  exact hret _ _ _ _ hw (pk_nc _) dJ1_charAt_3b067_14)
end STR
def mf_J0_length_8abf5 (fu : Nat) (i : Nat) (F : PF) (G : PG) : PR := if i < 4 then some (nI (lenS.getD i 0) >>> ((0 : Int32) &&& 31), F, G) else none
def mf_J0_charAt_5068e (fu : Nat) (i : Nat) (k : Int32) (F : PF) (G : PG) : PR := if i < 4 then (if ixb k (lenS.getD i 0) = true then some (chS i k, F, G) else none) else none
theorem mlt_J0_length_8abf5 {fu i : Nat} {F : PF} {G : PG} {q : Int32 × PF × PG} (h : mf_J0_length_8abf5 fu i F G = some q) : i < 4 := by
  by_cases hi : i < 4
  · exact hi
  · exact no_elim ((if_neg hi).symm.trans h)
theorem mlt_J0_charAt_5068e {fu i : Nat} {k : Int32} {F : PF} {G : PG} {q : Int32 × PF × PG} (h : mf_J0_charAt_5068e fu i k F G = some q) : i < 4 := by
  by_cases hi : i < 4
  · exact hi
  · exact no_elim ((if_neg hi).symm.trans h)
theorem mk_J0_length_8abf5 (l : Launch) (v : EV) (a : Nat → Nat) (sz : Nat) (fu : Nat) (i : Nat) (F : PF) (G : PG) (r : Int32) (F1 : PF) (G1 : PG) (hm : mf_J0_length_8abf5 fu i F G = some (r, F1, G1)) : mMI l yJ0_length_8abf5 cJ0_length_8abf5 1 (some .int) 1 20 v a sz [.ref (eK v i)] F G r F1 G1 := mMI.of (ty := .int) (by decide) rfl (Nat.le_of_ble_eq_true rfl) (fun p e R s m args below meth c Q A H locs ls C hw hl hret => by
  have hx := C.1
  have hb := C.2.1
  have hi := mlt_J0_length_8abf5 hm
  have hm := (if_pos hi).symm.trans hm
  obtain ⟨rfl, rfl, rfl⟩ := Prod.mk.inj (Option.some.inj hm) |>.imp id Prod.mk.inj
  have hs := C.2.2.2.2.2.2.2.2.2.2.2.1.1 i hi
  refine lv_aload_n hx hb dJ0_length_8abf5_0 rfl (lv_at hl 0 rfl) ?_
  refine vk_getf hx hb hs.2.2.1 hw.2.2 C.2.2.2.1 (C.2.2.2.2.1 _ mm_68) (fun _ h => h) dJ0_length_8abf5_1 ?_
  refine va_tlen (v := nI (lenS.getD i 0)) hx hb hs.2.2.2 hw.2.2 rfl dJ0_length_8abf5_4 ?_
  refine lv_aload_n hx hb dJ0_length_8abf5_5 rfl (lv_at hl 0 rfl) ?_
  refine mcallI (n := 0) (As := []) (rest := [.int (nI (lenS.getD i 0))]) C hw (mkS_coder hi) (vk_recv C.2.2.2.2.2.2.2.2.2.2.2.1 hi hw.2.2) mm_69 mm_70 mm_71 mm_66 mm_72 (by decide +kernel) rfl (by omega) (by omega) hl.1 rfl (Nat.le_of_ble_eq_true rfl) dJ0_length_8abf5_6 (fun H locs hw => ?_)
  refine lv_ishr hx hb dJ0_length_8abf5_9 ?_
  exact hret _ _ _ _ hw rfl dJ0_length_8abf5_10)
theorem mk_J0_charAt_5068e (l : Launch) (v : EV) (a : Nat → Nat) (sz : Nat) (fu : Nat) (i : Nat) (k : Int32) (F : PF) (G : PG) (r : Int32) (F1 : PF) (G1 : PG) (hm : mf_J0_charAt_5068e fu i k F G = some (r, F1, G1)) : mMI l yJ0_charAt_5068e cJ0_charAt_5068e 2 (some .char) 3 64 v a sz [.ref (eK v i), .int k] F G r F1 G1 := mMI.of (ty := .char) (by decide) rfl (Nat.le_of_ble_eq_true rfl) (fun p e R s m args below meth c Q A H locs ls C hw hl hret => by
  have hx := C.1
  have hb := C.2.1
  have hi := mlt_J0_charAt_5068e hm
  have hm := (if_pos hi).symm.trans hm
  obtain ⟨hk, hm⟩ := ix_elim hm
  obtain ⟨rfl, rfl, rfl⟩ := Prod.mk.inj (Option.some.inj hm) |>.imp id Prod.mk.inj
  have hs := C.2.2.2.2.2.2.2.2.2.2.2.1.1 i hi
  refine lv_aload_n hx hb dJ0_charAt_5068e_0 rfl (lv_at hl 0 rfl) ?_
  refine mcallI (n := 0) (As := []) (rest := []) C hw (mkS_isLatin1 hi) (vk_recv C.2.2.2.2.2.2.2.2.2.2.2.1 hi hw.2.2) mm_79 mm_80 mm_81 mm_66 mm_82 (by decide +kernel) rfl (by omega) (by omega) hl.1 rfl (Nat.le_of_ble_eq_true rfl) dJ0_charAt_5068e_1 (fun H locs hw => ?_)
  refine lv_if_eq (tgt := 16) hx hb dJ0_charAt_5068e_4 (by decide) (fun c_1 => absurd c_1 (by decide)) (fun _ => ?_)
  refine lv_aload_n hx hb dJ0_charAt_5068e_7 rfl (lv_at hl 0 rfl) ?_
  refine vk_getf hx hb hs.2.2.1 hw.2.2 C.2.2.2.1 (C.2.2.2.2.1 _ mm_68) (fun _ h => h) dJ0_charAt_5068e_8 ?_
  refine lv_iload_n hx hb dJ0_charAt_5068e_11 rfl (lv_at hl 1 rfl) ?_
  refine mcallIS (n := 2) (As := [.ref (eV v i), .int k]) (rest := []) C hw (mkS_at1 hi hk) mm_83 mm_84 mm_85 mm_86 (by decide +kernel) rfl (by omega) (by omega) hl.1 rfl (Nat.le_of_ble_eq_true rfl) dJ0_charAt_5068e_12 (fun H locs hw => ?_)
  exact hret _ _ _ _ hw (pk_nc _) dJ0_charAt_5068e_15)
