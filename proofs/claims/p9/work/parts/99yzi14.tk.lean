def kS (w : Nat) : Int32 := ([40, 56, 38, 39, 30, 31, 32, 33, 34, 35, 36, 37, 41, 42, 43, 44, 48, 49, 51, 53, 54, 55, 19, 20, 21, 22, 23, 24, 25, 26, 27, 28, 29, 45, 46, 47, 50, 52, 57, 58, 59, 60, 61, 62, 63] : List Int32).getD w 0
theorem SGM.at {b : Nat → Int32} {x w : Nat} (h : SGM b x w) (j : Nat) (hj : j < sgl w) : chS 0 (nI (stS w + j)) = b (x + j) := h j hj
/-- signs that begin with sgc i -/
theorem sg_f {b : Nat → Int32} {x v : Nat} (hv : v < 45) (h : SGM b x v) : chS 0 (nI (stS v)) = b x := h 0 (sgl_4 v hv).1
theorem sg_none {b : Nat → Int32} {x : Nat} (h : ∀ i : Nat, i < 23 → ¬ sgc i = b x) : ∀ v : Nat, v < 45 → ¬ SGM b x v := by
  intro v hv g
  have q : ∀ v : Nat, v < 45 → ∃ i : Nat, i < 23 ∧ sgc i = chS 0 (nI (stS v)) := by
    have d : ∀ v : Nat, v < 45 → (List.range 23).any (fun i => decide (sgc i = chS 0 (nI (stS v)))) = true := by decide +kernel
    intro v hv
    obtain ⟨i, hi, e⟩ := List.any_eq_true.mp (d v hv)
    exact ⟨i, List.mem_range.mp hi, of_decide_eq_true e⟩
  obtain ⟨i, hi, e⟩ := q v hv
  exact h i hi (e.trans (sg_f hv g))
theorem sg_c0 : ∀ v : Nat, v < 45 → chS 0 (nI (stS v)) = 40 → v = 22 := by decide +kernel
theorem sg_c1 : ∀ v : Nat, v < 45 → chS 0 (nI (stS v)) = 41 → v = 23 := by decide +kernel
theorem sg_c2 : ∀ v : Nat, v < 45 → chS 0 (nI (stS v)) = 91 → v = 24 := by decide +kernel
theorem sg_c3 : ∀ v : Nat, v < 45 → chS 0 (nI (stS v)) = 93 → v = 25 := by decide +kernel
theorem sg_c4 : ∀ v : Nat, v < 45 → chS 0 (nI (stS v)) = 123 → v = 26 := by decide +kernel
theorem sg_c5 : ∀ v : Nat, v < 45 → chS 0 (nI (stS v)) = 125 → v = 27 := by decide +kernel
theorem sg_c6 : ∀ v : Nat, v < 45 → chS 0 (nI (stS v)) = 44 → v = 28 := by decide +kernel
theorem sg_c7 : ∀ v : Nat, v < 45 → chS 0 (nI (stS v)) = 59 → v = 29 := by decide +kernel
theorem sg_c8 : ∀ v : Nat, v < 45 → chS 0 (nI (stS v)) = 63 → v = 30 := by decide +kernel
theorem sg_c9 : ∀ v : Nat, v < 45 → chS 0 (nI (stS v)) = 58 → v = 31 := by decide +kernel
theorem sg_c10 : ∀ v : Nat, v < 45 → chS 0 (nI (stS v)) = 61 → v = 16 ∨ v = 32 := by decide +kernel
theorem sg_c11 : ∀ v : Nat, v < 45 → chS 0 (nI (stS v)) = 43 → v = 4 ∨ v = 12 ∨ v = 38 := by decide +kernel
theorem sg_c12 : ∀ v : Nat, v < 45 → chS 0 (nI (stS v)) = 45 → v = 5 ∨ v = 13 ∨ v = 39 := by decide +kernel
theorem sg_c13 : ∀ v : Nat, v < 45 → chS 0 (nI (stS v)) = 42 → v = 6 ∨ v = 40 := by decide +kernel
theorem sg_c14 : ∀ v : Nat, v < 45 → chS 0 (nI (stS v)) = 47 → v = 7 ∨ v = 41 := by decide +kernel
theorem sg_c15 : ∀ v : Nat, v < 45 → chS 0 (nI (stS v)) = 37 → v = 8 ∨ v = 42 := by decide +kernel
theorem sg_c16 : ∀ v : Nat, v < 45 → chS 0 (nI (stS v)) = 38 → v = 9 ∨ v = 15 ∨ v = 35 := by decide +kernel
theorem sg_c17 : ∀ v : Nat, v < 45 → chS 0 (nI (stS v)) = 124 → v = 10 ∨ v = 14 ∨ v = 33 := by decide +kernel
theorem sg_c18 : ∀ v : Nat, v < 45 → chS 0 (nI (stS v)) = 94 → v = 11 ∨ v = 34 := by decide +kernel
theorem sg_c19 : ∀ v : Nat, v < 45 → chS 0 (nI (stS v)) = 60 → v = 2 ∨ v = 18 ∨ v = 20 ∨ v = 36 := by decide +kernel
theorem sg_c20 : ∀ v : Nat, v < 45 → chS 0 (nI (stS v)) = 62 → v = 0 ∨ v = 1 ∨ v = 3 ∨ v = 19 ∨ v = 21 ∨ v = 37 := by decide +kernel
theorem sg_c21 : ∀ v : Nat, v < 45 → chS 0 (nI (stS v)) = 126 → v = 43 := by decide +kernel
theorem sg_c22 : ∀ v : Nat, v < 45 → chS 0 (nI (stS v)) = 33 → v = 17 ∨ v = 44 := by decide +kernel
/-- what a sign of the class comes to -/
def CSG (b : Nat → Int32) (n x : Nat) (x1 : Int32) (Fc : PF) (Gc : PG) (r : Int32) (F' : PF) (G' : PG) : Prop := (∃ w : Nat, SGT b x w ∧ r = nI (x + sgl w) ∧ addC Fc Gc (kS w) 0 x1 F' G') ∨ ((∀ w : Nat, w < 45 → ¬ SGM b x w) ∧ r = -1 ∧ Fc = F' ∧ Gc = G')
theorem cp_178 {fu : Nat} {b : Nat → Int32} {n x w : Nat} {x1 x4 x6 : Int32} {Fc : PF} {Gc : PG} (h93 : (Fc 93).toInt < 4001) (t : SGT b x w) (e4 : x4 = nI (x + sgl w)) (e6 : x6 = kS w) : PP (cb_X10_behindSign_178 fu x1 x4 x6 Fc Gc) (CSG b n x x1 Fc Gc) := by
  unfold cb_X10_behindSign_178 cb_X10_behindSign_186
  exact PP.bind (cp_add x6 0 x1 Fc Gc h93) (fun r F' G' q => PP.ret (.inl ⟨w, t, e4, by rw [← e6]; exact q⟩))
theorem sg_t0_22_ek140 {b : Nat → Int32} {x : Nat} (k0 : b x = 40) (k1 : b (x + 1) = 40) : SGT b x 22 := by
  refine ⟨by decide, fun j hj => ?_, fun v hv g => ?_⟩
  · have hj : j < 1 := hj
    rcases (show j = 0 by omega) with rfl
    · exact (show chS 0 (nI (stS 22 + 0)) = 40 by decide).trans k0.symm
  · rcases sg_c0 v hv ((sg_f hv g).trans k0) with rfl
    · decide
theorem sg_t0_22_e {b : Nat → Int32} {x : Nat} (k0 : b x = 40)  : SGT b x 22 := by
  refine ⟨by decide, fun j hj => ?_, fun v hv g => ?_⟩
  · have hj : j < 1 := hj
    rcases (show j = 0 by omega) with rfl
    · exact (show chS 0 (nI (stS 22 + 0)) = 40 by decide).trans k0.symm
  · rcases sg_c0 v hv ((sg_f hv g).trans k0) with rfl
    · decide
theorem sg_t1_23_ek141 {b : Nat → Int32} {x : Nat} (k0 : b x = 41) (k1 : b (x + 1) = 41) : SGT b x 23 := by
  refine ⟨by decide, fun j hj => ?_, fun v hv g => ?_⟩
  · have hj : j < 1 := hj
    rcases (show j = 0 by omega) with rfl
    · exact (show chS 0 (nI (stS 23 + 0)) = 41 by decide).trans k0.symm
  · rcases sg_c1 v hv ((sg_f hv g).trans k0) with rfl
    · decide
theorem sg_t1_23_e {b : Nat → Int32} {x : Nat} (k0 : b x = 41)  : SGT b x 23 := by
  refine ⟨by decide, fun j hj => ?_, fun v hv g => ?_⟩
  · have hj : j < 1 := hj
    rcases (show j = 0 by omega) with rfl
    · exact (show chS 0 (nI (stS 23 + 0)) = 41 by decide).trans k0.symm
  · rcases sg_c1 v hv ((sg_f hv g).trans k0) with rfl
    · decide
theorem sg_t2_24_ek191 {b : Nat → Int32} {x : Nat} (k0 : b x = 91) (k1 : b (x + 1) = 91) : SGT b x 24 := by
  refine ⟨by decide, fun j hj => ?_, fun v hv g => ?_⟩
  · have hj : j < 1 := hj
    rcases (show j = 0 by omega) with rfl
    · exact (show chS 0 (nI (stS 24 + 0)) = 91 by decide).trans k0.symm
  · rcases sg_c2 v hv ((sg_f hv g).trans k0) with rfl
    · decide
theorem sg_t2_24_e {b : Nat → Int32} {x : Nat} (k0 : b x = 91)  : SGT b x 24 := by
  refine ⟨by decide, fun j hj => ?_, fun v hv g => ?_⟩
  · have hj : j < 1 := hj
    rcases (show j = 0 by omega) with rfl
    · exact (show chS 0 (nI (stS 24 + 0)) = 91 by decide).trans k0.symm
  · rcases sg_c2 v hv ((sg_f hv g).trans k0) with rfl
    · decide
theorem sg_t3_25_ek193 {b : Nat → Int32} {x : Nat} (k0 : b x = 93) (k1 : b (x + 1) = 93) : SGT b x 25 := by
  refine ⟨by decide, fun j hj => ?_, fun v hv g => ?_⟩
  · have hj : j < 1 := hj
    rcases (show j = 0 by omega) with rfl
    · exact (show chS 0 (nI (stS 25 + 0)) = 93 by decide).trans k0.symm
  · rcases sg_c3 v hv ((sg_f hv g).trans k0) with rfl
    · decide
theorem sg_t3_25_e {b : Nat → Int32} {x : Nat} (k0 : b x = 93)  : SGT b x 25 := by
  refine ⟨by decide, fun j hj => ?_, fun v hv g => ?_⟩
  · have hj : j < 1 := hj
    rcases (show j = 0 by omega) with rfl
    · exact (show chS 0 (nI (stS 25 + 0)) = 93 by decide).trans k0.symm
  · rcases sg_c3 v hv ((sg_f hv g).trans k0) with rfl
    · decide
theorem sg_t4_26_ek1123 {b : Nat → Int32} {x : Nat} (k0 : b x = 123) (k1 : b (x + 1) = 123) : SGT b x 26 := by
  refine ⟨by decide, fun j hj => ?_, fun v hv g => ?_⟩
  · have hj : j < 1 := hj
    rcases (show j = 0 by omega) with rfl
    · exact (show chS 0 (nI (stS 26 + 0)) = 123 by decide).trans k0.symm
  · rcases sg_c4 v hv ((sg_f hv g).trans k0) with rfl
    · decide
theorem sg_t4_26_e {b : Nat → Int32} {x : Nat} (k0 : b x = 123)  : SGT b x 26 := by
  refine ⟨by decide, fun j hj => ?_, fun v hv g => ?_⟩
  · have hj : j < 1 := hj
    rcases (show j = 0 by omega) with rfl
    · exact (show chS 0 (nI (stS 26 + 0)) = 123 by decide).trans k0.symm
  · rcases sg_c4 v hv ((sg_f hv g).trans k0) with rfl
    · decide
theorem sg_t5_27_ek1125 {b : Nat → Int32} {x : Nat} (k0 : b x = 125) (k1 : b (x + 1) = 125) : SGT b x 27 := by
  refine ⟨by decide, fun j hj => ?_, fun v hv g => ?_⟩
  · have hj : j < 1 := hj
    rcases (show j = 0 by omega) with rfl
    · exact (show chS 0 (nI (stS 27 + 0)) = 125 by decide).trans k0.symm
  · rcases sg_c5 v hv ((sg_f hv g).trans k0) with rfl
    · decide
theorem sg_t5_27_e {b : Nat → Int32} {x : Nat} (k0 : b x = 125)  : SGT b x 27 := by
  refine ⟨by decide, fun j hj => ?_, fun v hv g => ?_⟩
  · have hj : j < 1 := hj
    rcases (show j = 0 by omega) with rfl
    · exact (show chS 0 (nI (stS 27 + 0)) = 125 by decide).trans k0.symm
  · rcases sg_c5 v hv ((sg_f hv g).trans k0) with rfl
    · decide
theorem sg_t6_28_ek144 {b : Nat → Int32} {x : Nat} (k0 : b x = 44) (k1 : b (x + 1) = 44) : SGT b x 28 := by
  refine ⟨by decide, fun j hj => ?_, fun v hv g => ?_⟩
  · have hj : j < 1 := hj
    rcases (show j = 0 by omega) with rfl
    · exact (show chS 0 (nI (stS 28 + 0)) = 44 by decide).trans k0.symm
  · rcases sg_c6 v hv ((sg_f hv g).trans k0) with rfl
    · decide
theorem sg_t6_28_e {b : Nat → Int32} {x : Nat} (k0 : b x = 44)  : SGT b x 28 := by
  refine ⟨by decide, fun j hj => ?_, fun v hv g => ?_⟩
  · have hj : j < 1 := hj
    rcases (show j = 0 by omega) with rfl
    · exact (show chS 0 (nI (stS 28 + 0)) = 44 by decide).trans k0.symm
  · rcases sg_c6 v hv ((sg_f hv g).trans k0) with rfl
    · decide
theorem sg_t7_29_ek159 {b : Nat → Int32} {x : Nat} (k0 : b x = 59) (k1 : b (x + 1) = 59) : SGT b x 29 := by
  refine ⟨by decide, fun j hj => ?_, fun v hv g => ?_⟩
  · have hj : j < 1 := hj
    rcases (show j = 0 by omega) with rfl
    · exact (show chS 0 (nI (stS 29 + 0)) = 59 by decide).trans k0.symm
  · rcases sg_c7 v hv ((sg_f hv g).trans k0) with rfl
    · decide
theorem sg_t7_29_e {b : Nat → Int32} {x : Nat} (k0 : b x = 59)  : SGT b x 29 := by
  refine ⟨by decide, fun j hj => ?_, fun v hv g => ?_⟩
  · have hj : j < 1 := hj
    rcases (show j = 0 by omega) with rfl
    · exact (show chS 0 (nI (stS 29 + 0)) = 59 by decide).trans k0.symm
  · rcases sg_c7 v hv ((sg_f hv g).trans k0) with rfl
    · decide
theorem sg_t8_30_ek163 {b : Nat → Int32} {x : Nat} (k0 : b x = 63) (k1 : b (x + 1) = 63) : SGT b x 30 := by
  refine ⟨by decide, fun j hj => ?_, fun v hv g => ?_⟩
  · have hj : j < 1 := hj
    rcases (show j = 0 by omega) with rfl
    · exact (show chS 0 (nI (stS 30 + 0)) = 63 by decide).trans k0.symm
  · rcases sg_c8 v hv ((sg_f hv g).trans k0) with rfl
    · decide
theorem sg_t8_30_e {b : Nat → Int32} {x : Nat} (k0 : b x = 63)  : SGT b x 30 := by
  refine ⟨by decide, fun j hj => ?_, fun v hv g => ?_⟩
  · have hj : j < 1 := hj
    rcases (show j = 0 by omega) with rfl
    · exact (show chS 0 (nI (stS 30 + 0)) = 63 by decide).trans k0.symm
  · rcases sg_c8 v hv ((sg_f hv g).trans k0) with rfl
    · decide
theorem sg_t9_31_ek158 {b : Nat → Int32} {x : Nat} (k0 : b x = 58) (k1 : b (x + 1) = 58) : SGT b x 31 := by
  refine ⟨by decide, fun j hj => ?_, fun v hv g => ?_⟩
  · have hj : j < 1 := hj
    rcases (show j = 0 by omega) with rfl
    · exact (show chS 0 (nI (stS 31 + 0)) = 58 by decide).trans k0.symm
  · rcases sg_c9 v hv ((sg_f hv g).trans k0) with rfl
    · decide
theorem sg_t9_31_e {b : Nat → Int32} {x : Nat} (k0 : b x = 58)  : SGT b x 31 := by
  refine ⟨by decide, fun j hj => ?_, fun v hv g => ?_⟩
  · have hj : j < 1 := hj
    rcases (show j = 0 by omega) with rfl
    · exact (show chS 0 (nI (stS 31 + 0)) = 58 by decide).trans k0.symm
  · rcases sg_c9 v hv ((sg_f hv g).trans k0) with rfl
    · decide
theorem sg_t10_16_ek161 {b : Nat → Int32} {x : Nat} (k0 : b x = 61) (k1 : b (x + 1) = 61) : SGT b x 16 := by
  refine ⟨by decide, fun j hj => ?_, fun v hv g => ?_⟩
  · have hj : j < 2 := hj
    rcases (show j = 0 ∨ j = 1 by omega) with rfl | rfl
    · exact (show chS 0 (nI (stS 16 + 0)) = 61 by decide).trans k0.symm
    · exact (show chS 0 (nI (stS 16 + 1)) = 61 by decide).trans k1.symm
  · rcases sg_c10 v hv ((sg_f hv g).trans k0) with rfl | rfl
    · decide
    · decide
theorem sg_t10_32_161 {b : Nat → Int32} {x : Nat} (k0 : b x = 61) (n1_61 : ¬ b (x + 1) = 61) : SGT b x 32 := by
  refine ⟨by decide, fun j hj => ?_, fun v hv g => ?_⟩
  · have hj : j < 1 := hj
    rcases (show j = 0 by omega) with rfl
    · exact (show chS 0 (nI (stS 32 + 0)) = 61 by decide).trans k0.symm
  · rcases sg_c10 v hv ((sg_f hv g).trans k0) with rfl | rfl
    · exact absurd ((g 1 (by decide)).symm.trans (show chS 0 (nI (stS 16 + 1)) = 61 by decide)) n1_61
    · decide
theorem sg_t11_12_ek143 {b : Nat → Int32} {x : Nat} (k0 : b x = 43) (k1 : b (x + 1) = 43) : SGT b x 12 := by
  refine ⟨by decide, fun j hj => ?_, fun v hv g => ?_⟩
  · have hj : j < 2 := hj
    rcases (show j = 0 ∨ j = 1 by omega) with rfl | rfl
    · exact (show chS 0 (nI (stS 12 + 0)) = 43 by decide).trans k0.symm
    · exact (show chS 0 (nI (stS 12 + 1)) = 43 by decide).trans k1.symm
  · rcases sg_c11 v hv ((sg_f hv g).trans k0) with rfl | rfl | rfl
    · decide
    · decide
    · decide
theorem sg_t11_4_ek161 {b : Nat → Int32} {x : Nat} (k0 : b x = 43) (k1 : b (x + 1) = 61) : SGT b x 4 := by
  refine ⟨by decide, fun j hj => ?_, fun v hv g => ?_⟩
  · have hj : j < 2 := hj
    rcases (show j = 0 ∨ j = 1 by omega) with rfl | rfl
    · exact (show chS 0 (nI (stS 4 + 0)) = 43 by decide).trans k0.symm
    · exact (show chS 0 (nI (stS 4 + 1)) = 61 by decide).trans k1.symm
  · rcases sg_c11 v hv ((sg_f hv g).trans k0) with rfl | rfl | rfl
    · decide
    · decide
    · decide
theorem sg_t11_38_143_161 {b : Nat → Int32} {x : Nat} (k0 : b x = 43) (n1_43 : ¬ b (x + 1) = 43) (n1_61 : ¬ b (x + 1) = 61) : SGT b x 38 := by
  refine ⟨by decide, fun j hj => ?_, fun v hv g => ?_⟩
  · have hj : j < 1 := hj
    rcases (show j = 0 by omega) with rfl
    · exact (show chS 0 (nI (stS 38 + 0)) = 43 by decide).trans k0.symm
  · rcases sg_c11 v hv ((sg_f hv g).trans k0) with rfl | rfl | rfl
    · exact absurd ((g 1 (by decide)).symm.trans (show chS 0 (nI (stS 4 + 1)) = 61 by decide)) n1_61
    · exact absurd ((g 1 (by decide)).symm.trans (show chS 0 (nI (stS 12 + 1)) = 43 by decide)) n1_43
    · decide
theorem sg_t12_13_ek145 {b : Nat → Int32} {x : Nat} (k0 : b x = 45) (k1 : b (x + 1) = 45) : SGT b x 13 := by
  refine ⟨by decide, fun j hj => ?_, fun v hv g => ?_⟩
  · have hj : j < 2 := hj
    rcases (show j = 0 ∨ j = 1 by omega) with rfl | rfl
    · exact (show chS 0 (nI (stS 13 + 0)) = 45 by decide).trans k0.symm
    · exact (show chS 0 (nI (stS 13 + 1)) = 45 by decide).trans k1.symm
  · rcases sg_c12 v hv ((sg_f hv g).trans k0) with rfl | rfl | rfl
    · decide
    · decide
    · decide
theorem sg_t12_5_ek161 {b : Nat → Int32} {x : Nat} (k0 : b x = 45) (k1 : b (x + 1) = 61) : SGT b x 5 := by
  refine ⟨by decide, fun j hj => ?_, fun v hv g => ?_⟩
  · have hj : j < 2 := hj
    rcases (show j = 0 ∨ j = 1 by omega) with rfl | rfl
    · exact (show chS 0 (nI (stS 5 + 0)) = 45 by decide).trans k0.symm
    · exact (show chS 0 (nI (stS 5 + 1)) = 61 by decide).trans k1.symm
  · rcases sg_c12 v hv ((sg_f hv g).trans k0) with rfl | rfl | rfl
    · decide
    · decide
    · decide
theorem sg_t12_39_145_161 {b : Nat → Int32} {x : Nat} (k0 : b x = 45) (n1_45 : ¬ b (x + 1) = 45) (n1_61 : ¬ b (x + 1) = 61) : SGT b x 39 := by
  refine ⟨by decide, fun j hj => ?_, fun v hv g => ?_⟩
  · have hj : j < 1 := hj
    rcases (show j = 0 by omega) with rfl
    · exact (show chS 0 (nI (stS 39 + 0)) = 45 by decide).trans k0.symm
  · rcases sg_c12 v hv ((sg_f hv g).trans k0) with rfl | rfl | rfl
    · exact absurd ((g 1 (by decide)).symm.trans (show chS 0 (nI (stS 5 + 1)) = 61 by decide)) n1_61
    · exact absurd ((g 1 (by decide)).symm.trans (show chS 0 (nI (stS 13 + 1)) = 45 by decide)) n1_45
    · decide
theorem sg_t13_6_ek161 {b : Nat → Int32} {x : Nat} (k0 : b x = 42) (k1 : b (x + 1) = 61) : SGT b x 6 := by
  refine ⟨by decide, fun j hj => ?_, fun v hv g => ?_⟩
  · have hj : j < 2 := hj
    rcases (show j = 0 ∨ j = 1 by omega) with rfl | rfl
    · exact (show chS 0 (nI (stS 6 + 0)) = 42 by decide).trans k0.symm
    · exact (show chS 0 (nI (stS 6 + 1)) = 61 by decide).trans k1.symm
  · rcases sg_c13 v hv ((sg_f hv g).trans k0) with rfl | rfl
    · decide
    · decide
theorem sg_t13_40_161k142 {b : Nat → Int32} {x : Nat} (k0 : b x = 42) (k1 : b (x + 1) = 42) (n1_61 : ¬ b (x + 1) = 61) : SGT b x 40 := by
  refine ⟨by decide, fun j hj => ?_, fun v hv g => ?_⟩
  · have hj : j < 1 := hj
    rcases (show j = 0 by omega) with rfl
    · exact (show chS 0 (nI (stS 40 + 0)) = 42 by decide).trans k0.symm
  · rcases sg_c13 v hv ((sg_f hv g).trans k0) with rfl | rfl
    · exact absurd ((show chS 0 (nI (stS 6 + 1)) = 61 by decide).symm.trans ((g 1 (by decide)).trans k1)) (by decide)
    · decide
theorem sg_t13_40_161 {b : Nat → Int32} {x : Nat} (k0 : b x = 42) (n1_61 : ¬ b (x + 1) = 61) : SGT b x 40 := by
  refine ⟨by decide, fun j hj => ?_, fun v hv g => ?_⟩
  · have hj : j < 1 := hj
    rcases (show j = 0 by omega) with rfl
    · exact (show chS 0 (nI (stS 40 + 0)) = 42 by decide).trans k0.symm
  · rcases sg_c13 v hv ((sg_f hv g).trans k0) with rfl | rfl
    · exact absurd ((g 1 (by decide)).symm.trans (show chS 0 (nI (stS 6 + 1)) = 61 by decide)) n1_61
    · decide
theorem sg_t14_7_ek161 {b : Nat → Int32} {x : Nat} (k0 : b x = 47) (k1 : b (x + 1) = 61) : SGT b x 7 := by
  refine ⟨by decide, fun j hj => ?_, fun v hv g => ?_⟩
  · have hj : j < 2 := hj
    rcases (show j = 0 ∨ j = 1 by omega) with rfl | rfl
    · exact (show chS 0 (nI (stS 7 + 0)) = 47 by decide).trans k0.symm
    · exact (show chS 0 (nI (stS 7 + 1)) = 61 by decide).trans k1.symm
  · rcases sg_c14 v hv ((sg_f hv g).trans k0) with rfl | rfl
    · decide
    · decide
theorem sg_t14_41_161k147 {b : Nat → Int32} {x : Nat} (k0 : b x = 47) (k1 : b (x + 1) = 47) (n1_61 : ¬ b (x + 1) = 61) : SGT b x 41 := by
  refine ⟨by decide, fun j hj => ?_, fun v hv g => ?_⟩
  · have hj : j < 1 := hj
    rcases (show j = 0 by omega) with rfl
    · exact (show chS 0 (nI (stS 41 + 0)) = 47 by decide).trans k0.symm
  · rcases sg_c14 v hv ((sg_f hv g).trans k0) with rfl | rfl
    · exact absurd ((show chS 0 (nI (stS 7 + 1)) = 61 by decide).symm.trans ((g 1 (by decide)).trans k1)) (by decide)
    · decide
theorem sg_t14_41_161 {b : Nat → Int32} {x : Nat} (k0 : b x = 47) (n1_61 : ¬ b (x + 1) = 61) : SGT b x 41 := by
  refine ⟨by decide, fun j hj => ?_, fun v hv g => ?_⟩
  · have hj : j < 1 := hj
    rcases (show j = 0 by omega) with rfl
    · exact (show chS 0 (nI (stS 41 + 0)) = 47 by decide).trans k0.symm
  · rcases sg_c14 v hv ((sg_f hv g).trans k0) with rfl | rfl
    · exact absurd ((g 1 (by decide)).symm.trans (show chS 0 (nI (stS 7 + 1)) = 61 by decide)) n1_61
    · decide
theorem sg_t15_8_ek161 {b : Nat → Int32} {x : Nat} (k0 : b x = 37) (k1 : b (x + 1) = 61) : SGT b x 8 := by
  refine ⟨by decide, fun j hj => ?_, fun v hv g => ?_⟩
  · have hj : j < 2 := hj
    rcases (show j = 0 ∨ j = 1 by omega) with rfl | rfl
    · exact (show chS 0 (nI (stS 8 + 0)) = 37 by decide).trans k0.symm
    · exact (show chS 0 (nI (stS 8 + 1)) = 61 by decide).trans k1.symm
  · rcases sg_c15 v hv ((sg_f hv g).trans k0) with rfl | rfl
    · decide
    · decide
theorem sg_t15_42_161k137 {b : Nat → Int32} {x : Nat} (k0 : b x = 37) (k1 : b (x + 1) = 37) (n1_61 : ¬ b (x + 1) = 61) : SGT b x 42 := by
  refine ⟨by decide, fun j hj => ?_, fun v hv g => ?_⟩
  · have hj : j < 1 := hj
    rcases (show j = 0 by omega) with rfl
    · exact (show chS 0 (nI (stS 42 + 0)) = 37 by decide).trans k0.symm
  · rcases sg_c15 v hv ((sg_f hv g).trans k0) with rfl | rfl
    · exact absurd ((show chS 0 (nI (stS 8 + 1)) = 61 by decide).symm.trans ((g 1 (by decide)).trans k1)) (by decide)
    · decide
theorem sg_t15_42_161 {b : Nat → Int32} {x : Nat} (k0 : b x = 37) (n1_61 : ¬ b (x + 1) = 61) : SGT b x 42 := by
  refine ⟨by decide, fun j hj => ?_, fun v hv g => ?_⟩
  · have hj : j < 1 := hj
    rcases (show j = 0 by omega) with rfl
    · exact (show chS 0 (nI (stS 42 + 0)) = 37 by decide).trans k0.symm
  · rcases sg_c15 v hv ((sg_f hv g).trans k0) with rfl | rfl
    · exact absurd ((g 1 (by decide)).symm.trans (show chS 0 (nI (stS 8 + 1)) = 61 by decide)) n1_61
    · decide
theorem sg_t16_15_ek138 {b : Nat → Int32} {x : Nat} (k0 : b x = 38) (k1 : b (x + 1) = 38) : SGT b x 15 := by
  refine ⟨by decide, fun j hj => ?_, fun v hv g => ?_⟩
  · have hj : j < 2 := hj
    rcases (show j = 0 ∨ j = 1 by omega) with rfl | rfl
    · exact (show chS 0 (nI (stS 15 + 0)) = 38 by decide).trans k0.symm
    · exact (show chS 0 (nI (stS 15 + 1)) = 38 by decide).trans k1.symm
  · rcases sg_c16 v hv ((sg_f hv g).trans k0) with rfl | rfl | rfl
    · decide
    · decide
    · decide
theorem sg_t16_9_ek161 {b : Nat → Int32} {x : Nat} (k0 : b x = 38) (k1 : b (x + 1) = 61) : SGT b x 9 := by
  refine ⟨by decide, fun j hj => ?_, fun v hv g => ?_⟩
  · have hj : j < 2 := hj
    rcases (show j = 0 ∨ j = 1 by omega) with rfl | rfl
    · exact (show chS 0 (nI (stS 9 + 0)) = 38 by decide).trans k0.symm
    · exact (show chS 0 (nI (stS 9 + 1)) = 61 by decide).trans k1.symm
  · rcases sg_c16 v hv ((sg_f hv g).trans k0) with rfl | rfl | rfl
    · decide
    · decide
    · decide
theorem sg_t16_35_138_161 {b : Nat → Int32} {x : Nat} (k0 : b x = 38) (n1_38 : ¬ b (x + 1) = 38) (n1_61 : ¬ b (x + 1) = 61) : SGT b x 35 := by
  refine ⟨by decide, fun j hj => ?_, fun v hv g => ?_⟩
  · have hj : j < 1 := hj
    rcases (show j = 0 by omega) with rfl
    · exact (show chS 0 (nI (stS 35 + 0)) = 38 by decide).trans k0.symm
  · rcases sg_c16 v hv ((sg_f hv g).trans k0) with rfl | rfl | rfl
    · exact absurd ((g 1 (by decide)).symm.trans (show chS 0 (nI (stS 9 + 1)) = 61 by decide)) n1_61
    · exact absurd ((g 1 (by decide)).symm.trans (show chS 0 (nI (stS 15 + 1)) = 38 by decide)) n1_38
    · decide
theorem sg_t17_14_ek1124 {b : Nat → Int32} {x : Nat} (k0 : b x = 124) (k1 : b (x + 1) = 124) : SGT b x 14 := by
  refine ⟨by decide, fun j hj => ?_, fun v hv g => ?_⟩
  · have hj : j < 2 := hj
    rcases (show j = 0 ∨ j = 1 by omega) with rfl | rfl
    · exact (show chS 0 (nI (stS 14 + 0)) = 124 by decide).trans k0.symm
    · exact (show chS 0 (nI (stS 14 + 1)) = 124 by decide).trans k1.symm
  · rcases sg_c17 v hv ((sg_f hv g).trans k0) with rfl | rfl | rfl
    · decide
    · decide
    · decide
theorem sg_t17_10_ek161 {b : Nat → Int32} {x : Nat} (k0 : b x = 124) (k1 : b (x + 1) = 61) : SGT b x 10 := by
  refine ⟨by decide, fun j hj => ?_, fun v hv g => ?_⟩
  · have hj : j < 2 := hj
    rcases (show j = 0 ∨ j = 1 by omega) with rfl | rfl
    · exact (show chS 0 (nI (stS 10 + 0)) = 124 by decide).trans k0.symm
    · exact (show chS 0 (nI (stS 10 + 1)) = 61 by decide).trans k1.symm
  · rcases sg_c17 v hv ((sg_f hv g).trans k0) with rfl | rfl | rfl
    · decide
    · decide
    · decide
theorem sg_t17_33_161_1124 {b : Nat → Int32} {x : Nat} (k0 : b x = 124) (n1_61 : ¬ b (x + 1) = 61) (n1_124 : ¬ b (x + 1) = 124) : SGT b x 33 := by
  refine ⟨by decide, fun j hj => ?_, fun v hv g => ?_⟩
  · have hj : j < 1 := hj
    rcases (show j = 0 by omega) with rfl
    · exact (show chS 0 (nI (stS 33 + 0)) = 124 by decide).trans k0.symm
  · rcases sg_c17 v hv ((sg_f hv g).trans k0) with rfl | rfl | rfl
    · exact absurd ((g 1 (by decide)).symm.trans (show chS 0 (nI (stS 10 + 1)) = 61 by decide)) n1_61
    · exact absurd ((g 1 (by decide)).symm.trans (show chS 0 (nI (stS 14 + 1)) = 124 by decide)) n1_124
    · decide
theorem sg_t18_11_ek161 {b : Nat → Int32} {x : Nat} (k0 : b x = 94) (k1 : b (x + 1) = 61) : SGT b x 11 := by
  refine ⟨by decide, fun j hj => ?_, fun v hv g => ?_⟩
  · have hj : j < 2 := hj
    rcases (show j = 0 ∨ j = 1 by omega) with rfl | rfl
    · exact (show chS 0 (nI (stS 11 + 0)) = 94 by decide).trans k0.symm
    · exact (show chS 0 (nI (stS 11 + 1)) = 61 by decide).trans k1.symm
  · rcases sg_c18 v hv ((sg_f hv g).trans k0) with rfl | rfl
    · decide
    · decide
theorem sg_t18_34_161k194 {b : Nat → Int32} {x : Nat} (k0 : b x = 94) (k1 : b (x + 1) = 94) (n1_61 : ¬ b (x + 1) = 61) : SGT b x 34 := by
  refine ⟨by decide, fun j hj => ?_, fun v hv g => ?_⟩
  · have hj : j < 1 := hj
    rcases (show j = 0 by omega) with rfl
    · exact (show chS 0 (nI (stS 34 + 0)) = 94 by decide).trans k0.symm
  · rcases sg_c18 v hv ((sg_f hv g).trans k0) with rfl | rfl
    · exact absurd ((show chS 0 (nI (stS 11 + 1)) = 61 by decide).symm.trans ((g 1 (by decide)).trans k1)) (by decide)
    · decide
theorem sg_t18_34_161 {b : Nat → Int32} {x : Nat} (k0 : b x = 94) (n1_61 : ¬ b (x + 1) = 61) : SGT b x 34 := by
  refine ⟨by decide, fun j hj => ?_, fun v hv g => ?_⟩
  · have hj : j < 1 := hj
    rcases (show j = 0 by omega) with rfl
    · exact (show chS 0 (nI (stS 34 + 0)) = 94 by decide).trans k0.symm
  · rcases sg_c18 v hv ((sg_f hv g).trans k0) with rfl | rfl
    · exact absurd ((g 1 (by decide)).symm.trans (show chS 0 (nI (stS 11 + 1)) = 61 by decide)) n1_61
    · decide
theorem sg_t19_2_ek160k261 {b : Nat → Int32} {x : Nat} (k0 : b x = 60) (k1 : b (x + 1) = 60) (k2 : b (x + 2) = 61) : SGT b x 2 := by
  refine ⟨by decide, fun j hj => ?_, fun v hv g => ?_⟩
  · have hj : j < 3 := hj
    rcases (show j = 0 ∨ j = 1 ∨ j = 2 by omega) with rfl | rfl | rfl
    · exact (show chS 0 (nI (stS 2 + 0)) = 60 by decide).trans k0.symm
    · exact (show chS 0 (nI (stS 2 + 1)) = 60 by decide).trans k1.symm
    · exact (show chS 0 (nI (stS 2 + 2)) = 61 by decide).trans k2.symm
  · rcases sg_c19 v hv ((sg_f hv g).trans k0) with rfl | rfl | rfl | rfl
    · decide
    · decide
    · decide
    · decide
theorem sg_t19_20_261k160 {b : Nat → Int32} {x : Nat} (k0 : b x = 60) (k1 : b (x + 1) = 60) (n2_61 : ¬ b (x + 2) = 61) : SGT b x 20 := by
  refine ⟨by decide, fun j hj => ?_, fun v hv g => ?_⟩
  · have hj : j < 2 := hj
    rcases (show j = 0 ∨ j = 1 by omega) with rfl | rfl
    · exact (show chS 0 (nI (stS 20 + 0)) = 60 by decide).trans k0.symm
    · exact (show chS 0 (nI (stS 20 + 1)) = 60 by decide).trans k1.symm
  · rcases sg_c19 v hv ((sg_f hv g).trans k0) with rfl | rfl | rfl | rfl
    · exact absurd ((g 2 (by decide)).symm.trans (show chS 0 (nI (stS 2 + 2)) = 61 by decide)) n2_61
    · decide
    · decide
    · decide
theorem sg_t19_18_ek161 {b : Nat → Int32} {x : Nat} (k0 : b x = 60) (k1 : b (x + 1) = 61) : SGT b x 18 := by
  refine ⟨by decide, fun j hj => ?_, fun v hv g => ?_⟩
  · have hj : j < 2 := hj
    rcases (show j = 0 ∨ j = 1 by omega) with rfl | rfl
    · exact (show chS 0 (nI (stS 18 + 0)) = 60 by decide).trans k0.symm
    · exact (show chS 0 (nI (stS 18 + 1)) = 61 by decide).trans k1.symm
  · rcases sg_c19 v hv ((sg_f hv g).trans k0) with rfl | rfl | rfl | rfl
    · exact absurd ((show chS 0 (nI (stS 2 + 1)) = 60 by decide).symm.trans ((g 1 (by decide)).trans k1)) (by decide)
    · decide
    · decide
    · decide
theorem sg_t19_36_160_161 {b : Nat → Int32} {x : Nat} (k0 : b x = 60) (n1_60 : ¬ b (x + 1) = 60) (n1_61 : ¬ b (x + 1) = 61) : SGT b x 36 := by
  refine ⟨by decide, fun j hj => ?_, fun v hv g => ?_⟩
  · have hj : j < 1 := hj
    rcases (show j = 0 by omega) with rfl
    · exact (show chS 0 (nI (stS 36 + 0)) = 60 by decide).trans k0.symm
  · rcases sg_c19 v hv ((sg_f hv g).trans k0) with rfl | rfl | rfl | rfl
    · exact absurd ((g 1 (by decide)).symm.trans (show chS 0 (nI (stS 2 + 1)) = 60 by decide)) n1_60
    · exact absurd ((g 1 (by decide)).symm.trans (show chS 0 (nI (stS 18 + 1)) = 61 by decide)) n1_61
    · exact absurd ((g 1 (by decide)).symm.trans (show chS 0 (nI (stS 20 + 1)) = 60 by decide)) n1_60
    · decide
theorem sg_t20_0_ek162k262k361 {b : Nat → Int32} {x : Nat} (k0 : b x = 62) (k1 : b (x + 1) = 62) (k2 : b (x + 2) = 62) (k3 : b (x + 3) = 61) : SGT b x 0 := by
  refine ⟨by decide, fun j hj => ?_, fun v hv g => ?_⟩
  · have hj : j < 4 := hj
    rcases (show j = 0 ∨ j = 1 ∨ j = 2 ∨ j = 3 by omega) with rfl | rfl | rfl | rfl
    · exact (show chS 0 (nI (stS 0 + 0)) = 62 by decide).trans k0.symm
    · exact (show chS 0 (nI (stS 0 + 1)) = 62 by decide).trans k1.symm
    · exact (show chS 0 (nI (stS 0 + 2)) = 62 by decide).trans k2.symm
    · exact (show chS 0 (nI (stS 0 + 3)) = 61 by decide).trans k3.symm
  · rcases sg_c20 v hv ((sg_f hv g).trans k0) with rfl | rfl | rfl | rfl | rfl | rfl
    · decide
    · decide
    · decide
    · decide
    · decide
    · decide
theorem sg_t20_1_361k162k262 {b : Nat → Int32} {x : Nat} (k0 : b x = 62) (k1 : b (x + 1) = 62) (k2 : b (x + 2) = 62) (n3_61 : ¬ b (x + 3) = 61) : SGT b x 1 := by
  refine ⟨by decide, fun j hj => ?_, fun v hv g => ?_⟩
  · have hj : j < 3 := hj
    rcases (show j = 0 ∨ j = 1 ∨ j = 2 by omega) with rfl | rfl | rfl
    · exact (show chS 0 (nI (stS 1 + 0)) = 62 by decide).trans k0.symm
    · exact (show chS 0 (nI (stS 1 + 1)) = 62 by decide).trans k1.symm
    · exact (show chS 0 (nI (stS 1 + 2)) = 62 by decide).trans k2.symm
  · rcases sg_c20 v hv ((sg_f hv g).trans k0) with rfl | rfl | rfl | rfl | rfl | rfl
    · exact absurd ((g 3 (by decide)).symm.trans (show chS 0 (nI (stS 0 + 3)) = 61 by decide)) n3_61
    · decide
    · decide
    · decide
    · decide
    · decide
theorem sg_t20_3_ek162k261 {b : Nat → Int32} {x : Nat} (k0 : b x = 62) (k1 : b (x + 1) = 62) (k2 : b (x + 2) = 61) : SGT b x 3 := by
  refine ⟨by decide, fun j hj => ?_, fun v hv g => ?_⟩
  · have hj : j < 3 := hj
    rcases (show j = 0 ∨ j = 1 ∨ j = 2 by omega) with rfl | rfl | rfl
    · exact (show chS 0 (nI (stS 3 + 0)) = 62 by decide).trans k0.symm
    · exact (show chS 0 (nI (stS 3 + 1)) = 62 by decide).trans k1.symm
    · exact (show chS 0 (nI (stS 3 + 2)) = 61 by decide).trans k2.symm
  · rcases sg_c20 v hv ((sg_f hv g).trans k0) with rfl | rfl | rfl | rfl | rfl | rfl
    · exact absurd ((show chS 0 (nI (stS 0 + 2)) = 62 by decide).symm.trans ((g 2 (by decide)).trans k2)) (by decide)
    · decide
    · decide
    · decide
    · decide
    · decide
theorem sg_t20_21_261_262k162 {b : Nat → Int32} {x : Nat} (k0 : b x = 62) (k1 : b (x + 1) = 62) (n2_61 : ¬ b (x + 2) = 61) (n2_62 : ¬ b (x + 2) = 62) : SGT b x 21 := by
  refine ⟨by decide, fun j hj => ?_, fun v hv g => ?_⟩
  · have hj : j < 2 := hj
    rcases (show j = 0 ∨ j = 1 by omega) with rfl | rfl
    · exact (show chS 0 (nI (stS 21 + 0)) = 62 by decide).trans k0.symm
    · exact (show chS 0 (nI (stS 21 + 1)) = 62 by decide).trans k1.symm
  · rcases sg_c20 v hv ((sg_f hv g).trans k0) with rfl | rfl | rfl | rfl | rfl | rfl
    · exact absurd ((g 2 (by decide)).symm.trans (show chS 0 (nI (stS 0 + 2)) = 62 by decide)) n2_62
    · exact absurd ((g 2 (by decide)).symm.trans (show chS 0 (nI (stS 1 + 2)) = 62 by decide)) n2_62
    · exact absurd ((g 2 (by decide)).symm.trans (show chS 0 (nI (stS 3 + 2)) = 61 by decide)) n2_61
    · decide
    · decide
    · decide
theorem sg_t20_19_ek161 {b : Nat → Int32} {x : Nat} (k0 : b x = 62) (k1 : b (x + 1) = 61) : SGT b x 19 := by
  refine ⟨by decide, fun j hj => ?_, fun v hv g => ?_⟩
  · have hj : j < 2 := hj
    rcases (show j = 0 ∨ j = 1 by omega) with rfl | rfl
    · exact (show chS 0 (nI (stS 19 + 0)) = 62 by decide).trans k0.symm
    · exact (show chS 0 (nI (stS 19 + 1)) = 61 by decide).trans k1.symm
  · rcases sg_c20 v hv ((sg_f hv g).trans k0) with rfl | rfl | rfl | rfl | rfl | rfl
    · exact absurd ((show chS 0 (nI (stS 0 + 1)) = 62 by decide).symm.trans ((g 1 (by decide)).trans k1)) (by decide)
    · exact absurd ((show chS 0 (nI (stS 1 + 1)) = 62 by decide).symm.trans ((g 1 (by decide)).trans k1)) (by decide)
    · exact absurd ((show chS 0 (nI (stS 3 + 1)) = 62 by decide).symm.trans ((g 1 (by decide)).trans k1)) (by decide)
    · decide
    · decide
    · decide
theorem sg_t20_37_161_162 {b : Nat → Int32} {x : Nat} (k0 : b x = 62) (n1_61 : ¬ b (x + 1) = 61) (n1_62 : ¬ b (x + 1) = 62) : SGT b x 37 := by
  refine ⟨by decide, fun j hj => ?_, fun v hv g => ?_⟩
  · have hj : j < 1 := hj
    rcases (show j = 0 by omega) with rfl
    · exact (show chS 0 (nI (stS 37 + 0)) = 62 by decide).trans k0.symm
  · rcases sg_c20 v hv ((sg_f hv g).trans k0) with rfl | rfl | rfl | rfl | rfl | rfl
    · exact absurd ((g 1 (by decide)).symm.trans (show chS 0 (nI (stS 0 + 1)) = 62 by decide)) n1_62
    · exact absurd ((g 1 (by decide)).symm.trans (show chS 0 (nI (stS 1 + 1)) = 62 by decide)) n1_62
    · exact absurd ((g 1 (by decide)).symm.trans (show chS 0 (nI (stS 3 + 1)) = 62 by decide)) n1_62
    · exact absurd ((g 1 (by decide)).symm.trans (show chS 0 (nI (stS 19 + 1)) = 61 by decide)) n1_61
    · exact absurd ((g 1 (by decide)).symm.trans (show chS 0 (nI (stS 21 + 1)) = 62 by decide)) n1_62
    · decide
theorem sg_t21_43_ek1126 {b : Nat → Int32} {x : Nat} (k0 : b x = 126) (k1 : b (x + 1) = 126) : SGT b x 43 := by
  refine ⟨by decide, fun j hj => ?_, fun v hv g => ?_⟩
  · have hj : j < 1 := hj
    rcases (show j = 0 by omega) with rfl
    · exact (show chS 0 (nI (stS 43 + 0)) = 126 by decide).trans k0.symm
  · rcases sg_c21 v hv ((sg_f hv g).trans k0) with rfl
    · decide
theorem sg_t21_43_e {b : Nat → Int32} {x : Nat} (k0 : b x = 126)  : SGT b x 43 := by
  refine ⟨by decide, fun j hj => ?_, fun v hv g => ?_⟩
  · have hj : j < 1 := hj
    rcases (show j = 0 by omega) with rfl
    · exact (show chS 0 (nI (stS 43 + 0)) = 126 by decide).trans k0.symm
  · rcases sg_c21 v hv ((sg_f hv g).trans k0) with rfl
    · decide
theorem sg_t22_17_ek161 {b : Nat → Int32} {x : Nat} (k0 : b x = 33) (k1 : b (x + 1) = 61) : SGT b x 17 := by
  refine ⟨by decide, fun j hj => ?_, fun v hv g => ?_⟩
  · have hj : j < 2 := hj
    rcases (show j = 0 ∨ j = 1 by omega) with rfl | rfl
    · exact (show chS 0 (nI (stS 17 + 0)) = 33 by decide).trans k0.symm
    · exact (show chS 0 (nI (stS 17 + 1)) = 61 by decide).trans k1.symm
  · rcases sg_c22 v hv ((sg_f hv g).trans k0) with rfl | rfl
    · decide
    · decide
theorem sg_t22_44_161k133 {b : Nat → Int32} {x : Nat} (k0 : b x = 33) (k1 : b (x + 1) = 33) (n1_61 : ¬ b (x + 1) = 61) : SGT b x 44 := by
  refine ⟨by decide, fun j hj => ?_, fun v hv g => ?_⟩
  · have hj : j < 1 := hj
    rcases (show j = 0 by omega) with rfl
    · exact (show chS 0 (nI (stS 44 + 0)) = 33 by decide).trans k0.symm
  · rcases sg_c22 v hv ((sg_f hv g).trans k0) with rfl | rfl
    · exact absurd ((show chS 0 (nI (stS 17 + 1)) = 61 by decide).symm.trans ((g 1 (by decide)).trans k1)) (by decide)
    · decide
theorem sg_t22_44_161 {b : Nat → Int32} {x : Nat} (k0 : b x = 33) (n1_61 : ¬ b (x + 1) = 61) : SGT b x 44 := by
  refine ⟨by decide, fun j hj => ?_, fun v hv g => ?_⟩
  · have hj : j < 1 := hj
    rcases (show j = 0 by omega) with rfl
    · exact (show chS 0 (nI (stS 44 + 0)) = 33 by decide).trans k0.symm
  · rcases sg_c22 v hv ((sg_f hv g).trans k0) with rfl | rfl
    · exact absurd ((g 1 (by decide)).symm.trans (show chS 0 (nI (stS 17 + 1)) = 61 by decide)) n1_61
    · decide
theorem cp_s0 {fu : Nat} {b : Nat → Int32} {n : Nat} {Fc Fm : PF} {Gc Gm : PG} (h : BT b n Fc Gc Fm Gm) (h93 : (Fc 93).toInt < 4001) {x1 x2 x4 a1 : Int32} {x : Nat} (e1 : x1.toInt = x) (hx : x < n) (k0 : b x = 40) (e2 : x2 = b x) (x4e : x4 = nI (x + 1)) (ha1 : AC b n x4 a1) : PP (cb_X10_behindSign_51 fu x1 x2 0 x4 a1 Fc Gc) (CSG b n x x1 Fc Gc) := by
  obtain ⟨h0, h1, h2, h3, h4⟩ := id h
  have x4i : x4.toInt = x + 1 := by rw [x4e, nI_toInt (by omega)]; omega
  have m1 : b (x + 1) = b x4.toInt.toNat := by rw [show x4.toInt.toNat = x + 1 by omega]
  have x41 : (x4 + 1).toInt = x4.toInt + 1 := i_addn x4 rfl (by omega) (by omega)
  have x42 : (x4 + 1 + 1).toInt = (x4 + 1).toInt + 1 := i_addn (x4 + 1) rfl (by omega) (by omega)
  have add1 : nI (x + 1) + 1 = nI (x + 2) := by rw [show x + 2 = x + 1 + 1 from rfl, ← nI_add (x + 1) 1]; rfl
  have add2 : nI (x + 1) + 1 + 1 = nI (x + 3) := by rw [add1, show x + 3 = x + 2 + 1 from rfl, ← nI_add (x + 2) 1]; rfl
  have add3 : nI (x + 1) + 1 + 1 + 1 = nI (x + 4) := by rw [add2, show x + 4 = x + 3 + 1 from rfl, ← nI_add (x + 3) 1]; rfl
  unfold cb_X10_behindSign_51
  refine PP.ix (fun _ => ?_)
  have cc := ha1.iff h4 (by omega) m1 (c := 40) (by decide) (by decide)
  have ce := ha1.iff h4 (by omega) m1 (c := 61) (by decide) (by decide)
  rw [k0] at e2
  rw [e2]
  refine PP.ite (fun z => ?_) (fun z => ?_)
  · have k1 := cc.mp z
    unfold cb_X10_behindSign_64
    refine PP.ix (fun _ => ?_)
    rw [if_pos (by decide)]
    unfold cb_X10_behindSign_153
    refine PP.ite (fun y => ?_) (fun y => ?_)
    · unfold cb_X10_behindSign_160
      refine PP.ix (fun _ => ?_)
      rw [if_pos (by decide)]
      exact cp_178 h93 (sg_t0_22_ek140 k0 k1) (by rw [x4e]; rfl) (by decide)
    · exact cp_178 h93 (sg_t0_22_ek140 k0 k1) (by rw [x4e]; rfl) (by decide)
  · have n1_40 := mt cc.mpr z
    unfold cb_X10_behindSign_153
    refine PP.ite (fun y => ?_) (fun y => ?_)
    · unfold cb_X10_behindSign_160
      refine PP.ix (fun _ => ?_)
      rw [if_pos (by decide)]
      exact cp_178 h93 (sg_t0_22_e k0) (by rw [x4e]; rfl) (by decide)
    · exact cp_178 h93 (sg_t0_22_e k0) (by rw [x4e]; rfl) (by decide)
theorem cp_s1 {fu : Nat} {b : Nat → Int32} {n : Nat} {Fc Fm : PF} {Gc Gm : PG} (h : BT b n Fc Gc Fm Gm) (h93 : (Fc 93).toInt < 4001) {x1 x2 x4 a1 : Int32} {x : Nat} (e1 : x1.toInt = x) (hx : x < n) (k0 : b x = 41) (e2 : x2 = b x) (x4e : x4 = nI (x + 1)) (ha1 : AC b n x4 a1) : PP (cb_X10_behindSign_51 fu x1 x2 1 x4 a1 Fc Gc) (CSG b n x x1 Fc Gc) := by
  obtain ⟨h0, h1, h2, h3, h4⟩ := id h
  have x4i : x4.toInt = x + 1 := by rw [x4e, nI_toInt (by omega)]; omega
  have m1 : b (x + 1) = b x4.toInt.toNat := by rw [show x4.toInt.toNat = x + 1 by omega]
  have x41 : (x4 + 1).toInt = x4.toInt + 1 := i_addn x4 rfl (by omega) (by omega)
  have x42 : (x4 + 1 + 1).toInt = (x4 + 1).toInt + 1 := i_addn (x4 + 1) rfl (by omega) (by omega)
  have add1 : nI (x + 1) + 1 = nI (x + 2) := by rw [show x + 2 = x + 1 + 1 from rfl, ← nI_add (x + 1) 1]; rfl
  have add2 : nI (x + 1) + 1 + 1 = nI (x + 3) := by rw [add1, show x + 3 = x + 2 + 1 from rfl, ← nI_add (x + 2) 1]; rfl
  have add3 : nI (x + 1) + 1 + 1 + 1 = nI (x + 4) := by rw [add2, show x + 4 = x + 3 + 1 from rfl, ← nI_add (x + 3) 1]; rfl
  unfold cb_X10_behindSign_51
  refine PP.ix (fun _ => ?_)
  have cc := ha1.iff h4 (by omega) m1 (c := 41) (by decide) (by decide)
  have ce := ha1.iff h4 (by omega) m1 (c := 61) (by decide) (by decide)
  rw [k0] at e2
  rw [e2]
  refine PP.ite (fun z => ?_) (fun z => ?_)
  · have k1 := cc.mp z
    unfold cb_X10_behindSign_64
    refine PP.ix (fun _ => ?_)
    rw [if_pos (by decide)]
    unfold cb_X10_behindSign_153
    refine PP.ite (fun y => ?_) (fun y => ?_)
    · unfold cb_X10_behindSign_160
      refine PP.ix (fun _ => ?_)
      rw [if_pos (by decide)]
      exact cp_178 h93 (sg_t1_23_ek141 k0 k1) (by rw [x4e]; rfl) (by decide)
    · exact cp_178 h93 (sg_t1_23_ek141 k0 k1) (by rw [x4e]; rfl) (by decide)
  · have n1_41 := mt cc.mpr z
    unfold cb_X10_behindSign_153
    refine PP.ite (fun y => ?_) (fun y => ?_)
    · unfold cb_X10_behindSign_160
      refine PP.ix (fun _ => ?_)
      rw [if_pos (by decide)]
      exact cp_178 h93 (sg_t1_23_e k0) (by rw [x4e]; rfl) (by decide)
    · exact cp_178 h93 (sg_t1_23_e k0) (by rw [x4e]; rfl) (by decide)
theorem cp_s2 {fu : Nat} {b : Nat → Int32} {n : Nat} {Fc Fm : PF} {Gc Gm : PG} (h : BT b n Fc Gc Fm Gm) (h93 : (Fc 93).toInt < 4001) {x1 x2 x4 a1 : Int32} {x : Nat} (e1 : x1.toInt = x) (hx : x < n) (k0 : b x = 91) (e2 : x2 = b x) (x4e : x4 = nI (x + 1)) (ha1 : AC b n x4 a1) : PP (cb_X10_behindSign_51 fu x1 x2 2 x4 a1 Fc Gc) (CSG b n x x1 Fc Gc) := by
  obtain ⟨h0, h1, h2, h3, h4⟩ := id h
  have x4i : x4.toInt = x + 1 := by rw [x4e, nI_toInt (by omega)]; omega
  have m1 : b (x + 1) = b x4.toInt.toNat := by rw [show x4.toInt.toNat = x + 1 by omega]
  have x41 : (x4 + 1).toInt = x4.toInt + 1 := i_addn x4 rfl (by omega) (by omega)
  have x42 : (x4 + 1 + 1).toInt = (x4 + 1).toInt + 1 := i_addn (x4 + 1) rfl (by omega) (by omega)
  have add1 : nI (x + 1) + 1 = nI (x + 2) := by rw [show x + 2 = x + 1 + 1 from rfl, ← nI_add (x + 1) 1]; rfl
  have add2 : nI (x + 1) + 1 + 1 = nI (x + 3) := by rw [add1, show x + 3 = x + 2 + 1 from rfl, ← nI_add (x + 2) 1]; rfl
  have add3 : nI (x + 1) + 1 + 1 + 1 = nI (x + 4) := by rw [add2, show x + 4 = x + 3 + 1 from rfl, ← nI_add (x + 3) 1]; rfl
  unfold cb_X10_behindSign_51
  refine PP.ix (fun _ => ?_)
  have cc := ha1.iff h4 (by omega) m1 (c := 91) (by decide) (by decide)
  have ce := ha1.iff h4 (by omega) m1 (c := 61) (by decide) (by decide)
  rw [k0] at e2
  rw [e2]
  refine PP.ite (fun z => ?_) (fun z => ?_)
  · have k1 := cc.mp z
    unfold cb_X10_behindSign_64
    refine PP.ix (fun _ => ?_)
    rw [if_pos (by decide)]
    unfold cb_X10_behindSign_153
    refine PP.ite (fun y => ?_) (fun y => ?_)
    · unfold cb_X10_behindSign_160
      refine PP.ix (fun _ => ?_)
      rw [if_pos (by decide)]
      exact cp_178 h93 (sg_t2_24_ek191 k0 k1) (by rw [x4e]; rfl) (by decide)
    · exact cp_178 h93 (sg_t2_24_ek191 k0 k1) (by rw [x4e]; rfl) (by decide)
  · have n1_91 := mt cc.mpr z
    unfold cb_X10_behindSign_153
    refine PP.ite (fun y => ?_) (fun y => ?_)
    · unfold cb_X10_behindSign_160
      refine PP.ix (fun _ => ?_)
      rw [if_pos (by decide)]
      exact cp_178 h93 (sg_t2_24_e k0) (by rw [x4e]; rfl) (by decide)
    · exact cp_178 h93 (sg_t2_24_e k0) (by rw [x4e]; rfl) (by decide)
theorem cp_s3 {fu : Nat} {b : Nat → Int32} {n : Nat} {Fc Fm : PF} {Gc Gm : PG} (h : BT b n Fc Gc Fm Gm) (h93 : (Fc 93).toInt < 4001) {x1 x2 x4 a1 : Int32} {x : Nat} (e1 : x1.toInt = x) (hx : x < n) (k0 : b x = 93) (e2 : x2 = b x) (x4e : x4 = nI (x + 1)) (ha1 : AC b n x4 a1) : PP (cb_X10_behindSign_51 fu x1 x2 3 x4 a1 Fc Gc) (CSG b n x x1 Fc Gc) := by
  obtain ⟨h0, h1, h2, h3, h4⟩ := id h
  have x4i : x4.toInt = x + 1 := by rw [x4e, nI_toInt (by omega)]; omega
  have m1 : b (x + 1) = b x4.toInt.toNat := by rw [show x4.toInt.toNat = x + 1 by omega]
  have x41 : (x4 + 1).toInt = x4.toInt + 1 := i_addn x4 rfl (by omega) (by omega)
  have x42 : (x4 + 1 + 1).toInt = (x4 + 1).toInt + 1 := i_addn (x4 + 1) rfl (by omega) (by omega)
  have add1 : nI (x + 1) + 1 = nI (x + 2) := by rw [show x + 2 = x + 1 + 1 from rfl, ← nI_add (x + 1) 1]; rfl
  have add2 : nI (x + 1) + 1 + 1 = nI (x + 3) := by rw [add1, show x + 3 = x + 2 + 1 from rfl, ← nI_add (x + 2) 1]; rfl
  have add3 : nI (x + 1) + 1 + 1 + 1 = nI (x + 4) := by rw [add2, show x + 4 = x + 3 + 1 from rfl, ← nI_add (x + 3) 1]; rfl
  unfold cb_X10_behindSign_51
  refine PP.ix (fun _ => ?_)
  have cc := ha1.iff h4 (by omega) m1 (c := 93) (by decide) (by decide)
  have ce := ha1.iff h4 (by omega) m1 (c := 61) (by decide) (by decide)
  rw [k0] at e2
  rw [e2]
  refine PP.ite (fun z => ?_) (fun z => ?_)
  · have k1 := cc.mp z
    unfold cb_X10_behindSign_64
    refine PP.ix (fun _ => ?_)
    rw [if_pos (by decide)]
    unfold cb_X10_behindSign_153
    refine PP.ite (fun y => ?_) (fun y => ?_)
    · unfold cb_X10_behindSign_160
      refine PP.ix (fun _ => ?_)
      rw [if_pos (by decide)]
      exact cp_178 h93 (sg_t3_25_ek193 k0 k1) (by rw [x4e]; rfl) (by decide)
    · exact cp_178 h93 (sg_t3_25_ek193 k0 k1) (by rw [x4e]; rfl) (by decide)
  · have n1_93 := mt cc.mpr z
    unfold cb_X10_behindSign_153
    refine PP.ite (fun y => ?_) (fun y => ?_)
    · unfold cb_X10_behindSign_160
      refine PP.ix (fun _ => ?_)
      rw [if_pos (by decide)]
      exact cp_178 h93 (sg_t3_25_e k0) (by rw [x4e]; rfl) (by decide)
    · exact cp_178 h93 (sg_t3_25_e k0) (by rw [x4e]; rfl) (by decide)
theorem cp_s4 {fu : Nat} {b : Nat → Int32} {n : Nat} {Fc Fm : PF} {Gc Gm : PG} (h : BT b n Fc Gc Fm Gm) (h93 : (Fc 93).toInt < 4001) {x1 x2 x4 a1 : Int32} {x : Nat} (e1 : x1.toInt = x) (hx : x < n) (k0 : b x = 123) (e2 : x2 = b x) (x4e : x4 = nI (x + 1)) (ha1 : AC b n x4 a1) : PP (cb_X10_behindSign_51 fu x1 x2 4 x4 a1 Fc Gc) (CSG b n x x1 Fc Gc) := by
  obtain ⟨h0, h1, h2, h3, h4⟩ := id h
  have x4i : x4.toInt = x + 1 := by rw [x4e, nI_toInt (by omega)]; omega
  have m1 : b (x + 1) = b x4.toInt.toNat := by rw [show x4.toInt.toNat = x + 1 by omega]
  have x41 : (x4 + 1).toInt = x4.toInt + 1 := i_addn x4 rfl (by omega) (by omega)
  have x42 : (x4 + 1 + 1).toInt = (x4 + 1).toInt + 1 := i_addn (x4 + 1) rfl (by omega) (by omega)
  have add1 : nI (x + 1) + 1 = nI (x + 2) := by rw [show x + 2 = x + 1 + 1 from rfl, ← nI_add (x + 1) 1]; rfl
  have add2 : nI (x + 1) + 1 + 1 = nI (x + 3) := by rw [add1, show x + 3 = x + 2 + 1 from rfl, ← nI_add (x + 2) 1]; rfl
  have add3 : nI (x + 1) + 1 + 1 + 1 = nI (x + 4) := by rw [add2, show x + 4 = x + 3 + 1 from rfl, ← nI_add (x + 3) 1]; rfl
  unfold cb_X10_behindSign_51
  refine PP.ix (fun _ => ?_)
  have cc := ha1.iff h4 (by omega) m1 (c := 123) (by decide) (by decide)
  have ce := ha1.iff h4 (by omega) m1 (c := 61) (by decide) (by decide)
  rw [k0] at e2
  rw [e2]
  refine PP.ite (fun z => ?_) (fun z => ?_)
  · have k1 := cc.mp z
    unfold cb_X10_behindSign_64
    refine PP.ix (fun _ => ?_)
    rw [if_pos (by decide)]
    unfold cb_X10_behindSign_153
    refine PP.ite (fun y => ?_) (fun y => ?_)
    · unfold cb_X10_behindSign_160
      refine PP.ix (fun _ => ?_)
      rw [if_pos (by decide)]
      exact cp_178 h93 (sg_t4_26_ek1123 k0 k1) (by rw [x4e]; rfl) (by decide)
    · exact cp_178 h93 (sg_t4_26_ek1123 k0 k1) (by rw [x4e]; rfl) (by decide)
  · have n1_123 := mt cc.mpr z
    unfold cb_X10_behindSign_153
    refine PP.ite (fun y => ?_) (fun y => ?_)
    · unfold cb_X10_behindSign_160
      refine PP.ix (fun _ => ?_)
      rw [if_pos (by decide)]
      exact cp_178 h93 (sg_t4_26_e k0) (by rw [x4e]; rfl) (by decide)
    · exact cp_178 h93 (sg_t4_26_e k0) (by rw [x4e]; rfl) (by decide)
theorem cp_s5 {fu : Nat} {b : Nat → Int32} {n : Nat} {Fc Fm : PF} {Gc Gm : PG} (h : BT b n Fc Gc Fm Gm) (h93 : (Fc 93).toInt < 4001) {x1 x2 x4 a1 : Int32} {x : Nat} (e1 : x1.toInt = x) (hx : x < n) (k0 : b x = 125) (e2 : x2 = b x) (x4e : x4 = nI (x + 1)) (ha1 : AC b n x4 a1) : PP (cb_X10_behindSign_51 fu x1 x2 5 x4 a1 Fc Gc) (CSG b n x x1 Fc Gc) := by
  obtain ⟨h0, h1, h2, h3, h4⟩ := id h
  have x4i : x4.toInt = x + 1 := by rw [x4e, nI_toInt (by omega)]; omega
  have m1 : b (x + 1) = b x4.toInt.toNat := by rw [show x4.toInt.toNat = x + 1 by omega]
  have x41 : (x4 + 1).toInt = x4.toInt + 1 := i_addn x4 rfl (by omega) (by omega)
  have x42 : (x4 + 1 + 1).toInt = (x4 + 1).toInt + 1 := i_addn (x4 + 1) rfl (by omega) (by omega)
  have add1 : nI (x + 1) + 1 = nI (x + 2) := by rw [show x + 2 = x + 1 + 1 from rfl, ← nI_add (x + 1) 1]; rfl
  have add2 : nI (x + 1) + 1 + 1 = nI (x + 3) := by rw [add1, show x + 3 = x + 2 + 1 from rfl, ← nI_add (x + 2) 1]; rfl
  have add3 : nI (x + 1) + 1 + 1 + 1 = nI (x + 4) := by rw [add2, show x + 4 = x + 3 + 1 from rfl, ← nI_add (x + 3) 1]; rfl
  unfold cb_X10_behindSign_51
  refine PP.ix (fun _ => ?_)
  have cc := ha1.iff h4 (by omega) m1 (c := 125) (by decide) (by decide)
  have ce := ha1.iff h4 (by omega) m1 (c := 61) (by decide) (by decide)
  rw [k0] at e2
  rw [e2]
  refine PP.ite (fun z => ?_) (fun z => ?_)
  · have k1 := cc.mp z
    unfold cb_X10_behindSign_64
    refine PP.ix (fun _ => ?_)
    rw [if_pos (by decide)]
    unfold cb_X10_behindSign_153
    refine PP.ite (fun y => ?_) (fun y => ?_)
    · unfold cb_X10_behindSign_160
      refine PP.ix (fun _ => ?_)
      rw [if_pos (by decide)]
      exact cp_178 h93 (sg_t5_27_ek1125 k0 k1) (by rw [x4e]; rfl) (by decide)
    · exact cp_178 h93 (sg_t5_27_ek1125 k0 k1) (by rw [x4e]; rfl) (by decide)
  · have n1_125 := mt cc.mpr z
    unfold cb_X10_behindSign_153
    refine PP.ite (fun y => ?_) (fun y => ?_)
    · unfold cb_X10_behindSign_160
      refine PP.ix (fun _ => ?_)
      rw [if_pos (by decide)]
      exact cp_178 h93 (sg_t5_27_e k0) (by rw [x4e]; rfl) (by decide)
    · exact cp_178 h93 (sg_t5_27_e k0) (by rw [x4e]; rfl) (by decide)
theorem cp_s6 {fu : Nat} {b : Nat → Int32} {n : Nat} {Fc Fm : PF} {Gc Gm : PG} (h : BT b n Fc Gc Fm Gm) (h93 : (Fc 93).toInt < 4001) {x1 x2 x4 a1 : Int32} {x : Nat} (e1 : x1.toInt = x) (hx : x < n) (k0 : b x = 44) (e2 : x2 = b x) (x4e : x4 = nI (x + 1)) (ha1 : AC b n x4 a1) : PP (cb_X10_behindSign_51 fu x1 x2 6 x4 a1 Fc Gc) (CSG b n x x1 Fc Gc) := by
  obtain ⟨h0, h1, h2, h3, h4⟩ := id h
  have x4i : x4.toInt = x + 1 := by rw [x4e, nI_toInt (by omega)]; omega
  have m1 : b (x + 1) = b x4.toInt.toNat := by rw [show x4.toInt.toNat = x + 1 by omega]
  have x41 : (x4 + 1).toInt = x4.toInt + 1 := i_addn x4 rfl (by omega) (by omega)
  have x42 : (x4 + 1 + 1).toInt = (x4 + 1).toInt + 1 := i_addn (x4 + 1) rfl (by omega) (by omega)
  have add1 : nI (x + 1) + 1 = nI (x + 2) := by rw [show x + 2 = x + 1 + 1 from rfl, ← nI_add (x + 1) 1]; rfl
  have add2 : nI (x + 1) + 1 + 1 = nI (x + 3) := by rw [add1, show x + 3 = x + 2 + 1 from rfl, ← nI_add (x + 2) 1]; rfl
  have add3 : nI (x + 1) + 1 + 1 + 1 = nI (x + 4) := by rw [add2, show x + 4 = x + 3 + 1 from rfl, ← nI_add (x + 3) 1]; rfl
  unfold cb_X10_behindSign_51
  refine PP.ix (fun _ => ?_)
  have cc := ha1.iff h4 (by omega) m1 (c := 44) (by decide) (by decide)
  have ce := ha1.iff h4 (by omega) m1 (c := 61) (by decide) (by decide)
  rw [k0] at e2
  rw [e2]
  refine PP.ite (fun z => ?_) (fun z => ?_)
  · have k1 := cc.mp z
    unfold cb_X10_behindSign_64
    refine PP.ix (fun _ => ?_)
    rw [if_pos (by decide)]
    unfold cb_X10_behindSign_153
    refine PP.ite (fun y => ?_) (fun y => ?_)
    · unfold cb_X10_behindSign_160
      refine PP.ix (fun _ => ?_)
      rw [if_pos (by decide)]
      exact cp_178 h93 (sg_t6_28_ek144 k0 k1) (by rw [x4e]; rfl) (by decide)
    · exact cp_178 h93 (sg_t6_28_ek144 k0 k1) (by rw [x4e]; rfl) (by decide)
  · have n1_44 := mt cc.mpr z
    unfold cb_X10_behindSign_153
    refine PP.ite (fun y => ?_) (fun y => ?_)
    · unfold cb_X10_behindSign_160
      refine PP.ix (fun _ => ?_)
      rw [if_pos (by decide)]
      exact cp_178 h93 (sg_t6_28_e k0) (by rw [x4e]; rfl) (by decide)
    · exact cp_178 h93 (sg_t6_28_e k0) (by rw [x4e]; rfl) (by decide)
theorem cp_s7 {fu : Nat} {b : Nat → Int32} {n : Nat} {Fc Fm : PF} {Gc Gm : PG} (h : BT b n Fc Gc Fm Gm) (h93 : (Fc 93).toInt < 4001) {x1 x2 x4 a1 : Int32} {x : Nat} (e1 : x1.toInt = x) (hx : x < n) (k0 : b x = 59) (e2 : x2 = b x) (x4e : x4 = nI (x + 1)) (ha1 : AC b n x4 a1) : PP (cb_X10_behindSign_51 fu x1 x2 7 x4 a1 Fc Gc) (CSG b n x x1 Fc Gc) := by
  obtain ⟨h0, h1, h2, h3, h4⟩ := id h
  have x4i : x4.toInt = x + 1 := by rw [x4e, nI_toInt (by omega)]; omega
  have m1 : b (x + 1) = b x4.toInt.toNat := by rw [show x4.toInt.toNat = x + 1 by omega]
  have x41 : (x4 + 1).toInt = x4.toInt + 1 := i_addn x4 rfl (by omega) (by omega)
  have x42 : (x4 + 1 + 1).toInt = (x4 + 1).toInt + 1 := i_addn (x4 + 1) rfl (by omega) (by omega)
  have add1 : nI (x + 1) + 1 = nI (x + 2) := by rw [show x + 2 = x + 1 + 1 from rfl, ← nI_add (x + 1) 1]; rfl
  have add2 : nI (x + 1) + 1 + 1 = nI (x + 3) := by rw [add1, show x + 3 = x + 2 + 1 from rfl, ← nI_add (x + 2) 1]; rfl
  have add3 : nI (x + 1) + 1 + 1 + 1 = nI (x + 4) := by rw [add2, show x + 4 = x + 3 + 1 from rfl, ← nI_add (x + 3) 1]; rfl
  unfold cb_X10_behindSign_51
  refine PP.ix (fun _ => ?_)
  have cc := ha1.iff h4 (by omega) m1 (c := 59) (by decide) (by decide)
  have ce := ha1.iff h4 (by omega) m1 (c := 61) (by decide) (by decide)
  rw [k0] at e2
  rw [e2]
  refine PP.ite (fun z => ?_) (fun z => ?_)
  · have k1 := cc.mp z
    unfold cb_X10_behindSign_64
    refine PP.ix (fun _ => ?_)
    rw [if_pos (by decide)]
    unfold cb_X10_behindSign_153
    refine PP.ite (fun y => ?_) (fun y => ?_)
    · unfold cb_X10_behindSign_160
      refine PP.ix (fun _ => ?_)
      rw [if_pos (by decide)]
      exact cp_178 h93 (sg_t7_29_ek159 k0 k1) (by rw [x4e]; rfl) (by decide)
    · exact cp_178 h93 (sg_t7_29_ek159 k0 k1) (by rw [x4e]; rfl) (by decide)
  · have n1_59 := mt cc.mpr z
    unfold cb_X10_behindSign_153
    refine PP.ite (fun y => ?_) (fun y => ?_)
    · unfold cb_X10_behindSign_160
      refine PP.ix (fun _ => ?_)
      rw [if_pos (by decide)]
      exact cp_178 h93 (sg_t7_29_e k0) (by rw [x4e]; rfl) (by decide)
    · exact cp_178 h93 (sg_t7_29_e k0) (by rw [x4e]; rfl) (by decide)
theorem cp_s8 {fu : Nat} {b : Nat → Int32} {n : Nat} {Fc Fm : PF} {Gc Gm : PG} (h : BT b n Fc Gc Fm Gm) (h93 : (Fc 93).toInt < 4001) {x1 x2 x4 a1 : Int32} {x : Nat} (e1 : x1.toInt = x) (hx : x < n) (k0 : b x = 63) (e2 : x2 = b x) (x4e : x4 = nI (x + 1)) (ha1 : AC b n x4 a1) : PP (cb_X10_behindSign_51 fu x1 x2 8 x4 a1 Fc Gc) (CSG b n x x1 Fc Gc) := by
  obtain ⟨h0, h1, h2, h3, h4⟩ := id h
  have x4i : x4.toInt = x + 1 := by rw [x4e, nI_toInt (by omega)]; omega
  have m1 : b (x + 1) = b x4.toInt.toNat := by rw [show x4.toInt.toNat = x + 1 by omega]
  have x41 : (x4 + 1).toInt = x4.toInt + 1 := i_addn x4 rfl (by omega) (by omega)
  have x42 : (x4 + 1 + 1).toInt = (x4 + 1).toInt + 1 := i_addn (x4 + 1) rfl (by omega) (by omega)
  have add1 : nI (x + 1) + 1 = nI (x + 2) := by rw [show x + 2 = x + 1 + 1 from rfl, ← nI_add (x + 1) 1]; rfl
  have add2 : nI (x + 1) + 1 + 1 = nI (x + 3) := by rw [add1, show x + 3 = x + 2 + 1 from rfl, ← nI_add (x + 2) 1]; rfl
  have add3 : nI (x + 1) + 1 + 1 + 1 = nI (x + 4) := by rw [add2, show x + 4 = x + 3 + 1 from rfl, ← nI_add (x + 3) 1]; rfl
  unfold cb_X10_behindSign_51
  refine PP.ix (fun _ => ?_)
  have cc := ha1.iff h4 (by omega) m1 (c := 63) (by decide) (by decide)
  have ce := ha1.iff h4 (by omega) m1 (c := 61) (by decide) (by decide)
  rw [k0] at e2
  rw [e2]
  refine PP.ite (fun z => ?_) (fun z => ?_)
  · have k1 := cc.mp z
    unfold cb_X10_behindSign_64
    refine PP.ix (fun _ => ?_)
    rw [if_pos (by decide)]
    unfold cb_X10_behindSign_153
    refine PP.ite (fun y => ?_) (fun y => ?_)
    · unfold cb_X10_behindSign_160
      refine PP.ix (fun _ => ?_)
      rw [if_pos (by decide)]
      exact cp_178 h93 (sg_t8_30_ek163 k0 k1) (by rw [x4e]; rfl) (by decide)
    · exact cp_178 h93 (sg_t8_30_ek163 k0 k1) (by rw [x4e]; rfl) (by decide)
  · have n1_63 := mt cc.mpr z
    unfold cb_X10_behindSign_153
    refine PP.ite (fun y => ?_) (fun y => ?_)
    · unfold cb_X10_behindSign_160
      refine PP.ix (fun _ => ?_)
      rw [if_pos (by decide)]
      exact cp_178 h93 (sg_t8_30_e k0) (by rw [x4e]; rfl) (by decide)
    · exact cp_178 h93 (sg_t8_30_e k0) (by rw [x4e]; rfl) (by decide)
theorem cp_s9 {fu : Nat} {b : Nat → Int32} {n : Nat} {Fc Fm : PF} {Gc Gm : PG} (h : BT b n Fc Gc Fm Gm) (h93 : (Fc 93).toInt < 4001) {x1 x2 x4 a1 : Int32} {x : Nat} (e1 : x1.toInt = x) (hx : x < n) (k0 : b x = 58) (e2 : x2 = b x) (x4e : x4 = nI (x + 1)) (ha1 : AC b n x4 a1) : PP (cb_X10_behindSign_51 fu x1 x2 9 x4 a1 Fc Gc) (CSG b n x x1 Fc Gc) := by
  obtain ⟨h0, h1, h2, h3, h4⟩ := id h
  have x4i : x4.toInt = x + 1 := by rw [x4e, nI_toInt (by omega)]; omega
  have m1 : b (x + 1) = b x4.toInt.toNat := by rw [show x4.toInt.toNat = x + 1 by omega]
  have x41 : (x4 + 1).toInt = x4.toInt + 1 := i_addn x4 rfl (by omega) (by omega)
  have x42 : (x4 + 1 + 1).toInt = (x4 + 1).toInt + 1 := i_addn (x4 + 1) rfl (by omega) (by omega)
  have add1 : nI (x + 1) + 1 = nI (x + 2) := by rw [show x + 2 = x + 1 + 1 from rfl, ← nI_add (x + 1) 1]; rfl
  have add2 : nI (x + 1) + 1 + 1 = nI (x + 3) := by rw [add1, show x + 3 = x + 2 + 1 from rfl, ← nI_add (x + 2) 1]; rfl
  have add3 : nI (x + 1) + 1 + 1 + 1 = nI (x + 4) := by rw [add2, show x + 4 = x + 3 + 1 from rfl, ← nI_add (x + 3) 1]; rfl
  unfold cb_X10_behindSign_51
  refine PP.ix (fun _ => ?_)
  have cc := ha1.iff h4 (by omega) m1 (c := 58) (by decide) (by decide)
  have ce := ha1.iff h4 (by omega) m1 (c := 61) (by decide) (by decide)
  rw [k0] at e2
  rw [e2]
  refine PP.ite (fun z => ?_) (fun z => ?_)
  · have k1 := cc.mp z
    unfold cb_X10_behindSign_64
    refine PP.ix (fun _ => ?_)
    rw [if_pos (by decide)]
    unfold cb_X10_behindSign_153
    refine PP.ite (fun y => ?_) (fun y => ?_)
    · unfold cb_X10_behindSign_160
      refine PP.ix (fun _ => ?_)
      rw [if_pos (by decide)]
      exact cp_178 h93 (sg_t9_31_ek158 k0 k1) (by rw [x4e]; rfl) (by decide)
    · exact cp_178 h93 (sg_t9_31_ek158 k0 k1) (by rw [x4e]; rfl) (by decide)
  · have n1_58 := mt cc.mpr z
    unfold cb_X10_behindSign_153
    refine PP.ite (fun y => ?_) (fun y => ?_)
    · unfold cb_X10_behindSign_160
      refine PP.ix (fun _ => ?_)
      rw [if_pos (by decide)]
      exact cp_178 h93 (sg_t9_31_e k0) (by rw [x4e]; rfl) (by decide)
    · exact cp_178 h93 (sg_t9_31_e k0) (by rw [x4e]; rfl) (by decide)
theorem cp_s10 {fu : Nat} {b : Nat → Int32} {n : Nat} {Fc Fm : PF} {Gc Gm : PG} (h : BT b n Fc Gc Fm Gm) (h93 : (Fc 93).toInt < 4001) {x1 x2 x4 a1 : Int32} {x : Nat} (e1 : x1.toInt = x) (hx : x < n) (k0 : b x = 61) (e2 : x2 = b x) (x4e : x4 = nI (x + 1)) (ha1 : AC b n x4 a1) : PP (cb_X10_behindSign_51 fu x1 x2 10 x4 a1 Fc Gc) (CSG b n x x1 Fc Gc) := by
  obtain ⟨h0, h1, h2, h3, h4⟩ := id h
  have x4i : x4.toInt = x + 1 := by rw [x4e, nI_toInt (by omega)]; omega
  have m1 : b (x + 1) = b x4.toInt.toNat := by rw [show x4.toInt.toNat = x + 1 by omega]
  have x41 : (x4 + 1).toInt = x4.toInt + 1 := i_addn x4 rfl (by omega) (by omega)
  have x42 : (x4 + 1 + 1).toInt = (x4 + 1).toInt + 1 := i_addn (x4 + 1) rfl (by omega) (by omega)
  have add1 : nI (x + 1) + 1 = nI (x + 2) := by rw [show x + 2 = x + 1 + 1 from rfl, ← nI_add (x + 1) 1]; rfl
  have add2 : nI (x + 1) + 1 + 1 = nI (x + 3) := by rw [add1, show x + 3 = x + 2 + 1 from rfl, ← nI_add (x + 2) 1]; rfl
  have add3 : nI (x + 1) + 1 + 1 + 1 = nI (x + 4) := by rw [add2, show x + 4 = x + 3 + 1 from rfl, ← nI_add (x + 3) 1]; rfl
  unfold cb_X10_behindSign_51
  refine PP.ix (fun _ => ?_)
  have cc := ha1.iff h4 (by omega) m1 (c := 61) (by decide) (by decide)
  have ce := ha1.iff h4 (by omega) m1 (c := 61) (by decide) (by decide)
  rw [k0] at e2
  rw [e2]
  refine PP.ite (fun z => ?_) (fun z => ?_)
  · have k1 := cc.mp z
    unfold cb_X10_behindSign_64
    refine PP.ix (fun _ => ?_)
    rw [if_neg (by decide)]
    unfold cb_X10_behindSign_72
    refine PP.ix (fun _ => ?_)
    rw [if_neg (by decide)]
    unfold cb_X10_behindSign_109
    rw [if_pos (by decide)]
    exact cp_178 h93 (sg_t10_16_ek161 k0 k1) (by rw [x4e, add1]; rfl) (by decide)
  · have n1_61 := mt cc.mpr z
    unfold cb_X10_behindSign_153
    refine PP.ite (fun y => ?_) (fun y => ?_)
    · exact absurd (y.trans rfl) z
    · exact cp_178 h93 (sg_t10_32_161 k0 n1_61) (by rw [x4e]; rfl) (by decide)
theorem cp_s11 {fu : Nat} {b : Nat → Int32} {n : Nat} {Fc Fm : PF} {Gc Gm : PG} (h : BT b n Fc Gc Fm Gm) (h93 : (Fc 93).toInt < 4001) {x1 x2 x4 a1 : Int32} {x : Nat} (e1 : x1.toInt = x) (hx : x < n) (k0 : b x = 43) (e2 : x2 = b x) (x4e : x4 = nI (x + 1)) (ha1 : AC b n x4 a1) : PP (cb_X10_behindSign_51 fu x1 x2 11 x4 a1 Fc Gc) (CSG b n x x1 Fc Gc) := by
  obtain ⟨h0, h1, h2, h3, h4⟩ := id h
  have x4i : x4.toInt = x + 1 := by rw [x4e, nI_toInt (by omega)]; omega
  have m1 : b (x + 1) = b x4.toInt.toNat := by rw [show x4.toInt.toNat = x + 1 by omega]
  have x41 : (x4 + 1).toInt = x4.toInt + 1 := i_addn x4 rfl (by omega) (by omega)
  have x42 : (x4 + 1 + 1).toInt = (x4 + 1).toInt + 1 := i_addn (x4 + 1) rfl (by omega) (by omega)
  have add1 : nI (x + 1) + 1 = nI (x + 2) := by rw [show x + 2 = x + 1 + 1 from rfl, ← nI_add (x + 1) 1]; rfl
  have add2 : nI (x + 1) + 1 + 1 = nI (x + 3) := by rw [add1, show x + 3 = x + 2 + 1 from rfl, ← nI_add (x + 2) 1]; rfl
  have add3 : nI (x + 1) + 1 + 1 + 1 = nI (x + 4) := by rw [add2, show x + 4 = x + 3 + 1 from rfl, ← nI_add (x + 3) 1]; rfl
  unfold cb_X10_behindSign_51
  refine PP.ix (fun _ => ?_)
  have cc := ha1.iff h4 (by omega) m1 (c := 43) (by decide) (by decide)
  have ce := ha1.iff h4 (by omega) m1 (c := 61) (by decide) (by decide)
  rw [k0] at e2
  rw [e2]
  refine PP.ite (fun z => ?_) (fun z => ?_)
  · have k1 := cc.mp z
    unfold cb_X10_behindSign_64
    refine PP.ix (fun _ => ?_)
    rw [if_neg (by decide)]
    unfold cb_X10_behindSign_72
    refine PP.ix (fun _ => ?_)
    rw [if_neg (by decide)]
    unfold cb_X10_behindSign_109
    rw [if_pos (by decide)]
    exact cp_178 h93 (sg_t11_12_ek143 k0 k1) (by rw [x4e, add1]; rfl) (by decide)
  · have n1_43 := mt cc.mpr z
    unfold cb_X10_behindSign_153
    refine PP.ite (fun y => ?_) (fun y => ?_)
    · have k1 := ce.mp y
      unfold cb_X10_behindSign_160
      refine PP.ix (fun _ => ?_)
      rw [if_neg (by decide)]
      unfold cb_X10_behindSign_168
      refine PP.ix (fun _ => ?_)
      exact cp_178 h93 (sg_t11_4_ek161 k0 k1) (by rw [x4e, add1]; rfl) (by decide)
    · have n1_61 := mt ce.mpr y
      exact cp_178 h93 (sg_t11_38_143_161 k0 n1_43 n1_61) (by rw [x4e]; rfl) (by decide)
theorem cp_s12 {fu : Nat} {b : Nat → Int32} {n : Nat} {Fc Fm : PF} {Gc Gm : PG} (h : BT b n Fc Gc Fm Gm) (h93 : (Fc 93).toInt < 4001) {x1 x2 x4 a1 : Int32} {x : Nat} (e1 : x1.toInt = x) (hx : x < n) (k0 : b x = 45) (e2 : x2 = b x) (x4e : x4 = nI (x + 1)) (ha1 : AC b n x4 a1) : PP (cb_X10_behindSign_51 fu x1 x2 12 x4 a1 Fc Gc) (CSG b n x x1 Fc Gc) := by
  obtain ⟨h0, h1, h2, h3, h4⟩ := id h
  have x4i : x4.toInt = x + 1 := by rw [x4e, nI_toInt (by omega)]; omega
  have m1 : b (x + 1) = b x4.toInt.toNat := by rw [show x4.toInt.toNat = x + 1 by omega]
  have x41 : (x4 + 1).toInt = x4.toInt + 1 := i_addn x4 rfl (by omega) (by omega)
  have x42 : (x4 + 1 + 1).toInt = (x4 + 1).toInt + 1 := i_addn (x4 + 1) rfl (by omega) (by omega)
  have add1 : nI (x + 1) + 1 = nI (x + 2) := by rw [show x + 2 = x + 1 + 1 from rfl, ← nI_add (x + 1) 1]; rfl
  have add2 : nI (x + 1) + 1 + 1 = nI (x + 3) := by rw [add1, show x + 3 = x + 2 + 1 from rfl, ← nI_add (x + 2) 1]; rfl
  have add3 : nI (x + 1) + 1 + 1 + 1 = nI (x + 4) := by rw [add2, show x + 4 = x + 3 + 1 from rfl, ← nI_add (x + 3) 1]; rfl
  unfold cb_X10_behindSign_51
  refine PP.ix (fun _ => ?_)
  have cc := ha1.iff h4 (by omega) m1 (c := 45) (by decide) (by decide)
  have ce := ha1.iff h4 (by omega) m1 (c := 61) (by decide) (by decide)
  rw [k0] at e2
  rw [e2]
  refine PP.ite (fun z => ?_) (fun z => ?_)
  · have k1 := cc.mp z
    unfold cb_X10_behindSign_64
    refine PP.ix (fun _ => ?_)
    rw [if_neg (by decide)]
    unfold cb_X10_behindSign_72
    refine PP.ix (fun _ => ?_)
    rw [if_neg (by decide)]
    unfold cb_X10_behindSign_109
    rw [if_pos (by decide)]
    exact cp_178 h93 (sg_t12_13_ek145 k0 k1) (by rw [x4e, add1]; rfl) (by decide)
  · have n1_45 := mt cc.mpr z
    unfold cb_X10_behindSign_153
    refine PP.ite (fun y => ?_) (fun y => ?_)
    · have k1 := ce.mp y
      unfold cb_X10_behindSign_160
      refine PP.ix (fun _ => ?_)
      rw [if_neg (by decide)]
      unfold cb_X10_behindSign_168
      refine PP.ix (fun _ => ?_)
      exact cp_178 h93 (sg_t12_5_ek161 k0 k1) (by rw [x4e, add1]; rfl) (by decide)
    · have n1_61 := mt ce.mpr y
      exact cp_178 h93 (sg_t12_39_145_161 k0 n1_45 n1_61) (by rw [x4e]; rfl) (by decide)
theorem cp_s13 {fu : Nat} {b : Nat → Int32} {n : Nat} {Fc Fm : PF} {Gc Gm : PG} (h : BT b n Fc Gc Fm Gm) (h93 : (Fc 93).toInt < 4001) {x1 x2 x4 a1 : Int32} {x : Nat} (e1 : x1.toInt = x) (hx : x < n) (k0 : b x = 42) (e2 : x2 = b x) (x4e : x4 = nI (x + 1)) (ha1 : AC b n x4 a1) : PP (cb_X10_behindSign_51 fu x1 x2 13 x4 a1 Fc Gc) (CSG b n x x1 Fc Gc) := by
  obtain ⟨h0, h1, h2, h3, h4⟩ := id h
  have x4i : x4.toInt = x + 1 := by rw [x4e, nI_toInt (by omega)]; omega
  have m1 : b (x + 1) = b x4.toInt.toNat := by rw [show x4.toInt.toNat = x + 1 by omega]
  have x41 : (x4 + 1).toInt = x4.toInt + 1 := i_addn x4 rfl (by omega) (by omega)
  have x42 : (x4 + 1 + 1).toInt = (x4 + 1).toInt + 1 := i_addn (x4 + 1) rfl (by omega) (by omega)
  have add1 : nI (x + 1) + 1 = nI (x + 2) := by rw [show x + 2 = x + 1 + 1 from rfl, ← nI_add (x + 1) 1]; rfl
  have add2 : nI (x + 1) + 1 + 1 = nI (x + 3) := by rw [add1, show x + 3 = x + 2 + 1 from rfl, ← nI_add (x + 2) 1]; rfl
  have add3 : nI (x + 1) + 1 + 1 + 1 = nI (x + 4) := by rw [add2, show x + 4 = x + 3 + 1 from rfl, ← nI_add (x + 3) 1]; rfl
  unfold cb_X10_behindSign_51
  refine PP.ix (fun _ => ?_)
  have cc := ha1.iff h4 (by omega) m1 (c := 42) (by decide) (by decide)
  have ce := ha1.iff h4 (by omega) m1 (c := 61) (by decide) (by decide)
  rw [k0] at e2
  rw [e2]
  refine PP.ite (fun z => ?_) (fun z => ?_)
  · have k1 := cc.mp z
    unfold cb_X10_behindSign_64
    refine PP.ix (fun _ => ?_)
    rw [if_pos (by decide)]
    unfold cb_X10_behindSign_153
    refine PP.ite (fun y => ?_) (fun y => ?_)
    · have k1 := ce.mp y
      unfold cb_X10_behindSign_160
      refine PP.ix (fun _ => ?_)
      rw [if_neg (by decide)]
      unfold cb_X10_behindSign_168
      refine PP.ix (fun _ => ?_)
      exact cp_178 h93 (sg_t13_6_ek161 k0 k1) (by rw [x4e, add1]; rfl) (by decide)
    · have n1_61 := mt ce.mpr y
      exact cp_178 h93 (sg_t13_40_161k142 k0 k1 n1_61) (by rw [x4e]; rfl) (by decide)
  · have n1_42 := mt cc.mpr z
    unfold cb_X10_behindSign_153
    refine PP.ite (fun y => ?_) (fun y => ?_)
    · have k1 := ce.mp y
      unfold cb_X10_behindSign_160
      refine PP.ix (fun _ => ?_)
      rw [if_neg (by decide)]
      unfold cb_X10_behindSign_168
      refine PP.ix (fun _ => ?_)
      exact cp_178 h93 (sg_t13_6_ek161 k0 k1) (by rw [x4e, add1]; rfl) (by decide)
    · have n1_61 := mt ce.mpr y
      exact cp_178 h93 (sg_t13_40_161 k0 n1_61) (by rw [x4e]; rfl) (by decide)
theorem cp_s14 {fu : Nat} {b : Nat → Int32} {n : Nat} {Fc Fm : PF} {Gc Gm : PG} (h : BT b n Fc Gc Fm Gm) (h93 : (Fc 93).toInt < 4001) {x1 x2 x4 a1 : Int32} {x : Nat} (e1 : x1.toInt = x) (hx : x < n) (k0 : b x = 47) (e2 : x2 = b x) (x4e : x4 = nI (x + 1)) (ha1 : AC b n x4 a1) : PP (cb_X10_behindSign_51 fu x1 x2 14 x4 a1 Fc Gc) (CSG b n x x1 Fc Gc) := by
  obtain ⟨h0, h1, h2, h3, h4⟩ := id h
  have x4i : x4.toInt = x + 1 := by rw [x4e, nI_toInt (by omega)]; omega
  have m1 : b (x + 1) = b x4.toInt.toNat := by rw [show x4.toInt.toNat = x + 1 by omega]
  have x41 : (x4 + 1).toInt = x4.toInt + 1 := i_addn x4 rfl (by omega) (by omega)
  have x42 : (x4 + 1 + 1).toInt = (x4 + 1).toInt + 1 := i_addn (x4 + 1) rfl (by omega) (by omega)
  have add1 : nI (x + 1) + 1 = nI (x + 2) := by rw [show x + 2 = x + 1 + 1 from rfl, ← nI_add (x + 1) 1]; rfl
  have add2 : nI (x + 1) + 1 + 1 = nI (x + 3) := by rw [add1, show x + 3 = x + 2 + 1 from rfl, ← nI_add (x + 2) 1]; rfl
  have add3 : nI (x + 1) + 1 + 1 + 1 = nI (x + 4) := by rw [add2, show x + 4 = x + 3 + 1 from rfl, ← nI_add (x + 3) 1]; rfl
  unfold cb_X10_behindSign_51
  refine PP.ix (fun _ => ?_)
  have cc := ha1.iff h4 (by omega) m1 (c := 47) (by decide) (by decide)
  have ce := ha1.iff h4 (by omega) m1 (c := 61) (by decide) (by decide)
  rw [k0] at e2
  rw [e2]
  refine PP.ite (fun z => ?_) (fun z => ?_)
  · have k1 := cc.mp z
    unfold cb_X10_behindSign_64
    refine PP.ix (fun _ => ?_)
    rw [if_pos (by decide)]
    unfold cb_X10_behindSign_153
    refine PP.ite (fun y => ?_) (fun y => ?_)
    · have k1 := ce.mp y
      unfold cb_X10_behindSign_160
      refine PP.ix (fun _ => ?_)
      rw [if_neg (by decide)]
      unfold cb_X10_behindSign_168
      refine PP.ix (fun _ => ?_)
      exact cp_178 h93 (sg_t14_7_ek161 k0 k1) (by rw [x4e, add1]; rfl) (by decide)
    · have n1_61 := mt ce.mpr y
      exact cp_178 h93 (sg_t14_41_161k147 k0 k1 n1_61) (by rw [x4e]; rfl) (by decide)
  · have n1_47 := mt cc.mpr z
    unfold cb_X10_behindSign_153
    refine PP.ite (fun y => ?_) (fun y => ?_)
    · have k1 := ce.mp y
      unfold cb_X10_behindSign_160
      refine PP.ix (fun _ => ?_)
      rw [if_neg (by decide)]
      unfold cb_X10_behindSign_168
      refine PP.ix (fun _ => ?_)
      exact cp_178 h93 (sg_t14_7_ek161 k0 k1) (by rw [x4e, add1]; rfl) (by decide)
    · have n1_61 := mt ce.mpr y
      exact cp_178 h93 (sg_t14_41_161 k0 n1_61) (by rw [x4e]; rfl) (by decide)
theorem cp_s15 {fu : Nat} {b : Nat → Int32} {n : Nat} {Fc Fm : PF} {Gc Gm : PG} (h : BT b n Fc Gc Fm Gm) (h93 : (Fc 93).toInt < 4001) {x1 x2 x4 a1 : Int32} {x : Nat} (e1 : x1.toInt = x) (hx : x < n) (k0 : b x = 37) (e2 : x2 = b x) (x4e : x4 = nI (x + 1)) (ha1 : AC b n x4 a1) : PP (cb_X10_behindSign_51 fu x1 x2 15 x4 a1 Fc Gc) (CSG b n x x1 Fc Gc) := by
  obtain ⟨h0, h1, h2, h3, h4⟩ := id h
  have x4i : x4.toInt = x + 1 := by rw [x4e, nI_toInt (by omega)]; omega
  have m1 : b (x + 1) = b x4.toInt.toNat := by rw [show x4.toInt.toNat = x + 1 by omega]
  have x41 : (x4 + 1).toInt = x4.toInt + 1 := i_addn x4 rfl (by omega) (by omega)
  have x42 : (x4 + 1 + 1).toInt = (x4 + 1).toInt + 1 := i_addn (x4 + 1) rfl (by omega) (by omega)
  have add1 : nI (x + 1) + 1 = nI (x + 2) := by rw [show x + 2 = x + 1 + 1 from rfl, ← nI_add (x + 1) 1]; rfl
  have add2 : nI (x + 1) + 1 + 1 = nI (x + 3) := by rw [add1, show x + 3 = x + 2 + 1 from rfl, ← nI_add (x + 2) 1]; rfl
  have add3 : nI (x + 1) + 1 + 1 + 1 = nI (x + 4) := by rw [add2, show x + 4 = x + 3 + 1 from rfl, ← nI_add (x + 3) 1]; rfl
  unfold cb_X10_behindSign_51
  refine PP.ix (fun _ => ?_)
  have cc := ha1.iff h4 (by omega) m1 (c := 37) (by decide) (by decide)
  have ce := ha1.iff h4 (by omega) m1 (c := 61) (by decide) (by decide)
  rw [k0] at e2
  rw [e2]
  refine PP.ite (fun z => ?_) (fun z => ?_)
  · have k1 := cc.mp z
    unfold cb_X10_behindSign_64
    refine PP.ix (fun _ => ?_)
    rw [if_pos (by decide)]
    unfold cb_X10_behindSign_153
    refine PP.ite (fun y => ?_) (fun y => ?_)
    · have k1 := ce.mp y
      unfold cb_X10_behindSign_160
      refine PP.ix (fun _ => ?_)
      rw [if_neg (by decide)]
      unfold cb_X10_behindSign_168
      refine PP.ix (fun _ => ?_)
      exact cp_178 h93 (sg_t15_8_ek161 k0 k1) (by rw [x4e, add1]; rfl) (by decide)
    · have n1_61 := mt ce.mpr y
      exact cp_178 h93 (sg_t15_42_161k137 k0 k1 n1_61) (by rw [x4e]; rfl) (by decide)
  · have n1_37 := mt cc.mpr z
    unfold cb_X10_behindSign_153
    refine PP.ite (fun y => ?_) (fun y => ?_)
    · have k1 := ce.mp y
      unfold cb_X10_behindSign_160
      refine PP.ix (fun _ => ?_)
      rw [if_neg (by decide)]
      unfold cb_X10_behindSign_168
      refine PP.ix (fun _ => ?_)
      exact cp_178 h93 (sg_t15_8_ek161 k0 k1) (by rw [x4e, add1]; rfl) (by decide)
    · have n1_61 := mt ce.mpr y
      exact cp_178 h93 (sg_t15_42_161 k0 n1_61) (by rw [x4e]; rfl) (by decide)
theorem cp_s16 {fu : Nat} {b : Nat → Int32} {n : Nat} {Fc Fm : PF} {Gc Gm : PG} (h : BT b n Fc Gc Fm Gm) (h93 : (Fc 93).toInt < 4001) {x1 x2 x4 a1 : Int32} {x : Nat} (e1 : x1.toInt = x) (hx : x < n) (k0 : b x = 38) (e2 : x2 = b x) (x4e : x4 = nI (x + 1)) (ha1 : AC b n x4 a1) : PP (cb_X10_behindSign_51 fu x1 x2 16 x4 a1 Fc Gc) (CSG b n x x1 Fc Gc) := by
  obtain ⟨h0, h1, h2, h3, h4⟩ := id h
  have x4i : x4.toInt = x + 1 := by rw [x4e, nI_toInt (by omega)]; omega
  have m1 : b (x + 1) = b x4.toInt.toNat := by rw [show x4.toInt.toNat = x + 1 by omega]
  have x41 : (x4 + 1).toInt = x4.toInt + 1 := i_addn x4 rfl (by omega) (by omega)
  have x42 : (x4 + 1 + 1).toInt = (x4 + 1).toInt + 1 := i_addn (x4 + 1) rfl (by omega) (by omega)
  have add1 : nI (x + 1) + 1 = nI (x + 2) := by rw [show x + 2 = x + 1 + 1 from rfl, ← nI_add (x + 1) 1]; rfl
  have add2 : nI (x + 1) + 1 + 1 = nI (x + 3) := by rw [add1, show x + 3 = x + 2 + 1 from rfl, ← nI_add (x + 2) 1]; rfl
  have add3 : nI (x + 1) + 1 + 1 + 1 = nI (x + 4) := by rw [add2, show x + 4 = x + 3 + 1 from rfl, ← nI_add (x + 3) 1]; rfl
  unfold cb_X10_behindSign_51
  refine PP.ix (fun _ => ?_)
  have cc := ha1.iff h4 (by omega) m1 (c := 38) (by decide) (by decide)
  have ce := ha1.iff h4 (by omega) m1 (c := 61) (by decide) (by decide)
  rw [k0] at e2
  rw [e2]
  refine PP.ite (fun z => ?_) (fun z => ?_)
  · have k1 := cc.mp z
    unfold cb_X10_behindSign_64
    refine PP.ix (fun _ => ?_)
    rw [if_neg (by decide)]
    unfold cb_X10_behindSign_72
    refine PP.ix (fun _ => ?_)
    rw [if_neg (by decide)]
    unfold cb_X10_behindSign_109
    rw [if_pos (by decide)]
    exact cp_178 h93 (sg_t16_15_ek138 k0 k1) (by rw [x4e, add1]; rfl) (by decide)
  · have n1_38 := mt cc.mpr z
    unfold cb_X10_behindSign_153
    refine PP.ite (fun y => ?_) (fun y => ?_)
    · have k1 := ce.mp y
      unfold cb_X10_behindSign_160
      refine PP.ix (fun _ => ?_)
      rw [if_neg (by decide)]
      unfold cb_X10_behindSign_168
      refine PP.ix (fun _ => ?_)
      exact cp_178 h93 (sg_t16_9_ek161 k0 k1) (by rw [x4e, add1]; rfl) (by decide)
    · have n1_61 := mt ce.mpr y
      exact cp_178 h93 (sg_t16_35_138_161 k0 n1_38 n1_61) (by rw [x4e]; rfl) (by decide)
theorem cp_s17 {fu : Nat} {b : Nat → Int32} {n : Nat} {Fc Fm : PF} {Gc Gm : PG} (h : BT b n Fc Gc Fm Gm) (h93 : (Fc 93).toInt < 4001) {x1 x2 x4 a1 : Int32} {x : Nat} (e1 : x1.toInt = x) (hx : x < n) (k0 : b x = 124) (e2 : x2 = b x) (x4e : x4 = nI (x + 1)) (ha1 : AC b n x4 a1) : PP (cb_X10_behindSign_51 fu x1 x2 17 x4 a1 Fc Gc) (CSG b n x x1 Fc Gc) := by
  obtain ⟨h0, h1, h2, h3, h4⟩ := id h
  have x4i : x4.toInt = x + 1 := by rw [x4e, nI_toInt (by omega)]; omega
  have m1 : b (x + 1) = b x4.toInt.toNat := by rw [show x4.toInt.toNat = x + 1 by omega]
  have x41 : (x4 + 1).toInt = x4.toInt + 1 := i_addn x4 rfl (by omega) (by omega)
  have x42 : (x4 + 1 + 1).toInt = (x4 + 1).toInt + 1 := i_addn (x4 + 1) rfl (by omega) (by omega)
  have add1 : nI (x + 1) + 1 = nI (x + 2) := by rw [show x + 2 = x + 1 + 1 from rfl, ← nI_add (x + 1) 1]; rfl
  have add2 : nI (x + 1) + 1 + 1 = nI (x + 3) := by rw [add1, show x + 3 = x + 2 + 1 from rfl, ← nI_add (x + 2) 1]; rfl
  have add3 : nI (x + 1) + 1 + 1 + 1 = nI (x + 4) := by rw [add2, show x + 4 = x + 3 + 1 from rfl, ← nI_add (x + 3) 1]; rfl
  unfold cb_X10_behindSign_51
  refine PP.ix (fun _ => ?_)
  have cc := ha1.iff h4 (by omega) m1 (c := 124) (by decide) (by decide)
  have ce := ha1.iff h4 (by omega) m1 (c := 61) (by decide) (by decide)
  rw [k0] at e2
  rw [e2]
  refine PP.ite (fun z => ?_) (fun z => ?_)
  · have k1 := cc.mp z
    unfold cb_X10_behindSign_64
    refine PP.ix (fun _ => ?_)
    rw [if_neg (by decide)]
    unfold cb_X10_behindSign_72
    refine PP.ix (fun _ => ?_)
    rw [if_neg (by decide)]
    unfold cb_X10_behindSign_109
    rw [if_pos (by decide)]
    exact cp_178 h93 (sg_t17_14_ek1124 k0 k1) (by rw [x4e, add1]; rfl) (by decide)
  · have n1_124 := mt cc.mpr z
    unfold cb_X10_behindSign_153
    refine PP.ite (fun y => ?_) (fun y => ?_)
    · have k1 := ce.mp y
      unfold cb_X10_behindSign_160
      refine PP.ix (fun _ => ?_)
      rw [if_neg (by decide)]
      unfold cb_X10_behindSign_168
      refine PP.ix (fun _ => ?_)
      exact cp_178 h93 (sg_t17_10_ek161 k0 k1) (by rw [x4e, add1]; rfl) (by decide)
    · have n1_61 := mt ce.mpr y
      exact cp_178 h93 (sg_t17_33_161_1124 k0 n1_61 n1_124) (by rw [x4e]; rfl) (by decide)
theorem cp_s18 {fu : Nat} {b : Nat → Int32} {n : Nat} {Fc Fm : PF} {Gc Gm : PG} (h : BT b n Fc Gc Fm Gm) (h93 : (Fc 93).toInt < 4001) {x1 x2 x4 a1 : Int32} {x : Nat} (e1 : x1.toInt = x) (hx : x < n) (k0 : b x = 94) (e2 : x2 = b x) (x4e : x4 = nI (x + 1)) (ha1 : AC b n x4 a1) : PP (cb_X10_behindSign_51 fu x1 x2 18 x4 a1 Fc Gc) (CSG b n x x1 Fc Gc) := by
  obtain ⟨h0, h1, h2, h3, h4⟩ := id h
  have x4i : x4.toInt = x + 1 := by rw [x4e, nI_toInt (by omega)]; omega
  have m1 : b (x + 1) = b x4.toInt.toNat := by rw [show x4.toInt.toNat = x + 1 by omega]
  have x41 : (x4 + 1).toInt = x4.toInt + 1 := i_addn x4 rfl (by omega) (by omega)
  have x42 : (x4 + 1 + 1).toInt = (x4 + 1).toInt + 1 := i_addn (x4 + 1) rfl (by omega) (by omega)
  have add1 : nI (x + 1) + 1 = nI (x + 2) := by rw [show x + 2 = x + 1 + 1 from rfl, ← nI_add (x + 1) 1]; rfl
  have add2 : nI (x + 1) + 1 + 1 = nI (x + 3) := by rw [add1, show x + 3 = x + 2 + 1 from rfl, ← nI_add (x + 2) 1]; rfl
  have add3 : nI (x + 1) + 1 + 1 + 1 = nI (x + 4) := by rw [add2, show x + 4 = x + 3 + 1 from rfl, ← nI_add (x + 3) 1]; rfl
  unfold cb_X10_behindSign_51
  refine PP.ix (fun _ => ?_)
  have cc := ha1.iff h4 (by omega) m1 (c := 94) (by decide) (by decide)
  have ce := ha1.iff h4 (by omega) m1 (c := 61) (by decide) (by decide)
  rw [k0] at e2
  rw [e2]
  refine PP.ite (fun z => ?_) (fun z => ?_)
  · have k1 := cc.mp z
    unfold cb_X10_behindSign_64
    refine PP.ix (fun _ => ?_)
    rw [if_pos (by decide)]
    unfold cb_X10_behindSign_153
    refine PP.ite (fun y => ?_) (fun y => ?_)
    · have k1 := ce.mp y
      unfold cb_X10_behindSign_160
      refine PP.ix (fun _ => ?_)
      rw [if_neg (by decide)]
      unfold cb_X10_behindSign_168
      refine PP.ix (fun _ => ?_)
      exact cp_178 h93 (sg_t18_11_ek161 k0 k1) (by rw [x4e, add1]; rfl) (by decide)
    · have n1_61 := mt ce.mpr y
      exact cp_178 h93 (sg_t18_34_161k194 k0 k1 n1_61) (by rw [x4e]; rfl) (by decide)
  · have n1_94 := mt cc.mpr z
    unfold cb_X10_behindSign_153
    refine PP.ite (fun y => ?_) (fun y => ?_)
    · have k1 := ce.mp y
      unfold cb_X10_behindSign_160
      refine PP.ix (fun _ => ?_)
      rw [if_neg (by decide)]
      unfold cb_X10_behindSign_168
      refine PP.ix (fun _ => ?_)
      exact cp_178 h93 (sg_t18_11_ek161 k0 k1) (by rw [x4e, add1]; rfl) (by decide)
    · have n1_61 := mt ce.mpr y
      exact cp_178 h93 (sg_t18_34_161 k0 n1_61) (by rw [x4e]; rfl) (by decide)
theorem cp_s19 {fu : Nat} {b : Nat → Int32} {n : Nat} {Fc Fm : PF} {Gc Gm : PG} (h : BT b n Fc Gc Fm Gm) (h93 : (Fc 93).toInt < 4001) {x1 x2 x4 a1 : Int32} {x : Nat} (e1 : x1.toInt = x) (hx : x < n) (k0 : b x = 60) (e2 : x2 = b x) (x4e : x4 = nI (x + 1)) (ha1 : AC b n x4 a1) : PP (cb_X10_behindSign_51 fu x1 x2 19 x4 a1 Fc Gc) (CSG b n x x1 Fc Gc) := by
  obtain ⟨h0, h1, h2, h3, h4⟩ := id h
  have x4i : x4.toInt = x + 1 := by rw [x4e, nI_toInt (by omega)]; omega
  have m1 : b (x + 1) = b x4.toInt.toNat := by rw [show x4.toInt.toNat = x + 1 by omega]
  have x41 : (x4 + 1).toInt = x4.toInt + 1 := i_addn x4 rfl (by omega) (by omega)
  have x42 : (x4 + 1 + 1).toInt = (x4 + 1).toInt + 1 := i_addn (x4 + 1) rfl (by omega) (by omega)
  have add1 : nI (x + 1) + 1 = nI (x + 2) := by rw [show x + 2 = x + 1 + 1 from rfl, ← nI_add (x + 1) 1]; rfl
  have add2 : nI (x + 1) + 1 + 1 = nI (x + 3) := by rw [add1, show x + 3 = x + 2 + 1 from rfl, ← nI_add (x + 2) 1]; rfl
  have add3 : nI (x + 1) + 1 + 1 + 1 = nI (x + 4) := by rw [add2, show x + 4 = x + 3 + 1 from rfl, ← nI_add (x + 3) 1]; rfl
  unfold cb_X10_behindSign_51
  refine PP.ix (fun _ => ?_)
  have cc := ha1.iff h4 (by omega) m1 (c := 60) (by decide) (by decide)
  have ce := ha1.iff h4 (by omega) m1 (c := 61) (by decide) (by decide)
  rw [k0] at e2
  rw [e2]
  refine PP.ite (fun z => ?_) (fun z => ?_)
  · have k1 := cc.mp z
    unfold cb_X10_behindSign_64
    refine PP.ix (fun _ => ?_)
    rw [if_neg (by decide)]
    unfold cb_X10_behindSign_72
    refine PP.ix (fun _ => ?_)
    rw [if_neg (by decide)]
    unfold cb_X10_behindSign_109
    rw [if_neg (by decide)]
    unfold cb_X10_behindSign_116
    rw [if_neg (by decide)]
    unfold cb_X10_behindSign_123
    refine PP.bind (cp_at h (x4 + 1)) ?_
    rintro a3 _ _ ⟨rfl, rfl, ha3⟩
    dsimp only
    have m2 : b (x + 2) = b (x4 + 1).toInt.toNat := by rw [show (x4 + 1).toInt.toNat = x + 2 by omega]
    have cq3 := ha3.iff h4 (by omega) m2 (c := 61) (by decide) (by decide)
    unfold cb_X10_behindSign_132
    refine PP.ite (fun w => ?_) (fun w => ?_)
    · have k2 := cq3.mp w
      unfold cb_X10_behindSign_137
      exact cp_178 h93 (sg_t19_2_ek160k261 k0 k1 k2) (by rw [x4e, add2]; rfl) (by decide)
    · have n2_61 := mt cq3.mpr w
      exact cp_178 h93 (sg_t19_20_261k160 k0 k1 n2_61) (by rw [x4e, add1]; rfl) (by decide)
  · have n1_60 := mt cc.mpr z
    unfold cb_X10_behindSign_153
    refine PP.ite (fun y => ?_) (fun y => ?_)
    · have k1 := ce.mp y
      unfold cb_X10_behindSign_160
      refine PP.ix (fun _ => ?_)
      rw [if_neg (by decide)]
      unfold cb_X10_behindSign_168
      refine PP.ix (fun _ => ?_)
      exact cp_178 h93 (sg_t19_18_ek161 k0 k1) (by rw [x4e, add1]; rfl) (by decide)
    · have n1_61 := mt ce.mpr y
      exact cp_178 h93 (sg_t19_36_160_161 k0 n1_60 n1_61) (by rw [x4e]; rfl) (by decide)
theorem cp_s20 {fu : Nat} {b : Nat → Int32} {n : Nat} {Fc Fm : PF} {Gc Gm : PG} (h : BT b n Fc Gc Fm Gm) (h93 : (Fc 93).toInt < 4001) {x1 x2 x4 a1 : Int32} {x : Nat} (e1 : x1.toInt = x) (hx : x < n) (k0 : b x = 62) (e2 : x2 = b x) (x4e : x4 = nI (x + 1)) (ha1 : AC b n x4 a1) : PP (cb_X10_behindSign_51 fu x1 x2 20 x4 a1 Fc Gc) (CSG b n x x1 Fc Gc) := by
  obtain ⟨h0, h1, h2, h3, h4⟩ := id h
  have x4i : x4.toInt = x + 1 := by rw [x4e, nI_toInt (by omega)]; omega
  have m1 : b (x + 1) = b x4.toInt.toNat := by rw [show x4.toInt.toNat = x + 1 by omega]
  have x41 : (x4 + 1).toInt = x4.toInt + 1 := i_addn x4 rfl (by omega) (by omega)
  have x42 : (x4 + 1 + 1).toInt = (x4 + 1).toInt + 1 := i_addn (x4 + 1) rfl (by omega) (by omega)
  have add1 : nI (x + 1) + 1 = nI (x + 2) := by rw [show x + 2 = x + 1 + 1 from rfl, ← nI_add (x + 1) 1]; rfl
  have add2 : nI (x + 1) + 1 + 1 = nI (x + 3) := by rw [add1, show x + 3 = x + 2 + 1 from rfl, ← nI_add (x + 2) 1]; rfl
  have add3 : nI (x + 1) + 1 + 1 + 1 = nI (x + 4) := by rw [add2, show x + 4 = x + 3 + 1 from rfl, ← nI_add (x + 3) 1]; rfl
  unfold cb_X10_behindSign_51
  refine PP.ix (fun _ => ?_)
  have cc := ha1.iff h4 (by omega) m1 (c := 62) (by decide) (by decide)
  have ce := ha1.iff h4 (by omega) m1 (c := 61) (by decide) (by decide)
  rw [k0] at e2
  rw [e2]
  refine PP.ite (fun z => ?_) (fun z => ?_)
  · have k1 := cc.mp z
    unfold cb_X10_behindSign_64
    refine PP.ix (fun _ => ?_)
    rw [if_neg (by decide)]
    unfold cb_X10_behindSign_72
    refine PP.ix (fun _ => ?_)
    rw [if_pos (by decide)]
    unfold cb_X10_behindSign_89
    refine PP.bind (cp_at h (x4 + 1)) ?_
    rintro a2 _ _ ⟨rfl, rfl, ha2⟩
    dsimp only
    have m2 : b (x + 2) = b (x4 + 1).toInt.toNat := by rw [show (x4 + 1).toInt.toNat = x + 2 by omega]
    have cg := ha2.iff h4 (by omega) m2 (c := 62) (by decide) (by decide)
    have cq2 := ha2.iff h4 (by omega) m2 (c := 61) (by decide) (by decide)
    unfold cb_X10_behindSign_98
    refine PP.ite (fun y => ?_) (fun y => ?_)
    · have k2 := cg.mp y
      unfold cb_X10_behindSign_102 cb_X10_behindSign_109
      rw [if_neg (by decide)]
      unfold cb_X10_behindSign_116
      rw [if_neg (by decide)]
      unfold cb_X10_behindSign_123
      refine PP.bind (cp_at h (x4 + 1 + 1)) ?_
      rintro a3 _ _ ⟨rfl, rfl, ha3⟩
      dsimp only
      have m3 : b (x + 3) = b (x4 + 1 + 1).toInt.toNat := by rw [show (x4 + 1 + 1).toInt.toNat = x + 3 by omega]
      have cq3 := ha3.iff h4 (by omega) m3 (c := 61) (by decide) (by decide)
      unfold cb_X10_behindSign_132
      refine PP.ite (fun w => ?_) (fun w => ?_)
      · have k3 := cq3.mp w
        unfold cb_X10_behindSign_137
        exact cp_178 h93 (sg_t20_0_ek162k262k361 k0 k1 k2 k3) (by rw [x4e, add3]; rfl) (by decide)
      · have n3_61 := mt cq3.mpr w
        exact cp_178 h93 (sg_t20_1_361k162k262 k0 k1 k2 n3_61) (by rw [x4e, add2]; rfl) (by decide)
    · have n2_62 := mt cg.mpr y
      unfold cb_X10_behindSign_109
      rw [if_neg (by decide)]
      unfold cb_X10_behindSign_116
      rw [if_neg (by decide)]
      unfold cb_X10_behindSign_123
      refine PP.bind (cp_at h (x4 + 1)) ?_
      rintro a3 _ _ ⟨rfl, rfl, ha3⟩
      dsimp only
      have cq3 := ha3.iff h4 (by omega) m2 (c := 61) (by decide) (by decide)
      unfold cb_X10_behindSign_132
      refine PP.ite (fun w => ?_) (fun w => ?_)
      · have k2 := cq3.mp w
        unfold cb_X10_behindSign_137
        exact cp_178 h93 (sg_t20_3_ek162k261 k0 k1 k2) (by rw [x4e, add2]; rfl) (by decide)
      · have n2_61 := mt cq3.mpr w
        exact cp_178 h93 (sg_t20_21_261_262k162 k0 k1 n2_61 n2_62) (by rw [x4e, add1]; rfl) (by decide)
  · have n1_62 := mt cc.mpr z
    unfold cb_X10_behindSign_153
    refine PP.ite (fun y => ?_) (fun y => ?_)
    · have k1 := ce.mp y
      unfold cb_X10_behindSign_160
      refine PP.ix (fun _ => ?_)
      rw [if_neg (by decide)]
      unfold cb_X10_behindSign_168
      refine PP.ix (fun _ => ?_)
      exact cp_178 h93 (sg_t20_19_ek161 k0 k1) (by rw [x4e, add1]; rfl) (by decide)
    · have n1_61 := mt ce.mpr y
      exact cp_178 h93 (sg_t20_37_161_162 k0 n1_61 n1_62) (by rw [x4e]; rfl) (by decide)
theorem cp_s21 {fu : Nat} {b : Nat → Int32} {n : Nat} {Fc Fm : PF} {Gc Gm : PG} (h : BT b n Fc Gc Fm Gm) (h93 : (Fc 93).toInt < 4001) {x1 x2 x4 a1 : Int32} {x : Nat} (e1 : x1.toInt = x) (hx : x < n) (k0 : b x = 126) (e2 : x2 = b x) (x4e : x4 = nI (x + 1)) (ha1 : AC b n x4 a1) : PP (cb_X10_behindSign_51 fu x1 x2 21 x4 a1 Fc Gc) (CSG b n x x1 Fc Gc) := by
  obtain ⟨h0, h1, h2, h3, h4⟩ := id h
  have x4i : x4.toInt = x + 1 := by rw [x4e, nI_toInt (by omega)]; omega
  have m1 : b (x + 1) = b x4.toInt.toNat := by rw [show x4.toInt.toNat = x + 1 by omega]
  have x41 : (x4 + 1).toInt = x4.toInt + 1 := i_addn x4 rfl (by omega) (by omega)
  have x42 : (x4 + 1 + 1).toInt = (x4 + 1).toInt + 1 := i_addn (x4 + 1) rfl (by omega) (by omega)
  have add1 : nI (x + 1) + 1 = nI (x + 2) := by rw [show x + 2 = x + 1 + 1 from rfl, ← nI_add (x + 1) 1]; rfl
  have add2 : nI (x + 1) + 1 + 1 = nI (x + 3) := by rw [add1, show x + 3 = x + 2 + 1 from rfl, ← nI_add (x + 2) 1]; rfl
  have add3 : nI (x + 1) + 1 + 1 + 1 = nI (x + 4) := by rw [add2, show x + 4 = x + 3 + 1 from rfl, ← nI_add (x + 3) 1]; rfl
  unfold cb_X10_behindSign_51
  refine PP.ix (fun _ => ?_)
  have cc := ha1.iff h4 (by omega) m1 (c := 126) (by decide) (by decide)
  have ce := ha1.iff h4 (by omega) m1 (c := 61) (by decide) (by decide)
  rw [k0] at e2
  rw [e2]
  refine PP.ite (fun z => ?_) (fun z => ?_)
  · have k1 := cc.mp z
    unfold cb_X10_behindSign_64
    refine PP.ix (fun _ => ?_)
    rw [if_pos (by decide)]
    unfold cb_X10_behindSign_153
    refine PP.ite (fun y => ?_) (fun y => ?_)
    · unfold cb_X10_behindSign_160
      refine PP.ix (fun _ => ?_)
      rw [if_pos (by decide)]
      exact cp_178 h93 (sg_t21_43_ek1126 k0 k1) (by rw [x4e]; rfl) (by decide)
    · exact cp_178 h93 (sg_t21_43_ek1126 k0 k1) (by rw [x4e]; rfl) (by decide)
  · have n1_126 := mt cc.mpr z
    unfold cb_X10_behindSign_153
    refine PP.ite (fun y => ?_) (fun y => ?_)
    · unfold cb_X10_behindSign_160
      refine PP.ix (fun _ => ?_)
      rw [if_pos (by decide)]
      exact cp_178 h93 (sg_t21_43_e k0) (by rw [x4e]; rfl) (by decide)
    · exact cp_178 h93 (sg_t21_43_e k0) (by rw [x4e]; rfl) (by decide)
theorem cp_s22 {fu : Nat} {b : Nat → Int32} {n : Nat} {Fc Fm : PF} {Gc Gm : PG} (h : BT b n Fc Gc Fm Gm) (h93 : (Fc 93).toInt < 4001) {x1 x2 x4 a1 : Int32} {x : Nat} (e1 : x1.toInt = x) (hx : x < n) (k0 : b x = 33) (e2 : x2 = b x) (x4e : x4 = nI (x + 1)) (ha1 : AC b n x4 a1) : PP (cb_X10_behindSign_51 fu x1 x2 22 x4 a1 Fc Gc) (CSG b n x x1 Fc Gc) := by
  obtain ⟨h0, h1, h2, h3, h4⟩ := id h
  have x4i : x4.toInt = x + 1 := by rw [x4e, nI_toInt (by omega)]; omega
  have m1 : b (x + 1) = b x4.toInt.toNat := by rw [show x4.toInt.toNat = x + 1 by omega]
  have x41 : (x4 + 1).toInt = x4.toInt + 1 := i_addn x4 rfl (by omega) (by omega)
  have x42 : (x4 + 1 + 1).toInt = (x4 + 1).toInt + 1 := i_addn (x4 + 1) rfl (by omega) (by omega)
  have add1 : nI (x + 1) + 1 = nI (x + 2) := by rw [show x + 2 = x + 1 + 1 from rfl, ← nI_add (x + 1) 1]; rfl
  have add2 : nI (x + 1) + 1 + 1 = nI (x + 3) := by rw [add1, show x + 3 = x + 2 + 1 from rfl, ← nI_add (x + 2) 1]; rfl
  have add3 : nI (x + 1) + 1 + 1 + 1 = nI (x + 4) := by rw [add2, show x + 4 = x + 3 + 1 from rfl, ← nI_add (x + 3) 1]; rfl
  unfold cb_X10_behindSign_51
  refine PP.ix (fun _ => ?_)
  have cc := ha1.iff h4 (by omega) m1 (c := 33) (by decide) (by decide)
  have ce := ha1.iff h4 (by omega) m1 (c := 61) (by decide) (by decide)
  rw [k0] at e2
  rw [e2]
  refine PP.ite (fun z => ?_) (fun z => ?_)
  · have k1 := cc.mp z
    unfold cb_X10_behindSign_64
    refine PP.ix (fun _ => ?_)
    rw [if_pos (by decide)]
    unfold cb_X10_behindSign_153
    refine PP.ite (fun y => ?_) (fun y => ?_)
    · have k1 := ce.mp y
      unfold cb_X10_behindSign_160
      refine PP.ix (fun _ => ?_)
      rw [if_neg (by decide)]
      unfold cb_X10_behindSign_168
      refine PP.ix (fun _ => ?_)
      exact cp_178 h93 (sg_t22_17_ek161 k0 k1) (by rw [x4e, add1]; rfl) (by decide)
    · have n1_61 := mt ce.mpr y
      exact cp_178 h93 (sg_t22_44_161k133 k0 k1 n1_61) (by rw [x4e]; rfl) (by decide)
  · have n1_33 := mt cc.mpr z
    unfold cb_X10_behindSign_153
    refine PP.ite (fun y => ?_) (fun y => ?_)
    · have k1 := ce.mp y
      unfold cb_X10_behindSign_160
      refine PP.ix (fun _ => ?_)
      rw [if_neg (by decide)]
      unfold cb_X10_behindSign_168
      refine PP.ix (fun _ => ?_)
      exact cp_178 h93 (sg_t22_17_ek161 k0 k1) (by rw [x4e, add1]; rfl) (by decide)
    · have n1_61 := mt ce.mpr y
      exact cp_178 h93 (sg_t22_44_161 k0 n1_61) (by rw [x4e]; rfl) (by decide)
theorem cp_sign {fu : Nat} {b : Nat → Int32} {n : Nat} {Fc Fm : PF} {Gc Gm : PG} (h : BT b n Fc Gc Fm Gm) (h93 : (Fc 93).toInt < 4001) {x1 x2 : Int32} {x : Nat} (e1 : x1.toInt = x) (hx : x < n) (e2 : x2 = b x) (hn : ¬ (b x = 47 ∧ b (x + 1) = 42)) : PP (cf_X10_behindSign fu x1 x2 Fc Gc) (CSG b n x x1 Fc Gc) := by
  obtain ⟨h0, h1, h2, h3, h4⟩ := id h
  have bx := (h3 x hx).2.2
  have l0 : (0 : Int32).toInt = 0 := rfl
  have l23 : (23 : Int32).toInt = 23 := rfl
  unfold cf_X10_behindSign cb_X10_behindSign_0
  refine PP.bind (cp_index (k := (b x).toInt.toNat) (i_eq.mpr (by rw [nI_toInt (by omega), e2]; omega)) (by omega) Fc Gc) ?_
  rintro x3 _ _ ⟨rfl, rfl, hi⟩
  dsimp only
  unfold cb_X10_behindSign_7
  refine PP.bind (cp_at h (x1 + 1)) ?_
  rintro a1 _ _ ⟨rfl, rfl, ha1⟩
  dsimp only
  have x4i : (x1 + (1 : Int32)).toInt = x1.toInt + 1 := i_addn x1 rfl (by omega) (by omega)
  have x4e : x1 + (1 : Int32) = nI (x + 1) := i_eq.mpr (by rw [nI_toInt (by omega)]; omega)
  generalize x1 + (1 : Int32) = x4 at x4i x4e ha1
  unfold cb_X10_behindSign_22 cb_X10_behindSign_49
  rcases hi with ⟨i, i0, i1, i2⟩ | ⟨i1, i2⟩
  · have x3i : x3.toInt = i := by rw [i1, nI_toInt (by omega)]
    rw [if_neg (show ¬ x3 < (0 : Int32) from fun q => by have := i_lt.mp q; omega)]
    unfold cb_X10_behindSign_28 cb_X10_behindSign_49
    rw [if_neg (show ¬ (23 : Int32) ≤ x3 from fun q => by have := i_le.mp q; omega)]
    have on : PP (cb_X10_behindSign_51 fu x1 x2 x3 x4 a1 Fc Gc) (CSG b n x x1 Fc Gc) := by
      have k0 : b x = sgc i := by rw [← e2]; exact i2.symm
      rw [i1]
      rcases (show i = 0 ∨ i = 1 ∨ i = 2 ∨ i = 3 ∨ i = 4 ∨ i = 5 ∨ i = 6 ∨ i = 7 ∨ i = 8 ∨ i = 9 ∨ i = 10 ∨ i = 11 ∨ i = 12 ∨ i = 13 ∨ i = 14 ∨ i = 15 ∨ i = 16 ∨ i = 17 ∨ i = 18 ∨ i = 19 ∨ i = 20 ∨ i = 21 ∨ i = 22 by omega) with rfl | rfl | rfl | rfl | rfl | rfl | rfl | rfl | rfl | rfl | rfl | rfl | rfl | rfl | rfl | rfl | rfl | rfl | rfl | rfl | rfl | rfl | rfl
      · exact cp_s0 h h93 e1 hx (k0.trans (by decide)) e2 x4e ha1
      · exact cp_s1 h h93 e1 hx (k0.trans (by decide)) e2 x4e ha1
      · exact cp_s2 h h93 e1 hx (k0.trans (by decide)) e2 x4e ha1
      · exact cp_s3 h h93 e1 hx (k0.trans (by decide)) e2 x4e ha1
      · exact cp_s4 h h93 e1 hx (k0.trans (by decide)) e2 x4e ha1
      · exact cp_s5 h h93 e1 hx (k0.trans (by decide)) e2 x4e ha1
      · exact cp_s6 h h93 e1 hx (k0.trans (by decide)) e2 x4e ha1
      · exact cp_s7 h h93 e1 hx (k0.trans (by decide)) e2 x4e ha1
      · exact cp_s8 h h93 e1 hx (k0.trans (by decide)) e2 x4e ha1
      · exact cp_s9 h h93 e1 hx (k0.trans (by decide)) e2 x4e ha1
      · exact cp_s10 h h93 e1 hx (k0.trans (by decide)) e2 x4e ha1
      · exact cp_s11 h h93 e1 hx (k0.trans (by decide)) e2 x4e ha1
      · exact cp_s12 h h93 e1 hx (k0.trans (by decide)) e2 x4e ha1
      · exact cp_s13 h h93 e1 hx (k0.trans (by decide)) e2 x4e ha1
      · exact cp_s14 h h93 e1 hx (k0.trans (by decide)) e2 x4e ha1
      · exact cp_s15 h h93 e1 hx (k0.trans (by decide)) e2 x4e ha1
      · exact cp_s16 h h93 e1 hx (k0.trans (by decide)) e2 x4e ha1
      · exact cp_s17 h h93 e1 hx (k0.trans (by decide)) e2 x4e ha1
      · exact cp_s18 h h93 e1 hx (k0.trans (by decide)) e2 x4e ha1
      · exact cp_s19 h h93 e1 hx (k0.trans (by decide)) e2 x4e ha1
      · exact cp_s20 h h93 e1 hx (k0.trans (by decide)) e2 x4e ha1
      · exact cp_s21 h h93 e1 hx (k0.trans (by decide)) e2 x4e ha1
      · exact cp_s22 h h93 e1 hx (k0.trans (by decide)) e2 x4e ha1
    unfold cb_X10_behindSign_36
    refine PP.ite (fun z => ?_) (fun _ => on)
    unfold cb_X10_behindSign_42 cb_X10_behindSign_49
    refine PP.ite (fun y => ?_) (fun _ => on)
    have m1 : b (x + 1) = b x4.toInt.toNat := by rw [show x4.toInt.toNat = x + 1 by omega]
    exact absurd ⟨by rw [← e2]; exact z, (ha1.iff h4 (by omega) m1 (c := 42) (by decide) (by decide)).mp y⟩ hn
  · rw [if_pos (show x3 < (0 : Int32) by rw [i1]; decide)]
    exact PP.ret (.inr ⟨sg_none (fun i hi q => i2 i hi (by rw [q, e2])), rfl, rfl, rfl⟩)
