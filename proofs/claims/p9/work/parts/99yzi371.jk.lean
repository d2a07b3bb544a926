theorem i_dm1 (x : Int32) : x / (-1) = -x := by
  refine Int32.toInt_inj.mp ?_
  rw [Int32.toInt_div, show ((-1 : Int32)).toInt = -1 from rfl, Int.tdiv_neg, Int.tdiv_one, Int32.toInt_neg]
theorem i_31 (x : Int32) : x &&& 31 &&& 31 = x &&& 31 := by
  rw [Int32.and_assoc, Int32.and_self]
theorem u_31 (x : Int32) : (x &&& 31).toUInt32 &&& Int32.toUInt32 31 = x.toUInt32 &&& Int32.toUInt32 31 := by
  rw [Int32.toUInt32_and, UInt32.and_assoc, UInt32.and_self]
def jSm (Fc : PF) (Gc : PG) (Fm : PF) (Gm : PG) (r1 : Int32) (F1 : PF) (G1 : PG) (r2 : Int32) (F2 : PF) (G2 : PG) : Prop := r1 = r2 ∧ Fc = F1 ∧ Gc = G1 ∧ Fm = F2 ∧ Gm = G2
theorem jSm.rt {Fc Fm : PF} {Gc Gm : PG} {a b : Int32} (h : a = b) : JP (some (a, Fc, Gc)) (some (b, Fm, Gm)) (jSm Fc Gc Fm Gm) := JP.ret ⟨h, rfl, rfl, rfl, rfl⟩
section JK1
variable {fu : Nat} {Fc Fm : PF} {Gc Gm : PG} (x y : Int32)
theorem jk_over : JP (cb_X11_joined_186 fu x y Fc Gc) (mf_over fu x y Fm Gm) (jSm Fc Gc Fm Gm) := by
  unfold cb_X11_joined_186 mf_over mb_over_0
  by_cases a : y = 0
  · rw [if_pos a, if_pos a]
    exact jSm.rt rfl
  · rw [if_neg a, if_neg a]
    unfold cb_X11_joined_194 mb_over_8
    by_cases b : y = -1
    · rw [if_pos b]
      by_cases c : x = -2147483648
      · rw [if_pos c]
        unfold mb_over_15
        rw [if_pos b]
        refine jSm.rt ?_
        rw [c]
        decide
      · rw [if_neg c]
        unfold mb_over_24
        rw [if_neg a]
        refine jSm.rt ?_
        rw [b]
        exact (i_dm1 x).symm
    · rw [if_neg b]
      unfold cb_X11_joined_204
      rw [if_neg a]
      have k : JP (cb_X11_joined_207 fu (x / y) Fc Gc) (mb_over_24 fu x y Fm Gm) (jSm Fc Gc Fm Gm) := by
        unfold mb_over_24
        rw [if_neg a]
        exact jSm.rt rfl
      by_cases c : x = -2147483648
      · rw [if_pos c]
        unfold mb_over_15
        rw [if_neg b]
        exact k
      · rw [if_neg c]
        exact k
theorem jk_rest : JP (cb_X11_joined_208 fu x y Fc Gc) (mf_rest fu x y Fm Gm) (jSm Fc Gc Fm Gm) := by
  unfold cb_X11_joined_208 mf_rest mb_rest_0
  by_cases a : y = 0
  · rw [if_pos a, if_pos a]
    exact jSm.rt rfl
  · rw [if_neg a, if_neg a]
    unfold cb_X11_joined_216 mb_rest_8
    by_cases b : y = -1
    · rw [if_pos b]
      by_cases c : x = -2147483648
      · rw [if_pos c]
        unfold mb_rest_15
        rw [if_pos b]
        exact jSm.rt rfl
      · rw [if_neg c]
        unfold mb_rest_24
        rw [if_neg a]
        refine jSm.rt ?_
        rw [b, i_dm1, Int32.neg_mul_neg, Int32.mul_one, Int32.sub_self]
    · rw [if_neg b]
      unfold cb_X11_joined_225
      rw [if_neg a]
      have k : JP (cb_X11_joined_228 fu (x - x / y * y) Fc Gc) (mb_rest_24 fu x y Fm Gm) (jSm Fc Gc Fm Gm) := by
        unfold mb_rest_24
        rw [if_neg a]
        exact jSm.rt rfl
      by_cases c : x = -2147483648
      · rw [if_pos c]
        unfold mb_rest_15
        rw [if_neg b]
        exact k
      · rw [if_neg c]
        exact k

theorem jk_d1 : JP (cf_X11_joined fu (kS 1) x y Fc Gc) (mf_doing fu (nI 1) x y Fm Gm) (jSm Fc Gc Fm Gm) := by
  have hc : cf_X11_joined fu (kS 1) x y Fc Gc = cb_X11_joined_170 fu x y Fc Gc := by
    unfold cf_X11_joined cb_X11_joined_0
    rw [if_neg (by decide), if_neg (by decide), if_neg (by decide), if_neg (by decide), if_neg (by decide), if_neg (by decide), if_neg (by decide), if_neg (by decide), if_neg (by decide), if_neg (by decide), if_neg (by decide), if_neg (by decide), if_pos (by decide)]
  have hm : mf_doing fu (nI 1) x y Fm Gm = mb_doing_272 fu x y Fm Gm := by
    unfold mf_doing mb_doing_0
    rw [if_neg (by decide), if_pos (by decide)]
  rw [hc, hm]
  unfold cb_X11_joined_170 mb_doing_272
  refine jSm.rt ?_
  rw [u_31]
theorem jk_d16 : JP (cf_X11_joined fu (kS 16) x y Fc Gc) (mf_doing fu (nI 16) x y Fm Gm) (jSm Fc Gc Fm Gm) := by
  have hc : cf_X11_joined fu (kS 16) x y Fc Gc = cb_X11_joined_96 fu x y Fc Gc := by
    unfold cf_X11_joined cb_X11_joined_0
    rw [if_neg (by decide), if_neg (by decide), if_neg (by decide), if_neg (by decide), if_pos (by decide)]
  have hm : mf_doing fu (nI 16) x y Fm Gm = mb_doing_192 fu x y Fm Gm := by
    unfold mf_doing mb_doing_0
    rw [if_neg (by decide), if_neg (by decide), if_neg (by decide), if_neg (by decide), if_neg (by decide), if_neg (by decide), if_neg (by decide), if_neg (by decide), if_neg (by decide), if_neg (by decide), if_neg (by decide), if_neg (by decide), if_neg (by decide), if_neg (by decide), if_neg (by decide), if_neg (by decide), if_pos (by decide)]
  rw [hc, hm]
  unfold cb_X11_joined_96 mb_doing_192
  by_cases c : x = y
  · rw [if_pos c, if_pos c]
    exact jSm.rt rfl
  · rw [if_neg c, if_neg c]
    exact jSm.rt rfl
theorem jk_d17 : JP (cf_X11_joined fu (kS 17) x y Fc Gc) (mf_doing fu (nI 17) x y Fm Gm) (jSm Fc Gc Fm Gm) := by
  have hc : cf_X11_joined fu (kS 17) x y Fc Gc = cb_X11_joined_107 fu x y Fc Gc := by
    unfold cf_X11_joined cb_X11_joined_0
    rw [if_neg (by decide), if_neg (by decide), if_neg (by decide), if_neg (by decide), if_neg (by decide), if_pos (by decide)]
  have hm : mf_doing fu (nI 17) x y Fm Gm = mb_doing_203 fu x y Fm Gm := by
    unfold mf_doing mb_doing_0
    rw [if_neg (by decide), if_neg (by decide), if_neg (by decide), if_neg (by decide), if_neg (by decide), if_neg (by decide), if_neg (by decide), if_neg (by decide), if_neg (by decide), if_neg (by decide), if_neg (by decide), if_neg (by decide), if_neg (by decide), if_neg (by decide), if_neg (by decide), if_neg (by decide), if_neg (by decide), if_pos (by decide)]
  rw [hc, hm]
  unfold cb_X11_joined_107 mb_doing_203
  by_cases c : x = y
  · rw [if_pos c, if_pos c]
    exact jSm.rt rfl
  · rw [if_neg c, if_neg c]
    exact jSm.rt rfl
theorem jk_d18 : JP (cf_X11_joined fu (kS 18) x y Fc Gc) (mf_doing fu (nI 18) x y Fm Gm) (jSm Fc Gc Fm Gm) := by
  have hc : cf_X11_joined fu (kS 18) x y Fc Gc = cb_X11_joined_129 fu x y Fc Gc := by
    unfold cf_X11_joined cb_X11_joined_0
    rw [if_neg (by decide), if_neg (by decide), if_neg (by decide), if_neg (by decide), if_neg (by decide), if_neg (by decide), if_neg (by decide), if_pos (by decide)]
  have hm : mf_doing fu (nI 18) x y Fm Gm = mb_doing_225 fu x y Fm Gm := by
    unfold mf_doing mb_doing_0
    rw [if_neg (by decide), if_neg (by decide), if_neg (by decide), if_neg (by decide), if_neg (by decide), if_neg (by decide), if_neg (by decide), if_neg (by decide), if_neg (by decide), if_neg (by decide), if_neg (by decide), if_neg (by decide), if_neg (by decide), if_neg (by decide), if_neg (by decide), if_neg (by decide), if_neg (by decide), if_neg (by decide), if_pos (by decide)]
  rw [hc, hm]
  unfold cb_X11_joined_129 mb_doing_225
  by_cases c : y < x
  · rw [if_pos c, if_pos c]
    exact jSm.rt rfl
  · rw [if_neg c, if_neg c]
    exact jSm.rt rfl
theorem jk_d19 : JP (cf_X11_joined fu (kS 19) x y Fc Gc) (mf_doing fu (nI 19) x y Fm Gm) (jSm Fc Gc Fm Gm) := by
  have hc : cf_X11_joined fu (kS 19) x y Fc Gc = cb_X11_joined_151 fu x y Fc Gc := by
    unfold cf_X11_joined cb_X11_joined_0
    rw [if_neg (by decide), if_neg (by decide), if_neg (by decide), if_neg (by decide), if_neg (by decide), if_neg (by decide), if_neg (by decide), if_neg (by decide), if_neg (by decide), if_pos (by decide)]
  have hm : mf_doing fu (nI 19) x y Fm Gm = mb_doing_247 fu x y Fm Gm := by
    unfold mf_doing mb_doing_0
    rw [if_neg (by decide), if_neg (by decide), if_neg (by decide), if_neg (by decide), if_neg (by decide), if_neg (by decide), if_neg (by decide), if_neg (by decide), if_neg (by decide), if_neg (by decide), if_neg (by decide), if_neg (by decide), if_neg (by decide), if_neg (by decide), if_neg (by decide), if_neg (by decide), if_neg (by decide), if_neg (by decide), if_neg (by decide), if_pos (by decide)]
  rw [hc, hm]
  unfold cb_X11_joined_151 mb_doing_247
  by_cases c : x < y
  · rw [if_pos c, if_pos c]
    exact jSm.rt rfl
  · rw [if_neg c, if_neg c]
    exact jSm.rt rfl
theorem jk_d20 : JP (cf_X11_joined fu (kS 20) x y Fc Gc) (mf_doing fu (nI 20) x y Fm Gm) (jSm Fc Gc Fm Gm) := by
  have hc : cf_X11_joined fu (kS 20) x y Fc Gc = cb_X11_joined_162 fu x y Fc Gc := by
    unfold cf_X11_joined cb_X11_joined_0
    rw [if_neg (by decide), if_neg (by decide), if_neg (by decide), if_neg (by decide), if_neg (by decide), if_neg (by decide), if_neg (by decide), if_neg (by decide), if_neg (by decide), if_neg (by decide), if_pos (by decide)]
  have hm : mf_doing fu (nI 20) x y Fm Gm = mb_doing_258 fu x y Fm Gm := by
    unfold mf_doing mb_doing_0
    rw [if_neg (by decide), if_neg (by decide), if_neg (by decide), if_neg (by decide), if_neg (by decide), if_neg (by decide), if_neg (by decide), if_neg (by decide), if_neg (by decide), if_neg (by decide), if_neg (by decide), if_neg (by decide), if_neg (by decide), if_neg (by decide), if_neg (by decide), if_neg (by decide), if_neg (by decide), if_neg (by decide), if_neg (by decide), if_neg (by decide), if_pos (by decide)]
  rw [hc, hm]
  unfold cb_X11_joined_162 mb_doing_258
  refine jSm.rt ?_
  rw [i_31]
theorem jk_d21 : JP (cf_X11_joined fu (kS 21) x y Fc Gc) (mf_doing fu (nI 21) x y Fm Gm) (jSm Fc Gc Fm Gm) := by
  have hc : cf_X11_joined fu (kS 21) x y Fc Gc = cb_X11_joined_166 fu x y Fc Gc := by
    unfold cf_X11_joined cb_X11_joined_0
    rw [if_neg (by decide), if_neg (by decide), if_neg (by decide), if_neg (by decide), if_neg (by decide), if_neg (by decide), if_neg (by decide), if_neg (by decide), if_neg (by decide), if_neg (by decide), if_neg (by decide), if_pos (by decide)]
  have hm : mf_doing fu (nI 21) x y Fm Gm = mb_doing_265 fu x y Fm Gm := by
    unfold mf_doing mb_doing_0
    rw [if_neg (by decide), if_neg (by decide), if_neg (by decide), if_neg (by decide), if_neg (by decide), if_neg (by decide), if_neg (by decide), if_neg (by decide), if_neg (by decide), if_neg (by decide), if_neg (by decide), if_neg (by decide), if_neg (by decide), if_neg (by decide), if_neg (by decide), if_neg (by decide), if_neg (by decide), if_neg (by decide), if_neg (by decide), if_neg (by decide), if_neg (by decide), if_pos (by decide)]
  rw [hc, hm]
  unfold cb_X11_joined_166 mb_doing_265
  refine jSm.rt ?_
  rw [i_31]
theorem jk_d33 : JP (cf_X11_joined fu (kS 33) x y Fc Gc) (mf_doing fu (nI 33) x y Fm Gm) (jSm Fc Gc Fm Gm) := by
  have hc : cf_X11_joined fu (kS 33) x y Fc Gc = cb_X11_joined_84 fu x y Fc Gc := by
    unfold cf_X11_joined cb_X11_joined_0
    rw [if_neg (by decide), if_pos (by decide)]
  have hm : mf_doing fu (nI 33) x y Fm Gm = mb_doing_180 fu x y Fm Gm := by
    unfold mf_doing mb_doing_0
    rw [if_neg (by decide), if_neg (by decide), if_neg (by decide), if_neg (by decide), if_neg (by decide), if_neg (by decide), if_neg (by decide), if_neg (by decide), if_neg (by decide), if_neg (by decide), if_neg (by decide), if_neg (by decide), if_neg (by decide), if_neg (by decide), if_neg (by decide), if_neg (by decide), if_neg (by decide), if_neg (by decide), if_neg (by decide), if_neg (by decide), if_neg (by decide), if_neg (by decide), if_neg (by decide), if_neg (by decide), if_neg (by decide), if_neg (by decide), if_neg (by decide), if_neg (by decide), if_neg (by decide), if_neg (by decide), if_neg (by decide), if_neg (by decide), if_neg (by decide), if_pos (by decide)]
  rw [hc, hm]
  unfold cb_X11_joined_84 mb_doing_180
  exact jSm.rt rfl
theorem jk_d34 : JP (cf_X11_joined fu (kS 34) x y Fc Gc) (mf_doing fu (nI 34) x y Fm Gm) (jSm Fc Gc Fm Gm) := by
  have hc : cf_X11_joined fu (kS 34) x y Fc Gc = cb_X11_joined_88 fu x y Fc Gc := by
    unfold cf_X11_joined cb_X11_joined_0
    rw [if_neg (by decide), if_neg (by decide), if_pos (by decide)]
  have hm : mf_doing fu (nI 34) x y Fm Gm = mb_doing_184 fu x y Fm Gm := by
    unfold mf_doing mb_doing_0
    rw [if_neg (by decide), if_neg (by decide), if_neg (by decide), if_neg (by decide), if_neg (by decide), if_neg (by decide), if_neg (by decide), if_neg (by decide), if_neg (by decide), if_neg (by decide), if_neg (by decide), if_neg (by decide), if_neg (by decide), if_neg (by decide), if_neg (by decide), if_neg (by decide), if_neg (by decide), if_neg (by decide), if_neg (by decide), if_neg (by decide), if_neg (by decide), if_neg (by decide), if_neg (by decide), if_neg (by decide), if_neg (by decide), if_neg (by decide), if_neg (by decide), if_neg (by decide), if_neg (by decide), if_neg (by decide), if_neg (by decide), if_neg (by decide), if_neg (by decide), if_neg (by decide), if_pos (by decide)]
  rw [hc, hm]
  unfold cb_X11_joined_88 mb_doing_184
  exact jSm.rt rfl
theorem jk_d35 : JP (cf_X11_joined fu (kS 35) x y Fc Gc) (mf_doing fu (nI 35) x y Fm Gm) (jSm Fc Gc Fm Gm) := by
  have hc : cf_X11_joined fu (kS 35) x y Fc Gc = cb_X11_joined_92 fu x y Fc Gc := by
    unfold cf_X11_joined cb_X11_joined_0
    rw [if_neg (by decide), if_neg (by decide), if_neg (by decide), if_pos (by decide)]
  have hm : mf_doing fu (nI 35) x y Fm Gm = mb_doing_188 fu x y Fm Gm := by
    unfold mf_doing mb_doing_0
    rw [if_neg (by decide), if_neg (by decide), if_neg (by decide), if_neg (by decide), if_neg (by decide), if_neg (by decide), if_neg (by decide), if_neg (by decide), if_neg (by decide), if_neg (by decide), if_neg (by decide), if_neg (by decide), if_neg (by decide), if_neg (by decide), if_neg (by decide), if_neg (by decide), if_neg (by decide), if_neg (by decide), if_neg (by decide), if_neg (by decide), if_neg (by decide), if_neg (by decide), if_neg (by decide), if_neg (by decide), if_neg (by decide), if_neg (by decide), if_neg (by decide), if_neg (by decide), if_neg (by decide), if_neg (by decide), if_neg (by decide), if_neg (by decide), if_neg (by decide), if_neg (by decide), if_neg (by decide), if_pos (by decide)]
  rw [hc, hm]
  unfold cb_X11_joined_92 mb_doing_188
  exact jSm.rt rfl
theorem jk_d36 : JP (cf_X11_joined fu (kS 36) x y Fc Gc) (mf_doing fu (nI 36) x y Fm Gm) (jSm Fc Gc Fm Gm) := by
  have hc : cf_X11_joined fu (kS 36) x y Fc Gc = cb_X11_joined_118 fu x y Fc Gc := by
    unfold cf_X11_joined cb_X11_joined_0
    rw [if_neg (by decide), if_neg (by decide), if_neg (by decide), if_neg (by decide), if_neg (by decide), if_neg (by decide), if_pos (by decide)]
  have hm : mf_doing fu (nI 36) x y Fm Gm = mb_doing_214 fu x y Fm Gm := by
    unfold mf_doing mb_doing_0
    rw [if_neg (by decide), if_neg (by decide), if_neg (by decide), if_neg (by decide), if_neg (by decide), if_neg (by decide), if_neg (by decide), if_neg (by decide), if_neg (by decide), if_neg (by decide), if_neg (by decide), if_neg (by decide), if_neg (by decide), if_neg (by decide), if_neg (by decide), if_neg (by decide), if_neg (by decide), if_neg (by decide), if_neg (by decide), if_neg (by decide), if_neg (by decide), if_neg (by decide), if_neg (by decide), if_neg (by decide), if_neg (by decide), if_neg (by decide), if_neg (by decide), if_neg (by decide), if_neg (by decide), if_neg (by decide), if_neg (by decide), if_neg (by decide), if_neg (by decide), if_neg (by decide), if_neg (by decide), if_neg (by decide), if_pos (by decide)]
  rw [hc, hm]
  unfold cb_X11_joined_118 mb_doing_214
  by_cases c : y ≤ x
  · rw [if_pos c, if_pos c]
    exact jSm.rt rfl
  · rw [if_neg c, if_neg c]
    exact jSm.rt rfl
theorem jk_d37 : JP (cf_X11_joined fu (kS 37) x y Fc Gc) (mf_doing fu (nI 37) x y Fm Gm) (jSm Fc Gc Fm Gm) := by
  have hc : cf_X11_joined fu (kS 37) x y Fc Gc = cb_X11_joined_140 fu x y Fc Gc := by
    unfold cf_X11_joined cb_X11_joined_0
    rw [if_neg (by decide), if_neg (by decide), if_neg (by decide), if_neg (by decide), if_neg (by decide), if_neg (by decide), if_neg (by decide), if_neg (by decide), if_pos (by decide)]
  have hm : mf_doing fu (nI 37) x y Fm Gm = mb_doing_236 fu x y Fm Gm := by
    unfold mf_doing mb_doing_0
    rw [if_neg (by decide), if_neg (by decide), if_neg (by decide), if_neg (by decide), if_neg (by decide), if_neg (by decide), if_neg (by decide), if_neg (by decide), if_neg (by decide), if_neg (by decide), if_neg (by decide), if_neg (by decide), if_neg (by decide), if_neg (by decide), if_neg (by decide), if_neg (by decide), if_neg (by decide), if_neg (by decide), if_neg (by decide), if_neg (by decide), if_neg (by decide), if_neg (by decide), if_neg (by decide), if_neg (by decide), if_neg (by decide), if_neg (by decide), if_neg (by decide), if_neg (by decide), if_neg (by decide), if_neg (by decide), if_neg (by decide), if_neg (by decide), if_neg (by decide), if_neg (by decide), if_neg (by decide), if_neg (by decide), if_neg (by decide), if_pos (by decide)]
  rw [hc, hm]
  unfold cb_X11_joined_140 mb_doing_236
  by_cases c : x ≤ y
  · rw [if_pos c, if_pos c]
    exact jSm.rt rfl
  · rw [if_neg c, if_neg c]
    exact jSm.rt rfl
theorem jk_d38 : JP (cf_X11_joined fu (kS 38) x y Fc Gc) (mf_doing fu (nI 38) x y Fm Gm) (jSm Fc Gc Fm Gm) := by
  have hc : cf_X11_joined fu (kS 38) x y Fc Gc = cb_X11_joined_174 fu x y Fc Gc := by
    unfold cf_X11_joined cb_X11_joined_0
    rw [if_neg (by decide), if_neg (by decide), if_neg (by decide), if_neg (by decide), if_neg (by decide), if_neg (by decide), if_neg (by decide), if_neg (by decide), if_neg (by decide), if_neg (by decide), if_neg (by decide), if_neg (by decide), if_neg (by decide), if_pos (by decide)]
  have hm : mf_doing fu (nI 38) x y Fm Gm = mb_doing_279 fu x y Fm Gm := by
    unfold mf_doing mb_doing_0
    rw [if_neg (by decide), if_neg (by decide), if_neg (by decide), if_neg (by decide), if_neg (by decide), if_neg (by decide), if_neg (by decide), if_neg (by decide), if_neg (by decide), if_neg (by decide), if_neg (by decide), if_neg (by decide), if_neg (by decide), if_neg (by decide), if_neg (by decide), if_neg (by decide), if_neg (by decide), if_neg (by decide), if_neg (by decide), if_neg (by decide), if_neg (by decide), if_neg (by decide), if_neg (by decide), if_neg (by decide), if_neg (by decide), if_neg (by decide), if_neg (by decide), if_neg (by decide), if_neg (by decide), if_neg (by decide), if_neg (by decide), if_neg (by decide), if_neg (by decide), if_neg (by decide), if_neg (by decide), if_neg (by decide), if_neg (by decide), if_neg (by decide), if_pos (by decide)]
  rw [hc, hm]
  unfold cb_X11_joined_174 mb_doing_279
  exact jSm.rt rfl
theorem jk_d39 : JP (cf_X11_joined fu (kS 39) x y Fc Gc) (mf_doing fu (nI 39) x y Fm Gm) (jSm Fc Gc Fm Gm) := by
  have hc : cf_X11_joined fu (kS 39) x y Fc Gc = cb_X11_joined_178 fu x y Fc Gc := by
    unfold cf_X11_joined cb_X11_joined_0
    rw [if_neg (by decide), if_neg (by decide), if_neg (by decide), if_neg (by decide), if_neg (by decide), if_neg (by decide), if_neg (by decide), if_neg (by decide), if_neg (by decide), if_neg (by decide), if_neg (by decide), if_neg (by decide), if_neg (by decide), if_neg (by decide), if_pos (by decide)]
  have hm : mf_doing fu (nI 39) x y Fm Gm = mb_doing_283 fu x y Fm Gm := by
    unfold mf_doing mb_doing_0
    rw [if_neg (by decide), if_neg (by decide), if_neg (by decide), if_neg (by decide), if_neg (by decide), if_neg (by decide), if_neg (by decide), if_neg (by decide), if_neg (by decide), if_neg (by decide), if_neg (by decide), if_neg (by decide), if_neg (by decide), if_neg (by decide), if_neg (by decide), if_neg (by decide), if_neg (by decide), if_neg (by decide), if_neg (by decide), if_neg (by decide), if_neg (by decide), if_neg (by decide), if_neg (by decide), if_neg (by decide), if_neg (by decide), if_neg (by decide), if_neg (by decide), if_neg (by decide), if_neg (by decide), if_neg (by decide), if_neg (by decide), if_neg (by decide), if_neg (by decide), if_neg (by decide), if_neg (by decide), if_neg (by decide), if_neg (by decide), if_neg (by decide), if_neg (by decide), if_pos (by decide)]
  rw [hc, hm]
  unfold cb_X11_joined_178 mb_doing_283
  exact jSm.rt rfl
theorem jk_d40 : JP (cf_X11_joined fu (kS 40) x y Fc Gc) (mf_doing fu (nI 40) x y Fm Gm) (jSm Fc Gc Fm Gm) := by
  have hc : cf_X11_joined fu (kS 40) x y Fc Gc = cb_X11_joined_182 fu x y Fc Gc := by
    unfold cf_X11_joined cb_X11_joined_0
    rw [if_neg (by decide), if_neg (by decide), if_neg (by decide), if_neg (by decide), if_neg (by decide), if_neg (by decide), if_neg (by decide), if_neg (by decide), if_neg (by decide), if_neg (by decide), if_neg (by decide), if_neg (by decide), if_neg (by decide), if_neg (by decide), if_neg (by decide), if_pos (by decide)]
  have hm : mf_doing fu (nI 40) x y Fm Gm = mb_doing_287 fu x y Fm Gm := by
    unfold mf_doing mb_doing_0
    rw [if_neg (by decide), if_neg (by decide), if_neg (by decide), if_neg (by decide), if_neg (by decide), if_neg (by decide), if_neg (by decide), if_neg (by decide), if_neg (by decide), if_neg (by decide), if_neg (by decide), if_neg (by decide), if_neg (by decide), if_neg (by decide), if_neg (by decide), if_neg (by decide), if_neg (by decide), if_neg (by decide), if_neg (by decide), if_neg (by decide), if_neg (by decide), if_neg (by decide), if_neg (by decide), if_neg (by decide), if_neg (by decide), if_neg (by decide), if_neg (by decide), if_neg (by decide), if_neg (by decide), if_neg (by decide), if_neg (by decide), if_neg (by decide), if_neg (by decide), if_neg (by decide), if_neg (by decide), if_neg (by decide), if_neg (by decide), if_neg (by decide), if_neg (by decide), if_neg (by decide), if_pos (by decide)]
  rw [hc, hm]
  unfold cb_X11_joined_182 mb_doing_287
  exact jSm.rt rfl
theorem jk_d41 : JP (cf_X11_joined fu (kS 41) x y Fc Gc) (mf_doing fu (nI 41) x y Fm Gm) (jSm Fc Gc Fm Gm) := by
  have hc : cf_X11_joined fu (kS 41) x y Fc Gc = cb_X11_joined_186 fu x y Fc Gc := by
    unfold cf_X11_joined cb_X11_joined_0
    rw [if_neg (by decide), if_neg (by decide), if_neg (by decide), if_neg (by decide), if_neg (by decide), if_neg (by decide), if_neg (by decide), if_neg (by decide), if_neg (by decide), if_neg (by decide), if_neg (by decide), if_neg (by decide), if_neg (by decide), if_neg (by decide), if_neg (by decide), if_neg (by decide), if_pos (by decide)]
  have hm : mf_doing fu (nI 41) x y Fm Gm = mb_doing_291 fu x y Fm Gm := by
    unfold mf_doing mb_doing_0
    rw [if_neg (by decide), if_neg (by decide), if_neg (by decide), if_neg (by decide), if_neg (by decide), if_neg (by decide), if_neg (by decide), if_neg (by decide), if_neg (by decide), if_neg (by decide), if_neg (by decide), if_neg (by decide), if_neg (by decide), if_neg (by decide), if_neg (by decide), if_neg (by decide), if_neg (by decide), if_neg (by decide), if_neg (by decide), if_neg (by decide), if_neg (by decide), if_neg (by decide), if_neg (by decide), if_neg (by decide), if_neg (by decide), if_neg (by decide), if_neg (by decide), if_neg (by decide), if_neg (by decide), if_neg (by decide), if_neg (by decide), if_neg (by decide), if_neg (by decide), if_neg (by decide), if_neg (by decide), if_neg (by decide), if_neg (by decide), if_neg (by decide), if_neg (by decide), if_neg (by decide), if_neg (by decide)]
  rw [hc, hm]
  unfold mb_doing_291
  refine JP.bR (jk_over x y) (fun r1 F1 G1 r2 F2 G2 h => ?_)
  dsimp only
  unfold mb_doing_296
  exact PP.ret h
theorem jk_d42 : JP (cf_X11_joined fu (kS 42) x y Fc Gc) (mf_doing fu (nI 42) x y Fm Gm) (jSm Fc Gc Fm Gm) := by
  have hc : cf_X11_joined fu (kS 42) x y Fc Gc = cb_X11_joined_208 fu x y Fc Gc := by
    unfold cf_X11_joined cb_X11_joined_0
    rw [if_neg (by decide), if_neg (by decide), if_neg (by decide), if_neg (by decide), if_neg (by decide), if_neg (by decide), if_neg (by decide), if_neg (by decide), if_neg (by decide), if_neg (by decide), if_neg (by decide), if_neg (by decide), if_neg (by decide), if_neg (by decide), if_neg (by decide), if_neg (by decide), if_neg (by decide)]
  have hm : mf_doing fu (nI 42) x y Fm Gm = mb_doing_297 fu x y Fm Gm := by
    unfold mf_doing mb_doing_0
    rw [if_pos (by decide)]
  rw [hc, hm]
  unfold mb_doing_297
  refine JP.bR (jk_rest x y) (fun r1 F1 G1 r2 F2 G2 h => ?_)
  dsimp only
  unfold mb_doing_302
  exact PP.ret h
theorem jBin_all : ∀ v : Nat, v < 45 → 2 ≤ (lvS (nI v)).toInt → v ∈ ([1, 16, 17, 18, 19, 20, 21, 33, 34, 35, 36, 37, 38, 39, 40, 41, 42] : List Nat) := by decide +kernel
theorem jk_do {v : Nat} (h : jBin v) : JP (cf_X11_joined fu (kS v) x y Fc Gc) (mf_doing fu (nI v) x y Fm Gm) (jSm Fc Gc Fm Gm) := by
  have m := jBin_all v h.1 h.2
  rcases List.mem_cons.mp m with rfl | m
  · exact jk_d1 x y
  rcases List.mem_cons.mp m with rfl | m
  · exact jk_d16 x y
  rcases List.mem_cons.mp m with rfl | m
  · exact jk_d17 x y
  rcases List.mem_cons.mp m with rfl | m
  · exact jk_d18 x y
  rcases List.mem_cons.mp m with rfl | m
  · exact jk_d19 x y
  rcases List.mem_cons.mp m with rfl | m
  · exact jk_d20 x y
  rcases List.mem_cons.mp m with rfl | m
  · exact jk_d21 x y
  rcases List.mem_cons.mp m with rfl | m
  · exact jk_d33 x y
  rcases List.mem_cons.mp m with rfl | m
  · exact jk_d34 x y
  rcases List.mem_cons.mp m with rfl | m
  · exact jk_d35 x y
  rcases List.mem_cons.mp m with rfl | m
  · exact jk_d36 x y
  rcases List.mem_cons.mp m with rfl | m
  · exact jk_d37 x y
  rcases List.mem_cons.mp m with rfl | m
  · exact jk_d38 x y
  rcases List.mem_cons.mp m with rfl | m
  · exact jk_d39 x y
  rcases List.mem_cons.mp m with rfl | m
  · exact jk_d40 x y
  rcases List.mem_cons.mp m with rfl | m
  · exact jk_d41 x y
  rcases List.mem_cons.mp m with rfl | m
  · exact jk_d42 x y
  · cases m
end JK1
