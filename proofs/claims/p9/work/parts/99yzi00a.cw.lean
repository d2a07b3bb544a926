theorem KX.gc {a b : List Nat} {F0 F : PF} {G0 G : PG} {k0 k : Nat} (e : b.contains k = true) (h : KX a b F0 G0 F G) : KX a b F0 G0 F (gcp G k0 k) := ⟨h.1, fun j hj => by
  have hne : j ≠ k := fun q => by rw [q, e] at hj; cases hj
  have h2 : gcp G k0 k j = G j := if_neg hne
  rw [h2]
  exact h.2 j hj⟩
theorem cw_J0_length_8abf5 {fu : Nat} (i : Nat) (F : PF) (G : PG) : PP (cf_J0_length_8abf5 fu i F G) (fun _ F' G' => KX [] [] F G F' G') := by
  unfold cf_J0_length_8abf5
  exact PP.lt (fun _ => PP.ret KX.rf)
theorem cw_J0_charAt_5068e {fu : Nat} (i : Nat) (k : Int32) (F : PF) (G : PG) : PP (cf_J0_charAt_5068e fu i k F G) (fun _ F' G' => KX [] [] F G F' G') := by
  unfold cf_J0_charAt_5068e
  exact PP.lt (fun _ => PP.ix (fun _ => PP.ret KX.rf))
theorem cwz_fill_94_5 {fu : Nat} {F0 : PF} {G0 : PG} : ∀ (n : Nat) (x1 : Int32) (x2 : Int32) (x3 : Int32) (F : PF) (G : PG) (hK : KX [] [94] F0 G0 F G), PP (cl_fill_94_5 fu n x1 x2 x3 F G) (fun _ F' G' => KX [] [94] F0 G0 F' G') := by
  intro n
  induction n with
  | zero =>
    intro x1 x2 x3 F G hK
    exact PP.no
  | succ n ihn =>
    intro x1 x2 x3 F G hK
    show PP (cb_fill_94_5 fu (cl_fill_94_5 fu n) x1 x2 x3 F G) _
    unfold cb_fill_94_5
    refine PP.ite (fun c_1 => ?_) (fun c_1 => ?_)
    · skip
      unfold cb_fill_94_20
      refine PP.ret ?_
      exact hK
    · skip
      unfold cb_fill_94_10
      refine PP.ix (fun _ => ?_)
      unfold cb_fill_94_14
      exact ihn x1 (x2 + (1 : Int32)) x3 F (gup G 94 x2.toNatClampNeg x1) (KX.g (k := 94) rfl hK)
theorem cw_fill_94 {fu : Nat} (x1 : Int32) (F : PF) (G : PG) : PP (cf_fill_94 fu x1 F G) (fun _ F' G' => KX [] [94] F G F' G') := by
  unfold cf_fill_94
  unfold cb_fill_94_0
  exact cwz_fill_94_5 fu x1 (0 : Int32) (1024 : Int32) F G KX.rf
theorem cwz_fill_86_5 {fu : Nat} {F0 : PF} {G0 : PG} : ∀ (n : Nat) (x1 : Int32) (x2 : Int32) (x3 : Int32) (F : PF) (G : PG) (hK : KX [] [86] F0 G0 F G), PP (cl_fill_86_5 fu n x1 x2 x3 F G) (fun _ F' G' => KX [] [86] F0 G0 F' G') := by
  intro n
  induction n with
  | zero =>
    intro x1 x2 x3 F G hK
    exact PP.no
  | succ n ihn =>
    intro x1 x2 x3 F G hK
    show PP (cb_fill_86_5 fu (cl_fill_86_5 fu n) x1 x2 x3 F G) _
    unfold cb_fill_86_5
    refine PP.ite (fun c_1 => ?_) (fun c_1 => ?_)
    · skip
      unfold cb_fill_86_20
      refine PP.ret ?_
      exact hK
    · skip
      unfold cb_fill_86_10
      refine PP.ix (fun _ => ?_)
      unfold cb_fill_86_14
      exact ihn x1 (x2 + (1 : Int32)) x3 F (gup G 86 x2.toNatClampNeg x1) (KX.g (k := 86) rfl hK)
theorem cw_fill_86 {fu : Nat} (x1 : Int32) (F : PF) (G : PG) : PP (cf_fill_86 fu x1 F G) (fun _ F' G' => KX [] [86] F G F' G') := by
  unfold cf_fill_86
  unfold cb_fill_86_0
  exact cwz_fill_86_5 fu x1 (0 : Int32) (2000 : Int32) F G KX.rf
theorem cwz_fill_40_5 {fu : Nat} {F0 : PF} {G0 : PG} : ∀ (n : Nat) (x1 : Int32) (x2 : Int32) (x3 : Int32) (F : PF) (G : PG) (hK : KX [] [40] F0 G0 F G), PP (cl_fill_40_5 fu n x1 x2 x3 F G) (fun _ F' G' => KX [] [40] F0 G0 F' G') := by
  intro n
  induction n with
  | zero =>
    intro x1 x2 x3 F G hK
    exact PP.no
  | succ n ihn =>
    intro x1 x2 x3 F G hK
    show PP (cb_fill_40_5 fu (cl_fill_40_5 fu n) x1 x2 x3 F G) _
    unfold cb_fill_40_5
    refine PP.ite (fun c_1 => ?_) (fun c_1 => ?_)
    · skip
      unfold cb_fill_40_20
      refine PP.ret ?_
      exact hK
    · skip
      unfold cb_fill_40_10
      refine PP.ix (fun _ => ?_)
      unfold cb_fill_40_14
      exact ihn x1 (x2 + (1 : Int32)) x3 F (gup G 40 x2.toNatClampNeg x1) (KX.g (k := 40) rfl hK)
theorem cw_fill_40 {fu : Nat} (x1 : Int32) (F : PF) (G : PG) : PP (cf_fill_40 fu x1 F G) (fun _ F' G' => KX [] [40] F G F' G') := by
  unfold cf_fill_40
  unfold cb_fill_40_0
  exact cwz_fill_40_5 fu x1 (0 : Int32) (1408 : Int32) F G KX.rf
theorem cwj_X0_hold_17 {fu : Nat} {F0 : PF} {G0 : PG} (F : PF) (G : PG) (hK : KX [] [0] F0 G0 F G) : PP (cb_X0_hold_17 fu F G) (fun _ F' G' => KX [] [0] F0 G0 F' G') := by
  unfold cb_X0_hold_17
  refine PP.ret ?_
  exact hK
theorem cw_X0_hold {fu : Nat} (x1 : Int32) (x2 : Int32) (F : PF) (G : PG) : PP (cf_X0_hold fu x1 x2 F G) (fun _ F' G' => KX [] [0] F G F' G') := by
  unfold cf_X0_hold
  unfold cb_X0_hold_0
  refine PP.ite (fun c_1 => ?_) (fun c_1 => ?_)
  · skip
    exact cwj_X0_hold_17 F G KX.rf
  · skip
    unfold cb_X0_hold_4
    refine PP.ite (fun c_2 => ?_) (fun c_2 => ?_)
    · skip
      exact cwj_X0_hold_17 F G KX.rf
    · skip
      unfold cb_X0_hold_11
      refine PP.ite (fun c_3 => ?_) (fun c_3 => ?_)
      · skip
        unfold cb_X0_hold_19
        refine PP.ix (fun _ => ?_)
        unfold cb_X0_hold_28
        refine PP.ret ?_
        exact (KX.g (k := 0) rfl KX.rf)
      · skip
        exact cwj_X0_hold_17 F G KX.rf
theorem cwj_X0_keep_17 {fu : Nat} {F0 : PF} {G0 : PG} (F : PF) (G : PG) (hK : KX [] [1] F0 G0 F G) : PP (cb_X0_keep_17 fu F G) (fun _ F' G' => KX [] [1] F0 G0 F' G') := by
  unfold cb_X0_keep_17
  refine PP.ret ?_
  exact hK
theorem cw_X0_keep {fu : Nat} (x1 : Int32) (x2 : Int32) (F : PF) (G : PG) : PP (cf_X0_keep fu x1 x2 F G) (fun _ F' G' => KX [] [1] F G F' G') := by
  unfold cf_X0_keep
  unfold cb_X0_keep_0
  refine PP.ite (fun c_1 => ?_) (fun c_1 => ?_)
  · skip
    exact cwj_X0_keep_17 F G KX.rf
  · skip
    unfold cb_X0_keep_4
    refine PP.ite (fun c_2 => ?_) (fun c_2 => ?_)
    · skip
      exact cwj_X0_keep_17 F G KX.rf
    · skip
      unfold cb_X0_keep_10
      refine PP.ix (fun _ => ?_)
      exact cwj_X0_keep_17 F (gup G 1 x1.toNatClampNeg x2) (KX.g (k := 1) rfl KX.rf)
theorem cwj_X0_change_11 {fu : Nat} {F0 : PF} {G0 : PG} (F : PF) (G : PG) (hK : KX [2] [1] F0 G0 F G) : PP (cb_X0_change_11 fu F G) (fun _ F' G' => KX [2] [1] F0 G0 F' G') := by
  unfold cb_X0_change_11
  refine PP.ret ?_
  exact hK
theorem cwj_X0_change_34 {fu : Nat} {F0 : PF} {G0 : PG} (F : PF) (G : PG) (hK : KX [2] [1] F0 G0 F G) : PP (cb_X0_change_34 fu F G) (fun _ F' G' => KX [2] [1] F0 G0 F' G') := by
  unfold cb_X0_change_34
  refine PP.ret ?_
  exact hK
theorem cw_X0_change {fu : Nat} (x1 : Int32) (x2 : Int32) (F : PF) (G : PG) : PP (cf_X0_change fu x1 x2 F G) (fun _ F' G' => KX [2] [1] F G F' G') := by
  unfold cf_X0_change
  unfold cb_X0_change_0
  refine PP.ite (fun c_1 => ?_) (fun c_1 => ?_)
  · skip
    exact cwj_X0_change_11 F G KX.rf
  · skip
    unfold cb_X0_change_5
    refine PP.ite (fun c_2 => ?_) (fun c_2 => ?_)
    · skip
      unfold cb_X0_change_13
      refine PP.ite (fun c_3 => ?_) (fun c_3 => ?_)
      · skip
        unfold cb_X0_change_19
        unfold cb_X0_change_24
        exact cwj_X0_change_34 (fup F 2 x2) G (KX.f (k := 2) rfl KX.rf)
      · skip
        unfold cb_X0_change_27
        refine PP.bind (cw_X0_keep x1 x2 F G) ?_
        intro r4 F4 G4 hK4
        dsimp only
        unfold cb_X0_change_33
        exact cwj_X0_change_34 F4 G4 (KX.tr KX.rf hK4 rfl rfl)
    · skip
      exact cwj_X0_change_11 F G KX.rf
theorem cwj_X0_shown_65 {fu : Nat} {F0 : PF} {G0 : PG} (z0 : Int32) (F : PF) (G : PG) (hK : KX [] [] F0 G0 F G) : PP (cb_X0_shown_65 fu z0 F G) (fun _ F' G' => KX [] [] F0 G0 F' G') := by
  unfold cb_X0_shown_65
  refine PP.ret ?_
  exact hK
theorem cwj_X0_shown_64 {fu : Nat} {F0 : PF} {G0 : PG} (F : PF) (G : PG) (hK : KX [] [] F0 G0 F G) : PP (cb_X0_shown_64 fu F G) (fun _ F' G' => KX [] [] F0 G0 F' G') := by
  unfold cb_X0_shown_64
  exact cwj_X0_shown_65 (-1 : Int32) F G hK
theorem cwj_X0_shown_17 {fu : Nat} {F0 : PF} {G0 : PG} (x1 : Int32) (F : PF) (G : PG) (hK : KX [] [] F0 G0 F G) : PP (cb_X0_shown_17 fu x1 F G) (fun _ F' G' => KX [] [] F0 G0 F' G') := by
  unfold cb_X0_shown_17
  refine PP.ite (fun c_1 => ?_) (fun c_1 => ?_)
  · skip
    unfold cb_X0_shown_23
    refine PP.ret ?_
    exact hK
  · skip
    unfold cb_X0_shown_28
    refine PP.ite (fun c_2 => ?_) (fun c_2 => ?_)
    · skip
      unfold cb_X0_shown_34
      refine PP.ret ?_
      exact hK
    · skip
      unfold cb_X0_shown_39
      refine PP.ite (fun c_3 => ?_) (fun c_3 => ?_)
      · skip
        exact cwj_X0_shown_64 F G hK
      · skip
        unfold cb_X0_shown_45
        refine PP.ite (fun c_4 => ?_) (fun c_4 => ?_)
        · skip
          exact cwj_X0_shown_64 F G hK
        · skip
          unfold cb_X0_shown_52
          refine PP.ix (fun _ => ?_)
          exact cwj_X0_shown_65 (G 0 (x1 - (100 : Int32)).toNatClampNeg) F G hK
theorem cw_X0_shown {fu : Nat} (x1 : Int32) (F : PF) (G : PG) : PP (cf_X0_shown fu x1 F G) (fun _ F' G' => KX [] [] F G F' G') := by
  unfold cf_X0_shown
  unfold cb_X0_shown_0
  refine PP.ite (fun c_1 => ?_) (fun c_1 => ?_)
  · skip
    exact cwj_X0_shown_17 x1 F G KX.rf
  · skip
    unfold cb_X0_shown_4
    refine PP.ite (fun c_2 => ?_) (fun c_2 => ?_)
    · skip
      exact cwj_X0_shown_17 x1 F G KX.rf
    · skip
      unfold cb_X0_shown_10
      refine PP.ix (fun _ => ?_)
      refine PP.ret ?_
      exact KX.rf
theorem cwj_X11_joined_106 {fu : Nat} {F0 : PF} {G0 : PG} (z0 : Int32) (F : PF) (G : PG) (hK : KX [] [] F0 G0 F G) : PP (cb_X11_joined_106 fu z0 F G) (fun _ F' G' => KX [] [] F0 G0 F' G') := by
  unfold cb_X11_joined_106
  refine PP.ret ?_
  exact hK
theorem cwj_X11_joined_117 {fu : Nat} {F0 : PF} {G0 : PG} (z0 : Int32) (F : PF) (G : PG) (hK : KX [] [] F0 G0 F G) : PP (cb_X11_joined_117 fu z0 F G) (fun _ F' G' => KX [] [] F0 G0 F' G') := by
  unfold cb_X11_joined_117
  refine PP.ret ?_
  exact hK
theorem cwj_X11_joined_128 {fu : Nat} {F0 : PF} {G0 : PG} (z0 : Int32) (F : PF) (G : PG) (hK : KX [] [] F0 G0 F G) : PP (cb_X11_joined_128 fu z0 F G) (fun _ F' G' => KX [] [] F0 G0 F' G') := by
  unfold cb_X11_joined_128
  refine PP.ret ?_
  exact hK
theorem cwj_X11_joined_139 {fu : Nat} {F0 : PF} {G0 : PG} (z0 : Int32) (F : PF) (G : PG) (hK : KX [] [] F0 G0 F G) : PP (cb_X11_joined_139 fu z0 F G) (fun _ F' G' => KX [] [] F0 G0 F' G') := by
  unfold cb_X11_joined_139
  refine PP.ret ?_
  exact hK
theorem cwj_X11_joined_150 {fu : Nat} {F0 : PF} {G0 : PG} (z0 : Int32) (F : PF) (G : PG) (hK : KX [] [] F0 G0 F G) : PP (cb_X11_joined_150 fu z0 F G) (fun _ F' G' => KX [] [] F0 G0 F' G') := by
  unfold cb_X11_joined_150
  refine PP.ret ?_
  exact hK
theorem cwj_X11_joined_161 {fu : Nat} {F0 : PF} {G0 : PG} (z0 : Int32) (F : PF) (G : PG) (hK : KX [] [] F0 G0 F G) : PP (cb_X11_joined_161 fu z0 F G) (fun _ F' G' => KX [] [] F0 G0 F' G') := by
  unfold cb_X11_joined_161
  refine PP.ret ?_
  exact hK
theorem cwj_X11_joined_207 {fu : Nat} {F0 : PF} {G0 : PG} (z0 : Int32) (F : PF) (G : PG) (hK : KX [] [] F0 G0 F G) : PP (cb_X11_joined_207 fu z0 F G) (fun _ F' G' => KX [] [] F0 G0 F' G') := by
  unfold cb_X11_joined_207
  refine PP.ret ?_
  exact hK
theorem cwj_X11_joined_228 {fu : Nat} {F0 : PF} {G0 : PG} (z0 : Int32) (F : PF) (G : PG) (hK : KX [] [] F0 G0 F G) : PP (cb_X11_joined_228 fu z0 F G) (fun _ F' G' => KX [] [] F0 G0 F' G') := by
  unfold cb_X11_joined_228
  refine PP.ret ?_
  exact hK
theorem cw_X11_joined {fu : Nat} (x0 : Int32) (x1 : Int32) (x2 : Int32) (F : PF) (G : PG) : PP (cf_X11_joined fu x0 x1 x2 F G) (fun _ F' G' => KX [] [] F G F' G') := by
  unfold cf_X11_joined
  unfold cb_X11_joined_0
  refine PP.ite (fun c_1 => ?_) (fun c_1 => ?_)
  · have e_2 : x0.toInt < 45 ∨ 61 < x0.toInt := c_1
    unfold cb_X11_joined_229
    refine PP.ret ?_
    exact KX.rf
  have e_3 : ¬ (x0.toInt < 45 ∨ 61 < x0.toInt) := c_1
  refine PP.ite (fun c_4 => ?_) (fun c_4 => ?_)
  · skip
    unfold cb_X11_joined_84
    refine PP.ret ?_
    exact KX.rf
  refine PP.ite (fun c_5 => ?_) (fun c_5 => ?_)
  · skip
    unfold cb_X11_joined_88
    refine PP.ret ?_
    exact KX.rf
  refine PP.ite (fun c_6 => ?_) (fun c_6 => ?_)
  · skip
    unfold cb_X11_joined_92
    refine PP.ret ?_
    exact KX.rf
  refine PP.ite (fun c_7 => ?_) (fun c_7 => ?_)
  · skip
    unfold cb_X11_joined_96
    refine PP.ite (fun c_8 => ?_) (fun c_8 => ?_)
    · skip
      unfold cb_X11_joined_101
      exact cwj_X11_joined_106 (1 : Int32) F G KX.rf
    · skip
      unfold cb_X11_joined_105
      exact cwj_X11_joined_106 (0 : Int32) F G KX.rf
  refine PP.ite (fun c_9 => ?_) (fun c_9 => ?_)
  · skip
    unfold cb_X11_joined_107
    refine PP.ite (fun c_10 => ?_) (fun c_10 => ?_)
    · skip
      unfold cb_X11_joined_116
      exact cwj_X11_joined_117 (0 : Int32) F G KX.rf
    · skip
      unfold cb_X11_joined_112
      exact cwj_X11_joined_117 (1 : Int32) F G KX.rf
  refine PP.ite (fun c_11 => ?_) (fun c_11 => ?_)
  · skip
    unfold cb_X11_joined_118
    refine PP.ite (fun c_12 => ?_) (fun c_12 => ?_)
    · skip
      unfold cb_X11_joined_127
      exact cwj_X11_joined_128 (0 : Int32) F G KX.rf
    · skip
      unfold cb_X11_joined_123
      exact cwj_X11_joined_128 (1 : Int32) F G KX.rf
  refine PP.ite (fun c_13 => ?_) (fun c_13 => ?_)
  · skip
    unfold cb_X11_joined_129
    refine PP.ite (fun c_14 => ?_) (fun c_14 => ?_)
    · skip
      unfold cb_X11_joined_138
      exact cwj_X11_joined_139 (0 : Int32) F G KX.rf
    · skip
      unfold cb_X11_joined_134
      exact cwj_X11_joined_139 (1 : Int32) F G KX.rf
  refine PP.ite (fun c_15 => ?_) (fun c_15 => ?_)
  · skip
    unfold cb_X11_joined_140
    refine PP.ite (fun c_16 => ?_) (fun c_16 => ?_)
    · skip
      unfold cb_X11_joined_149
      exact cwj_X11_joined_150 (0 : Int32) F G KX.rf
    · skip
      unfold cb_X11_joined_145
      exact cwj_X11_joined_150 (1 : Int32) F G KX.rf
  refine PP.ite (fun c_17 => ?_) (fun c_17 => ?_)
  · skip
    unfold cb_X11_joined_151
    refine PP.ite (fun c_18 => ?_) (fun c_18 => ?_)
    · skip
      unfold cb_X11_joined_160
      exact cwj_X11_joined_161 (0 : Int32) F G KX.rf
    · skip
      unfold cb_X11_joined_156
      exact cwj_X11_joined_161 (1 : Int32) F G KX.rf
  refine PP.ite (fun c_19 => ?_) (fun c_19 => ?_)
  · skip
    unfold cb_X11_joined_162
    refine PP.ret ?_
    exact KX.rf
  refine PP.ite (fun c_20 => ?_) (fun c_20 => ?_)
  · skip
    unfold cb_X11_joined_166
    refine PP.ret ?_
    exact KX.rf
  refine PP.ite (fun c_21 => ?_) (fun c_21 => ?_)
  · skip
    unfold cb_X11_joined_170
    refine PP.ret ?_
    exact KX.rf
  refine PP.ite (fun c_22 => ?_) (fun c_22 => ?_)
  · skip
    unfold cb_X11_joined_174
    refine PP.ret ?_
    exact KX.rf
  refine PP.ite (fun c_23 => ?_) (fun c_23 => ?_)
  · skip
    unfold cb_X11_joined_178
    refine PP.ret ?_
    exact KX.rf
  refine PP.ite (fun c_24 => ?_) (fun c_24 => ?_)
  · skip
    unfold cb_X11_joined_182
    refine PP.ret ?_
    exact KX.rf
  refine PP.ite (fun c_25 => ?_) (fun c_25 => ?_)
  · skip
    unfold cb_X11_joined_186
    refine PP.ite (fun c_26 => ?_) (fun c_26 => ?_)
    · skip
      unfold cb_X11_joined_190
      exact cwj_X11_joined_207 (-1 : Int32) F G KX.rf
    · skip
      unfold cb_X11_joined_194
      refine PP.ite (fun c_27 => ?_) (fun c_27 => ?_)
      · skip
        unfold cb_X11_joined_199
        exact cwj_X11_joined_207 (-x1) F G KX.rf
      · skip
        unfold cb_X11_joined_204
        refine PP.nz (fun _ => ?_)
        exact cwj_X11_joined_207 (x1 / x2) F G KX.rf
  unfold cb_X11_joined_208
  refine PP.ite (fun c_28 => ?_) (fun c_28 => ?_)
  · skip
    unfold cb_X11_joined_212
    exact cwj_X11_joined_228 x1 F G KX.rf
  · skip
    unfold cb_X11_joined_216
    refine PP.ite (fun c_29 => ?_) (fun c_29 => ?_)
    · skip
      unfold cb_X11_joined_221
      exact cwj_X11_joined_228 (0 : Int32) F G KX.rf
    · skip
      unfold cb_X11_joined_225
      refine PP.nz (fun _ => ?_)
      exact cwj_X11_joined_228 (x1 - x1 / x2 * x2) F G KX.rf
theorem cwj_X0_product_151 {fu : Nat} {F0 : PF} {G0 : PG} (z0 : Int32) (F : PF) (G : PG) (hK : KX [] [] F0 G0 F G) : PP (cb_X0_product_151 fu z0 F G) (fun _ F' G' => KX [] [] F0 G0 F' G') := by
  unfold cb_X0_product_151
  refine PP.ret ?_
  exact hK
theorem cwj_X0_product_120 {fu : Nat} {F0 : PF} {G0 : PG} (z0 : Int32) (F : PF) (G : PG) (hK : KX [] [] F0 G0 F G) : PP (cb_X0_product_120 fu z0 F G) (fun _ F' G' => KX [] [] F0 G0 F' G') := by
  unfold cb_X0_product_120
  refine PP.ret ?_
  exact hK
theorem cw_X0_product {fu : Nat} (x0 : Int32) (x1 : Int32) (x2 : Int32) (F : PF) (G : PG) : PP (cf_X0_product fu x0 x1 x2 F G) (fun _ F' G' => KX [] [] F G F' G') := by
  unfold cf_X0_product
  unfold cb_X0_product_0
  refine PP.ite (fun c_1 => ?_) (fun c_1 => ?_)
  · have e_2 : x0.toInt < 0 ∨ 6 < x0.toInt := c_1
    unfold cb_X0_product_129
    refine PP.ite (fun c_3 => ?_) (fun c_3 => ?_)
    · skip
      unfold cb_X0_product_133
      exact cwj_X0_product_151 x1 F G KX.rf
    · skip
      unfold cb_X0_product_137
      refine PP.nz (fun _ => ?_)
      exact cwj_X0_product_151 ((((x1.toInt64) &&& (4294967295 : Int64)) - ((x1.toInt64) &&& (4294967295 : Int64)) / ((x2.toInt64) &&& (4294967295 : Int64)) * ((x2.toInt64) &&& (4294967295 : Int64))).toInt32) F G KX.rf
  have e_4 : ¬ (x0.toInt < 0 ∨ 6 < x0.toInt) := c_1
  refine PP.ite (fun c_5 => ?_) (fun c_5 => ?_)
  · skip
    unfold cb_X0_product_44
    refine PP.ret ?_
    exact KX.rf
  refine PP.ite (fun c_6 => ?_) (fun c_6 => ?_)
  · skip
    unfold cb_X0_product_48
    refine PP.ret ?_
    exact KX.rf
  refine PP.ite (fun c_7 => ?_) (fun c_7 => ?_)
  · skip
    unfold cb_X0_product_58
    refine PP.ret ?_
    exact KX.rf
  refine PP.ite (fun c_8 => ?_) (fun c_8 => ?_)
  · skip
    unfold cb_X0_product_72
    refine PP.ret ?_
    exact KX.rf
  refine PP.ite (fun c_9 => ?_) (fun c_9 => ?_)
  · skip
    unfold cb_X0_product_90
    refine PP.bind (cw_X11_joined (60 : Int32) x1 x2 F G) ?_
    intro r10 F10 G10 hK10
    dsimp only
    unfold cb_X0_product_97
    refine PP.ret ?_
    exact (KX.tr KX.rf hK10 rfl rfl)
  refine PP.ite (fun c_11 => ?_) (fun c_11 => ?_)
  · skip
    unfold cb_X0_product_98
    refine PP.ite (fun c_12 => ?_) (fun c_12 => ?_)
    · skip
      unfold cb_X0_product_102
      exact cwj_X0_product_120 (-1 : Int32) F G KX.rf
    · skip
      unfold cb_X0_product_106
      refine PP.nz (fun _ => ?_)
      exact cwj_X0_product_120 ((((x1.toInt64) &&& (4294967295 : Int64)) / ((x2.toInt64) &&& (4294967295 : Int64))).toInt32) F G KX.rf
  unfold cb_X0_product_121
  refine PP.bind (cw_X11_joined (61 : Int32) x1 x2 F G) ?_
  intro r13 F13 G13 hK13
  dsimp only
  unfold cb_X0_product_128
  refine PP.ret ?_
  exact (KX.tr KX.rf hK13 rfl rfl)
theorem cwj_X11_truth_9 {fu : Nat} {F0 : PF} {G0 : PG} (z0 : Int32) (F : PF) (G : PG) (hK : KX [] [] F0 G0 F G) : PP (cb_X11_truth_9 fu z0 F G) (fun _ F' G' => KX [] [] F0 G0 F' G') := by
  unfold cb_X11_truth_9
  refine PP.ret ?_
  exact hK
theorem cw_X11_truth {fu : Nat} (x0 : Int32) (F : PF) (G : PG) : PP (cf_X11_truth fu x0 F G) (fun _ F' G' => KX [] [] F G F' G') := by
  unfold cf_X11_truth
  unfold cb_X11_truth_0
  refine PP.ite (fun c_1 => ?_) (fun c_1 => ?_)
  · skip
    unfold cb_X11_truth_8
    exact cwj_X11_truth_9 (0 : Int32) F G KX.rf
  · skip
    unfold cb_X11_truth_4
    exact cwj_X11_truth_9 (1 : Int32) F G KX.rf
theorem cwj_X0_isBelow_21 {fu : Nat} {F0 : PF} {G0 : PG} (z0 : Int32) (F : PF) (G : PG) (hK : KX [] [] F0 G0 F G) : PP (cb_X0_isBelow_21 fu z0 F G) (fun _ F' G' => KX [] [] F0 G0 F' G') := by
  unfold cb_X0_isBelow_21
  refine PP.bz (fun _ => ?_)
  refine PP.ret ?_
  exact hK
theorem cw_X0_isBelow {fu : Nat} (x0 : Int32) (x1 : Int32) (F : PF) (G : PG) : PP (cf_X0_isBelow fu x0 x1 F G) (fun _ F' G' => KX [] [] F G F' G') := by
  unfold cf_X0_isBelow
  unfold cb_X0_isBelow_0
  refine PP.ite (fun c_1 => ?_) (fun c_1 => ?_)
  · skip
    unfold cb_X0_isBelow_20
    exact cwj_X0_isBelow_21 (0 : Int32) F G KX.rf
  · skip
    unfold cb_X0_isBelow_16
    exact cwj_X0_isBelow_21 (1 : Int32) F G KX.rf
theorem cwj_X0_plain_57 {fu : Nat} {F0 : PF} {G0 : PG} (z0 : Int32) (F : PF) (G : PG) (hK : KX [] [] F0 G0 F G) : PP (cb_X0_plain_57 fu z0 F G) (fun _ F' G' => KX [] [] F0 G0 F' G') := by
  unfold cb_X0_plain_57
  refine PP.ret ?_
  exact hK
theorem cwj_X0_plain_72 {fu : Nat} {F0 : PF} {G0 : PG} (z0 : Int32) (F : PF) (G : PG) (hK : KX [] [] F0 G0 F G) : PP (cb_X0_plain_72 fu z0 F G) (fun _ F' G' => KX [] [] F0 G0 F' G') := by
  unfold cb_X0_plain_72
  refine PP.bind (cw_X11_truth z0 F G) ?_
  intro r1 F1 G1 hK1
  dsimp only
  unfold cb_X0_plain_75
  refine PP.ret ?_
  exact (KX.tr hK hK1 rfl rfl)
theorem cwj_X0_plain_102 {fu : Nat} {F0 : PF} {G0 : PG} (z0 : Int32) (F : PF) (G : PG) (hK : KX [] [] F0 G0 F G) : PP (cb_X0_plain_102 fu z0 F G) (fun _ F' G' => KX [] [] F0 G0 F' G') := by
  unfold cb_X0_plain_102
  refine PP.ret ?_
  exact hK
theorem cw_X0_plain {fu : Nat} (x0 : Int32) (x1 : Int32) (x2 : Int32) (x3 : Int32) (F : PF) (G : PG) : PP (cf_X0_plain fu x0 x1 x2 x3 F G) (fun _ F' G' => KX [] [] F G F' G') := by
  unfold cf_X0_plain
  unfold cb_X0_plain_0
  refine PP.ite (fun c_1 => ?_) (fun c_1 => ?_)
  · have e_2 : x0.toInt < 0 ∨ 6 < x0.toInt := c_1
    unfold cb_X0_plain_107
    refine PP.ret ?_
    exact KX.rf
  have e_3 : ¬ (x0.toInt < 0 ∨ 6 < x0.toInt) := c_1
  refine PP.ite (fun c_4 => ?_) (fun c_4 => ?_)
  · skip
    unfold cb_X0_plain_44
    refine PP.ite (fun c_5 => ?_) (fun c_5 => ?_)
    · skip
      unfold cb_X0_plain_54
      exact cwj_X0_plain_57 (x2 + x3) F G KX.rf
    · skip
      unfold cb_X0_plain_48
      exact cwj_X0_plain_57 (x2 - x3) F G KX.rf
  refine PP.ite (fun c_6 => ?_) (fun c_6 => ?_)
  · skip
    unfold cb_X0_plain_58
    refine PP.ret ?_
    exact KX.rf
  refine PP.ite (fun c_7 => ?_) (fun c_7 => ?_)
  · skip
    unfold cb_X0_plain_62
    refine PP.ite (fun c_8 => ?_) (fun c_8 => ?_)
    · skip
      unfold cb_X0_plain_71
      exact cwj_X0_plain_72 (0 : Int32) F G KX.rf
    · skip
      unfold cb_X0_plain_67
      exact cwj_X0_plain_72 (1 : Int32) F G KX.rf
  refine PP.ite (fun c_9 => ?_) (fun c_9 => ?_)
  · skip
    unfold cb_X0_plain_76
    refine PP.bind (cw_X0_isBelow x2 x3 F G) ?_
    intro r10 F10 G10 hK10
    dsimp only
    unfold cb_X0_plain_81
    refine PP.bind (cw_X11_truth r10 F10 G10) ?_
    intro r11 F11 G11 hK11
    dsimp only
    unfold cb_X0_plain_84
    refine PP.ret ?_
    exact (KX.tr (KX.tr KX.rf hK10 rfl rfl) hK11 rfl rfl)
  refine PP.ite (fun c_12 => ?_) (fun c_12 => ?_)
  · skip
    unfold cb_X0_plain_85
    refine PP.ret ?_
    exact KX.rf
  refine PP.ite (fun c_13 => ?_) (fun c_13 => ?_)
  · skip
    unfold cb_X0_plain_89
    refine PP.ite (fun c_14 => ?_) (fun c_14 => ?_)
    · skip
      unfold cb_X0_plain_99
      exact cwj_X0_plain_102 ((x2.toUInt32 >>> (x3.toUInt32 &&& Int32.toUInt32 31)).toInt32) F G KX.rf
    · skip
      unfold cb_X0_plain_93
      exact cwj_X0_plain_102 (x2 >>> (x3 &&& 31)) F G KX.rf
  unfold cb_X0_plain_103
  refine PP.ret ?_
  exact KX.rf
theorem cwj_X0_withRegister_107 {fu : Nat} {F0 : PF} {G0 : PG} (x4 : Int32) (x5 : Int32) (z0 : Int32) (z1 : Int32) (z2 : Int32) (F : PF) (G : PG) (hK : KX [] [1] F0 G0 F G) : PP (cb_X0_withRegister_107 fu x4 x5 z0 z1 z2 F G) (fun _ F' G' => KX [] [1] F0 G0 F' G') := by
  unfold cb_X0_withRegister_107
  refine PP.bind (cw_X0_plain z1 z0 x4 x5 F G) ?_
  intro r1 F1 G1 hK1
  dsimp only
  unfold cb_X0_withRegister_114
  refine PP.bind (cw_X0_keep z2 r1 F1 G1) ?_
  intro r2 F2 G2 hK2
  dsimp only
  unfold cb_X0_withRegister_117
  refine PP.ret ?_
  exact (KX.tr (KX.tr hK hK1 rfl rfl) hK2 rfl rfl)
theorem cwj_X0_withRegister_87 {fu : Nat} {F0 : PF} {G0 : PG} (x1 : Int32) (x2 : Int32) (x3 : Int32) (x4 : Int32) (x5 : Int32) (F : PF) (G : PG) (hK : KX [] [1] F0 G0 F G) : PP (cb_X0_withRegister_87 fu x1 x2 x3 x4 x5 F G) (fun _ F' G' => KX [] [1] F0 G0 F' G') := by
  unfold cb_X0_withRegister_87
  refine PP.ite (fun c_1 => ?_) (fun c_1 => ?_)
  · skip
    unfold cb_X0_withRegister_102
    exact cwj_X0_withRegister_107 x4 x5 (1 : Int32) x2 (((x1.toUInt32 >>> ((7 : Int32).toUInt32 &&& Int32.toUInt32 31)).toInt32) &&& (31 : Int32)) F G hK
  · skip
    unfold cb_X0_withRegister_106
    exact cwj_X0_withRegister_107 x4 x5 (0 : Int32) x2 (((x1.toUInt32 >>> ((7 : Int32).toUInt32 &&& Int32.toUInt32 31)).toInt32) &&& (31 : Int32)) F G hK
theorem cwj_X0_withRegister_85 {fu : Nat} {F0 : PF} {G0 : PG} (F : PF) (G : PG) (hK : KX [] [1] F0 G0 F G) : PP (cb_X0_withRegister_85 fu F G) (fun _ F' G' => KX [] [1] F0 G0 F' G') := by
  unfold cb_X0_withRegister_85
  refine PP.ret ?_
  exact hK
theorem cw_X0_withRegister {fu : Nat} (x1 : Int32) (F : PF) (G : PG) : PP (cf_X0_withRegister fu x1 F G) (fun _ F' G' => KX [] [1] F G F' G') := by
  unfold cf_X0_withRegister
  unfold cb_X0_withRegister_0
  refine PP.ix (fun _ => ?_)
  refine PP.ix (fun _ => ?_)
  refine PP.ite (fun c_1 => ?_) (fun c_1 => ?_)
  · skip
    unfold cb_X0_withRegister_46
    refine PP.bind (cw_X0_product (((x1.toUInt32 >>> ((12 : Int32).toUInt32 &&& Int32.toUInt32 31)).toInt32) &&& (7 : Int32)) (G 1 (((x1.toUInt32 >>> ((15 : Int32).toUInt32 &&& Int32.toUInt32 31)).toInt32) &&& (31 : Int32)).toNatClampNeg) (G 1 (((x1.toUInt32 >>> ((20 : Int32).toUInt32 &&& Int32.toUInt32 31)).toInt32) &&& (31 : Int32)).toNatClampNeg) F G) ?_
    intro r2 F2 G2 hK2
    dsimp only
    unfold cb_X0_withRegister_62
    refine PP.bind (cw_X0_keep (((x1.toUInt32 >>> ((7 : Int32).toUInt32 &&& Int32.toUInt32 31)).toInt32) &&& (31 : Int32)) r2 F2 G2) ?_
    intro r3 F3 G3 hK3
    dsimp only
    unfold cb_X0_withRegister_65
    refine PP.ret ?_
    exact (KX.tr (KX.tr KX.rf hK2 rfl rfl) hK3 rfl rfl)
  · skip
    unfold cb_X0_withRegister_66
    refine PP.ite (fun c_4 => ?_) (fun c_4 => ?_)
    · skip
      exact cwj_X0_withRegister_87 x1 (((x1.toUInt32 >>> ((12 : Int32).toUInt32 &&& Int32.toUInt32 31)).toInt32) &&& (7 : Int32)) ((x1.toUInt32 >>> ((25 : Int32).toUInt32 &&& Int32.toUInt32 31)).toInt32) (G 1 (((x1.toUInt32 >>> ((15 : Int32).toUInt32 &&& Int32.toUInt32 31)).toInt32) &&& (31 : Int32)).toNatClampNeg) (G 1 (((x1.toUInt32 >>> ((20 : Int32).toUInt32 &&& Int32.toUInt32 31)).toInt32) &&& (31 : Int32)).toNatClampNeg) F G KX.rf
    · skip
      unfold cb_X0_withRegister_70
      refine PP.ite (fun c_5 => ?_) (fun c_5 => ?_)
      · skip
        unfold cb_X0_withRegister_76
        refine PP.ite (fun c_6 => ?_) (fun c_6 => ?_)
        · skip
          exact cwj_X0_withRegister_87 x1 (((x1.toUInt32 >>> ((12 : Int32).toUInt32 &&& Int32.toUInt32 31)).toInt32) &&& (7 : Int32)) ((x1.toUInt32 >>> ((25 : Int32).toUInt32 &&& Int32.toUInt32 31)).toInt32) (G 1 (((x1.toUInt32 >>> ((15 : Int32).toUInt32 &&& Int32.toUInt32 31)).toInt32) &&& (31 : Int32)).toNatClampNeg) (G 1 (((x1.toUInt32 >>> ((20 : Int32).toUInt32 &&& Int32.toUInt32 31)).toInt32) &&& (31 : Int32)).toNatClampNeg) F G KX.rf
        · skip
          unfold cb_X0_withRegister_80
          refine PP.ite (fun c_7 => ?_) (fun c_7 => ?_)
          · skip
            exact cwj_X0_withRegister_87 x1 (((x1.toUInt32 >>> ((12 : Int32).toUInt32 &&& Int32.toUInt32 31)).toInt32) &&& (7 : Int32)) ((x1.toUInt32 >>> ((25 : Int32).toUInt32 &&& Int32.toUInt32 31)).toInt32) (G 1 (((x1.toUInt32 >>> ((15 : Int32).toUInt32 &&& Int32.toUInt32 31)).toInt32) &&& (31 : Int32)).toNatClampNeg) (G 1 (((x1.toUInt32 >>> ((20 : Int32).toUInt32 &&& Int32.toUInt32 31)).toInt32) &&& (31 : Int32)).toNatClampNeg) F G KX.rf
          · skip
            exact cwj_X0_withRegister_85 F G KX.rf
      · skip
        exact cwj_X0_withRegister_85 F G KX.rf
theorem cw_X0_link {fu : Nat} (x1 : Int32) (x2 : Int32) (F : PF) (G : PG) : PP (cf_X0_link fu x1 x2 F G) (fun _ F' G' => KX [4] [1] F G F' G') := by
  unfold cf_X0_link
  unfold cb_X0_link_0
  refine PP.ite (fun c_1 => ?_) (fun c_1 => ?_)
  · skip
    unfold cb_X0_link_8
    unfold cb_X0_link_13
    refine PP.bind (cw_X0_keep x1 ((F 2) + (4 : Int32)) (fup F 4 x2) G) ?_
    intro r2 F2 G2 hK2
    dsimp only
    unfold cb_X0_link_24
    refine PP.ret ?_
    exact (KX.tr (KX.f (k := 4) rfl KX.rf) hK2 rfl rfl)
  · skip
    unfold cb_X0_link_6
    refine PP.ret ?_
    exact KX.rf
theorem cw_X0_offsetJ {fu : Nat} (x0 : Int32) (F : PF) (G : PG) : PP (cf_X0_offsetJ fu x0 F G) (fun _ F' G' => KX [] [] F G F' G') := by
  unfold cf_X0_offsetJ
  unfold cb_X0_offsetJ_0
  refine PP.ret ?_
  exact KX.rf
theorem cwj_X0_reach_28 {fu : Nat} {F0 : PF} {G0 : PG} (z0 : Int32) (F : PF) (G : PG) (hK : KX [] [] F0 G0 F G) : PP (cb_X0_reach_28 fu z0 F G) (fun _ F' G' => KX [] [] F0 G0 F' G') := by
  unfold cb_X0_reach_28
  refine PP.ret ?_
  exact hK
theorem cwj_X0_reach_23 {fu : Nat} {F0 : PF} {G0 : PG} (F : PF) (G : PG) (hK : KX [] [] F0 G0 F G) : PP (cb_X0_reach_23 fu F G) (fun _ F' G' => KX [] [] F0 G0 F' G') := by
  unfold cb_X0_reach_23
  exact cwj_X0_reach_28 (5 : Int32) F G hK
theorem cw_X0_reach {fu : Nat} (x0 : Int32) (x1 : Int32) (F : PF) (G : PG) : PP (cf_X0_reach fu x0 x1 F G) (fun _ F' G' => KX [] [] F G F' G') := by
  unfold cf_X0_reach
  unfold cb_X0_reach_0
  refine PP.ite (fun c_1 => ?_) (fun c_1 => ?_)
  · skip
    unfold cb_X0_reach_10
    refine PP.ite (fun c_2 => ?_) (fun c_2 => ?_)
    · skip
      exact cwj_X0_reach_23 F G KX.rf
    · skip
      unfold cb_X0_reach_14
      refine PP.ite (fun c_3 => ?_) (fun c_3 => ?_)
      · skip
        unfold cb_X0_reach_27
        exact cwj_X0_reach_28 (0 : Int32) F G KX.rf
      · skip
        exact cwj_X0_reach_23 F G KX.rf
  · skip
    unfold cb_X0_reach_8
    refine PP.ret ?_
    exact KX.rf
theorem cw_X0_store {fu : Nat} (x1 : Int32) (F : PF) (G : PG) : PP (cf_X0_store fu x1 F G) (fun _ F' G' => KX [] [0] F G F' G') := by
  unfold cf_X0_store
  unfold cb_X0_store_0
  refine PP.ite (fun c_1 => ?_) (fun c_1 => ?_)
  · skip
    unfold cb_X0_store_15
    refine PP.ix (fun _ => ?_)
    refine PP.bind (cw_X0_reach ((G 1 (((x1.toUInt32 >>> ((15 : Int32).toUInt32 &&& Int32.toUInt32 31)).toInt32) &&& (31 : Int32)).toNatClampNeg) + (((x1 >>> ((25 : Int32) &&& 31)) <<< ((5 : Int32) &&& 31)) ||| (((x1.toUInt32 >>> ((7 : Int32).toUInt32 &&& Int32.toUInt32 31)).toInt32) &&& (31 : Int32)))) ((1 : Int32) <<< ((((x1.toUInt32 >>> ((12 : Int32).toUInt32 &&& Int32.toUInt32 31)).toInt32) &&& (7 : Int32)) &&& 31)) F G) ?_
    intro r2 F2 G2 hK2
    dsimp only
    unfold cb_X0_store_54
    refine PP.ite (fun c_3 => ?_) (fun c_3 => ?_)
    · skip
      unfold cb_X0_store_64
      refine PP.ix (fun _ => ?_)
      refine PP.ix (fun _ => ?_)
      refine PP.ix (fun _ => ?_)
      unfold cb_X0_store_131
      refine PP.ret ?_
      exact (KX.g (k := 0) rfl (KX.tr KX.rf hK2 rfl rfl))
    · skip
      unfold cb_X0_store_61
      refine PP.ret ?_
      exact (KX.tr KX.rf hK2 rfl rfl)
  · skip
    unfold cb_X0_store_13
    refine PP.ret ?_
    exact KX.rf
theorem cwj_X0_load_18 {fu : Nat} {F0 : PF} {G0 : PG} (F : PF) (G : PG) (hK : KX [] [1] F0 G0 F G) : PP (cb_X0_load_18 fu F G) (fun _ F' G' => KX [] [1] F0 G0 F' G') := by
  unfold cb_X0_load_18
  refine PP.ret ?_
  exact hK
theorem cwj_X0_load_118 {fu : Nat} {F0 : PF} {G0 : PG} (z0 : Int32) (z1 : Int32) (F : PF) (G : PG) (hK : KX [] [1] F0 G0 F G) : PP (cb_X0_load_118 fu z0 z1 F G) (fun _ F' G' => KX [] [1] F0 G0 F' G') := by
  unfold cb_X0_load_118
  refine PP.bind (cw_X0_keep z1 z0 F G) ?_
  intro r1 F1 G1 hK1
  dsimp only
  unfold cb_X0_load_121
  refine PP.ret ?_
  exact (KX.tr hK hK1 rfl rfl)
theorem cw_X0_load {fu : Nat} (x1 : Int32) (F : PF) (G : PG) : PP (cf_X0_load fu x1 F G) (fun _ F' G' => KX [] [1] F G F' G') := by
  unfold cf_X0_load
  unfold cb_X0_load_0
  refine PP.ite (fun c_1 => ?_) (fun c_1 => ?_)
  · skip
    exact cwj_X0_load_18 F G KX.rf
  · skip
    unfold cb_X0_load_13
    refine PP.ite (fun c_2 => ?_) (fun c_2 => ?_)
    · skip
      unfold cb_X0_load_20
      refine PP.ix (fun _ => ?_)
      refine PP.bind (cw_X0_reach ((G 1 (((x1.toUInt32 >>> ((15 : Int32).toUInt32 &&& Int32.toUInt32 31)).toInt32) &&& (31 : Int32)).toNatClampNeg) + (x1 >>> ((20 : Int32) &&& 31))) ((1 : Int32) <<< (((((x1.toUInt32 >>> ((12 : Int32).toUInt32 &&& Int32.toUInt32 31)).toInt32) &&& (7 : Int32)) &&& (3 : Int32)) &&& 31)) F G) ?_
      intro r3 F3 G3 hK3
      dsimp only
      unfold cb_X0_load_51
      refine PP.ite (fun c_4 => ?_) (fun c_4 => ?_)
      · skip
        unfold cb_X0_load_61
        refine PP.ix (fun _ => ?_)
        refine PP.ite (fun c_5 => ?_) (fun c_5 => ?_)
        · skip
          unfold cb_X0_load_113
          exact cwj_X0_load_118 ((((((G3 0 (((G 1 (((x1.toUInt32 >>> ((15 : Int32).toUInt32 &&& Int32.toUInt32 31)).toInt32) &&& (31 : Int32)).toNatClampNeg) + (x1 >>> ((20 : Int32) &&& 31))) >>> ((2 : Int32) &&& 31)).toNatClampNeg).toUInt32 >>> (((((G 1 (((x1.toUInt32 >>> ((15 : Int32).toUInt32 &&& Int32.toUInt32 31)).toInt32) &&& (31 : Int32)).toNatClampNeg) + (x1 >>> ((20 : Int32) &&& 31))) &&& (3 : Int32)) * (8 : Int32)).toUInt32 &&& Int32.toUInt32 31)).toInt32) <<< (((32 : Int32) - (((1 : Int32) <<< (((((x1.toUInt32 >>> ((12 : Int32).toUInt32 &&& Int32.toUInt32 31)).toInt32) &&& (7 : Int32)) &&& (3 : Int32)) &&& 31)) * (8 : Int32))) &&& 31)).toUInt32 >>> (((32 : Int32) - (((1 : Int32) <<< (((((x1.toUInt32 >>> ((12 : Int32).toUInt32 &&& Int32.toUInt32 31)).toInt32) &&& (7 : Int32)) &&& (3 : Int32)) &&& 31)) * (8 : Int32))).toUInt32 &&& Int32.toUInt32 31)).toInt32) (((x1.toUInt32 >>> ((7 : Int32).toUInt32 &&& Int32.toUInt32 31)).toInt32) &&& (31 : Int32)) F3 G3 (KX.tr KX.rf hK3 rfl rfl)
        · skip
          unfold cb_X0_load_105
          exact cwj_X0_load_118 (((((G3 0 (((G 1 (((x1.toUInt32 >>> ((15 : Int32).toUInt32 &&& Int32.toUInt32 31)).toInt32) &&& (31 : Int32)).toNatClampNeg) + (x1 >>> ((20 : Int32) &&& 31))) >>> ((2 : Int32) &&& 31)).toNatClampNeg).toUInt32 >>> (((((G 1 (((x1.toUInt32 >>> ((15 : Int32).toUInt32 &&& Int32.toUInt32 31)).toInt32) &&& (31 : Int32)).toNatClampNeg) + (x1 >>> ((20 : Int32) &&& 31))) &&& (3 : Int32)) * (8 : Int32)).toUInt32 &&& Int32.toUInt32 31)).toInt32) <<< (((32 : Int32) - (((1 : Int32) <<< (((((x1.toUInt32 >>> ((12 : Int32).toUInt32 &&& Int32.toUInt32 31)).toInt32) &&& (7 : Int32)) &&& (3 : Int32)) &&& 31)) * (8 : Int32))) &&& 31)) >>> (((32 : Int32) - (((1 : Int32) <<< (((((x1.toUInt32 >>> ((12 : Int32).toUInt32 &&& Int32.toUInt32 31)).toInt32) &&& (7 : Int32)) &&& (3 : Int32)) &&& 31)) * (8 : Int32))) &&& 31)) (((x1.toUInt32 >>> ((7 : Int32).toUInt32 &&& Int32.toUInt32 31)).toInt32) &&& (31 : Int32)) F3 G3 (KX.tr KX.rf hK3 rfl rfl)
      · skip
        unfold cb_X0_load_58
        refine PP.ret ?_
        exact (KX.tr KX.rf hK3 rfl rfl)
    · skip
      exact cwj_X0_load_18 F G KX.rf
theorem cw_X0_offsetB {fu : Nat} (x0 : Int32) (F : PF) (G : PG) : PP (cf_X0_offsetB fu x0 F G) (fun _ F' G' => KX [] [] F G F' G') := by
  unfold cf_X0_offsetB
  unfold cb_X0_offsetB_0
  refine PP.ret ?_
  exact KX.rf
theorem cwj_X0_branch_45 {fu : Nat} {F0 : PF} {G0 : PG} (F : PF) (G : PG) (hK : KX [4] [] F0 G0 F G) : PP (cb_X0_branch_45 fu F G) (fun _ F' G' => KX [4] [] F0 G0 F' G') := by
  unfold cb_X0_branch_45
  refine PP.ret ?_
  exact hK
theorem cwj_X0_branch_112 {fu : Nat} {F0 : PF} {G0 : PG} (x1 : Int32) (z0 : Int32) (z1 : Int32) (F : PF) (G : PG) (hK : KX [4] [] F0 G0 F G) : PP (cb_X0_branch_112 fu x1 z0 z1 F G) (fun _ F' G' => KX [4] [] F0 G0 F' G') := by
  unfold cb_X0_branch_112
  refine PP.ite (fun c_1 => ?_) (fun c_1 => ?_)
  · skip
    unfold cb_X0_branch_115
    refine PP.ret ?_
    exact hK
  · skip
    unfold cb_X0_branch_117
    refine PP.bind (cw_X0_offsetB x1 F G) ?_
    intro r2 F2 G2 hK2
    dsimp only
    unfold cb_X0_branch_125
    refine PP.ite (fun c_3 => ?_) (fun c_3 => ?_)
    · skip
      unfold cb_X0_branch_137
      unfold cb_X0_branch_143
      refine PP.ret ?_
      exact (KX.f (k := 4) rfl (KX.tr hK hK2 rfl rfl))
    · skip
      unfold cb_X0_branch_135
      refine PP.ret ?_
      exact (KX.tr hK hK2 rfl rfl)
theorem cwj_X0_branch_98 {fu : Nat} {F0 : PF} {G0 : PG} (x1 : Int32) (x2 : Int32) (x5 : Int32) (F : PF) (G : PG) (hK : KX [4] [] F0 G0 F G) : PP (cb_X0_branch_98 fu x1 x2 x5 F G) (fun _ F' G' => KX [4] [] F0 G0 F' G') := by
  unfold cb_X0_branch_98
  refine PP.ite (fun c_1 => ?_) (fun c_1 => ?_)
  · skip
    unfold cb_X0_branch_107
    exact cwj_X0_branch_112 x1 (1 : Int32) x5 F G hK
  · skip
    unfold cb_X0_branch_111
    exact cwj_X0_branch_112 x1 (0 : Int32) x5 F G hK
theorem cwj_X0_branch_85 {fu : Nat} {F0 : PF} {G0 : PG} (x1 : Int32) (x2 : Int32) (z0 : Int32) (F : PF) (G : PG) (hK : KX [4] [] F0 G0 F G) : PP (cb_X0_branch_85 fu x1 x2 z0 F G) (fun _ F' G' => KX [4] [] F0 G0 F' G') := by
  unfold cb_X0_branch_85
  exact cwj_X0_branch_98 x1 x2 z0 F G hK
theorem cwj_X0_branch_63 {fu : Nat} {F0 : PF} {G0 : PG} (x1 : Int32) (x2 : Int32) (z0 : Int32) (F : PF) (G : PG) (hK : KX [4] [] F0 G0 F G) : PP (cb_X0_branch_63 fu x1 x2 z0 F G) (fun _ F' G' => KX [4] [] F0 G0 F' G') := by
  unfold cb_X0_branch_63
  exact cwj_X0_branch_98 x1 x2 z0 F G hK
theorem cw_X0_branch {fu : Nat} (x1 : Int32) (F : PF) (G : PG) : PP (cf_X0_branch fu x1 F G) (fun _ F' G' => KX [4] [] F G F' G') := by
  unfold cf_X0_branch
  unfold cb_X0_branch_0
  refine PP.ix (fun _ => ?_)
  refine PP.ix (fun _ => ?_)
  refine PP.ite (fun c_1 => ?_) (fun c_1 => ?_)
  · skip
    exact cwj_X0_branch_45 F G KX.rf
  · skip
    unfold cb_X0_branch_40
    refine PP.ite (fun c_2 => ?_) (fun c_2 => ?_)
    · skip
      exact cwj_X0_branch_45 F G KX.rf
    · skip
      unfold cb_X0_branch_47
      refine PP.ite (fun c_3 => ?_) (fun c_3 => ?_)
      · skip
        unfold cb_X0_branch_68
        refine PP.ite (fun c_4 => ?_) (fun c_4 => ?_)
        · skip
          unfold cb_X0_branch_90
          refine PP.bind (cw_X0_isBelow (G 1 (((x1.toUInt32 >>> ((15 : Int32).toUInt32 &&& Int32.toUInt32 31)).toInt32) &&& (31 : Int32)).toNatClampNeg) (G 1 (((x1.toUInt32 >>> ((20 : Int32).toUInt32 &&& Int32.toUInt32 31)).toInt32) &&& (31 : Int32)).toNatClampNeg) F G) ?_
          intro r5 F5 G5 hK5
          dsimp only
          unfold cb_X0_branch_96
          exact cwj_X0_branch_98 x1 (((x1.toUInt32 >>> ((12 : Int32).toUInt32 &&& Int32.toUInt32 31)).toInt32) &&& (7 : Int32)) r5 F5 G5 (KX.tr KX.rf hK5 rfl rfl)
        · skip
          unfold cb_X0_branch_74
          refine PP.ite (fun c_6 => ?_) (fun c_6 => ?_)
          · skip
            unfold cb_X0_branch_84
            exact cwj_X0_branch_85 x1 (((x1.toUInt32 >>> ((12 : Int32).toUInt32 &&& Int32.toUInt32 31)).toInt32) &&& (7 : Int32)) (0 : Int32) F G KX.rf
          · skip
            unfold cb_X0_branch_80
            exact cwj_X0_branch_85 x1 (((x1.toUInt32 >>> ((12 : Int32).toUInt32 &&& Int32.toUInt32 31)).toInt32) &&& (7 : Int32)) (1 : Int32) F G KX.rf
      · skip
        unfold cb_X0_branch_52
        refine PP.ite (fun c_7 => ?_) (fun c_7 => ?_)
        · skip
          unfold cb_X0_branch_58
          exact cwj_X0_branch_63 x1 (((x1.toUInt32 >>> ((12 : Int32).toUInt32 &&& Int32.toUInt32 31)).toInt32) &&& (7 : Int32)) (1 : Int32) F G KX.rf
        · skip
          unfold cb_X0_branch_62
          exact cwj_X0_branch_63 x1 (((x1.toUInt32 >>> ((12 : Int32).toUInt32 &&& Int32.toUInt32 31)).toInt32) &&& (7 : Int32)) (0 : Int32) F G KX.rf
theorem cwj_X0_withNumber_84 {fu : Nat} {F0 : PF} {G0 : PG} (x4 : Int32) (x5 : Int32) (z0 : Int32) (z1 : Int32) (z2 : Int32) (F : PF) (G : PG) (hK : KX [] [1] F0 G0 F G) : PP (cb_X0_withNumber_84 fu x4 x5 z0 z1 z2 F G) (fun _ F' G' => KX [] [1] F0 G0 F' G') := by
  unfold cb_X0_withNumber_84
  refine PP.bind (cw_X0_plain z1 z0 x4 x5 F G) ?_
  intro r1 F1 G1 hK1
  dsimp only
  unfold cb_X0_withNumber_91
  refine PP.bind (cw_X0_keep z2 r1 F1 G1) ?_
  intro r2 F2 G2 hK2
  dsimp only
  unfold cb_X0_withNumber_94
  refine PP.ret ?_
  exact (KX.tr (KX.tr hK hK1 rfl rfl) hK2 rfl rfl)
theorem cwj_X0_withNumber_83 {fu : Nat} {F0 : PF} {G0 : PG} (x4 : Int32) (x5 : Int32) (z0 : Int32) (z1 : Int32) (F : PF) (G : PG) (hK : KX [] [1] F0 G0 F G) : PP (cb_X0_withNumber_83 fu x4 x5 z0 z1 F G) (fun _ F' G' => KX [] [1] F0 G0 F' G') := by
  unfold cb_X0_withNumber_83
  exact cwj_X0_withNumber_84 x4 x5 (0 : Int32) z0 z1 F G hK
theorem cwj_X0_withNumber_59 {fu : Nat} {F0 : PF} {G0 : PG} (x1 : Int32) (x2 : Int32) (x3 : Int32) (x4 : Int32) (x5 : Int32) (F : PF) (G : PG) (hK : KX [] [1] F0 G0 F G) : PP (cb_X0_withNumber_59 fu x1 x2 x3 x4 x5 F G) (fun _ F' G' => KX [] [1] F0 G0 F' G') := by
  unfold cb_X0_withNumber_59
  refine PP.ite (fun c_1 => ?_) (fun c_1 => ?_)
  · skip
    unfold cb_X0_withNumber_73
    refine PP.ite (fun c_2 => ?_) (fun c_2 => ?_)
    · skip
      unfold cb_X0_withNumber_79
      exact cwj_X0_withNumber_84 x4 x5 (1 : Int32) x2 (((x1.toUInt32 >>> ((7 : Int32).toUInt32 &&& Int32.toUInt32 31)).toInt32) &&& (31 : Int32)) F G hK
    · skip
      exact cwj_X0_withNumber_83 x4 x5 x2 (((x1.toUInt32 >>> ((7 : Int32).toUInt32 &&& Int32.toUInt32 31)).toInt32) &&& (31 : Int32)) F G hK
  · skip
    exact cwj_X0_withNumber_83 x4 x5 x2 (((x1.toUInt32 >>> ((7 : Int32).toUInt32 &&& Int32.toUInt32 31)).toInt32) &&& (31 : Int32)) F G hK
theorem cwj_X0_withNumber_57 {fu : Nat} {F0 : PF} {G0 : PG} (F : PF) (G : PG) (hK : KX [] [1] F0 G0 F G) : PP (cb_X0_withNumber_57 fu F G) (fun _ F' G' => KX [] [1] F0 G0 F' G') := by
  unfold cb_X0_withNumber_57
  refine PP.ret ?_
  exact hK
theorem cwj_X0_withNumber_42 {fu : Nat} {F0 : PF} {G0 : PG} (x1 : Int32) (x2 : Int32) (x3 : Int32) (x4 : Int32) (x5 : Int32) (F : PF) (G : PG) (hK : KX [] [1] F0 G0 F G) : PP (cb_X0_withNumber_42 fu x1 x2 x3 x4 x5 F G) (fun _ F' G' => KX [] [1] F0 G0 F' G') := by
  unfold cb_X0_withNumber_42
  refine PP.ite (fun c_1 => ?_) (fun c_1 => ?_)
  · skip
    unfold cb_X0_withNumber_47
    refine PP.ite (fun c_2 => ?_) (fun c_2 => ?_)
    · skip
      exact cwj_X0_withNumber_59 x1 x2 x3 x4 x5 F G hK
    · skip
      unfold cb_X0_withNumber_51
      refine PP.ite (fun c_3 => ?_) (fun c_3 => ?_)
      · skip
        exact cwj_X0_withNumber_59 x1 x2 x3 x4 x5 F G hK
      · skip
        exact cwj_X0_withNumber_57 F G hK
  · skip
    exact cwj_X0_withNumber_59 x1 x2 x3 x4 x5 F G hK
theorem cw_X0_withNumber {fu : Nat} (x1 : Int32) (F : PF) (G : PG) : PP (cf_X0_withNumber fu x1 F G) (fun _ F' G' => KX [] [1] F G F' G') := by
  unfold cf_X0_withNumber
  unfold cb_X0_withNumber_0
  refine PP.ix (fun _ => ?_)
  refine PP.ite (fun c_1 => ?_) (fun c_1 => ?_)
  · skip
    unfold cb_X0_withNumber_38
    refine PP.ite (fun c_2 => ?_) (fun c_2 => ?_)
    · skip
      exact cwj_X0_withNumber_42 x1 (((x1.toUInt32 >>> ((12 : Int32).toUInt32 &&& Int32.toUInt32 31)).toInt32) &&& (7 : Int32)) ((x1.toUInt32 >>> ((25 : Int32).toUInt32 &&& Int32.toUInt32 31)).toInt32) (G 1 (((x1.toUInt32 >>> ((15 : Int32).toUInt32 &&& Int32.toUInt32 31)).toInt32) &&& (31 : Int32)).toNatClampNeg) (x1 >>> ((20 : Int32) &&& 31)) F G KX.rf
    · skip
      exact cwj_X0_withNumber_57 F G KX.rf
  · skip
    exact cwj_X0_withNumber_42 x1 (((x1.toUInt32 >>> ((12 : Int32).toUInt32 &&& Int32.toUInt32 31)).toInt32) &&& (7 : Int32)) ((x1.toUInt32 >>> ((25 : Int32).toUInt32 &&& Int32.toUInt32 31)).toInt32) (G 1 (((x1.toUInt32 >>> ((15 : Int32).toUInt32 &&& Int32.toUInt32 31)).toInt32) &&& (31 : Int32)).toNatClampNeg) (x1 >>> ((20 : Int32) &&& 31)) F G KX.rf
theorem cwj_X0_does_249 {fu : Nat} {F0 : PF} {G0 : PG} (z0 : Int32) (F : PF) (G : PG) (hK : KX [4] [0, 1] F0 G0 F G) : PP (cb_X0_does_249 fu z0 F G) (fun _ F' G' => KX [4] [0, 1] F0 G0 F' G') := by
  unfold cb_X0_does_249
  refine PP.ret ?_
  exact hK
theorem cwj_X0_does_203 {fu : Nat} {F0 : PF} {G0 : PG} (z0 : Int32) (F : PF) (G : PG) (hK : KX [4] [0, 1] F0 G0 F G) : PP (cb_X0_does_203 fu z0 F G) (fun _ F' G' => KX [4] [0, 1] F0 G0 F' G') := by
  unfold cb_X0_does_203
  refine PP.ret ?_
  exact hK
theorem cwj_X0_does_273 {fu : Nat} {F0 : PF} {G0 : PG} (z0 : Int32) (F : PF) (G : PG) (hK : KX [4] [0, 1] F0 G0 F G) : PP (cb_X0_does_273 fu z0 F G) (fun _ F' G' => KX [4] [0, 1] F0 G0 F' G') := by
  unfold cb_X0_does_273
  refine PP.ret ?_
  exact hK
theorem cw_X0_does {fu : Nat} (x1 : Int32) (F : PF) (G : PG) : PP (cf_X0_does fu x1 F G) (fun _ F' G' => KX [4] [0, 1] F G F' G') := by
  unfold cf_X0_does
  unfold cb_X0_does_0
  refine PP.ite (fun c_1 => ?_) (fun c_1 => ?_)
  · skip
    unfold cb_X0_does_210
    refine PP.bind (cw_X0_load x1 F G) ?_
    intro r2 F2 G2 hK2
    dsimp only
    unfold cb_X0_does_215
    refine PP.ret ?_
    exact (KX.tr KX.rf hK2 rfl rfl)
  refine PP.ite (fun c_3 => ?_) (fun c_3 => ?_)
  · skip
    unfold cb_X0_does_234
    refine PP.ite (fun c_4 => ?_) (fun c_4 => ?_)
    · skip
      unfold cb_X0_does_244
      exact cwj_X0_does_249 (0 : Int32) F G KX.rf
    · skip
      unfold cb_X0_does_248
      exact cwj_X0_does_249 (2 : Int32) F G KX.rf
  refine PP.ite (fun c_5 => ?_) (fun c_5 => ?_)
  · skip
    unfold cb_X0_does_222
    refine PP.bind (cw_X0_withNumber x1 F G) ?_
    intro r6 F6 G6 hK6
    dsimp only
    unfold cb_X0_does_227
    refine PP.ret ?_
    exact (KX.tr KX.rf hK6 rfl rfl)
  refine PP.ite (fun c_7 => ?_) (fun c_7 => ?_)
  · skip
    unfold cb_X0_does_113
    refine PP.bind (cw_X0_keep (((x1.toUInt32 >>> ((7 : Int32).toUInt32 &&& Int32.toUInt32 31)).toInt32) &&& (31 : Int32)) ((F 2) + (x1 &&& (-4096 : Int32))) F G) ?_
    intro r8 F8 G8 hK8
    dsimp only
    unfold cb_X0_does_134
    refine PP.ret ?_
    exact (KX.tr KX.rf hK8 rfl rfl)
  refine PP.ite (fun c_9 => ?_) (fun c_9 => ?_)
  · skip
    unfold cb_X0_does_216
    refine PP.bind (cw_X0_store x1 F G) ?_
    intro r10 F10 G10 hK10
    dsimp only
    unfold cb_X0_does_221
    refine PP.ret ?_
    exact (KX.tr KX.rf hK10 rfl rfl)
  refine PP.ite (fun c_11 => ?_) (fun c_11 => ?_)
  · skip
    unfold cb_X0_does_228
    refine PP.bind (cw_X0_withRegister x1 F G) ?_
    intro r12 F12 G12 hK12
    dsimp only
    unfold cb_X0_does_233
    refine PP.ret ?_
    exact (KX.tr KX.rf hK12 rfl rfl)
  refine PP.ite (fun c_13 => ?_) (fun c_13 => ?_)
  · skip
    unfold cb_X0_does_96
    refine PP.bind (cw_X0_keep (((x1.toUInt32 >>> ((7 : Int32).toUInt32 &&& Int32.toUInt32 31)).toInt32) &&& (31 : Int32)) (x1 &&& (-4096 : Int32)) F G) ?_
    intro r14 F14 G14 hK14
    dsimp only
    unfold cb_X0_does_112
    refine PP.ret ?_
    exact (KX.tr KX.rf hK14 rfl rfl)
  refine PP.ite (fun c_15 => ?_) (fun c_15 => ?_)
  · skip
    unfold cb_X0_does_204
    refine PP.bind (cw_X0_branch x1 F G) ?_
    intro r16 F16 G16 hK16
    dsimp only
    unfold cb_X0_does_209
    refine PP.ret ?_
    exact (KX.tr KX.rf hK16 rfl rfl)
  refine PP.ite (fun c_17 => ?_) (fun c_17 => ?_)
  · skip
    unfold cb_X0_does_156
    refine PP.ix (fun _ => ?_)
    refine PP.ite (fun c_18 => ?_) (fun c_18 => ?_)
    · skip
      unfold cb_X0_does_187
      refine PP.bind (cw_X0_link (((x1.toUInt32 >>> ((7 : Int32).toUInt32 &&& Int32.toUInt32 31)).toInt32) &&& (31 : Int32)) (((G 1 (((x1.toUInt32 >>> ((15 : Int32).toUInt32 &&& Int32.toUInt32 31)).toInt32) &&& (31 : Int32)).toNatClampNeg) + (x1 >>> ((20 : Int32) &&& 31))) &&& (-2 : Int32)) F G) ?_
      intro r19 F19 G19 hK19
      dsimp only
      unfold cb_X0_does_199
      exact cwj_X0_does_203 r19 F19 G19 (KX.tr KX.rf hK19 rfl rfl)
    · skip
      unfold cb_X0_does_202
      exact cwj_X0_does_203 (2 : Int32) F G KX.rf
  refine PP.ite (fun c_20 => ?_) (fun c_20 => ?_)
  · skip
    unfold cb_X0_does_135
    refine PP.bind (cw_X0_offsetJ x1 F G) ?_
    intro r21 F21 G21 hK21
    dsimp only
    unfold cb_X0_does_151
    refine PP.bind (cw_X0_link (((x1.toUInt32 >>> ((7 : Int32).toUInt32 &&& Int32.toUInt32 31)).toInt32) &&& (31 : Int32)) ((F 2) + r21) F21 G21) ?_
    intro r22 F22 G22 hK22
    dsimp only
    unfold cb_X0_does_155
    refine PP.ret ?_
    exact (KX.tr (KX.tr KX.rf hK21 rfl rfl) hK22 rfl rfl)
  unfold cb_X0_does_250
  refine PP.ite (fun c_23 => ?_) (fun c_23 => ?_)
  · skip
    unfold cb_X0_does_256
    exact cwj_X0_does_273 (6 : Int32) F G KX.rf
  · skip
    unfold cb_X0_does_261
    refine PP.ite (fun c_24 => ?_) (fun c_24 => ?_)
    · skip
      unfold cb_X0_does_267
      exact cwj_X0_does_273 (7 : Int32) F G KX.rf
    · skip
      unfold cb_X0_does_272
      exact cwj_X0_does_273 (2 : Int32) F G KX.rf
theorem cwj_X0_doWord_26 {fu : Nat} {F0 : PF} {G0 : PG} (F : PF) (G : PG) (hK : KX [2, 3, 4] [0, 1] F0 G0 F G) : PP (cb_X0_doWord_26 fu F G) (fun _ F' G' => KX [2, 3, 4] [0, 1] F0 G0 F' G') := by
  unfold cb_X0_doWord_26
  refine PP.ret ?_
  exact hK
theorem cwj_X0_doWord_90 {fu : Nat} {F0 : PF} {G0 : PG} (x2 : Int32) (F : PF) (G : PG) (hK : KX [2, 3, 4] [0, 1] F0 G0 F G) : PP (cb_X0_doWord_90 fu x2 F G) (fun _ F' G' => KX [2, 3, 4] [0, 1] F0 G0 F' G') := by
  unfold cb_X0_doWord_90
  refine PP.ret ?_
  exact hK
theorem cwj_X0_doWord_72 {fu : Nat} {F0 : PF} {G0 : PG} (x2 : Int32) (F : PF) (G : PG) (hK : KX [2, 3, 4] [0, 1] F0 G0 F G) : PP (cb_X0_doWord_72 fu x2 F G) (fun _ F' G' => KX [2, 3, 4] [0, 1] F0 G0 F' G') := by
  unfold cb_X0_doWord_72
  unfold cb_X0_doWord_80
  exact cwj_X0_doWord_90 x2 (fup (fup F 2 (F 4)) 3 ((F 3) + (1 : Int32))) G (KX.f (k := 3) rfl (KX.f (k := 2) rfl hK))
theorem cw_X0_doWord {fu : Nat} (F : PF) (G : PG) : PP (cf_X0_doWord fu F G) (fun _ F' G' => KX [2, 3, 4] [0, 1] F G F' G') := by
  unfold cf_X0_doWord
  unfold cb_X0_doWord_0
  refine PP.ite (fun c_1 => ?_) (fun c_1 => ?_)
  · skip
    unfold cb_X0_doWord_9
    refine PP.ite (fun c_2 => ?_) (fun c_2 => ?_)
    · skip
      exact cwj_X0_doWord_26 F G KX.rf
    · skip
      unfold cb_X0_doWord_16
      refine PP.ite (fun c_3 => ?_) (fun c_3 => ?_)
      · skip
        unfold cb_X0_doWord_28
        refine PP.ix (fun _ => ?_)
        unfold cb_X0_doWord_50
        refine PP.bind (cw_X0_does (G 0 ((F 2) >>> ((2 : Int32) &&& 31)).toNatClampNeg) (fup F 4 ((F 2) + (4 : Int32))) G) ?_
        intro r4 F4 G4 hK4
        dsimp only
        unfold cb_X0_doWord_55
        refine PP.ite (fun c_5 => ?_) (fun c_5 => ?_)
        · skip
          exact cwj_X0_doWord_72 r4 F4 G4 (KX.tr (KX.f (k := 4) rfl KX.rf) hK4 rfl rfl)
        · skip
          unfold cb_X0_doWord_60
          refine PP.ite (fun c_6 => ?_) (fun c_6 => ?_)
          · skip
            exact cwj_X0_doWord_72 r4 F4 G4 (KX.tr (KX.f (k := 4) rfl KX.rf) hK4 rfl rfl)
          · skip
            unfold cb_X0_doWord_66
            refine PP.ite (fun c_7 => ?_) (fun c_7 => ?_)
            · skip
              exact cwj_X0_doWord_72 r4 F4 G4 (KX.tr (KX.f (k := 4) rfl KX.rf) hK4 rfl rfl)
            · skip
              exact cwj_X0_doWord_90 r4 F4 G4 (KX.tr (KX.f (k := 4) rfl KX.rf) hK4 rfl rfl)
      · skip
        exact cwj_X0_doWord_26 F G KX.rf
  · skip
    exact cwj_X0_doWord_26 F G KX.rf
theorem cwj_X0_doWords_24 {fu : Nat} {F0 : PF} {G0 : PG} (x2 : Int32) (F : PF) (G : PG) (hK : KX [2, 3, 4] [0, 1] F0 G0 F G) : PP (cb_X0_doWords_24 fu x2 F G) (fun _ F' G' => KX [2, 3, 4] [0, 1] F0 G0 F' G') := by
  unfold cb_X0_doWords_24
  refine PP.ret ?_
  exact hK
theorem cwz_X0_doWords_4 {fu : Nat} {F0 : PF} {G0 : PG} : ∀ (n : Nat) (x1 : Int32) (x2 : Int32) (x3 : Int32) (F : PF) (G : PG) (hK : KX [2, 3, 4] [0, 1] F0 G0 F G), PP (cl_X0_doWords_4 fu n x1 x2 x3 F G) (fun _ F' G' => KX [2, 3, 4] [0, 1] F0 G0 F' G') := by
  intro n
  induction n with
  | zero =>
    intro x1 x2 x3 F G hK
    exact PP.no
  | succ n ihn =>
    intro x1 x2 x3 F G hK
    show PP (cb_X0_doWords_4 fu (cl_X0_doWords_4 fu n) x1 x2 x3 F G) _
    unfold cb_X0_doWords_4
    refine PP.ite (fun c_1 => ?_) (fun c_1 => ?_)
    · skip
      exact cwj_X0_doWords_24 x2 F G hK
    · skip
      unfold cb_X0_doWords_9
      refine PP.ite (fun c_2 => ?_) (fun c_2 => ?_)
      · skip
        unfold cb_X0_doWords_13
        refine PP.bind (cw_X0_doWord F G) ?_
        intro r3 F3 G3 hK3
        dsimp only
        unfold cb_X0_doWords_17
        exact ihn x1 r3 (x3 + (1 : Int32)) F3 G3 (KX.tr hK hK3 rfl rfl)
      · skip
        exact cwj_X0_doWords_24 x2 F G hK
theorem cw_X0_doWords {fu : Nat} (x1 : Int32) (F : PF) (G : PG) : PP (cf_X0_doWords fu x1 F G) (fun _ F' G' => KX [2, 3, 4] [0, 1] F G F' G') := by
  unfold cf_X0_doWords
  unfold cb_X0_doWords_0
  exact cwz_X0_doWords_4 fu x1 (0 : Int32) (0 : Int32) F G KX.rf
theorem cwj_X1_add_37 {fu : Nat} {F0 : PF} {G0 : PG} (F : PF) (G : PG) (hK : KX [6] [5] F0 G0 F G) : PP (cb_X1_add_37 fu F G) (fun _ F' G' => KX [6] [5] F0 G0 F' G') := by
  unfold cb_X1_add_37
  refine PP.ret ?_
  exact hK
theorem cw_X1_add {fu : Nat} (x1 : Int32) (F : PF) (G : PG) : PP (cf_X1_add fu x1 F G) (fun _ F' G' => KX [6] [5] F G F' G') := by
  unfold cf_X1_add
  unfold cb_X1_add_0
  refine PP.ite (fun c_1 => ?_) (fun c_1 => ?_)
  · skip
    exact cwj_X1_add_37 F G KX.rf
  · skip
    unfold cb_X1_add_7
    refine PP.ite (fun c_2 => ?_) (fun c_2 => ?_)
    · skip
      exact cwj_X1_add_37 F G KX.rf
    · skip
      unfold cb_X1_add_17
      refine PP.ix (fun _ => ?_)
      unfold cb_X1_add_27
      exact cwj_X1_add_37 (fup F 6 ((F 6) + (1 : Int32))) (gup G 5 (F 6).toNatClampNeg x1) (KX.f (k := 6) rfl (KX.g (k := 5) rfl KX.rf))
theorem cwj_X1_addPair_49 {fu : Nat} {F0 : PF} {G0 : PG} (F : PF) (G : PG) (hK : KX [6] [5] F0 G0 F G) : PP (cb_X1_addPair_49 fu F G) (fun _ F' G' => KX [6] [5] F0 G0 F' G') := by
  unfold cb_X1_addPair_49
  refine PP.ret ?_
  exact hK
theorem cw_X1_addPair {fu : Nat} (x1 : Int32) (x2 : Int32) (F : PF) (G : PG) : PP (cf_X1_addPair fu x1 x2 F G) (fun _ F' G' => KX [6] [5] F G F' G') := by
  unfold cf_X1_addPair
  unfold cb_X1_addPair_0
  refine PP.ite (fun c_1 => ?_) (fun c_1 => ?_)
  · skip
    exact cwj_X1_addPair_49 F G KX.rf
  · skip
    unfold cb_X1_addPair_7
    refine PP.ite (fun c_2 => ?_) (fun c_2 => ?_)
    · skip
      exact cwj_X1_addPair_49 F G KX.rf
    · skip
      unfold cb_X1_addPair_17
      refine PP.ix (fun _ => ?_)
      unfold cb_X1_addPair_27
      refine PP.ix (fun _ => ?_)
      unfold cb_X1_addPair_39
      exact cwj_X1_addPair_49 (fup F 6 ((F 6) + (2 : Int32))) (gup (gup G 5 (F 6).toNatClampNeg x1) 5 ((F 6) + (1 : Int32)).toNatClampNeg x2) (KX.f (k := 6) rfl (KX.g (k := 5) rfl (KX.g (k := 5) rfl KX.rf)))
theorem cwj_X1_addJump_17 {fu : Nat} {F0 : PF} {G0 : PG} (F : PF) (G : PG) (hK : KX [6] [5] F0 G0 F G) : PP (cb_X1_addJump_17 fu F G) (fun _ F' G' => KX [6] [5] F0 G0 F' G') := by
  unfold cb_X1_addJump_17
  refine PP.ret ?_
  exact hK
theorem cw_X1_addJump {fu : Nat} (x1 : Int32) (x2 : Int32) (F : PF) (G : PG) : PP (cf_X1_addJump fu x1 x2 F G) (fun _ F' G' => KX [6] [5] F G F' G') := by
  unfold cf_X1_addJump
  unfold cb_X1_addJump_0
  refine PP.ite (fun c_1 => ?_) (fun c_1 => ?_)
  · skip
    exact cwj_X1_addJump_17 F G KX.rf
  · skip
    unfold cb_X1_addJump_7
    refine PP.ite (fun c_2 => ?_) (fun c_2 => ?_)
    · skip
      unfold cb_X1_addJump_19
      refine PP.ix (fun _ => ?_)
      unfold cb_X1_addJump_29
      refine PP.ix (fun _ => ?_)
      unfold cb_X1_addJump_41
      unfold cb_X1_addJump_51
      refine PP.ret ?_
      exact (KX.f (k := 6) rfl (KX.g (k := 5) rfl (KX.g (k := 5) rfl KX.rf)))
    · skip
      exact cwj_X1_addJump_17 F G KX.rf
theorem cwj_X1_aim_49 {fu : Nat} {F0 : PF} {G0 : PG} (F : PF) (G : PG) (hK : KX [] [5] F0 G0 F G) : PP (cb_X1_aim_49 fu F G) (fun _ F' G' => KX [] [5] F0 G0 F' G') := by
  unfold cb_X1_aim_49
  refine PP.ret ?_
  exact hK
theorem cwz_X1_aim_5 {fu : Nat} {F0 : PF} {G0 : PG} : ∀ (n : Nat) (x2 : Int32) (x3 : Int32) (x4 : Int32) (F : PF) (G : PG) (hK : KX [] [5] F0 G0 F G), PP (cl_X1_aim_5 fu n x2 x3 x4 F G) (fun _ F' G' => KX [] [5] F0 G0 F' G') := by
  intro n
  induction n with
  | zero =>
    intro x2 x3 x4 F G hK
    exact PP.no
  | succ n ihn =>
    intro x2 x3 x4 F G hK
    show PP (cb_X1_aim_5 fu (cl_X1_aim_5 fu n) x2 x3 x4 F G) _
    unfold cb_X1_aim_5
    refine PP.ite (fun c_1 => ?_) (fun c_1 => ?_)
    · skip
      exact cwj_X1_aim_49 F G hK
    · skip
      unfold cb_X1_aim_13
      refine PP.ite (fun c_2 => ?_) (fun c_2 => ?_)
      · skip
        exact cwj_X1_aim_49 F G hK
      · skip
        unfold cb_X1_aim_17
        refine PP.ite (fun c_3 => ?_) (fun c_3 => ?_)
        · skip
          exact cwj_X1_aim_49 F G hK
        · skip
          unfold cb_X1_aim_25
          refine PP.ix (fun _ => ?_)
          refine PP.ix (fun _ => ?_)
          unfold cb_X1_aim_40
          exact ihn x2 (G 5 x3.toNatClampNeg) (x4 + (1 : Int32)) F (gup G 5 x3.toNatClampNeg x2) (KX.g (k := 5) rfl hK)
theorem cw_X1_aim {fu : Nat} (x1 : Int32) (x2 : Int32) (F : PF) (G : PG) : PP (cf_X1_aim fu x1 x2 F G) (fun _ F' G' => KX [] [5] F G F' G') := by
  unfold cf_X1_aim
  unfold cb_X1_aim_0
  exact cwz_X1_aim_5 fu x2 x1 (0 : Int32) F G KX.rf
theorem cwj_X1_cut_17 {fu : Nat} {F0 : PF} {G0 : PG} (F : PF) (G : PG) (hK : KX [6] [] F0 G0 F G) : PP (cb_X1_cut_17 fu F G) (fun _ F' G' => KX [6] [] F0 G0 F' G') := by
  unfold cb_X1_cut_17
  refine PP.ret ?_
  exact hK
theorem cw_X1_cut {fu : Nat} (x1 : Int32) (F : PF) (G : PG) : PP (cf_X1_cut fu x1 F G) (fun _ F' G' => KX [6] [] F G F' G') := by
  unfold cf_X1_cut
  unfold cb_X1_cut_0
  refine PP.ite (fun c_1 => ?_) (fun c_1 => ?_)
  · skip
    exact cwj_X1_cut_17 F G KX.rf
  · skip
    unfold cb_X1_cut_4
    refine PP.ite (fun c_2 => ?_) (fun c_2 => ?_)
    · skip
      exact cwj_X1_cut_17 F G KX.rf
    · skip
      unfold cb_X1_cut_12
      exact cwj_X1_cut_17 (fup F 6 x1) G (KX.f (k := 6) rfl KX.rf)
theorem cwj_X2_comeTo_15 {fu : Nat} {F0 : PF} {G0 : PG} (F : PF) (G : PG) (hK : KX [9, 11, 12, 13, 14] [] F0 G0 F G) : PP (cb_X2_comeTo_15 fu F G) (fun _ F' G' => KX [9, 11, 12, 13, 14] [] F0 G0 F' G') := by
  unfold cb_X2_comeTo_15
  refine PP.ret ?_
  exact hK
theorem cwj_X2_comeTo_87 {fu : Nat} {F0 : PF} {G0 : PG} (F : PF) (G : PG) (hK : KX [9, 11, 12, 13, 14] [] F0 G0 F G) : PP (cb_X2_comeTo_87 fu F G) (fun _ F' G' => KX [9, 11, 12, 13, 14] [] F0 G0 F' G') := by
  unfold cb_X2_comeTo_87
  refine PP.ret ?_
  exact hK
theorem cw_X2_comeTo {fu : Nat} (x1 : Int32) (F : PF) (G : PG) : PP (cf_X2_comeTo fu x1 F G) (fun _ F' G' => KX [9, 11, 12, 13, 14] [] F G F' G') := by
  unfold cf_X2_comeTo
  unfold cb_X2_comeTo_0
  refine PP.ite (fun c_1 => ?_) (fun c_1 => ?_)
  · skip
    exact cwj_X2_comeTo_15 F G KX.rf
  · skip
    unfold cb_X2_comeTo_4
    refine PP.ite (fun c_2 => ?_) (fun c_2 => ?_)
    · skip
      unfold cb_X2_comeTo_16
      unfold cb_X2_comeTo_21
      refine PP.ix (fun _ => ?_)
      unfold cb_X2_comeTo_34
      refine PP.ix (fun _ => ?_)
      unfold cb_X2_comeTo_47
      refine PP.ix (fun _ => ?_)
      unfold cb_X2_comeTo_60
      refine PP.ite (fun c_3 => ?_) (fun c_3 => ?_)
      · skip
        unfold cb_X2_comeTo_68
        unfold cb_X2_comeTo_81
        exact cwj_X2_comeTo_87 (fup (fup (fup (fup (fup (fup F 9 x1) 11 (G 90 x1.toNatClampNeg)) 12 (G 91 x1.toNatClampNeg)) 13 (G 92 x1.toNatClampNeg)) 14 (((G 92 x1.toNatClampNeg) * (16 : Int32)) + (1 : Int32))) 11 (-2 : Int32)) G (KX.f (k := 11) rfl (KX.f (k := 14) rfl (KX.f (k := 13) rfl (KX.f (k := 12) rfl (KX.f (k := 11) rfl (KX.f (k := 9) rfl KX.rf))))))
      · skip
        exact cwj_X2_comeTo_87 (fup (fup (fup (fup F 9 x1) 11 (G 90 x1.toNatClampNeg)) 12 (G 91 x1.toNatClampNeg)) 13 (G 92 x1.toNatClampNeg)) G (KX.f (k := 13) rfl (KX.f (k := 12) rfl (KX.f (k := 11) rfl (KX.f (k := 9) rfl KX.rf))))
    · skip
      exact cwj_X2_comeTo_15 F G KX.rf
theorem cw_X2_start {fu : Nat} (F : PF) (G : PG) : PP (cf_X2_start fu F G) (fun _ F' G' => KX [9, 10, 11, 12, 13, 14] [] F G F' G') := by
  unfold cf_X2_start
  unfold cb_X2_start_0
  unfold cb_X2_start_5
  unfold cb_X2_start_10
  refine PP.bind (cw_X2_comeTo (0 : Int32) (fup (fup F 10 (0 : Int32)) 14 (0 : Int32)) G) ?_
  intro r1 F1 G1 hK1
  dsimp only
  unfold cb_X2_start_15
  refine PP.ret ?_
  exact (KX.tr (KX.f (k := 14) rfl (KX.f (k := 10) rfl KX.rf)) hK1 rfl rfl)
theorem cwj_X10_kind_22 {fu : Nat} {F0 : PF} {G0 : PG} (z0 : Int32) (F : PF) (G : PG) (hK : KX [] [] F0 G0 F G) : PP (cb_X10_kind_22 fu z0 F G) (fun _ F' G' => KX [] [] F0 G0 F' G') := by
  unfold cb_X10_kind_22
  refine PP.ret ?_
  exact hK
theorem cwj_X10_kind_12 {fu : Nat} {F0 : PF} {G0 : PG} (F : PF) (G : PG) (hK : KX [] [] F0 G0 F G) : PP (cb_X10_kind_12 fu F G) (fun _ F' G' => KX [] [] F0 G0 F' G') := by
  unfold cb_X10_kind_12
  exact cwj_X10_kind_22 (0 : Int32) F G hK
theorem cw_X10_kind {fu : Nat} (x1 : Int32) (F : PF) (G : PG) : PP (cf_X10_kind fu x1 F G) (fun _ F' G' => KX [] [] F G F' G') := by
  unfold cf_X10_kind
  unfold cb_X10_kind_0
  refine PP.ite (fun c_1 => ?_) (fun c_1 => ?_)
  · skip
    exact cwj_X10_kind_12 F G KX.rf
  · skip
    unfold cb_X10_kind_4
    refine PP.ite (fun c_2 => ?_) (fun c_2 => ?_)
    · skip
      unfold cb_X10_kind_16
      refine PP.ix (fun _ => ?_)
      exact cwj_X10_kind_22 (G 90 x1.toNatClampNeg) F G KX.rf
    · skip
      exact cwj_X10_kind_12 F G KX.rf
theorem cwj_X2_isNameAlone_39 {fu : Nat} {F0 : PF} {G0 : PG} (z0 : Int32) (F : PF) (G : PG) (hK : KX [] [] F0 G0 F G) : PP (cb_X2_isNameAlone_39 fu z0 F G) (fun _ F' G' => KX [] [] F0 G0 F' G') := by
  unfold cb_X2_isNameAlone_39
  refine PP.bz (fun _ => ?_)
  refine PP.ret ?_
  exact hK
theorem cwj_X2_isNameAlone_34 {fu : Nat} {F0 : PF} {G0 : PG} (F : PF) (G : PG) (hK : KX [] [] F0 G0 F G) : PP (cb_X2_isNameAlone_34 fu F G) (fun _ F' G' => KX [] [] F0 G0 F' G') := by
  unfold cb_X2_isNameAlone_34
  exact cwj_X2_isNameAlone_39 (1 : Int32) F G hK
theorem cwj_X2_isNameAlone_38 {fu : Nat} {F0 : PF} {G0 : PG} (F : PF) (G : PG) (hK : KX [] [] F0 G0 F G) : PP (cb_X2_isNameAlone_38 fu F G) (fun _ F' G' => KX [] [] F0 G0 F' G') := by
  unfold cb_X2_isNameAlone_38
  exact cwj_X2_isNameAlone_39 (0 : Int32) F G hK
theorem cw_X2_isNameAlone {fu : Nat} (F : PF) (G : PG) : PP (cf_X2_isNameAlone fu F G) (fun _ F' G' => KX [] [] F G F' G') := by
  unfold cf_X2_isNameAlone
  unfold cb_X2_isNameAlone_0
  refine PP.bind (cw_X10_kind ((F 9) + (1 : Int32)) F G) ?_
  intro r1 F1 G1 hK1
  dsimp only
  unfold cb_X2_isNameAlone_13
  refine PP.ite (fun c_2 => ?_) (fun c_2 => ?_)
  · skip
    unfold cb_X2_isNameAlone_22
    refine PP.ite (fun c_3 => ?_) (fun c_3 => ?_)
    · skip
      exact cwj_X2_isNameAlone_34 F1 G1 (KX.tr KX.rf hK1 rfl rfl)
    · skip
      unfold cb_X2_isNameAlone_28
      refine PP.ite (fun c_4 => ?_) (fun c_4 => ?_)
      · skip
        exact cwj_X2_isNameAlone_34 F1 G1 (KX.tr KX.rf hK1 rfl rfl)
      · skip
        exact cwj_X2_isNameAlone_38 F1 G1 (KX.tr KX.rf hK1 rfl rfl)
  · skip
    exact cwj_X2_isNameAlone_38 F1 G1 (KX.tr KX.rf hK1 rfl rfl)
theorem cwj_X2_next_17 {fu : Nat} {F0 : PF} {G0 : PG} (F : PF) (G : PG) (hK : KX [9, 11, 12, 13, 14] [] F0 G0 F G) : PP (cb_X2_next_17 fu F G) (fun _ F' G' => KX [9, 11, 12, 13, 14] [] F0 G0 F' G') := by
  unfold cb_X2_next_17
  refine PP.ret ?_
  exact hK
theorem cw_X2_next {fu : Nat} (F : PF) (G : PG) : PP (cf_X2_next fu F G) (fun _ F' G' => KX [9, 11, 12, 13, 14] [] F G F' G') := by
  unfold cf_X2_next
  unfold cb_X2_next_0
  refine PP.ite (fun c_1 => ?_) (fun c_1 => ?_)
  · skip
    unfold cb_X2_next_7
    refine PP.bind (cw_X2_comeTo ((F 9) + (1 : Int32)) F G) ?_
    intro r2 F2 G2 hK2
    dsimp only
    exact cwj_X2_next_17 F2 G2 (KX.tr KX.rf hK2 rfl rfl)
  · skip
    exact cwj_X2_next_17 F G KX.rf
theorem cwj_X2_fail_20 {fu : Nat} {F0 : PF} {G0 : PG} (F : PF) (G : PG) (hK : KX [11, 14] [] F0 G0 F G) : PP (cb_X2_fail_20 fu F G) (fun _ F' G' => KX [11, 14] [] F0 G0 F' G') := by
  unfold cb_X2_fail_20
  unfold cb_X2_fail_26
  refine PP.ret ?_
  exact (KX.f (k := 11) rfl hK)
theorem cw_X2_fail {fu : Nat} (x1 : Int32) (F : PF) (G : PG) : PP (cf_X2_fail fu x1 F G) (fun _ F' G' => KX [11, 14] [] F G F' G') := by
  unfold cf_X2_fail
  unfold cb_X2_fail_0
  refine PP.ite (fun c_1 => ?_) (fun c_1 => ?_)
  · skip
    unfold cb_X2_fail_7
    exact cwj_X2_fail_20 (fup F 14 (((F 13) * (16 : Int32)) + x1)) G (KX.f (k := 14) rfl KX.rf)
  · skip
    exact cwj_X2_fail_20 F G KX.rf
theorem cwj_X2_expect_26 {fu : Nat} {F0 : PF} {G0 : PG} (F : PF) (G : PG) (hK : KX [9, 11, 12, 13, 14] [] F0 G0 F G) : PP (cb_X2_expect_26 fu F G) (fun _ F' G' => KX [9, 11, 12, 13, 14] [] F0 G0 F' G') := by
  unfold cb_X2_expect_26
  refine PP.ret ?_
  exact hK
theorem cw_X2_expect {fu : Nat} (x1 : Int32) (F : PF) (G : PG) : PP (cf_X2_expect fu x1 F G) (fun _ F' G' => KX [9, 11, 12, 13, 14] [] F G F' G') := by
  unfold cf_X2_expect
  unfold cb_X2_expect_0
  refine PP.ite (fun c_1 => ?_) (fun c_1 => ?_)
  · skip
    unfold cb_X2_expect_8
    refine PP.bind (cw_X2_comeTo ((F 9) + (1 : Int32)) F G) ?_
    intro r2 F2 G2 hK2
    dsimp only
    unfold cb_X2_expect_18
    exact cwj_X2_expect_26 F2 G2 (KX.tr KX.rf hK2 rfl rfl)
  · skip
    unfold cb_X2_expect_21
    refine PP.bind (cw_X2_fail (2 : Int32) F G) ?_
    intro r3 F3 G3 hK3
    dsimp only
    exact cwj_X2_expect_26 F3 G3 (KX.tr KX.rf hK3 rfl rfl)
theorem cw_X2_opens {fu : Nat} (x1 : Int32) (F : PF) (G : PG) : PP (cf_X2_opens fu x1 F G) (fun _ F' G' => KX [9, 10, 11, 12, 13, 14] [] F G F' G') := by
  unfold cf_X2_opens
  unfold cb_X2_opens_0
  refine PP.ite (fun c_1 => ?_) (fun c_1 => ?_)
  · skip
    unfold cb_X2_opens_15
    refine PP.ite (fun c_2 => ?_) (fun c_2 => ?_)
    · skip
      unfold cb_X2_opens_31
      unfold cb_X2_opens_41
      refine PP.bind (cw_X2_comeTo ((F 9) + (1 : Int32)) (fup F 10 ((F 10) + (1 : Int32))) G) ?_
      intro r3 F3 G3 hK3
      dsimp only
      unfold cb_X2_opens_51
      refine PP.ret ?_
      exact (KX.tr (KX.f (k := 10) rfl KX.rf) hK3 rfl rfl)
    · skip
      unfold cb_X2_opens_24
      refine PP.bind (cw_X2_fail (3 : Int32) F G) ?_
      intro r4 F4 G4 hK4
      dsimp only
      unfold cb_X2_opens_29
      refine PP.ret ?_
      exact (KX.tr KX.rf hK4 rfl rfl)
  · skip
    unfold cb_X2_opens_8
    refine PP.bind (cw_X2_fail (2 : Int32) F G) ?_
    intro r5 F5 G5 hK5
    dsimp only
    unfold cb_X2_opens_13
    refine PP.ret ?_
    exact (KX.tr KX.rf hK5 rfl rfl)
theorem cw_X2_closes {fu : Nat} (F : PF) (G : PG) : PP (cf_X2_closes fu F G) (fun _ F' G' => KX [10] [] F G F' G') := by
  unfold cf_X2_closes
  unfold cb_X2_closes_0
  unfold cb_X2_closes_10
  refine PP.ret ?_
  exact (KX.f (k := 10) rfl KX.rf)
theorem cwj_X2_closesWith_36 {fu : Nat} {F0 : PF} {G0 : PG} (F : PF) (G : PG) (hK : KX [9, 10, 11, 12, 13, 14] [] F0 G0 F G) : PP (cb_X2_closesWith_36 fu F G) (fun _ F' G' => KX [9, 10, 11, 12, 13, 14] [] F0 G0 F' G') := by
  unfold cb_X2_closesWith_36
  refine PP.ret ?_
  exact hK
theorem cw_X2_closesWith {fu : Nat} (x1 : Int32) (F : PF) (G : PG) : PP (cf_X2_closesWith fu x1 F G) (fun _ F' G' => KX [9, 10, 11, 12, 13, 14] [] F G F' G') := by
  unfold cf_X2_closesWith
  unfold cb_X2_closesWith_0
  unfold cb_X2_closesWith_10
  refine PP.ite (fun c_1 => ?_) (fun c_1 => ?_)
  · skip
    unfold cb_X2_closesWith_18
    refine PP.bind (cw_X2_comeTo ((F 9) + (1 : Int32)) (fup F 10 ((F 10) - (1 : Int32))) G) ?_
    intro r2 F2 G2 hK2
    dsimp only
    unfold cb_X2_closesWith_28
    exact cwj_X2_closesWith_36 F2 G2 (KX.tr (KX.f (k := 10) rfl KX.rf) hK2 rfl rfl)
  · skip
    unfold cb_X2_closesWith_31
    refine PP.bind (cw_X2_fail (2 : Int32) (fup F 10 ((F 10) - (1 : Int32))) G) ?_
    intro r3 F3 G3 hK3
    dsimp only
    exact cwj_X2_closesWith_36 F3 G3 (KX.tr (KX.f (k := 10) rfl KX.rf) hK3 rfl rfl)
theorem cw_X3_start {fu : Nat} (F : PF) (G : PG) : PP (cf_X3_start fu F G) (fun _ F' G' => KX [21] [] F G F' G') := by
  unfold cf_X3_start
  unfold cb_X3_start_0
  unfold cb_X3_start_5
  refine PP.ret ?_
  exact (KX.f (k := 21) rfl KX.rf)
theorem cw_X5_startConstant {fu : Nat} (F : PF) (G : PG) : PP (cf_X5_startConstant fu F G) (fun _ F' G' => KX [46, 47] [] F G F' G') := by
  unfold cf_X5_startConstant
  unfold cb_X5_startConstant_0
  unfold cb_X5_startConstant_5
  unfold cb_X5_startConstant_10
  refine PP.ret ?_
  exact (KX.f (k := 47) rfl (KX.f (k := 46) rfl KX.rf))
theorem cwj_X5_endsConstant_24 {fu : Nat} {F0 : PF} {G0 : PG} (z0 : Int32) (F : PF) (G : PG) (hK : KX [46] [] F0 G0 F G) : PP (cb_X5_endsConstant_24 fu z0 F G) (fun _ F' G' => KX [46] [] F0 G0 F' G') := by
  unfold cb_X5_endsConstant_24
  refine PP.bz (fun _ => ?_)
  refine PP.ret ?_
  exact hK
theorem cwj_X5_endsConstant_23 {fu : Nat} {F0 : PF} {G0 : PG} (F : PF) (G : PG) (hK : KX [46] [] F0 G0 F G) : PP (cb_X5_endsConstant_23 fu F G) (fun _ F' G' => KX [46] [] F0 G0 F' G') := by
  unfold cb_X5_endsConstant_23
  exact cwj_X5_endsConstant_24 (0 : Int32) F G hK
theorem cw_X5_endsConstant {fu : Nat} (F : PF) (G : PG) : PP (cf_X5_endsConstant fu F G) (fun _ F' G' => KX [46] [] F G F' G') := by
  unfold cf_X5_endsConstant
  unfold cb_X5_endsConstant_0
  unfold cb_X5_endsConstant_5
  refine PP.ite (fun c_1 => ?_) (fun c_1 => ?_)
  · skip
    exact cwj_X5_endsConstant_23 (fup F 46 (0 : Int32)) G (KX.f (k := 46) rfl KX.rf)
  · skip
    unfold cb_X5_endsConstant_12
    refine PP.ite (fun c_2 => ?_) (fun c_2 => ?_)
    · skip
      exact cwj_X5_endsConstant_23 (fup F 46 (0 : Int32)) G (KX.f (k := 46) rfl KX.rf)
    · skip
      unfold cb_X5_endsConstant_19
      exact cwj_X5_endsConstant_24 (1 : Int32) (fup F 46 (0 : Int32)) G (KX.f (k := 46) rfl KX.rf)
theorem cwj_X3_strength_27 {fu : Nat} {F0 : PF} {G0 : PG} (z0 : Int32) (F : PF) (G : PG) (hK : KX [] [] F0 G0 F G) : PP (cb_X3_strength_27 fu z0 F G) (fun _ F' G' => KX [] [] F0 G0 F' G') := by
  unfold cb_X3_strength_27
  refine PP.ret ?_
  exact hK
theorem cwj_X3_strength_17 {fu : Nat} {F0 : PF} {G0 : PG} (F : PF) (G : PG) (hK : KX [] [] F0 G0 F G) : PP (cb_X3_strength_17 fu F G) (fun _ F' G' => KX [] [] F0 G0 F' G') := by
  unfold cb_X3_strength_17
  exact cwj_X3_strength_27 (11 : Int32) F G hK
theorem cw_X3_strength {fu : Nat} (x0 : Int32) (F : PF) (G : PG) : PP (cf_X3_strength fu x0 F G) (fun _ F' G' => KX [] [] F G F' G') := by
  unfold cf_X3_strength
  unfold cb_X3_strength_0
  refine PP.ite (fun c_1 => ?_) (fun c_1 => ?_)
  · skip
    exact cwj_X3_strength_17 F G KX.rf
  · skip
    unfold cb_X3_strength_9
    refine PP.ite (fun c_2 => ?_) (fun c_2 => ?_)
    · skip
      unfold cb_X3_strength_22
      refine PP.ix (fun _ => ?_)
      exact cwj_X3_strength_27 (tb_1 (x0 - (43 : Int32)).toNatClampNeg) F G KX.rf
    · skip
      exact cwj_X3_strength_17 F G KX.rf
theorem cwj_X3_settle_138 {fu : Nat} {F0 : PF} {G0 : PG} (F : PF) (G : PG) (hK : KX [6, 21] [5] F0 G0 F G) : PP (cb_X3_settle_138 fu F G) (fun _ F' G' => KX [6, 21] [5] F0 G0 F' G') := by
  unfold cb_X3_settle_138
  refine PP.ret ?_
  exact hK
theorem cwj_X3_settle_132 {fu : Nat} {F0 : PF} {G0 : PG} (ag_2 : Int32 → Int32 → Int32 → PF → PG → PR) (hag_2 : ∀ (x1 : Int32) (x2 : Int32) (x3 : Int32) (F : PF) (G : PG) (hK : KX [6, 21] [5] F0 G0 F G), PP (ag_2 x1 x2 x3 F G) (fun _ F' G' => KX [6, 21] [5] F0 G0 F' G')) (x1 : Int32) (x2 : Int32) (x3 : Int32) (F : PF) (G : PG) (hK : KX [6, 21] [5] F0 G0 F G) : PP (cb_X3_settle_132 fu ag_2 x1 x2 x3 F G) (fun _ F' G' => KX [6, 21] [5] F0 G0 F' G') := by
  unfold cb_X3_settle_132
  exact hag_2 x1 x2 (x3 + (1 : Int32)) F G hK
theorem cwj_X3_settle_123 {fu : Nat} {F0 : PF} {G0 : PG} (ag_2 : Int32 → Int32 → Int32 → PF → PG → PR) (hag_2 : ∀ (x1 : Int32) (x2 : Int32) (x3 : Int32) (F : PF) (G : PG) (hK : KX [6, 21] [5] F0 G0 F G), PP (ag_2 x1 x2 x3 F G) (fun _ F' G' => KX [6, 21] [5] F0 G0 F' G')) (x1 : Int32) (x2 : Int32) (x3 : Int32) (x4 : Int32) (F : PF) (G : PG) (hK : KX [6, 21] [5] F0 G0 F G) : PP (cb_X3_settle_123 fu ag_2 x1 x2 x3 x4 F G) (fun _ F' G' => KX [6, 21] [5] F0 G0 F' G') := by
  unfold cb_X3_settle_123
  refine PP.bind (cw_X1_add x4 F G) ?_
  intro r1 F1 G1 hK1
  dsimp only
  exact cwj_X3_settle_132 ag_2 hag_2 x1 x2 x3 F1 G1 (KX.tr hK hK1 rfl rfl)
theorem cwj_X3_settle_71 {fu : Nat} {F0 : PF} {G0 : PG} (ag_2 : Int32 → Int32 → Int32 → PF → PG → PR) (hag_2 : ∀ (x1 : Int32) (x2 : Int32) (x3 : Int32) (F : PF) (G : PG) (hK : KX [6, 21] [5] F0 G0 F G), PP (ag_2 x1 x2 x3 F G) (fun _ F' G' => KX [6, 21] [5] F0 G0 F' G')) (x1 : Int32) (x2 : Int32) (x3 : Int32) (x4 : Int32) (F : PF) (G : PG) (hK : KX [6, 21] [5] F0 G0 F G) : PP (cb_X3_settle_71 fu ag_2 x1 x2 x3 x4 F G) (fun _ F' G' => KX [6, 21] [5] F0 G0 F' G') := by
  unfold cb_X3_settle_71
  refine PP.ite (fun c_1 => ?_) (fun c_1 => ?_)
  · skip
    exact cwj_X3_settle_123 ag_2 hag_2 x1 x2 x3 x4 F G hK
  · skip
    unfold cb_X3_settle_78
    unfold cb_X3_settle_88
    refine PP.bind (cw_X1_add (65 : Int32) (fup F 21 ((F 21) - (1 : Int32))) G) ?_
    intro r2 F2 G2 hK2
    dsimp only
    unfold cb_X3_settle_97
    refine PP.ix (fun _ => ?_)
    refine PP.bind (cw_X1_aim (G2 20 (F2 21).toNatClampNeg) (F2 6) F2 G2) ?_
    intro r3 F3 G3 hK3
    dsimp only
    unfold cb_X3_settle_120
    exact cwj_X3_settle_132 ag_2 hag_2 x1 x2 x3 F3 G3 (KX.tr (KX.tr (KX.f (k := 21) rfl hK) hK2 rfl rfl) hK3 rfl rfl)
theorem cwz_X3_settle_2 {fu : Nat} {F0 : PF} {G0 : PG} : ∀ (n : Nat) (x1 : Int32) (x2 : Int32) (x3 : Int32) (F : PF) (G : PG) (hK : KX [6, 21] [5] F0 G0 F G), PP (cl_X3_settle_2 fu n x1 x2 x3 F G) (fun _ F' G' => KX [6, 21] [5] F0 G0 F' G') := by
  intro n
  induction n with
  | zero =>
    intro x1 x2 x3 F G hK
    exact PP.no
  | succ n ihn =>
    intro x1 x2 x3 F G hK
    show PP (cb_X3_settle_2 fu (cl_X3_settle_2 fu n) x1 x2 x3 F G) _
    unfold cb_X3_settle_2
    refine PP.ite (fun c_1 => ?_) (fun c_1 => ?_)
    · skip
      exact cwj_X3_settle_138 F G hK
    · skip
      unfold cb_X3_settle_9
      refine PP.ite (fun c_2 => ?_) (fun c_2 => ?_)
      · skip
        exact cwj_X3_settle_138 F G hK
      · skip
        unfold cb_X3_settle_17
        refine PP.ite (fun c_3 => ?_) (fun c_3 => ?_)
        · skip
          exact cwj_X3_settle_138 F G hK
        · skip
          unfold cb_X3_settle_24
          refine PP.ix (fun _ => ?_)
          refine PP.bind (cw_X3_strength (G 20 ((F 21) - (1 : Int32)).toNatClampNeg) F G) ?_
          intro r4 F4 G4 hK4
          dsimp only
          unfold cb_X3_settle_42
          refine PP.ite (fun c_5 => ?_) (fun c_5 => ?_)
          · skip
            unfold cb_X3_settle_47
            unfold cb_X3_settle_57
            refine PP.ite (fun c_6 => ?_) (fun c_6 => ?_)
            · skip
              exact cwj_X3_settle_71 (cl_X3_settle_2 fu n) ihn x1 x2 x3 (G 20 ((F 21) - (1 : Int32)).toNatClampNeg) (fup F4 21 ((F4 21) - (1 : Int32))) G4 (KX.f (k := 21) rfl (KX.tr hK hK4 rfl rfl))
            · skip
              unfold cb_X3_settle_64
              refine PP.ite (fun c_7 => ?_) (fun c_7 => ?_)
              · skip
                exact cwj_X3_settle_71 (cl_X3_settle_2 fu n) ihn x1 x2 x3 (G 20 ((F 21) - (1 : Int32)).toNatClampNeg) (fup F4 21 ((F4 21) - (1 : Int32))) G4 (KX.f (k := 21) rfl (KX.tr hK hK4 rfl rfl))
              · skip
                exact cwj_X3_settle_123 (cl_X3_settle_2 fu n) ihn x1 x2 x3 (G 20 ((F 21) - (1 : Int32)).toNatClampNeg) (fup F4 21 ((F4 21) - (1 : Int32))) G4 (KX.f (k := 21) rfl (KX.tr hK hK4 rfl rfl))
          · skip
            unfold cb_X3_settle_46
            refine PP.ret ?_
            exact (KX.tr hK hK4 rfl rfl)
theorem cw_X3_settle {fu : Nat} (x1 : Int32) (x2 : Int32) (F : PF) (G : PG) : PP (cf_X3_settle fu x1 x2 F G) (fun _ F' G' => KX [6, 21] [5] F G F' G') := by
  unfold cf_X3_settle
  unfold cb_X3_settle_0
  exact cwz_X3_settle_2 fu x1 x2 (0 : Int32) F G KX.rf
theorem cwj_X3_waits_63 {fu : Nat} {F0 : PF} {G0 : PG} (x1 : Int32) (F : PF) (G : PG) (hK : KX [6, 21] [5, 20] F0 G0 F G) : PP (cb_X3_waits_63 fu x1 F G) (fun _ F' G' => KX [6, 21] [5, 20] F0 G0 F' G') := by
  unfold cb_X3_waits_63
  refine PP.ix (fun _ => ?_)
  unfold cb_X3_waits_73
  unfold cb_X3_waits_83
  refine PP.ret ?_
  exact (KX.f (k := 21) rfl (KX.g (k := 20) rfl hK))
theorem cwj_X3_waits_48 {fu : Nat} {F0 : PF} {G0 : PG} (x1 : Int32) (z0 : Int32) (z2 : Int32) (F : PF) (G : PG) (hK : KX [6, 21] [5, 20] F0 G0 F G) : PP (cb_X3_waits_48 fu x1 z0 z2 F G) (fun _ F' G' => KX [6, 21] [5, 20] F0 G0 F' G') := by
  unfold cb_X3_waits_48
  refine PP.bind (cw_X1_addJump z0 (-1 : Int32) F G) ?_
  intro r1 F1 G1 hK1
  dsimp only
  unfold cb_X3_waits_52
  refine PP.ix (fun _ => ?_)
  unfold cb_X3_waits_53
  exact cwj_X3_waits_63 x1 (fup F1 21 ((F1 21) + (1 : Int32))) (gup G1 20 z2.toNatClampNeg r1) (KX.f (k := 21) rfl (KX.g (k := 20) rfl (KX.tr hK hK1 rfl rfl)))
theorem cwj_X3_waits_23 {fu : Nat} {F0 : PF} {G0 : PG} (x1 : Int32) (F : PF) (G : PG) (hK : KX [6, 21] [5, 20] F0 G0 F G) : PP (cb_X3_waits_23 fu x1 F G) (fun _ F' G' => KX [6, 21] [5, 20] F0 G0 F' G') := by
  unfold cb_X3_waits_23
  refine PP.ite (fun c_1 => ?_) (fun c_1 => ?_)
  · skip
    unfold cb_X3_waits_41
    exact cwj_X3_waits_48 x1 (87 : Int32) (F 21) F G hK
  · skip
    unfold cb_X3_waits_46
    exact cwj_X3_waits_48 x1 (88 : Int32) (F 21) F G hK
theorem cw_X3_waits {fu : Nat} (x1 : Int32) (F : PF) (G : PG) : PP (cf_X3_waits fu x1 F G) (fun _ F' G' => KX [6, 21] [5, 20] F G F' G') := by
  unfold cf_X3_waits
  unfold cb_X3_waits_0
  refine PP.ite (fun c_1 => ?_) (fun c_1 => ?_)
  · skip
    unfold cb_X3_waits_11
    refine PP.ite (fun c_2 => ?_) (fun c_2 => ?_)
    · skip
      exact cwj_X3_waits_23 x1 F G KX.rf
    · skip
      unfold cb_X3_waits_17
      refine PP.ite (fun c_3 => ?_) (fun c_3 => ?_)
      · skip
        exact cwj_X3_waits_23 x1 F G KX.rf
      · skip
        exact cwj_X3_waits_63 x1 F G KX.rf
  · skip
    unfold cb_X3_waits_10
    refine PP.ret ?_
    exact KX.rf
theorem cwj_X3_isAhead_23 {fu : Nat} {F0 : PF} {G0 : PG} (z0 : Int32) (F : PF) (G : PG) (hK : KX [] [] F0 G0 F G) : PP (cb_X3_isAhead_23 fu z0 F G) (fun _ F' G' => KX [] [] F0 G0 F' G') := by
  unfold cb_X3_isAhead_23
  refine PP.bz (fun _ => ?_)
  refine PP.ret ?_
  exact hK
theorem cwj_X3_isAhead_18 {fu : Nat} {F0 : PF} {G0 : PG} (F : PF) (G : PG) (hK : KX [] [] F0 G0 F G) : PP (cb_X3_isAhead_18 fu F G) (fun _ F' G' => KX [] [] F0 G0 F' G') := by
  unfold cb_X3_isAhead_18
  exact cwj_X3_isAhead_23 (1 : Int32) F G hK
theorem cw_X3_isAhead {fu : Nat} (x0 : Int32) (F : PF) (G : PG) : PP (cf_X3_isAhead fu x0 F G) (fun _ F' G' => KX [] [] F G F' G') := by
  unfold cf_X3_isAhead
  unfold cb_X3_isAhead_0
  refine PP.ite (fun c_1 => ?_) (fun c_1 => ?_)
  · skip
    exact cwj_X3_isAhead_18 F G KX.rf
  · skip
    unfold cb_X3_isAhead_6
    refine PP.ite (fun c_2 => ?_) (fun c_2 => ?_)
    · skip
      exact cwj_X3_isAhead_18 F G KX.rf
    · skip
      unfold cb_X3_isAhead_12
      refine PP.ite (fun c_3 => ?_) (fun c_3 => ?_)
      · skip
        exact cwj_X3_isAhead_18 F G KX.rf
      · skip
        unfold cb_X3_isAhead_22
        exact cwj_X3_isAhead_23 (0 : Int32) F G KX.rf
theorem cwj_X5_note_19 {fu : Nat} {F0 : PF} {G0 : PG} (F : PF) (G : PG) (hK : KX [43, 44, 47] [] F0 G0 F G) : PP (cb_X5_note_19 fu F G) (fun _ F' G' => KX [43, 44, 47] [] F0 G0 F' G') := by
  unfold cb_X5_note_19
  refine PP.ret ?_
  exact hK
theorem cwj_X5_note_59 {fu : Nat} {F0 : PF} {G0 : PG} (F : PF) (G : PG) (hK : KX [43, 44, 47] [] F0 G0 F G) : PP (cb_X5_note_59 fu F G) (fun _ F' G' => KX [43, 44, 47] [] F0 G0 F' G') := by
  unfold cb_X5_note_59
  refine PP.ret ?_
  exact hK
theorem cwj_X5_note_49 {fu : Nat} {F0 : PF} {G0 : PG} (x1 : Int32) (x2 : Int32) (F : PF) (G : PG) (hK : KX [43, 44, 47] [] F0 G0 F G) : PP (cb_X5_note_49 fu x1 x2 F G) (fun _ F' G' => KX [43, 44, 47] [] F0 G0 F' G') := by
  unfold cb_X5_note_49
  unfold cb_X5_note_54
  exact cwj_X5_note_59 (fup (fup F 43 x2) 44 x1) G (KX.f (k := 44) rfl (KX.f (k := 43) rfl hK))
theorem cw_X5_note {fu : Nat} (x1 : Int32) (x2 : Int32) (F : PF) (G : PG) : PP (cf_X5_note fu x1 x2 F G) (fun _ F' G' => KX [43, 44, 47] [] F G F' G') := by
  unfold cf_X5_note
  unfold cb_X5_note_0
  refine PP.ite (fun c_1 => ?_) (fun c_1 => ?_)
  · skip
    exact cwj_X5_note_19 F G KX.rf
  · skip
    unfold cb_X5_note_7
    refine PP.ite (fun c_2 => ?_) (fun c_2 => ?_)
    · skip
      exact cwj_X5_note_19 F G KX.rf
    · skip
      unfold cb_X5_note_11
      refine PP.ite (fun c_3 => ?_) (fun c_3 => ?_)
      · skip
        unfold cb_X5_note_20
        unfold cb_X5_note_25
        refine PP.ite (fun c_4 => ?_) (fun c_4 => ?_)
        · skip
          exact cwj_X5_note_49 x1 x2 (fup F 47 (0 : Int32)) G (KX.f (k := 47) rfl KX.rf)
        · skip
          unfold cb_X5_note_33
          refine PP.ite (fun c_5 => ?_) (fun c_5 => ?_)
          · skip
            unfold cb_X5_note_41
            refine PP.ite (fun c_6 => ?_) (fun c_6 => ?_)
            · skip
              exact cwj_X5_note_59 (fup F 47 (0 : Int32)) G (KX.f (k := 47) rfl KX.rf)
            · skip
              exact cwj_X5_note_49 x1 x2 (fup F 47 (0 : Int32)) G (KX.f (k := 47) rfl KX.rf)
          · skip
            exact cwj_X5_note_59 (fup F 47 (0 : Int32)) G (KX.f (k := 47) rfl KX.rf)
      · skip
        exact cwj_X5_note_19 F G KX.rf
theorem cwj_X8_has_17 {fu : Nat} {F0 : PF} {G0 : PG} (z0 : Int32) (F : PF) (G : PG) (hK : KX [] [] F0 G0 F G) : PP (cb_X8_has_17 fu z0 F G) (fun _ F' G' => KX [] [] F0 G0 F' G') := by
  unfold cb_X8_has_17
  refine PP.bz (fun _ => ?_)
  refine PP.ret ?_
  exact hK
theorem cwj_X8_has_16 {fu : Nat} {F0 : PF} {G0 : PG} (F : PF) (G : PG) (hK : KX [] [] F0 G0 F G) : PP (cb_X8_has_16 fu F G) (fun _ F' G' => KX [] [] F0 G0 F' G') := by
  unfold cb_X8_has_16
  exact cwj_X8_has_17 (0 : Int32) F G hK
theorem cw_X8_has {fu : Nat} (x1 : Int32) (F : PF) (G : PG) : PP (cf_X8_has fu x1 F G) (fun _ F' G' => KX [] [] F G F' G') := by
  unfold cf_X8_has
  unfold cb_X8_has_0
  refine PP.ite (fun c_1 => ?_) (fun c_1 => ?_)
  · skip
    exact cwj_X8_has_16 F G KX.rf
  · skip
    unfold cb_X8_has_4
    refine PP.ite (fun c_2 => ?_) (fun c_2 => ?_)
    · skip
      exact cwj_X8_has_16 F G KX.rf
    · skip
      unfold cb_X8_has_12
      exact cwj_X8_has_17 (1 : Int32) F G KX.rf
theorem cwj_X8_formalKind_22 {fu : Nat} {F0 : PF} {G0 : PG} (F : PF) (G : PG) (hK : KX [] [] F0 G0 F G) : PP (cb_X8_formalKind_22 fu F G) (fun _ F' G' => KX [] [] F0 G0 F' G') := by
  unfold cb_X8_formalKind_22
  refine PP.ret ?_
  exact hK
theorem cwj_X8_formalKind_50 {fu : Nat} {F0 : PF} {G0 : PG} (z0 : Int32) (F : PF) (G : PG) (hK : KX [] [] F0 G0 F G) : PP (cb_X8_formalKind_50 fu z0 F G) (fun _ F' G' => KX [] [] F0 G0 F' G') := by
  unfold cb_X8_formalKind_50
  refine PP.ret ?_
  exact hK
theorem cw_X8_formalKind {fu : Nat} (x1 : Int32) (x2 : Int32) (F : PF) (G : PG) : PP (cf_X8_formalKind fu x1 x2 F G) (fun _ F' G' => KX [] [] F G F' G') := by
  unfold cf_X8_formalKind
  unfold cb_X8_formalKind_0
  refine PP.bind (cw_X8_has x1 F G) ?_
  intro r1 F1 G1 hK1
  dsimp only
  unfold cb_X8_formalKind_5
  refine PP.ite (fun c_2 => ?_) (fun c_2 => ?_)
  · skip
    exact cwj_X8_formalKind_22 F1 G1 (KX.tr KX.rf hK1 rfl rfl)
  · skip
    unfold cb_X8_formalKind_8
    refine PP.ite (fun c_3 => ?_) (fun c_3 => ?_)
    · skip
      exact cwj_X8_formalKind_22 F1 G1 (KX.tr KX.rf hK1 rfl rfl)
    · skip
      unfold cb_X8_formalKind_12
      refine PP.ix (fun _ => ?_)
      refine PP.ite (fun c_4 => ?_) (fun c_4 => ?_)
      · skip
        unfold cb_X8_formalKind_24
        refine PP.ix (fun _ => ?_)
        refine PP.ite (fun c_5 => ?_) (fun c_5 => ?_)
        · skip
          unfold cb_X8_formalKind_49
          exact cwj_X8_formalKind_50 (-1 : Int32) F1 G1 (KX.tr KX.rf hK1 rfl rfl)
        · skip
          unfold cb_X8_formalKind_40
          refine PP.ix (fun _ => ?_)
          exact cwj_X8_formalKind_50 (G1 84 ((G1 83 x1.toNatClampNeg) + x2).toNatClampNeg) F1 G1 (KX.tr KX.rf hK1 rfl rfl)
      · skip
        exact cwj_X8_formalKind_22 F1 G1 (KX.tr KX.rf hK1 rfl rfl)
theorem cwj_X5_kind_22 {fu : Nat} {F0 : PF} {G0 : PG} (z0 : Int32) (F : PF) (G : PG) (hK : KX [] [] F0 G0 F G) : PP (cb_X5_kind_22 fu z0 F G) (fun _ F' G' => KX [] [] F0 G0 F' G') := by
  unfold cb_X5_kind_22
  refine PP.ret ?_
  exact hK
theorem cwj_X5_kind_12 {fu : Nat} {F0 : PF} {G0 : PG} (F : PF) (G : PG) (hK : KX [] [] F0 G0 F G) : PP (cb_X5_kind_12 fu F G) (fun _ F' G' => KX [] [] F0 G0 F' G') := by
  unfold cb_X5_kind_12
  exact cwj_X5_kind_22 (-1 : Int32) F G hK
theorem cw_X5_kind {fu : Nat} (x1 : Int32) (F : PF) (G : PG) : PP (cf_X5_kind fu x1 F G) (fun _ F' G' => KX [] [] F G F' G') := by
  unfold cf_X5_kind
  unfold cb_X5_kind_0
  refine PP.ite (fun c_1 => ?_) (fun c_1 => ?_)
  · skip
    exact cwj_X5_kind_12 F G KX.rf
  · skip
    unfold cb_X5_kind_4
    refine PP.ite (fun c_2 => ?_) (fun c_2 => ?_)
    · skip
      unfold cb_X5_kind_16
      refine PP.ix (fun _ => ?_)
      exact cwj_X5_kind_22 (G 35 x1.toNatClampNeg) F G KX.rf
    · skip
      exact cwj_X5_kind_12 F G KX.rf
theorem cwj_X5_value_22 {fu : Nat} {F0 : PF} {G0 : PG} (z0 : Int32) (F : PF) (G : PG) (hK : KX [] [] F0 G0 F G) : PP (cb_X5_value_22 fu z0 F G) (fun _ F' G' => KX [] [] F0 G0 F' G') := by
  unfold cb_X5_value_22
  refine PP.ret ?_
  exact hK
theorem cwj_X5_value_12 {fu : Nat} {F0 : PF} {G0 : PG} (F : PF) (G : PG) (hK : KX [] [] F0 G0 F G) : PP (cb_X5_value_12 fu F G) (fun _ F' G' => KX [] [] F0 G0 F' G') := by
  unfold cb_X5_value_12
  exact cwj_X5_value_22 (0 : Int32) F G hK
theorem cw_X5_value {fu : Nat} (x1 : Int32) (F : PF) (G : PG) : PP (cf_X5_value fu x1 F G) (fun _ F' G' => KX [] [] F G F' G') := by
  unfold cf_X5_value
  unfold cb_X5_value_0
  refine PP.ite (fun c_1 => ?_) (fun c_1 => ?_)
  · skip
    exact cwj_X5_value_12 F G KX.rf
  · skip
    unfold cb_X5_value_4
    refine PP.ite (fun c_2 => ?_) (fun c_2 => ?_)
    · skip
      unfold cb_X5_value_16
      refine PP.ix (fun _ => ?_)
      exact cwj_X5_value_22 (G 37 x1.toNatClampNeg) F G KX.rf
    · skip
      exact cwj_X5_value_12 F G KX.rf
theorem cwj_X5_isGlobal_26 {fu : Nat} {F0 : PF} {G0 : PG} (z0 : Int32) (F : PF) (G : PG) (hK : KX [] [] F0 G0 F G) : PP (cb_X5_isGlobal_26 fu z0 F G) (fun _ F' G' => KX [] [] F0 G0 F' G') := by
  unfold cb_X5_isGlobal_26
  refine PP.bz (fun _ => ?_)
  refine PP.ret ?_
  exact hK
theorem cwj_X5_isGlobal_25 {fu : Nat} {F0 : PF} {G0 : PG} (F : PF) (G : PG) (hK : KX [] [] F0 G0 F G) : PP (cb_X5_isGlobal_25 fu F G) (fun _ F' G' => KX [] [] F0 G0 F' G') := by
  unfold cb_X5_isGlobal_25
  exact cwj_X5_isGlobal_26 (0 : Int32) F G hK
theorem cw_X5_isGlobal {fu : Nat} (x1 : Int32) (F : PF) (G : PG) : PP (cf_X5_isGlobal fu x1 F G) (fun _ F' G' => KX [] [] F G F' G') := by
  unfold cf_X5_isGlobal
  unfold cb_X5_isGlobal_0
  refine PP.ite (fun c_1 => ?_) (fun c_1 => ?_)
  · skip
    exact cwj_X5_isGlobal_25 F G KX.rf
  · skip
    unfold cb_X5_isGlobal_4
    refine PP.ite (fun c_2 => ?_) (fun c_2 => ?_)
    · skip
      exact cwj_X5_isGlobal_25 F G KX.rf
    · skip
      unfold cb_X5_isGlobal_12
      refine PP.ix (fun _ => ?_)
      refine PP.ite (fun c_3 => ?_) (fun c_3 => ?_)
      · skip
        unfold cb_X5_isGlobal_21
        exact cwj_X5_isGlobal_26 (1 : Int32) F G KX.rf
      · skip
        exact cwj_X5_isGlobal_25 F G KX.rf
theorem cwj_X5_size_22 {fu : Nat} {F0 : PF} {G0 : PG} (z0 : Int32) (F : PF) (G : PG) (hK : KX [] [] F0 G0 F G) : PP (cb_X5_size_22 fu z0 F G) (fun _ F' G' => KX [] [] F0 G0 F' G') := by
  unfold cb_X5_size_22
  refine PP.ret ?_
  exact hK
theorem cwj_X5_size_12 {fu : Nat} {F0 : PF} {G0 : PG} (F : PF) (G : PG) (hK : KX [] [] F0 G0 F G) : PP (cb_X5_size_12 fu F G) (fun _ F' G' => KX [] [] F0 G0 F' G') := by
  unfold cb_X5_size_12
  exact cwj_X5_size_22 (0 : Int32) F G hK
theorem cw_X5_size {fu : Nat} (x1 : Int32) (F : PF) (G : PG) : PP (cf_X5_size fu x1 F G) (fun _ F' G' => KX [] [] F G F' G') := by
  unfold cf_X5_size
  unfold cb_X5_size_0
  refine PP.ite (fun c_1 => ?_) (fun c_1 => ?_)
  · skip
    exact cwj_X5_size_12 F G KX.rf
  · skip
    unfold cb_X5_size_4
    refine PP.ite (fun c_2 => ?_) (fun c_2 => ?_)
    · skip
      unfold cb_X5_size_16
      refine PP.ix (fun _ => ?_)
      exact cwj_X5_size_22 (G 38 x1.toNatClampNeg) F G KX.rf
    · skip
      exact cwj_X5_size_12 F G KX.rf
theorem cwj_X3_pass_48 {fu : Nat} {F0 : PF} {G0 : PG} (x1 : Int32) (z0 : Int32) (F : PF) (G : PG) (hK : KX [6] [5] F0 G0 F G) : PP (cb_X3_pass_48 fu x1 z0 F G) (fun _ F' G' => KX [6] [5] F0 G0 F' G') := by
  unfold cb_X3_pass_48
  refine PP.bind (cw_X5_value x1 F G) ?_
  intro r1 F1 G1 hK1
  dsimp only
  unfold cb_X3_pass_56
  refine PP.bind (cw_X1_addPair z0 r1 F1 G1) ?_
  intro r2 F2 G2 hK2
  dsimp only
  unfold cb_X3_pass_59
  refine PP.bind (cw_X5_size x1 F2 G2) ?_
  intro r3 F3 G3 hK3
  dsimp only
  unfold cb_X3_pass_71
  refine PP.bind (cw_X1_add r3 F3 G3) ?_
  intro r4 F4 G4 hK4
  dsimp only
  unfold cb_X3_pass_74
  refine PP.ret ?_
  exact (KX.tr (KX.tr (KX.tr (KX.tr hK hK1 rfl rfl) hK2 rfl rfl) hK3 rfl rfl) hK4 rfl rfl)
theorem cwj_X3_pass_16 {fu : Nat} {F0 : PF} {G0 : PG} (x1 : Int32) (z0 : Int32) (F : PF) (G : PG) (hK : KX [6] [5] F0 G0 F G) : PP (cb_X3_pass_16 fu x1 z0 F G) (fun _ F' G' => KX [6] [5] F0 G0 F' G') := by
  unfold cb_X3_pass_16
  refine PP.ite (fun c_1 => ?_) (fun c_1 => ?_)
  · skip
    unfold cb_X3_pass_30
    refine PP.bind (cw_X5_isGlobal x1 F G) ?_
    intro r2 F2 G2 hK2
    dsimp only
    unfold cb_X3_pass_38
    refine PP.ite (fun c_3 => ?_) (fun c_3 => ?_)
    · skip
      unfold cb_X3_pass_46
      exact cwj_X3_pass_48 x1 (82 : Int32) F2 G2 (KX.tr hK hK2 rfl rfl)
    · skip
      unfold cb_X3_pass_41
      exact cwj_X3_pass_48 x1 (81 : Int32) F2 G2 (KX.tr hK hK2 rfl rfl)
  · skip
    unfold cb_X3_pass_25
    exact cwj_X3_pass_48 x1 (83 : Int32) F G hK
theorem cw_X3_pass {fu : Nat} (x1 : Int32) (F : PF) (G : PG) : PP (cf_X3_pass fu x1 F G) (fun _ F' G' => KX [6] [5] F G F' G') := by
  unfold cf_X3_pass
  unfold cb_X3_pass_0
  refine PP.bind (cw_X5_size x1 F G) ?_
  intro r1 F1 G1 hK1
  dsimp only
  unfold cb_X3_pass_8
  refine PP.ite (fun c_2 => ?_) (fun c_2 => ?_)
  · skip
    unfold cb_X3_pass_11
    exact cwj_X3_pass_16 x1 (1 : Int32) F1 G1 (KX.tr KX.rf hK1 rfl rfl)
  · skip
    unfold cb_X3_pass_15
    exact cwj_X3_pass_16 x1 (0 : Int32) F1 G1 (KX.tr KX.rf hK1 rfl rfl)
theorem cwj_X5_wantArray_15 {fu : Nat} {F0 : PF} {G0 : PG} (F : PF) (G : PG) (hK : KX [43, 44, 47] [] F0 G0 F G) : PP (cb_X5_wantArray_15 fu F G) (fun _ F' G' => KX [43, 44, 47] [] F0 G0 F' G') := by
  unfold cb_X5_wantArray_15
  refine PP.ret ?_
  exact hK
theorem cw_X5_wantArray {fu : Nat} (x1 : Int32) (x2 : Int32) (x3 : Int32) (F : PF) (G : PG) : PP (cf_X5_wantArray fu x1 x2 x3 F G) (fun _ F' G' => KX [43, 44, 47] [] F G F' G') := by
  unfold cf_X5_wantArray
  unfold cb_X5_wantArray_0
  refine PP.bind (cw_X5_kind x1 F G) ?_
  intro r1 F1 G1 hK1
  dsimp only
  unfold cb_X5_wantArray_5
  refine PP.ite (fun c_2 => ?_) (fun c_2 => ?_)
  · skip
    exact cwj_X5_wantArray_15 F1 G1 (KX.tr KX.rf hK1 rfl rfl)
  · skip
    unfold cb_X5_wantArray_9
    refine PP.bind (cw_X5_note (2 : Int32) x2 F1 G1) ?_
    intro r3 F3 G3 hK3
    dsimp only
    exact cwj_X5_wantArray_15 F3 G3 (KX.tr (KX.tr KX.rf hK1 rfl rfl) hK3 rfl rfl)
theorem cwj_X5_known_21 {fu : Nat} {F0 : PF} {G0 : PG} (z0 : Int32) (F : PF) (G : PG) (hK : KX [] [] F0 G0 F G) : PP (cb_X5_known_21 fu z0 F G) (fun _ F' G' => KX [] [] F0 G0 F' G') := by
  unfold cb_X5_known_21
  refine PP.ret ?_
  exact hK
theorem cwj_X5_known_11 {fu : Nat} {F0 : PF} {G0 : PG} (F : PF) (G : PG) (hK : KX [] [] F0 G0 F G) : PP (cb_X5_known_11 fu F G) (fun _ F' G' => KX [] [] F0 G0 F' G') := by
  unfold cb_X5_known_11
  exact cwj_X5_known_21 (-1 : Int32) F G hK
theorem cw_X5_known {fu : Nat} (x1 : Int32) (F : PF) (G : PG) : PP (cf_X5_known fu x1 F G) (fun _ F' G' => KX [] [] F G F' G') := by
  unfold cf_X5_known
  unfold cb_X5_known_0
  refine PP.ite (fun c_1 => ?_) (fun c_1 => ?_)
  · skip
    exact cwj_X5_known_11 F G KX.rf
  · skip
    unfold cb_X5_known_4
    refine PP.ite (fun c_2 => ?_) (fun c_2 => ?_)
    · skip
      unfold cb_X5_known_15
      refine PP.ix (fun _ => ?_)
      exact cwj_X5_known_21 (G 40 x1.toNatClampNeg) F G KX.rf
    · skip
      exact cwj_X5_known_11 F G KX.rf
theorem cwj_X5_meant_26 {fu : Nat} {F0 : PF} {G0 : PG} (x3 : Int32) (F : PF) (G : PG) (hK : KX [43, 44, 47] [] F0 G0 F G) : PP (cb_X5_meant_26 fu x3 F G) (fun _ F' G' => KX [43, 44, 47] [] F0 G0 F' G') := by
  unfold cb_X5_meant_26
  refine PP.ret ?_
  exact hK
theorem cw_X5_meant {fu : Nat} (x1 : Int32) (x2 : Int32) (F : PF) (G : PG) : PP (cf_X5_meant fu x1 x2 F G) (fun _ F' G' => KX [43, 44, 47] [] F G F' G') := by
  unfold cf_X5_meant
  unfold cb_X5_meant_0
  refine PP.ite (fun c_1 => ?_) (fun c_1 => ?_)
  · skip
    unfold cb_X5_meant_7
    refine PP.ret ?_
    exact KX.rf
  · skip
    unfold cb_X5_meant_9
    refine PP.bind (cw_X5_known x1 F G) ?_
    intro r2 F2 G2 hK2
    dsimp only
    unfold cb_X5_meant_14
    refine PP.ite (fun c_3 => ?_) (fun c_3 => ?_)
    · skip
      unfold cb_X5_meant_20
      refine PP.bind (cw_X5_note (0 : Int32) x2 F2 G2) ?_
      intro r4 F4 G4 hK4
      dsimp only
      exact cwj_X5_meant_26 r2 F4 G4 (KX.tr (KX.tr KX.rf hK2 rfl rfl) hK4 rfl rfl)
    · skip
      exact cwj_X5_meant_26 r2 F2 G2 (KX.tr KX.rf hK2 rfl rfl)
theorem cwj_X8_gives_27 {fu : Nat} {F0 : PF} {G0 : PG} (z0 : Int32) (F : PF) (G : PG) (hK : KX [] [] F0 G0 F G) : PP (cb_X8_gives_27 fu z0 F G) (fun _ F' G' => KX [] [] F0 G0 F' G') := by
  unfold cb_X8_gives_27
  refine PP.bz (fun _ => ?_)
  refine PP.ret ?_
  exact hK
theorem cwj_X8_gives_26 {fu : Nat} {F0 : PF} {G0 : PG} (F : PF) (G : PG) (hK : KX [] [] F0 G0 F G) : PP (cb_X8_gives_26 fu F G) (fun _ F' G' => KX [] [] F0 G0 F' G') := by
  unfold cb_X8_gives_26
  exact cwj_X8_gives_27 (0 : Int32) F G hK
theorem cw_X8_gives {fu : Nat} (x1 : Int32) (F : PF) (G : PG) : PP (cf_X8_gives fu x1 F G) (fun _ F' G' => KX [] [] F G F' G') := by
  unfold cf_X8_gives
  unfold cb_X8_gives_0
  refine PP.ite (fun c_1 => ?_) (fun c_1 => ?_)
  · skip
    exact cwj_X8_gives_26 F G KX.rf
  · skip
    unfold cb_X8_gives_4
    refine PP.ite (fun c_2 => ?_) (fun c_2 => ?_)
    · skip
      exact cwj_X8_gives_26 F G KX.rf
    · skip
      unfold cb_X8_gives_12
      refine PP.ix (fun _ => ?_)
      refine PP.ite (fun c_3 => ?_) (fun c_3 => ?_)
      · skip
        unfold cb_X8_gives_22
        exact cwj_X8_gives_27 (1 : Int32) F G KX.rf
      · skip
        exact cwj_X8_gives_26 F G KX.rf
theorem cwj_X5_fits_16 {fu : Nat} {F0 : PF} {G0 : PG} (z0 : Int32) (F : PF) (G : PG) (hK : KX [] [] F0 G0 F G) : PP (cb_X5_fits_16 fu z0 F G) (fun _ F' G' => KX [] [] F0 G0 F' G') := by
  unfold cb_X5_fits_16
  refine PP.bz (fun _ => ?_)
  refine PP.ret ?_
  exact hK
theorem cwj_X5_fits_51 {fu : Nat} {F0 : PF} {G0 : PG} (z0 : Int32) (F : PF) (G : PG) (hK : KX [] [] F0 G0 F G) : PP (cb_X5_fits_51 fu z0 F G) (fun _ F' G' => KX [] [] F0 G0 F' G') := by
  unfold cb_X5_fits_51
  refine PP.bz (fun _ => ?_)
  refine PP.ret ?_
  exact hK
theorem cwj_X5_fits_33 {fu : Nat} {F0 : PF} {G0 : PG} (F : PF) (G : PG) (hK : KX [] [] F0 G0 F G) : PP (cb_X5_fits_33 fu F G) (fun _ F' G' => KX [] [] F0 G0 F' G') := by
  unfold cb_X5_fits_33
  exact cwj_X5_fits_51 (1 : Int32) F G hK
theorem cw_X5_fits {fu : Nat} (x0 : Int32) (x1 : Int32) (F : PF) (G : PG) : PP (cf_X5_fits fu x0 x1 F G) (fun _ F' G' => KX [] [] F G F' G') := by
  unfold cf_X5_fits
  unfold cb_X5_fits_0
  refine PP.ite (fun c_1 => ?_) (fun c_1 => ?_)
  · skip
    unfold cb_X5_fits_6
    refine PP.ite (fun c_2 => ?_) (fun c_2 => ?_)
    · skip
      unfold cb_X5_fits_11
      exact cwj_X5_fits_16 (1 : Int32) F G KX.rf
    · skip
      unfold cb_X5_fits_15
      exact cwj_X5_fits_16 (0 : Int32) F G KX.rf
  · skip
    unfold cb_X5_fits_17
    refine PP.ite (fun c_3 => ?_) (fun c_3 => ?_)
    · skip
      unfold cb_X5_fits_23
      refine PP.ite (fun c_4 => ?_) (fun c_4 => ?_)
      · skip
        exact cwj_X5_fits_33 F G KX.rf
      · skip
        unfold cb_X5_fits_28
        refine PP.ite (fun c_5 => ?_) (fun c_5 => ?_)
        · skip
          exact cwj_X5_fits_33 F G KX.rf
        · skip
          unfold cb_X5_fits_37
          exact cwj_X5_fits_51 (0 : Int32) F G KX.rf
    · skip
      unfold cb_X5_fits_41
      refine PP.ite (fun c_6 => ?_) (fun c_6 => ?_)
      · skip
        unfold cb_X5_fits_46
        exact cwj_X5_fits_51 (1 : Int32) F G KX.rf
      · skip
        unfold cb_X5_fits_50
        exact cwj_X5_fits_51 (0 : Int32) F G KX.rf
theorem cwj_X5_wantValue_104 {fu : Nat} {F0 : PF} {G0 : PG} (F : PF) (G : PG) (hK : KX [43, 44, 47] [] F0 G0 F G) : PP (cb_X5_wantValue_104 fu F G) (fun _ F' G' => KX [43, 44, 47] [] F0 G0 F' G') := by
  unfold cb_X5_wantValue_104
  refine PP.ret ?_
  exact hK
theorem cwj_X5_wantValue_76 {fu : Nat} {F0 : PF} {G0 : PG} (x1 : Int32) (x2 : Int32) (x4 : Int32) (F : PF) (G : PG) (hK : KX [43, 44, 47] [] F0 G0 F G) : PP (cb_X5_wantValue_76 fu x1 x2 x4 F G) (fun _ F' G' => KX [43, 44, 47] [] F0 G0 F' G') := by
  unfold cb_X5_wantValue_76
  refine PP.ite (fun c_1 => ?_) (fun c_1 => ?_)
  · skip
    unfold cb_X5_wantValue_82
    refine PP.ix (fun _ => ?_)
    refine PP.bind (cw_X8_gives (G 37 x1.toNatClampNeg) F G) ?_
    intro r2 F2 G2 hK2
    dsimp only
    unfold cb_X5_wantValue_95
    refine PP.ite (fun c_3 => ?_) (fun c_3 => ?_)
    · skip
      unfold cb_X5_wantValue_98
      refine PP.bind (cw_X5_note (5 : Int32) x2 F2 G2) ?_
      intro r4 F4 G4 hK4
      dsimp only
      exact cwj_X5_wantValue_104 F4 G4 (KX.tr (KX.tr hK hK2 rfl rfl) hK4 rfl rfl)
    · skip
      exact cwj_X5_wantValue_104 F2 G2 (KX.tr hK hK2 rfl rfl)
  · skip
    exact cwj_X5_wantValue_104 F G hK
theorem cwj_X5_wantValue_63 {fu : Nat} {F0 : PF} {G0 : PG} (x1 : Int32) (x2 : Int32) (x3 : Int32) (x4 : Int32) (z0 : Int32) (F : PF) (G : PG) (hK : KX [43, 44, 47] [] F0 G0 F G) : PP (cb_X5_wantValue_63 fu x1 x2 x3 x4 z0 F G) (fun _ F' G' => KX [43, 44, 47] [] F0 G0 F' G') := by
  unfold cb_X5_wantValue_63
  refine PP.bind (cw_X5_fits z0 x3 F G) ?_
  intro r1 F1 G1 hK1
  dsimp only
  unfold cb_X5_wantValue_67
  refine PP.ite (fun c_2 => ?_) (fun c_2 => ?_)
  · skip
    unfold cb_X5_wantValue_70
    refine PP.bind (cw_X5_note (4 : Int32) x2 F1 G1) ?_
    intro r3 F3 G3 hK3
    dsimp only
    exact cwj_X5_wantValue_76 x1 x2 x4 F3 G3 (KX.tr (KX.tr hK hK1 rfl rfl) hK3 rfl rfl)
  · skip
    exact cwj_X5_wantValue_76 x1 x2 x4 F1 G1 (KX.tr hK hK1 rfl rfl)
theorem cwj_X5_wantValue_45 {fu : Nat} {F0 : PF} {G0 : PG} (x1 : Int32) (x2 : Int32) (x3 : Int32) (x4 : Int32) (F : PF) (G : PG) (hK : KX [43, 44, 47] [] F0 G0 F G) : PP (cb_X5_wantValue_45 fu x1 x2 x3 x4 F G) (fun _ F' G' => KX [43, 44, 47] [] F0 G0 F' G') := by
  unfold cb_X5_wantValue_45
  refine PP.ite (fun c_1 => ?_) (fun c_1 => ?_)
  · skip
    unfold cb_X5_wantValue_52
    refine PP.ite (fun c_2 => ?_) (fun c_2 => ?_)
    · skip
      unfold cb_X5_wantValue_57
      exact cwj_X5_wantValue_63 x1 x2 x3 x4 (1 : Int32) F G hK
    · skip
      unfold cb_X5_wantValue_61
      exact cwj_X5_wantValue_63 x1 x2 x3 x4 x4 F G hK
  · skip
    exact cwj_X5_wantValue_76 x1 x2 x4 F G hK
theorem cwj_X5_wantValue_38 {fu : Nat} {F0 : PF} {G0 : PG} (x1 : Int32) (x2 : Int32) (x3 : Int32) (x4 : Int32) (F : PF) (G : PG) (hK : KX [43, 44, 47] [] F0 G0 F G) : PP (cb_X5_wantValue_38 fu x1 x2 x3 x4 F G) (fun _ F' G' => KX [43, 44, 47] [] F0 G0 F' G') := by
  unfold cb_X5_wantValue_38
  refine PP.bind (cw_X5_note (7 : Int32) x2 F G) ?_
  intro r1 F1 G1 hK1
  dsimp only
  exact cwj_X5_wantValue_45 x1 x2 x3 x4 F1 G1 (KX.tr hK hK1 rfl rfl)
theorem cw_X5_wantValue {fu : Nat} (x1 : Int32) (x2 : Int32) (x3 : Int32) (F : PF) (G : PG) : PP (cf_X5_wantValue fu x1 x2 x3 F G) (fun _ F' G' => KX [43, 44, 47] [] F G F' G') := by
  unfold cf_X5_wantValue
  unfold cb_X5_wantValue_0
  refine PP.bind (cw_X5_kind x1 F G) ?_
  intro r1 F1 G1 hK1
  dsimp only
  unfold cb_X5_wantValue_5
  refine PP.ite (fun c_2 => ?_) (fun c_2 => ?_)
  · skip
    unfold cb_X5_wantValue_13
    refine PP.ret ?_
    exact (KX.tr KX.rf hK1 rfl rfl)
  · skip
    unfold cb_X5_wantValue_14
    refine PP.ite (fun c_3 => ?_) (fun c_3 => ?_)
    · skip
      exact cwj_X5_wantValue_45 x1 x2 x3 r1 F1 G1 (KX.tr KX.rf hK1 rfl rfl)
    · skip
      unfold cb_X5_wantValue_21
      refine PP.ite (fun c_4 => ?_) (fun c_4 => ?_)
      · skip
        unfold cb_X5_wantValue_26
        refine PP.ite (fun c_5 => ?_) (fun c_5 => ?_)
        · skip
          exact cwj_X5_wantValue_38 x1 x2 x3 r1 F1 G1 (KX.tr KX.rf hK1 rfl rfl)
        · skip
          unfold cb_X5_wantValue_32
          refine PP.ite (fun c_6 => ?_) (fun c_6 => ?_)
          · skip
            exact cwj_X5_wantValue_38 x1 x2 x3 r1 F1 G1 (KX.tr KX.rf hK1 rfl rfl)
          · skip
            exact cwj_X5_wantValue_45 x1 x2 x3 r1 F1 G1 (KX.tr KX.rf hK1 rfl rfl)
      · skip
        exact cwj_X5_wantValue_38 x1 x2 x3 r1 F1 G1 (KX.tr KX.rf hK1 rfl rfl)
theorem cwj_X3_fetch_23 {fu : Nat} {F0 : PF} {G0 : PG} (z0 : Int32) (F : PF) (G : PG) (hK : KX [6] [5] F0 G0 F G) : PP (cb_X3_fetch_23 fu z0 F G) (fun _ F' G' => KX [6] [5] F0 G0 F' G') := by
  unfold cb_X3_fetch_23
  refine PP.bind (cw_X1_add z0 F G) ?_
  intro r1 F1 G1 hK1
  dsimp only
  unfold cb_X3_fetch_26
  refine PP.ret ?_
  exact (KX.tr hK hK1 rfl rfl)
theorem cw_X3_fetch {fu : Nat} (x1 : Int32) (F : PF) (G : PG) : PP (cf_X3_fetch fu x1 F G) (fun _ F' G' => KX [6] [5] F G F' G') := by
  unfold cf_X3_fetch
  unfold cb_X3_fetch_0
  refine PP.bind (cw_X5_kind x1 F G) ?_
  intro r1 F1 G1 hK1
  dsimp only
  unfold cb_X3_fetch_12
  refine PP.ite (fun c_2 => ?_) (fun c_2 => ?_)
  · skip
    unfold cb_X3_fetch_16
    exact cwj_X3_fetch_23 (78 : Int32) F1 G1 (KX.tr KX.rf hK1 rfl rfl)
  · skip
    unfold cb_X3_fetch_21
    exact cwj_X3_fetch_23 (77 : Int32) F1 G1 (KX.tr KX.rf hK1 rfl rfl)
theorem cwj_X3_load_65 {fu : Nat} {F0 : PF} {G0 : PG} (F : PF) (G : PG) (hK : KX [6] [5] F0 G0 F G) : PP (cb_X3_load_65 fu F G) (fun _ F' G' => KX [6] [5] F0 G0 F' G') := by
  unfold cb_X3_load_65
  refine PP.ret ?_
  exact hK
theorem cwj_X3_load_34 {fu : Nat} {F0 : PF} {G0 : PG} (x1 : Int32) (z0 : Int32) (F : PF) (G : PG) (hK : KX [6] [5] F0 G0 F G) : PP (cb_X3_load_34 fu x1 z0 F G) (fun _ F' G' => KX [6] [5] F0 G0 F' G') := by
  unfold cb_X3_load_34
  refine PP.bind (cw_X5_value x1 F G) ?_
  intro r1 F1 G1 hK1
  dsimp only
  unfold cb_X3_load_42
  refine PP.bind (cw_X1_addPair z0 r1 F1 G1) ?_
  intro r2 F2 G2 hK2
  dsimp only
  unfold cb_X3_load_45
  exact cwj_X3_load_65 F2 G2 (KX.tr (KX.tr hK hK1 rfl rfl) hK2 rfl rfl)
theorem cw_X3_load {fu : Nat} (x1 : Int32) (F : PF) (G : PG) : PP (cf_X3_load fu x1 F G) (fun _ F' G' => KX [6] [5] F G F' G') := by
  unfold cf_X3_load
  unfold cb_X3_load_0
  refine PP.bind (cw_X5_kind x1 F G) ?_
  intro r1 F1 G1 hK1
  dsimp only
  unfold cb_X3_load_8
  refine PP.ite (fun c_2 => ?_) (fun c_2 => ?_)
  · skip
    unfold cb_X3_load_12
    refine PP.bind (cw_X5_isGlobal x1 F1 G1) ?_
    intro r3 F3 G3 hK3
    dsimp only
    unfold cb_X3_load_24
    refine PP.ite (fun c_4 => ?_) (fun c_4 => ?_)
    · skip
      unfold cb_X3_load_32
      exact cwj_X3_load_34 x1 (70 : Int32) F3 G3 (KX.tr (KX.tr KX.rf hK1 rfl rfl) hK3 rfl rfl)
    · skip
      unfold cb_X3_load_27
      exact cwj_X3_load_34 x1 (69 : Int32) F3 G3 (KX.tr (KX.tr KX.rf hK1 rfl rfl) hK3 rfl rfl)
  · skip
    unfold cb_X3_load_48
    refine PP.bind (cw_X5_value x1 F1 G1) ?_
    intro r5 F5 G5 hK5
    dsimp only
    unfold cb_X3_load_62
    refine PP.bind (cw_X1_addPair (66 : Int32) r5 F5 G5) ?_
    intro r6 F6 G6 hK6
    dsimp only
    exact cwj_X3_load_65 F6 G6 (KX.tr (KX.tr (KX.tr KX.rf hK1 rfl rfl) hK5 rfl rfl) hK6 rfl rfl)
def cKI1 (rc : RC) : Prop := ∀ (i : Nat) (x y : Int32) (F : PF) (G : PG), PP (rc i x y F G) (fun _ F' G' => KX [6, 9, 10, 11, 12, 13, 14, 21, 43, 44, 47] [5, 20] F G F' G')
theorem cwj_X3_call_280 {fu : Nat} (rc : RC) (ih : cKI1 rc) {F0 : PF} {G0 : PG} (x2 : Int32) (x4 : Int32) (F : PF) (G : PG) (hK : KX [6, 9, 10, 11, 12, 13, 14, 21, 43, 44, 47] [5, 20] F0 G0 F G) : PP (cb_X3_call_280 fu rc x2 x4 F G) (fun _ F' G' => KX [6, 9, 10, 11, 12, 13, 14, 21, 43, 44, 47] [5, 20] F0 G0 F' G') := by
  unfold cb_X3_call_280
  refine PP.bind (cw_X2_closesWith (20 : Int32) F G) ?_
  intro r1 F1 G1 hK1
  dsimp only
  unfold cb_X3_call_289
  refine PP.bind (cw_X1_addPair (90 : Int32) x4 F1 G1) ?_
  intro r2 F2 G2 hK2
  dsimp only
  unfold cb_X3_call_300
  refine PP.bind (cw_X1_add x2 F2 G2) ?_
  intro r3 F3 G3 hK3
  dsimp only
  unfold cb_X3_call_308
  refine PP.ret ?_
  exact (KX.tr (KX.tr (KX.tr hK hK1 rfl rfl) hK2 rfl rfl) hK3 rfl rfl)
theorem cwj_X3_call_246 {fu : Nat} (rc : RC) (ih : cKI1 rc) {F0 : PF} {G0 : PG} (x2 : Int32) (x3 : Int32) (x4 : Int32) (x5 : Int32) (F : PF) (G : PG) (hK : KX [6, 9, 10, 11, 12, 13, 14, 21, 43, 44, 47] [5, 20] F0 G0 F G) : PP (cb_X3_call_246 fu rc x2 x3 x4 x5 F G) (fun _ F' G' => KX [6, 9, 10, 11, 12, 13, 14, 21, 43, 44, 47] [5, 20] F0 G0 F' G') := by
  unfold cb_X3_call_246
  refine PP.ite (fun c_1 => ?_) (fun c_1 => ?_)
  · skip
    exact cwj_X3_call_280 rc ih x2 x4 F G hK
  · skip
    unfold cb_X3_call_250
    refine PP.bind (cw_X8_formalKind x4 x5 F G) ?_
    intro r2 F2 G2 hK2
    dsimp only
    unfold cb_X3_call_261
    refine PP.ite (fun c_3 => ?_) (fun c_3 => ?_)
    · skip
      exact cwj_X3_call_280 rc ih x2 x4 F2 G2 (KX.tr hK hK2 rfl rfl)
    · skip
      unfold cb_X3_call_265
      refine PP.bind (cw_X5_note (2 : Int32) (F2 13) F2 G2) ?_
      intro r4 F4 G4 hK4
      dsimp only
      exact cwj_X3_call_280 rc ih x2 x4 F4 G4 (KX.tr (KX.tr hK hK2 rfl rfl) hK4 rfl rfl)
theorem cwj_X3_call_240 {fu : Nat} (rc : RC) (ih : cKI1 rc) {F0 : PF} {G0 : PG} (ag_74 : Int32 → Int32 → Int32 → Int32 → Int32 → Int32 → PF → PG → PR) (hag_74 : ∀ (x2 : Int32) (x3 : Int32) (x4 : Int32) (x5 : Int32) (x6 : Int32) (x7 : Int32) (F : PF) (G : PG) (hK : KX [6, 9, 10, 11, 12, 13, 14, 21, 43, 44, 47] [5, 20] F0 G0 F G), PP (ag_74 x2 x3 x4 x5 x6 x7 F G) (fun _ F' G' => KX [6, 9, 10, 11, 12, 13, 14, 21, 43, 44, 47] [5, 20] F0 G0 F' G')) (x2 : Int32) (x3 : Int32) (x4 : Int32) (x5 : Int32) (x6 : Int32) (x7 : Int32) (F : PF) (G : PG) (hK : KX [6, 9, 10, 11, 12, 13, 14, 21, 43, 44, 47] [5, 20] F0 G0 F G) : PP (cb_X3_call_240 fu rc ag_74 x2 x3 x4 x5 x6 x7 F G) (fun _ F' G' => KX [6, 9, 10, 11, 12, 13, 14, 21, 43, 44, 47] [5, 20] F0 G0 F' G') := by
  unfold cb_X3_call_240
  exact hag_74 x2 x3 x4 x5 x6 (x7 + (1 : Int32)) F G hK
theorem cwj_X3_call_226 {fu : Nat} (rc : RC) (ih : cKI1 rc) {F0 : PF} {G0 : PG} (ag_74 : Int32 → Int32 → Int32 → Int32 → Int32 → Int32 → PF → PG → PR) (hag_74 : ∀ (x2 : Int32) (x3 : Int32) (x4 : Int32) (x5 : Int32) (x6 : Int32) (x7 : Int32) (F : PF) (G : PG) (hK : KX [6, 9, 10, 11, 12, 13, 14, 21, 43, 44, 47] [5, 20] F0 G0 F G), PP (ag_74 x2 x3 x4 x5 x6 x7 F G) (fun _ F' G' => KX [6, 9, 10, 11, 12, 13, 14, 21, 43, 44, 47] [5, 20] F0 G0 F' G')) (x2 : Int32) (x3 : Int32) (x4 : Int32) (x5 : Int32) (x7 : Int32) (z0 : Int32) (F : PF) (G : PG) (hK : KX [6, 9, 10, 11, 12, 13, 14, 21, 43, 44, 47] [5, 20] F0 G0 F G) : PP (cb_X3_call_226 fu rc ag_74 x2 x3 x4 x5 x7 z0 F G) (fun _ F' G' => KX [6, 9, 10, 11, 12, 13, 14, 21, 43, 44, 47] [5, 20] F0 G0 F' G') := by
  unfold cb_X3_call_226
  refine PP.ite (fun c_1 => ?_) (fun c_1 => ?_)
  · skip
    exact cwj_X3_call_240 rc ih ag_74 hag_74 x2 x3 x4 x5 z0 x7 F G hK
  · skip
    unfold cb_X3_call_233
    refine PP.bind (cw_X2_next F G) ?_
    intro r2 F2 G2 hK2
    dsimp only
    exact cwj_X3_call_240 rc ih ag_74 hag_74 x2 x3 x4 x5 z0 x7 F2 G2 (KX.tr hK hK2 rfl rfl)
theorem cwj_X3_call_206 {fu : Nat} (rc : RC) (ih : cKI1 rc) {F0 : PF} {G0 : PG} (ag_74 : Int32 → Int32 → Int32 → Int32 → Int32 → Int32 → PF → PG → PR) (hag_74 : ∀ (x2 : Int32) (x3 : Int32) (x4 : Int32) (x5 : Int32) (x6 : Int32) (x7 : Int32) (F : PF) (G : PG) (hK : KX [6, 9, 10, 11, 12, 13, 14, 21, 43, 44, 47] [5, 20] F0 G0 F G), PP (ag_74 x2 x3 x4 x5 x6 x7 F G) (fun _ F' G' => KX [6, 9, 10, 11, 12, 13, 14, 21, 43, 44, 47] [5, 20] F0 G0 F' G')) (x2 : Int32) (x3 : Int32) (x4 : Int32) (x5 : Int32) (x7 : Int32) (F : PF) (G : PG) (hK : KX [6, 9, 10, 11, 12, 13, 14, 21, 43, 44, 47] [5, 20] F0 G0 F G) : PP (cb_X3_call_206 fu rc ag_74 x2 x3 x4 x5 x7 F G) (fun _ F' G' => KX [6, 9, 10, 11, 12, 13, 14, 21, 43, 44, 47] [5, 20] F0 G0 F' G') := by
  unfold cb_X3_call_206
  refine PP.ite (fun c_1 => ?_) (fun c_1 => ?_)
  · skip
    unfold cb_X3_call_221
    exact cwj_X3_call_226 rc ih ag_74 hag_74 x2 x3 x4 (x5 + (1 : Int32)) x7 (1 : Int32) F G hK
  · skip
    unfold cb_X3_call_225
    exact cwj_X3_call_226 rc ih ag_74 hag_74 x2 x3 x4 (x5 + (1 : Int32)) x7 (0 : Int32) F G hK
theorem cwj_X3_call_202 {fu : Nat} (rc : RC) (ih : cKI1 rc) {F0 : PF} {G0 : PG} (ag_74 : Int32 → Int32 → Int32 → Int32 → Int32 → Int32 → PF → PG → PR) (hag_74 : ∀ (x2 : Int32) (x3 : Int32) (x4 : Int32) (x5 : Int32) (x6 : Int32) (x7 : Int32) (F : PF) (G : PG) (hK : KX [6, 9, 10, 11, 12, 13, 14, 21, 43, 44, 47] [5, 20] F0 G0 F G), PP (ag_74 x2 x3 x4 x5 x6 x7 F G) (fun _ F' G' => KX [6, 9, 10, 11, 12, 13, 14, 21, 43, 44, 47] [5, 20] F0 G0 F' G')) (x2 : Int32) (x3 : Int32) (x4 : Int32) (x5 : Int32) (x7 : Int32) (F : PF) (G : PG) (hK : KX [6, 9, 10, 11, 12, 13, 14, 21, 43, 44, 47] [5, 20] F0 G0 F G) : PP (cb_X3_call_202 fu rc ag_74 x2 x3 x4 x5 x7 F G) (fun _ F' G' => KX [6, 9, 10, 11, 12, 13, 14, 21, 43, 44, 47] [5, 20] F0 G0 F' G') := by
  unfold cb_X3_call_202
  refine PP.bind (ih 1 0 0 F G) ?_
  intro r1 F1 G1 hK1
  dsimp only
  exact cwj_X3_call_206 rc ih ag_74 hag_74 x2 x3 x4 x5 x7 F1 G1 (KX.tr hK hK1 rfl rfl)
theorem cwj_X3_call_181 {fu : Nat} (rc : RC) (ih : cKI1 rc) {F0 : PF} {G0 : PG} (ag_74 : Int32 → Int32 → Int32 → Int32 → Int32 → Int32 → PF → PG → PR) (hag_74 : ∀ (x2 : Int32) (x3 : Int32) (x4 : Int32) (x5 : Int32) (x6 : Int32) (x7 : Int32) (F : PF) (G : PG) (hK : KX [6, 9, 10, 11, 12, 13, 14, 21, 43, 44, 47] [5, 20] F0 G0 F G), PP (ag_74 x2 x3 x4 x5 x6 x7 F G) (fun _ F' G' => KX [6, 9, 10, 11, 12, 13, 14, 21, 43, 44, 47] [5, 20] F0 G0 F' G')) (x2 : Int32) (x3 : Int32) (x4 : Int32) (x5 : Int32) (x7 : Int32) (x8 : Int32) (F : PF) (G : PG) (hK : KX [6, 9, 10, 11, 12, 13, 14, 21, 43, 44, 47] [5, 20] F0 G0 F G) : PP (cb_X3_call_181 fu rc ag_74 x2 x3 x4 x5 x7 x8 F G) (fun _ F' G' => KX [6, 9, 10, 11, 12, 13, 14, 21, 43, 44, 47] [5, 20] F0 G0 F' G') := by
  unfold cb_X3_call_181
  refine PP.ite (fun c_1 => ?_) (fun c_1 => ?_)
  · skip
    exact cwj_X3_call_202 rc ih ag_74 hag_74 x2 x3 x4 x5 x7 F G hK
  · skip
    unfold cb_X3_call_187
    refine PP.bind (cw_X5_note (2 : Int32) (F 13) F G) ?_
    intro r2 F2 G2 hK2
    dsimp only
    exact cwj_X3_call_202 rc ih ag_74 hag_74 x2 x3 x4 x5 x7 F2 G2 (KX.tr hK hK2 rfl rfl)
theorem cwj_X3_call_106 {fu : Nat} (rc : RC) (ih : cKI1 rc) {F0 : PF} {G0 : PG} (ag_74 : Int32 → Int32 → Int32 → Int32 → Int32 → Int32 → PF → PG → PR) (hag_74 : ∀ (x2 : Int32) (x3 : Int32) (x4 : Int32) (x5 : Int32) (x6 : Int32) (x7 : Int32) (F : PF) (G : PG) (hK : KX [6, 9, 10, 11, 12, 13, 14, 21, 43, 44, 47] [5, 20] F0 G0 F G), PP (ag_74 x2 x3 x4 x5 x6 x7 F G) (fun _ F' G' => KX [6, 9, 10, 11, 12, 13, 14, 21, 43, 44, 47] [5, 20] F0 G0 F' G')) (x2 : Int32) (x3 : Int32) (x4 : Int32) (x5 : Int32) (x7 : Int32) (z0 : Int32) (F : PF) (G : PG) (hK : KX [6, 9, 10, 11, 12, 13, 14, 21, 43, 44, 47] [5, 20] F0 G0 F G) : PP (cb_X3_call_106 fu rc ag_74 x2 x3 x4 x5 x7 z0 F G) (fun _ F' G' => KX [6, 9, 10, 11, 12, 13, 14, 21, 43, 44, 47] [5, 20] F0 G0 F' G') := by
  unfold cb_X3_call_106
  refine PP.ite (fun c_1 => ?_) (fun c_1 => ?_)
  · skip
    exact cwj_X3_call_181 rc ih ag_74 hag_74 x2 x3 x4 x5 x7 z0 F G hK
  · skip
    unfold cb_X3_call_114
    refine PP.bind (cw_X2_isNameAlone F G) ?_
    intro r2 F2 G2 hK2
    dsimp only
    unfold cb_X3_call_121
    refine PP.ite (fun c_3 => ?_) (fun c_3 => ?_)
    · skip
      exact cwj_X3_call_181 rc ih ag_74 hag_74 x2 x3 x4 x5 x7 z0 F2 G2 (KX.tr hK hK2 rfl rfl)
    · skip
      unfold cb_X3_call_124
      refine PP.bind (cw_X5_meant (F2 12) (F2 13) F2 G2) ?_
      intro r4 F4 G4 hK4
      dsimp only
      unfold cb_X3_call_145
      refine PP.bind (cw_X5_wantArray r4 (F4 13) z0 F4 G4) ?_
      intro r5 F5 G5 hK5
      dsimp only
      unfold cb_X3_call_165
      refine PP.bind (cw_X3_pass r4 F5 G5) ?_
      intro r6 F6 G6 hK6
      dsimp only
      unfold cb_X3_call_171
      refine PP.bind (cw_X2_next F6 G6) ?_
      intro r7 F7 G7 hK7
      dsimp only
      unfold cb_X3_call_178
      exact cwj_X3_call_206 rc ih ag_74 hag_74 x2 x3 x4 x5 x7 F7 G7 (KX.tr (KX.tr (KX.tr (KX.tr (KX.tr hK hK2 rfl rfl) hK4 rfl rfl) hK5 rfl rfl) hK6 rfl rfl) hK7 rfl rfl)
theorem cwz_X3_call_74 {fu : Nat} (rc : RC) (ih : cKI1 rc) {F0 : PF} {G0 : PG} : ∀ (n : Nat) (x2 : Int32) (x3 : Int32) (x4 : Int32) (x5 : Int32) (x6 : Int32) (x7 : Int32) (F : PF) (G : PG) (hK : KX [6, 9, 10, 11, 12, 13, 14, 21, 43, 44, 47] [5, 20] F0 G0 F G), PP (cl_X3_call_74 fu rc n x2 x3 x4 x5 x6 x7 F G) (fun _ F' G' => KX [6, 9, 10, 11, 12, 13, 14, 21, 43, 44, 47] [5, 20] F0 G0 F' G') := by
  intro n
  induction n with
  | zero =>
    intro x2 x3 x4 x5 x6 x7 F G hK
    exact PP.no
  | succ n ihn =>
    intro x2 x3 x4 x5 x6 x7 F G hK
    show PP (cb_X3_call_74 fu rc (cl_X3_call_74 fu rc n) x2 x3 x4 x5 x6 x7 F G) _
    unfold cb_X3_call_74
    refine PP.ite (fun c_1 => ?_) (fun c_1 => ?_)
    · skip
      exact cwj_X3_call_246 rc ih x2 x3 x4 x5 F G hK
    · skip
      unfold cb_X3_call_82
      refine PP.ite (fun c_2 => ?_) (fun c_2 => ?_)
      · skip
        exact cwj_X3_call_246 rc ih x2 x3 x4 x5 F G hK
      · skip
        unfold cb_X3_call_87
        refine PP.ite (fun c_3 => ?_) (fun c_3 => ?_)
        · skip
          unfold cb_X3_call_105
          exact cwj_X3_call_106 rc ih (cl_X3_call_74 fu rc n) ihn x2 x3 x4 x5 x7 (1 : Int32) F G hK
        · skip
          unfold cb_X3_call_91
          refine PP.bind (cw_X8_formalKind x4 x7 F G) ?_
          intro r4 F4 G4 hK4
          dsimp only
          unfold cb_X3_call_102
          exact cwj_X3_call_106 rc ih (cl_X3_call_74 fu rc n) ihn x2 x3 x4 x5 x7 r4 F4 G4 (KX.tr hK hK4 rfl rfl)
theorem cwj_X3_call_69 {fu : Nat} (rc : RC) (ih : cKI1 rc) {F0 : PF} {G0 : PG} (x2 : Int32) (x3 : Int32) (x4 : Int32) (x5 : Int32) (z0 : Int32) (F : PF) (G : PG) (hK : KX [6, 9, 10, 11, 12, 13, 14, 21, 43, 44, 47] [5, 20] F0 G0 F G) : PP (cb_X3_call_69 fu rc x2 x3 x4 x5 z0 F G) (fun _ F' G' => KX [6, 9, 10, 11, 12, 13, 14, 21, 43, 44, 47] [5, 20] F0 G0 F' G') := by
  unfold cb_X3_call_69
  exact cwz_X3_call_74 rc ih fu x2 x3 x4 x5 z0 (0 : Int32) F G hK
theorem cwj_X3_call_34 {fu : Nat} (rc : RC) (ih : cKI1 rc) {F0 : PF} {G0 : PG} (x2 : Int32) (x3 : Int32) (z0 : Int32) (F : PF) (G : PG) (hK : KX [6, 9, 10, 11, 12, 13, 14, 21, 43, 44, 47] [5, 20] F0 G0 F G) : PP (cb_X3_call_34 fu rc x2 x3 z0 F G) (fun _ F' G' => KX [6, 9, 10, 11, 12, 13, 14, 21, 43, 44, 47] [5, 20] F0 G0 F' G') := by
  unfold cb_X3_call_34
  refine PP.bind (cw_X2_opens (19 : Int32) F G) ?_
  intro r1 F1 G1 hK1
  dsimp only
  unfold cb_X3_call_45
  refine PP.ite (fun c_2 => ?_) (fun c_2 => ?_)
  · skip
    unfold cb_X3_call_48
    refine PP.ret ?_
    exact (KX.tr hK hK1 rfl rfl)
  · skip
    unfold cb_X3_call_49
    refine PP.ite (fun c_3 => ?_) (fun c_3 => ?_)
    · skip
      unfold cb_X3_call_68
      exact cwj_X3_call_69 rc ih x2 x3 z0 (0 : Int32) (0 : Int32) F1 G1 (KX.tr hK hK1 rfl rfl)
    · skip
      unfold cb_X3_call_64
      exact cwj_X3_call_69 rc ih x2 x3 z0 (0 : Int32) (1 : Int32) F1 G1 (KX.tr hK hK1 rfl rfl)
theorem cwj_X3_call_17 {fu : Nat} (rc : RC) (ih : cKI1 rc) {F0 : PF} {G0 : PG} (x1 : Int32) (x2 : Int32) (z0 : Int32) (F : PF) (G : PG) (hK : KX [6, 9, 10, 11, 12, 13, 14, 21, 43, 44, 47] [5, 20] F0 G0 F G) : PP (cb_X3_call_17 fu rc x1 x2 z0 F G) (fun _ F' G' => KX [6, 9, 10, 11, 12, 13, 14, 21, 43, 44, 47] [5, 20] F0 G0 F' G') := by
  unfold cb_X3_call_17
  refine PP.ite (fun c_1 => ?_) (fun c_1 => ?_)
  · skip
    unfold cb_X3_call_33
    exact cwj_X3_call_34 rc ih x2 z0 (-1 : Int32) F G hK
  · skip
    unfold cb_X3_call_22
    refine PP.bind (cw_X5_value x1 F G) ?_
    intro r2 F2 G2 hK2
    dsimp only
    unfold cb_X3_call_30
    exact cwj_X3_call_34 rc ih x2 z0 r2 F2 G2 (KX.tr hK hK2 rfl rfl)
theorem cwt_X3_call {fu : Nat} (rc : RC) (ih : cKI1 rc) (x1 : Int32) (x2 : Int32) (F : PF) (G : PG) : PP (ch_X3_call fu rc x1 x2 F G) (fun _ F' G' => KX [6, 9, 10, 11, 12, 13, 14, 21, 43, 44, 47] [5, 20] F G F' G') := by
  unfold ch_X3_call
  unfold cb_X3_call_0
  refine PP.bind (cw_X5_kind x1 F G) ?_
  intro r1 F1 G1 hK1
  dsimp only
  unfold cb_X3_call_8
  refine PP.ite (fun c_2 => ?_) (fun c_2 => ?_)
  · skip
    unfold cb_X3_call_12
    exact cwj_X3_call_17 rc ih x1 x2 (1 : Int32) F1 G1 (KX.tr KX.rf hK1 rfl rfl)
  · skip
    unfold cb_X3_call_16
    exact cwj_X3_call_17 rc ih x1 x2 (0 : Int32) F1 G1 (KX.tr KX.rf hK1 rfl rfl)
theorem cwj_X3_expression_28 {fu : Nat} (rc : RC) (ih : cKI1 rc) {F0 : PF} {G0 : PG} (F : PF) (G : PG) (hK : KX [6, 9, 10, 11, 12, 13, 14, 21, 43, 44, 47] [5, 20] F0 G0 F G) : PP (cb_X3_expression_28 fu rc F G) (fun _ F' G' => KX [6, 9, 10, 11, 12, 13, 14, 21, 43, 44, 47] [5, 20] F0 G0 F' G') := by
  unfold cb_X3_expression_28
  refine PP.ret ?_
  exact hK
theorem cwt_X3_expression {fu : Nat} (rc : RC) (ih : cKI1 rc) (F : PF) (G : PG) : PP (ch_X3_expression fu rc F G) (fun _ F' G' => KX [6, 9, 10, 11, 12, 13, 14, 21, 43, 44, 47] [5, 20] F G F' G') := by
  unfold ch_X3_expression
  unfold cb_X3_expression_0
  refine PP.bind (ih 3 0 0 F G) ?_
  intro r1 F1 G1 hK1
  dsimp only
  unfold cb_X3_expression_4
  refine PP.ite (fun c_2 => ?_) (fun c_2 => ?_)
  · skip
    unfold cb_X3_expression_16
    refine PP.bind (cw_X2_opens (27 : Int32) F1 G1) ?_
    intro r3 F3 G3 hK3
    dsimp only
    unfold cb_X3_expression_25
    refine PP.ite (fun c_4 => ?_) (fun c_4 => ?_)
    · skip
      exact cwj_X3_expression_28 rc ih F3 G3 (KX.tr (KX.tr KX.rf hK1 rfl rfl) hK3 rfl rfl)
    · skip
      unfold cb_X3_expression_29
      refine PP.bind (cw_X1_addJump (86 : Int32) (-1 : Int32) F3 G3) ?_
      intro r5 F5 G5 hK5
      dsimp only
      unfold cb_X3_expression_39
      refine PP.bind (ih 1 0 0 F5 G5) ?_
      intro r6 F6 G6 hK6
      dsimp only
      unfold cb_X3_expression_44
      refine PP.bind (cw_X2_expect (28 : Int32) F6 G6) ?_
      intro r7 F7 G7 hK7
      dsimp only
      unfold cb_X3_expression_53
      refine PP.bind (cw_X1_addJump (84 : Int32) (-1 : Int32) F7 G7) ?_
      intro r8 F8 G8 hK8
      dsimp only
      unfold cb_X3_expression_63
      refine PP.bind (cw_X1_aim r5 (F8 6) F8 G8) ?_
      intro r9 F9 G9 hK9
      dsimp only
      unfold cb_X3_expression_79
      refine PP.bind (ih 1 0 0 F9 G9) ?_
      intro r10 F10 G10 hK10
      dsimp only
      unfold cb_X3_expression_83
      refine PP.bind (cw_X1_aim r8 (F10 6) F10 G10) ?_
      intro r11 F11 G11 hK11
      dsimp only
      unfold cb_X3_expression_98
      refine PP.bind (cw_X2_closes F11 G11) ?_
      intro r12 F12 G12 hK12
      dsimp only
      unfold cb_X3_expression_105
      refine PP.ret ?_
      exact (KX.tr (KX.tr (KX.tr (KX.tr (KX.tr (KX.tr (KX.tr (KX.tr (KX.tr (KX.tr KX.rf hK1 rfl rfl) hK3 rfl rfl) hK5 rfl rfl) hK6 rfl rfl) hK7 rfl rfl) hK8 rfl rfl) hK9 rfl rfl) hK10 rfl rfl) hK11 rfl rfl) hK12 rfl rfl)
  · skip
    exact cwj_X3_expression_28 rc ih F1 G1 (KX.tr KX.rf hK1 rfl rfl)
theorem cwj_X3_index_129 {fu : Nat} (rc : RC) (ih : cKI1 rc) {F0 : PF} {G0 : PG} (x2 : Int32) (z0 : Int32) (F : PF) (G : PG) (hK : KX [6, 9, 10, 11, 12, 13, 14, 21, 43, 44, 47] [5, 20] F0 G0 F G) : PP (cb_X3_index_129 fu rc x2 z0 F G) (fun _ F' G' => KX [6, 9, 10, 11, 12, 13, 14, 21, 43, 44, 47] [5, 20] F0 G0 F' G') := by
  unfold cb_X3_index_129
  refine PP.bind (cw_X1_add z0 F G) ?_
  intro r1 F1 G1 hK1
  dsimp only
  unfold cb_X3_index_132
  refine PP.bind (cw_X1_add x2 F1 G1) ?_
  intro r2 F2 G2 hK2
  dsimp only
  unfold cb_X3_index_140
  refine PP.ret ?_
  exact (KX.tr (KX.tr hK hK1 rfl rfl) hK2 rfl rfl)
theorem cwj_X3_index_82 {fu : Nat} (rc : RC) (ih : cKI1 rc) {F0 : PF} {G0 : PG} (x1 : Int32) (x2 : Int32) (z0 : Int32) (F : PF) (G : PG) (hK : KX [6, 9, 10, 11, 12, 13, 14, 21, 43, 44, 47] [5, 20] F0 G0 F G) : PP (cb_X3_index_82 fu rc x1 x2 z0 F G) (fun _ F' G' => KX [6, 9, 10, 11, 12, 13, 14, 21, 43, 44, 47] [5, 20] F0 G0 F' G') := by
  unfold cb_X3_index_82
  refine PP.bind (cw_X5_value x1 F G) ?_
  intro r1 F1 G1 hK1
  dsimp only
  unfold cb_X3_index_90
  refine PP.bind (cw_X1_addPair z0 r1 F1 G1) ?_
  intro r2 F2 G2 hK2
  dsimp only
  unfold cb_X3_index_93
  refine PP.bind (cw_X5_size x1 F2 G2) ?_
  intro r3 F3 G3 hK3
  dsimp only
  unfold cb_X3_index_105
  refine PP.bind (cw_X1_add r3 F3 G3) ?_
  intro r4 F4 G4 hK4
  dsimp only
  unfold cb_X3_index_108
  refine PP.bind (cw_X5_kind x1 F4 G4) ?_
  intro r5 F5 G5 hK5
  dsimp only
  unfold cb_X3_index_120
  refine PP.ite (fun c_6 => ?_) (fun c_6 => ?_)
  · skip
    unfold cb_X3_index_124
    exact cwj_X3_index_129 rc ih x2 (2 : Int32) F5 G5 (KX.tr (KX.tr (KX.tr (KX.tr (KX.tr hK hK1 rfl rfl) hK2 rfl rfl) hK3 rfl rfl) hK4 rfl rfl) hK5 rfl rfl)
  · skip
    unfold cb_X3_index_128
    exact cwj_X3_index_129 rc ih x2 (0 : Int32) F5 G5 (KX.tr (KX.tr (KX.tr (KX.tr (KX.tr hK hK1 rfl rfl) hK2 rfl rfl) hK3 rfl rfl) hK4 rfl rfl) hK5 rfl rfl)
theorem cwj_X3_index_50 {fu : Nat} (rc : RC) (ih : cKI1 rc) {F0 : PF} {G0 : PG} (x1 : Int32) (x2 : Int32) (z0 : Int32) (F : PF) (G : PG) (hK : KX [6, 9, 10, 11, 12, 13, 14, 21, 43, 44, 47] [5, 20] F0 G0 F G) : PP (cb_X3_index_50 fu rc x1 x2 z0 F G) (fun _ F' G' => KX [6, 9, 10, 11, 12, 13, 14, 21, 43, 44, 47] [5, 20] F0 G0 F' G') := by
  unfold cb_X3_index_50
  refine PP.ite (fun c_1 => ?_) (fun c_1 => ?_)
  · skip
    unfold cb_X3_index_64
    refine PP.bind (cw_X5_isGlobal x1 F G) ?_
    intro r2 F2 G2 hK2
    dsimp only
    unfold cb_X3_index_72
    refine PP.ite (fun c_3 => ?_) (fun c_3 => ?_)
    · skip
      unfold cb_X3_index_80
      exact cwj_X3_index_82 rc ih x1 x2 (75 : Int32) F2 G2 (KX.tr hK hK2 rfl rfl)
    · skip
      unfold cb_X3_index_75
      exact cwj_X3_index_82 rc ih x1 x2 (74 : Int32) F2 G2 (KX.tr hK hK2 rfl rfl)
  · skip
    unfold cb_X3_index_59
    exact cwj_X3_index_82 rc ih x1 x2 (76 : Int32) F G hK
theorem cwt_X3_index {fu : Nat} (rc : RC) (ih : cKI1 rc) (x1 : Int32) (F : PF) (G : PG) : PP (ch_X3_index fu rc x1 F G) (fun _ F' G' => KX [6, 9, 10, 11, 12, 13, 14, 21, 43, 44, 47] [5, 20] F G F' G') := by
  unfold ch_X3_index
  unfold cb_X3_index_0
  refine PP.bind (cw_X2_opens (21 : Int32) F G) ?_
  intro r1 F1 G1 hK1
  dsimp only
  unfold cb_X3_index_17
  refine PP.ite (fun c_2 => ?_) (fun c_2 => ?_)
  · skip
    unfold cb_X3_index_20
    refine PP.ret ?_
    exact (KX.tr KX.rf hK1 rfl rfl)
  · skip
    unfold cb_X3_index_21
    refine PP.bind (ih 1 0 0 F1 G1) ?_
    intro r3 F3 G3 hK3
    dsimp only
    unfold cb_X3_index_25
    refine PP.bind (cw_X2_closesWith (22 : Int32) F3 G3) ?_
    intro r4 F4 G4 hK4
    dsimp only
    unfold cb_X3_index_34
    refine PP.bind (cw_X5_size x1 F4 G4) ?_
    intro r5 F5 G5 hK5
    dsimp only
    unfold cb_X3_index_42
    refine PP.ite (fun c_6 => ?_) (fun c_6 => ?_)
    · skip
      unfold cb_X3_index_45
      exact cwj_X3_index_50 rc ih x1 (F 13) (1 : Int32) F5 G5 (KX.tr (KX.tr (KX.tr (KX.tr KX.rf hK1 rfl rfl) hK3 rfl rfl) hK4 rfl rfl) hK5 rfl rfl)
    · skip
      unfold cb_X3_index_49
      exact cwj_X3_index_50 rc ih x1 (F 13) (0 : Int32) F5 G5 (KX.tr (KX.tr (KX.tr (KX.tr KX.rf hK1 rfl rfl) hK3 rfl rfl) hK4 rfl rfl) hK5 rfl rfl)
theorem cwj_X3_joinedOperands_162 {fu : Nat} (rc : RC) (ih : cKI1 rc) {F0 : PF} {G0 : PG} (x1 : Int32) (F : PF) (G : PG) (hK : KX [6, 9, 10, 11, 12, 13, 14, 21, 43, 44, 47] [5, 20] F0 G0 F G) : PP (cb_X3_joinedOperands_162 fu rc x1 F G) (fun _ F' G' => KX [6, 9, 10, 11, 12, 13, 14, 21, 43, 44, 47] [5, 20] F0 G0 F' G') := by
  unfold cb_X3_joinedOperands_162
  refine PP.bind (cw_X3_settle x1 (0 : Int32) F G) ?_
  intro r1 F1 G1 hK1
  dsimp only
  unfold cb_X3_joinedOperands_168
  refine PP.ret ?_
  exact (KX.tr hK hK1 rfl rfl)
theorem cwj_X3_joinedOperands_156 {fu : Nat} (rc : RC) (ih : cKI1 rc) {F0 : PF} {G0 : PG} (ag_9 : Int32 → Int32 → Int32 → PF → PG → PR) (hag_9 : ∀ (x1 : Int32) (x2 : Int32) (x3 : Int32) (F : PF) (G : PG) (hK : KX [6, 9, 10, 11, 12, 13, 14, 21, 43, 44, 47] [5, 20] F0 G0 F G), PP (ag_9 x1 x2 x3 F G) (fun _ F' G' => KX [6, 9, 10, 11, 12, 13, 14, 21, 43, 44, 47] [5, 20] F0 G0 F' G')) (x1 : Int32) (x2 : Int32) (x3 : Int32) (F : PF) (G : PG) (hK : KX [6, 9, 10, 11, 12, 13, 14, 21, 43, 44, 47] [5, 20] F0 G0 F G) : PP (cb_X3_joinedOperands_156 fu rc ag_9 x1 x2 x3 F G) (fun _ F' G' => KX [6, 9, 10, 11, 12, 13, 14, 21, 43, 44, 47] [5, 20] F0 G0 F' G') := by
  unfold cb_X3_joinedOperands_156
  exact hag_9 x1 x2 (x3 + (1 : Int32)) F G hK
theorem cwj_X3_joinedOperands_118 {fu : Nat} (rc : RC) (ih : cKI1 rc) {F0 : PF} {G0 : PG} (ag_9 : Int32 → Int32 → Int32 → PF → PG → PR) (hag_9 : ∀ (x1 : Int32) (x2 : Int32) (x3 : Int32) (F : PF) (G : PG) (hK : KX [6, 9, 10, 11, 12, 13, 14, 21, 43, 44, 47] [5, 20] F0 G0 F G), PP (ag_9 x1 x2 x3 F G) (fun _ F' G' => KX [6, 9, 10, 11, 12, 13, 14, 21, 43, 44, 47] [5, 20] F0 G0 F' G')) (x1 : Int32) (x3 : Int32) (z0 : Int32) (F : PF) (G : PG) (hK : KX [6, 9, 10, 11, 12, 13, 14, 21, 43, 44, 47] [5, 20] F0 G0 F G) : PP (cb_X3_joinedOperands_118 fu rc ag_9 x1 x3 z0 F G) (fun _ F' G' => KX [6, 9, 10, 11, 12, 13, 14, 21, 43, 44, 47] [5, 20] F0 G0 F' G') := by
  unfold cb_X3_joinedOperands_118
  refine PP.ite (fun c_1 => ?_) (fun c_1 => ?_)
  · skip
    exact cwj_X3_joinedOperands_156 rc ih ag_9 hag_9 x1 z0 x3 F G hK
  · skip
    unfold cb_X3_joinedOperands_123
    refine PP.bind (cw_X3_strength (F 11) F G) ?_
    intro r2 F2 G2 hK2
    dsimp only
    unfold cb_X3_joinedOperands_135
    refine PP.bind (cw_X3_settle x1 r2 F2 G2) ?_
    intro r3 F3 G3 hK3
    dsimp only
    unfold cb_X3_joinedOperands_138
    refine PP.bind (cw_X3_waits (F3 11) F3 G3) ?_
    intro r4 F4 G4 hK4
    dsimp only
    unfold cb_X3_joinedOperands_149
    refine PP.bind (cw_X2_next F4 G4) ?_
    intro r5 F5 G5 hK5
    dsimp only
    exact cwj_X3_joinedOperands_156 rc ih ag_9 hag_9 x1 z0 x3 F5 G5 (KX.tr (KX.tr (KX.tr (KX.tr hK hK2 rfl rfl) hK3 rfl rfl) hK4 rfl rfl) hK5 rfl rfl)
theorem cwj_X3_joinedOperands_117 {fu : Nat} (rc : RC) (ih : cKI1 rc) {F0 : PF} {G0 : PG} (ag_9 : Int32 → Int32 → Int32 → PF → PG → PR) (hag_9 : ∀ (x1 : Int32) (x2 : Int32) (x3 : Int32) (F : PF) (G : PG) (hK : KX [6, 9, 10, 11, 12, 13, 14, 21, 43, 44, 47] [5, 20] F0 G0 F G), PP (ag_9 x1 x2 x3 F G) (fun _ F' G' => KX [6, 9, 10, 11, 12, 13, 14, 21, 43, 44, 47] [5, 20] F0 G0 F' G')) (x1 : Int32) (x3 : Int32) (F : PF) (G : PG) (hK : KX [6, 9, 10, 11, 12, 13, 14, 21, 43, 44, 47] [5, 20] F0 G0 F G) : PP (cb_X3_joinedOperands_117 fu rc ag_9 x1 x3 F G) (fun _ F' G' => KX [6, 9, 10, 11, 12, 13, 14, 21, 43, 44, 47] [5, 20] F0 G0 F' G') := by
  unfold cb_X3_joinedOperands_117
  exact cwj_X3_joinedOperands_118 rc ih ag_9 hag_9 x1 x3 (0 : Int32) F G hK
theorem cwj_X3_joinedOperands_85 {fu : Nat} (rc : RC) (ih : cKI1 rc) {F0 : PF} {G0 : PG} (ag_9 : Int32 → Int32 → Int32 → PF → PG → PR) (hag_9 : ∀ (x1 : Int32) (x2 : Int32) (x3 : Int32) (F : PF) (G : PG) (hK : KX [6, 9, 10, 11, 12, 13, 14, 21, 43, 44, 47] [5, 20] F0 G0 F G), PP (ag_9 x1 x2 x3 F G) (fun _ F' G' => KX [6, 9, 10, 11, 12, 13, 14, 21, 43, 44, 47] [5, 20] F0 G0 F' G')) (x1 : Int32) (x3 : Int32) (F : PF) (G : PG) (hK : KX [6, 9, 10, 11, 12, 13, 14, 21, 43, 44, 47] [5, 20] F0 G0 F G) : PP (cb_X3_joinedOperands_85 fu rc ag_9 x1 x3 F G) (fun _ F' G' => KX [6, 9, 10, 11, 12, 13, 14, 21, 43, 44, 47] [5, 20] F0 G0 F' G') := by
  unfold cb_X3_joinedOperands_85
  refine PP.bind (ih 5 0 0 F G) ?_
  intro r1 F1 G1 hK1
  dsimp only
  unfold cb_X3_joinedOperands_89
  refine PP.ite (fun c_2 => ?_) (fun c_2 => ?_)
  · skip
    exact cwj_X3_joinedOperands_117 rc ih ag_9 hag_9 x1 x3 F1 G1 (KX.tr hK hK1 rfl rfl)
  · skip
    unfold cb_X3_joinedOperands_101
    refine PP.ite (fun c_3 => ?_) (fun c_3 => ?_)
    · skip
      exact cwj_X3_joinedOperands_117 rc ih ag_9 hag_9 x1 x3 F1 G1 (KX.tr hK hK1 rfl rfl)
    · skip
      unfold cb_X3_joinedOperands_113
      exact cwj_X3_joinedOperands_118 rc ih ag_9 hag_9 x1 x3 (1 : Int32) F1 G1 (KX.tr hK hK1 rfl rfl)
theorem cwj_X3_joinedOperands_69 {fu : Nat} (rc : RC) (ih : cKI1 rc) {F0 : PF} {G0 : PG} (ag_9 : Int32 → Int32 → Int32 → PF → PG → PR) (hag_9 : ∀ (x1 : Int32) (x2 : Int32) (x3 : Int32) (F : PF) (G : PG) (hK : KX [6, 9, 10, 11, 12, 13, 14, 21, 43, 44, 47] [5, 20] F0 G0 F G), PP (ag_9 x1 x2 x3 F G) (fun _ F' G' => KX [6, 9, 10, 11, 12, 13, 14, 21, 43, 44, 47] [5, 20] F0 G0 F' G')) (ag_23 : Int32 → Int32 → Int32 → PF → PG → PR) (hag_23 : ∀ (x1 : Int32) (x3 : Int32) (x4 : Int32) (F : PF) (G : PG) (hK : KX [6, 9, 10, 11, 12, 13, 14, 21, 43, 44, 47] [5, 20] F0 G0 F G), PP (ag_23 x1 x3 x4 F G) (fun _ F' G' => KX [6, 9, 10, 11, 12, 13, 14, 21, 43, 44, 47] [5, 20] F0 G0 F' G')) (x1 : Int32) (x3 : Int32) (x4 : Int32) (z0 : Int32) (F : PF) (G : PG) (hK : KX [6, 9, 10, 11, 12, 13, 14, 21, 43, 44, 47] [5, 20] F0 G0 F G) : PP (cb_X3_joinedOperands_69 fu rc ag_9 ag_23 x1 x3 x4 z0 F G) (fun _ F' G' => KX [6, 9, 10, 11, 12, 13, 14, 21, 43, 44, 47] [5, 20] F0 G0 F' G') := by
  unfold cb_X3_joinedOperands_69
  refine PP.bind (cw_X3_waits z0 F G) ?_
  intro r1 F1 G1 hK1
  dsimp only
  unfold cb_X3_joinedOperands_72
  refine PP.bind (cw_X2_next F1 G1) ?_
  intro r2 F2 G2 hK2
  dsimp only
  unfold cb_X3_joinedOperands_79
  exact hag_23 x1 x3 (x4 + (1 : Int32)) F2 G2 (KX.tr (KX.tr hK hK1 rfl rfl) hK2 rfl rfl)
theorem cwz_X3_joinedOperands_23 {fu : Nat} (rc : RC) (ih : cKI1 rc) {F0 : PF} {G0 : PG} (ag_9 : Int32 → Int32 → Int32 → PF → PG → PR) (hag_9 : ∀ (x1 : Int32) (x2 : Int32) (x3 : Int32) (F : PF) (G : PG) (hK : KX [6, 9, 10, 11, 12, 13, 14, 21, 43, 44, 47] [5, 20] F0 G0 F G), PP (ag_9 x1 x2 x3 F G) (fun _ F' G' => KX [6, 9, 10, 11, 12, 13, 14, 21, 43, 44, 47] [5, 20] F0 G0 F' G')) : ∀ (n : Nat) (x1 : Int32) (x3 : Int32) (x4 : Int32) (F : PF) (G : PG) (hK : KX [6, 9, 10, 11, 12, 13, 14, 21, 43, 44, 47] [5, 20] F0 G0 F G), PP (cl_X3_joinedOperands_23 fu rc ag_9 n x1 x3 x4 F G) (fun _ F' G' => KX [6, 9, 10, 11, 12, 13, 14, 21, 43, 44, 47] [5, 20] F0 G0 F' G') := by
  intro n
  induction n with
  | zero =>
    intro x1 x3 x4 F G hK
    exact PP.no
  | succ n ihn =>
    intro x1 x3 x4 F G hK
    show PP (cb_X3_joinedOperands_23 fu rc ag_9 (cl_X3_joinedOperands_23 fu rc ag_9 n) x1 x3 x4 F G) _
    unfold cb_X3_joinedOperands_23
    refine PP.ite (fun c_1 => ?_) (fun c_1 => ?_)
    · skip
      exact cwj_X3_joinedOperands_85 rc ih ag_9 hag_9 x1 x3 F G hK
    · skip
      unfold cb_X3_joinedOperands_31
      refine PP.bind (cw_X3_isAhead (F 11) F G) ?_
      intro r2 F2 G2 hK2
      dsimp only
      unfold cb_X3_joinedOperands_41
      refine PP.ite (fun c_3 => ?_) (fun c_3 => ?_)
      · skip
        exact cwj_X3_joinedOperands_85 rc ih ag_9 hag_9 x1 x3 F2 G2 (KX.tr hK hK2 rfl rfl)
      · skip
        unfold cb_X3_joinedOperands_44
        refine PP.ite (fun c_4 => ?_) (fun c_4 => ?_)
        · skip
          unfold cb_X3_joinedOperands_57
          exact cwj_X3_joinedOperands_69 rc ih ag_9 hag_9 (cl_X3_joinedOperands_23 fu rc ag_9 n) ihn x1 x3 x4 (64 : Int32) F2 G2 (KX.tr hK hK2 rfl rfl)
        · skip
          unfold cb_X3_joinedOperands_62
          exact cwj_X3_joinedOperands_69 rc ih ag_9 hag_9 (cl_X3_joinedOperands_23 fu rc ag_9 n) ihn x1 x3 x4 (F2 11) F2 G2 (KX.tr hK hK2 rfl rfl)
theorem cwz_X3_joinedOperands_9 {fu : Nat} (rc : RC) (ih : cKI1 rc) {F0 : PF} {G0 : PG} : ∀ (n : Nat) (x1 : Int32) (x2 : Int32) (x3 : Int32) (F : PF) (G : PG) (hK : KX [6, 9, 10, 11, 12, 13, 14, 21, 43, 44, 47] [5, 20] F0 G0 F G), PP (cl_X3_joinedOperands_9 fu rc n x1 x2 x3 F G) (fun _ F' G' => KX [6, 9, 10, 11, 12, 13, 14, 21, 43, 44, 47] [5, 20] F0 G0 F' G') := by
  intro n
  induction n with
  | zero =>
    intro x1 x2 x3 F G hK
    exact PP.no
  | succ n ihn =>
    intro x1 x2 x3 F G hK
    show PP (cb_X3_joinedOperands_9 fu rc (cl_X3_joinedOperands_9 fu rc n) x1 x2 x3 F G) _
    unfold cb_X3_joinedOperands_9
    refine PP.ite (fun c_1 => ?_) (fun c_1 => ?_)
    · skip
      exact cwj_X3_joinedOperands_162 rc ih x1 F G hK
    · skip
      unfold cb_X3_joinedOperands_16
      refine PP.ite (fun c_2 => ?_) (fun c_2 => ?_)
      · skip
        exact cwj_X3_joinedOperands_162 rc ih x1 F G hK
      · skip
        unfold cb_X3_joinedOperands_20
        exact cwz_X3_joinedOperands_23 rc ih (cl_X3_joinedOperands_9 fu rc n) ihn fu x1 x3 (0 : Int32) F G hK
theorem cwt_X3_joinedOperands {fu : Nat} (rc : RC) (ih : cKI1 rc) (F : PF) (G : PG) : PP (ch_X3_joinedOperands fu rc F G) (fun _ F' G' => KX [6, 9, 10, 11, 12, 13, 14, 21, 43, 44, 47] [5, 20] F G F' G') := by
  unfold ch_X3_joinedOperands
  unfold cb_X3_joinedOperands_0
  exact cwz_X3_joinedOperands_9 rc ih fu (F 21) (1 : Int32) (0 : Int32) F G KX.rf
theorem cwj_X3_named_98 {fu : Nat} (rc : RC) (ih : cKI1 rc) {F0 : PF} {G0 : PG} (F : PF) (G : PG) (hK : KX [6, 9, 10, 11, 12, 13, 14, 21, 43, 44, 47] [5, 20] F0 G0 F G) : PP (cb_X3_named_98 fu rc F G) (fun _ F' G' => KX [6, 9, 10, 11, 12, 13, 14, 21, 43, 44, 47] [5, 20] F0 G0 F' G') := by
  unfold cb_X3_named_98
  refine PP.ret ?_
  exact hK
theorem cwt_X3_named {fu : Nat} (rc : RC) (ih : cKI1 rc) (F : PF) (G : PG) : PP (ch_X3_named fu rc F G) (fun _ F' G' => KX [6, 9, 10, 11, 12, 13, 14, 21, 43, 44, 47] [5, 20] F G F' G') := by
  unfold ch_X3_named
  unfold cb_X3_named_0
  refine PP.bind (cw_X5_meant (F 12) (F 13) F G) ?_
  intro r1 F1 G1 hK1
  dsimp only
  unfold cb_X3_named_23
  refine PP.bind (cw_X2_next F1 G1) ?_
  intro r2 F2 G2 hK2
  dsimp only
  unfold cb_X3_named_31
  refine PP.bind (cw_X5_wantValue r1 (F 13) (F2 11) F2 G2) ?_
  intro r3 F3 G3 hK3
  dsimp only
  unfold cb_X3_named_47
  refine PP.ite (fun c_4 => ?_) (fun c_4 => ?_)
  · skip
    unfold cb_X3_named_59
    refine PP.bind (ih 0 r1 (F 13) F3 G3) ?_
    intro r5 F5 G5 hK5
    dsimp only
    unfold cb_X3_named_65
    exact cwj_X3_named_98 rc ih F5 G5 (KX.tr (KX.tr (KX.tr (KX.tr KX.rf hK1 rfl rfl) hK2 rfl rfl) hK3 rfl rfl) hK5 rfl rfl)
  · skip
    unfold cb_X3_named_68
    refine PP.ite (fun c_6 => ?_) (fun c_6 => ?_)
    · skip
      unfold cb_X3_named_80
      refine PP.bind (ih 2 r1 0 F3 G3) ?_
      intro r7 F7 G7 hK7
      dsimp only
      unfold cb_X3_named_85
      refine PP.bind (cw_X3_fetch r1 F7 G7) ?_
      intro r8 F8 G8 hK8
      dsimp only
      unfold cb_X3_named_90
      exact cwj_X3_named_98 rc ih F8 G8 (KX.tr (KX.tr (KX.tr (KX.tr (KX.tr KX.rf hK1 rfl rfl) hK2 rfl rfl) hK3 rfl rfl) hK7 rfl rfl) hK8 rfl rfl)
    · skip
      unfold cb_X3_named_93
      refine PP.bind (cw_X3_load r1 F3 G3) ?_
      intro r9 F9 G9 hK9
      dsimp only
      exact cwj_X3_named_98 rc ih F9 G9 (KX.tr (KX.tr (KX.tr (KX.tr KX.rf hK1 rfl rfl) hK2 rfl rfl) hK3 rfl rfl) hK9 rfl rfl)
theorem cwj_X3_operand_183 {fu : Nat} (rc : RC) (ih : cKI1 rc) {F0 : PF} {G0 : PG} (F : PF) (G : PG) (hK : KX [6, 9, 10, 11, 12, 13, 14, 21, 43, 44, 47] [5, 20] F0 G0 F G) : PP (cb_X3_operand_183 fu rc F G) (fun _ F' G' => KX [6, 9, 10, 11, 12, 13, 14, 21, 43, 44, 47] [5, 20] F0 G0 F' G') := by
  unfold cb_X3_operand_183
  refine PP.ret ?_
  exact hK
theorem cwj_X3_operand_135 {fu : Nat} (rc : RC) (ih : cKI1 rc) {F0 : PF} {G0 : PG} (F : PF) (G : PG) (hK : KX [6, 9, 10, 11, 12, 13, 14, 21, 43, 44, 47] [5, 20] F0 G0 F G) : PP (cb_X3_operand_135 fu rc F G) (fun _ F' G' => KX [6, 9, 10, 11, 12, 13, 14, 21, 43, 44, 47] [5, 20] F0 G0 F' G') := by
  unfold cb_X3_operand_135
  refine PP.bind (cw_X1_add (17 : Int32) F G) ?_
  intro r1 F1 G1 hK1
  dsimp only
  unfold cb_X3_operand_144
  exact cwj_X3_operand_183 rc ih F1 G1 (KX.tr hK hK1 rfl rfl)
theorem cwj_X3_operand_107 {fu : Nat} (rc : RC) (ih : cKI1 rc) {F0 : PF} {G0 : PG} (F : PF) (G : PG) (hK : KX [6, 9, 10, 11, 12, 13, 14, 21, 43, 44, 47] [5, 20] F0 G0 F G) : PP (cb_X3_operand_107 fu rc F G) (fun _ F' G' => KX [6, 9, 10, 11, 12, 13, 14, 21, 43, 44, 47] [5, 20] F0 G0 F' G') := by
  unfold cb_X3_operand_107
  refine PP.bind (cw_X2_next F G) ?_
  intro r1 F1 G1 hK1
  dsimp only
  unfold cb_X3_operand_114
  refine PP.bind (cw_X2_opens (19 : Int32) F1 G1) ?_
  intro r2 F2 G2 hK2
  dsimp only
  unfold cb_X3_operand_123
  refine PP.ite (fun c_3 => ?_) (fun c_3 => ?_)
  · skip
    exact cwj_X3_operand_135 rc ih F2 G2 (KX.tr (KX.tr hK hK1 rfl rfl) hK2 rfl rfl)
  · skip
    unfold cb_X3_operand_126
    refine PP.bind (cw_X2_closesWith (20 : Int32) F2 G2) ?_
    intro r4 F4 G4 hK4
    dsimp only
    exact cwj_X3_operand_135 rc ih F4 G4 (KX.tr (KX.tr (KX.tr hK hK1 rfl rfl) hK2 rfl rfl) hK4 rfl rfl)
theorem cwt_X3_operand {fu : Nat} (rc : RC) (ih : cKI1 rc) (F : PF) (G : PG) : PP (ch_X3_operand fu rc F G) (fun _ F' G' => KX [6, 9, 10, 11, 12, 13, 14, 21, 43, 44, 47] [5, 20] F G F' G') := by
  unfold ch_X3_operand
  unfold cb_X3_operand_0
  refine PP.ite (fun c_1 => ?_) (fun c_1 => ?_)
  · skip
    unfold cb_X3_operand_74
    refine PP.bind (ih 4 0 0 F G) ?_
    intro r2 F2 G2 hK2
    dsimp only
    unfold cb_X3_operand_78
    exact cwj_X3_operand_183 rc ih F2 G2 (KX.tr KX.rf hK2 rfl rfl)
  refine PP.ite (fun c_3 => ?_) (fun c_3 => ?_)
  · skip
    unfold cb_X3_operand_48
    refine PP.bind (cw_X1_addPair (66 : Int32) (F 12) F G) ?_
    intro r4 F4 G4 hK4
    dsimp only
    unfold cb_X3_operand_64
    refine PP.bind (cw_X2_next F4 G4) ?_
    intro r5 F5 G5 hK5
    dsimp only
    unfold cb_X3_operand_71
    exact cwj_X3_operand_183 rc ih F5 G5 (KX.tr (KX.tr KX.rf hK4 rfl rfl) hK5 rfl rfl)
  refine PP.ite (fun c_6 => ?_) (fun c_6 => ?_)
  · skip
    unfold cb_X3_operand_81
    refine PP.ite (fun c_7 => ?_) (fun c_7 => ?_)
    · skip
      exact cwj_X3_operand_107 rc ih F G KX.rf
    · skip
      unfold cb_X3_operand_91
      refine PP.bind (cw_X5_note (7 : Int32) (F 13) F G) ?_
      intro r8 F8 G8 hK8
      dsimp only
      exact cwj_X3_operand_107 rc ih F8 G8 (KX.tr KX.rf hK8 rfl rfl)
  refine PP.ite (fun c_9 => ?_) (fun c_9 => ?_)
  · skip
    unfold cb_X3_operand_147
    refine PP.bind (cw_X2_opens (19 : Int32) F G) ?_
    intro r10 F10 G10 hK10
    dsimp only
    unfold cb_X3_operand_156
    refine PP.ite (fun c_11 => ?_) (fun c_11 => ?_)
    · skip
      exact cwj_X3_operand_183 rc ih F10 G10 (KX.tr KX.rf hK10 rfl rfl)
    · skip
      unfold cb_X3_operand_159
      refine PP.bind (ih 1 0 0 F10 G10) ?_
      intro r12 F12 G12 hK12
      dsimp only
      unfold cb_X3_operand_163
      refine PP.bind (cw_X2_closesWith (20 : Int32) F12 G12) ?_
      intro r13 F13 G13 hK13
      dsimp only
      unfold cb_X3_operand_172
      exact cwj_X3_operand_183 rc ih F13 G13 (KX.tr (KX.tr (KX.tr KX.rf hK10 rfl rfl) hK12 rfl rfl) hK13 rfl rfl)
  unfold cb_X3_operand_175
  refine PP.bind (cw_X2_fail (2 : Int32) F G) ?_
  intro r14 F14 G14 hK14
  dsimp only
  exact cwj_X3_operand_183 rc ih F14 G14 (KX.tr KX.rf hK14 rfl rfl)
theorem cwS1 {fu : Nat} : ∀ d : Nat, cKI1 (cS1 fu d) := by
  intro d
  induction d with
  | zero => exact fun _ _ _ _ _ => PP.no
  | succ d ih =>
    intro i x y F G
    exact PP.ite (fun _ => cwt_X3_call (cS1 fu d) ih x y F G) (fun _ => PP.ite (fun _ => cwt_X3_expression (cS1 fu d) ih F G) (fun _ => PP.ite (fun _ => cwt_X3_index (cS1 fu d) ih x F G) (fun _ => PP.ite (fun _ => cwt_X3_joinedOperands (cS1 fu d) ih F G) (fun _ => PP.ite (fun _ => cwt_X3_named (cS1 fu d) ih F G) (fun _ => PP.ite (fun _ => cwt_X3_operand (cS1 fu d) ih F G) (fun _ => PP.no))))))
theorem cw_X3_call {fu : Nat} (x : Int32) (y : Int32) (F : PF) (G : PG) : PP (cf_X3_call fu x y F G) (fun _ F' G' => KX [6, 9, 10, 11, 12, 13, 14, 21, 43, 44, 47] [5, 20] F G F' G') := cwS1 300 0 x y F G
theorem cw_X3_expression {fu : Nat} (F : PF) (G : PG) : PP (cf_X3_expression fu F G) (fun _ F' G' => KX [6, 9, 10, 11, 12, 13, 14, 21, 43, 44, 47] [5, 20] F G F' G') := cwS1 300 1 0 0 F G
theorem cw_X3_index {fu : Nat} (x : Int32) (F : PF) (G : PG) : PP (cf_X3_index fu x F G) (fun _ F' G' => KX [6, 9, 10, 11, 12, 13, 14, 21, 43, 44, 47] [5, 20] F G F' G') := cwS1 300 2 x 0 F G
theorem cw_X3_joinedOperands {fu : Nat} (F : PF) (G : PG) : PP (cf_X3_joinedOperands fu F G) (fun _ F' G' => KX [6, 9, 10, 11, 12, 13, 14, 21, 43, 44, 47] [5, 20] F G F' G') := cwS1 300 3 0 0 F G
theorem cw_X3_named {fu : Nat} (F : PF) (G : PG) : PP (cf_X3_named fu F G) (fun _ F' G' => KX [6, 9, 10, 11, 12, 13, 14, 21, 43, 44, 47] [5, 20] F G F' G') := cwS1 300 4 0 0 F G
theorem cw_X3_operand {fu : Nat} (F : PF) (G : PG) : PP (cf_X3_operand fu F G) (fun _ F' G' => KX [6, 9, 10, 11, 12, 13, 14, 21, 43, 44, 47] [5, 20] F G F' G') := cwS1 300 5 0 0 F G
theorem cwj_X6_changed_57 {fu : Nat} {F0 : PF} {G0 : PG} (z0 : Int32) (F : PF) (G : PG) (hK : KX [] [] F0 G0 F G) : PP (cb_X6_changed_57 fu z0 F G) (fun _ F' G' => KX [] [] F0 G0 F' G') := by
  unfold cb_X6_changed_57
  refine PP.bind (cw_X11_truth z0 F G) ?_
  intro r1 F1 G1 hK1
  dsimp only
  unfold cb_X6_changed_60
  refine PP.ret ?_
  exact (KX.tr hK hK1 rfl rfl)
theorem cwj_X6_changed_41 {fu : Nat} {F0 : PF} {G0 : PG} (z0 : Int32) (F : PF) (G : PG) (hK : KX [] [] F0 G0 F G) : PP (cb_X6_changed_41 fu z0 F G) (fun _ F' G' => KX [] [] F0 G0 F' G') := by
  unfold cb_X6_changed_41
  refine PP.bind (cw_X11_truth z0 F G) ?_
  intro r1 F1 G1 hK1
  dsimp only
  unfold cb_X6_changed_44
  refine PP.ret ?_
  exact (KX.tr hK hK1 rfl rfl)
theorem cw_X6_changed {fu : Nat} (x0 : Int32) (x1 : Int32) (F : PF) (G : PG) : PP (cf_X6_changed fu x0 x1 F G) (fun _ F' G' => KX [] [] F G F' G') := by
  unfold cf_X6_changed
  unfold cb_X6_changed_0
  refine PP.ite (fun c_1 => ?_) (fun c_1 => ?_)
  · have e_2 : x0.toInt < 62 ∨ 64 < x0.toInt := c_1
    unfold cb_X6_changed_48
    refine PP.ite (fun c_3 => ?_) (fun c_3 => ?_)
    · skip
      unfold cb_X6_changed_56
      exact cwj_X6_changed_57 (0 : Int32) F G KX.rf
    · skip
      unfold cb_X6_changed_52
      exact cwj_X6_changed_57 (1 : Int32) F G KX.rf
  have e_4 : ¬ (x0.toInt < 62 ∨ 64 < x0.toInt) := c_1
  refine PP.ite (fun c_5 => ?_) (fun c_5 => ?_)
  · skip
    unfold cb_X6_changed_28
    refine PP.ret ?_
    exact KX.rf
  refine PP.ite (fun c_6 => ?_) (fun c_6 => ?_)
  · skip
    unfold cb_X6_changed_32
    refine PP.ite (fun c_7 => ?_) (fun c_7 => ?_)
    · skip
      unfold cb_X6_changed_36
      exact cwj_X6_changed_41 (1 : Int32) F G KX.rf
    · skip
      unfold cb_X6_changed_40
      exact cwj_X6_changed_41 (0 : Int32) F G KX.rf
  unfold cb_X6_changed_45
  refine PP.ret ?_
  exact KX.rf
theorem cwj_X6_next_38 {fu : Nat} {F0 : PF} {G0 : PG} (z0 : Int32) (F : PF) (G : PG) (hK : KX [57] [] F0 G0 F G) : PP (cb_X6_next_38 fu z0 F G) (fun _ F' G' => KX [57] [] F0 G0 F' G') := by
  unfold cb_X6_next_38
  unfold cb_X6_next_49
  refine PP.ret ?_
  exact (KX.f (k := 57) rfl hK)
theorem cwj_X6_next_21 {fu : Nat} {F0 : PF} {G0 : PG} (F : PF) (G : PG) (hK : KX [57] [] F0 G0 F G) : PP (cb_X6_next_21 fu F G) (fun _ F' G' => KX [57] [] F0 G0 F' G') := by
  unfold cb_X6_next_21
  exact cwj_X6_next_38 (18 : Int32) F G hK
theorem cw_X6_next {fu : Nat} (F : PF) (G : PG) : PP (cf_X6_next fu F G) (fun _ F' G' => KX [57] [] F G F' G') := by
  unfold cf_X6_next
  unfold cb_X6_next_0
  refine PP.ite (fun c_1 => ?_) (fun c_1 => ?_)
  · skip
    exact cwj_X6_next_21 F G KX.rf
  · skip
    unfold cb_X6_next_7
    refine PP.ite (fun c_2 => ?_) (fun c_2 => ?_)
    · skip
      unfold cb_X6_next_26
      refine PP.ix (fun _ => ?_)
      exact cwj_X6_next_38 (G 5 (F 57).toNatClampNeg) F G KX.rf
    · skip
      exact cwj_X6_next_21 F G KX.rf
theorem cw_X6_push {fu : Nat} (x1 : Int32) (F : PF) (G : PG) : PP (cf_X6_push fu x1 F G) (fun _ F' G' => KX [56, 300] [55] F G F' G') := by
  have h40 : ∀ (F1 : PF) (G1 : PG), KX [56, 300] [55] F G F1 G1 → PP (cb_X6_push_40 fu x1 F1 G1) (fun _ F' G' => KX [56, 300] [55] F G F' G') := by
    intro F1 G1 h
    unfold cb_X6_push_40 cb_X6_push_52 cb_X6_push_62 cb_X6_push_72
    exact PP.ite (fun _ => PP.ret h) (fun _ => PP.ix (fun _ => PP.ret (KX.f (k := 56) rfl (KX.g (k := 55) rfl h))))
  unfold cf_X6_push cb_X6_push_0 cb_X6_push_12 cb_X6_push_22
  refine PP.ite (fun _ => h40 F G KX.rf) (fun _ => PP.ite (fun _ => h40 F G KX.rf) (fun _ => ?_))
  by_cases c : gok F = true
  · rw [if_pos c]
    refine h40 _ _ (KX.f (k := 300) rfl ⟨fun _ _ => rfl, fun j hj => ?_⟩)
    have hne : j ≠ 55 := fun q => by rw [q] at hj; exact absurd hj (by decide)
    exact if_neg hne
  · rw [if_neg c]
    exact PP.no
theorem cw_X6_pop {fu : Nat} (F : PF) (G : PG) : PP (cf_X6_pop fu F G) (fun _ F' G' => KX [56] [] F G F' G') := by
  unfold cf_X6_pop
  unfold cb_X6_pop_0
  refine PP.ite (fun c_1 => ?_) (fun c_1 => ?_)
  · skip
    unfold cb_X6_pop_9
    unfold cb_X6_pop_19
    refine PP.ix (fun _ => ?_)
    refine PP.ret ?_
    exact (KX.f (k := 56) rfl KX.rf)
  · skip
    unfold cb_X6_pop_7
    refine PP.ret ?_
    exact KX.rf
theorem cwj_X6_jump_78 {fu : Nat} {F0 : PF} {G0 : PG} (F : PF) (G : PG) (hK : KX [56, 57, 300] [55] F0 G0 F G) : PP (cb_X6_jump_78 fu F G) (fun _ F' G' => KX [56, 57, 300] [55] F0 G0 F' G') := by
  unfold cb_X6_jump_78
  refine PP.ret ?_
  exact hK
theorem cwj_X6_jump_69 {fu : Nat} {F0 : PF} {G0 : PG} (x2 : Int32) (x3 : Int32) (F : PF) (G : PG) (hK : KX [56, 57, 300] [55] F0 G0 F G) : PP (cb_X6_jump_69 fu x2 x3 F G) (fun _ F' G' => KX [56, 57, 300] [55] F0 G0 F' G') := by
  unfold cb_X6_jump_69
  refine PP.ite (fun c_1 => ?_) (fun c_1 => ?_)
  · skip
    exact cwj_X6_jump_78 F G hK
  · skip
    unfold cb_X6_jump_73
    exact cwj_X6_jump_78 (fup F 57 x2) G (KX.f (k := 57) rfl hK)
theorem cwj_X6_jump_49 {fu : Nat} {F0 : PF} {G0 : PG} (x1 : Int32) (x2 : Int32) (x4 : Int32) (z0 : Int32) (F : PF) (G : PG) (hK : KX [56, 57, 300] [55] F0 G0 F G) : PP (cb_X6_jump_49 fu x1 x2 x4 z0 F G) (fun _ F' G' => KX [56, 57, 300] [55] F0 G0 F' G') := by
  unfold cb_X6_jump_49
  refine PP.ite (fun c_1 => ?_) (fun c_1 => ?_)
  · skip
    exact cwj_X6_jump_69 x2 z0 F G hK
  · skip
    unfold cb_X6_jump_54
    refine PP.ite (fun c_2 => ?_) (fun c_2 => ?_)
    · skip
      exact cwj_X6_jump_69 x2 z0 F G hK
    · skip
      unfold cb_X6_jump_60
      refine PP.bind (cw_X11_truth x4 F G) ?_
      intro r3 F3 G3 hK3
      dsimp only
      unfold cb_X6_jump_66
      refine PP.bind (cw_X6_push r3 F3 G3) ?_
      intro r4 F4 G4 hK4
      dsimp only
      exact cwj_X6_jump_69 x2 z0 F4 G4 (KX.tr (KX.tr hK hK3 rfl rfl) hK4 rfl rfl)
theorem cwj_X6_jump_41 {fu : Nat} {F0 : PF} {G0 : PG} (x1 : Int32) (x2 : Int32) (x4 : Int32) (z0 : Int32) (z1 : Int32) (F : PF) (G : PG) (hK : KX [56, 57, 300] [55] F0 G0 F G) : PP (cb_X6_jump_41 fu x1 x2 x4 z0 z1 F G) (fun _ F' G' => KX [56, 57, 300] [55] F0 G0 F' G') := by
  unfold cb_X6_jump_41
  refine PP.ite (fun c_1 => ?_) (fun c_1 => ?_)
  · skip
    unfold cb_X6_jump_44
    exact cwj_X6_jump_49 x1 x2 x4 (1 : Int32) F G hK
  · skip
    unfold cb_X6_jump_48
    exact cwj_X6_jump_49 x1 x2 x4 (0 : Int32) F G hK
theorem cwj_X6_jump_36 {fu : Nat} {F0 : PF} {G0 : PG} (x1 : Int32) (x2 : Int32) (x4 : Int32) (z0 : Int32) (F : PF) (G : PG) (hK : KX [56, 57, 300] [55] F0 G0 F G) : PP (cb_X6_jump_36 fu x1 x2 x4 z0 F G) (fun _ F' G' => KX [56, 57, 300] [55] F0 G0 F' G') := by
  unfold cb_X6_jump_36
  exact cwj_X6_jump_41 x1 x2 x4 (1 : Int32) z0 F G hK
theorem cwj_X6_jump_20 {fu : Nat} {F0 : PF} {G0 : PG} (x1 : Int32) (x2 : Int32) (z0 : Int32) (F : PF) (G : PG) (hK : KX [56, 57, 300] [55] F0 G0 F G) : PP (cb_X6_jump_20 fu x1 x2 z0 F G) (fun _ F' G' => KX [56, 57, 300] [55] F0 G0 F' G') := by
  unfold cb_X6_jump_20
  refine PP.ite (fun c_1 => ?_) (fun c_1 => ?_)
  · skip
    exact cwj_X6_jump_36 x1 x2 z0 z0 F G hK
  · skip
    unfold cb_X6_jump_30
    refine PP.ite (fun c_2 => ?_) (fun c_2 => ?_)
    · skip
      exact cwj_X6_jump_36 x1 x2 z0 z0 F G hK
    · skip
      unfold cb_X6_jump_40
      exact cwj_X6_jump_41 x1 x2 z0 (0 : Int32) z0 F G hK
theorem cw_X6_jump {fu : Nat} (x1 : Int32) (x2 : Int32) (F : PF) (G : PG) : PP (cf_X6_jump fu x1 x2 F G) (fun _ F' G' => KX [56, 57, 300] [55] F G F' G') := by
  unfold cf_X6_jump
  unfold cb_X6_jump_0
  refine PP.ite (fun c_1 => ?_) (fun c_1 => ?_)
  · skip
    exact cwj_X6_jump_69 x2 (1 : Int32) F G KX.rf
  · skip
    unfold cb_X6_jump_8
    refine PP.bind (cw_X6_pop F G) ?_
    intro r2 F2 G2 hK2
    dsimp only
    unfold cb_X6_jump_12
    refine PP.ite (fun c_3 => ?_) (fun c_3 => ?_)
    · skip
      unfold cb_X6_jump_19
      exact cwj_X6_jump_20 x1 x2 (0 : Int32) F2 G2 (KX.tr KX.rf hK2 rfl rfl)
    · skip
      unfold cb_X6_jump_15
      exact cwj_X6_jump_20 x1 x2 (1 : Int32) F2 G2 (KX.tr KX.rf hK2 rfl rfl)
theorem cwj_X6_valueFrom_119 {fu : Nat} {F0 : PF} {G0 : PG} (F : PF) (G : PG) (hK : KX [56, 57, 300] [55] F0 G0 F G) : PP (cb_X6_valueFrom_119 fu F G) (fun _ F' G' => KX [56, 57, 300] [55] F0 G0 F' G') := by
  unfold cb_X6_valueFrom_119
  refine PP.bind (cw_X6_pop F G) ?_
  intro r1 F1 G1 hK1
  dsimp only
  unfold cb_X6_valueFrom_123
  refine PP.ret ?_
  exact (KX.tr hK hK1 rfl rfl)
theorem cwj_X6_valueFrom_113 {fu : Nat} {F0 : PF} {G0 : PG} (ag_12 : Int32 → PF → PG → PR) (hag_12 : ∀ (x2 : Int32) (F : PF) (G : PG) (hK : KX [56, 57, 300] [55] F0 G0 F G), PP (ag_12 x2 F G) (fun _ F' G' => KX [56, 57, 300] [55] F0 G0 F' G')) (x2 : Int32) (F : PF) (G : PG) (hK : KX [56, 57, 300] [55] F0 G0 F G) : PP (cb_X6_valueFrom_113 fu ag_12 x2 F G) (fun _ F' G' => KX [56, 57, 300] [55] F0 G0 F' G') := by
  unfold cb_X6_valueFrom_113
  exact hag_12 (x2 + (1 : Int32)) F G hK
theorem cwz_X6_valueFrom_12 {fu : Nat} {F0 : PF} {G0 : PG} : ∀ (n : Nat) (x2 : Int32) (F : PF) (G : PG) (hK : KX [56, 57, 300] [55] F0 G0 F G), PP (cl_X6_valueFrom_12 fu n x2 F G) (fun _ F' G' => KX [56, 57, 300] [55] F0 G0 F' G') := by
  intro n
  induction n with
  | zero =>
    intro x2 F G hK
    exact PP.no
  | succ n ihn =>
    intro x2 F G hK
    show PP (cb_X6_valueFrom_12 fu (cl_X6_valueFrom_12 fu n) x2 F G) _
    unfold cb_X6_valueFrom_12
    refine PP.ite (fun c_1 => ?_) (fun c_1 => ?_)
    · skip
      exact cwj_X6_valueFrom_119 F G hK
    · skip
      unfold cb_X6_valueFrom_18
      refine PP.ite (fun c_2 => ?_) (fun c_2 => ?_)
      · skip
        exact cwj_X6_valueFrom_119 F G hK
      · skip
        unfold cb_X6_valueFrom_32
        refine PP.bind (cw_X6_next F G) ?_
        intro r3 F3 G3 hK3
        dsimp only
        unfold cb_X6_valueFrom_36
        refine PP.ite (fun c_4 => ?_) (fun c_4 => ?_)
        · skip
          unfold cb_X6_valueFrom_43
          refine PP.bind (cw_X6_next F3 G3) ?_
          intro r5 F5 G5 hK5
          dsimp only
          unfold cb_X6_valueFrom_48
          refine PP.bind (cw_X6_push r5 F5 G5) ?_
          intro r6 F6 G6 hK6
          dsimp only
          unfold cb_X6_valueFrom_51
          exact cwj_X6_valueFrom_113 (cl_X6_valueFrom_12 fu n) ihn x2 F6 G6 (KX.tr (KX.tr (KX.tr hK hK3 rfl rfl) hK5 rfl rfl) hK6 rfl rfl)
        · skip
          unfold cb_X6_valueFrom_54
          refine PP.ite (fun c_7 => ?_) (fun c_7 => ?_)
          · skip
            unfold cb_X6_valueFrom_72
            refine PP.ite (fun c_8 => ?_) (fun c_8 => ?_)
            · skip
              unfold cb_X6_valueFrom_93
              refine PP.bind (cw_X6_pop F3 G3) ?_
              intro r9 F9 G9 hK9
              dsimp only
              unfold cb_X6_valueFrom_97
              refine PP.bind (cw_X6_pop F9 G9) ?_
              intro r10 F10 G10 hK10
              dsimp only
              unfold cb_X6_valueFrom_105
              refine PP.bind (cw_X11_joined r3 r10 r9 F10 G10) ?_
              intro r11 F11 G11 hK11
              dsimp only
              unfold cb_X6_valueFrom_110
              refine PP.bind (cw_X6_push r11 F11 G11) ?_
              intro r12 F12 G12 hK12
              dsimp only
              exact cwj_X6_valueFrom_113 (cl_X6_valueFrom_12 fu n) ihn x2 F12 G12 (KX.tr (KX.tr (KX.tr (KX.tr (KX.tr hK hK3 rfl rfl) hK9 rfl rfl) hK10 rfl rfl) hK11 rfl rfl) hK12 rfl rfl)
            · skip
              unfold cb_X6_valueFrom_78
              refine PP.bind (cw_X6_pop F3 G3) ?_
              intro r13 F13 G13 hK13
              dsimp only
              unfold cb_X6_valueFrom_84
              refine PP.bind (cw_X6_changed r3 r13 F13 G13) ?_
              intro r14 F14 G14 hK14
              dsimp only
              unfold cb_X6_valueFrom_87
              refine PP.bind (cw_X6_push r14 F14 G14) ?_
              intro r15 F15 G15 hK15
              dsimp only
              unfold cb_X6_valueFrom_90
              exact cwj_X6_valueFrom_113 (cl_X6_valueFrom_12 fu n) ihn x2 F15 G15 (KX.tr (KX.tr (KX.tr (KX.tr hK hK3 rfl rfl) hK13 rfl rfl) hK14 rfl rfl) hK15 rfl rfl)
          · skip
            unfold cb_X6_valueFrom_60
            refine PP.bind (cw_X6_next F3 G3) ?_
            intro r16 F16 G16 hK16
            dsimp only
            unfold cb_X6_valueFrom_66
            refine PP.bind (cw_X6_jump r3 r16 F16 G16) ?_
            intro r17 F17 G17 hK17
            dsimp only
            unfold cb_X6_valueFrom_69
            exact cwj_X6_valueFrom_113 (cl_X6_valueFrom_12 fu n) ihn x2 F17 G17 (KX.tr (KX.tr (KX.tr hK hK3 rfl rfl) hK16 rfl rfl) hK17 rfl rfl)
theorem cw_X6_valueFrom {fu : Nat} (x1 : Int32) (F : PF) (G : PG) : PP (cf_X6_valueFrom fu x1 F G) (fun _ F' G' => KX [56, 57, 300] [55] F G F' G') := by
  unfold cf_X6_valueFrom
  unfold cb_X6_valueFrom_0
  unfold cb_X6_valueFrom_5
  unfold cb_X6_valueFrom_10
  exact cwz_X6_valueFrom_12 fu (0 : Int32) (fup (fup F 57 x1) 56 (0 : Int32)) G (KX.f (k := 56) rfl (KX.f (k := 57) rfl KX.rf))
theorem cwj_X3_constant_41 {fu : Nat} {F0 : PF} {G0 : PG} (x1 : Int32) (z0 : Int32) (F : PF) (G : PG) (hK : KX [6, 9, 10, 11, 12, 13, 14, 21, 43, 44, 46, 47, 56, 57, 300] [5, 20, 55] F0 G0 F G) : PP (cb_X3_constant_41 fu x1 z0 F G) (fun _ F' G' => KX [6, 9, 10, 11, 12, 13, 14, 21, 43, 44, 46, 47, 56, 57, 300] [5, 20, 55] F0 G0 F' G') := by
  unfold cb_X3_constant_41
  refine PP.bind (cw_X1_cut x1 F G) ?_
  intro r1 F1 G1 hK1
  dsimp only
  unfold cb_X3_constant_50
  refine PP.ret ?_
  exact (KX.tr hK hK1 rfl rfl)
theorem cw_X3_constant {fu : Nat} (F : PF) (G : PG) : PP (cf_X3_constant fu F G) (fun _ F' G' => KX [6, 9, 10, 11, 12, 13, 14, 21, 43, 44, 46, 47, 56, 57, 300] [5, 20, 55] F G F' G') := by
  unfold cf_X3_constant
  unfold cb_X3_constant_0
  refine PP.bind (cw_X5_startConstant F G) ?_
  intro r1 F1 G1 hK1
  dsimp only
  unfold cb_X3_constant_15
  refine PP.bind (cw_X3_expression F1 G1) ?_
  intro r2 F2 G2 hK2
  dsimp only
  unfold cb_X3_constant_19
  refine PP.bind (cw_X5_endsConstant F2 G2) ?_
  intro r3 F3 G3 hK3
  dsimp only
  unfold cb_X3_constant_26
  refine PP.ite (fun c_4 => ?_) (fun c_4 => ?_)
  · skip
    unfold cb_X3_constant_40
    exact cwj_X3_constant_41 (F 6) (0 : Int32) F3 G3 (KX.tr (KX.tr (KX.tr KX.rf hK1 rfl rfl) hK2 rfl rfl) hK3 rfl rfl)
  · skip
    unfold cb_X3_constant_29
    refine PP.bind (cw_X6_valueFrom (F 6) F3 G3) ?_
    intro r5 F5 G5 hK5
    dsimp only
    unfold cb_X3_constant_37
    exact cwj_X3_constant_41 (F 6) r5 F5 G5 (KX.tr (KX.tr (KX.tr (KX.tr KX.rf hK1 rfl rfl) hK2 rfl rfl) hK3 rfl rfl) hK5 rfl rfl)
