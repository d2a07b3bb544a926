theorem cw_J0_indexOf_0f7a4 {fu : Nat} (i : Nat) (x : Int32) (F : PF) (G : PG) : PP (cf_J0_indexOf_0f7a4 fu i x F G) (fun _ F' G' => KX [] [] F G F' G') := by
  have lp : ∀ (n i : Nat) (x3 x4 x5 : Int32), PP (cl_J1_indexOfChar_4cfef_7 fu n i x3 x4 x5 F G) (fun _ F' G' => F = F' ∧ G = G') := by
    intro n
    induction n with
    | zero =>
      intro i x3 x4 x5
      exact PP.no
    | succ n ih =>
      intro i x3 x4 x5
      show PP (cb_J1_indexOfChar_4cfef_7 fu (cl_J1_indexOfChar_4cfef_7 fu n) i x3 x4 x5 F G) _
      unfold cb_J1_indexOfChar_4cfef_7 cb_J1_indexOfChar_4cfef_31
      refine PP.ite (fun _ => PP.ret ⟨rfl, rfl⟩) (fun _ => ?_)
      unfold cb_J1_indexOfChar_4cfef_13 cb_J1_indexOfChar_4cfef_22 cb_J1_indexOfChar_4cfef_25
      exact PP.lt (fun _ => PP.ix (fun _ => PP.ite (fun _ => PP.ret ⟨rfl, rfl⟩) (fun _ => ih _ _ _ _)))
  have h1 : ∀ (i : Nat) (a b c : Int32), PP (cf_J1_indexOf_4cfef fu i a b c F G) (fun _ F' G' => F = F' ∧ G = G') := by
    intro i a b c
    unfold cf_J1_indexOf_4cfef cb_J1_indexOf_4cfef_0
    have hc : PP (cf_J1_canEncode_9a6ad fu a F G) (fun _ F' G' => F = F' ∧ G = G') := by
      unfold cf_J1_canEncode_9a6ad cb_J1_canEncode_9a6ad_0 cb_J1_canEncode_9a6ad_4 cb_J1_canEncode_9a6ad_15 cb_J1_canEncode_9a6ad_11 cb_J1_canEncode_9a6ad_16
      exact PP.ite (fun _ => PP.bz (fun _ => PP.ret ⟨rfl, rfl⟩)) (fun _ => PP.ite (fun _ => PP.bz (fun _ => PP.ret ⟨rfl, rfl⟩)) (fun _ => PP.bz (fun _ => PP.ret ⟨rfl, rfl⟩)))
    refine PP.bind hc ?_
    rintro r1 _ _ ⟨rfl, rfl⟩
    dsimp only
    unfold cb_J1_indexOf_4cfef_4 cb_J1_indexOf_4cfef_7
    refine PP.ite (fun _ => PP.ret ⟨rfl, rfl⟩) (fun _ => ?_)
    unfold cb_J1_indexOf_4cfef_9 cb_J1_indexOf_4cfef_14
    refine PP.lt (fun _ => ?_)
    unfold cb_J1_indexOf_4cfef_21 cb_J1_indexOf_4cfef_27
    refine PP.ite (fun _ => ?_) (fun _ => PP.ret ⟨rfl, rfl⟩)
    unfold cb_J1_indexOf_4cfef_29 cf_J1_indexOfChar_4cfef cb_J1_indexOfChar_4cfef_0
    refine PP.bind (lp _ _ _ _ _) ?_
    rintro r2 _ _ ⟨rfl, rfl⟩
    unfold cb_J1_indexOf_4cfef_36
    exact PP.ret ⟨rfl, rfl⟩
  unfold cf_J0_indexOf_0f7a4 cb_J0_indexOf_0f7a4_0
  have h7 : PP (cf_J0_indexOf_7cf53 fu i x 0 F G) (fun _ F' G' => F = F' ∧ G = G') := by
    unfold cf_J0_indexOf_7cf53 cb_J0_indexOf_7cf53_0
    have hl : PP (cf_J0_isLatin1_aae02 fu i F G) (fun _ F' G' => F = F' ∧ G = G') := by
      unfold cf_J0_isLatin1_aae02
      exact PP.lt (fun _ => PP.ret ⟨rfl, rfl⟩)
    refine PP.bind hl ?_
    rintro r1 _ _ ⟨rfl, rfl⟩
    dsimp only
    have hn : PP (cf_J0_length_8abf5 fu i F G) (fun _ F' G' => F = F' ∧ G = G') := by
      unfold cf_J0_length_8abf5
      exact PP.lt (fun _ => PP.ret ⟨rfl, rfl⟩)
    unfold cb_J0_indexOf_7cf53_4
    refine PP.ite (fun _ => ?_) (fun _ => ?_)
    · unfold cb_J0_indexOf_7cf53_23
      refine PP.lt (fun _ => PP.bind hn (fun r2 F2 G2 _ => ?_))
      unfold cb_J0_indexOf_7cf53_33
      exact PP.no
    · unfold cb_J0_indexOf_7cf53_7
      refine PP.lt (fun _ => PP.bind hn ?_)
      rintro r2 _ _ ⟨rfl, rfl⟩
      dsimp only
      unfold cb_J0_indexOf_7cf53_17
      refine PP.bind (h1 _ _ _ _) ?_
      rintro r3 _ _ ⟨rfl, rfl⟩
      unfold cb_J0_indexOf_7cf53_20 cb_J0_indexOf_7cf53_36
      exact PP.ret ⟨rfl, rfl⟩
  refine PP.bind h7 ?_
  rintro r1 _ _ ⟨rfl, rfl⟩
  unfold cb_J0_indexOf_0f7a4_6
  exact PP.ret KX.rf
theorem cwj_X10_behindLine_32 {fu : Nat} {F0 : PF} {G0 : PG} (x2 : Int32) (F : PF) (G : PG) (hK : KX [] [] F0 G0 F G) : PP (cb_X10_behindLine_32 fu x2 F G) (fun _ F' G' => KX [] [] F0 G0 F' G') := by
  unfold cb_X10_behindLine_32
  refine PP.ret ?_
  exact hK
theorem cwz_X10_behindLine_2 {fu : Nat} {F0 : PF} {G0 : PG} : ∀ (n : Nat) (x2 : Int32) (F : PF) (G : PG) (hK : KX [] [] F0 G0 F G), PP (cl_X10_behindLine_2 fu n x2 F G) (fun _ F' G' => KX [] [] F0 G0 F' G') := by
  intro n
  induction n with
  | zero =>
    intro x2 F G hK
    exact PP.no
  | succ n ihn =>
    intro x2 F G hK
    show PP (cb_X10_behindLine_2 fu (cl_X10_behindLine_2 fu n) x2 F G) _
    unfold cb_X10_behindLine_2
    refine PP.ite (fun c_1 => ?_) (fun c_1 => ?_)
    · skip
      exact cwj_X10_behindLine_32 x2 F G hK
    · skip
      unfold cb_X10_behindLine_13
      refine PP.bind (cw_X9_at x2 F G) ?_
      intro r2 F2 G2 hK2
      dsimp only
      unfold cb_X10_behindLine_21
      refine PP.ite (fun c_3 => ?_) (fun c_3 => ?_)
      · skip
        exact cwj_X10_behindLine_32 x2 F2 G2 (KX.tr hK hK2 rfl rfl)
      · skip
        unfold cb_X10_behindLine_26
        exact ihn (x2 + (1 : Int32)) F2 G2 (KX.tr hK hK2 rfl rfl)
theorem cw_X10_behindLine {fu : Nat} (x1 : Int32) (F : PF) (G : PG) : PP (cf_X10_behindLine fu x1 F G) (fun _ F' G' => KX [] [] F G F' G') := by
  unfold cf_X10_behindLine
  unfold cb_X10_behindLine_0
  exact cwz_X10_behindLine_2 fu x1 F G KX.rf
theorem cwj_X10_behindNote_47 {fu : Nat} {F0 : PF} {G0 : PG} (ag_4 : Int32 → PF → PG → PR) (hag_4 : ∀ (x2 : Int32) (F : PF) (G : PG) (hK : KX [] [] F0 G0 F G), PP (ag_4 x2 F G) (fun _ F' G' => KX [] [] F0 G0 F' G')) (x2 : Int32) (F : PF) (G : PG) (hK : KX [] [] F0 G0 F G) : PP (cb_X10_behindNote_47 fu ag_4 x2 F G) (fun _ F' G' => KX [] [] F0 G0 F' G') := by
  unfold cb_X10_behindNote_47
  exact hag_4 (x2 + (1 : Int32)) F G hK
theorem cwz_X10_behindNote_4 {fu : Nat} {F0 : PF} {G0 : PG} : ∀ (n : Nat) (x2 : Int32) (F : PF) (G : PG) (hK : KX [] [] F0 G0 F G), PP (cl_X10_behindNote_4 fu n x2 F G) (fun _ F' G' => KX [] [] F0 G0 F' G') := by
  intro n
  induction n with
  | zero =>
    intro x2 F G hK
    exact PP.no
  | succ n ihn =>
    intro x2 F G hK
    show PP (cb_X10_behindNote_4 fu (cl_X10_behindNote_4 fu n) x2 F G) _
    unfold cb_X10_behindNote_4
    refine PP.ite (fun c_1 => ?_) (fun c_1 => ?_)
    · skip
      unfold cb_X10_behindNote_53
      refine PP.ret ?_
      exact hK
    · skip
      unfold cb_X10_behindNote_15
      refine PP.bind (cw_X9_at x2 F G) ?_
      intro r2 F2 G2 hK2
      dsimp only
      unfold cb_X10_behindNote_23
      refine PP.ite (fun c_3 => ?_) (fun c_3 => ?_)
      · skip
        unfold cb_X10_behindNote_28
        refine PP.bind (cw_X9_at (x2 + (1 : Int32)) F2 G2) ?_
        intro r4 F4 G4 hK4
        dsimp only
        unfold cb_X10_behindNote_38
        refine PP.ite (fun c_5 => ?_) (fun c_5 => ?_)
        · skip
          unfold cb_X10_behindNote_43
          refine PP.ret ?_
          exact (KX.tr (KX.tr hK hK2 rfl rfl) hK4 rfl rfl)
        · skip
          exact cwj_X10_behindNote_47 (cl_X10_behindNote_4 fu n) ihn x2 F4 G4 (KX.tr (KX.tr hK hK2 rfl rfl) hK4 rfl rfl)
      · skip
        exact cwj_X10_behindNote_47 (cl_X10_behindNote_4 fu n) ihn x2 F2 G2 (KX.tr hK hK2 rfl rfl)
theorem cw_X10_behindNote {fu : Nat} (x1 : Int32) (F : PF) (G : PG) : PP (cf_X10_behindNote fu x1 F G) (fun _ F' G' => KX [] [] F G F' G') := by
  unfold cf_X10_behindNote
  unfold cb_X10_behindNote_0
  exact cwz_X10_behindNote_4 fu (x1 + (2 : Int32)) F G KX.rf
theorem cwj_X10_behindGap_130 {fu : Nat} {F0 : PF} {G0 : PG} (x2 : Int32) (F : PF) (G : PG) (hK : KX [] [] F0 G0 F G) : PP (cb_X10_behindGap_130 fu x2 F G) (fun _ F' G' => KX [] [] F0 G0 F' G') := by
  unfold cb_X10_behindGap_130
  refine PP.ret ?_
  exact hK
theorem cwj_X10_behindGap_124 {fu : Nat} {F0 : PF} {G0 : PG} (ag_4 : Int32 → Int32 → PF → PG → PR) (hag_4 : ∀ (x2 : Int32) (x3 : Int32) (F : PF) (G : PG) (hK : KX [] [] F0 G0 F G), PP (ag_4 x2 x3 F G) (fun _ F' G' => KX [] [] F0 G0 F' G')) (x2 : Int32) (x3 : Int32) (F : PF) (G : PG) (hK : KX [] [] F0 G0 F G) : PP (cb_X10_behindGap_124 fu ag_4 x2 x3 F G) (fun _ F' G' => KX [] [] F0 G0 F' G') := by
  unfold cb_X10_behindGap_124
  exact hag_4 x2 (x3 + (1 : Int32)) F G hK
theorem cwj_X10_behindGap_58 {fu : Nat} {F0 : PF} {G0 : PG} (ag_4 : Int32 → Int32 → PF → PG → PR) (hag_4 : ∀ (x2 : Int32) (x3 : Int32) (F : PF) (G : PG) (hK : KX [] [] F0 G0 F G), PP (ag_4 x2 x3 F G) (fun _ F' G' => KX [] [] F0 G0 F' G')) (x2 : Int32) (x3 : Int32) (F : PF) (G : PG) (hK : KX [] [] F0 G0 F G) : PP (cb_X10_behindGap_58 fu ag_4 x2 x3 F G) (fun _ F' G' => KX [] [] F0 G0 F' G') := by
  unfold cb_X10_behindGap_58
  exact cwj_X10_behindGap_124 ag_4 hag_4 (x2 + (1 : Int32)) x3 F G hK
theorem cwj_X10_behindGap_122 {fu : Nat} {F0 : PF} {G0 : PG} (x2 : Int32) (F : PF) (G : PG) (hK : KX [] [] F0 G0 F G) : PP (cb_X10_behindGap_122 fu x2 F G) (fun _ F' G' => KX [] [] F0 G0 F' G') := by
  unfold cb_X10_behindGap_122
  refine PP.ret ?_
  exact hK
theorem cwj_X10_behindGap_87 {fu : Nat} {F0 : PF} {G0 : PG} (ag_4 : Int32 → Int32 → PF → PG → PR) (hag_4 : ∀ (x2 : Int32) (x3 : Int32) (F : PF) (G : PG) (hK : KX [] [] F0 G0 F G), PP (ag_4 x2 x3 F G) (fun _ F' G' => KX [] [] F0 G0 F' G')) (x2 : Int32) (x3 : Int32) (x4 : Int32) (x5 : Int32) (F : PF) (G : PG) (hK : KX [] [] F0 G0 F G) : PP (cb_X10_behindGap_87 fu ag_4 x2 x3 x4 x5 F G) (fun _ F' G' => KX [] [] F0 G0 F' G') := by
  unfold cb_X10_behindGap_87
  refine PP.ite (fun c_1 => ?_) (fun c_1 => ?_)
  · skip
    unfold cb_X10_behindGap_94
    refine PP.ite (fun c_2 => ?_) (fun c_2 => ?_)
    · skip
      unfold cb_X10_behindGap_101
      refine PP.bind (cw_X10_behindNote x2 F G) ?_
      intro r3 F3 G3 hK3
      dsimp only
      unfold cb_X10_behindGap_106
      refine PP.ite (fun c_4 => ?_) (fun c_4 => ?_)
      · skip
        unfold cb_X10_behindGap_114
        refine PP.ret ?_
        exact (KX.tr hK hK3 rfl rfl)
      · skip
        unfold cb_X10_behindGap_116
        exact cwj_X10_behindGap_124 ag_4 hag_4 r3 x3 F3 G3 (KX.tr hK hK3 rfl rfl)
    · skip
      exact cwj_X10_behindGap_122 x2 F G hK
  · skip
    exact cwj_X10_behindGap_122 x2 F G hK
theorem cwz_X10_behindGap_4 {fu : Nat} {F0 : PF} {G0 : PG} : ∀ (n : Nat) (x2 : Int32) (x3 : Int32) (F : PF) (G : PG) (hK : KX [] [] F0 G0 F G), PP (cl_X10_behindGap_4 fu n x2 x3 F G) (fun _ F' G' => KX [] [] F0 G0 F' G') := by
  intro n
  induction n with
  | zero =>
    intro x2 x3 F G hK
    exact PP.no
  | succ n ihn =>
    intro x2 x3 F G hK
    show PP (cb_X10_behindGap_4 fu (cl_X10_behindGap_4 fu n) x2 x3 F G) _
    unfold cb_X10_behindGap_4
    refine PP.ite (fun c_1 => ?_) (fun c_1 => ?_)
    · skip
      exact cwj_X10_behindGap_130 x2 F G hK
    · skip
      unfold cb_X10_behindGap_11
      refine PP.ite (fun c_2 => ?_) (fun c_2 => ?_)
      · skip
        exact cwj_X10_behindGap_130 x2 F G hK
      · skip
        unfold cb_X10_behindGap_22
        refine PP.bind (cw_X9_at x2 F G) ?_
        intro r3 F3 G3 hK3
        dsimp only
        unfold cb_X10_behindGap_30
        refine PP.bind (cw_X9_at (x2 + (1 : Int32)) F3 G3) ?_
        intro r4 F4 G4 hK4
        dsimp only
        unfold cb_X10_behindGap_42
        refine PP.ite (fun c_5 => ?_) (fun c_5 => ?_)
        · skip
          exact cwj_X10_behindGap_58 (cl_X10_behindGap_4 fu n) ihn x2 x3 F4 G4 (KX.tr (KX.tr hK hK3 rfl rfl) hK4 rfl rfl)
        · skip
          unfold cb_X10_behindGap_51
          refine PP.ite (fun c_6 => ?_) (fun c_6 => ?_)
          · skip
            exact cwj_X10_behindGap_58 (cl_X10_behindGap_4 fu n) ihn x2 x3 F4 G4 (KX.tr (KX.tr hK hK3 rfl rfl) hK4 rfl rfl)
          · skip
            unfold cb_X10_behindGap_64
            refine PP.ite (fun c_7 => ?_) (fun c_7 => ?_)
            · skip
              unfold cb_X10_behindGap_71
              refine PP.ite (fun c_8 => ?_) (fun c_8 => ?_)
              · skip
                unfold cb_X10_behindGap_78
                refine PP.bind (cw_X10_behindLine x2 F4 G4) ?_
                intro r9 F9 G9 hK9
                dsimp only
                unfold cb_X10_behindGap_83
                exact cwj_X10_behindGap_124 (cl_X10_behindGap_4 fu n) ihn r9 x3 F9 G9 (KX.tr (KX.tr (KX.tr hK hK3 rfl rfl) hK4 rfl rfl) hK9 rfl rfl)
              · skip
                exact cwj_X10_behindGap_87 (cl_X10_behindGap_4 fu n) ihn x2 x3 r3 r4 F4 G4 (KX.tr (KX.tr hK hK3 rfl rfl) hK4 rfl rfl)
            · skip
              exact cwj_X10_behindGap_87 (cl_X10_behindGap_4 fu n) ihn x2 x3 r3 r4 F4 G4 (KX.tr (KX.tr hK hK3 rfl rfl) hK4 rfl rfl)
theorem cw_X10_behindGap {fu : Nat} (x1 : Int32) (F : PF) (G : PG) : PP (cf_X10_behindGap fu x1 F G) (fun _ F' G' => KX [] [] F G F' G') := by
  unfold cf_X10_behindGap
  unfold cb_X10_behindGap_0
  exact cwz_X10_behindGap_4 fu x1 (0 : Int32) F G KX.rf
theorem cwj_X10_isDigit_17 {fu : Nat} {F0 : PF} {G0 : PG} (z0 : Int32) (F : PF) (G : PG) (hK : KX [] [] F0 G0 F G) : PP (cb_X10_isDigit_17 fu z0 F G) (fun _ F' G' => KX [] [] F0 G0 F' G') := by
  unfold cb_X10_isDigit_17
  refine PP.bz (fun _ => ?_)
  refine PP.ret ?_
  exact hK
theorem cwj_X10_isDigit_16 {fu : Nat} {F0 : PF} {G0 : PG} (F : PF) (G : PG) (hK : KX [] [] F0 G0 F G) : PP (cb_X10_isDigit_16 fu F G) (fun _ F' G' => KX [] [] F0 G0 F' G') := by
  unfold cb_X10_isDigit_16
  exact cwj_X10_isDigit_17 (0 : Int32) F G hK
theorem cw_X10_isDigit {fu : Nat} (x0 : Int32) (F : PF) (G : PG) : PP (cf_X10_isDigit fu x0 F G) (fun _ F' G' => KX [] [] F G F' G') := by
  unfold cf_X10_isDigit
  unfold cb_X10_isDigit_0
  refine PP.ite (fun c_1 => ?_) (fun c_1 => ?_)
  · skip
    exact cwj_X10_isDigit_16 F G KX.rf
  · skip
    unfold cb_X10_isDigit_6
    refine PP.ite (fun c_2 => ?_) (fun c_2 => ?_)
    · skip
      exact cwj_X10_isDigit_16 F G KX.rf
    · skip
      unfold cb_X10_isDigit_12
      exact cwj_X10_isDigit_17 (1 : Int32) F G KX.rf
theorem cwj_X10_isPart_42 {fu : Nat} {F0 : PF} {G0 : PG} (z0 : Int32) (F : PF) (G : PG) (hK : KX [] [] F0 G0 F G) : PP (cb_X10_isPart_42 fu z0 F G) (fun _ F' G' => KX [] [] F0 G0 F' G') := by
  unfold cb_X10_isPart_42
  refine PP.bz (fun _ => ?_)
  refine PP.ret ?_
  exact hK
theorem cwj_X10_isPart_37 {fu : Nat} {F0 : PF} {G0 : PG} (F : PF) (G : PG) (hK : KX [] [] F0 G0 F G) : PP (cb_X10_isPart_37 fu F G) (fun _ F' G' => KX [] [] F0 G0 F' G') := by
  unfold cb_X10_isPart_37
  exact cwj_X10_isPart_42 (1 : Int32) F G hK
theorem cwj_X10_isPart_31 {fu : Nat} {F0 : PF} {G0 : PG} (x0 : Int32) (F : PF) (G : PG) (hK : KX [] [] F0 G0 F G) : PP (cb_X10_isPart_31 fu x0 F G) (fun _ F' G' => KX [] [] F0 G0 F' G') := by
  unfold cb_X10_isPart_31
  refine PP.ite (fun c_1 => ?_) (fun c_1 => ?_)
  · skip
    exact cwj_X10_isPart_37 F G hK
  · skip
    unfold cb_X10_isPart_41
    exact cwj_X10_isPart_42 (0 : Int32) F G hK
theorem cwj_X10_isPart_19 {fu : Nat} {F0 : PF} {G0 : PG} (x0 : Int32) (F : PF) (G : PG) (hK : KX [] [] F0 G0 F G) : PP (cb_X10_isPart_19 fu x0 F G) (fun _ F' G' => KX [] [] F0 G0 F' G') := by
  unfold cb_X10_isPart_19
  refine PP.ite (fun c_1 => ?_) (fun c_1 => ?_)
  · skip
    exact cwj_X10_isPart_31 x0 F G hK
  · skip
    unfold cb_X10_isPart_25
    refine PP.ite (fun c_2 => ?_) (fun c_2 => ?_)
    · skip
      exact cwj_X10_isPart_37 F G hK
    · skip
      exact cwj_X10_isPart_31 x0 F G hK
theorem cw_X10_isPart {fu : Nat} (x0 : Int32) (F : PF) (G : PG) : PP (cf_X10_isPart fu x0 F G) (fun _ F' G' => KX [] [] F G F' G') := by
  unfold cf_X10_isPart
  unfold cb_X10_isPart_0
  refine PP.bind (cw_X10_isDigit x0 F G) ?_
  intro r1 F1 G1 hK1
  dsimp only
  unfold cb_X10_isPart_4
  refine PP.ite (fun c_2 => ?_) (fun c_2 => ?_)
  · skip
    unfold cb_X10_isPart_7
    refine PP.ite (fun c_3 => ?_) (fun c_3 => ?_)
    · skip
      exact cwj_X10_isPart_19 x0 F1 G1 (KX.tr KX.rf hK1 rfl rfl)
    · skip
      unfold cb_X10_isPart_13
      refine PP.ite (fun c_4 => ?_) (fun c_4 => ?_)
      · skip
        exact cwj_X10_isPart_37 F1 G1 (KX.tr KX.rf hK1 rfl rfl)
      · skip
        exact cwj_X10_isPart_19 x0 F1 G1 (KX.tr KX.rf hK1 rfl rfl)
  · skip
    exact cwj_X10_isPart_37 F1 G1 (KX.tr KX.rf hK1 rfl rfl)
theorem cwj_X10_add_50 {fu : Nat} {F0 : PF} {G0 : PG} (F : PF) (G : PG) (hK : KX [93] [90, 91, 92] F0 G0 F G) : PP (cb_X10_add_50 fu F G) (fun _ F' G' => KX [93] [90, 91, 92] F0 G0 F' G') := by
  unfold cb_X10_add_50
  refine PP.ret ?_
  exact hK
theorem cw_X10_add {fu : Nat} (x1 : Int32) (x2 : Int32) (x3 : Int32) (F : PF) (G : PG) : PP (cf_X10_add fu x1 x2 x3 F G) (fun _ F' G' => KX [93] [90, 91, 92] F G F' G') := by
  unfold cf_X10_add
  unfold cb_X10_add_0
  refine PP.ite (fun c_1 => ?_) (fun c_1 => ?_)
  · skip
    exact cwj_X10_add_50 F G KX.rf
  · skip
    unfold cb_X10_add_10
    refine PP.ix (fun _ => ?_)
    unfold cb_X10_add_20
    refine PP.ix (fun _ => ?_)
    unfold cb_X10_add_30
    refine PP.ix (fun _ => ?_)
    unfold cb_X10_add_40
    exact cwj_X10_add_50 (fup F 93 ((F 93) + (1 : Int32))) (gup (gup (gup G 90 (F 93).toNatClampNeg x1) 91 (F 93).toNatClampNeg x2) 92 (F 93).toNatClampNeg x3) (KX.f (k := 93) rfl (KX.g (k := 92) rfl (KX.g (k := 91) rfl (KX.g (k := 90) rfl KX.rf))))
theorem cwj_X10_behindSign_49 {fu : Nat} {F0 : PF} {G0 : PG} (F : PF) (G : PG) (hK : KX [93] [90, 91, 92] F0 G0 F G) : PP (cb_X10_behindSign_49 fu F G) (fun _ F' G' => KX [93] [90, 91, 92] F0 G0 F' G') := by
  unfold cb_X10_behindSign_49
  refine PP.ret ?_
  exact hK
theorem cwj_X10_behindSign_178 {fu : Nat} {F0 : PF} {G0 : PG} (x1 : Int32) (x4 : Int32) (x6 : Int32) (F : PF) (G : PG) (hK : KX [93] [90, 91, 92] F0 G0 F G) : PP (cb_X10_behindSign_178 fu x1 x4 x6 F G) (fun _ F' G' => KX [93] [90, 91, 92] F0 G0 F' G') := by
  unfold cb_X10_behindSign_178
  refine PP.bind (cw_X10_add x6 (0 : Int32) x1 F G) ?_
  intro r1 F1 G1 hK1
  dsimp only
  unfold cb_X10_behindSign_186
  refine PP.ret ?_
  exact (KX.tr hK hK1 rfl rfl)
theorem cwj_X10_behindSign_153 {fu : Nat} {F0 : PF} {G0 : PG} (x1 : Int32) (x3 : Int32) (x4 : Int32) (x5 : Int32) (x6 : Int32) (F : PF) (G : PG) (hK : KX [93] [90, 91, 92] F0 G0 F G) : PP (cb_X10_behindSign_153 fu x1 x3 x4 x5 x6 F G) (fun _ F' G' => KX [93] [90, 91, 92] F0 G0 F' G') := by
  unfold cb_X10_behindSign_153
  refine PP.ite (fun c_1 => ?_) (fun c_1 => ?_)
  · skip
    unfold cb_X10_behindSign_160
    refine PP.ix (fun _ => ?_)
    refine PP.ite (fun c_2 => ?_) (fun c_2 => ?_)
    · skip
      exact cwj_X10_behindSign_178 x1 x4 x6 F G hK
    · skip
      unfold cb_X10_behindSign_168
      refine PP.ix (fun _ => ?_)
      exact cwj_X10_behindSign_178 x1 (x4 + (1 : Int32)) (tb_4 x3.toNatClampNeg) F G hK
  · skip
    exact cwj_X10_behindSign_178 x1 x4 x6 F G hK
theorem cwj_X10_behindSign_109 {fu : Nat} {F0 : PF} {G0 : PG} (x1 : Int32) (x4 : Int32) (x6 : Int32) (F : PF) (G : PG) (hK : KX [93] [90, 91, 92] F0 G0 F G) : PP (cb_X10_behindSign_109 fu x1 x4 x6 F G) (fun _ F' G' => KX [93] [90, 91, 92] F0 G0 F' G') := by
  unfold cb_X10_behindSign_109
  refine PP.ite (fun c_1 => ?_) (fun c_1 => ?_)
  · skip
    exact cwj_X10_behindSign_178 x1 x4 x6 F G hK
  · skip
    unfold cb_X10_behindSign_116
    refine PP.ite (fun c_2 => ?_) (fun c_2 => ?_)
    · skip
      exact cwj_X10_behindSign_178 x1 x4 x6 F G hK
    · skip
      unfold cb_X10_behindSign_123
      refine PP.bind (cw_X9_at x4 F G) ?_
      intro r3 F3 G3 hK3
      dsimp only
      unfold cb_X10_behindSign_132
      refine PP.ite (fun c_4 => ?_) (fun c_4 => ?_)
      · skip
        unfold cb_X10_behindSign_137
        exact cwj_X10_behindSign_178 x1 (x4 + (1 : Int32)) ((x6 - (54 : Int32)) + (38 : Int32)) F3 G3 (KX.tr hK hK3 rfl rfl)
      · skip
        exact cwj_X10_behindSign_178 x1 x4 x6 F3 G3 (KX.tr hK hK3 rfl rfl)
theorem cwj_X10_behindSign_51 {fu : Nat} {F0 : PF} {G0 : PG} (x1 : Int32) (x2 : Int32) (x3 : Int32) (x4 : Int32) (x5 : Int32) (F : PF) (G : PG) (hK : KX [93] [90, 91, 92] F0 G0 F G) : PP (cb_X10_behindSign_51 fu x1 x2 x3 x4 x5 F G) (fun _ F' G' => KX [93] [90, 91, 92] F0 G0 F' G') := by
  unfold cb_X10_behindSign_51
  refine PP.ix (fun _ => ?_)
  refine PP.ite (fun c_1 => ?_) (fun c_1 => ?_)
  · skip
    unfold cb_X10_behindSign_64
    refine PP.ix (fun _ => ?_)
    refine PP.ite (fun c_2 => ?_) (fun c_2 => ?_)
    · skip
      exact cwj_X10_behindSign_153 x1 x3 x4 x5 (tb_2 x3.toNatClampNeg) F G hK
    · skip
      unfold cb_X10_behindSign_72
      refine PP.ix (fun _ => ?_)
      refine PP.ite (fun c_3 => ?_) (fun c_3 => ?_)
      · skip
        unfold cb_X10_behindSign_89
        refine PP.bind (cw_X9_at (x4 + (1 : Int32)) F G) ?_
        intro r4 F4 G4 hK4
        dsimp only
        unfold cb_X10_behindSign_98
        refine PP.ite (fun c_5 => ?_) (fun c_5 => ?_)
        · skip
          unfold cb_X10_behindSign_102
          exact cwj_X10_behindSign_109 x1 ((x4 + (1 : Int32)) + (1 : Int32)) (56 : Int32) F4 G4 (KX.tr hK hK4 rfl rfl)
        · skip
          exact cwj_X10_behindSign_109 x1 (x4 + (1 : Int32)) (tb_3 x3.toNatClampNeg) F4 G4 (KX.tr hK hK4 rfl rfl)
      · skip
        exact cwj_X10_behindSign_109 x1 (x4 + (1 : Int32)) (tb_3 x3.toNatClampNeg) F G hK
  · skip
    exact cwj_X10_behindSign_153 x1 x3 x4 x5 (tb_2 x3.toNatClampNeg) F G hK
theorem cw_X10_behindSign {fu : Nat} (x1 : Int32) (x2 : Int32) (F : PF) (G : PG) : PP (cf_X10_behindSign fu x1 x2 F G) (fun _ F' G' => KX [93] [90, 91, 92] F G F' G') := by
  unfold cf_X10_behindSign
  unfold cb_X10_behindSign_0
  refine PP.bind (cw_J0_indexOf_0f7a4 3 ((x2.toUInt32 % 65536).toInt32) F G) ?_
  intro r1 F1 G1 hK1
  dsimp only
  unfold cb_X10_behindSign_7
  refine PP.bind (cw_X9_at (x1 + (1 : Int32)) F1 G1) ?_
  intro r2 F2 G2 hK2
  dsimp only
  unfold cb_X10_behindSign_22
  refine PP.ite (fun c_3 => ?_) (fun c_3 => ?_)
  · skip
    exact cwj_X10_behindSign_49 F2 G2 (KX.tr (KX.tr KX.rf hK1 rfl rfl) hK2 rfl rfl)
  · skip
    unfold cb_X10_behindSign_28
    refine PP.ite (fun c_4 => ?_) (fun c_4 => ?_)
    · skip
      exact cwj_X10_behindSign_49 F2 G2 (KX.tr (KX.tr KX.rf hK1 rfl rfl) hK2 rfl rfl)
    · skip
      unfold cb_X10_behindSign_36
      refine PP.ite (fun c_5 => ?_) (fun c_5 => ?_)
      · skip
        unfold cb_X10_behindSign_42
        refine PP.ite (fun c_6 => ?_) (fun c_6 => ?_)
        · skip
          exact cwj_X10_behindSign_49 F2 G2 (KX.tr (KX.tr KX.rf hK1 rfl rfl) hK2 rfl rfl)
        · skip
          exact cwj_X10_behindSign_51 x1 x2 r1 (x1 + (1 : Int32)) r2 F2 G2 (KX.tr (KX.tr KX.rf hK1 rfl rfl) hK2 rfl rfl)
      · skip
        exact cwj_X10_behindSign_51 x1 x2 r1 (x1 + (1 : Int32)) r2 F2 G2 (KX.tr (KX.tr KX.rf hK1 rfl rfl) hK2 rfl rfl)
theorem cwj_X10_digitOf_56 {fu : Nat} {F0 : PF} {G0 : PG} (z0 : Int32) (F : PF) (G : PG) (hK : KX [] [] F0 G0 F G) : PP (cb_X10_digitOf_56 fu z0 F G) (fun _ F' G' => KX [] [] F0 G0 F' G') := by
  unfold cb_X10_digitOf_56
  refine PP.ret ?_
  exact hK
theorem cwj_X10_digitOf_54 {fu : Nat} {F0 : PF} {G0 : PG} (F : PF) (G : PG) (hK : KX [] [] F0 G0 F G) : PP (cb_X10_digitOf_54 fu F G) (fun _ F' G' => KX [] [] F0 G0 F' G') := by
  unfold cb_X10_digitOf_54
  exact cwj_X10_digitOf_56 (16 : Int32) F G hK
theorem cwj_X10_digitOf_32 {fu : Nat} {F0 : PF} {G0 : PG} (x0 : Int32) (F : PF) (G : PG) (hK : KX [] [] F0 G0 F G) : PP (cb_X10_digitOf_32 fu x0 F G) (fun _ F' G' => KX [] [] F0 G0 F' G') := by
  unfold cb_X10_digitOf_32
  refine PP.ite (fun c_1 => ?_) (fun c_1 => ?_)
  · skip
    exact cwj_X10_digitOf_54 F G hK
  · skip
    unfold cb_X10_digitOf_38
    refine PP.ite (fun c_2 => ?_) (fun c_2 => ?_)
    · skip
      exact cwj_X10_digitOf_54 F G hK
    · skip
      unfold cb_X10_digitOf_44
      exact cwj_X10_digitOf_56 ((x0 - (65 : Int32)) + (10 : Int32)) F G hK
theorem cw_X10_digitOf {fu : Nat} (x0 : Int32) (F : PF) (G : PG) : PP (cf_X10_digitOf fu x0 F G) (fun _ F' G' => KX [] [] F G F' G') := by
  unfold cf_X10_digitOf
  unfold cb_X10_digitOf_0
  refine PP.bind (cw_X10_isDigit x0 F G) ?_
  intro r1 F1 G1 hK1
  dsimp only
  unfold cb_X10_digitOf_4
  refine PP.ite (fun c_2 => ?_) (fun c_2 => ?_)
  · skip
    unfold cb_X10_digitOf_12
    refine PP.ite (fun c_3 => ?_) (fun c_3 => ?_)
    · skip
      exact cwj_X10_digitOf_32 x0 F1 G1 (KX.tr KX.rf hK1 rfl rfl)
    · skip
      unfold cb_X10_digitOf_18
      refine PP.ite (fun c_4 => ?_) (fun c_4 => ?_)
      · skip
        exact cwj_X10_digitOf_32 x0 F1 G1 (KX.tr KX.rf hK1 rfl rfl)
      · skip
        unfold cb_X10_digitOf_24
        refine PP.ret ?_
        exact (KX.tr KX.rf hK1 rfl rfl)
  · skip
    unfold cb_X10_digitOf_7
    refine PP.ret ?_
    exact (KX.tr KX.rf hK1 rfl rfl)
theorem cwj_X10_behindParts_33 {fu : Nat} {F0 : PF} {G0 : PG} (x2 : Int32) (F : PF) (G : PG) (hK : KX [] [] F0 G0 F G) : PP (cb_X10_behindParts_33 fu x2 F G) (fun _ F' G' => KX [] [] F0 G0 F' G') := by
  unfold cb_X10_behindParts_33
  refine PP.ret ?_
  exact hK
theorem cwz_X10_behindParts_2 {fu : Nat} {F0 : PF} {G0 : PG} : ∀ (n : Nat) (x2 : Int32) (F : PF) (G : PG) (hK : KX [] [] F0 G0 F G), PP (cl_X10_behindParts_2 fu n x2 F G) (fun _ F' G' => KX [] [] F0 G0 F' G') := by
  intro n
  induction n with
  | zero =>
    intro x2 F G hK
    exact PP.no
  | succ n ihn =>
    intro x2 F G hK
    show PP (cb_X10_behindParts_2 fu (cl_X10_behindParts_2 fu n) x2 F G) _
    unfold cb_X10_behindParts_2
    refine PP.ite (fun c_1 => ?_) (fun c_1 => ?_)
    · skip
      exact cwj_X10_behindParts_33 x2 F G hK
    · skip
      unfold cb_X10_behindParts_13
      refine PP.bind (cw_X9_at x2 F G) ?_
      intro r2 F2 G2 hK2
      dsimp only
      unfold cb_X10_behindParts_21
      refine PP.bind (cw_X10_isPart r2 F2 G2) ?_
      intro r3 F3 G3 hK3
      dsimp only
      unfold cb_X10_behindParts_24
      refine PP.ite (fun c_4 => ?_) (fun c_4 => ?_)
      · skip
        exact cwj_X10_behindParts_33 x2 F3 G3 (KX.tr (KX.tr hK hK2 rfl rfl) hK3 rfl rfl)
      · skip
        unfold cb_X10_behindParts_27
        exact ihn (x2 + (1 : Int32)) F3 G3 (KX.tr (KX.tr hK hK2 rfl rfl) hK3 rfl rfl)
theorem cw_X10_behindParts {fu : Nat} (x1 : Int32) (F : PF) (G : PG) : PP (cf_X10_behindParts fu x1 F G) (fun _ F' G' => KX [] [] F G F' G') := by
  unfold cf_X10_behindParts
  unfold cb_X10_behindParts_0
  exact cwz_X10_behindParts_2 fu x1 F G KX.rf
theorem cwj_X10_behindNumber_94 {fu : Nat} {F0 : PF} {G0 : PG} (F : PF) (G : PG) (hK : KX [93] [90, 91, 92] F0 G0 F G) : PP (cb_X10_behindNumber_94 fu F G) (fun _ F' G' => KX [93] [90, 91, 92] F0 G0 F' G') := by
  unfold cb_X10_behindNumber_94
  refine PP.ret ?_
  exact hK
theorem cwz_X10_behindNumber_103 {fu : Nat} {F0 : PF} {G0 : PG} : ∀ (n : Nat) (x1 : Int32) (x2 : Int32) (x5 : Int32) (x7 : Int64) (x9 : Int32) (F : PF) (G : PG) (hK : KX [93] [90, 91, 92] F0 G0 F G), PP (cl_X10_behindNumber_103 fu n x1 x2 x5 x7 x9 F G) (fun _ F' G' => KX [93] [90, 91, 92] F0 G0 F' G') := by
  intro n
  induction n with
  | zero =>
    intro x1 x2 x5 x7 x9 F G hK
    exact PP.no
  | succ n ihn =>
    intro x1 x2 x5 x7 x9 F G hK
    show PP (cb_X10_behindNumber_103 fu (cl_X10_behindNumber_103 fu n) x1 x2 x5 x7 x9 F G) _
    unfold cb_X10_behindNumber_103
    refine PP.ite (fun c_1 => ?_) (fun c_1 => ?_)
    · skip
      unfold cb_X10_behindNumber_150
      refine PP.ite (fun c_2 => ?_) (fun c_2 => ?_)
      · skip
        unfold cb_X10_behindNumber_161
        refine PP.bind (cw_X10_add (3 : Int32) (x7.toInt32) x1 F G) ?_
        intro r3 F3 G3 hK3
        dsimp only
        unfold cb_X10_behindNumber_170
        refine PP.ret ?_
        exact (KX.tr hK hK3 rfl rfl)
      · skip
        unfold cb_X10_behindNumber_159
        refine PP.ret ?_
        exact hK
    · skip
      unfold cb_X10_behindNumber_109
      refine PP.bind (cw_X9_at x9 F G) ?_
      intro r4 F4 G4 hK4
      dsimp only
      unfold cb_X10_behindNumber_118
      refine PP.bind (cw_X10_digitOf r4 F4 G4) ?_
      intro r5 F5 G5 hK5
      dsimp only
      unfold cb_X10_behindNumber_121
      refine PP.ite (fun c_6 => ?_) (fun c_6 => ?_)
      · skip
        unfold cb_X10_behindNumber_132
        exact ihn x1 x2 x5 ((x7 * (x5.toInt64)) + (r5.toInt64)) (x9 + (1 : Int32)) F5 G5 (KX.tr (KX.tr hK hK4 rfl rfl) hK5 rfl rfl)
      · skip
        unfold cb_X10_behindNumber_130
        refine PP.ret ?_
        exact (KX.tr (KX.tr hK hK4 rfl rfl) hK5 rfl rfl)
theorem cwj_X10_behindNumber_91 {fu : Nat} {F0 : PF} {G0 : PG} (x1 : Int32) (x2 : Int32) (x4 : Int32) (x5 : Int32) (z0 : Int32) (z1 : Int32) (F : PF) (G : PG) (hK : KX [93] [90, 91, 92] F0 G0 F G) : PP (cb_X10_behindNumber_91 fu x1 x2 x4 x5 z0 z1 F G) (fun _ F' G' => KX [93] [90, 91, 92] F0 G0 F' G') := by
  unfold cb_X10_behindNumber_91
  refine PP.ite (fun c_1 => ?_) (fun c_1 => ?_)
  · skip
    unfold cb_X10_behindNumber_96
    exact cwz_X10_behindNumber_103 fu x1 x2 x5 (0 : Int64) x4 F G hK
  · skip
    exact cwj_X10_behindNumber_94 F G hK
theorem cwj_X10_behindNumber_64 {fu : Nat} {F0 : PF} {G0 : PG} (x1 : Int32) (x2 : Int32) (x3 : Int32) (x4 : Int32) (z0 : Int32) (F : PF) (G : PG) (hK : KX [93] [90, 91, 92] F0 G0 F G) : PP (cb_X10_behindNumber_64 fu x1 x2 x3 x4 z0 F G) (fun _ F' G' => KX [93] [90, 91, 92] F0 G0 F' G') := by
  unfold cb_X10_behindNumber_64
  refine PP.ite (fun c_1 => ?_) (fun c_1 => ?_)
  · skip
    exact cwj_X10_behindNumber_94 F G hK
  · skip
    unfold cb_X10_behindNumber_78
    refine PP.ite (fun c_2 => ?_) (fun c_2 => ?_)
    · skip
      unfold cb_X10_behindNumber_89
      exact cwj_X10_behindNumber_91 x1 x2 x4 z0 (10 : Int32) (x2 - x4) F G hK
    · skip
      unfold cb_X10_behindNumber_84
      exact cwj_X10_behindNumber_91 x1 x2 x4 z0 (8 : Int32) (x2 - x4) F G hK
theorem cwj_X10_behindNumber_51 {fu : Nat} {F0 : PF} {G0 : PG} (x1 : Int32) (x2 : Int32) (x3 : Int32) (z0 : Int32) (F : PF) (G : PG) (hK : KX [93] [90, 91, 92] F0 G0 F G) : PP (cb_X10_behindNumber_51 fu x1 x2 x3 z0 F G) (fun _ F' G' => KX [93] [90, 91, 92] F0 G0 F' G') := by
  unfold cb_X10_behindNumber_51
  refine PP.ite (fun c_1 => ?_) (fun c_1 => ?_)
  · skip
    unfold cb_X10_behindNumber_62
    exact cwj_X10_behindNumber_64 x1 x2 x3 z0 (10 : Int32) F G hK
  · skip
    unfold cb_X10_behindNumber_57
    exact cwj_X10_behindNumber_64 x1 x2 x3 z0 (16 : Int32) F G hK
theorem cwj_X10_behindNumber_39 {fu : Nat} {F0 : PF} {G0 : PG} (x1 : Int32) (x2 : Int32) (z0 : Int32) (F : PF) (G : PG) (hK : KX [93] [90, 91, 92] F0 G0 F G) : PP (cb_X10_behindNumber_39 fu x1 x2 z0 F G) (fun _ F' G' => KX [93] [90, 91, 92] F0 G0 F' G') := by
  unfold cb_X10_behindNumber_39
  refine PP.ite (fun c_1 => ?_) (fun c_1 => ?_)
  · skip
    unfold cb_X10_behindNumber_50
    exact cwj_X10_behindNumber_51 x1 x2 z0 x1 F G hK
  · skip
    unfold cb_X10_behindNumber_44
    exact cwj_X10_behindNumber_51 x1 x2 z0 (x1 + (2 : Int32)) F G hK
theorem cwj_X10_behindNumber_38 {fu : Nat} {F0 : PF} {G0 : PG} (x1 : Int32) (x2 : Int32) (F : PF) (G : PG) (hK : KX [93] [90, 91, 92] F0 G0 F G) : PP (cb_X10_behindNumber_38 fu x1 x2 F G) (fun _ F' G' => KX [93] [90, 91, 92] F0 G0 F' G') := by
  unfold cb_X10_behindNumber_38
  exact cwj_X10_behindNumber_39 x1 x2 (0 : Int32) F G hK
theorem cw_X10_behindNumber {fu : Nat} (x1 : Int32) (F : PF) (G : PG) : PP (cf_X10_behindNumber fu x1 F G) (fun _ F' G' => KX [93] [90, 91, 92] F G F' G') := by
  unfold cf_X10_behindNumber
  unfold cb_X10_behindNumber_0
  refine PP.bind (cw_X10_behindParts x1 F G) ?_
  intro r1 F1 G1 hK1
  dsimp only
  unfold cb_X10_behindNumber_5
  refine PP.bind (cw_X9_at x1 F1 G1) ?_
  intro r2 F2 G2 hK2
  dsimp only
  unfold cb_X10_behindNumber_14
  refine PP.ite (fun c_3 => ?_) (fun c_3 => ?_)
  · skip
    unfold cb_X10_behindNumber_19
    refine PP.bind (cw_X9_at (x1 + (1 : Int32)) F2 G2) ?_
    intro r4 F4 G4 hK4
    dsimp only
    unfold cb_X10_behindNumber_29
    refine PP.ite (fun c_5 => ?_) (fun c_5 => ?_)
    · skip
      unfold cb_X10_behindNumber_34
      exact cwj_X10_behindNumber_39 x1 r1 (1 : Int32) F4 G4 (KX.tr (KX.tr (KX.tr KX.rf hK1 rfl rfl) hK2 rfl rfl) hK4 rfl rfl)
    · skip
      exact cwj_X10_behindNumber_38 x1 r1 F4 G4 (KX.tr (KX.tr (KX.tr KX.rf hK1 rfl rfl) hK2 rfl rfl) hK4 rfl rfl)
  · skip
    exact cwj_X10_behindNumber_38 x1 r1 F2 G2 (KX.tr (KX.tr KX.rf hK1 rfl rfl) hK2 rfl rfl)
theorem cwj_X10_wordAt_113 {fu : Nat} {F0 : PF} {G0 : PG} (F : PF) (G : PG) (hK : KX [] [] F0 G0 F G) : PP (cb_X10_wordAt_113 fu F G) (fun _ F' G' => KX [] [] F0 G0 F' G') := by
  unfold cb_X10_wordAt_113
  refine PP.ret ?_
  exact hK
theorem cwj_X10_wordAt_100 {fu : Nat} {F0 : PF} {G0 : PG} (ag_2 : Int32 → Int32 → Int32 → PF → PG → PR) (hag_2 : ∀ (x1 : Int32) (x2 : Int32) (x3 : Int32) (F : PF) (G : PG) (hK : KX [] [] F0 G0 F G), PP (ag_2 x1 x2 x3 F G) (fun _ F' G' => KX [] [] F0 G0 F' G')) (x1 : Int32) (x2 : Int32) (x3 : Int32) (x5 : Int32) (F : PF) (G : PG) (hK : KX [] [] F0 G0 F G) : PP (cb_X10_wordAt_100 fu ag_2 x1 x2 x3 x5 F G) (fun _ F' G' => KX [] [] F0 G0 F' G') := by
  unfold cb_X10_wordAt_100
  refine PP.ite (fun c_1 => ?_) (fun c_1 => ?_)
  · skip
    unfold cb_X10_wordAt_107
    exact hag_2 x1 x2 (x3 + (1 : Int32)) F G hK
  · skip
    unfold cb_X10_wordAt_105
    refine PP.ret ?_
    exact hK
theorem cwj_X10_wordAt_92 {fu : Nat} {F0 : PF} {G0 : PG} (ag_2 : Int32 → Int32 → Int32 → PF → PG → PR) (hag_2 : ∀ (x1 : Int32) (x2 : Int32) (x3 : Int32) (F : PF) (G : PG) (hK : KX [] [] F0 G0 F G), PP (ag_2 x1 x2 x3 F G) (fun _ F' G' => KX [] [] F0 G0 F' G')) (ag_52 : Int32 → Int32 → Int32 → Int32 → Int32 → Int32 → PF → PG → PR) (hag_52 : ∀ (x1 : Int32) (x2 : Int32) (x3 : Int32) (x4 : Int32) (x5 : Int32) (x6 : Int32) (F : PF) (G : PG) (hK : KX [] [] F0 G0 F G), PP (ag_52 x1 x2 x3 x4 x5 x6 F G) (fun _ F' G' => KX [] [] F0 G0 F' G')) (x1 : Int32) (x2 : Int32) (x3 : Int32) (x4 : Int32) (x6 : Int32) (z0 : Int32) (F : PF) (G : PG) (hK : KX [] [] F0 G0 F G) : PP (cb_X10_wordAt_92 fu ag_2 ag_52 x1 x2 x3 x4 x6 z0 F G) (fun _ F' G' => KX [] [] F0 G0 F' G') := by
  unfold cb_X10_wordAt_92
  exact hag_52 x1 x2 x3 x4 z0 (x6 + (1 : Int32)) F G hK
theorem cwz_X10_wordAt_52 {fu : Nat} {F0 : PF} {G0 : PG} (ag_2 : Int32 → Int32 → Int32 → PF → PG → PR) (hag_2 : ∀ (x1 : Int32) (x2 : Int32) (x3 : Int32) (F : PF) (G : PG) (hK : KX [] [] F0 G0 F G), PP (ag_2 x1 x2 x3 F G) (fun _ F' G' => KX [] [] F0 G0 F' G')) : ∀ (n : Nat) (x1 : Int32) (x2 : Int32) (x3 : Int32) (x4 : Int32) (x5 : Int32) (x6 : Int32) (F : PF) (G : PG) (hK : KX [] [] F0 G0 F G), PP (cl_X10_wordAt_52 fu ag_2 n x1 x2 x3 x4 x5 x6 F G) (fun _ F' G' => KX [] [] F0 G0 F' G') := by
  intro n
  induction n with
  | zero =>
    intro x1 x2 x3 x4 x5 x6 F G hK
    exact PP.no
  | succ n ihn =>
    intro x1 x2 x3 x4 x5 x6 F G hK
    show PP (cb_X10_wordAt_52 fu ag_2 (cl_X10_wordAt_52 fu ag_2 n) x1 x2 x3 x4 x5 x6 F G) _
    unfold cb_X10_wordAt_52
    refine PP.ite (fun c_1 => ?_) (fun c_1 => ?_)
    · skip
      exact cwj_X10_wordAt_100 ag_2 hag_2 x1 x2 x3 x5 F G hK
    · skip
      unfold cb_X10_wordAt_58
      refine PP.ite (fun c_2 => ?_) (fun c_2 => ?_)
      · skip
        exact cwj_X10_wordAt_100 ag_2 hag_2 x1 x2 x3 x5 F G hK
      · skip
        unfold cb_X10_wordAt_63
        refine PP.bind (cw_J0_charAt_5068e 2 (x4 + x6) F G) ?_
        intro r3 F3 G3 hK3
        dsimp only
        unfold cb_X10_wordAt_73
        refine PP.bind (cw_X9_at (x1 + x6) F3 G3) ?_
        intro r4 F4 G4 hK4
        dsimp only
        unfold cb_X10_wordAt_84
        refine PP.ite (fun c_5 => ?_) (fun c_5 => ?_)
        · skip
          unfold cb_X10_wordAt_87
          exact cwj_X10_wordAt_92 ag_2 hag_2 (cl_X10_wordAt_52 fu ag_2 n) ihn x1 x2 x3 x4 x6 (1 : Int32) F4 G4 (KX.tr (KX.tr hK hK3 rfl rfl) hK4 rfl rfl)
        · skip
          unfold cb_X10_wordAt_91
          exact cwj_X10_wordAt_92 ag_2 hag_2 (cl_X10_wordAt_52 fu ag_2 n) ihn x1 x2 x3 x4 x6 (0 : Int32) F4 G4 (KX.tr (KX.tr hK hK3 rfl rfl) hK4 rfl rfl)
theorem cwj_X10_wordAt_47 {fu : Nat} {F0 : PF} {G0 : PG} (ag_2 : Int32 → Int32 → Int32 → PF → PG → PR) (hag_2 : ∀ (x1 : Int32) (x2 : Int32) (x3 : Int32) (F : PF) (G : PG) (hK : KX [] [] F0 G0 F G), PP (ag_2 x1 x2 x3 F G) (fun _ F' G' => KX [] [] F0 G0 F' G')) (x1 : Int32) (x2 : Int32) (x3 : Int32) (x4 : Int32) (z0 : Int32) (F : PF) (G : PG) (hK : KX [] [] F0 G0 F G) : PP (cb_X10_wordAt_47 fu ag_2 x1 x2 x3 x4 z0 F G) (fun _ F' G' => KX [] [] F0 G0 F' G') := by
  unfold cb_X10_wordAt_47
  exact cwz_X10_wordAt_52 ag_2 hag_2 fu x1 x2 x3 x4 z0 (0 : Int32) F G hK
theorem cwj_X10_wordAt_42 {fu : Nat} {F0 : PF} {G0 : PG} (ag_2 : Int32 → Int32 → Int32 → PF → PG → PR) (hag_2 : ∀ (x1 : Int32) (x2 : Int32) (x3 : Int32) (F : PF) (G : PG) (hK : KX [] [] F0 G0 F G), PP (ag_2 x1 x2 x3 F G) (fun _ F' G' => KX [] [] F0 G0 F' G')) (x1 : Int32) (x2 : Int32) (x3 : Int32) (x4 : Int32) (F : PF) (G : PG) (hK : KX [] [] F0 G0 F G) : PP (cb_X10_wordAt_42 fu ag_2 x1 x2 x3 x4 F G) (fun _ F' G' => KX [] [] F0 G0 F' G') := by
  unfold cb_X10_wordAt_42
  exact cwj_X10_wordAt_47 ag_2 hag_2 x1 x2 x3 x4 (1 : Int32) F G hK
theorem cwz_X10_wordAt_2 {fu : Nat} {F0 : PF} {G0 : PG} : ∀ (n : Nat) (x1 : Int32) (x2 : Int32) (x3 : Int32) (F : PF) (G : PG) (hK : KX [] [] F0 G0 F G), PP (cl_X10_wordAt_2 fu n x1 x2 x3 F G) (fun _ F' G' => KX [] [] F0 G0 F' G') := by
  intro n
  induction n with
  | zero =>
    intro x1 x2 x3 F G hK
    exact PP.no
  | succ n ihn =>
    intro x1 x2 x3 F G hK
    show PP (cb_X10_wordAt_2 fu (cl_X10_wordAt_2 fu n) x1 x2 x3 F G) _
    unfold cb_X10_wordAt_2
    refine PP.ite (fun c_1 => ?_) (fun c_1 => ?_)
    · skip
      exact cwj_X10_wordAt_113 F G hK
    · skip
      unfold cb_X10_wordAt_8
      refine PP.ite (fun c_2 => ?_) (fun c_2 => ?_)
      · skip
        exact cwj_X10_wordAt_113 F G hK
      · skip
        unfold cb_X10_wordAt_14
        refine PP.ite (fun c_3 => ?_) (fun c_3 => ?_)
        · skip
          exact cwj_X10_wordAt_42 (cl_X10_wordAt_2 fu n) ihn x1 x2 x3 ((x3 - (4 : Int32)) * (8 : Int32)) F G hK
        · skip
          unfold cb_X10_wordAt_28
          refine PP.bind (cw_J0_charAt_5068e 2 (((x3 - (4 : Int32)) * (8 : Int32)) + x2) F G) ?_
          intro r4 F4 G4 hK4
          dsimp only
          unfold cb_X10_wordAt_37
          refine PP.ite (fun c_5 => ?_) (fun c_5 => ?_)
          · skip
            exact cwj_X10_wordAt_42 (cl_X10_wordAt_2 fu n) ihn x1 x2 x3 ((x3 - (4 : Int32)) * (8 : Int32)) F4 G4 (KX.tr hK hK4 rfl rfl)
          · skip
            unfold cb_X10_wordAt_46
            exact cwj_X10_wordAt_47 (cl_X10_wordAt_2 fu n) ihn x1 x2 x3 ((x3 - (4 : Int32)) * (8 : Int32)) (0 : Int32) F4 G4 (KX.tr hK hK4 rfl rfl)
theorem cw_X10_wordAt {fu : Nat} (x1 : Int32) (x2 : Int32) (F : PF) (G : PG) : PP (cf_X10_wordAt fu x1 x2 F G) (fun _ F' G' => KX [] [] F G F' G') := by
  unfold cf_X10_wordAt
  unfold cb_X10_wordAt_0
  exact cwz_X10_wordAt_2 fu x1 x2 (4 : Int32) F G KX.rf
theorem cwj_X10_isName_74 {fu : Nat} {F0 : PF} {G0 : PG} (x4 : Int32) (F : PF) (G : PG) (hK : KX [] [] F0 G0 F G) : PP (cb_X10_isName_74 fu x4 F G) (fun _ F' G' => KX [] [] F0 G0 F' G') := by
  unfold cb_X10_isName_74
  refine PP.bz (fun _ => ?_)
  refine PP.ret ?_
  exact hK
theorem cwj_X10_isName_66 {fu : Nat} {F0 : PF} {G0 : PG} (ag_20 : Int32 → Int32 → Int32 → Int32 → Int32 → PF → PG → PR) (hag_20 : ∀ (x1 : Int32) (x2 : Int32) (x3 : Int32) (x4 : Int32) (x5 : Int32) (F : PF) (G : PG) (hK : KX [] [] F0 G0 F G), PP (ag_20 x1 x2 x3 x4 x5 F G) (fun _ F' G' => KX [] [] F0 G0 F' G')) (x1 : Int32) (x2 : Int32) (x3 : Int32) (x5 : Int32) (z0 : Int32) (F : PF) (G : PG) (hK : KX [] [] F0 G0 F G) : PP (cb_X10_isName_66 fu ag_20 x1 x2 x3 x5 z0 F G) (fun _ F' G' => KX [] [] F0 G0 F' G') := by
  unfold cb_X10_isName_66
  exact hag_20 x1 x2 x3 z0 (x5 + (1 : Int32)) F G hK
theorem cwz_X10_isName_20 {fu : Nat} {F0 : PF} {G0 : PG} : ∀ (n : Nat) (x1 : Int32) (x2 : Int32) (x3 : Int32) (x4 : Int32) (x5 : Int32) (F : PF) (G : PG) (hK : KX [] [] F0 G0 F G), PP (cl_X10_isName_20 fu n x1 x2 x3 x4 x5 F G) (fun _ F' G' => KX [] [] F0 G0 F' G') := by
  intro n
  induction n with
  | zero =>
    intro x1 x2 x3 x4 x5 F G hK
    exact PP.no
  | succ n ihn =>
    intro x1 x2 x3 x4 x5 F G hK
    show PP (cb_X10_isName_20 fu (cl_X10_isName_20 fu n) x1 x2 x3 x4 x5 F G) _
    unfold cb_X10_isName_20
    refine PP.ite (fun c_1 => ?_) (fun c_1 => ?_)
    · skip
      exact cwj_X10_isName_74 x4 F G hK
    · skip
      unfold cb_X10_isName_26
      refine PP.ite (fun c_2 => ?_) (fun c_2 => ?_)
      · skip
        exact cwj_X10_isName_74 x4 F G hK
      · skip
        unfold cb_X10_isName_31
        refine PP.ix (fun _ => ?_)
        refine PP.bind (cw_X9_at ((G 96 x1.toNatClampNeg) + x5) F G) ?_
        intro r3 F3 G3 hK3
        dsimp only
        unfold cb_X10_isName_47
        refine PP.bind (cw_X9_at (x2 + x5) F3 G3) ?_
        intro r4 F4 G4 hK4
        dsimp only
        unfold cb_X10_isName_58
        refine PP.ite (fun c_5 => ?_) (fun c_5 => ?_)
        · skip
          unfold cb_X10_isName_61
          exact cwj_X10_isName_66 (cl_X10_isName_20 fu n) ihn x1 x2 x3 x5 (1 : Int32) F4 G4 (KX.tr (KX.tr hK hK3 rfl rfl) hK4 rfl rfl)
        · skip
          unfold cb_X10_isName_65
          exact cwj_X10_isName_66 (cl_X10_isName_20 fu n) ihn x1 x2 x3 x5 (0 : Int32) F4 G4 (KX.tr (KX.tr hK hK3 rfl rfl) hK4 rfl rfl)
theorem cwj_X10_isName_15 {fu : Nat} {F0 : PF} {G0 : PG} (x1 : Int32) (x2 : Int32) (x3 : Int32) (z0 : Int32) (F : PF) (G : PG) (hK : KX [] [] F0 G0 F G) : PP (cb_X10_isName_15 fu x1 x2 x3 z0 F G) (fun _ F' G' => KX [] [] F0 G0 F' G') := by
  unfold cb_X10_isName_15
  exact cwz_X10_isName_20 fu x1 x2 x3 z0 (0 : Int32) F G hK
theorem cw_X10_isName {fu : Nat} (x1 : Int32) (x2 : Int32) (x3 : Int32) (F : PF) (G : PG) : PP (cf_X10_isName fu x1 x2 x3 F G) (fun _ F' G' => KX [] [] F G F' G') := by
  unfold cf_X10_isName
  unfold cb_X10_isName_0
  refine PP.ix (fun _ => ?_)
  refine PP.ite (fun c_1 => ?_) (fun c_1 => ?_)
  · skip
    unfold cb_X10_isName_10
    exact cwj_X10_isName_15 x1 x2 x3 (1 : Int32) F G KX.rf
  · skip
    unfold cb_X10_isName_14
    exact cwj_X10_isName_15 x1 x2 x3 (0 : Int32) F G KX.rf
theorem cwj_X10_nameAt_109 {fu : Nat} {F0 : PF} {G0 : PG} (x1 : Int32) (x2 : Int32) (x4 : Int32) (F : PF) (G : PG) (hK : KX [98] [94, 95, 96, 97] F0 G0 F G) : PP (cb_X10_nameAt_109 fu x1 x2 x4 F G) (fun _ F' G' => KX [98] [94, 95, 96, 97] F0 G0 F' G') := by
  unfold cb_X10_nameAt_109
  refine PP.ite (fun c_1 => ?_) (fun c_1 => ?_)
  · skip
    unfold cb_X10_nameAt_121
    refine PP.ix (fun _ => ?_)
    unfold cb_X10_nameAt_131
    refine PP.ix (fun _ => ?_)
    unfold cb_X10_nameAt_141
    refine PP.ix (fun _ => ?_)
    refine PP.ix (fun _ => ?_)
    unfold cb_X10_nameAt_157
    refine PP.ix (fun _ => ?_)
    unfold cb_X10_nameAt_168
    unfold cb_X10_nameAt_178
    refine PP.ret ?_
    exact (KX.f (k := 98) rfl (KX.g (k := 94) rfl (KX.g (k := 95) rfl (KX.g (k := 97) rfl (KX.g (k := 96) rfl hK)))))
  · skip
    unfold cb_X10_nameAt_119
    refine PP.ret ?_
    exact hK
theorem cwz_X10_nameAt_58 {fu : Nat} {F0 : PF} {G0 : PG} : ∀ (n : Nat) (x1 : Int32) (x2 : Int32) (x4 : Int32) (x5 : Int32) (x6 : Int32) (F : PF) (G : PG) (hK : KX [98] [94, 95, 96, 97] F0 G0 F G), PP (cl_X10_nameAt_58 fu n x1 x2 x4 x5 x6 F G) (fun _ F' G' => KX [98] [94, 95, 96, 97] F0 G0 F' G') := by
  intro n
  induction n with
  | zero =>
    intro x1 x2 x4 x5 x6 F G hK
    exact PP.no
  | succ n ihn =>
    intro x1 x2 x4 x5 x6 F G hK
    show PP (cb_X10_nameAt_58 fu (cl_X10_nameAt_58 fu n) x1 x2 x4 x5 x6 F G) _
    unfold cb_X10_nameAt_58
    refine PP.ite (fun c_1 => ?_) (fun c_1 => ?_)
    · skip
      exact cwj_X10_nameAt_109 x1 x2 x4 F G hK
    · skip
      unfold cb_X10_nameAt_67
      refine PP.ite (fun c_2 => ?_) (fun c_2 => ?_)
      · skip
        exact cwj_X10_nameAt_109 x1 x2 x4 F G hK
      · skip
        unfold cb_X10_nameAt_72
        refine PP.ite (fun c_3 => ?_) (fun c_3 => ?_)
        · skip
          exact cwj_X10_nameAt_109 x1 x2 x4 F G hK
        · skip
          unfold cb_X10_nameAt_80
          refine PP.bind (cw_X10_isName x5 x1 x2 F G) ?_
          intro r4 F4 G4 hK4
          dsimp only
          unfold cb_X10_nameAt_88
          refine PP.ite (fun c_5 => ?_) (fun c_5 => ?_)
          · skip
            unfold cb_X10_nameAt_94
            refine PP.ix (fun _ => ?_)
            exact ihn x1 x2 x4 (G4 95 x5.toNatClampNeg) (x6 + (1 : Int32)) F4 G4 (KX.tr hK hK4 rfl rfl)
          · skip
            unfold cb_X10_nameAt_91
            refine PP.ret ?_
            exact (KX.tr hK hK4 rfl rfl)
theorem cwz_X10_nameAt_5 {fu : Nat} {F0 : PF} {G0 : PG} : ∀ (n : Nat) (x1 : Int32) (x2 : Int32) (x3 : Int32) (x4 : Int32) (F : PF) (G : PG) (hK : KX [98] [94, 95, 96, 97] F0 G0 F G), PP (cl_X10_nameAt_5 fu n x1 x2 x3 x4 F G) (fun _ F' G' => KX [98] [94, 95, 96, 97] F0 G0 F' G') := by
  intro n
  induction n with
  | zero =>
    intro x1 x2 x3 x4 F G hK
    exact PP.no
  | succ n ihn =>
    intro x1 x2 x3 x4 F G hK
    show PP (cb_X10_nameAt_5 fu (cl_X10_nameAt_5 fu n) x1 x2 x3 x4 F G) _
    unfold cb_X10_nameAt_5
    refine PP.ite (fun c_1 => ?_) (fun c_1 => ?_)
    · skip
      unfold cb_X10_nameAt_34
      refine PP.ix (fun _ => ?_)
      exact cwz_X10_nameAt_58 fu x1 x2 ((x3 ^^^ ((x3.toUInt32 >>> ((10 : Int32).toUInt32 &&& Int32.toUInt32 31)).toInt32)) &&& (1023 : Int32)) (G 94 ((x3 ^^^ ((x3.toUInt32 >>> ((10 : Int32).toUInt32 &&& Int32.toUInt32 31)).toInt32)) &&& (1023 : Int32)).toNatClampNeg) (0 : Int32) F G hK
    · skip
      unfold cb_X10_nameAt_11
      refine PP.bind (cw_X9_at (x1 + x4) F G) ?_
      intro r2 F2 G2 hK2
      dsimp only
      unfold cb_X10_nameAt_26
      exact ihn x1 x2 ((x3 * (31 : Int32)) + r2) (x4 + (1 : Int32)) F2 G2 (KX.tr hK hK2 rfl rfl)
theorem cw_X10_nameAt {fu : Nat} (x1 : Int32) (x2 : Int32) (F : PF) (G : PG) : PP (cf_X10_nameAt fu x1 x2 F G) (fun _ F' G' => KX [98] [94, 95, 96, 97] F G F' G') := by
  unfold cf_X10_nameAt
  unfold cb_X10_nameAt_0
  exact cwz_X10_nameAt_5 fu x1 x2 x2 (0 : Int32) F G KX.rf
theorem cwj_X10_behindName_55 {fu : Nat} {F0 : PF} {G0 : PG} (x2 : Int32) (F : PF) (G : PG) (hK : KX [93, 98] [90, 91, 92, 94, 95, 96, 97] F0 G0 F G) : PP (cb_X10_behindName_55 fu x2 F G) (fun _ F' G' => KX [93, 98] [90, 91, 92, 94, 95, 96, 97] F0 G0 F' G') := by
  unfold cb_X10_behindName_55
  refine PP.ret ?_
  exact hK
theorem cw_X10_behindName {fu : Nat} (x1 : Int32) (F : PF) (G : PG) : PP (cf_X10_behindName fu x1 F G) (fun _ F' G' => KX [93, 98] [90, 91, 92, 94, 95, 96, 97] F G F' G') := by
  unfold cf_X10_behindName
  unfold cb_X10_behindName_0
  refine PP.bind (cw_X10_behindParts x1 F G) ?_
  intro r1 F1 G1 hK1
  dsimp only
  unfold cb_X10_behindName_5
  refine PP.ite (fun c_2 => ?_) (fun c_2 => ?_)
  · skip
    unfold cb_X10_behindName_18
    refine PP.bind (cw_X10_wordAt x1 (r1 - x1) F1 G1) ?_
    intro r3 F3 G3 hK3
    dsimp only
    unfold cb_X10_behindName_24
    refine PP.ite (fun c_4 => ?_) (fun c_4 => ?_)
    · skip
      unfold cb_X10_behindName_43
      refine PP.bind (cw_X10_nameAt x1 (r1 - x1) F3 G3) ?_
      intro r5 F5 G5 hK5
      dsimp only
      unfold cb_X10_behindName_51
      refine PP.bind (cw_X10_add (2 : Int32) r5 x1 F5 G5) ?_
      intro r6 F6 G6 hK6
      dsimp only
      exact cwj_X10_behindName_55 r1 F6 G6 (KX.tr (KX.tr (KX.tr (KX.tr KX.rf hK1 rfl rfl) hK3 rfl rfl) hK5 rfl rfl) hK6 rfl rfl)
    · skip
      unfold cb_X10_behindName_32
      refine PP.bind (cw_X10_add r3 (0 : Int32) x1 F3 G3) ?_
      intro r7 F7 G7 hK7
      dsimp only
      unfold cb_X10_behindName_40
      exact cwj_X10_behindName_55 r1 F7 G7 (KX.tr (KX.tr (KX.tr KX.rf hK1 rfl rfl) hK3 rfl rfl) hK7 rfl rfl)
  · skip
    unfold cb_X10_behindName_16
    refine PP.ret ?_
    exact (KX.tr KX.rf hK1 rfl rfl)
theorem cwj_X10_behindToken_60 {fu : Nat} {F0 : PF} {G0 : PG} (x3 : Int32) (F : PF) (G : PG) (hK : KX [93, 98] [90, 91, 92, 94, 95, 96, 97] F0 G0 F G) : PP (cb_X10_behindToken_60 fu x3 F G) (fun _ F' G' => KX [93, 98] [90, 91, 92, 94, 95, 96, 97] F0 G0 F' G') := by
  unfold cb_X10_behindToken_60
  refine PP.ret ?_
  exact hK
theorem cwj_X10_behindToken_48 {fu : Nat} {F0 : PF} {G0 : PG} (x1 : Int32) (x3 : Int32) (F : PF) (G : PG) (hK : KX [93, 98] [90, 91, 92, 94, 95, 96, 97] F0 G0 F G) : PP (cb_X10_behindToken_48 fu x1 x3 F G) (fun _ F' G' => KX [93, 98] [90, 91, 92, 94, 95, 96, 97] F0 G0 F' G') := by
  unfold cb_X10_behindToken_48
  refine PP.ite (fun c_1 => ?_) (fun c_1 => ?_)
  · skip
    unfold cb_X10_behindToken_53
    refine PP.bind (cw_X10_add (1 : Int32) (0 : Int32) x1 F G) ?_
    intro r2 F2 G2 hK2
    dsimp only
    exact cwj_X10_behindToken_60 x3 F2 G2 (KX.tr hK hK2 rfl rfl)
  · skip
    exact cwj_X10_behindToken_60 x3 F G hK
theorem cw_X10_behindToken {fu : Nat} (x1 : Int32) (F : PF) (G : PG) : PP (cf_X10_behindToken fu x1 F G) (fun _ F' G' => KX [93, 98] [90, 91, 92, 94, 95, 96, 97] F G F' G') := by
  unfold cf_X10_behindToken
  unfold cb_X10_behindToken_0
  refine PP.bind (cw_X9_at x1 F G) ?_
  intro r1 F1 G1 hK1
  dsimp only
  unfold cb_X10_behindToken_8
  refine PP.bind (cw_X10_isDigit r1 F1 G1) ?_
  intro r2 F2 G2 hK2
  dsimp only
  unfold cb_X10_behindToken_13
  refine PP.ite (fun c_3 => ?_) (fun c_3 => ?_)
  · skip
    unfold cb_X10_behindToken_25
    refine PP.bind (cw_X10_isPart r1 F2 G2) ?_
    intro r4 F4 G4 hK4
    dsimp only
    unfold cb_X10_behindToken_29
    refine PP.ite (fun c_5 => ?_) (fun c_5 => ?_)
    · skip
      unfold cb_X10_behindToken_41
      refine PP.bind (cw_X10_behindSign x1 r1 F4 G4) ?_
      intro r6 F6 G6 hK6
      dsimp only
      unfold cb_X10_behindToken_47
      exact cwj_X10_behindToken_48 x1 r6 F6 G6 (KX.tr (KX.tr (KX.tr (KX.tr KX.rf hK1 rfl rfl) hK2 rfl rfl) hK4 rfl rfl) hK6 rfl rfl)
    · skip
      unfold cb_X10_behindToken_32
      refine PP.bind (cw_X10_behindName x1 F4 G4) ?_
      intro r7 F7 G7 hK7
      dsimp only
      unfold cb_X10_behindToken_37
      exact cwj_X10_behindToken_48 x1 r7 F7 G7 (KX.tr (KX.tr (KX.tr (KX.tr KX.rf hK1 rfl rfl) hK2 rfl rfl) hK4 rfl rfl) hK7 rfl rfl)
  · skip
    unfold cb_X10_behindToken_16
    refine PP.bind (cw_X10_behindNumber x1 F2 G2) ?_
    intro r8 F8 G8 hK8
    dsimp only
    unfold cb_X10_behindToken_21
    exact cwj_X10_behindToken_48 x1 r8 F8 G8 (KX.tr (KX.tr (KX.tr KX.rf hK1 rfl rfl) hK2 rfl rfl) hK8 rfl rfl)
theorem cwj_X10_scan_75 {fu : Nat} {F0 : PF} {G0 : PG} (F : PF) (G : PG) (hK : KX [93, 98] [90, 91, 92, 94, 95, 96, 97] F0 G0 F G) : PP (cb_X10_scan_75 fu F G) (fun _ F' G' => KX [93, 98] [90, 91, 92, 94, 95, 96, 97] F0 G0 F' G') := by
  unfold cb_X10_scan_75
  refine PP.bind (cw_X10_add (0 : Int32) (0 : Int32) (F 88) F G) ?_
  intro r1 F1 G1 hK1
  dsimp only
  unfold cb_X10_scan_88
  refine PP.ret ?_
  exact (KX.tr hK hK1 rfl rfl)
theorem cwj_X10_scan_63 {fu : Nat} {F0 : PF} {G0 : PG} (ag_22 : Int32 → Int32 → PF → PG → PR) (hag_22 : ∀ (x1 : Int32) (x2 : Int32) (F : PF) (G : PG) (hK : KX [93, 98] [90, 91, 92, 94, 95, 96, 97] F0 G0 F G), PP (ag_22 x1 x2 F G) (fun _ F' G' => KX [93, 98] [90, 91, 92, 94, 95, 96, 97] F0 G0 F' G')) (x1 : Int32) (x2 : Int32) (F : PF) (G : PG) (hK : KX [93, 98] [90, 91, 92, 94, 95, 96, 97] F0 G0 F G) : PP (cb_X10_scan_63 fu ag_22 x1 x2 F G) (fun _ F' G' => KX [93, 98] [90, 91, 92, 94, 95, 96, 97] F0 G0 F' G') := by
  unfold cb_X10_scan_63
  refine PP.ite (fun c_1 => ?_) (fun c_1 => ?_)
  · skip
    unfold cb_X10_scan_68
    refine PP.ret ?_
    exact hK
  · skip
    unfold cb_X10_scan_69
    exact hag_22 x1 (x2 + (1 : Int32)) F G hK
theorem cwz_X10_scan_22 {fu : Nat} {F0 : PF} {G0 : PG} : ∀ (n : Nat) (x1 : Int32) (x2 : Int32) (F : PF) (G : PG) (hK : KX [93, 98] [90, 91, 92, 94, 95, 96, 97] F0 G0 F G), PP (cl_X10_scan_22 fu n x1 x2 F G) (fun _ F' G' => KX [93, 98] [90, 91, 92, 94, 95, 96, 97] F0 G0 F' G') := by
  intro n
  induction n with
  | zero =>
    intro x1 x2 F G hK
    exact PP.no
  | succ n ihn =>
    intro x1 x2 F G hK
    show PP (cb_X10_scan_22 fu (cl_X10_scan_22 fu n) x1 x2 F G) _
    unfold cb_X10_scan_22
    refine PP.ite (fun c_1 => ?_) (fun c_1 => ?_)
    · skip
      exact cwj_X10_scan_75 F G hK
    · skip
      unfold cb_X10_scan_29
      refine PP.ite (fun c_2 => ?_) (fun c_2 => ?_)
      · skip
        exact cwj_X10_scan_75 F G hK
      · skip
        unfold cb_X10_scan_40
        refine PP.bind (cw_X10_behindGap x1 F G) ?_
        intro r3 F3 G3 hK3
        dsimp only
        unfold cb_X10_scan_45
        refine PP.ite (fun c_4 => ?_) (fun c_4 => ?_)
        · skip
          exact cwj_X10_scan_63 (cl_X10_scan_22 fu n) ihn r3 x2 F3 G3 (KX.tr hK hK3 rfl rfl)
        · skip
          unfold cb_X10_scan_57
          refine PP.bind (cw_X10_behindToken r3 F3 G3) ?_
          intro r5 F5 G5 hK5
          dsimp only
          unfold cb_X10_scan_62
          exact cwj_X10_scan_63 (cl_X10_scan_22 fu n) ihn r5 x2 F5 G5 (KX.tr (KX.tr hK hK3 rfl rfl) hK5 rfl rfl)
theorem cw_X10_scan {fu : Nat} (F : PF) (G : PG) : PP (cf_X10_scan fu F G) (fun _ F' G' => KX [93, 98] [90, 91, 92, 94, 95, 96, 97] F G F' G') := by
  unfold cf_X10_scan
  unfold cb_X10_scan_0
  unfold cb_X10_scan_5
  unfold cb_X10_scan_10
  refine PP.bind (cw_fill_94 (-1 : Int32) (fup (fup F 93 (0 : Int32)) 98 (0 : Int32)) G) ?_
  intro r1 F1 G1 hK1
  dsimp only
  unfold cb_X10_scan_18
  exact cwz_X10_scan_22 fu (0 : Int32) (0 : Int32) F1 G1 (KX.tr (KX.f (k := 98) rfl (KX.f (k := 93) rfl KX.rf)) hK1 rfl rfl)
theorem cwj_X10_mainId_100 {fu : Nat} {F0 : PF} {G0 : PG} (x1 : Int32) (F : PF) (G : PG) (hK : KX [] [] F0 G0 F G) : PP (cb_X10_mainId_100 fu x1 F G) (fun _ F' G' => KX [] [] F0 G0 F' G') := by
  unfold cb_X10_mainId_100
  refine PP.ret ?_
  exact hK
theorem cwj_X10_mainId_94 {fu : Nat} {F0 : PF} {G0 : PG} (ag_4 : Int32 → Int32 → PF → PG → PR) (hag_4 : ∀ (x1 : Int32) (x2 : Int32) (F : PF) (G : PG) (hK : KX [] [] F0 G0 F G), PP (ag_4 x1 x2 F G) (fun _ F' G' => KX [] [] F0 G0 F' G')) (x1 : Int32) (x2 : Int32) (F : PF) (G : PG) (hK : KX [] [] F0 G0 F G) : PP (cb_X10_mainId_94 fu ag_4 x1 x2 F G) (fun _ F' G' => KX [] [] F0 G0 F' G') := by
  unfold cb_X10_mainId_94
  exact hag_4 x1 (x2 + (1 : Int32)) F G hK
theorem cwz_X10_mainId_4 {fu : Nat} {F0 : PF} {G0 : PG} : ∀ (n : Nat) (x1 : Int32) (x2 : Int32) (F : PF) (G : PG) (hK : KX [] [] F0 G0 F G), PP (cl_X10_mainId_4 fu n x1 x2 F G) (fun _ F' G' => KX [] [] F0 G0 F' G') := by
  intro n
  induction n with
  | zero =>
    intro x1 x2 F G hK
    exact PP.no
  | succ n ihn =>
    intro x1 x2 F G hK
    show PP (cb_X10_mainId_4 fu (cl_X10_mainId_4 fu n) x1 x2 F G) _
    unfold cb_X10_mainId_4
    refine PP.ite (fun c_1 => ?_) (fun c_1 => ?_)
    · skip
      exact cwj_X10_mainId_100 x1 F G hK
    · skip
      unfold cb_X10_mainId_12
      refine PP.ite (fun c_2 => ?_) (fun c_2 => ?_)
      · skip
        unfold cb_X10_mainId_17
        refine PP.ix (fun _ => ?_)
        refine PP.ix (fun _ => ?_)
        refine PP.ite (fun c_3 => ?_) (fun c_3 => ?_)
        · skip
          unfold cb_X10_mainId_34
          refine PP.bind (cw_X9_at (G 96 x2.toNatClampNeg) F G) ?_
          intro r4 F4 G4 hK4
          dsimp only
          unfold cb_X10_mainId_42
          refine PP.ite (fun c_5 => ?_) (fun c_5 => ?_)
          · skip
            unfold cb_X10_mainId_47
            refine PP.bind (cw_X9_at ((G 96 x2.toNatClampNeg) + (1 : Int32)) F4 G4) ?_
            intro r6 F6 G6 hK6
            dsimp only
            unfold cb_X10_mainId_57
            refine PP.ite (fun c_7 => ?_) (fun c_7 => ?_)
            · skip
              unfold cb_X10_mainId_62
              refine PP.bind (cw_X9_at ((G 96 x2.toNatClampNeg) + (2 : Int32)) F6 G6) ?_
              intro r8 F8 G8 hK8
              dsimp only
              unfold cb_X10_mainId_72
              refine PP.ite (fun c_9 => ?_) (fun c_9 => ?_)
              · skip
                unfold cb_X10_mainId_77
                refine PP.bind (cw_X9_at ((G 96 x2.toNatClampNeg) + (3 : Int32)) F8 G8) ?_
                intro r10 F10 G10 hK10
                dsimp only
                unfold cb_X10_mainId_87
                refine PP.ite (fun c_11 => ?_) (fun c_11 => ?_)
                · skip
                  unfold cb_X10_mainId_92
                  exact cwj_X10_mainId_94 (cl_X10_mainId_4 fu n) ihn x2 x2 F10 G10 (KX.tr (KX.tr (KX.tr (KX.tr hK hK4 rfl rfl) hK6 rfl rfl) hK8 rfl rfl) hK10 rfl rfl)
                · skip
                  exact cwj_X10_mainId_94 (cl_X10_mainId_4 fu n) ihn x1 x2 F10 G10 (KX.tr (KX.tr (KX.tr (KX.tr hK hK4 rfl rfl) hK6 rfl rfl) hK8 rfl rfl) hK10 rfl rfl)
              · skip
                exact cwj_X10_mainId_94 (cl_X10_mainId_4 fu n) ihn x1 x2 F8 G8 (KX.tr (KX.tr (KX.tr hK hK4 rfl rfl) hK6 rfl rfl) hK8 rfl rfl)
            · skip
              exact cwj_X10_mainId_94 (cl_X10_mainId_4 fu n) ihn x1 x2 F6 G6 (KX.tr (KX.tr hK hK4 rfl rfl) hK6 rfl rfl)
          · skip
            exact cwj_X10_mainId_94 (cl_X10_mainId_4 fu n) ihn x1 x2 F4 G4 (KX.tr hK hK4 rfl rfl)
        · skip
          exact cwj_X10_mainId_94 (cl_X10_mainId_4 fu n) ihn x1 x2 F G hK
      · skip
        exact cwj_X10_mainId_100 x1 F G hK
theorem cw_X10_mainId {fu : Nat} (F : PF) (G : PG) : PP (cf_X10_mainId fu F G) (fun _ F' G' => KX [] [] F G F' G') := by
  unfold cf_X10_mainId
  unfold cb_X10_mainId_0
  exact cwz_X10_mainId_4 fu (-1 : Int32) (0 : Int32) F G KX.rf
