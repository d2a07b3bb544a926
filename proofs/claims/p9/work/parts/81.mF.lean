theorem mw_J0_length_8abf5 {fu : Nat} (i : Nat) (F : PF) (G : PG) : PP (mf_J0_length_8abf5 fu i F G) (fun _ F' G' => KX [] [] F G F' G') := by
  unfold mf_J0_length_8abf5
  exact PP.lt (fun _ => PP.ret KX.rf)
theorem mw_J0_charAt_5068e {fu : Nat} (i : Nat) (k : Int32) (F : PF) (G : PG) : PP (mf_J0_charAt_5068e fu i k F G) (fun _ F' G' => KX [] [] F G F' G') := by
  unfold mf_J0_charAt_5068e
  exact PP.lt (fun _ => PP.ix (fun _ => PP.ret KX.rf))
theorem mwj_feed_71 {fu : Nat} {F0 : PF} {G0 : PG} (ag_18 : Int32 → Int32 → Int32 → Int32 → Int32 → Int32 → PF → PG → PR) (hag_18 : ∀ (x1 : Int32) (x2 : Int32) (x3 : Int32) (x4 : Int32) (x5 : Int32) (x6 : Int32) (F : PF) (G : PG) (hK : KX [2] [0] F0 G0 F G), PP (ag_18 x1 x2 x3 x4 x5 x6 F G) (fun _ F' G' => KX [2] [0] F0 G0 F' G')) (x1 : Int32) (x2 : Int32) (x3 : Int32) (x4 : Int32) (x5 : Int32) (x6 : Int32) (z0 : Int32) (F : PF) (G : PG) (hK : KX [2] [0] F0 G0 F G) : PP (mb_feed_71 fu ag_18 x1 x2 x3 x4 x5 x6 z0 F G) (fun _ F' G' => KX [2] [0] F0 G0 F' G') := by
  unfold mb_feed_71
  refine PP.ix (fun _ => ?_)
  unfold mb_feed_102
  exact hag_18 x1 x2 x3 x4 x5 (x6 + (1 : Int32)) F (gup G 0 ((F 2) + x6).toNatClampNeg ((z0 >>> (((24 : Int32) - ((8 : Int32) * (x6 - x6 / (4 : Int32) * (4 : Int32)))) &&& 31)) &&& (255 : Int32))) (KX.g (k := 0) rfl hK)
theorem mwz_feed_18 {fu : Nat} {F0 : PF} {G0 : PG} : ∀ (n : Nat) (x1 : Int32) (x2 : Int32) (x3 : Int32) (x4 : Int32) (x5 : Int32) (x6 : Int32) (F : PF) (G : PG) (hK : KX [2] [0] F0 G0 F G), PP (ml_feed_18 fu n x1 x2 x3 x4 x5 x6 F G) (fun _ F' G' => KX [2] [0] F0 G0 F' G') := by
  intro n
  induction n with
  | zero =>
    intro x1 x2 x3 x4 x5 x6 F G hK
    exact PP.no
  | succ n ihn =>
    intro x1 x2 x3 x4 x5 x6 F G hK
    show PP (mb_feed_18 fu (ml_feed_18 fu n) x1 x2 x3 x4 x5 x6 F G) _
    unfold mb_feed_18
    refine PP.ite (fun c_1 => ?_) (fun c_1 => ?_)
    · skip
      unfold mb_feed_108
      unfold mb_feed_119
      refine PP.ret ?_
      exact (KX.f (k := 2) rfl hK)
    · skip
      unfold mb_feed_25
      refine PP.ite (fun c_2 => ?_) (fun c_2 => ?_)
      · skip
        unfold mb_feed_35
        refine PP.ite (fun c_3 => ?_) (fun c_3 => ?_)
        · skip
          unfold mb_feed_46
          refine PP.ite (fun c_4 => ?_) (fun c_4 => ?_)
          · skip
            unfold mb_feed_57
            refine PP.ite (fun c_5 => ?_) (fun c_5 => ?_)
            · skip
              unfold mb_feed_69
              exact mwj_feed_71 (ml_feed_18 fu n) ihn x1 x2 x3 x4 x5 x6 x5 F G hK
            · skip
              unfold mb_feed_64
              exact mwj_feed_71 (ml_feed_18 fu n) ihn x1 x2 x3 x4 x5 x6 x4 F G hK
          · skip
            unfold mb_feed_53
            exact mwj_feed_71 (ml_feed_18 fu n) ihn x1 x2 x3 x4 x5 x6 x3 F G hK
        · skip
          unfold mb_feed_42
          exact mwj_feed_71 (ml_feed_18 fu n) ihn x1 x2 x3 x4 x5 x6 x2 F G hK
      · skip
        unfold mb_feed_31
        exact mwj_feed_71 (ml_feed_18 fu n) ihn x1 x2 x3 x4 x5 x6 x1 F G hK
theorem mw_feed {fu : Nat} (x1 : Int32) (x2 : Int32) (x3 : Int32) (x4 : Int32) (x5 : Int32) (F : PF) (G : PG) : PP (mf_feed fu x1 x2 x3 x4 x5 F G) (fun _ F' G' => KX [2] [0] F G F' G') := by
  unfold mf_feed
  unfold mb_feed_0
  refine PP.ite (fun c_1 => ?_) (fun c_1 => ?_)
  · skip
    unfold mb_feed_15
    exact mwz_feed_18 fu x1 x2 x3 x4 x5 (0 : Int32) F G KX.rf
  · skip
    unfold mb_feed_13
    refine PP.ret ?_
    exact KX.rf
theorem mwj_end_12 {fu : Nat} {F0 : PF} {G0 : PG} (F : PF) (G : PG) (hK : KX [2] [] F0 G0 F G) : PP (mb_end_12 fu F G) (fun _ F' G' => KX [2] [] F0 G0 F' G') := by
  unfold mb_end_12
  refine PP.ret ?_
  exact hK
theorem mw_end {fu : Nat} (x1 : Int32) (F : PF) (G : PG) : PP (mf_end fu x1 F G) (fun _ F' G' => KX [2] [] F G F' G') := by
  unfold mf_end
  unfold mb_end_0
  refine PP.ite (fun c_1 => ?_) (fun c_1 => ?_)
  · skip
    exact mwj_end_12 F G KX.rf
  · skip
    unfold mb_end_4
    refine PP.ite (fun c_2 => ?_) (fun c_2 => ?_)
    · skip
      unfold mb_end_14
      unfold mb_end_19
      refine PP.ret ?_
      exact (KX.f (k := 2) rfl KX.rf)
    · skip
      exact mwj_end_12 F G KX.rf
theorem mwj_at_18 {fu : Nat} {F0 : PF} {G0 : PG} (z0 : Int32) (F : PF) (G : PG) (hK : KX [] [] F0 G0 F G) : PP (mb_at_18 fu z0 F G) (fun _ F' G' => KX [] [] F0 G0 F' G') := by
  unfold mb_at_18
  refine PP.ret ?_
  exact hK
theorem mw_at {fu : Nat} (x1 : Int32) (F : PF) (G : PG) : PP (mf_at fu x1 F G) (fun _ F' G' => KX [] [] F G F' G') := by
  unfold mf_at
  unfold mb_at_0
  refine PP.ite (fun c_1 => ?_) (fun c_1 => ?_)
  · skip
    unfold mb_at_17
    exact mwj_at_18 (0 : Int32) F G KX.rf
  · skip
    unfold mb_at_8
    refine PP.ix (fun _ => ?_)
    exact mwj_at_18 (G 1 x1.toNatClampNeg) F G KX.rf
theorem mwj_isLetter_35 {fu : Nat} {F0 : PF} {G0 : PG} (z0 : Int32) (F : PF) (G : PG) (hK : KX [] [] F0 G0 F G) : PP (mb_isLetter_35 fu z0 F G) (fun _ F' G' => KX [] [] F0 G0 F' G') := by
  unfold mb_isLetter_35
  refine PP.bz (fun _ => ?_)
  refine PP.ret ?_
  exact hK
theorem mwj_isLetter_30 {fu : Nat} {F0 : PF} {G0 : PG} (F : PF) (G : PG) (hK : KX [] [] F0 G0 F G) : PP (mb_isLetter_30 fu F G) (fun _ F' G' => KX [] [] F0 G0 F' G') := by
  unfold mb_isLetter_30
  exact mwj_isLetter_35 (1 : Int32) F G hK
theorem mwj_isLetter_24 {fu : Nat} {F0 : PF} {G0 : PG} (x0 : Int32) (F : PF) (G : PG) (hK : KX [] [] F0 G0 F G) : PP (mb_isLetter_24 fu x0 F G) (fun _ F' G' => KX [] [] F0 G0 F' G') := by
  unfold mb_isLetter_24
  refine PP.ite (fun c_1 => ?_) (fun c_1 => ?_)
  · skip
    exact mwj_isLetter_30 F G hK
  · skip
    unfold mb_isLetter_34
    exact mwj_isLetter_35 (0 : Int32) F G hK
theorem mwj_isLetter_12 {fu : Nat} {F0 : PF} {G0 : PG} (x0 : Int32) (F : PF) (G : PG) (hK : KX [] [] F0 G0 F G) : PP (mb_isLetter_12 fu x0 F G) (fun _ F' G' => KX [] [] F0 G0 F' G') := by
  unfold mb_isLetter_12
  refine PP.ite (fun c_1 => ?_) (fun c_1 => ?_)
  · skip
    exact mwj_isLetter_24 x0 F G hK
  · skip
    unfold mb_isLetter_18
    refine PP.ite (fun c_2 => ?_) (fun c_2 => ?_)
    · skip
      exact mwj_isLetter_30 F G hK
    · skip
      exact mwj_isLetter_24 x0 F G hK
theorem mw_isLetter {fu : Nat} (x0 : Int32) (F : PF) (G : PG) : PP (mf_isLetter fu x0 F G) (fun _ F' G' => KX [] [] F G F' G') := by
  unfold mf_isLetter
  unfold mb_isLetter_0
  refine PP.ite (fun c_1 => ?_) (fun c_1 => ?_)
  · skip
    exact mwj_isLetter_12 x0 F G KX.rf
  · skip
    unfold mb_isLetter_6
    refine PP.ite (fun c_2 => ?_) (fun c_2 => ?_)
    · skip
      exact mwj_isLetter_30 F G KX.rf
    · skip
      exact mwj_isLetter_12 x0 F G KX.rf
theorem mwj_isDigit_17 {fu : Nat} {F0 : PF} {G0 : PG} (z0 : Int32) (F : PF) (G : PG) (hK : KX [] [] F0 G0 F G) : PP (mb_isDigit_17 fu z0 F G) (fun _ F' G' => KX [] [] F0 G0 F' G') := by
  unfold mb_isDigit_17
  refine PP.bz (fun _ => ?_)
  refine PP.ret ?_
  exact hK
theorem mwj_isDigit_16 {fu : Nat} {F0 : PF} {G0 : PG} (F : PF) (G : PG) (hK : KX [] [] F0 G0 F G) : PP (mb_isDigit_16 fu F G) (fun _ F' G' => KX [] [] F0 G0 F' G') := by
  unfold mb_isDigit_16
  exact mwj_isDigit_17 (0 : Int32) F G hK
theorem mw_isDigit {fu : Nat} (x0 : Int32) (F : PF) (G : PG) : PP (mf_isDigit fu x0 F G) (fun _ F' G' => KX [] [] F G F' G') := by
  unfold mf_isDigit
  unfold mb_isDigit_0
  refine PP.ite (fun c_1 => ?_) (fun c_1 => ?_)
  · skip
    exact mwj_isDigit_16 F G KX.rf
  · skip
    unfold mb_isDigit_6
    refine PP.ite (fun c_2 => ?_) (fun c_2 => ?_)
    · skip
      exact mwj_isDigit_16 F G KX.rf
    · skip
      unfold mb_isDigit_12
      exact mwj_isDigit_17 (1 : Int32) F G KX.rf
theorem mwj_isInner_19 {fu : Nat} {F0 : PF} {G0 : PG} (z0 : Int32) (F : PF) (G : PG) (hK : KX [] [] F0 G0 F G) : PP (mb_isInner_19 fu z0 F G) (fun _ F' G' => KX [] [] F0 G0 F' G') := by
  unfold mb_isInner_19
  refine PP.bz (fun _ => ?_)
  refine PP.ret ?_
  exact hK
theorem mwj_isInner_14 {fu : Nat} {F0 : PF} {G0 : PG} (F : PF) (G : PG) (hK : KX [] [] F0 G0 F G) : PP (mb_isInner_14 fu F G) (fun _ F' G' => KX [] [] F0 G0 F' G') := by
  unfold mb_isInner_14
  exact mwj_isInner_19 (1 : Int32) F G hK
theorem mw_isInner {fu : Nat} (x0 : Int32) (F : PF) (G : PG) : PP (mf_isInner fu x0 F G) (fun _ F' G' => KX [] [] F G F' G') := by
  unfold mf_isInner
  unfold mb_isInner_0
  refine PP.bind (mw_isLetter x0 F G) ?_
  intro r1 F1 G1 hK1
  dsimp only
  unfold mb_isInner_4
  refine PP.ite (fun c_2 => ?_) (fun c_2 => ?_)
  · skip
    unfold mb_isInner_7
    refine PP.bind (mw_isDigit x0 F1 G1) ?_
    intro r3 F3 G3 hK3
    dsimp only
    unfold mb_isInner_11
    refine PP.ite (fun c_4 => ?_) (fun c_4 => ?_)
    · skip
      unfold mb_isInner_18
      exact mwj_isInner_19 (0 : Int32) F3 G3 (KX.tr (KX.tr KX.rf hK1 rfl rfl) hK3 rfl rfl)
    · skip
      exact mwj_isInner_14 F3 G3 (KX.tr (KX.tr KX.rf hK1 rfl rfl) hK3 rfl rfl)
  · skip
    exact mwj_isInner_14 F1 G1 (KX.tr KX.rf hK1 rfl rfl)
theorem mwj_hex_60 {fu : Nat} {F0 : PF} {G0 : PG} (z0 : Int32) (F : PF) (G : PG) (hK : KX [] [] F0 G0 F G) : PP (mb_hex_60 fu z0 F G) (fun _ F' G' => KX [] [] F0 G0 F' G') := by
  unfold mb_hex_60
  refine PP.ret ?_
  exact hK
theorem mwj_hex_58 {fu : Nat} {F0 : PF} {G0 : PG} (F : PF) (G : PG) (hK : KX [] [] F0 G0 F G) : PP (mb_hex_58 fu F G) (fun _ F' G' => KX [] [] F0 G0 F' G') := by
  unfold mb_hex_58
  exact mwj_hex_60 (99 : Int32) F G hK
theorem mwj_hex_36 {fu : Nat} {F0 : PF} {G0 : PG} (x0 : Int32) (F : PF) (G : PG) (hK : KX [] [] F0 G0 F G) : PP (mb_hex_36 fu x0 F G) (fun _ F' G' => KX [] [] F0 G0 F' G') := by
  unfold mb_hex_36
  refine PP.ite (fun c_1 => ?_) (fun c_1 => ?_)
  · skip
    exact mwj_hex_58 F G hK
  · skip
    unfold mb_hex_42
    refine PP.ite (fun c_2 => ?_) (fun c_2 => ?_)
    · skip
      exact mwj_hex_58 F G hK
    · skip
      unfold mb_hex_48
      exact mwj_hex_60 ((x0 - (65 : Int32)) + (10 : Int32)) F G hK
theorem mw_hex {fu : Nat} (x0 : Int32) (F : PF) (G : PG) : PP (mf_hex fu x0 F G) (fun _ F' G' => KX [] [] F G F' G') := by
  unfold mf_hex
  unfold mb_hex_0
  refine PP.bind (mw_isDigit x0 F G) ?_
  intro r1 F1 G1 hK1
  dsimp only
  unfold mb_hex_4
  refine PP.ite (fun c_2 => ?_) (fun c_2 => ?_)
  · skip
    unfold mb_hex_14
    refine PP.ite (fun c_3 => ?_) (fun c_3 => ?_)
    · skip
      exact mwj_hex_36 x0 F1 G1 (KX.tr KX.rf hK1 rfl rfl)
    · skip
      unfold mb_hex_20
      refine PP.ite (fun c_4 => ?_) (fun c_4 => ?_)
      · skip
        exact mwj_hex_36 x0 F1 G1 (KX.tr KX.rf hK1 rfl rfl)
      · skip
        unfold mb_hex_26
        exact mwj_hex_60 ((x0 - (97 : Int32)) + (10 : Int32)) F1 G1 (KX.tr KX.rf hK1 rfl rfl)
  · skip
    unfold mb_hex_7
    exact mwj_hex_60 (x0 - (48 : Int32)) F1 G1 (KX.tr KX.rf hK1 rfl rfl)
theorem mwz_placeIn_87 {fu : Nat} {F0 : PF} {G0 : PG} (ag_6 : Nat → Int32 → Int32 → Int32 → Int32 → PF → PG → PR) (hag_6 : ∀ (x1 : Nat) (x2 : Int32) (x3 : Int32) (x4 : Int32) (x5 : Int32) (F : PF) (G : PG) (hK : KX [] [] F0 G0 F G), PP (ag_6 x1 x2 x3 x4 x5 F G) (fun _ F' G' => KX [] [] F0 G0 F' G')) : ∀ (n : Nat) (x1 : Nat) (x2 : Int32) (x3 : Int32) (x4 : Int32) (x5 : Int32) (F : PF) (G : PG) (hK : KX [] [] F0 G0 F G), PP (ml_placeIn_87 fu ag_6 n x1 x2 x3 x4 x5 F G) (fun _ F' G' => KX [] [] F0 G0 F' G') := by
  intro n
  induction n with
  | zero =>
    intro x1 x2 x3 x4 x5 F G hK
    exact PP.no
  | succ n ihn =>
    intro x1 x2 x3 x4 x5 F G hK
    show PP (mb_placeIn_87 fu ag_6 (ml_placeIn_87 fu ag_6 n) x1 x2 x3 x4 x5 F G) _
    unfold mb_placeIn_87
    refine PP.bind (mw_J0_charAt_5068e x1 x4 F G) ?_
    intro r1 F1 G1 hK1
    dsimp only
    unfold mb_placeIn_93
    refine PP.ite (fun c_2 => ?_) (fun c_2 => ?_)
    · skip
      unfold mb_placeIn_104
      exact hag_6 x1 x2 x3 (x4 + (1 : Int32)) (x5 + (1 : Int32)) F1 G1 (KX.tr hK hK1 rfl rfl)
    · skip
      unfold mb_placeIn_98
      exact ihn x1 x2 x3 (x4 + (1 : Int32)) x5 F1 G1 (KX.tr hK hK1 rfl rfl)
theorem mwj_placeIn_64 {fu : Nat} {F0 : PF} {G0 : PG} (ag_6 : Nat → Int32 → Int32 → Int32 → Int32 → PF → PG → PR) (hag_6 : ∀ (x1 : Nat) (x2 : Int32) (x3 : Int32) (x4 : Int32) (x5 : Int32) (F : PF) (G : PG) (hK : KX [] [] F0 G0 F G), PP (ag_6 x1 x2 x3 x4 x5 F G) (fun _ F' G' => KX [] [] F0 G0 F' G')) (x1 : Nat) (x2 : Int32) (x3 : Int32) (x4 : Int32) (x5 : Int32) (x6 : Int32) (F : PF) (G : PG) (hK : KX [] [] F0 G0 F G) : PP (mb_placeIn_64 fu ag_6 x1 x2 x3 x4 x5 x6 F G) (fun _ F' G' => KX [] [] F0 G0 F' G') := by
  unfold mb_placeIn_64
  refine PP.ite (fun c_1 => ?_) (fun c_1 => ?_)
  · skip
    unfold mb_placeIn_70
    refine PP.bind (mw_J0_charAt_5068e x1 (x4 + x6) F G) ?_
    intro r2 F2 G2 hK2
    dsimp only
    unfold mb_placeIn_79
    refine PP.ite (fun c_3 => ?_) (fun c_3 => ?_)
    · skip
      unfold mb_placeIn_84
      refine PP.ret ?_
      exact (KX.tr hK hK2 rfl rfl)
    · skip
      exact mwz_placeIn_87 ag_6 hag_6 fu x1 x2 x3 x4 x5 F2 G2 (KX.tr hK hK2 rfl rfl)
  · skip
    exact mwz_placeIn_87 ag_6 hag_6 fu x1 x2 x3 x4 x5 F G hK
theorem mwz_placeIn_18 {fu : Nat} {F0 : PF} {G0 : PG} (ag_6 : Nat → Int32 → Int32 → Int32 → Int32 → PF → PG → PR) (hag_6 : ∀ (x1 : Nat) (x2 : Int32) (x3 : Int32) (x4 : Int32) (x5 : Int32) (F : PF) (G : PG) (hK : KX [] [] F0 G0 F G), PP (ag_6 x1 x2 x3 x4 x5 F G) (fun _ F' G' => KX [] [] F0 G0 F' G')) : ∀ (n : Nat) (x1 : Nat) (x2 : Int32) (x3 : Int32) (x4 : Int32) (x5 : Int32) (x6 : Int32) (F : PF) (G : PG) (hK : KX [] [] F0 G0 F G), PP (ml_placeIn_18 fu ag_6 n x1 x2 x3 x4 x5 x6 F G) (fun _ F' G' => KX [] [] F0 G0 F' G') := by
  intro n
  induction n with
  | zero =>
    intro x1 x2 x3 x4 x5 x6 F G hK
    exact PP.no
  | succ n ihn =>
    intro x1 x2 x3 x4 x5 x6 F G hK
    show PP (mb_placeIn_18 fu ag_6 (ml_placeIn_18 fu ag_6 n) x1 x2 x3 x4 x5 x6 F G) _
    unfold mb_placeIn_18
    refine PP.bind (mw_J0_charAt_5068e x1 (x4 + x6) F G) ?_
    intro r1 F1 G1 hK1
    dsimp only
    unfold mb_placeIn_27
    refine PP.ite (fun c_2 => ?_) (fun c_2 => ?_)
    · skip
      exact mwj_placeIn_64 ag_6 hag_6 x1 x2 x3 x4 x5 x6 F1 G1 (KX.tr hK hK1 rfl rfl)
    · skip
      unfold mb_placeIn_32
      refine PP.ite (fun c_3 => ?_) (fun c_3 => ?_)
      · skip
        exact mwj_placeIn_64 ag_6 hag_6 x1 x2 x3 x4 x5 x6 F1 G1 (KX.tr hK hK1 rfl rfl)
      · skip
        unfold mb_placeIn_38
        refine PP.bind (mw_J0_charAt_5068e x1 (x4 + x6) F1 G1) ?_
        intro r4 F4 G4 hK4
        dsimp only
        unfold mb_placeIn_47
        refine PP.bind (mw_at (x2 + x6) F4 G4) ?_
        intro r5 F5 G5 hK5
        dsimp only
        unfold mb_placeIn_55
        refine PP.ite (fun c_6 => ?_) (fun c_6 => ?_)
        · skip
          unfold mb_placeIn_58
          exact ihn x1 x2 x3 x4 x5 (x6 + (1 : Int32)) F5 G5 (KX.tr (KX.tr (KX.tr hK hK1 rfl rfl) hK4 rfl rfl) hK5 rfl rfl)
        · skip
          exact mwj_placeIn_64 ag_6 hag_6 x1 x2 x3 x4 x5 x6 F5 G5 (KX.tr (KX.tr (KX.tr hK hK1 rfl rfl) hK4 rfl rfl) hK5 rfl rfl)
theorem mwz_placeIn_6 {fu : Nat} {F0 : PF} {G0 : PG} : ∀ (n : Nat) (x1 : Nat) (x2 : Int32) (x3 : Int32) (x4 : Int32) (x5 : Int32) (F : PF) (G : PG) (hK : KX [] [] F0 G0 F G), PP (ml_placeIn_6 fu n x1 x2 x3 x4 x5 F G) (fun _ F' G' => KX [] [] F0 G0 F' G') := by
  intro n
  induction n with
  | zero =>
    intro x1 x2 x3 x4 x5 F G hK
    exact PP.no
  | succ n ihn =>
    intro x1 x2 x3 x4 x5 F G hK
    show PP (mb_placeIn_6 fu (ml_placeIn_6 fu n) x1 x2 x3 x4 x5 F G) _
    unfold mb_placeIn_6
    refine PP.bind (mw_J0_length_8abf5 x1 F G) ?_
    intro r1 F1 G1 hK1
    dsimp only
    unfold mb_placeIn_12
    refine PP.ite (fun c_2 => ?_) (fun c_2 => ?_)
    · skip
      unfold mb_placeIn_113
      refine PP.ret ?_
      exact (KX.tr hK hK1 rfl rfl)
    · skip
      unfold mb_placeIn_15
      exact mwz_placeIn_18 (ml_placeIn_6 fu n) ihn fu x1 x2 x3 x4 x5 (0 : Int32) F1 G1 (KX.tr hK hK1 rfl rfl)
theorem mw_placeIn {fu : Nat} (x1 : Nat) (x2 : Int32) (x3 : Int32) (F : PF) (G : PG) : PP (mf_placeIn fu x1 x2 x3 F G) (fun _ F' G' => KX [] [] F G F' G') := by
  unfold mf_placeIn
  unfold mb_placeIn_0
  exact mwz_placeIn_6 fu x1 x2 x3 (1 : Int32) (0 : Int32) F G KX.rf
theorem mwj_nameOf_110 {fu : Nat} {F0 : PF} {G0 : PG} (ag_34 : Int32 → Int32 → Int32 → Int32 → PF → PG → PR) (hag_34 : ∀ (x1 : Int32) (x2 : Int32) (x3 : Int32) (x4 : Int32) (F : PF) (G : PG) (hK : KX [13] [9, 10, 11, 12] F0 G0 F G), PP (ag_34 x1 x2 x3 x4 F G) (fun _ F' G' => KX [13] [9, 10, 11, 12] F0 G0 F' G')) (x1 : Int32) (x2 : Int32) (x3 : Int32) (x4 : Int32) (x5 : Int32) (F : PF) (G : PG) (hK : KX [13] [9, 10, 11, 12] F0 G0 F G) : PP (mb_nameOf_110 fu ag_34 x1 x2 x3 x4 x5 F G) (fun _ F' G' => KX [13] [9, 10, 11, 12] F0 G0 F' G') := by
  unfold mb_nameOf_110
  refine PP.ite (fun c_1 => ?_) (fun c_1 => ?_)
  · skip
    unfold mb_nameOf_118
    refine PP.ix (fun _ => ?_)
    exact hag_34 x1 x2 x3 (G 11 x4.toNatClampNeg) F G hK
  · skip
    unfold mb_nameOf_115
    refine PP.ret ?_
    exact hK
theorem mwj_nameOf_102 {fu : Nat} {F0 : PF} {G0 : PG} (ag_34 : Int32 → Int32 → Int32 → Int32 → PF → PG → PR) (hag_34 : ∀ (x1 : Int32) (x2 : Int32) (x3 : Int32) (x4 : Int32) (F : PF) (G : PG) (hK : KX [13] [9, 10, 11, 12] F0 G0 F G), PP (ag_34 x1 x2 x3 x4 F G) (fun _ F' G' => KX [13] [9, 10, 11, 12] F0 G0 F' G')) (ag_61 : Int32 → Int32 → Int32 → Int32 → Int32 → Int32 → PF → PG → PR) (hag_61 : ∀ (x1 : Int32) (x2 : Int32) (x3 : Int32) (x4 : Int32) (x5 : Int32) (x6 : Int32) (F : PF) (G : PG) (hK : KX [13] [9, 10, 11, 12] F0 G0 F G), PP (ag_61 x1 x2 x3 x4 x5 x6 F G) (fun _ F' G' => KX [13] [9, 10, 11, 12] F0 G0 F' G')) (x1 : Int32) (x2 : Int32) (x3 : Int32) (x4 : Int32) (x6 : Int32) (z0 : Int32) (F : PF) (G : PG) (hK : KX [13] [9, 10, 11, 12] F0 G0 F G) : PP (mb_nameOf_102 fu ag_34 ag_61 x1 x2 x3 x4 x6 z0 F G) (fun _ F' G' => KX [13] [9, 10, 11, 12] F0 G0 F' G') := by
  unfold mb_nameOf_102
  exact hag_61 x1 x2 x3 x4 z0 (x6 + (1 : Int32)) F G hK
theorem mwz_nameOf_61 {fu : Nat} {F0 : PF} {G0 : PG} (ag_34 : Int32 → Int32 → Int32 → Int32 → PF → PG → PR) (hag_34 : ∀ (x1 : Int32) (x2 : Int32) (x3 : Int32) (x4 : Int32) (F : PF) (G : PG) (hK : KX [13] [9, 10, 11, 12] F0 G0 F G), PP (ag_34 x1 x2 x3 x4 F G) (fun _ F' G' => KX [13] [9, 10, 11, 12] F0 G0 F' G')) : ∀ (n : Nat) (x1 : Int32) (x2 : Int32) (x3 : Int32) (x4 : Int32) (x5 : Int32) (x6 : Int32) (F : PF) (G : PG) (hK : KX [13] [9, 10, 11, 12] F0 G0 F G), PP (ml_nameOf_61 fu ag_34 n x1 x2 x3 x4 x5 x6 F G) (fun _ F' G' => KX [13] [9, 10, 11, 12] F0 G0 F' G') := by
  intro n
  induction n with
  | zero =>
    intro x1 x2 x3 x4 x5 x6 F G hK
    exact PP.no
  | succ n ihn =>
    intro x1 x2 x3 x4 x5 x6 F G hK
    show PP (mb_nameOf_61 fu ag_34 (ml_nameOf_61 fu ag_34 n) x1 x2 x3 x4 x5 x6 F G) _
    unfold mb_nameOf_61
    refine PP.ite (fun c_1 => ?_) (fun c_1 => ?_)
    · skip
      exact mwj_nameOf_110 ag_34 hag_34 x1 x2 x3 x4 x5 F G hK
    · skip
      unfold mb_nameOf_67
      refine PP.ite (fun c_2 => ?_) (fun c_2 => ?_)
      · skip
        exact mwj_nameOf_110 ag_34 hag_34 x1 x2 x3 x4 x5 F G hK
      · skip
        unfold mb_nameOf_72
        refine PP.ix (fun _ => ?_)
        refine PP.bind (mw_at ((G 9 x4.toNatClampNeg) + x6) F G) ?_
        intro r3 F3 G3 hK3
        dsimp only
        unfold mb_nameOf_86
        refine PP.bind (mw_at (x1 + x6) F3 G3) ?_
        intro r4 F4 G4 hK4
        dsimp only
        unfold mb_nameOf_94
        refine PP.ite (fun c_5 => ?_) (fun c_5 => ?_)
        · skip
          unfold mb_nameOf_97
          exact mwj_nameOf_102 ag_34 hag_34 (ml_nameOf_61 fu ag_34 n) ihn x1 x2 x3 x4 x6 (1 : Int32) F4 G4 (KX.tr (KX.tr hK hK3 rfl rfl) hK4 rfl rfl)
        · skip
          unfold mb_nameOf_101
          exact mwj_nameOf_102 ag_34 hag_34 (ml_nameOf_61 fu ag_34 n) ihn x1 x2 x3 x4 x6 (0 : Int32) F4 G4 (KX.tr (KX.tr hK hK3 rfl rfl) hK4 rfl rfl)
theorem mwj_nameOf_56 {fu : Nat} {F0 : PF} {G0 : PG} (ag_34 : Int32 → Int32 → Int32 → Int32 → PF → PG → PR) (hag_34 : ∀ (x1 : Int32) (x2 : Int32) (x3 : Int32) (x4 : Int32) (F : PF) (G : PG) (hK : KX [13] [9, 10, 11, 12] F0 G0 F G), PP (ag_34 x1 x2 x3 x4 F G) (fun _ F' G' => KX [13] [9, 10, 11, 12] F0 G0 F' G')) (x1 : Int32) (x2 : Int32) (x3 : Int32) (x4 : Int32) (z0 : Int32) (F : PF) (G : PG) (hK : KX [13] [9, 10, 11, 12] F0 G0 F G) : PP (mb_nameOf_56 fu ag_34 x1 x2 x3 x4 z0 F G) (fun _ F' G' => KX [13] [9, 10, 11, 12] F0 G0 F' G') := by
  unfold mb_nameOf_56
  exact mwz_nameOf_61 ag_34 hag_34 fu x1 x2 x3 x4 z0 (0 : Int32) F G hK
theorem mwz_nameOf_34 {fu : Nat} {F0 : PF} {G0 : PG} : ∀ (n : Nat) (x1 : Int32) (x2 : Int32) (x3 : Int32) (x4 : Int32) (F : PF) (G : PG) (hK : KX [13] [9, 10, 11, 12] F0 G0 F G), PP (ml_nameOf_34 fu n x1 x2 x3 x4 F G) (fun _ F' G' => KX [13] [9, 10, 11, 12] F0 G0 F' G') := by
  intro n
  induction n with
  | zero =>
    intro x1 x2 x3 x4 F G hK
    exact PP.no
  | succ n ihn =>
    intro x1 x2 x3 x4 F G hK
    show PP (mb_nameOf_34 fu (ml_nameOf_34 fu n) x1 x2 x3 x4 F G) _
    unfold mb_nameOf_34
    refine PP.ite (fun c_1 => ?_) (fun c_1 => ?_)
    · skip
      unfold mb_nameOf_130
      refine PP.ix (fun _ => ?_)
      unfold mb_nameOf_140
      refine PP.ix (fun _ => ?_)
      unfold mb_nameOf_150
      refine PP.ix (fun _ => ?_)
      refine PP.ix (fun _ => ?_)
      unfold mb_nameOf_165
      refine PP.ix (fun _ => ?_)
      unfold mb_nameOf_175
      unfold mb_nameOf_185
      refine PP.ret ?_
      exact (KX.f (k := 13) rfl (KX.g (k := 12) rfl (KX.g (k := 11) rfl (KX.g (k := 10) rfl (KX.g (k := 9) rfl hK)))))
    · skip
      unfold mb_nameOf_40
      refine PP.ix (fun _ => ?_)
      refine PP.ite (fun c_2 => ?_) (fun c_2 => ?_)
      · skip
        unfold mb_nameOf_51
        exact mwj_nameOf_56 (ml_nameOf_34 fu n) ihn x1 x2 x3 x4 (1 : Int32) F G hK
      · skip
        unfold mb_nameOf_55
        exact mwj_nameOf_56 (ml_nameOf_34 fu n) ihn x1 x2 x3 x4 (0 : Int32) F G hK
theorem mw_nameOf {fu : Nat} (x1 : Int32) (x2 : Int32) (F : PF) (G : PG) : PP (mf_nameOf fu x1 x2 F G) (fun _ F' G' => KX [13] [9, 10, 11, 12] F G F' G') := by
  unfold mf_nameOf
  unfold mb_nameOf_0
  refine PP.bind (mw_at x1 F G) ?_
  intro r1 F1 G1 hK1
  dsimp only
  unfold mb_nameOf_5
  refine PP.bind (mw_at ((x1 + x2) - (1 : Int32)) F1 G1) ?_
  intro r2 F2 G2 hK2
  dsimp only
  unfold mb_nameOf_17
  refine PP.ix (fun _ => ?_)
  exact mwz_nameOf_34 fu x1 x2 ((((r1 * (7 : Int32)) + (r2 * (3 : Int32))) + x2) - (((r1 * (7 : Int32)) + (r2 * (3 : Int32))) + x2) / (64 : Int32) * (64 : Int32)) (G2 12 ((((r1 * (7 : Int32)) + (r2 * (3 : Int32))) + x2) - (((r1 * (7 : Int32)) + (r2 * (3 : Int32))) + x2) / (64 : Int32) * (64 : Int32)).toNatClampNeg) F2 G2 (KX.tr (KX.tr KX.rf hK1 rfl rfl) hK2 rfl rfl)
theorem mwj_skip_30 {fu : Nat} {F0 : PF} {G0 : PG} (ag_2 : Int32 → PF → PG → PR) (hag_2 : ∀ (x2 : Int32) (F : PF) (G : PG) (hK : KX [8] [] F0 G0 F G), PP (ag_2 x2 F G) (fun _ F' G' => KX [8] [] F0 G0 F' G')) (x2 : Int32) (F : PF) (G : PG) (hK : KX [8] [] F0 G0 F G) : PP (mb_skip_30 fu ag_2 x2 F G) (fun _ F' G' => KX [8] [] F0 G0 F' G') := by
  unfold mb_skip_30
  exact hag_2 (x2 + (1 : Int32)) F G hK
theorem mwz_skip_58 {fu : Nat} {F0 : PF} {G0 : PG} (ag_2 : Int32 → PF → PG → PR) (hag_2 : ∀ (x2 : Int32) (F : PF) (G : PG) (hK : KX [8] [] F0 G0 F G), PP (ag_2 x2 F G) (fun _ F' G' => KX [8] [] F0 G0 F' G')) : ∀ (n : Nat) (x2 : Int32) (F : PF) (G : PG) (hK : KX [8] [] F0 G0 F G), PP (ml_skip_58 fu ag_2 n x2 F G) (fun _ F' G' => KX [8] [] F0 G0 F' G') := by
  intro n
  induction n with
  | zero =>
    intro x2 F G hK
    exact PP.no
  | succ n ihn =>
    intro x2 F G hK
    show PP (mb_skip_58 fu ag_2 (ml_skip_58 fu ag_2 n) x2 F G) _
    unfold mb_skip_58
    refine PP.ite (fun c_1 => ?_) (fun c_1 => ?_)
    · skip
      exact hag_2 x2 F G hK
    · skip
      unfold mb_skip_66
      refine PP.bind (mw_at x2 F G) ?_
      intro r2 F2 G2 hK2
      dsimp only
      unfold mb_skip_71
      refine PP.ite (fun c_3 => ?_) (fun c_3 => ?_)
      · skip
        exact hag_2 x2 F2 G2 (KX.tr hK hK2 rfl rfl)
      · skip
        unfold mb_skip_76
        exact ihn (x2 + (1 : Int32)) F2 G2 (KX.tr hK hK2 rfl rfl)
theorem mwj_skip_144 {fu : Nat} {F0 : PF} {G0 : PG} (ag_2 : Int32 → PF → PG → PR) (hag_2 : ∀ (x2 : Int32) (F : PF) (G : PG) (hK : KX [8] [] F0 G0 F G), PP (ag_2 x2 F G) (fun _ F' G' => KX [8] [] F0 G0 F' G')) (x2 : Int32) (x3 : Int32) (F : PF) (G : PG) (hK : KX [8] [] F0 G0 F G) : PP (mb_skip_144 fu ag_2 x2 x3 F G) (fun _ F' G' => KX [8] [] F0 G0 F' G') := by
  unfold mb_skip_144
  refine PP.ite (fun c_1 => ?_) (fun c_1 => ?_)
  · skip
    unfold mb_skip_159
    exact hag_2 (x3 + (2 : Int32)) F G hK
  · skip
    unfold mb_skip_152
    unfold mb_skip_157
    refine PP.ret ?_
    exact (KX.f (k := 8) rfl hK)
theorem mwj_skip_138 {fu : Nat} {F0 : PF} {G0 : PG} (ag_2 : Int32 → PF → PG → PR) (hag_2 : ∀ (x2 : Int32) (F : PF) (G : PG) (hK : KX [8] [] F0 G0 F G), PP (ag_2 x2 F G) (fun _ F' G' => KX [8] [] F0 G0 F' G')) (ag_108 : Int32 → Int32 → PF → PG → PR) (hag_108 : ∀ (x2 : Int32) (x3 : Int32) (F : PF) (G : PG) (hK : KX [8] [] F0 G0 F G), PP (ag_108 x2 x3 F G) (fun _ F' G' => KX [8] [] F0 G0 F' G')) (x2 : Int32) (x3 : Int32) (F : PF) (G : PG) (hK : KX [8] [] F0 G0 F G) : PP (mb_skip_138 fu ag_2 ag_108 x2 x3 F G) (fun _ F' G' => KX [8] [] F0 G0 F' G') := by
  unfold mb_skip_138
  exact hag_108 x2 (x3 + (1 : Int32)) F G hK
theorem mwz_skip_108 {fu : Nat} {F0 : PF} {G0 : PG} (ag_2 : Int32 → PF → PG → PR) (hag_2 : ∀ (x2 : Int32) (F : PF) (G : PG) (hK : KX [8] [] F0 G0 F G), PP (ag_2 x2 F G) (fun _ F' G' => KX [8] [] F0 G0 F' G')) : ∀ (n : Nat) (x2 : Int32) (x3 : Int32) (F : PF) (G : PG) (hK : KX [8] [] F0 G0 F G), PP (ml_skip_108 fu ag_2 n x2 x3 F G) (fun _ F' G' => KX [8] [] F0 G0 F' G') := by
  intro n
  induction n with
  | zero =>
    intro x2 x3 F G hK
    exact PP.no
  | succ n ihn =>
    intro x2 x3 F G hK
    show PP (mb_skip_108 fu ag_2 (ml_skip_108 fu ag_2 n) x2 x3 F G) _
    unfold mb_skip_108
    refine PP.ite (fun c_1 => ?_) (fun c_1 => ?_)
    · skip
      exact mwj_skip_144 ag_2 hag_2 x2 x3 F G hK
    · skip
      unfold mb_skip_116
      refine PP.bind (mw_at x3 F G) ?_
      intro r2 F2 G2 hK2
      dsimp only
      unfold mb_skip_121
      refine PP.ite (fun c_3 => ?_) (fun c_3 => ?_)
      · skip
        unfold mb_skip_126
        refine PP.bind (mw_at (x3 + (1 : Int32)) F2 G2) ?_
        intro r4 F4 G4 hK4
        dsimp only
        unfold mb_skip_133
        refine PP.ite (fun c_5 => ?_) (fun c_5 => ?_)
        · skip
          exact mwj_skip_144 ag_2 hag_2 x2 x3 F4 G4 (KX.tr (KX.tr hK hK2 rfl rfl) hK4 rfl rfl)
        · skip
          exact mwj_skip_138 ag_2 hag_2 (ml_skip_108 fu ag_2 n) ihn x2 x3 F4 G4 (KX.tr (KX.tr hK hK2 rfl rfl) hK4 rfl rfl)
      · skip
        exact mwj_skip_138 ag_2 hag_2 (ml_skip_108 fu ag_2 n) ihn x2 x3 F2 G2 (KX.tr hK hK2 rfl rfl)
theorem mwj_skip_166 {fu : Nat} {F0 : PF} {G0 : PG} (x2 : Int32) (F : PF) (G : PG) (hK : KX [8] [] F0 G0 F G) : PP (mb_skip_166 fu x2 F G) (fun _ F' G' => KX [8] [] F0 G0 F' G') := by
  unfold mb_skip_166
  refine PP.ret ?_
  exact hK
theorem mwj_skip_82 {fu : Nat} {F0 : PF} {G0 : PG} (ag_2 : Int32 → PF → PG → PR) (hag_2 : ∀ (x2 : Int32) (F : PF) (G : PG) (hK : KX [8] [] F0 G0 F G), PP (ag_2 x2 F G) (fun _ F' G' => KX [8] [] F0 G0 F' G')) (x2 : Int32) (F : PF) (G : PG) (hK : KX [8] [] F0 G0 F G) : PP (mb_skip_82 fu ag_2 x2 F G) (fun _ F' G' => KX [8] [] F0 G0 F' G') := by
  unfold mb_skip_82
  refine PP.bind (mw_at x2 F G) ?_
  intro r1 F1 G1 hK1
  dsimp only
  unfold mb_skip_87
  refine PP.ite (fun c_2 => ?_) (fun c_2 => ?_)
  · skip
    unfold mb_skip_92
    refine PP.bind (mw_at (x2 + (1 : Int32)) F1 G1) ?_
    intro r3 F3 G3 hK3
    dsimp only
    unfold mb_skip_99
    refine PP.ite (fun c_4 => ?_) (fun c_4 => ?_)
    · skip
      unfold mb_skip_104
      exact mwz_skip_108 ag_2 hag_2 fu x2 (x2 + (2 : Int32)) F3 G3 (KX.tr (KX.tr hK hK1 rfl rfl) hK3 rfl rfl)
    · skip
      exact mwj_skip_166 x2 F3 G3 (KX.tr (KX.tr hK hK1 rfl rfl) hK3 rfl rfl)
  · skip
    exact mwj_skip_166 x2 F1 G1 (KX.tr hK hK1 rfl rfl)
theorem mwz_skip_2 {fu : Nat} {F0 : PF} {G0 : PG} : ∀ (n : Nat) (x2 : Int32) (F : PF) (G : PG) (hK : KX [8] [] F0 G0 F G), PP (ml_skip_2 fu n x2 F G) (fun _ F' G' => KX [8] [] F0 G0 F' G') := by
  intro n
  induction n with
  | zero =>
    intro x2 F G hK
    exact PP.no
  | succ n ihn =>
    intro x2 F G hK
    show PP (mb_skip_2 fu (ml_skip_2 fu n) x2 F G) _
    unfold mb_skip_2
    refine PP.ite (fun c_1 => ?_) (fun c_1 => ?_)
    · skip
      unfold mb_skip_168
      refine PP.ret ?_
      exact hK
    · skip
      unfold mb_skip_10
      refine PP.bind (mw_at x2 F G) ?_
      intro r2 F2 G2 hK2
      dsimp only
      unfold mb_skip_15
      refine PP.ite (fun c_3 => ?_) (fun c_3 => ?_)
      · skip
        exact mwj_skip_30 (ml_skip_2 fu n) ihn x2 F2 G2 (KX.tr hK hK2 rfl rfl)
      · skip
        unfold mb_skip_20
        refine PP.bind (mw_at x2 F2 G2) ?_
        intro r4 F4 G4 hK4
        dsimp only
        unfold mb_skip_25
        refine PP.ite (fun c_5 => ?_) (fun c_5 => ?_)
        · skip
          exact mwj_skip_30 (ml_skip_2 fu n) ihn x2 F4 G4 (KX.tr (KX.tr hK hK2 rfl rfl) hK4 rfl rfl)
        · skip
          unfold mb_skip_36
          refine PP.bind (mw_at x2 F4 G4) ?_
          intro r6 F6 G6 hK6
          dsimp only
          unfold mb_skip_41
          refine PP.ite (fun c_7 => ?_) (fun c_7 => ?_)
          · skip
            unfold mb_skip_46
            refine PP.bind (mw_at (x2 + (1 : Int32)) F6 G6) ?_
            intro r8 F8 G8 hK8
            dsimp only
            unfold mb_skip_53
            refine PP.ite (fun c_9 => ?_) (fun c_9 => ?_)
            · skip
              exact mwz_skip_58 (ml_skip_2 fu n) ihn fu x2 F8 G8 (KX.tr (KX.tr (KX.tr (KX.tr hK hK2 rfl rfl) hK4 rfl rfl) hK6 rfl rfl) hK8 rfl rfl)
            · skip
              exact mwj_skip_82 (ml_skip_2 fu n) ihn x2 F8 G8 (KX.tr (KX.tr (KX.tr (KX.tr hK hK2 rfl rfl) hK4 rfl rfl) hK6 rfl rfl) hK8 rfl rfl)
          · skip
            exact mwj_skip_82 (ml_skip_2 fu n) ihn x2 F6 G6 (KX.tr (KX.tr (KX.tr hK hK2 rfl rfl) hK4 rfl rfl) hK6 rfl rfl)
theorem mw_skip {fu : Nat} (x1 : Int32) (F : PF) (G : PG) : PP (mf_skip fu x1 F G) (fun _ F' G' => KX [8] [] F G F' G') := by
  unfold mf_skip
  unfold mb_skip_0
  exact mwz_skip_2 fu x1 F G KX.rf
theorem mw_token {fu : Nat} (x1 : Int32) (x2 : Int32) (x3 : Int32) (F : PF) (G : PG) : PP (mf_token fu x1 x2 x3 F G) (fun _ F' G' => KX [7] [4, 5, 6] F G F' G') := by
  unfold mf_token
  unfold mb_token_0
  refine PP.ix (fun _ => ?_)
  unfold mb_token_10
  refine PP.ix (fun _ => ?_)
  unfold mb_token_20
  refine PP.ix (fun _ => ?_)
  unfold mb_token_30
  unfold mb_token_40
  refine PP.ret ?_
  exact (KX.f (k := 7) rfl (KX.g (k := 6) rfl (KX.g (k := 5) rfl (KX.g (k := 4) rfl KX.rf))))
theorem mwj_numberToken_173 {fu : Nat} {F0 : PF} {G0 : PG} (F : PF) (G : PG) (hK : KX [7] [4, 5, 6] F0 G0 F G) : PP (mb_numberToken_173 fu F G) (fun _ F' G' => KX [7] [4, 5, 6] F0 G0 F' G') := by
  unfold mb_numberToken_173
  refine PP.ret ?_
  exact hK
theorem mwj_numberToken_150 {fu : Nat} {F0 : PF} {G0 : PG} (x1 : Int32) (x3 : Int32) (x5 : Int64) (z0 : Int32) (z1 : Int32) (F : PF) (G : PG) (hK : KX [7] [4, 5, 6] F0 G0 F G) : PP (mb_numberToken_150 fu x1 x3 x5 z0 z1 F G) (fun _ F' G' => KX [7] [4, 5, 6] F0 G0 F' G') := by
  unfold mb_numberToken_150
  refine PP.ite (fun c_1 => ?_) (fun c_1 => ?_)
  · skip
    exact mwj_numberToken_173 F G hK
  · skip
    unfold mb_numberToken_153
    refine PP.ite (fun c_2 => ?_) (fun c_2 => ?_)
    · skip
      exact mwj_numberToken_173 F G hK
    · skip
      unfold mb_numberToken_162
      refine PP.bind (mw_at x3 F G) ?_
      intro r3 F3 G3 hK3
      dsimp only
      unfold mb_numberToken_167
      refine PP.bind (mw_isInner r3 F3 G3) ?_
      intro r4 F4 G4 hK4
      dsimp only
      unfold mb_numberToken_170
      refine PP.ite (fun c_5 => ?_) (fun c_5 => ?_)
      · skip
        unfold mb_numberToken_175
        refine PP.bind (mw_token (3 : Int32) (x5.toInt32) x1 F4 G4) ?_
        intro r6 F6 G6 hK6
        dsimp only
        unfold mb_numberToken_184
        refine PP.ret ?_
        exact (KX.tr (KX.tr (KX.tr hK hK3 rfl rfl) hK4 rfl rfl) hK6 rfl rfl)
      · skip
        exact mwj_numberToken_173 F4 G4 (KX.tr (KX.tr hK hK3 rfl rfl) hK4 rfl rfl)
theorem mwj_numberToken_125 {fu : Nat} {F0 : PF} {G0 : PG} (x1 : Int32) (x2 : Int32) (x3 : Int32) (x4 : Int32) (x5 : Int64) (F : PF) (G : PG) (hK : KX [7] [4, 5, 6] F0 G0 F G) : PP (mb_numberToken_125 fu x1 x2 x3 x4 x5 F G) (fun _ F' G' => KX [7] [4, 5, 6] F0 G0 F' G') := by
  unfold mb_numberToken_125
  refine PP.ite (fun c_1 => ?_) (fun c_1 => ?_)
  · skip
    exact mwj_numberToken_173 F G hK
  · skip
    unfold mb_numberToken_137
    refine PP.ite (fun c_2 => ?_) (fun c_2 => ?_)
    · skip
      unfold mb_numberToken_148
      exact mwj_numberToken_150 x1 x3 x5 (10 : Int32) (x3 - x4) F G hK
    · skip
      unfold mb_numberToken_143
      exact mwj_numberToken_150 x1 x3 x5 (8 : Int32) (x3 - x4) F G hK
theorem mwj_numberToken_117 {fu : Nat} {F0 : PF} {G0 : PG} (ag_46 : Int32 → Int32 → Int32 → Int32 → Int64 → PF → PG → PR) (hag_46 : ∀ (x1 : Int32) (x2 : Int32) (x3 : Int32) (x4 : Int32) (x5 : Int64) (F : PF) (G : PG) (hK : KX [7] [4, 5, 6] F0 G0 F G), PP (ag_46 x1 x2 x3 x4 x5 F G) (fun _ F' G' => KX [7] [4, 5, 6] F0 G0 F' G')) (x1 : Int32) (x2 : Int32) (x3 : Int32) (x4 : Int32) (z0 : Int64) (F : PF) (G : PG) (hK : KX [7] [4, 5, 6] F0 G0 F G) : PP (mb_numberToken_117 fu ag_46 x1 x2 x3 x4 z0 F G) (fun _ F' G' => KX [7] [4, 5, 6] F0 G0 F' G') := by
  unfold mb_numberToken_117
  exact hag_46 x1 x2 (x3 + (1 : Int32)) x4 z0 F G hK
theorem mwj_numberToken_101 {fu : Nat} {F0 : PF} {G0 : PG} (ag_46 : Int32 → Int32 → Int32 → Int32 → Int64 → PF → PG → PR) (hag_46 : ∀ (x1 : Int32) (x2 : Int32) (x3 : Int32) (x4 : Int32) (x5 : Int64) (F : PF) (G : PG) (hK : KX [7] [4, 5, 6] F0 G0 F G), PP (ag_46 x1 x2 x3 x4 x5 F G) (fun _ F' G' => KX [7] [4, 5, 6] F0 G0 F' G')) (x1 : Int32) (x2 : Int32) (x3 : Int32) (x4 : Int32) (z0 : Int64) (z1 : Int64) (F : PF) (G : PG) (hK : KX [7] [4, 5, 6] F0 G0 F G) : PP (mb_numberToken_101 fu ag_46 x1 x2 x3 x4 z0 z1 F G) (fun _ F' G' => KX [7] [4, 5, 6] F0 G0 F' G') := by
  unfold mb_numberToken_101
  refine PP.bind (mw_at x3 F G) ?_
  intro r1 F1 G1 hK1
  dsimp only
  unfold mb_numberToken_107
  refine PP.bind (mw_hex r1 F1 G1) ?_
  intro r2 F2 G2 hK2
  dsimp only
  unfold mb_numberToken_110
  exact mwj_numberToken_117 ag_46 hag_46 x1 x2 x3 x4 ((z1 * z0) + (r2.toInt64)) F2 G2 (KX.tr (KX.tr hK hK1 rfl rfl) hK2 rfl rfl)
theorem mwj_numberToken_77 {fu : Nat} {F0 : PF} {G0 : PG} (ag_46 : Int32 → Int32 → Int32 → Int32 → Int64 → PF → PG → PR) (hag_46 : ∀ (x1 : Int32) (x2 : Int32) (x3 : Int32) (x4 : Int32) (x5 : Int64) (F : PF) (G : PG) (hK : KX [7] [4, 5, 6] F0 G0 F G), PP (ag_46 x1 x2 x3 x4 x5 F G) (fun _ F' G' => KX [7] [4, 5, 6] F0 G0 F' G')) (x1 : Int32) (x2 : Int32) (x3 : Int32) (x4 : Int32) (x5 : Int64) (F : PF) (G : PG) (hK : KX [7] [4, 5, 6] F0 G0 F G) : PP (mb_numberToken_77 fu ag_46 x1 x2 x3 x4 x5 F G) (fun _ F' G' => KX [7] [4, 5, 6] F0 G0 F' G') := by
  unfold mb_numberToken_77
  refine PP.ite (fun c_1 => ?_) (fun c_1 => ?_)
  · skip
    unfold mb_numberToken_115
    exact mwj_numberToken_117 ag_46 hag_46 x1 x2 x3 x4 x5 F G hK
  · skip
    unfold mb_numberToken_86
    refine PP.ite (fun c_2 => ?_) (fun c_2 => ?_)
    · skip
      unfold mb_numberToken_98
      exact mwj_numberToken_101 ag_46 hag_46 x1 x2 x3 x4 (10 : Int64) x5 F G hK
    · skip
      unfold mb_numberToken_92
      exact mwj_numberToken_101 ag_46 hag_46 x1 x2 x3 x4 (16 : Int64) x5 F G hK
theorem mwz_numberToken_46 {fu : Nat} {F0 : PF} {G0 : PG} : ∀ (n : Nat) (x1 : Int32) (x2 : Int32) (x3 : Int32) (x4 : Int32) (x5 : Int64) (F : PF) (G : PG) (hK : KX [7] [4, 5, 6] F0 G0 F G), PP (ml_numberToken_46 fu n x1 x2 x3 x4 x5 F G) (fun _ F' G' => KX [7] [4, 5, 6] F0 G0 F' G') := by
  intro n
  induction n with
  | zero =>
    intro x1 x2 x3 x4 x5 F G hK
    exact PP.no
  | succ n ihn =>
    intro x1 x2 x3 x4 x5 F G hK
    show PP (mb_numberToken_46 fu (ml_numberToken_46 fu n) x1 x2 x3 x4 x5 F G) _
    unfold mb_numberToken_46
    refine PP.ite (fun c_1 => ?_) (fun c_1 => ?_)
    · skip
      unfold mb_numberToken_66
      refine PP.bind (mw_at x3 F G) ?_
      intro r2 F2 G2 hK2
      dsimp only
      unfold mb_numberToken_71
      refine PP.bind (mw_isDigit r2 F2 G2) ?_
      intro r3 F3 G3 hK3
      dsimp only
      unfold mb_numberToken_74
      refine PP.ite (fun c_4 => ?_) (fun c_4 => ?_)
      · skip
        exact mwj_numberToken_125 x1 x2 x3 x4 x5 F3 G3 (KX.tr (KX.tr hK hK2 rfl rfl) hK3 rfl rfl)
      · skip
        exact mwj_numberToken_77 (ml_numberToken_46 fu n) ihn x1 x2 x3 x4 x5 F3 G3 (KX.tr (KX.tr hK hK2 rfl rfl) hK3 rfl rfl)
    · skip
      unfold mb_numberToken_50
      refine PP.bind (mw_at x3 F G) ?_
      intro r5 F5 G5 hK5
      dsimp only
      unfold mb_numberToken_55
      refine PP.bind (mw_hex r5 F5 G5) ?_
      intro r6 F6 G6 hK6
      dsimp only
      unfold mb_numberToken_58
      refine PP.ite (fun c_7 => ?_) (fun c_7 => ?_)
      · skip
        exact mwj_numberToken_125 x1 x2 x3 x4 x5 F6 G6 (KX.tr (KX.tr hK hK5 rfl rfl) hK6 rfl rfl)
      · skip
        unfold mb_numberToken_63
        exact mwj_numberToken_77 (ml_numberToken_46 fu n) ihn x1 x2 x3 x4 x5 F6 G6 (KX.tr (KX.tr hK hK5 rfl rfl) hK6 rfl rfl)
theorem mwj_numberToken_39 {fu : Nat} {F0 : PF} {G0 : PG} (x1 : Int32) (x2 : Int32) (z0 : Int32) (F : PF) (G : PG) (hK : KX [7] [4, 5, 6] F0 G0 F G) : PP (mb_numberToken_39 fu x1 x2 z0 F G) (fun _ F' G' => KX [7] [4, 5, 6] F0 G0 F' G') := by
  unfold mb_numberToken_39
  exact mwz_numberToken_46 fu x1 x2 z0 z0 (0 : Int64) F G hK
theorem mwj_numberToken_27 {fu : Nat} {F0 : PF} {G0 : PG} (x1 : Int32) (z0 : Int32) (F : PF) (G : PG) (hK : KX [7] [4, 5, 6] F0 G0 F G) : PP (mb_numberToken_27 fu x1 z0 F G) (fun _ F' G' => KX [7] [4, 5, 6] F0 G0 F' G') := by
  unfold mb_numberToken_27
  refine PP.ite (fun c_1 => ?_) (fun c_1 => ?_)
  · skip
    unfold mb_numberToken_38
    exact mwj_numberToken_39 x1 z0 x1 F G hK
  · skip
    unfold mb_numberToken_32
    exact mwj_numberToken_39 x1 z0 (x1 + (2 : Int32)) F G hK
theorem mwj_numberToken_26 {fu : Nat} {F0 : PF} {G0 : PG} (x1 : Int32) (F : PF) (G : PG) (hK : KX [7] [4, 5, 6] F0 G0 F G) : PP (mb_numberToken_26 fu x1 F G) (fun _ F' G' => KX [7] [4, 5, 6] F0 G0 F' G') := by
  unfold mb_numberToken_26
  exact mwj_numberToken_27 x1 (0 : Int32) F G hK
theorem mw_numberToken {fu : Nat} (x1 : Int32) (F : PF) (G : PG) : PP (mf_numberToken fu x1 F G) (fun _ F' G' => KX [7] [4, 5, 6] F G F' G') := by
  unfold mf_numberToken
  unfold mb_numberToken_0
  refine PP.bind (mw_at x1 F G) ?_
  intro r1 F1 G1 hK1
  dsimp only
  unfold mb_numberToken_5
  refine PP.ite (fun c_2 => ?_) (fun c_2 => ?_)
  · skip
    unfold mb_numberToken_10
    refine PP.bind (mw_at (x1 + (1 : Int32)) F1 G1) ?_
    intro r3 F3 G3 hK3
    dsimp only
    unfold mb_numberToken_17
    refine PP.ite (fun c_4 => ?_) (fun c_4 => ?_)
    · skip
      unfold mb_numberToken_22
      exact mwj_numberToken_27 x1 (1 : Int32) F3 G3 (KX.tr (KX.tr KX.rf hK1 rfl rfl) hK3 rfl rfl)
    · skip
      exact mwj_numberToken_26 x1 F3 G3 (KX.tr (KX.tr KX.rf hK1 rfl rfl) hK3 rfl rfl)
  · skip
    exact mwj_numberToken_26 x1 F1 G1 (KX.tr KX.rf hK1 rfl rfl)
theorem mwj_wordToken_68 {fu : Nat} {F0 : PF} {G0 : PG} (x1 : Int32) (x2 : Int32) (z0 : Int32) (z1 : Int32) (F : PF) (G : PG) (hK : KX [7, 13] [4, 5, 6, 9, 10, 11, 12] F0 G0 F G) : PP (mb_wordToken_68 fu x1 x2 z0 z1 F G) (fun _ F' G' => KX [7, 13] [4, 5, 6, 9, 10, 11, 12] F0 G0 F' G') := by
  unfold mb_wordToken_68
  refine PP.bind (mw_token z1 z0 x1 F G) ?_
  intro r1 F1 G1 hK1
  dsimp only
  unfold mb_wordToken_72
  refine PP.ret ?_
  exact (KX.tr hK hK1 rfl rfl)
theorem mwj_wordToken_51 {fu : Nat} {F0 : PF} {G0 : PG} (x1 : Int32) (x2 : Int32) (x3 : Int32) (z0 : Int32) (F : PF) (G : PG) (hK : KX [7, 13] [4, 5, 6, 9, 10, 11, 12] F0 G0 F G) : PP (mb_wordToken_51 fu x1 x2 x3 z0 F G) (fun _ F' G' => KX [7, 13] [4, 5, 6, 9, 10, 11, 12] F0 G0 F' G') := by
  unfold mb_wordToken_51
  refine PP.ite (fun c_1 => ?_) (fun c_1 => ?_)
  · skip
    unfold mb_wordToken_56
    refine PP.bind (mw_nameOf x1 (x2 - x1) F G) ?_
    intro r2 F2 G2 hK2
    dsimp only
    unfold mb_wordToken_64
    exact mwj_wordToken_68 x1 x2 r2 z0 F2 G2 (KX.tr hK hK2 rfl rfl)
  · skip
    unfold mb_wordToken_67
    exact mwj_wordToken_68 x1 x2 x3 z0 F G hK
theorem mwz_wordToken_2 {fu : Nat} {F0 : PF} {G0 : PG} : ∀ (n : Nat) (x1 : Int32) (x2 : Int32) (F : PF) (G : PG) (hK : KX [7, 13] [4, 5, 6, 9, 10, 11, 12] F0 G0 F G), PP (ml_wordToken_2 fu n x1 x2 F G) (fun _ F' G' => KX [7, 13] [4, 5, 6, 9, 10, 11, 12] F0 G0 F' G') := by
  intro n
  induction n with
  | zero =>
    intro x1 x2 F G hK
    exact PP.no
  | succ n ihn =>
    intro x1 x2 F G hK
    show PP (mb_wordToken_2 fu (ml_wordToken_2 fu n) x1 x2 F G) _
    unfold mb_wordToken_2
    refine PP.bind (mw_at x2 F G) ?_
    intro r1 F1 G1 hK1
    dsimp only
    unfold mb_wordToken_7
    refine PP.bind (mw_isInner r1 F1 G1) ?_
    intro r2 F2 G2 hK2
    dsimp only
    unfold mb_wordToken_10
    refine PP.ite (fun c_3 => ?_) (fun c_3 => ?_)
    · skip
      unfold mb_wordToken_19
      refine PP.ite (fun c_4 => ?_) (fun c_4 => ?_)
      · skip
        unfold mb_wordToken_29
        refine PP.bind (mw_placeIn 1 x1 (x2 - x1) F2 G2) ?_
        intro r5 F5 G5 hK5
        dsimp only
        unfold mb_wordToken_39
        refine PP.ite (fun c_6 => ?_) (fun c_6 => ?_)
        · skip
          unfold mb_wordToken_46
          exact mwj_wordToken_51 x1 x2 r5 (1 : Int32) F5 G5 (KX.tr (KX.tr (KX.tr hK hK1 rfl rfl) hK2 rfl rfl) hK5 rfl rfl)
        · skip
          unfold mb_wordToken_50
          exact mwj_wordToken_51 x1 x2 r5 (2 : Int32) F5 G5 (KX.tr (KX.tr (KX.tr hK hK1 rfl rfl) hK2 rfl rfl) hK5 rfl rfl)
      · skip
        unfold mb_wordToken_27
        refine PP.ret ?_
        exact (KX.tr (KX.tr hK hK1 rfl rfl) hK2 rfl rfl)
    · skip
      unfold mb_wordToken_13
      exact ihn x1 (x2 + (1 : Int32)) F2 G2 (KX.tr (KX.tr hK hK1 rfl rfl) hK2 rfl rfl)
theorem mw_wordToken {fu : Nat} (x1 : Int32) (F : PF) (G : PG) : PP (mf_wordToken fu x1 F G) (fun _ F' G' => KX [7, 13] [4, 5, 6, 9, 10, 11, 12] F G F' G') := by
  unfold mf_wordToken
  unfold mb_wordToken_0
  exact mwz_wordToken_2 fu x1 x1 F G KX.rf
theorem mwj_tokenAt_60 {fu : Nat} {F0 : PF} {G0 : PG} (ag_34 : Int32 → Int32 → PF → PG → PR) (hag_34 : ∀ (x1 : Int32) (x3 : Int32) (F : PF) (G : PG) (hK : KX [7, 13] [4, 5, 6, 9, 10, 11, 12] F0 G0 F G), PP (ag_34 x1 x3 F G) (fun _ F' G' => KX [7, 13] [4, 5, 6, 9, 10, 11, 12] F0 G0 F' G')) (x1 : Int32) (x3 : Int32) (z0 : Int32) (F : PF) (G : PG) (hK : KX [7, 13] [4, 5, 6, 9, 10, 11, 12] F0 G0 F G) : PP (mb_tokenAt_60 fu ag_34 x1 x3 z0 F G) (fun _ F' G' => KX [7, 13] [4, 5, 6, 9, 10, 11, 12] F0 G0 F' G') := by
  unfold mb_tokenAt_60
  refine PP.ite (fun c_1 => ?_) (fun c_1 => ?_)
  · skip
    unfold mb_tokenAt_68
    unfold mb_tokenAt_83
    exact hag_34 x1 (x3 + (-1 : Int32)) F G hK
  · skip
    unfold mb_tokenAt_71
    refine PP.bind (mw_token (4 : Int32) z0 x1 F G) ?_
    intro r2 F2 G2 hK2
    dsimp only
    unfold mb_tokenAt_79
    refine PP.ret ?_
    exact (KX.tr hK hK2 rfl rfl)
theorem mwz_tokenAt_34 {fu : Nat} {F0 : PF} {G0 : PG} : ∀ (n : Nat) (x1 : Int32) (x3 : Int32) (F : PF) (G : PG) (hK : KX [7, 13] [4, 5, 6, 9, 10, 11, 12] F0 G0 F G), PP (ml_tokenAt_34 fu n x1 x3 F G) (fun _ F' G' => KX [7, 13] [4, 5, 6, 9, 10, 11, 12] F0 G0 F' G') := by
  intro n
  induction n with
  | zero =>
    intro x1 x3 F G hK
    exact PP.no
  | succ n ihn =>
    intro x1 x3 F G hK
    show PP (mb_tokenAt_34 fu (ml_tokenAt_34 fu n) x1 x3 F G) _
    unfold mb_tokenAt_34
    refine PP.ite (fun c_1 => ?_) (fun c_1 => ?_)
    · skip
      unfold mb_tokenAt_89
      refine PP.ret ?_
      exact hK
    · skip
      unfold mb_tokenAt_38
      refine PP.ite (fun c_2 => ?_) (fun c_2 => ?_)
      · skip
        unfold mb_tokenAt_59
        exact mwj_tokenAt_60 (ml_tokenAt_34 fu n) ihn x1 x3 (-1 : Int32) F G hK
      · skip
        unfold mb_tokenAt_48
        refine PP.bind (mw_placeIn 0 x1 x3 F G) ?_
        intro r3 F3 G3 hK3
        dsimp only
        unfold mb_tokenAt_56
        exact mwj_tokenAt_60 (ml_tokenAt_34 fu n) ihn x1 x3 r3 F3 G3 (KX.tr hK hK3 rfl rfl)
theorem mw_tokenAt {fu : Nat} (x1 : Int32) (F : PF) (G : PG) : PP (mf_tokenAt fu x1 F G) (fun _ F' G' => KX [7, 13] [4, 5, 6, 9, 10, 11, 12] F G F' G') := by
  unfold mf_tokenAt
  unfold mb_tokenAt_0
  refine PP.bind (mw_at x1 F G) ?_
  intro r1 F1 G1 hK1
  dsimp only
  unfold mb_tokenAt_5
  refine PP.bind (mw_isLetter r1 F1 G1) ?_
  intro r2 F2 G2 hK2
  dsimp only
  unfold mb_tokenAt_10
  refine PP.ite (fun c_3 => ?_) (fun c_3 => ?_)
  · skip
    unfold mb_tokenAt_19
    refine PP.bind (mw_isDigit r1 F2 G2) ?_
    intro r4 F4 G4 hK4
    dsimp only
    unfold mb_tokenAt_23
    refine PP.ite (fun c_5 => ?_) (fun c_5 => ?_)
    · skip
      unfold mb_tokenAt_32
      exact mwz_tokenAt_34 fu x1 (4 : Int32) F4 G4 (KX.tr (KX.tr (KX.tr KX.rf hK1 rfl rfl) hK2 rfl rfl) hK4 rfl rfl)
    · skip
      unfold mb_tokenAt_26
      refine PP.bind (mw_numberToken x1 F4 G4) ?_
      intro r6 F6 G6 hK6
      dsimp only
      unfold mb_tokenAt_31
      refine PP.ret ?_
      exact (KX.tr (KX.tr (KX.tr (KX.tr KX.rf hK1 rfl rfl) hK2 rfl rfl) hK4 rfl rfl) hK6 rfl rfl)
  · skip
    unfold mb_tokenAt_13
    refine PP.bind (mw_wordToken x1 F2 G2) ?_
    intro r7 F7 G7 hK7
    dsimp only
    unfold mb_tokenAt_18
    refine PP.ret ?_
    exact (KX.tr (KX.tr (KX.tr KX.rf hK1 rfl rfl) hK2 rfl rfl) hK7 rfl rfl)
theorem mwj_cut_89 {fu : Nat} {F0 : PF} {G0 : PG} (F : PF) (G : PG) (hK : KX [7, 8, 13] [4, 5, 6, 9, 10, 11, 12] F0 G0 F G) : PP (mb_cut_89 fu F G) (fun _ F' G' => KX [7, 8, 13] [4, 5, 6, 9, 10, 11, 12] F0 G0 F' G') := by
  unfold mb_cut_89
  refine PP.ix (fun _ => ?_)
  unfold mb_cut_99
  refine PP.ix (fun _ => ?_)
  unfold mb_cut_112
  refine PP.ret ?_
  exact (KX.g (k := 6) rfl (KX.g (k := 4) rfl hK))
theorem mwj_cut_85 {fu : Nat} {F0 : PF} {G0 : PG} (ag_42 : Int32 → PF → PG → PR) (hag_42 : ∀ (x1 : Int32) (F : PF) (G : PG) (hK : KX [7, 8, 13] [4, 5, 6, 9, 10, 11, 12] F0 G0 F G), PP (ag_42 x1 F G) (fun _ F' G' => KX [7, 8, 13] [4, 5, 6, 9, 10, 11, 12] F0 G0 F' G')) (z0 : Int32) (F : PF) (G : PG) (hK : KX [7, 8, 13] [4, 5, 6, 9, 10, 11, 12] F0 G0 F G) : PP (mb_cut_85 fu ag_42 z0 F G) (fun _ F' G' => KX [7, 8, 13] [4, 5, 6, 9, 10, 11, 12] F0 G0 F' G') := by
  unfold mb_cut_85
  exact hag_42 z0 F G hK
theorem mwj_cut_71 {fu : Nat} {F0 : PF} {G0 : PG} (ag_42 : Int32 → PF → PG → PR) (hag_42 : ∀ (x1 : Int32) (F : PF) (G : PG) (hK : KX [7, 8, 13] [4, 5, 6, 9, 10, 11, 12] F0 G0 F G), PP (ag_42 x1 F G) (fun _ F' G' => KX [7, 8, 13] [4, 5, 6, 9, 10, 11, 12] F0 G0 F' G')) (x2 : Int32) (F : PF) (G : PG) (hK : KX [7, 8, 13] [4, 5, 6, 9, 10, 11, 12] F0 G0 F G) : PP (mb_cut_71 fu ag_42 x2 F G) (fun _ F' G' => KX [7, 8, 13] [4, 5, 6, 9, 10, 11, 12] F0 G0 F' G') := by
  unfold mb_cut_71
  refine PP.ite (fun c_1 => ?_) (fun c_1 => ?_)
  · skip
    unfold mb_cut_76
    exact mwj_cut_85 ag_42 hag_42 (-1 : Int32) F G hK
  · skip
    unfold mb_cut_80
    refine PP.bind (mw_skip x2 F G) ?_
    intro r2 F2 G2 hK2
    dsimp only
    exact mwj_cut_85 ag_42 hag_42 r2 F2 G2 (KX.tr hK hK2 rfl rfl)
theorem mwz_cut_42 {fu : Nat} {F0 : PF} {G0 : PG} : ∀ (n : Nat) (x1 : Int32) (F : PF) (G : PG) (hK : KX [7, 8, 13] [4, 5, 6, 9, 10, 11, 12] F0 G0 F G), PP (ml_cut_42 fu n x1 F G) (fun _ F' G' => KX [7, 8, 13] [4, 5, 6, 9, 10, 11, 12] F0 G0 F' G') := by
  intro n
  induction n with
  | zero =>
    intro x1 F G hK
    exact PP.no
  | succ n ihn =>
    intro x1 F G hK
    show PP (mb_cut_42 fu (ml_cut_42 fu n) x1 F G) _
    unfold mb_cut_42
    refine PP.ite (fun c_1 => ?_) (fun c_1 => ?_)
    · skip
      exact mwj_cut_89 F G hK
    · skip
      unfold mb_cut_47
      refine PP.ite (fun c_2 => ?_) (fun c_2 => ?_)
      · skip
        exact mwj_cut_89 F G hK
      · skip
        unfold mb_cut_55
        refine PP.bind (mw_tokenAt x1 F G) ?_
        intro r3 F3 G3 hK3
        dsimp only
        unfold mb_cut_60
        refine PP.ite (fun c_4 => ?_) (fun c_4 => ?_)
        · skip
          unfold mb_cut_66
          exact mwj_cut_71 (ml_cut_42 fu n) ihn r3 (fup F3 8 x1) G3 (KX.f (k := 8) rfl (KX.tr hK hK3 rfl rfl))
        · skip
          exact mwj_cut_71 (ml_cut_42 fu n) ihn r3 F3 G3 (KX.tr hK hK3 rfl rfl)
theorem mwz_cut_17 {fu : Nat} {F0 : PF} {G0 : PG} : ∀ (n : Nat) (x1 : Int32) (F : PF) (G : PG) (hK : KX [7, 8, 13] [4, 5, 6, 9, 10, 11, 12] F0 G0 F G), PP (ml_cut_17 fu n x1 F G) (fun _ F' G' => KX [7, 8, 13] [4, 5, 6, 9, 10, 11, 12] F0 G0 F' G') := by
  intro n
  induction n with
  | zero =>
    intro x1 F G hK
    exact PP.no
  | succ n ihn =>
    intro x1 F G hK
    show PP (mb_cut_17 fu (ml_cut_17 fu n) x1 F G) _
    unfold mb_cut_17
    refine PP.ite (fun c_1 => ?_) (fun c_1 => ?_)
    · skip
      unfold mb_cut_36
      refine PP.bind (mw_skip (0 : Int32) F G) ?_
      intro r2 F2 G2 hK2
      dsimp only
      unfold mb_cut_41
      exact mwz_cut_42 fu r2 F2 G2 (KX.tr hK hK2 rfl rfl)
    · skip
      unfold mb_cut_23
      refine PP.ix (fun _ => ?_)
      unfold mb_cut_30
      exact ihn (x1 + (1 : Int32)) F (gup G 12 x1.toNatClampNeg (-1 : Int32)) (KX.g (k := 12) rfl hK)
theorem mw_cut {fu : Nat} (F : PF) (G : PG) : PP (mf_cut fu F G) (fun _ F' G' => KX [7, 8, 13] [4, 5, 6, 9, 10, 11, 12] F G F' G') := by
  unfold mf_cut
  unfold mb_cut_0
  unfold mb_cut_5
  unfold mb_cut_10
  unfold mb_cut_15
  exact mwz_cut_17 fu (0 : Int32) (fup (fup (fup F 7 (0 : Int32)) 13 (0 : Int32)) 8 (-1 : Int32)) G (KX.f (k := 8) rfl (KX.f (k := 13) rfl (KX.f (k := 7) rfl KX.rf)))
theorem mwj_fails_68 {fu : Nat} {F0 : PF} {G0 : PG} (z0 : Int32) (F : PF) (G : PG) (hK : KX [44, 45] [] F0 G0 F G) : PP (mb_fails_68 fu z0 F G) (fun _ F' G' => KX [44, 45] [] F0 G0 F' G') := by
  unfold mb_fails_68
  unfold mb_fails_71
  refine PP.ret ?_
  exact (KX.f (k := 45) rfl hK)
theorem mwj_fails_44 {fu : Nat} {F0 : PF} {G0 : PG} (x2 : Int32) (z0 : Int32) (F : PF) (G : PG) (hK : KX [44, 45] [] F0 G0 F G) : PP (mb_fails_44 fu x2 z0 F G) (fun _ F' G' => KX [44, 45] [] F0 G0 F' G') := by
  unfold mb_fails_44
  unfold mb_fails_47
  refine PP.ite (fun c_1 => ?_) (fun c_1 => ?_)
  · skip
    unfold mb_fails_59
    refine PP.ix (fun _ => ?_)
    exact mwj_fails_68 (G 6 (F 42).toNatClampNeg) (fup F 44 z0) G (KX.f (k := 44) rfl hK)
  · skip
    unfold mb_fails_52
    exact mwj_fails_68 (F 8) (fup F 44 z0) G (KX.f (k := 44) rfl hK)
theorem mwj_fails_33 {fu : Nat} {F0 : PF} {G0 : PG} (x1 : Int32) (z0 : Int32) (F : PF) (G : PG) (hK : KX [44, 45] [] F0 G0 F G) : PP (mb_fails_33 fu x1 z0 F G) (fun _ F' G' => KX [44, 45] [] F0 G0 F' G') := by
  unfold mb_fails_33
  refine PP.ite (fun c_1 => ?_) (fun c_1 => ?_)
  · skip
    unfold mb_fails_43
    exact mwj_fails_44 z0 x1 F G hK
  · skip
    unfold mb_fails_39
    exact mwj_fails_44 z0 (1 : Int32) F G hK
theorem mwj_fails_32 {fu : Nat} {F0 : PF} {G0 : PG} (x1 : Int32) (F : PF) (G : PG) (hK : KX [44, 45] [] F0 G0 F G) : PP (mb_fails_32 fu x1 F G) (fun _ F' G' => KX [44, 45] [] F0 G0 F' G') := by
  unfold mb_fails_32
  exact mwj_fails_33 x1 (0 : Int32) F G hK
theorem mw_fails {fu : Nat} (x1 : Int32) (F : PF) (G : PG) : PP (mf_fails fu x1 F G) (fun _ F' G' => KX [44, 45] [] F G F' G') := by
  unfold mf_fails
  unfold mb_fails_0
  refine PP.ite (fun c_1 => ?_) (fun c_1 => ?_)
  · skip
    unfold mb_fails_9
    refine PP.ite (fun c_2 => ?_) (fun c_2 => ?_)
    · skip
      unfold mb_fails_20
      refine PP.ite (fun c_3 => ?_) (fun c_3 => ?_)
      · skip
        exact mwj_fails_32 x1 F G KX.rf
      · skip
        unfold mb_fails_28
        exact mwj_fails_33 x1 (1 : Int32) F G KX.rf
    · skip
      exact mwj_fails_32 x1 F G KX.rf
  · skip
    unfold mb_fails_7
    refine PP.ret ?_
    exact KX.rf
theorem mwj_rank_14 {fu : Nat} {F0 : PF} {G0 : PG} (z0 : Int32) (F : PF) (G : PG) (hK : KX [] [] F0 G0 F G) : PP (mb_rank_14 fu z0 F G) (fun _ F' G' => KX [] [] F0 G0 F' G') := by
  unfold mb_rank_14
  refine PP.ret ?_
  exact hK
theorem mw_rank {fu : Nat} (x0 : Int32) (F : PF) (G : PG) : PP (mf_rank fu x0 F G) (fun _ F' G' => KX [] [] F G F' G') := by
  unfold mf_rank
  unfold mb_rank_0
  refine PP.ite (fun c_1 => ?_) (fun c_1 => ?_)
  · skip
    unfold mb_rank_6
    exact mwj_rank_14 (11 : Int32) F G KX.rf
  · skip
    unfold mb_rank_11
    exact mwj_rank_14 ((2 : Int32) * x0) F G KX.rf
theorem mwj_noteAs_38 {fu : Nat} {F0 : PF} {G0 : PG} (F : PF) (G : PG) (hK : KX [47, 48, 49] [] F0 G0 F G) : PP (mb_noteAs_38 fu F G) (fun _ F' G' => KX [47, 48, 49] [] F0 G0 F' G') := by
  unfold mb_noteAs_38
  refine PP.ret ?_
  exact hK
theorem mwj_noteAs_39 {fu : Nat} {F0 : PF} {G0 : PG} (x1 : Int32) (x2 : Int32) (x3 : Int32) (F : PF) (G : PG) (hK : KX [47, 48, 49] [] F0 G0 F G) : PP (mb_noteAs_39 fu x1 x2 x3 F G) (fun _ F' G' => KX [47, 48, 49] [] F0 G0 F' G') := by
  unfold mb_noteAs_39
  unfold mb_noteAs_44
  unfold mb_noteAs_49
  unfold mb_noteAs_54
  refine PP.ret ?_
  exact (KX.f (k := 49) rfl (KX.f (k := 48) rfl (KX.f (k := 47) rfl hK)))
theorem mw_noteAs {fu : Nat} (x1 : Int32) (x2 : Int32) (x3 : Int32) (F : PF) (G : PG) : PP (mf_noteAs fu x1 x2 x3 F G) (fun _ F' G' => KX [47, 48, 49] [] F G F' G') := by
  unfold mf_noteAs
  unfold mb_noteAs_0
  refine PP.ite (fun c_1 => ?_) (fun c_1 => ?_)
  · skip
    exact mwj_noteAs_38 F G KX.rf
  · skip
    unfold mb_noteAs_7
    refine PP.ite (fun c_2 => ?_) (fun c_2 => ?_)
    · skip
      exact mwj_noteAs_39 x1 x2 x3 F G KX.rf
    · skip
      unfold mb_noteAs_14
      refine PP.ite (fun c_3 => ?_) (fun c_3 => ?_)
      · skip
        exact mwj_noteAs_38 F G KX.rf
      · skip
        unfold mb_noteAs_22
        refine PP.ite (fun c_4 => ?_) (fun c_4 => ?_)
        · skip
          unfold mb_noteAs_30
          refine PP.ite (fun c_5 => ?_) (fun c_5 => ?_)
          · skip
            exact mwj_noteAs_39 x1 x2 x3 F G KX.rf
          · skip
            exact mwj_noteAs_38 F G KX.rf
        · skip
          exact mwj_noteAs_39 x1 x2 x3 F G KX.rf
theorem mw_note {fu : Nat} (x1 : Int32) (x2 : Int32) (F : PF) (G : PG) : PP (mf_note fu x1 x2 F G) (fun _ F' G' => KX [47, 48, 49] [] F G F' G') := by
  unfold mf_note
  unfold mb_note_0
  refine PP.bind (mw_rank x1 F G) ?_
  intro r1 F1 G1 hK1
  dsimp only
  unfold mb_note_7
  refine PP.bind (mw_noteAs x1 x2 r1 F1 G1) ?_
  intro r2 F2 G2 hK2
  dsimp only
  unfold mb_note_10
  refine PP.ret ?_
  exact (KX.tr (KX.tr KX.rf hK1 rfl rfl) hK2 rfl rfl)
theorem mwj_isSign_31 {fu : Nat} {F0 : PF} {G0 : PG} (z0 : Int32) (F : PF) (G : PG) (hK : KX [] [] F0 G0 F G) : PP (mb_isSign_31 fu z0 F G) (fun _ F' G' => KX [] [] F0 G0 F' G') := by
  unfold mb_isSign_31
  refine PP.bz (fun _ => ?_)
  refine PP.ret ?_
  exact hK
theorem mwj_isSign_30 {fu : Nat} {F0 : PF} {G0 : PG} (F : PF) (G : PG) (hK : KX [] [] F0 G0 F G) : PP (mb_isSign_30 fu F G) (fun _ F' G' => KX [] [] F0 G0 F' G') := by
  unfold mb_isSign_30
  exact mwj_isSign_31 (0 : Int32) F G hK
theorem mw_isSign {fu : Nat} (x1 : Int32) (F : PF) (G : PG) : PP (mf_isSign fu x1 F G) (fun _ F' G' => KX [] [] F G F' G') := by
  unfold mf_isSign
  unfold mb_isSign_0
  refine PP.ix (fun _ => ?_)
  refine PP.ite (fun c_1 => ?_) (fun c_1 => ?_)
  · skip
    unfold mb_isSign_13
    refine PP.ix (fun _ => ?_)
    refine PP.ite (fun c_2 => ?_) (fun c_2 => ?_)
    · skip
      unfold mb_isSign_26
      exact mwj_isSign_31 (1 : Int32) F G KX.rf
    · skip
      exact mwj_isSign_30 F G KX.rf
  · skip
    exact mwj_isSign_30 F G KX.rf
theorem mwj_isWord_31 {fu : Nat} {F0 : PF} {G0 : PG} (z0 : Int32) (F : PF) (G : PG) (hK : KX [] [] F0 G0 F G) : PP (mb_isWord_31 fu z0 F G) (fun _ F' G' => KX [] [] F0 G0 F' G') := by
  unfold mb_isWord_31
  refine PP.bz (fun _ => ?_)
  refine PP.ret ?_
  exact hK
theorem mwj_isWord_30 {fu : Nat} {F0 : PF} {G0 : PG} (F : PF) (G : PG) (hK : KX [] [] F0 G0 F G) : PP (mb_isWord_30 fu F G) (fun _ F' G' => KX [] [] F0 G0 F' G') := by
  unfold mb_isWord_30
  exact mwj_isWord_31 (0 : Int32) F G hK
theorem mw_isWord {fu : Nat} (x1 : Int32) (F : PF) (G : PG) : PP (mf_isWord fu x1 F G) (fun _ F' G' => KX [] [] F G F' G') := by
  unfold mf_isWord
  unfold mb_isWord_0
  refine PP.ix (fun _ => ?_)
  refine PP.ite (fun c_1 => ?_) (fun c_1 => ?_)
  · skip
    unfold mb_isWord_13
    refine PP.ix (fun _ => ?_)
    refine PP.ite (fun c_2 => ?_) (fun c_2 => ?_)
    · skip
      unfold mb_isWord_26
      exact mwj_isWord_31 (1 : Int32) F G KX.rf
    · skip
      exact mwj_isWord_30 F G KX.rf
  · skip
    exact mwj_isWord_30 F G KX.rf
theorem mwj_sign_15 {fu : Nat} {F0 : PF} {G0 : PG} (F : PF) (G : PG) (hK : KX [42, 44, 45] [] F0 G0 F G) : PP (mb_sign_15 fu F G) (fun _ F' G' => KX [42, 44, 45] [] F0 G0 F' G') := by
  unfold mb_sign_15
  refine PP.bind (mw_fails (2 : Int32) F G) ?_
  intro r1 F1 G1 hK1
  dsimp only
  unfold mb_sign_20
  refine PP.bz (fun _ => ?_)
  refine PP.ret ?_
  exact (KX.tr hK hK1 rfl rfl)
theorem mw_sign {fu : Nat} (x1 : Int32) (F : PF) (G : PG) : PP (mf_sign fu x1 F G) (fun _ F' G' => KX [42, 44, 45] [] F G F' G') := by
  unfold mf_sign
  unfold mb_sign_0
  refine PP.ite (fun c_1 => ?_) (fun c_1 => ?_)
  · skip
    exact mwj_sign_15 F G KX.rf
  · skip
    unfold mb_sign_7
    refine PP.bind (mw_isSign x1 F G) ?_
    intro r2 F2 G2 hK2
    dsimp only
    unfold mb_sign_12
    refine PP.ite (fun c_3 => ?_) (fun c_3 => ?_)
    · skip
      exact mwj_sign_15 F2 G2 (KX.tr KX.rf hK2 rfl rfl)
    · skip
      unfold mb_sign_21
      unfold mb_sign_31
      refine PP.ret ?_
      exact (KX.f (k := 42) rfl (KX.tr KX.rf hK2 rfl rfl))
theorem mwj_word_32 {fu : Nat} {F0 : PF} {G0 : PG} (z0 : Int32) (F : PF) (G : PG) (hK : KX [42, 44, 45] [] F0 G0 F G) : PP (mb_word_32 fu z0 F G) (fun _ F' G' => KX [42, 44, 45] [] F0 G0 F' G') := by
  unfold mb_word_32
  refine PP.bz (fun _ => ?_)
  refine PP.ret ?_
  exact hK
theorem mwj_word_31 {fu : Nat} {F0 : PF} {G0 : PG} (F : PF) (G : PG) (hK : KX [42, 44, 45] [] F0 G0 F G) : PP (mb_word_31 fu F G) (fun _ F' G' => KX [42, 44, 45] [] F0 G0 F' G') := by
  unfold mb_word_31
  exact mwj_word_32 (0 : Int32) F G hK
theorem mwj_word_15 {fu : Nat} {F0 : PF} {G0 : PG} (x2 : Int32) (F : PF) (G : PG) (hK : KX [42, 44, 45] [] F0 G0 F G) : PP (mb_word_15 fu x2 F G) (fun _ F' G' => KX [42, 44, 45] [] F0 G0 F' G') := by
  unfold mb_word_15
  refine PP.ite (fun c_1 => ?_) (fun c_1 => ?_)
  · skip
    exact mwj_word_31 F G hK
  · skip
    unfold mb_word_19
    refine PP.bind (mw_fails (2 : Int32) F G) ?_
    intro r2 F2 G2 hK2
    dsimp only
    unfold mb_word_24
    refine PP.ite (fun c_3 => ?_) (fun c_3 => ?_)
    · skip
      exact mwj_word_31 F2 G2 (KX.tr hK hK2 rfl rfl)
    · skip
      unfold mb_word_27
      exact mwj_word_32 (1 : Int32) F2 G2 (KX.tr hK hK2 rfl rfl)
theorem mw_word {fu : Nat} (x1 : Int32) (x2 : Int32) (F : PF) (G : PG) : PP (mf_word fu x1 x2 F G) (fun _ F' G' => KX [42, 44, 45] [] F G F' G') := by
  unfold mf_word
  unfold mb_word_0
  refine PP.ite (fun c_1 => ?_) (fun c_1 => ?_)
  · skip
    exact mwj_word_15 x2 F G KX.rf
  · skip
    unfold mb_word_7
    refine PP.bind (mw_isWord x1 F G) ?_
    intro r2 F2 G2 hK2
    dsimp only
    unfold mb_word_12
    refine PP.ite (fun c_3 => ?_) (fun c_3 => ?_)
    · skip
      exact mwj_word_15 x2 F2 G2 (KX.tr KX.rf hK2 rfl rfl)
    · skip
      unfold mb_word_33
      unfold mb_word_43
      refine PP.ret ?_
      exact (KX.f (k := 42) rfl (KX.tr KX.rf hK2 rfl rfl))
theorem mwj_name_20 {fu : Nat} {F0 : PF} {G0 : PG} (F : PF) (G : PG) (hK : KX [42, 44, 45] [] F0 G0 F G) : PP (mb_name_20 fu F G) (fun _ F' G' => KX [42, 44, 45] [] F0 G0 F' G') := by
  unfold mb_name_20
  refine PP.bind (mw_fails (2 : Int32) F G) ?_
  intro r1 F1 G1 hK1
  dsimp only
  unfold mb_name_25
  refine PP.ret ?_
  exact (KX.tr hK hK1 rfl rfl)
theorem mw_name {fu : Nat} (F : PF) (G : PG) : PP (mf_name fu F G) (fun _ F' G' => KX [42, 44, 45] [] F G F' G') := by
  unfold mf_name
  unfold mb_name_0
  refine PP.ite (fun c_1 => ?_) (fun c_1 => ?_)
  · skip
    exact mwj_name_20 F G KX.rf
  · skip
    unfold mb_name_7
    refine PP.ix (fun _ => ?_)
    refine PP.ite (fun c_2 => ?_) (fun c_2 => ?_)
    · skip
      unfold mb_name_28
      unfold mb_name_38
      refine PP.ret ?_
      exact (KX.f (k := 42) rfl KX.rf)
    · skip
      exact mwj_name_20 F G KX.rf
theorem mw_opens {fu : Nat} (F : PF) (G : PG) : PP (mf_opens fu F G) (fun _ F' G' => KX [42, 43, 44, 45] [] F G F' G') := by
  unfold mf_opens
  unfold mb_opens_0
  refine PP.ite (fun c_1 => ?_) (fun c_1 => ?_)
  · skip
    unfold mb_opens_9
    refine PP.bind (mw_fails (3 : Int32) F G) ?_
    intro r2 F2 G2 hK2
    dsimp only
    unfold mb_opens_14
    refine PP.bz (fun _ => ?_)
    refine PP.ret ?_
    exact (KX.tr KX.rf hK2 rfl rfl)
  · skip
    unfold mb_opens_15
    unfold mb_opens_25
    unfold mb_opens_35
    refine PP.ret ?_
    exact (KX.f (k := 42) rfl (KX.f (k := 43) rfl KX.rf))
theorem mwj_openSign_27 {fu : Nat} {F0 : PF} {G0 : PG} (z0 : Int32) (F : PF) (G : PG) (hK : KX [42, 43, 44, 45] [] F0 G0 F G) : PP (mb_openSign_27 fu z0 F G) (fun _ F' G' => KX [42, 43, 44, 45] [] F0 G0 F' G') := by
  unfold mb_openSign_27
  refine PP.bz (fun _ => ?_)
  refine PP.ret ?_
  exact hK
theorem mwj_openSign_15 {fu : Nat} {F0 : PF} {G0 : PG} (F : PF) (G : PG) (hK : KX [42, 43, 44, 45] [] F0 G0 F G) : PP (mb_openSign_15 fu F G) (fun _ F' G' => KX [42, 43, 44, 45] [] F0 G0 F' G') := by
  unfold mb_openSign_15
  refine PP.bind (mw_fails (2 : Int32) F G) ?_
  intro r1 F1 G1 hK1
  dsimp only
  unfold mb_openSign_20
  exact mwj_openSign_27 r1 F1 G1 (KX.tr hK hK1 rfl rfl)
theorem mw_openSign {fu : Nat} (x1 : Int32) (F : PF) (G : PG) : PP (mf_openSign fu x1 F G) (fun _ F' G' => KX [42, 43, 44, 45] [] F G F' G') := by
  unfold mf_openSign
  unfold mb_openSign_0
  refine PP.ite (fun c_1 => ?_) (fun c_1 => ?_)
  · skip
    exact mwj_openSign_15 F G KX.rf
  · skip
    unfold mb_openSign_7
    refine PP.bind (mw_isSign x1 F G) ?_
    intro r2 F2 G2 hK2
    dsimp only
    unfold mb_openSign_12
    refine PP.ite (fun c_3 => ?_) (fun c_3 => ?_)
    · skip
      exact mwj_openSign_15 F2 G2 (KX.tr KX.rf hK2 rfl rfl)
    · skip
      unfold mb_openSign_23
      refine PP.bind (mw_opens F2 G2) ?_
      intro r4 F4 G4 hK4
      dsimp only
      exact mwj_openSign_27 r4 F4 G4 (KX.tr (KX.tr KX.rf hK2 rfl rfl) hK4 rfl rfl)
theorem mw_closeSign {fu : Nat} (x1 : Int32) (F : PF) (G : PG) : PP (mf_closeSign fu x1 F G) (fun _ F' G' => KX [42, 43, 44, 45] [] F G F' G') := by
  unfold mf_closeSign
  unfold mb_closeSign_0
  refine PP.bind (mw_sign x1 F G) ?_
  intro r1 F1 G1 hK1
  dsimp only
  unfold mb_closeSign_5
  refine PP.ite (fun c_2 => ?_) (fun c_2 => ?_)
  · skip
    unfold mb_closeSign_8
    refine PP.ret ?_
    exact (KX.tr KX.rf hK1 rfl rfl)
  · skip
    unfold mb_closeSign_10
    unfold mb_closeSign_20
    refine PP.ret ?_
    exact (KX.f (k := 43) rfl (KX.tr KX.rf hK1 rfl rfl))
theorem mw_step {fu : Nat} (x1 : Int32) (x2 : Int32) (x3 : Int32) (F : PF) (G : PG) : PP (mf_step fu x1 x2 x3 F G) (fun _ F' G' => KX [60] [56, 57, 58] F G F' G') := by
  unfold mf_step
  unfold mb_step_0
  refine PP.ix (fun _ => ?_)
  unfold mb_step_10
  refine PP.ix (fun _ => ?_)
  unfold mb_step_20
  refine PP.ix (fun _ => ?_)
  unfold mb_step_30
  unfold mb_step_40
  refine PP.ret ?_
  exact (KX.f (k := 60) rfl (KX.g (k := 58) rfl (KX.g (k := 57) rfl (KX.g (k := 56) rfl KX.rf))))
theorem mw_binds {fu : Nat} (F : PF) (G : PG) : PP (mf_binds fu F G) (fun _ F' G' => KX [60, 70] [56, 57, 58] F G F' G') := by
  unfold mf_binds
  unfold mb_binds_0
  unfold mb_binds_10
  refine PP.ix (fun _ => ?_)
  refine PP.ite (fun c_1 => ?_) (fun c_1 => ?_)
  · skip
    unfold mb_binds_43
    refine PP.bind (mw_step (23 : Int32) (0 : Int32) (0 : Int32) (fup F 70 ((F 70) - (1 : Int32))) G) ?_
    intro r2 F2 G2 hK2
    dsimp only
    unfold mb_binds_51
    refine PP.bind (mw_step (12 : Int32) (0 : Int32) (0 : Int32) F2 G2) ?_
    intro r3 F3 G3 hK3
    dsimp only
    unfold mb_binds_60
    refine PP.ix (fun _ => ?_)
    refine PP.ix (fun _ => ?_)
    unfold mb_binds_79
    refine PP.bind (mw_step (0 : Int32) ((1 : Int32) - (G 68 ((F 70) - (1 : Int32)).toNatClampNeg)) (0 : Int32) F3 (gup G3 57 (G3 69 (F3 70).toNatClampNeg).toNatClampNeg (F3 60))) ?_
    intro r4 F4 G4 hK4
    dsimp only
    unfold mb_binds_88
    refine PP.ix (fun _ => ?_)
    unfold mb_binds_99
    refine PP.ret ?_
    exact (KX.g (k := 57) rfl (KX.tr (KX.g (k := 57) rfl (KX.tr (KX.tr (KX.f (k := 70) rfl KX.rf) hK2 rfl rfl) hK3 rfl rfl)) hK4 rfl rfl))
  · skip
    unfold mb_binds_25
    refine PP.ix (fun _ => ?_)
    refine PP.bind (mw_step (10 : Int32) (G 67 ((F 70) - (1 : Int32)).toNatClampNeg) (0 : Int32) (fup F 70 ((F 70) - (1 : Int32))) G) ?_
    intro r5 F5 G5 hK5
    dsimp only
    unfold mb_binds_41
    refine PP.ret ?_
    exact (KX.tr (KX.f (k := 70) rfl KX.rf) hK5 rfl rfl)
theorem mwj_meaning_167 {fu : Nat} {F0 : PF} {G0 : PG} (z0 : Int32) (F : PF) (G : PG) (hK : KX [62] [] F0 G0 F G) : PP (mb_meaning_167 fu z0 F G) (fun _ F' G' => KX [62] [] F0 G0 F' G') := by
  unfold mb_meaning_167
  refine PP.ret ?_
  exact hK
theorem mwj_meaning_154 {fu : Nat} {F0 : PF} {G0 : PG} (x3 : Int32) (F : PF) (G : PG) (hK : KX [62] [] F0 G0 F G) : PP (mb_meaning_154 fu x3 F G) (fun _ F' G' => KX [62] [] F0 G0 F' G') := by
  unfold mb_meaning_154
  refine PP.ite (fun c_1 => ?_) (fun c_1 => ?_)
  · skip
    unfold mb_meaning_166
    exact mwj_meaning_167 x3 F G hK
  · skip
    unfold mb_meaning_162
    exact mwj_meaning_167 (-1 : Int32) F G hK
theorem mwj_meaning_112 {fu : Nat} {F0 : PF} {G0 : PG} (ag_85 : Int32 → Int32 → Int32 → PF → PG → PR) (hag_85 : ∀ (x1 : Int32) (x3 : Int32) (x4 : Int32) (F : PF) (G : PG) (hK : KX [62] [] F0 G0 F G), PP (ag_85 x1 x3 x4 F G) (fun _ F' G' => KX [62] [] F0 G0 F' G')) (x1 : Int32) (x3 : Int32) (x4 : Int32) (F : PF) (G : PG) (hK : KX [62] [] F0 G0 F G) : PP (mb_meaning_112 fu ag_85 x1 x3 x4 F G) (fun _ F' G' => KX [62] [] F0 G0 F' G') := by
  unfold mb_meaning_112
  exact hag_85 x1 x3 (x4 + (-1 : Int32)) F G hK
theorem mwz_meaning_85 {fu : Nat} {F0 : PF} {G0 : PG} : ∀ (n : Nat) (x1 : Int32) (x3 : Int32) (x4 : Int32) (F : PF) (G : PG) (hK : KX [62] [] F0 G0 F G), PP (ml_meaning_85 fu n x1 x3 x4 F G) (fun _ F' G' => KX [62] [] F0 G0 F' G') := by
  intro n
  induction n with
  | zero =>
    intro x1 x3 x4 F G hK
    exact PP.no
  | succ n ihn =>
    intro x1 x3 x4 F G hK
    show PP (mb_meaning_85 fu (ml_meaning_85 fu n) x1 x3 x4 F G) _
    unfold mb_meaning_85
    refine PP.ite (fun c_1 => ?_) (fun c_1 => ?_)
    · skip
      unfold mb_meaning_118
      refine PP.ite (fun c_2 => ?_) (fun c_2 => ?_)
      · skip
        exact mwj_meaning_154 x3 F G hK
      · skip
        unfold mb_meaning_123
        refine PP.ite (fun c_3 => ?_) (fun c_3 => ?_)
        · skip
          exact mwj_meaning_154 x3 F G hK
        · skip
          unfold mb_meaning_131
          refine PP.ix (fun _ => ?_)
          refine PP.ix (fun _ => ?_)
          refine PP.ite (fun c_4 => ?_) (fun c_4 => ?_)
          · skip
            exact mwj_meaning_154 x3 F G hK
          · skip
            unfold mb_meaning_149
            exact mwj_meaning_154 x3 (fup F 62 (-1 : Int32)) G (KX.f (k := 62) rfl hK)
    · skip
      unfold mb_meaning_90
      refine PP.ix (fun _ => ?_)
      refine PP.ix (fun _ => ?_)
      refine PP.ite (fun c_5 => ?_) (fun c_5 => ?_)
      · skip
        unfold mb_meaning_106
        exact mwj_meaning_112 (ml_meaning_85 fu n) ihn x1 x3 x4 (fup F 62 x4) G (KX.f (k := 62) rfl hK)
      · skip
        exact mwj_meaning_112 (ml_meaning_85 fu n) ihn x1 x3 x4 F G hK
theorem mwj_meaning_77 {fu : Nat} {F0 : PF} {G0 : PG} (x1 : Int32) (x3 : Int32) (F : PF) (G : PG) (hK : KX [62] [] F0 G0 F G) : PP (mb_meaning_77 fu x1 x3 F G) (fun _ F' G' => KX [62] [] F0 G0 F' G') := by
  unfold mb_meaning_77
  exact mwz_meaning_85 fu x1 x3 ((F 24) - (1 : Int32)) F G hK
theorem mwj_meaning_61 {fu : Nat} {F0 : PF} {G0 : PG} (x1 : Int32) (x3 : Int32) (F : PF) (G : PG) (hK : KX [62] [] F0 G0 F G) : PP (mb_meaning_61 fu x1 x3 F G) (fun _ F' G' => KX [62] [] F0 G0 F' G') := by
  unfold mb_meaning_61
  refine PP.ite (fun c_1 => ?_) (fun c_1 => ?_)
  · skip
    exact mwj_meaning_77 x1 x3 F G hK
  · skip
    unfold mb_meaning_66
    refine PP.ix (fun _ => ?_)
    refine PP.ite (fun c_2 => ?_) (fun c_2 => ?_)
    · skip
      exact mwj_meaning_77 x1 x3 F G hK
    · skip
      unfold mb_meaning_75
      refine PP.ret ?_
      exact hK
theorem mwj_meaning_55 {fu : Nat} {F0 : PF} {G0 : PG} (ag_14 : Int32 → Int32 → Int32 → PF → PG → PR) (hag_14 : ∀ (x1 : Int32) (x2 : Int32) (x3 : Int32) (F : PF) (G : PG) (hK : KX [62] [] F0 G0 F G), PP (ag_14 x1 x2 x3 F G) (fun _ F' G' => KX [62] [] F0 G0 F' G')) (x1 : Int32) (x2 : Int32) (x3 : Int32) (F : PF) (G : PG) (hK : KX [62] [] F0 G0 F G) : PP (mb_meaning_55 fu ag_14 x1 x2 x3 F G) (fun _ F' G' => KX [62] [] F0 G0 F' G') := by
  unfold mb_meaning_55
  exact hag_14 x1 (x2 + (-1 : Int32)) x3 F G hK
theorem mwj_meaning_38 {fu : Nat} {F0 : PF} {G0 : PG} (ag_14 : Int32 → Int32 → Int32 → PF → PG → PR) (hag_14 : ∀ (x1 : Int32) (x2 : Int32) (x3 : Int32) (F : PF) (G : PG) (hK : KX [62] [] F0 G0 F G), PP (ag_14 x1 x2 x3 F G) (fun _ F' G' => KX [62] [] F0 G0 F' G')) (x1 : Int32) (x2 : Int32) (x3 : Int32) (F : PF) (G : PG) (hK : KX [62] [] F0 G0 F G) : PP (mb_meaning_38 fu ag_14 x1 x2 x3 F G) (fun _ F' G' => KX [62] [] F0 G0 F' G') := by
  unfold mb_meaning_38
  refine PP.ix (fun _ => ?_)
  refine PP.ix (fun _ => ?_)
  refine PP.ite (fun c_1 => ?_) (fun c_1 => ?_)
  · skip
    unfold mb_meaning_53
    exact mwj_meaning_55 ag_14 hag_14 x1 x2 x2 F G hK
  · skip
    exact mwj_meaning_55 ag_14 hag_14 x1 x2 x3 F G hK
theorem mwz_meaning_14 {fu : Nat} {F0 : PF} {G0 : PG} : ∀ (n : Nat) (x1 : Int32) (x2 : Int32) (x3 : Int32) (F : PF) (G : PG) (hK : KX [62] [] F0 G0 F G), PP (ml_meaning_14 fu n x1 x2 x3 F G) (fun _ F' G' => KX [62] [] F0 G0 F' G') := by
  intro n
  induction n with
  | zero =>
    intro x1 x2 x3 F G hK
    exact PP.no
  | succ n ihn =>
    intro x1 x2 x3 F G hK
    show PP (mb_meaning_14 fu (ml_meaning_14 fu n) x1 x2 x3 F G) _
    unfold mb_meaning_14
    refine PP.ite (fun c_1 => ?_) (fun c_1 => ?_)
    · skip
      exact mwj_meaning_61 x1 x3 F G hK
    · skip
      unfold mb_meaning_18
      refine PP.ite (fun c_2 => ?_) (fun c_2 => ?_)
      · skip
        exact mwj_meaning_38 (ml_meaning_14 fu n) ihn x1 x2 x3 F G hK
      · skip
        unfold mb_meaning_23
        refine PP.ix (fun _ => ?_)
        refine PP.ix (fun _ => ?_)
        refine PP.ite (fun c_3 => ?_) (fun c_3 => ?_)
        · skip
          exact mwj_meaning_38 (ml_meaning_14 fu n) ihn x1 x2 x3 F G hK
        · skip
          exact mwj_meaning_61 x1 x3 F G hK
theorem mw_meaning {fu : Nat} (x1 : Int32) (F : PF) (G : PG) : PP (mf_meaning fu x1 F G) (fun _ F' G' => KX [62] [] F G F' G') := by
  unfold mf_meaning
  unfold mb_meaning_0
  unfold mb_meaning_5
  exact mwz_meaning_14 fu x1 ((F 14) - (1 : Int32)) (-1 : Int32) (fup F 62 (-1 : Int32)) G (KX.f (k := 62) rfl KX.rf)
theorem mw_level {fu : Nat} (F : PF) (G : PG) : PP (mf_level fu F G) (fun _ F' G' => KX [] [] F G F' G') := by
  unfold mf_level
  unfold mb_level_0
  refine PP.ix (fun _ => ?_)
  refine PP.ite (fun c_1 => ?_) (fun c_1 => ?_)
  · skip
    unfold mb_level_15
    refine PP.ix (fun _ => ?_)
    refine PP.ite (fun c_2 => ?_) (fun c_2 => ?_)
    · have e_3 : (G 5 (F 42).toNatClampNeg).toInt < 1 ∨ 42 < (G 5 (F 42).toNatClampNeg).toInt := c_2
      unfold mb_level_232
      refine PP.ret ?_
      exact KX.rf
    have e_4 : ¬ ((G 5 (F 42).toNatClampNeg).toInt < 1 ∨ 42 < (G 5 (F 42).toNatClampNeg).toInt) := c_2
    refine PP.ite (fun c_5 => ?_) (fun c_5 => ?_)
    · skip
      unfold mb_level_223
      refine PP.ret ?_
      exact KX.rf
    refine PP.ite (fun c_6 => ?_) (fun c_6 => ?_)
    · skip
      unfold mb_level_232
      refine PP.ret ?_
      exact KX.rf
    refine PP.ite (fun c_7 => ?_) (fun c_7 => ?_)
    · skip
      unfold mb_level_232
      refine PP.ret ?_
      exact KX.rf
    refine PP.ite (fun c_8 => ?_) (fun c_8 => ?_)
    · skip
      unfold mb_level_232
      refine PP.ret ?_
      exact KX.rf
    refine PP.ite (fun c_9 => ?_) (fun c_9 => ?_)
    · skip
      unfold mb_level_232
      refine PP.ret ?_
      exact KX.rf
    refine PP.ite (fun c_10 => ?_) (fun c_10 => ?_)
    · skip
      unfold mb_level_232
      refine PP.ret ?_
      exact KX.rf
    refine PP.ite (fun c_11 => ?_) (fun c_11 => ?_)
    · skip
      unfold mb_level_232
      refine PP.ret ?_
      exact KX.rf
    refine PP.ite (fun c_12 => ?_) (fun c_12 => ?_)
    · skip
      unfold mb_level_232
      refine PP.ret ?_
      exact KX.rf
    refine PP.ite (fun c_13 => ?_) (fun c_13 => ?_)
    · skip
      unfold mb_level_232
      refine PP.ret ?_
      exact KX.rf
    refine PP.ite (fun c_14 => ?_) (fun c_14 => ?_)
    · skip
      unfold mb_level_232
      refine PP.ret ?_
      exact KX.rf
    refine PP.ite (fun c_15 => ?_) (fun c_15 => ?_)
    · skip
      unfold mb_level_232
      refine PP.ret ?_
      exact KX.rf
    refine PP.ite (fun c_16 => ?_) (fun c_16 => ?_)
    · skip
      unfold mb_level_232
      refine PP.ret ?_
      exact KX.rf
    refine PP.ite (fun c_17 => ?_) (fun c_17 => ?_)
    · skip
      unfold mb_level_232
      refine PP.ret ?_
      exact KX.rf
    refine PP.ite (fun c_18 => ?_) (fun c_18 => ?_)
    · skip
      unfold mb_level_208
      refine PP.ret ?_
      exact KX.rf
    refine PP.ite (fun c_19 => ?_) (fun c_19 => ?_)
    · skip
      unfold mb_level_210
      refine PP.ret ?_
      exact KX.rf
    refine PP.ite (fun c_20 => ?_) (fun c_20 => ?_)
    · skip
      unfold mb_level_218
      refine PP.ret ?_
      exact KX.rf
    refine PP.ite (fun c_21 => ?_) (fun c_21 => ?_)
    · skip
      unfold mb_level_218
      refine PP.ret ?_
      exact KX.rf
    refine PP.ite (fun c_22 => ?_) (fun c_22 => ?_)
    · skip
      unfold mb_level_220
      refine PP.ret ?_
      exact KX.rf
    refine PP.ite (fun c_23 => ?_) (fun c_23 => ?_)
    · skip
      unfold mb_level_220
      refine PP.ret ?_
      exact KX.rf
    refine PP.ite (fun c_24 => ?_) (fun c_24 => ?_)
    · skip
      unfold mb_level_223
      refine PP.ret ?_
      exact KX.rf
    refine PP.ite (fun c_25 => ?_) (fun c_25 => ?_)
    · skip
      unfold mb_level_223
      refine PP.ret ?_
      exact KX.rf
    refine PP.ite (fun c_26 => ?_) (fun c_26 => ?_)
    · skip
      unfold mb_level_232
      refine PP.ret ?_
      exact KX.rf
    refine PP.ite (fun c_27 => ?_) (fun c_27 => ?_)
    · skip
      unfold mb_level_232
      refine PP.ret ?_
      exact KX.rf
    refine PP.ite (fun c_28 => ?_) (fun c_28 => ?_)
    · skip
      unfold mb_level_232
      refine PP.ret ?_
      exact KX.rf
    refine PP.ite (fun c_29 => ?_) (fun c_29 => ?_)
    · skip
      unfold mb_level_232
      refine PP.ret ?_
      exact KX.rf
    refine PP.ite (fun c_30 => ?_) (fun c_30 => ?_)
    · skip
      unfold mb_level_232
      refine PP.ret ?_
      exact KX.rf
    refine PP.ite (fun c_31 => ?_) (fun c_31 => ?_)
    · skip
      unfold mb_level_232
      refine PP.ret ?_
      exact KX.rf
    refine PP.ite (fun c_32 => ?_) (fun c_32 => ?_)
    · skip
      unfold mb_level_232
      refine PP.ret ?_
      exact KX.rf
    refine PP.ite (fun c_33 => ?_) (fun c_33 => ?_)
    · skip
      unfold mb_level_232
      refine PP.ret ?_
      exact KX.rf
    refine PP.ite (fun c_34 => ?_) (fun c_34 => ?_)
    · skip
      unfold mb_level_232
      refine PP.ret ?_
      exact KX.rf
    refine PP.ite (fun c_35 => ?_) (fun c_35 => ?_)
    · skip
      unfold mb_level_232
      refine PP.ret ?_
      exact KX.rf
    refine PP.ite (fun c_36 => ?_) (fun c_36 => ?_)
    · skip
      unfold mb_level_232
      refine PP.ret ?_
      exact KX.rf
    refine PP.ite (fun c_37 => ?_) (fun c_37 => ?_)
    · skip
      unfold mb_level_212
      refine PP.ret ?_
      exact KX.rf
    refine PP.ite (fun c_38 => ?_) (fun c_38 => ?_)
    · skip
      unfold mb_level_214
      refine PP.ret ?_
      exact KX.rf
    refine PP.ite (fun c_39 => ?_) (fun c_39 => ?_)
    · skip
      unfold mb_level_216
      refine PP.ret ?_
      exact KX.rf
    refine PP.ite (fun c_40 => ?_) (fun c_40 => ?_)
    · skip
      unfold mb_level_220
      refine PP.ret ?_
      exact KX.rf
    refine PP.ite (fun c_41 => ?_) (fun c_41 => ?_)
    · skip
      unfold mb_level_220
      refine PP.ret ?_
      exact KX.rf
    refine PP.ite (fun c_42 => ?_) (fun c_42 => ?_)
    · skip
      unfold mb_level_226
      refine PP.ret ?_
      exact KX.rf
    refine PP.ite (fun c_43 => ?_) (fun c_43 => ?_)
    · skip
      unfold mb_level_226
      refine PP.ret ?_
      exact KX.rf
    refine PP.ite (fun c_44 => ?_) (fun c_44 => ?_)
    · skip
      unfold mb_level_229
      refine PP.ret ?_
      exact KX.rf
    refine PP.ite (fun c_45 => ?_) (fun c_45 => ?_)
    · skip
      unfold mb_level_229
      refine PP.ret ?_
      exact KX.rf
    unfold mb_level_229
    refine PP.ret ?_
    exact KX.rf
  · skip
    unfold mb_level_13
    refine PP.ret ?_
    exact KX.rf
def mKI1 (rc : RC) : Prop := ∀ (i : Nat) (x y : Int32) (F : PF) (G : PG), PP (rc i x y F G) (fun _ F' G' => KX [42, 43, 44, 45, 47, 48, 49, 55, 60, 62, 70] [56, 57, 58, 59, 67, 68, 69] F G F' G')
theorem mwj_argument_12 {fu : Nat} (rc : RC) (ih : mKI1 rc) {F0 : PF} {G0 : PG} (F : PF) (G : PG) (hK : KX [42, 43, 44, 45, 47, 48, 49, 55, 60, 62, 70] [56, 57, 58, 59, 67, 68, 69] F0 G0 F G) : PP (mb_argument_12 fu rc F G) (fun _ F' G' => KX [42, 43, 44, 45, 47, 48, 49, 55, 60, 62, 70] [56, 57, 58, 59, 67, 68, 69] F0 G0 F' G') := by
  unfold mb_argument_12
  refine PP.bind (ih 4 0 0 F G) ?_
  intro r1 F1 G1 hK1
  dsimp only
  unfold mb_argument_16
  refine PP.bz (fun _ => ?_)
  refine PP.ret ?_
  exact (KX.tr hK hK1 rfl rfl)
theorem mwj_argument_314 {fu : Nat} (rc : RC) (ih : mKI1 rc) {F0 : PF} {G0 : PG} (z0 : Int32) (z1 : Int32) (F : PF) (G : PG) (hK : KX [42, 43, 44, 45, 47, 48, 49, 55, 60, 62, 70] [56, 57, 58, 59, 67, 68, 69] F0 G0 F G) : PP (mb_argument_314 fu rc z0 z1 F G) (fun _ F' G' => KX [42, 43, 44, 45, 47, 48, 49, 55, 60, 62, 70] [56, 57, 58, 59, 67, 68, 69] F0 G0 F' G') := by
  unfold mb_argument_314
  refine PP.ix (fun _ => ?_)
  unfold mb_argument_315
  refine PP.ret ?_
  exact (KX.g (k := 59) rfl hK)
theorem mwj_argument_313 {fu : Nat} (rc : RC) (ih : mKI1 rc) {F0 : PF} {G0 : PG} (z0 : Int32) (F : PF) (G : PG) (hK : KX [42, 43, 44, 45, 47, 48, 49, 55, 60, 62, 70] [56, 57, 58, 59, 67, 68, 69] F0 G0 F G) : PP (mb_argument_313 fu rc z0 F G) (fun _ F' G' => KX [42, 43, 44, 45, 47, 48, 49, 55, 60, 62, 70] [56, 57, 58, 59, 67, 68, 69] F0 G0 F' G') := by
  unfold mb_argument_313
  exact mwj_argument_314 rc ih (0 : Int32) z0 F G hK
theorem mwj_argument_282 {fu : Nat} (rc : RC) (ih : mKI1 rc) {F0 : PF} {G0 : PG} (x6 : Int32) (z0 : Int32) (z1 : Int32) (z2 : Int32) (F : PF) (G : PG) (hK : KX [42, 43, 44, 45, 47, 48, 49, 55, 60, 62, 70] [56, 57, 58, 59, 67, 68, 69] F0 G0 F G) : PP (mb_argument_282 fu rc x6 z0 z1 z2 F G) (fun _ F' G' => KX [42, 43, 44, 45, 47, 48, 49, 55, 60, 62, 70] [56, 57, 58, 59, 67, 68, 69] F0 G0 F' G') := by
  unfold mb_argument_282
  refine PP.bind (mw_step z2 z1 z0 F G) ?_
  intro r1 F1 G1 hK1
  dsimp only
  unfold mb_argument_285
  refine PP.ite (fun c_2 => ?_) (fun c_2 => ?_)
  · skip
    exact mwj_argument_313 rc ih r1 F1 G1 (KX.tr hK hK1 rfl rfl)
  · skip
    unfold mb_argument_299
    refine PP.ix (fun _ => ?_)
    refine PP.ite (fun c_3 => ?_) (fun c_3 => ?_)
    · skip
      exact mwj_argument_313 rc ih r1 F1 G1 (KX.tr hK hK1 rfl rfl)
    · skip
      unfold mb_argument_309
      exact mwj_argument_314 rc ih (1 : Int32) r1 F1 G1 (KX.tr hK hK1 rfl rfl)
theorem mwj_argument_265 {fu : Nat} (rc : RC) (ih : mKI1 rc) {F0 : PF} {G0 : PG} (x6 : Int32) (z0 : Int32) (z1 : Int32) (F : PF) (G : PG) (hK : KX [42, 43, 44, 45, 47, 48, 49, 55, 60, 62, 70] [56, 57, 58, 59, 67, 68, 69] F0 G0 F G) : PP (mb_argument_265 fu rc x6 z0 z1 F G) (fun _ F' G' => KX [42, 43, 44, 45, 47, 48, 49, 55, 60, 62, 70] [56, 57, 58, 59, 67, 68, 69] F0 G0 F' G') := by
  unfold mb_argument_265
  refine PP.ite (fun c_1 => ?_) (fun c_1 => ?_)
  · skip
    unfold mb_argument_271
    exact mwj_argument_282 rc ih x6 (1 : Int32) z0 z1 F G hK
  · skip
    unfold mb_argument_275
    refine PP.ix (fun _ => ?_)
    exact mwj_argument_282 rc ih x6 (G 21 x6.toNatClampNeg) z0 z1 F G hK
theorem mwj_argument_236 {fu : Nat} (rc : RC) (ih : mKI1 rc) {F0 : PF} {G0 : PG} (x6 : Int32) (F : PF) (G : PG) (hK : KX [42, 43, 44, 45, 47, 48, 49, 55, 60, 62, 70] [56, 57, 58, 59, 67, 68, 69] F0 G0 F G) : PP (mb_argument_236 fu rc x6 F G) (fun _ F' G' => KX [42, 43, 44, 45, 47, 48, 49, 55, 60, 62, 70] [56, 57, 58, 59, 67, 68, 69] F0 G0 F' G') := by
  unfold mb_argument_236
  unfold mb_argument_246
  refine PP.ite (fun c_1 => ?_) (fun c_1 => ?_)
  · skip
    unfold mb_argument_254
    exact mwj_argument_265 rc ih x6 (0 : Int32) (5 : Int32) (fup F 42 ((F 42) + (1 : Int32))) G (KX.f (k := 42) rfl hK)
  · skip
    unfold mb_argument_258
    refine PP.ix (fun _ => ?_)
    exact mwj_argument_265 rc ih x6 (G 20 x6.toNatClampNeg) (5 : Int32) (fup F 42 ((F 42) + (1 : Int32))) G (KX.f (k := 42) rfl hK)
theorem mwj_argument_229 {fu : Nat} (rc : RC) (ih : mKI1 rc) {F0 : PF} {G0 : PG} (x3 : Int32) (x6 : Int32) (F : PF) (G : PG) (hK : KX [42, 43, 44, 45, 47, 48, 49, 55, 60, 62, 70] [56, 57, 58, 59, 67, 68, 69] F0 G0 F G) : PP (mb_argument_229 fu rc x3 x6 F G) (fun _ F' G' => KX [42, 43, 44, 45, 47, 48, 49, 55, 60, 62, 70] [56, 57, 58, 59, 67, 68, 69] F0 G0 F' G') := by
  unfold mb_argument_229
  refine PP.bind (mw_note (7 : Int32) x3 F G) ?_
  intro r1 F1 G1 hK1
  dsimp only
  exact mwj_argument_236 rc ih x6 F1 G1 (KX.tr hK hK1 rfl rfl)
theorem mwj_argument_226 {fu : Nat} (rc : RC) (ih : mKI1 rc) {F0 : PF} {G0 : PG} (x3 : Int32) (x6 : Int32) (z0 : Int32) (z1 : Int32) (F : PF) (G : PG) (hK : KX [42, 43, 44, 45, 47, 48, 49, 55, 60, 62, 70] [56, 57, 58, 59, 67, 68, 69] F0 G0 F G) : PP (mb_argument_226 fu rc x3 x6 z0 z1 F G) (fun _ F' G' => KX [42, 43, 44, 45, 47, 48, 49, 55, 60, 62, 70] [56, 57, 58, 59, 67, 68, 69] F0 G0 F' G') := by
  unfold mb_argument_226
  refine PP.ite (fun c_1 => ?_) (fun c_1 => ?_)
  · skip
    exact mwj_argument_236 rc ih x6 F G hK
  · skip
    exact mwj_argument_229 rc ih x3 x6 F G hK
theorem mwj_argument_191 {fu : Nat} (rc : RC) (ih : mKI1 rc) {F0 : PF} {G0 : PG} (x3 : Int32) (x4 : Int32) (x6 : Int32) (F : PF) (G : PG) (hK : KX [42, 43, 44, 45, 47, 48, 49, 55, 60, 62, 70] [56, 57, 58, 59, 67, 68, 69] F0 G0 F G) : PP (mb_argument_191 fu rc x3 x4 x6 F G) (fun _ F' G' => KX [42, 43, 44, 45, 47, 48, 49, 55, 60, 62, 70] [56, 57, 58, 59, 67, 68, 69] F0 G0 F' G') := by
  unfold mb_argument_191
  refine PP.ite (fun c_1 => ?_) (fun c_1 => ?_)
  · skip
    exact mwj_argument_229 rc ih x3 x6 F G hK
  · skip
    unfold mb_argument_197
    refine PP.ix (fun _ => ?_)
    refine PP.ite (fun c_2 => ?_) (fun c_2 => ?_)
    · skip
      unfold mb_argument_208
      refine PP.ix (fun _ => ?_)
      refine PP.ite (fun c_3 => ?_) (fun c_3 => ?_)
      · skip
        unfold mb_argument_221
        exact mwj_argument_226 rc ih x3 x6 (1 : Int32) (G 22 x6.toNatClampNeg) F G hK
      · skip
        unfold mb_argument_225
        exact mwj_argument_226 rc ih x3 x6 (0 : Int32) (G 22 x6.toNatClampNeg) F G hK
    · skip
      exact mwj_argument_229 rc ih x3 x6 F G hK
theorem mwj_argument_139 {fu : Nat} (rc : RC) (ih : mKI1 rc) {F0 : PF} {G0 : PG} (x3 : Int32) (x4 : Int32) (z0 : Int32) (F : PF) (G : PG) (hK : KX [42, 43, 44, 45, 47, 48, 49, 55, 60, 62, 70] [56, 57, 58, 59, 67, 68, 69] F0 G0 F G) : PP (mb_argument_139 fu rc x3 x4 z0 F G) (fun _ F' G' => KX [42, 43, 44, 45, 47, 48, 49, 55, 60, 62, 70] [56, 57, 58, 59, 67, 68, 69] F0 G0 F' G') := by
  unfold mb_argument_139
  refine PP.ite (fun c_1 => ?_) (fun c_1 => ?_)
  · skip
    unfold mb_argument_146
    refine PP.bind (mw_note (7 : Int32) x3 F G) ?_
    intro r2 F2 G2 hK2
    dsimp only
    unfold mb_argument_153
    refine PP.bind (ih 4 0 0 F2 G2) ?_
    intro r3 F3 G3 hK3
    dsimp only
    unfold mb_argument_157
    refine PP.bz (fun _ => ?_)
    refine PP.ret ?_
    exact (KX.tr (KX.tr hK hK2 rfl rfl) hK3 rfl rfl)
  · skip
    unfold mb_argument_158
    refine PP.bind (mw_meaning (F 42) F G) ?_
    intro r4 F4 G4 hK4
    dsimp only
    unfold mb_argument_166
    refine PP.ite (fun c_5 => ?_) (fun c_5 => ?_)
    · skip
      unfold mb_argument_174
      refine PP.ite (fun c_6 => ?_) (fun c_6 => ?_)
      · skip
        unfold mb_argument_182
        refine PP.bind (mw_note (4 : Int32) x3 F4 G4) ?_
        intro r7 F7 G7 hK7
        dsimp only
        unfold mb_argument_188
        exact mwj_argument_236 rc ih r4 F7 G7 (KX.tr (KX.tr hK hK4 rfl rfl) hK7 rfl rfl)
      · skip
        exact mwj_argument_191 rc ih x3 x4 r4 F4 G4 (KX.tr hK hK4 rfl rfl)
    · skip
      exact mwj_argument_191 rc ih x3 x4 r4 F4 G4 (KX.tr hK hK4 rfl rfl)
theorem mwj_argument_134 {fu : Nat} (rc : RC) (ih : mKI1 rc) {F0 : PF} {G0 : PG} (x3 : Int32) (x4 : Int32) (F : PF) (G : PG) (hK : KX [42, 43, 44, 45, 47, 48, 49, 55, 60, 62, 70] [56, 57, 58, 59, 67, 68, 69] F0 G0 F G) : PP (mb_argument_134 fu rc x3 x4 F G) (fun _ F' G' => KX [42, 43, 44, 45, 47, 48, 49, 55, 60, 62, 70] [56, 57, 58, 59, 67, 68, 69] F0 G0 F' G') := by
  unfold mb_argument_134
  exact mwj_argument_139 rc ih x3 x4 (1 : Int32) F G hK
theorem mwj_argument_138 {fu : Nat} (rc : RC) (ih : mKI1 rc) {F0 : PF} {G0 : PG} (x3 : Int32) (x4 : Int32) (F : PF) (G : PG) (hK : KX [42, 43, 44, 45, 47, 48, 49, 55, 60, 62, 70] [56, 57, 58, 59, 67, 68, 69] F0 G0 F G) : PP (mb_argument_138 fu rc x3 x4 F G) (fun _ F' G' => KX [42, 43, 44, 45, 47, 48, 49, 55, 60, 62, 70] [56, 57, 58, 59, 67, 68, 69] F0 G0 F' G') := by
  unfold mb_argument_138
  exact mwj_argument_139 rc ih x3 x4 (0 : Int32) F G hK
theorem mwt_argument {fu : Nat} (rc : RC) (ih : mKI1 rc) (x1 : Int32) (x2 : Int32) (F : PF) (G : PG) : PP (mh_argument fu rc x1 x2 F G) (fun _ F' G' => KX [42, 43, 44, 45, 47, 48, 49, 55, 60, 62, 70] [56, 57, 58, 59, 67, 68, 69] F G F' G') := by
  unfold mh_argument
  unfold mb_argument_0
  refine PP.ite (fun c_1 => ?_) (fun c_1 => ?_)
  · skip
    unfold mb_argument_7
    refine PP.ite (fun c_2 => ?_) (fun c_2 => ?_)
    · skip
      exact mwj_argument_12 rc ih F G KX.rf
    · skip
      unfold mb_argument_17
      refine PP.ix (fun _ => ?_)
      refine PP.ix (fun _ => ?_)
      refine PP.ite (fun c_3 => ?_) (fun c_3 => ?_)
      · skip
        unfold mb_argument_49
        refine PP.ix (fun _ => ?_)
        refine PP.ix (fun _ => ?_)
        refine PP.ite (fun c_4 => ?_) (fun c_4 => ?_)
        · skip
          unfold mb_argument_69
          refine PP.bind (ih 4 0 0 F G) ?_
          intro r5 F5 G5 hK5
          dsimp only
          unfold mb_argument_73
          refine PP.bz (fun _ => ?_)
          refine PP.ret ?_
          exact (KX.tr KX.rf hK5 rfl rfl)
        · skip
          unfold mb_argument_74
          refine PP.ix (fun _ => ?_)
          refine PP.ite (fun c_6 => ?_) (fun c_6 => ?_)
          · skip
            unfold mb_argument_87
            refine PP.ix (fun _ => ?_)
            refine PP.ite (fun c_7 => ?_) (fun c_7 => ?_)
            · skip
              unfold mb_argument_102
              refine PP.ix (fun _ => ?_)
              refine PP.ite (fun c_8 => ?_) (fun c_8 => ?_)
              · skip
                exact mwj_argument_134 rc ih (G 6 (F 42).toNatClampNeg) (G 34 ((G 31 x1.toNatClampNeg) + x2).toNatClampNeg) F G KX.rf
              · skip
                unfold mb_argument_118
                refine PP.ix (fun _ => ?_)
                refine PP.ite (fun c_9 => ?_) (fun c_9 => ?_)
                · skip
                  exact mwj_argument_134 rc ih (G 6 (F 42).toNatClampNeg) (G 34 ((G 31 x1.toNatClampNeg) + x2).toNatClampNeg) F G KX.rf
                · skip
                  exact mwj_argument_138 rc ih (G 6 (F 42).toNatClampNeg) (G 34 ((G 31 x1.toNatClampNeg) + x2).toNatClampNeg) F G KX.rf
            · skip
              exact mwj_argument_138 rc ih (G 6 (F 42).toNatClampNeg) (G 34 ((G 31 x1.toNatClampNeg) + x2).toNatClampNeg) F G KX.rf
          · skip
            exact mwj_argument_138 rc ih (G 6 (F 42).toNatClampNeg) (G 34 ((G 31 x1.toNatClampNeg) + x2).toNatClampNeg) F G KX.rf
      · skip
        unfold mb_argument_37
        refine PP.bind (mw_note (7 : Int32) (G 6 (F 42).toNatClampNeg) F G) ?_
        intro r10 F10 G10 hK10
        dsimp only
        unfold mb_argument_44
        refine PP.bind (ih 4 0 0 F10 G10) ?_
        intro r11 F11 G11 hK11
        dsimp only
        unfold mb_argument_48
        refine PP.bz (fun _ => ?_)
        refine PP.ret ?_
        exact (KX.tr (KX.tr KX.rf hK10 rfl rfl) hK11 rfl rfl)
  · skip
    exact mwj_argument_12 rc ih F G KX.rf
theorem mwj_call_256 {fu : Nat} (rc : RC) (ih : mKI1 rc) {F0 : PF} {G0 : PG} (x1 : Int32) (x4 : Int32) (F : PF) (G : PG) (hK : KX [42, 43, 44, 45, 47, 48, 49, 55, 60, 62, 70] [56, 57, 58, 59, 67, 68, 69] F0 G0 F G) : PP (mb_call_256 fu rc x1 x4 F G) (fun _ F' G' => KX [42, 43, 44, 45, 47, 48, 49, 55, 60, 62, 70] [56, 57, 58, 59, 67, 68, 69] F0 G0 F' G') := by
  unfold mb_call_256
  refine PP.bind (mw_closeSign (23 : Int32) F G) ?_
  intro r1 F1 G1 hK1
  dsimp only
  unfold mb_call_262
  refine PP.ite (fun c_2 => ?_) (fun c_2 => ?_)
  · skip
    unfold mb_call_265
    refine PP.ret ?_
    exact (KX.tr hK hK1 rfl rfl)
  · skip
    unfold mb_call_267
    refine PP.bind (mw_step (15 : Int32) (0 : Int32) (0 : Int32) F1 G1) ?_
    intro r3 F3 G3 hK3
    dsimp only
    unfold mb_call_275
    refine PP.ix (fun _ => ?_)
    refine PP.bind (mw_step (16 : Int32) x4 (G3 6 x1.toNatClampNeg) F3 G3) ?_
    intro r4 F4 G4 hK4
    dsimp only
    unfold mb_call_290
    refine PP.ret ?_
    exact (KX.tr (KX.tr (KX.tr hK hK1 rfl rfl) hK3 rfl rfl) hK4 rfl rfl)
theorem mwj_call_200 {fu : Nat} (rc : RC) (ih : mKI1 rc) {F0 : PF} {G0 : PG} (ag_156 : Int32 → Int32 → Int32 → Int32 → PF → PG → PR) (hag_156 : ∀ (x1 : Int32) (x4 : Int32) (x5 : Int32) (x6 : Int32) (F : PF) (G : PG) (hK : KX [42, 43, 44, 45, 47, 48, 49, 55, 60, 62, 70] [56, 57, 58, 59, 67, 68, 69] F0 G0 F G), PP (ag_156 x1 x4 x5 x6 F G) (fun _ F' G' => KX [42, 43, 44, 45, 47, 48, 49, 55, 60, 62, 70] [56, 57, 58, 59, 67, 68, 69] F0 G0 F' G')) (x1 : Int32) (x4 : Int32) (x5 : Int32) (x6 : Int32) (z0 : Int32) (z1 : Int32) (F : PF) (G : PG) (hK : KX [42, 43, 44, 45, 47, 48, 49, 55, 60, 62, 70] [56, 57, 58, 59, 67, 68, 69] F0 G0 F G) : PP (mb_call_200 fu rc ag_156 x1 x4 x5 x6 z0 z1 F G) (fun _ F' G' => KX [42, 43, 44, 45, 47, 48, 49, 55, 60, 62, 70] [56, 57, 58, 59, 67, 68, 69] F0 G0 F' G') := by
  unfold mb_call_200
  unfold mb_call_204
  exact hag_156 x1 x4 x5 x6 (fup F 42 (z1 + z0)) G (KX.f (k := 42) rfl hK)
theorem mwz_call_156 {fu : Nat} (rc : RC) (ih : mKI1 rc) {F0 : PF} {G0 : PG} : ∀ (n : Nat) (x1 : Int32) (x4 : Int32) (x5 : Int32) (x6 : Int32) (F : PF) (G : PG) (hK : KX [42, 43, 44, 45, 47, 48, 49, 55, 60, 62, 70] [56, 57, 58, 59, 67, 68, 69] F0 G0 F G), PP (ml_call_156 fu rc n x1 x4 x5 x6 F G) (fun _ F' G' => KX [42, 43, 44, 45, 47, 48, 49, 55, 60, 62, 70] [56, 57, 58, 59, 67, 68, 69] F0 G0 F' G') := by
  intro n
  induction n with
  | zero =>
    intro x1 x4 x5 x6 F G hK
    exact PP.no
  | succ n ihn =>
    intro x1 x4 x5 x6 F G hK
    show PP (mb_call_156 fu rc (ml_call_156 fu rc n) x1 x4 x5 x6 F G) _
    unfold mb_call_156
    refine PP.ite (fun c_1 => ?_) (fun c_1 => ?_)
    · skip
      unfold mb_call_207
      refine PP.ite (fun c_2 => ?_) (fun c_2 => ?_)
      · skip
        unfold mb_call_214
        refine PP.ite (fun c_3 => ?_) (fun c_3 => ?_)
        · skip
          exact mwj_call_256 rc ih x1 x4 F G hK
        · skip
          unfold mb_call_220
          refine PP.ix (fun _ => ?_)
          refine PP.ite (fun c_4 => ?_) (fun c_4 => ?_)
          · skip
            exact mwj_call_256 rc ih x1 x4 F G hK
          · skip
            unfold mb_call_232
            refine PP.bind (mw_isSign (23 : Int32) F G) ?_
            intro r5 F5 G5 hK5
            dsimp only
            unfold mb_call_238
            refine PP.ite (fun c_6 => ?_) (fun c_6 => ?_)
            · skip
              exact mwj_call_256 rc ih x1 x4 F5 G5 (KX.tr hK hK5 rfl rfl)
            · skip
              unfold mb_call_241
              refine PP.ix (fun _ => ?_)
              refine PP.bind (mw_note (7 : Int32) (G5 6 (F5 42).toNatClampNeg) F5 G5) ?_
              intro r7 F7 G7 hK7
              dsimp only
              exact mwj_call_256 rc ih x1 x4 F7 G7 (KX.tr (KX.tr hK hK5 rfl rfl) hK7 rfl rfl)
      · skip
        exact mwj_call_256 rc ih x1 x4 F G hK
    · skip
      unfold mb_call_161
      refine PP.bind (ih 0 x4 x5 F G) ?_
      intro r8 F8 G8 hK8
      dsimp only
      unfold mb_call_169
      refine PP.ite (fun c_9 => ?_) (fun c_9 => ?_)
      · skip
        unfold mb_call_172
        refine PP.ret ?_
        exact (KX.tr hK hK8 rfl rfl)
      · skip
        unfold mb_call_174
        refine PP.bind (mw_isSign (28 : Int32) F8 G8) ?_
        intro r10 F10 G10 hK10
        dsimp only
        unfold mb_call_183
        refine PP.ite (fun c_11 => ?_) (fun c_11 => ?_)
        · skip
          unfold mb_call_199
          exact mwj_call_200 rc ih (ml_call_156 fu rc n) ihn x1 x4 (x5 + (1 : Int32)) r10 (0 : Int32) (F10 42) F10 G10 (KX.tr (KX.tr hK hK8 rfl rfl) hK10 rfl rfl)
        · skip
          unfold mb_call_195
          exact mwj_call_200 rc ih (ml_call_156 fu rc n) ihn x1 x4 (x5 + (1 : Int32)) r10 (1 : Int32) (F10 42) F10 G10 (KX.tr (KX.tr hK hK8 rfl rfl) hK10 rfl rfl)
theorem mwj_call_154 {fu : Nat} (rc : RC) (ih : mKI1 rc) {F0 : PF} {G0 : PG} (x1 : Int32) (x4 : Int32) (x5 : Int32) (z0 : Int32) (F : PF) (G : PG) (hK : KX [42, 43, 44, 45, 47, 48, 49, 55, 60, 62, 70] [56, 57, 58, 59, 67, 68, 69] F0 G0 F G) : PP (mb_call_154 fu rc x1 x4 x5 z0 F G) (fun _ F' G' => KX [42, 43, 44, 45, 47, 48, 49, 55, 60, 62, 70] [56, 57, 58, 59, 67, 68, 69] F0 G0 F' G') := by
  unfold mb_call_154
  exact mwz_call_156 rc ih fu x1 x4 x5 z0 F G hK
theorem mwj_call_126 {fu : Nat} (rc : RC) (ih : mKI1 rc) {F0 : PF} {G0 : PG} (x1 : Int32) (x4 : Int32) (F : PF) (G : PG) (hK : KX [42, 43, 44, 45, 47, 48, 49, 55, 60, 62, 70] [56, 57, 58, 59, 67, 68, 69] F0 G0 F G) : PP (mb_call_126 fu rc x1 x4 F G) (fun _ F' G' => KX [42, 43, 44, 45, 47, 48, 49, 55, 60, 62, 70] [56, 57, 58, 59, 67, 68, 69] F0 G0 F' G') := by
  unfold mb_call_126
  refine PP.bind (mw_openSign (22 : Int32) F G) ?_
  intro r1 F1 G1 hK1
  dsimp only
  unfold mb_call_132
  refine PP.ite (fun c_2 => ?_) (fun c_2 => ?_)
  · skip
    unfold mb_call_135
    refine PP.ret ?_
    exact (KX.tr hK hK1 rfl rfl)
  · skip
    unfold mb_call_137
    refine PP.bind (mw_isSign (23 : Int32) F1 G1) ?_
    intro r3 F3 G3 hK3
    dsimp only
    unfold mb_call_146
    refine PP.ite (fun c_4 => ?_) (fun c_4 => ?_)
    · skip
      unfold mb_call_149
      exact mwj_call_154 rc ih x1 x4 (0 : Int32) (1 : Int32) F3 G3 (KX.tr (KX.tr hK hK1 rfl rfl) hK3 rfl rfl)
    · skip
      unfold mb_call_153
      exact mwj_call_154 rc ih x1 x4 (0 : Int32) (0 : Int32) F3 G3 (KX.tr (KX.tr hK hK1 rfl rfl) hK3 rfl rfl)
theorem mwj_call_87 {fu : Nat} (rc : RC) (ih : mKI1 rc) {F0 : PF} {G0 : PG} (x1 : Int32) (x2 : Int32) (x4 : Int32) (F : PF) (G : PG) (hK : KX [42, 43, 44, 45, 47, 48, 49, 55, 60, 62, 70] [56, 57, 58, 59, 67, 68, 69] F0 G0 F G) : PP (mb_call_87 fu rc x1 x2 x4 F G) (fun _ F' G' => KX [42, 43, 44, 45, 47, 48, 49, 55, 60, 62, 70] [56, 57, 58, 59, 67, 68, 69] F0 G0 F' G') := by
  unfold mb_call_87
  refine PP.ite (fun c_1 => ?_) (fun c_1 => ?_)
  · skip
    unfold mb_call_94
    refine PP.ite (fun c_2 => ?_) (fun c_2 => ?_)
    · skip
      exact mwj_call_126 rc ih x1 x4 F G hK
    · skip
      unfold mb_call_100
      refine PP.ite (fun c_3 => ?_) (fun c_3 => ?_)
      · skip
        exact mwj_call_126 rc ih x1 x4 F G hK
      · skip
        unfold mb_call_104
        refine PP.ix (fun _ => ?_)
        refine PP.ite (fun c_4 => ?_) (fun c_4 => ?_)
        · skip
          exact mwj_call_126 rc ih x1 x4 F G hK
        · skip
          unfold mb_call_114
          refine PP.ix (fun _ => ?_)
          refine PP.bind (mw_note (8 : Int32) (G 6 x1.toNatClampNeg) F G) ?_
          intro r5 F5 G5 hK5
          dsimp only
          exact mwj_call_126 rc ih x1 x4 F5 G5 (KX.tr hK hK5 rfl rfl)
  · skip
    exact mwj_call_126 rc ih x1 x4 F G hK
theorem mwj_call_63 {fu : Nat} (rc : RC) (ih : mKI1 rc) {F0 : PF} {G0 : PG} (x1 : Int32) (x2 : Int32) (x3 : Int32) (x4 : Int32) (F : PF) (G : PG) (hK : KX [42, 43, 44, 45, 47, 48, 49, 55, 60, 62, 70] [56, 57, 58, 59, 67, 68, 69] F0 G0 F G) : PP (mb_call_63 fu rc x1 x2 x3 x4 F G) (fun _ F' G' => KX [42, 43, 44, 45, 47, 48, 49, 55, 60, 62, 70] [56, 57, 58, 59, 67, 68, 69] F0 G0 F' G') := by
  unfold mb_call_63
  refine PP.ite (fun c_1 => ?_) (fun c_1 => ?_)
  · skip
    unfold mb_call_70
    refine PP.ite (fun c_2 => ?_) (fun c_2 => ?_)
    · skip
      exact mwj_call_87 rc ih x1 x2 x4 F G hK
    · skip
      unfold mb_call_75
      refine PP.ix (fun _ => ?_)
      refine PP.bind (mw_note (6 : Int32) (G 6 x1.toNatClampNeg) F G) ?_
      intro r3 F3 G3 hK3
      dsimp only
      exact mwj_call_87 rc ih x1 x2 x4 F3 G3 (KX.tr hK hK3 rfl rfl)
  · skip
    exact mwj_call_87 rc ih x1 x2 x4 F G hK
theorem mwj_call_32 {fu : Nat} (rc : RC) (ih : mKI1 rc) {F0 : PF} {G0 : PG} (x1 : Int32) (x2 : Int32) (x3 : Int32) (z0 : Int32) (F : PF) (G : PG) (hK : KX [42, 43, 44, 45, 47, 48, 49, 55, 60, 62, 70] [56, 57, 58, 59, 67, 68, 69] F0 G0 F G) : PP (mb_call_32 fu rc x1 x2 x3 z0 F G) (fun _ F' G' => KX [42, 43, 44, 45, 47, 48, 49, 55, 60, 62, 70] [56, 57, 58, 59, 67, 68, 69] F0 G0 F' G') := by
  unfold mb_call_32
  refine PP.ite (fun c_1 => ?_) (fun c_1 => ?_)
  · skip
    unfold mb_call_41
    refine PP.ite (fun c_2 => ?_) (fun c_2 => ?_)
    · skip
      unfold mb_call_46
      refine PP.ite (fun c_3 => ?_) (fun c_3 => ?_)
      · skip
        unfold mb_call_52
        refine PP.ix (fun _ => ?_)
        refine PP.bind (mw_note (4 : Int32) (G 6 x1.toNatClampNeg) F G) ?_
        intro r4 F4 G4 hK4
        dsimp only
        exact mwj_call_63 rc ih x1 x2 x3 z0 F4 G4 (KX.tr hK hK4 rfl rfl)
      · skip
        exact mwj_call_63 rc ih x1 x2 x3 z0 F G hK
    · skip
      exact mwj_call_63 rc ih x1 x2 x3 z0 F G hK
  · skip
    exact mwj_call_63 rc ih x1 x2 x3 z0 F G hK
theorem mwj_call_16 {fu : Nat} (rc : RC) (ih : mKI1 rc) {F0 : PF} {G0 : PG} (x1 : Int32) (x2 : Int32) (z0 : Int32) (F : PF) (G : PG) (hK : KX [42, 43, 44, 45, 47, 48, 49, 55, 60, 62, 70] [56, 57, 58, 59, 67, 68, 69] F0 G0 F G) : PP (mb_call_16 fu rc x1 x2 z0 F G) (fun _ F' G' => KX [42, 43, 44, 45, 47, 48, 49, 55, 60, 62, 70] [56, 57, 58, 59, 67, 68, 69] F0 G0 F' G') := by
  unfold mb_call_16
  refine PP.ite (fun c_1 => ?_) (fun c_1 => ?_)
  · skip
    unfold mb_call_24
    exact mwj_call_32 rc ih x1 x2 z0 (-1 : Int32) F G hK
  · skip
    unfold mb_call_28
    exact mwj_call_32 rc ih x1 x2 z0 (F 62) F G hK
theorem mwt_call {fu : Nat} (rc : RC) (ih : mKI1 rc) (x1 : Int32) (x2 : Int32) (F : PF) (G : PG) : PP (mh_call fu rc x1 x2 F G) (fun _ F' G' => KX [42, 43, 44, 45, 47, 48, 49, 55, 60, 62, 70] [56, 57, 58, 59, 67, 68, 69] F G F' G') := by
  unfold mh_call
  unfold mb_call_0
  refine PP.ite (fun c_1 => ?_) (fun c_1 => ?_)
  · skip
    unfold mb_call_7
    exact mwj_call_16 rc ih x1 x2 (-1 : Int32) F G KX.rf
  · skip
    unfold mb_call_11
    refine PP.bind (mw_meaning x1 F G) ?_
    intro r2 F2 G2 hK2
    dsimp only
    exact mwj_call_16 rc ih x1 x2 r2 F2 G2 (KX.tr KX.rf hK2 rfl rfl)
theorem mwj_chain_118 {fu : Nat} (rc : RC) (ih : mKI1 rc) {F0 : PF} {G0 : PG} (ag_10 : Int32 → Int32 → PF → PG → PR) (hag_10 : ∀ (x1 : Int32) (x2 : Int32) (F : PF) (G : PG) (hK : KX [42, 43, 44, 45, 47, 48, 49, 55, 60, 62, 70] [56, 57, 58, 59, 67, 68, 69] F0 G0 F G), PP (ag_10 x1 x2 F G) (fun _ F' G' => KX [42, 43, 44, 45, 47, 48, 49, 55, 60, 62, 70] [56, 57, 58, 59, 67, 68, 69] F0 G0 F' G')) (x1 : Int32) (z0 : Int32) (z1 : Int32) (F : PF) (G : PG) (hK : KX [42, 43, 44, 45, 47, 48, 49, 55, 60, 62, 70] [56, 57, 58, 59, 67, 68, 69] F0 G0 F G) : PP (mb_chain_118 fu rc ag_10 x1 z0 z1 F G) (fun _ F' G' => KX [42, 43, 44, 45, 47, 48, 49, 55, 60, 62, 70] [56, 57, 58, 59, 67, 68, 69] F0 G0 F' G') := by
  unfold mb_chain_118
  refine PP.ix (fun _ => ?_)
  unfold mb_chain_119
  unfold mb_chain_129
  unfold mb_chain_139
  refine PP.bind (ih 7 0 0 (fup (fup F 70 ((F 70) + (1 : Int32))) 42 ((F 42) + (1 : Int32))) (gup G 69 z1.toNatClampNeg z0)) ?_
  intro r1 F1 G1 hK1
  dsimp only
  unfold mb_chain_143
  exact hag_10 x1 r1 F1 G1 (KX.tr (KX.f (k := 42) rfl (KX.f (k := 70) rfl (KX.g (k := 69) rfl hK))) hK1 rfl rfl)
theorem mwj_chain_113 {fu : Nat} (rc : RC) (ih : mKI1 rc) {F0 : PF} {G0 : PG} (ag_10 : Int32 → Int32 → PF → PG → PR) (hag_10 : ∀ (x1 : Int32) (x2 : Int32) (F : PF) (G : PG) (hK : KX [42, 43, 44, 45, 47, 48, 49, 55, 60, 62, 70] [56, 57, 58, 59, 67, 68, 69] F0 G0 F G), PP (ag_10 x1 x2 F G) (fun _ F' G' => KX [42, 43, 44, 45, 47, 48, 49, 55, 60, 62, 70] [56, 57, 58, 59, 67, 68, 69] F0 G0 F' G')) (x1 : Int32) (z0 : Int32) (z2 : Int32) (F : PF) (G : PG) (hK : KX [42, 43, 44, 45, 47, 48, 49, 55, 60, 62, 70] [56, 57, 58, 59, 67, 68, 69] F0 G0 F G) : PP (mb_chain_113 fu rc ag_10 x1 z0 z2 F G) (fun _ F' G' => KX [42, 43, 44, 45, 47, 48, 49, 55, 60, 62, 70] [56, 57, 58, 59, 67, 68, 69] F0 G0 F' G') := by
  unfold mb_chain_113
  refine PP.bind (mw_step z0 (0 : Int32) (0 : Int32) F G) ?_
  intro r1 F1 G1 hK1
  dsimp only
  exact mwj_chain_118 rc ih ag_10 hag_10 x1 r1 z2 F1 G1 (KX.tr hK hK1 rfl rfl)
theorem mwj_chain_49 {fu : Nat} (rc : RC) (ih : mKI1 rc) {F0 : PF} {G0 : PG} (ag_10 : Int32 → Int32 → PF → PG → PR) (hag_10 : ∀ (x1 : Int32) (x2 : Int32) (F : PF) (G : PG) (hK : KX [42, 43, 44, 45, 47, 48, 49, 55, 60, 62, 70] [56, 57, 58, 59, 67, 68, 69] F0 G0 F G), PP (ag_10 x1 x2 F G) (fun _ F' G' => KX [42, 43, 44, 45, 47, 48, 49, 55, 60, 62, 70] [56, 57, 58, 59, 67, 68, 69] F0 G0 F' G')) (x1 : Int32) (x3 : Int32) (F : PF) (G : PG) (hK : KX [42, 43, 44, 45, 47, 48, 49, 55, 60, 62, 70] [56, 57, 58, 59, 67, 68, 69] F0 G0 F G) : PP (mb_chain_49 fu rc ag_10 x1 x3 F G) (fun _ F' G' => KX [42, 43, 44, 45, 47, 48, 49, 55, 60, 62, 70] [56, 57, 58, 59, 67, 68, 69] F0 G0 F' G') := by
  unfold mb_chain_49
  refine PP.ite (fun c_1 => ?_) (fun c_1 => ?_)
  · skip
    unfold mb_chain_54
    refine PP.ret ?_
    exact hK
  · skip
    unfold mb_chain_56
    refine PP.ix (fun _ => ?_)
    refine PP.ix (fun _ => ?_)
    unfold mb_chain_74
    refine PP.ix (fun _ => ?_)
    unfold mb_chain_84
    refine PP.ite (fun c_2 => ?_) (fun c_2 => ?_)
    · skip
      unfold mb_chain_101
      refine PP.ite (fun c_3 => ?_) (fun c_3 => ?_)
      · skip
        unfold mb_chain_106
        exact mwj_chain_113 rc ih ag_10 hag_10 x1 (14 : Int32) (F 70) F (gup (gup G 67 (F 70).toNatClampNeg (G 5 (F 42).toNatClampNeg)) 68 (F 70).toNatClampNeg x3) (KX.g (k := 68) rfl (KX.g (k := 67) rfl hK))
      · skip
        unfold mb_chain_111
        exact mwj_chain_113 rc ih ag_10 hag_10 x1 (13 : Int32) (F 70) F (gup (gup G 67 (F 70).toNatClampNeg (G 5 (F 42).toNatClampNeg)) 68 (F 70).toNatClampNeg x3) (KX.g (k := 68) rfl (KX.g (k := 67) rfl hK))
    · skip
      unfold mb_chain_97
      exact mwj_chain_118 rc ih ag_10 hag_10 x1 (-1 : Int32) (F 70) F (gup (gup G 67 (F 70).toNatClampNeg (G 5 (F 42).toNatClampNeg)) 68 (F 70).toNatClampNeg x3) (KX.g (k := 68) rfl (KX.g (k := 67) rfl hK))
theorem mwz_chain_19 {fu : Nat} (rc : RC) (ih : mKI1 rc) {F0 : PF} {G0 : PG} (ag_10 : Int32 → Int32 → PF → PG → PR) (hag_10 : ∀ (x1 : Int32) (x2 : Int32) (F : PF) (G : PG) (hK : KX [42, 43, 44, 45, 47, 48, 49, 55, 60, 62, 70] [56, 57, 58, 59, 67, 68, 69] F0 G0 F G), PP (ag_10 x1 x2 F G) (fun _ F' G' => KX [42, 43, 44, 45, 47, 48, 49, 55, 60, 62, 70] [56, 57, 58, 59, 67, 68, 69] F0 G0 F' G')) : ∀ (n : Nat) (x1 : Int32) (x3 : Int32) (F : PF) (G : PG) (hK : KX [42, 43, 44, 45, 47, 48, 49, 55, 60, 62, 70] [56, 57, 58, 59, 67, 68, 69] F0 G0 F G), PP (ml_chain_19 fu rc ag_10 n x1 x3 F G) (fun _ F' G' => KX [42, 43, 44, 45, 47, 48, 49, 55, 60, 62, 70] [56, 57, 58, 59, 67, 68, 69] F0 G0 F' G') := by
  intro n
  induction n with
  | zero =>
    intro x1 x3 F G hK
    exact PP.no
  | succ n ihn =>
    intro x1 x3 F G hK
    show PP (mb_chain_19 fu rc ag_10 (ml_chain_19 fu rc ag_10 n) x1 x3 F G) _
    unfold mb_chain_19
    refine PP.ite (fun c_1 => ?_) (fun c_1 => ?_)
    · skip
      exact mwj_chain_49 rc ih ag_10 hag_10 x1 x3 F G hK
    · skip
      unfold mb_chain_27
      refine PP.ix (fun _ => ?_)
      refine PP.ite (fun c_2 => ?_) (fun c_2 => ?_)
      · skip
        exact mwj_chain_49 rc ih ag_10 hag_10 x1 x3 F G hK
      · skip
        unfold mb_chain_42
        refine PP.bind (mw_binds F G) ?_
        intro r3 F3 G3 hK3
        dsimp only
        unfold mb_chain_46
        exact ihn x1 x3 F3 G3 (KX.tr hK hK3 rfl rfl)
theorem mwz_chain_10 {fu : Nat} (rc : RC) (ih : mKI1 rc) {F0 : PF} {G0 : PG} : ∀ (n : Nat) (x1 : Int32) (x2 : Int32) (F : PF) (G : PG) (hK : KX [42, 43, 44, 45, 47, 48, 49, 55, 60, 62, 70] [56, 57, 58, 59, 67, 68, 69] F0 G0 F G), PP (ml_chain_10 fu rc n x1 x2 F G) (fun _ F' G' => KX [42, 43, 44, 45, 47, 48, 49, 55, 60, 62, 70] [56, 57, 58, 59, 67, 68, 69] F0 G0 F' G') := by
  intro n
  induction n with
  | zero =>
    intro x1 x2 F G hK
    exact PP.no
  | succ n ihn =>
    intro x1 x2 F G hK
    show PP (mb_chain_10 fu rc (ml_chain_10 fu rc n) x1 x2 F G) _
    unfold mb_chain_10
    refine PP.ite (fun c_1 => ?_) (fun c_1 => ?_)
    · skip
      unfold mb_chain_147
      refine PP.ret ?_
      exact hK
    · skip
      unfold mb_chain_14
      refine PP.bind (mw_level F G) ?_
      intro r2 F2 G2 hK2
      dsimp only
      unfold mb_chain_18
      exact mwz_chain_19 rc ih (ml_chain_10 fu rc n) ihn fu x1 r2 F2 G2 (KX.tr hK hK2 rfl rfl)
theorem mwt_chain {fu : Nat} (rc : RC) (ih : mKI1 rc) (F : PF) (G : PG) : PP (mh_chain fu rc F G) (fun _ F' G' => KX [42, 43, 44, 45, 47, 48, 49, 55, 60, 62, 70] [56, 57, 58, 59, 67, 68, 69] F G F' G') := by
  unfold mh_chain
  unfold mb_chain_0
  refine PP.bind (ih 7 0 0 F G) ?_
  intro r1 F1 G1 hK1
  dsimp only
  unfold mb_chain_9
  exact mwz_chain_10 rc ih fu (F 70) r1 F1 G1 (KX.tr KX.rf hK1 rfl rfl)
theorem mwj_element_89 {fu : Nat} (rc : RC) (ih : mKI1 rc) {F0 : PF} {G0 : PG} (F : PF) (G : PG) (hK : KX [42, 43, 44, 45, 47, 48, 49, 55, 60, 62, 70] [56, 57, 58, 59, 67, 68, 69] F0 G0 F G) : PP (mb_element_89 fu rc F G) (fun _ F' G' => KX [42, 43, 44, 45, 47, 48, 49, 55, 60, 62, 70] [56, 57, 58, 59, 67, 68, 69] F0 G0 F' G') := by
  unfold mb_element_89
  refine PP.ret ?_
  exact hK
theorem mwj_element_121 {fu : Nat} (rc : RC) (ih : mKI1 rc) {F0 : PF} {G0 : PG} (z0 : Int32) (z1 : Int32) (z2 : Int32) (F : PF) (G : PG) (hK : KX [42, 43, 44, 45, 47, 48, 49, 55, 60, 62, 70] [56, 57, 58, 59, 67, 68, 69] F0 G0 F G) : PP (mb_element_121 fu rc z0 z1 z2 F G) (fun _ F' G' => KX [42, 43, 44, 45, 47, 48, 49, 55, 60, 62, 70] [56, 57, 58, 59, 67, 68, 69] F0 G0 F' G') := by
  unfold mb_element_121
  refine PP.ix (fun _ => ?_)
  unfold mb_element_123
  refine PP.ret ?_
  exact (KX.g (k := 59) rfl hK)
theorem mwj_element_62 {fu : Nat} (rc : RC) (ih : mKI1 rc) {F0 : PF} {G0 : PG} (x2 : Int32) (x3 : Int32) (x4 : Int32) (z0 : Int32) (F : PF) (G : PG) (hK : KX [42, 43, 44, 45, 47, 48, 49, 55, 60, 62, 70] [56, 57, 58, 59, 67, 68, 69] F0 G0 F G) : PP (mb_element_62 fu rc x2 x3 x4 z0 F G) (fun _ F' G' => KX [42, 43, 44, 45, 47, 48, 49, 55, 60, 62, 70] [56, 57, 58, 59, 67, 68, 69] F0 G0 F' G') := by
  unfold mb_element_62
  refine PP.bind (mw_openSign (24 : Int32) F G) ?_
  intro r1 F1 G1 hK1
  dsimp only
  unfold mb_element_70
  refine PP.ite (fun c_2 => ?_) (fun c_2 => ?_)
  · skip
    exact mwj_element_89 rc ih F1 G1 (KX.tr hK hK1 rfl rfl)
  · skip
    unfold mb_element_73
    refine PP.bind (ih 4 0 0 F1 G1) ?_
    intro r3 F3 G3 hK3
    dsimp only
    unfold mb_element_77
    refine PP.ite (fun c_4 => ?_) (fun c_4 => ?_)
    · skip
      exact mwj_element_89 rc ih F3 G3 (KX.tr (KX.tr hK hK1 rfl rfl) hK3 rfl rfl)
    · skip
      unfold mb_element_80
      refine PP.bind (mw_closeSign (25 : Int32) F3 G3) ?_
      intro r5 F5 G5 hK5
      dsimp only
      unfold mb_element_86
      refine PP.ite (fun c_6 => ?_) (fun c_6 => ?_)
      · skip
        exact mwj_element_89 rc ih F5 G5 (KX.tr (KX.tr (KX.tr hK hK1 rfl rfl) hK3 rfl rfl) hK5 rfl rfl)
      · skip
        unfold mb_element_91
        refine PP.bind (mw_step (6 : Int32) x3 x4 F5 G5) ?_
        intro r7 F7 G7 hK7
        dsimp only
        unfold mb_element_100
        refine PP.ite (fun c_8 => ?_) (fun c_8 => ?_)
        · skip
          unfold mb_element_120
          exact mwj_element_121 rc ih (0 : Int32) ((2 : Int32) * x2) r7 F7 G7 (KX.tr (KX.tr (KX.tr (KX.tr hK hK1 rfl rfl) hK3 rfl rfl) hK5 rfl rfl) hK7 rfl rfl)
        · skip
          unfold mb_element_116
          exact mwj_element_121 rc ih (1 : Int32) ((2 : Int32) * x2) r7 F7 G7 (KX.tr (KX.tr (KX.tr (KX.tr hK hK1 rfl rfl) hK3 rfl rfl) hK5 rfl rfl) hK7 rfl rfl)
theorem mwj_element_61 {fu : Nat} (rc : RC) (ih : mKI1 rc) {F0 : PF} {G0 : PG} (x2 : Int32) (x3 : Int32) (x4 : Int32) (F : PF) (G : PG) (hK : KX [42, 43, 44, 45, 47, 48, 49, 55, 60, 62, 70] [56, 57, 58, 59, 67, 68, 69] F0 G0 F G) : PP (mb_element_61 fu rc x2 x3 x4 F G) (fun _ F' G' => KX [42, 43, 44, 45, 47, 48, 49, 55, 60, 62, 70] [56, 57, 58, 59, 67, 68, 69] F0 G0 F' G') := by
  unfold mb_element_61
  exact mwj_element_62 rc ih x2 x3 x4 (0 : Int32) F G hK
theorem mwj_element_41 {fu : Nat} (rc : RC) (ih : mKI1 rc) {F0 : PF} {G0 : PG} (x1 : Int32) (x2 : Int32) (x3 : Int32) (z0 : Int32) (F : PF) (G : PG) (hK : KX [42, 43, 44, 45, 47, 48, 49, 55, 60, 62, 70] [56, 57, 58, 59, 67, 68, 69] F0 G0 F G) : PP (mb_element_41 fu rc x1 x2 x3 z0 F G) (fun _ F' G' => KX [42, 43, 44, 45, 47, 48, 49, 55, 60, 62, 70] [56, 57, 58, 59, 67, 68, 69] F0 G0 F' G') := by
  unfold mb_element_41
  refine PP.ite (fun c_1 => ?_) (fun c_1 => ?_)
  · skip
    exact mwj_element_61 rc ih x2 x3 z0 F G hK
  · skip
    unfold mb_element_48
    refine PP.ix (fun _ => ?_)
    refine PP.ite (fun c_2 => ?_) (fun c_2 => ?_)
    · skip
      exact mwj_element_61 rc ih x2 x3 z0 F G hK
    · skip
      unfold mb_element_57
      exact mwj_element_62 rc ih x2 x3 z0 (1 : Int32) F G hK
theorem mwj_element_25 {fu : Nat} (rc : RC) (ih : mKI1 rc) {F0 : PF} {G0 : PG} (x1 : Int32) (x2 : Int32) (z0 : Int32) (F : PF) (G : PG) (hK : KX [42, 43, 44, 45, 47, 48, 49, 55, 60, 62, 70] [56, 57, 58, 59, 67, 68, 69] F0 G0 F G) : PP (mb_element_25 fu rc x1 x2 z0 F G) (fun _ F' G' => KX [42, 43, 44, 45, 47, 48, 49, 55, 60, 62, 70] [56, 57, 58, 59, 67, 68, 69] F0 G0 F' G') := by
  unfold mb_element_25
  refine PP.ite (fun c_1 => ?_) (fun c_1 => ?_)
  · skip
    unfold mb_element_31
    exact mwj_element_41 rc ih x1 x2 z0 (1 : Int32) F G hK
  · skip
    unfold mb_element_35
    refine PP.ix (fun _ => ?_)
    exact mwj_element_41 rc ih x1 x2 z0 (G 21 x1.toNatClampNeg) F G hK
theorem mwt_element {fu : Nat} (rc : RC) (ih : mKI1 rc) (x1 : Int32) (F : PF) (G : PG) : PP (mh_element fu rc x1 F G) (fun _ F' G' => KX [42, 43, 44, 45, 47, 48, 49, 55, 60, 62, 70] [56, 57, 58, 59, 67, 68, 69] F G F' G') := by
  unfold mh_element
  unfold mb_element_0
  refine PP.ix (fun _ => ?_)
  refine PP.ite (fun c_1 => ?_) (fun c_1 => ?_)
  · skip
    unfold mb_element_15
    exact mwj_element_25 rc ih x1 (G 6 (F 42).toNatClampNeg) (0 : Int32) F G KX.rf
  · skip
    unfold mb_element_19
    refine PP.ix (fun _ => ?_)
    exact mwj_element_25 rc ih x1 (G 6 (F 42).toNatClampNeg) (G 20 x1.toNatClampNeg) F G KX.rf
theorem mwj_expression_54 {fu : Nat} (rc : RC) (ih : mKI1 rc) {F0 : PF} {G0 : PG} (F : PF) (G : PG) (hK : KX [42, 43, 44, 45, 47, 48, 49, 55, 60, 62, 70] [56, 57, 58, 59, 67, 68, 69] F0 G0 F G) : PP (mb_expression_54 fu rc F G) (fun _ F' G' => KX [42, 43, 44, 45, 47, 48, 49, 55, 60, 62, 70] [56, 57, 58, 59, 67, 68, 69] F0 G0 F' G') := by
  unfold mb_expression_54
  refine PP.ret ?_
  exact hK
theorem mwt_expression {fu : Nat} (rc : RC) (ih : mKI1 rc) (F : PF) (G : PG) : PP (mh_expression fu rc F G) (fun _ F' G' => KX [42, 43, 44, 45, 47, 48, 49, 55, 60, 62, 70] [56, 57, 58, 59, 67, 68, 69] F G F' G') := by
  unfold mh_expression
  unfold mb_expression_0
  refine PP.bind (ih 2 0 0 F G) ?_
  intro r1 F1 G1 hK1
  dsimp only
  unfold mb_expression_4
  refine PP.ite (fun c_2 => ?_) (fun c_2 => ?_)
  · skip
    unfold mb_expression_7
    refine PP.ret ?_
    exact (KX.tr KX.rf hK1 rfl rfl)
  · skip
    unfold mb_expression_9
    refine PP.bind (mw_isSign (30 : Int32) F1 G1) ?_
    intro r3 F3 G3 hK3
    dsimp only
    unfold mb_expression_15
    refine PP.ite (fun c_4 => ?_) (fun c_4 => ?_)
    · skip
      unfold mb_expression_18
      refine PP.ret ?_
      exact (KX.tr (KX.tr KX.rf hK1 rfl rfl) hK3 rfl rfl)
    · skip
      unfold mb_expression_20
      refine PP.bind (mw_opens F3 G3) ?_
      intro r5 F5 G5 hK5
      dsimp only
      unfold mb_expression_24
      refine PP.ite (fun c_6 => ?_) (fun c_6 => ?_)
      · skip
        unfold mb_expression_27
        refine PP.ret ?_
        exact (KX.tr (KX.tr (KX.tr KX.rf hK1 rfl rfl) hK3 rfl rfl) hK5 rfl rfl)
      · skip
        unfold mb_expression_29
        refine PP.bind (mw_step (13 : Int32) (0 : Int32) (0 : Int32) F5 G5) ?_
        intro r7 F7 G7 hK7
        dsimp only
        unfold mb_expression_37
        refine PP.bind (ih 4 0 0 F7 G7) ?_
        intro r8 F8 G8 hK8
        dsimp only
        unfold mb_expression_42
        refine PP.ite (fun c_9 => ?_) (fun c_9 => ?_)
        · skip
          exact mwj_expression_54 rc ih F8 G8 (KX.tr (KX.tr (KX.tr (KX.tr (KX.tr KX.rf hK1 rfl rfl) hK3 rfl rfl) hK5 rfl rfl) hK7 rfl rfl) hK8 rfl rfl)
        · skip
          unfold mb_expression_45
          refine PP.bind (mw_sign (31 : Int32) F8 G8) ?_
          intro r10 F10 G10 hK10
          dsimp only
          unfold mb_expression_51
          refine PP.ite (fun c_11 => ?_) (fun c_11 => ?_)
          · skip
            exact mwj_expression_54 rc ih F10 G10 (KX.tr (KX.tr (KX.tr (KX.tr (KX.tr (KX.tr KX.rf hK1 rfl rfl) hK3 rfl rfl) hK5 rfl rfl) hK7 rfl rfl) hK8 rfl rfl) hK10 rfl rfl)
          · skip
            unfold mb_expression_56
            refine PP.bind (mw_step (12 : Int32) (0 : Int32) (0 : Int32) F10 G10) ?_
            intro r12 F12 G12 hK12
            dsimp only
            unfold mb_expression_64
            refine PP.ix (fun _ => ?_)
            unfold mb_expression_75
            refine PP.bind (ih 4 0 0 F12 (gup G12 57 r7.toNatClampNeg (F12 60))) ?_
            intro r13 F13 G13 hK13
            dsimp only
            unfold mb_expression_79
            refine PP.ite (fun c_14 => ?_) (fun c_14 => ?_)
            · skip
              unfold mb_expression_82
              refine PP.ret ?_
              exact (KX.tr (KX.g (k := 57) rfl (KX.tr (KX.tr (KX.tr (KX.tr (KX.tr (KX.tr (KX.tr KX.rf hK1 rfl rfl) hK3 rfl rfl) hK5 rfl rfl) hK7 rfl rfl) hK8 rfl rfl) hK10 rfl rfl) hK12 rfl rfl)) hK13 rfl rfl)
            · skip
              unfold mb_expression_84
              refine PP.ix (fun _ => ?_)
              unfold mb_expression_94
              unfold mb_expression_104
              refine PP.ret ?_
              exact (KX.f (k := 43) rfl (KX.g (k := 57) rfl (KX.tr (KX.g (k := 57) rfl (KX.tr (KX.tr (KX.tr (KX.tr (KX.tr (KX.tr (KX.tr KX.rf hK1 rfl rfl) hK3 rfl rfl) hK5 rfl rfl) hK7 rfl rfl) hK8 rfl rfl) hK10 rfl rfl) hK12 rfl rfl)) hK13 rfl rfl)))
theorem mwj_inConstant_248 {fu : Nat} (rc : RC) (ih : mKI1 rc) {F0 : PF} {G0 : PG} (F : PF) (G : PG) (hK : KX [42, 43, 44, 45, 47, 48, 49, 55, 60, 62, 70] [56, 57, 58, 59, 67, 68, 69] F0 G0 F G) : PP (mb_inConstant_248 fu rc F G) (fun _ F' G' => KX [42, 43, 44, 45, 47, 48, 49, 55, 60, 62, 70] [56, 57, 58, 59, 67, 68, 69] F0 G0 F' G') := by
  unfold mb_inConstant_248
  refine PP.ret ?_
  exact hK
theorem mwj_inConstant_243 {fu : Nat} (rc : RC) (ih : mKI1 rc) {F0 : PF} {G0 : PG} (z0 : Int32) (z1 : Int32) (F : PF) (G : PG) (hK : KX [42, 43, 44, 45, 47, 48, 49, 55, 60, 62, 70] [56, 57, 58, 59, 67, 68, 69] F0 G0 F G) : PP (mb_inConstant_243 fu rc z0 z1 F G) (fun _ F' G' => KX [42, 43, 44, 45, 47, 48, 49, 55, 60, 62, 70] [56, 57, 58, 59, 67, 68, 69] F0 G0 F' G') := by
  unfold mb_inConstant_243
  refine PP.bind (mw_step z1 z0 (0 : Int32) F G) ?_
  intro r1 F1 G1 hK1
  dsimp only
  unfold mb_inConstant_247
  exact mwj_inConstant_248 rc ih F1 G1 (KX.tr hK hK1 rfl rfl)
theorem mwj_inConstant_221 {fu : Nat} (rc : RC) (ih : mKI1 rc) {F0 : PF} {G0 : PG} (x2 : Int32) (x4 : Int32) (x5 : Int32) (F : PF) (G : PG) (hK : KX [42, 43, 44, 45, 47, 48, 49, 55, 60, 62, 70] [56, 57, 58, 59, 67, 68, 69] F0 G0 F G) : PP (mb_inConstant_221 fu rc x2 x4 x5 F G) (fun _ F' G' => KX [42, 43, 44, 45, 47, 48, 49, 55, 60, 62, 70] [56, 57, 58, 59, 67, 68, 69] F0 G0 F' G') := by
  unfold mb_inConstant_221
  refine PP.ite (fun c_1 => ?_) (fun c_1 => ?_)
  · skip
    unfold mb_inConstant_226
    refine PP.ite (fun c_2 => ?_) (fun c_2 => ?_)
    · skip
      unfold mb_inConstant_242
      exact mwj_inConstant_243 rc ih (0 : Int32) (0 : Int32) F G hK
    · skip
      unfold mb_inConstant_233
      refine PP.ix (fun _ => ?_)
      exact mwj_inConstant_243 rc ih (G 20 x2.toNatClampNeg) (0 : Int32) F G hK
  · skip
    exact mwj_inConstant_248 rc ih F G hK
theorem mwj_inConstant_182 {fu : Nat} (rc : RC) (ih : mKI1 rc) {F0 : PF} {G0 : PG} (x2 : Int32) (x4 : Int32) (x5 : Int32) (F : PF) (G : PG) (hK : KX [42, 43, 44, 45, 47, 48, 49, 55, 60, 62, 70] [56, 57, 58, 59, 67, 68, 69] F0 G0 F G) : PP (mb_inConstant_182 fu rc x2 x4 x5 F G) (fun _ F' G' => KX [42, 43, 44, 45, 47, 48, 49, 55, 60, 62, 70] [56, 57, 58, 59, 67, 68, 69] F0 G0 F' G') := by
  unfold mb_inConstant_182
  refine PP.bind (mw_isSign (24 : Int32) F G) ?_
  intro r1 F1 G1 hK1
  dsimp only
  unfold mb_inConstant_188
  refine PP.ite (fun c_2 => ?_) (fun c_2 => ?_)
  · skip
    exact mwj_inConstant_221 rc ih x2 x4 x5 F1 G1 (KX.tr hK hK1 rfl rfl)
  · skip
    unfold mb_inConstant_191
    refine PP.ite (fun c_3 => ?_) (fun c_3 => ?_)
    · skip
      exact mwj_inConstant_221 rc ih x2 x4 x5 F1 G1 (KX.tr hK hK1 rfl rfl)
    · skip
      unfold mb_inConstant_196
      refine PP.ix (fun _ => ?_)
      refine PP.ite (fun c_4 => ?_) (fun c_4 => ?_)
      · skip
        unfold mb_inConstant_211
        refine PP.bind (ih 3 (-1 : Int32) 0 F1 G1) ?_
        intro r5 F5 G5 hK5
        dsimp only
        unfold mb_inConstant_216
        refine PP.ite (fun c_6 => ?_) (fun c_6 => ?_)
        · skip
          unfold mb_inConstant_219
          refine PP.ret ?_
          exact (KX.tr (KX.tr hK hK1 rfl rfl) hK5 rfl rfl)
        · skip
          exact mwj_inConstant_221 rc ih x2 x4 x5 F5 G5 (KX.tr (KX.tr hK hK1 rfl rfl) hK5 rfl rfl)
      · skip
        exact mwj_inConstant_221 rc ih x2 x4 x5 F1 G1 (KX.tr hK hK1 rfl rfl)
theorem mwj_inConstant_162 {fu : Nat} (rc : RC) (ih : mKI1 rc) {F0 : PF} {G0 : PG} (x1 : Int32) (x2 : Int32) (x4 : Int32) (x5 : Int32) (F : PF) (G : PG) (hK : KX [42, 43, 44, 45, 47, 48, 49, 55, 60, 62, 70] [56, 57, 58, 59, 67, 68, 69] F0 G0 F G) : PP (mb_inConstant_162 fu rc x1 x2 x4 x5 F G) (fun _ F' G' => KX [42, 43, 44, 45, 47, 48, 49, 55, 60, 62, 70] [56, 57, 58, 59, 67, 68, 69] F0 G0 F' G') := by
  unfold mb_inConstant_162
  refine PP.bind (mw_isSign (22 : Int32) F G) ?_
  intro r1 F1 G1 hK1
  dsimp only
  unfold mb_inConstant_168
  refine PP.ite (fun c_2 => ?_) (fun c_2 => ?_)
  · skip
    exact mwj_inConstant_182 rc ih x2 x4 x5 F1 G1 (KX.tr hK hK1 rfl rfl)
  · skip
    unfold mb_inConstant_171
    refine PP.bind (ih 1 x1 (0 : Int32) F1 G1) ?_
    intro r3 F3 G3 hK3
    dsimp only
    unfold mb_inConstant_177
    refine PP.ite (fun c_4 => ?_) (fun c_4 => ?_)
    · skip
      unfold mb_inConstant_180
      refine PP.ret ?_
      exact (KX.tr (KX.tr hK hK1 rfl rfl) hK3 rfl rfl)
    · skip
      exact mwj_inConstant_182 rc ih x2 x4 x5 F3 G3 (KX.tr (KX.tr hK hK1 rfl rfl) hK3 rfl rfl)
theorem mwj_inConstant_157 {fu : Nat} (rc : RC) (ih : mKI1 rc) {F0 : PF} {G0 : PG} (x1 : Int32) (x2 : Int32) (x4 : Int32) (x5 : Int32) (F : PF) (G : PG) (hK : KX [42, 43, 44, 45, 47, 48, 49, 55, 60, 62, 70] [56, 57, 58, 59, 67, 68, 69] F0 G0 F G) : PP (mb_inConstant_157 fu rc x1 x2 x4 x5 F G) (fun _ F' G' => KX [42, 43, 44, 45, 47, 48, 49, 55, 60, 62, 70] [56, 57, 58, 59, 67, 68, 69] F0 G0 F' G') := by
  unfold mb_inConstant_157
  exact mwj_inConstant_162 rc ih x1 x2 x4 x5 (fup F 55 (1 : Int32)) G (KX.f (k := 55) rfl hK)
theorem mwj_inConstant_137 {fu : Nat} (rc : RC) (ih : mKI1 rc) {F0 : PF} {G0 : PG} (x1 : Int32) (x2 : Int32) (x4 : Int32) (x5 : Int32) (F : PF) (G : PG) (hK : KX [42, 43, 44, 45, 47, 48, 49, 55, 60, 62, 70] [56, 57, 58, 59, 67, 68, 69] F0 G0 F G) : PP (mb_inConstant_137 fu rc x1 x2 x4 x5 F G) (fun _ F' G' => KX [42, 43, 44, 45, 47, 48, 49, 55, 60, 62, 70] [56, 57, 58, 59, 67, 68, 69] F0 G0 F' G') := by
  unfold mb_inConstant_137
  refine PP.ite (fun c_1 => ?_) (fun c_1 => ?_)
  · skip
    exact mwj_inConstant_157 rc ih x1 x2 x4 x5 F G hK
  · skip
    unfold mb_inConstant_142
    refine PP.ite (fun c_2 => ?_) (fun c_2 => ?_)
    · skip
      unfold mb_inConstant_147
      refine PP.ix (fun _ => ?_)
      refine PP.ite (fun c_3 => ?_) (fun c_3 => ?_)
      · skip
        exact mwj_inConstant_157 rc ih x1 x2 x4 x5 F G hK
      · skip
        exact mwj_inConstant_162 rc ih x1 x2 x4 x5 F G hK
    · skip
      exact mwj_inConstant_157 rc ih x1 x2 x4 x5 F G hK
theorem mwj_inConstant_125 {fu : Nat} (rc : RC) (ih : mKI1 rc) {F0 : PF} {G0 : PG} (x1 : Int32) (x2 : Int32) (x4 : Int32) (x5 : Int32) (F : PF) (G : PG) (hK : KX [42, 43, 44, 45, 47, 48, 49, 55, 60, 62, 70] [56, 57, 58, 59, 67, 68, 69] F0 G0 F G) : PP (mb_inConstant_125 fu rc x1 x2 x4 x5 F G) (fun _ F' G' => KX [42, 43, 44, 45, 47, 48, 49, 55, 60, 62, 70] [56, 57, 58, 59, 67, 68, 69] F0 G0 F' G') := by
  unfold mb_inConstant_125
  refine PP.ix (fun _ => ?_)
  refine PP.bind (mw_note (10 : Int32) (G 6 x1.toNatClampNeg) F G) ?_
  intro r1 F1 G1 hK1
  dsimp only
  exact mwj_inConstant_137 rc ih x1 x2 x4 x5 F1 G1 (KX.tr hK hK1 rfl rfl)
theorem mwj_inConstant_104 {fu : Nat} (rc : RC) (ih : mKI1 rc) {F0 : PF} {G0 : PG} (x1 : Int32) (x2 : Int32) (x3 : Int32) (x4 : Int32) (x5 : Int32) (F : PF) (G : PG) (hK : KX [42, 43, 44, 45, 47, 48, 49, 55, 60, 62, 70] [56, 57, 58, 59, 67, 68, 69] F0 G0 F G) : PP (mb_inConstant_104 fu rc x1 x2 x3 x4 x5 F G) (fun _ F' G' => KX [42, 43, 44, 45, 47, 48, 49, 55, 60, 62, 70] [56, 57, 58, 59, 67, 68, 69] F0 G0 F' G') := by
  unfold mb_inConstant_104
  refine PP.ite (fun c_1 => ?_) (fun c_1 => ?_)
  · skip
    exact mwj_inConstant_137 rc ih x1 x2 x4 x5 F G hK
  · skip
    unfold mb_inConstant_111
    refine PP.ite (fun c_2 => ?_) (fun c_2 => ?_)
    · skip
      unfold mb_inConstant_115
      refine PP.ite (fun c_3 => ?_) (fun c_3 => ?_)
      · skip
        exact mwj_inConstant_125 rc ih x1 x2 x4 x5 F G hK
      · skip
        unfold mb_inConstant_120
        refine PP.ite (fun c_4 => ?_) (fun c_4 => ?_)
        · skip
          exact mwj_inConstant_137 rc ih x1 x2 x4 x5 F G hK
        · skip
          exact mwj_inConstant_125 rc ih x1 x2 x4 x5 F G hK
    · skip
      exact mwj_inConstant_137 rc ih x1 x2 x4 x5 F G hK
theorem mwj_inConstant_80 {fu : Nat} (rc : RC) (ih : mKI1 rc) {F0 : PF} {G0 : PG} (x1 : Int32) (x2 : Int32) (x3 : Int32) (x4 : Int32) (z0 : Int32) (F : PF) (G : PG) (hK : KX [42, 43, 44, 45, 47, 48, 49, 55, 60, 62, 70] [56, 57, 58, 59, 67, 68, 69] F0 G0 F G) : PP (mb_inConstant_80 fu rc x1 x2 x3 x4 z0 F G) (fun _ F' G' => KX [42, 43, 44, 45, 47, 48, 49, 55, 60, 62, 70] [56, 57, 58, 59, 67, 68, 69] F0 G0 F' G') := by
  unfold mb_inConstant_80
  refine PP.ite (fun c_1 => ?_) (fun c_1 => ?_)
  · skip
    exact mwj_inConstant_104 rc ih x1 x2 x3 x4 z0 F G hK
  · skip
    unfold mb_inConstant_89
    refine PP.ite (fun c_2 => ?_) (fun c_2 => ?_)
    · skip
      exact mwj_inConstant_104 rc ih x1 x2 x3 x4 z0 F G hK
    · skip
      unfold mb_inConstant_93
      refine PP.ix (fun _ => ?_)
      refine PP.bind (mw_note (4 : Int32) (G 6 x1.toNatClampNeg) F G) ?_
      intro r3 F3 G3 hK3
      dsimp only
      exact mwj_inConstant_104 rc ih x1 x2 x3 x4 z0 F3 G3 (KX.tr hK hK3 rfl rfl)
theorem mwj_inConstant_79 {fu : Nat} (rc : RC) (ih : mKI1 rc) {F0 : PF} {G0 : PG} (x1 : Int32) (x2 : Int32) (x3 : Int32) (x4 : Int32) (F : PF) (G : PG) (hK : KX [42, 43, 44, 45, 47, 48, 49, 55, 60, 62, 70] [56, 57, 58, 59, 67, 68, 69] F0 G0 F G) : PP (mb_inConstant_79 fu rc x1 x2 x3 x4 F G) (fun _ F' G' => KX [42, 43, 44, 45, 47, 48, 49, 55, 60, 62, 70] [56, 57, 58, 59, 67, 68, 69] F0 G0 F' G') := by
  unfold mb_inConstant_79
  exact mwj_inConstant_80 rc ih x1 x2 x3 x4 (0 : Int32) F G hK
theorem mwj_inConstant_59 {fu : Nat} (rc : RC) (ih : mKI1 rc) {F0 : PF} {G0 : PG} (x1 : Int32) (x2 : Int32) (x3 : Int32) (z0 : Int32) (F : PF) (G : PG) (hK : KX [42, 43, 44, 45, 47, 48, 49, 55, 60, 62, 70] [56, 57, 58, 59, 67, 68, 69] F0 G0 F G) : PP (mb_inConstant_59 fu rc x1 x2 x3 z0 F G) (fun _ F' G' => KX [42, 43, 44, 45, 47, 48, 49, 55, 60, 62, 70] [56, 57, 58, 59, 67, 68, 69] F0 G0 F' G') := by
  unfold mb_inConstant_59
  refine PP.ite (fun c_1 => ?_) (fun c_1 => ?_)
  · skip
    exact mwj_inConstant_79 rc ih x1 x2 x3 z0 F G hK
  · skip
    unfold mb_inConstant_66
    refine PP.ix (fun _ => ?_)
    refine PP.ite (fun c_2 => ?_) (fun c_2 => ?_)
    · skip
      unfold mb_inConstant_75
      exact mwj_inConstant_80 rc ih x1 x2 x3 z0 (1 : Int32) F G hK
    · skip
      exact mwj_inConstant_79 rc ih x1 x2 x3 z0 F G hK
theorem mwj_inConstant_54 {fu : Nat} (rc : RC) (ih : mKI1 rc) {F0 : PF} {G0 : PG} (x1 : Int32) (x2 : Int32) (x3 : Int32) (F : PF) (G : PG) (hK : KX [42, 43, 44, 45, 47, 48, 49, 55, 60, 62, 70] [56, 57, 58, 59, 67, 68, 69] F0 G0 F G) : PP (mb_inConstant_54 fu rc x1 x2 x3 F G) (fun _ F' G' => KX [42, 43, 44, 45, 47, 48, 49, 55, 60, 62, 70] [56, 57, 58, 59, 67, 68, 69] F0 G0 F' G') := by
  unfold mb_inConstant_54
  exact mwj_inConstant_59 rc ih x1 x2 x3 (1 : Int32) F G hK
theorem mwj_inConstant_35 {fu : Nat} (rc : RC) (ih : mKI1 rc) {F0 : PF} {G0 : PG} (x1 : Int32) (x2 : Int32) (z0 : Int32) (F : PF) (G : PG) (hK : KX [42, 43, 44, 45, 47, 48, 49, 55, 60, 62, 70] [56, 57, 58, 59, 67, 68, 69] F0 G0 F G) : PP (mb_inConstant_35 fu rc x1 x2 z0 F G) (fun _ F' G' => KX [42, 43, 44, 45, 47, 48, 49, 55, 60, 62, 70] [56, 57, 58, 59, 67, 68, 69] F0 G0 F' G') := by
  unfold mb_inConstant_35
  refine PP.bind (mw_isSign (24 : Int32) F G) ?_
  intro r1 F1 G1 hK1
  dsimp only
  unfold mb_inConstant_42
  refine PP.ite (fun c_2 => ?_) (fun c_2 => ?_)
  · skip
    unfold mb_inConstant_45
    refine PP.bind (mw_isSign (22 : Int32) F1 G1) ?_
    intro r3 F3 G3 hK3
    dsimp only
    unfold mb_inConstant_51
    refine PP.ite (fun c_4 => ?_) (fun c_4 => ?_)
    · skip
      unfold mb_inConstant_58
      exact mwj_inConstant_59 rc ih x1 x2 z0 (0 : Int32) F3 G3 (KX.tr (KX.tr hK hK1 rfl rfl) hK3 rfl rfl)
    · skip
      exact mwj_inConstant_54 rc ih x1 x2 z0 F3 G3 (KX.tr (KX.tr hK hK1 rfl rfl) hK3 rfl rfl)
  · skip
    exact mwj_inConstant_54 rc ih x1 x2 z0 F1 G1 (KX.tr hK hK1 rfl rfl)
theorem mwj_inConstant_34 {fu : Nat} (rc : RC) (ih : mKI1 rc) {F0 : PF} {G0 : PG} (x1 : Int32) (x2 : Int32) (F : PF) (G : PG) (hK : KX [42, 43, 44, 45, 47, 48, 49, 55, 60, 62, 70] [56, 57, 58, 59, 67, 68, 69] F0 G0 F G) : PP (mb_inConstant_34 fu rc x1 x2 F G) (fun _ F' G' => KX [42, 43, 44, 45, 47, 48, 49, 55, 60, 62, 70] [56, 57, 58, 59, 67, 68, 69] F0 G0 F' G') := by
  unfold mb_inConstant_34
  exact mwj_inConstant_35 rc ih x1 x2 (0 : Int32) F G hK
theorem mwj_inConstant_16 {fu : Nat} (rc : RC) (ih : mKI1 rc) {F0 : PF} {G0 : PG} (x1 : Int32) (z0 : Int32) (F : PF) (G : PG) (hK : KX [42, 43, 44, 45, 47, 48, 49, 55, 60, 62, 70] [56, 57, 58, 59, 67, 68, 69] F0 G0 F G) : PP (mb_inConstant_16 fu rc x1 z0 F G) (fun _ F' G' => KX [42, 43, 44, 45, 47, 48, 49, 55, 60, 62, 70] [56, 57, 58, 59, 67, 68, 69] F0 G0 F' G') := by
  unfold mb_inConstant_16
  refine PP.ite (fun c_1 => ?_) (fun c_1 => ?_)
  · skip
    unfold mb_inConstant_22
    refine PP.ite (fun c_2 => ?_) (fun c_2 => ?_)
    · skip
      unfold mb_inConstant_30
      exact mwj_inConstant_35 rc ih x1 z0 (1 : Int32) F G hK
    · skip
      exact mwj_inConstant_34 rc ih x1 z0 F G hK
  · skip
    exact mwj_inConstant_34 rc ih x1 z0 F G hK
theorem mwt_inConstant {fu : Nat} (rc : RC) (ih : mKI1 rc) (x1 : Int32) (F : PF) (G : PG) : PP (mh_inConstant fu rc x1 F G) (fun _ F' G' => KX [42, 43, 44, 45, 47, 48, 49, 55, 60, 62, 70] [56, 57, 58, 59, 67, 68, 69] F G F' G') := by
  unfold mh_inConstant
  unfold mb_inConstant_0
  refine PP.ite (fun c_1 => ?_) (fun c_1 => ?_)
  · skip
    unfold mb_inConstant_7
    exact mwj_inConstant_16 rc ih x1 (-1 : Int32) F G KX.rf
  · skip
    unfold mb_inConstant_11
    refine PP.bind (mw_meaning x1 F G) ?_
    intro r2 F2 G2 hK2
    dsimp only
    exact mwj_inConstant_16 rc ih x1 r2 F2 G2 (KX.tr KX.rf hK2 rfl rfl)
theorem mwj_named_212 {fu : Nat} (rc : RC) (ih : mKI1 rc) {F0 : PF} {G0 : PG} (F : PF) (G : PG) (hK : KX [42, 43, 44, 45, 47, 48, 49, 55, 60, 62, 70] [56, 57, 58, 59, 67, 68, 69] F0 G0 F G) : PP (mb_named_212 fu rc F G) (fun _ F' G' => KX [42, 43, 44, 45, 47, 48, 49, 55, 60, 62, 70] [56, 57, 58, 59, 67, 68, 69] F0 G0 F' G') := by
  unfold mb_named_212
  refine PP.ret ?_
  exact hK
theorem mwj_named_207 {fu : Nat} (rc : RC) (ih : mKI1 rc) {F0 : PF} {G0 : PG} (z0 : Int32) (z1 : Int32) (F : PF) (G : PG) (hK : KX [42, 43, 44, 45, 47, 48, 49, 55, 60, 62, 70] [56, 57, 58, 59, 67, 68, 69] F0 G0 F G) : PP (mb_named_207 fu rc z0 z1 F G) (fun _ F' G' => KX [42, 43, 44, 45, 47, 48, 49, 55, 60, 62, 70] [56, 57, 58, 59, 67, 68, 69] F0 G0 F' G') := by
  unfold mb_named_207
  refine PP.bind (mw_step z1 z0 (0 : Int32) F G) ?_
  intro r1 F1 G1 hK1
  dsimp only
  unfold mb_named_211
  exact mwj_named_212 rc ih F1 G1 (KX.tr hK hK1 rfl rfl)
theorem mwj_named_192 {fu : Nat} (rc : RC) (ih : mKI1 rc) {F0 : PF} {G0 : PG} (x2 : Int32) (z0 : Int32) (F : PF) (G : PG) (hK : KX [42, 43, 44, 45, 47, 48, 49, 55, 60, 62, 70] [56, 57, 58, 59, 67, 68, 69] F0 G0 F G) : PP (mb_named_192 fu rc x2 z0 F G) (fun _ F' G' => KX [42, 43, 44, 45, 47, 48, 49, 55, 60, 62, 70] [56, 57, 58, 59, 67, 68, 69] F0 G0 F' G') := by
  unfold mb_named_192
  refine PP.ite (fun c_1 => ?_) (fun c_1 => ?_)
  · skip
    unfold mb_named_197
    exact mwj_named_207 rc ih (0 : Int32) z0 F G hK
  · skip
    unfold mb_named_201
    refine PP.ix (fun _ => ?_)
    exact mwj_named_207 rc ih (G 20 x2.toNatClampNeg) z0 F G hK
theorem mwj_named_191 {fu : Nat} (rc : RC) (ih : mKI1 rc) {F0 : PF} {G0 : PG} (x2 : Int32) (F : PF) (G : PG) (hK : KX [42, 43, 44, 45, 47, 48, 49, 55, 60, 62, 70] [56, 57, 58, 59, 67, 68, 69] F0 G0 F G) : PP (mb_named_191 fu rc x2 F G) (fun _ F' G' => KX [42, 43, 44, 45, 47, 48, 49, 55, 60, 62, 70] [56, 57, 58, 59, 67, 68, 69] F0 G0 F' G') := by
  unfold mb_named_191
  exact mwj_named_192 rc ih x2 (3 : Int32) F G hK
theorem mwj_named_172 {fu : Nat} (rc : RC) (ih : mKI1 rc) {F0 : PF} {G0 : PG} (x2 : Int32) (F : PF) (G : PG) (hK : KX [42, 43, 44, 45, 47, 48, 49, 55, 60, 62, 70] [56, 57, 58, 59, 67, 68, 69] F0 G0 F G) : PP (mb_named_172 fu rc x2 F G) (fun _ F' G' => KX [42, 43, 44, 45, 47, 48, 49, 55, 60, 62, 70] [56, 57, 58, 59, 67, 68, 69] F0 G0 F' G') := by
  unfold mb_named_172
  refine PP.ite (fun c_1 => ?_) (fun c_1 => ?_)
  · skip
    exact mwj_named_191 rc ih x2 F G hK
  · skip
    unfold mb_named_178
    refine PP.ix (fun _ => ?_)
    refine PP.ite (fun c_2 => ?_) (fun c_2 => ?_)
    · skip
      exact mwj_named_191 rc ih x2 F G hK
    · skip
      unfold mb_named_187
      exact mwj_named_192 rc ih x2 (1 : Int32) F G hK
theorem mwj_named_115 {fu : Nat} (rc : RC) (ih : mKI1 rc) {F0 : PF} {G0 : PG} (x2 : Int32) (x4 : Int32) (F : PF) (G : PG) (hK : KX [42, 43, 44, 45, 47, 48, 49, 55, 60, 62, 70] [56, 57, 58, 59, 67, 68, 69] F0 G0 F G) : PP (mb_named_115 fu rc x2 x4 F G) (fun _ F' G' => KX [42, 43, 44, 45, 47, 48, 49, 55, 60, 62, 70] [56, 57, 58, 59, 67, 68, 69] F0 G0 F' G') := by
  unfold mb_named_115
  refine PP.ite (fun c_1 => ?_) (fun c_1 => ?_)
  · skip
    unfold mb_named_142
    refine PP.ite (fun c_2 => ?_) (fun c_2 => ?_)
    · skip
      exact mwj_named_172 rc ih x2 F G hK
    · skip
      unfold mb_named_147
      refine PP.ix (fun _ => ?_)
      refine PP.ite (fun c_3 => ?_) (fun c_3 => ?_)
      · skip
        unfold mb_named_156
        refine PP.ix (fun _ => ?_)
        refine PP.bind (mw_step (0 : Int32) (G 20 x2.toNatClampNeg) (0 : Int32) F G) ?_
        intro r4 F4 G4 hK4
        dsimp only
        unfold mb_named_168
        exact mwj_named_212 rc ih F4 G4 (KX.tr hK hK4 rfl rfl)
      · skip
        exact mwj_named_172 rc ih x2 F G hK
  · skip
    unfold mb_named_120
    refine PP.bind (ih 3 x2 0 F G) ?_
    intro r5 F5 G5 hK5
    dsimp only
    unfold mb_named_125
    refine PP.ite (fun c_6 => ?_) (fun c_6 => ?_)
    · skip
      unfold mb_named_128
      refine PP.ret ?_
      exact (KX.tr hK hK5 rfl rfl)
    · skip
      unfold mb_named_130
      refine PP.bind (mw_step (7 : Int32) (0 : Int32) (0 : Int32) F5 G5) ?_
      intro r7 F7 G7 hK7
      dsimp only
      unfold mb_named_138
      exact mwj_named_212 rc ih F7 G7 (KX.tr (KX.tr hK hK5 rfl rfl) hK7 rfl rfl)
theorem mwj_named_103 {fu : Nat} (rc : RC) (ih : mKI1 rc) {F0 : PF} {G0 : PG} (x1 : Int32) (x2 : Int32) (x4 : Int32) (F : PF) (G : PG) (hK : KX [42, 43, 44, 45, 47, 48, 49, 55, 60, 62, 70] [56, 57, 58, 59, 67, 68, 69] F0 G0 F G) : PP (mb_named_103 fu rc x1 x2 x4 F G) (fun _ F' G' => KX [42, 43, 44, 45, 47, 48, 49, 55, 60, 62, 70] [56, 57, 58, 59, 67, 68, 69] F0 G0 F' G') := by
  unfold mb_named_103
  refine PP.ix (fun _ => ?_)
  refine PP.bind (mw_note (6 : Int32) (G 6 x1.toNatClampNeg) F G) ?_
  intro r1 F1 G1 hK1
  dsimp only
  exact mwj_named_115 rc ih x2 x4 F1 G1 (KX.tr hK hK1 rfl rfl)
theorem mwj_named_100 {fu : Nat} (rc : RC) (ih : mKI1 rc) {F0 : PF} {G0 : PG} (x1 : Int32) (x2 : Int32) (x4 : Int32) (z0 : Int32) (z1 : Int32) (F : PF) (G : PG) (hK : KX [42, 43, 44, 45, 47, 48, 49, 55, 60, 62, 70] [56, 57, 58, 59, 67, 68, 69] F0 G0 F G) : PP (mb_named_100 fu rc x1 x2 x4 z0 z1 F G) (fun _ F' G' => KX [42, 43, 44, 45, 47, 48, 49, 55, 60, 62, 70] [56, 57, 58, 59, 67, 68, 69] F0 G0 F' G') := by
  unfold mb_named_100
  refine PP.ite (fun c_1 => ?_) (fun c_1 => ?_)
  · skip
    exact mwj_named_115 rc ih x2 x4 F G hK
  · skip
    exact mwj_named_103 rc ih x1 x2 x4 F G hK
theorem mwj_named_51 {fu : Nat} (rc : RC) (ih : mKI1 rc) {F0 : PF} {G0 : PG} (x1 : Int32) (x2 : Int32) (z0 : Int32) (F : PF) (G : PG) (hK : KX [42, 43, 44, 45, 47, 48, 49, 55, 60, 62, 70] [56, 57, 58, 59, 67, 68, 69] F0 G0 F G) : PP (mb_named_51 fu rc x1 x2 z0 F G) (fun _ F' G' => KX [42, 43, 44, 45, 47, 48, 49, 55, 60, 62, 70] [56, 57, 58, 59, 67, 68, 69] F0 G0 F' G') := by
  unfold mb_named_51
  refine PP.bind (mw_isSign (24 : Int32) F G) ?_
  intro r1 F1 G1 hK1
  dsimp only
  unfold mb_named_58
  refine PP.ite (fun c_2 => ?_) (fun c_2 => ?_)
  · skip
    unfold mb_named_78
    refine PP.ite (fun c_3 => ?_) (fun c_3 => ?_)
    · skip
      exact mwj_named_103 rc ih x1 x2 r1 F1 G1 (KX.tr hK hK1 rfl rfl)
    · skip
      unfold mb_named_83
      refine PP.ix (fun _ => ?_)
      refine PP.ite (fun c_4 => ?_) (fun c_4 => ?_)
      · skip
        unfold mb_named_95
        exact mwj_named_100 rc ih x1 x2 r1 (1 : Int32) r1 F1 G1 (KX.tr hK hK1 rfl rfl)
      · skip
        unfold mb_named_99
        exact mwj_named_100 rc ih x1 x2 r1 (0 : Int32) r1 F1 G1 (KX.tr hK hK1 rfl rfl)
  · skip
    unfold mb_named_64
    refine PP.ix (fun _ => ?_)
    refine PP.bind (mw_note (4 : Int32) (G1 6 x1.toNatClampNeg) F1 G1) ?_
    intro r5 F5 G5 hK5
    dsimp only
    unfold mb_named_75
    exact mwj_named_115 rc ih x2 r1 F5 G5 (KX.tr (KX.tr hK hK1 rfl rfl) hK5 rfl rfl)
theorem mwj_named_50 {fu : Nat} (rc : RC) (ih : mKI1 rc) {F0 : PF} {G0 : PG} (x1 : Int32) (x2 : Int32) (F : PF) (G : PG) (hK : KX [42, 43, 44, 45, 47, 48, 49, 55, 60, 62, 70] [56, 57, 58, 59, 67, 68, 69] F0 G0 F G) : PP (mb_named_50 fu rc x1 x2 F G) (fun _ F' G' => KX [42, 43, 44, 45, 47, 48, 49, 55, 60, 62, 70] [56, 57, 58, 59, 67, 68, 69] F0 G0 F' G') := by
  unfold mb_named_50
  exact mwj_named_51 rc ih x1 x2 (0 : Int32) F G hK
theorem mwj_named_32 {fu : Nat} (rc : RC) (ih : mKI1 rc) {F0 : PF} {G0 : PG} (x1 : Int32) (z0 : Int32) (F : PF) (G : PG) (hK : KX [42, 43, 44, 45, 47, 48, 49, 55, 60, 62, 70] [56, 57, 58, 59, 67, 68, 69] F0 G0 F G) : PP (mb_named_32 fu rc x1 z0 F G) (fun _ F' G' => KX [42, 43, 44, 45, 47, 48, 49, 55, 60, 62, 70] [56, 57, 58, 59, 67, 68, 69] F0 G0 F' G') := by
  unfold mb_named_32
  refine PP.ite (fun c_1 => ?_) (fun c_1 => ?_)
  · skip
    unfold mb_named_38
    refine PP.ite (fun c_2 => ?_) (fun c_2 => ?_)
    · skip
      unfold mb_named_46
      exact mwj_named_51 rc ih x1 z0 (1 : Int32) F G hK
    · skip
      exact mwj_named_50 rc ih x1 z0 F G hK
  · skip
    exact mwj_named_50 rc ih x1 z0 F G hK
theorem mwt_named {fu : Nat} (rc : RC) (ih : mKI1 rc) (x1 : Int32) (F : PF) (G : PG) : PP (mh_named fu rc x1 F G) (fun _ F' G' => KX [42, 43, 44, 45, 47, 48, 49, 55, 60, 62, 70] [56, 57, 58, 59, 67, 68, 69] F G F' G') := by
  unfold mh_named
  unfold mb_named_0
  refine PP.bind (mw_isSign (22 : Int32) F G) ?_
  intro r1 F1 G1 hK1
  dsimp only
  unfold mb_named_6
  refine PP.ite (fun c_2 => ?_) (fun c_2 => ?_)
  · skip
    unfold mb_named_16
    refine PP.ite (fun c_3 => ?_) (fun c_3 => ?_)
    · skip
      unfold mb_named_23
      exact mwj_named_32 rc ih x1 (-1 : Int32) F1 G1 (KX.tr KX.rf hK1 rfl rfl)
    · skip
      unfold mb_named_27
      refine PP.bind (mw_meaning x1 F1 G1) ?_
      intro r4 F4 G4 hK4
      dsimp only
      exact mwj_named_32 rc ih x1 r4 F4 G4 (KX.tr (KX.tr KX.rf hK1 rfl rfl) hK4 rfl rfl)
  · skip
    unfold mb_named_9
    refine PP.bind (ih 1 x1 (1 : Int32) F1 G1) ?_
    intro r5 F5 G5 hK5
    dsimp only
    unfold mb_named_15
    refine PP.bz (fun _ => ?_)
    refine PP.ret ?_
    exact (KX.tr (KX.tr KX.rf hK1 rfl rfl) hK5 rfl rfl)
theorem mwz_operand_63 {fu : Nat} (rc : RC) (ih : mKI1 rc) {F0 : PF} {G0 : PG} : ∀ (n : Nat) (x1 : Int32) (x3 : Int32) (F : PF) (G : PG) (hK : KX [42, 43, 44, 45, 47, 48, 49, 55, 60, 62, 70] [56, 57, 58, 59, 67, 68, 69] F0 G0 F G), PP (ml_operand_63 fu rc n x1 x3 F G) (fun _ F' G' => KX [42, 43, 44, 45, 47, 48, 49, 55, 60, 62, 70] [56, 57, 58, 59, 67, 68, 69] F0 G0 F' G') := by
  intro n
  induction n with
  | zero =>
    intro x1 x3 F G hK
    exact PP.no
  | succ n ihn =>
    intro x1 x3 F G hK
    show PP (mb_operand_63 fu rc (ml_operand_63 fu rc n) x1 x3 F G) _
    unfold mb_operand_63
    refine PP.ite (fun c_1 => ?_) (fun c_1 => ?_)
    · skip
      unfold mb_operand_88
      refine PP.ret ?_
      exact hK
    · skip
      unfold mb_operand_68
      refine PP.ix (fun _ => ?_)
      refine PP.bind (mw_step (11 : Int32) (G 5 x3.toNatClampNeg) (0 : Int32) F G) ?_
      intro r2 F2 G2 hK2
      dsimp only
      unfold mb_operand_81
      exact ihn x1 (x3 + (-1 : Int32)) F2 G2 (KX.tr hK hK2 rfl rfl)
theorem mwj_operand_32 {fu : Nat} (rc : RC) (ih : mKI1 rc) {F0 : PF} {G0 : PG} (ag_5 : Int32 → PF → PG → PR) (hag_5 : ∀ (x1 : Int32) (F : PF) (G : PG) (hK : KX [42, 43, 44, 45, 47, 48, 49, 55, 60, 62, 70] [56, 57, 58, 59, 67, 68, 69] F0 G0 F G), PP (ag_5 x1 F G) (fun _ F' G' => KX [42, 43, 44, 45, 47, 48, 49, 55, 60, 62, 70] [56, 57, 58, 59, 67, 68, 69] F0 G0 F' G')) (x1 : Int32) (F : PF) (G : PG) (hK : KX [42, 43, 44, 45, 47, 48, 49, 55, 60, 62, 70] [56, 57, 58, 59, 67, 68, 69] F0 G0 F G) : PP (mb_operand_32 fu rc ag_5 x1 F G) (fun _ F' G' => KX [42, 43, 44, 45, 47, 48, 49, 55, 60, 62, 70] [56, 57, 58, 59, 67, 68, 69] F0 G0 F' G') := by
  unfold mb_operand_32
  unfold mb_operand_42
  exact hag_5 x1 (fup F 42 ((F 42) + (1 : Int32))) G (KX.f (k := 42) rfl hK)
theorem mwz_operand_5 {fu : Nat} (rc : RC) (ih : mKI1 rc) {F0 : PF} {G0 : PG} : ∀ (n : Nat) (x1 : Int32) (F : PF) (G : PG) (hK : KX [42, 43, 44, 45, 47, 48, 49, 55, 60, 62, 70] [56, 57, 58, 59, 67, 68, 69] F0 G0 F G), PP (ml_operand_5 fu rc n x1 F G) (fun _ F' G' => KX [42, 43, 44, 45, 47, 48, 49, 55, 60, 62, 70] [56, 57, 58, 59, 67, 68, 69] F0 G0 F' G') := by
  intro n
  induction n with
  | zero =>
    intro x1 F G hK
    exact PP.no
  | succ n ihn =>
    intro x1 F G hK
    show PP (mb_operand_5 fu rc (ml_operand_5 fu rc n) x1 F G) _
    unfold mb_operand_5
    refine PP.bind (mw_isSign (39 : Int32) F G) ?_
    intro r1 F1 G1 hK1
    dsimp only
    unfold mb_operand_11
    refine PP.ite (fun c_2 => ?_) (fun c_2 => ?_)
    · skip
      unfold mb_operand_14
      refine PP.bind (mw_isSign (43 : Int32) F1 G1) ?_
      intro r3 F3 G3 hK3
      dsimp only
      unfold mb_operand_20
      refine PP.ite (fun c_4 => ?_) (fun c_4 => ?_)
      · skip
        unfold mb_operand_23
        refine PP.bind (mw_isSign (44 : Int32) F3 G3) ?_
        intro r5 F5 G5 hK5
        dsimp only
        unfold mb_operand_29
        refine PP.ite (fun c_6 => ?_) (fun c_6 => ?_)
        · skip
          unfold mb_operand_45
          refine PP.bind (ih 8 0 0 F5 G5) ?_
          intro r7 F7 G7 hK7
          dsimp only
          unfold mb_operand_54
          refine PP.ite (fun c_8 => ?_) (fun c_8 => ?_)
          · skip
            unfold mb_operand_57
            refine PP.ret ?_
            exact (KX.tr (KX.tr (KX.tr (KX.tr hK hK1 rfl rfl) hK3 rfl rfl) hK5 rfl rfl) hK7 rfl rfl)
          · skip
            unfold mb_operand_59
            exact mwz_operand_63 rc ih fu x1 ((F5 42) - (1 : Int32)) F7 G7 (KX.tr (KX.tr (KX.tr (KX.tr hK hK1 rfl rfl) hK3 rfl rfl) hK5 rfl rfl) hK7 rfl rfl)
        · skip
          exact mwj_operand_32 rc ih (ml_operand_5 fu rc n) ihn x1 F5 G5 (KX.tr (KX.tr (KX.tr hK hK1 rfl rfl) hK3 rfl rfl) hK5 rfl rfl)
      · skip
        exact mwj_operand_32 rc ih (ml_operand_5 fu rc n) ihn x1 F3 G3 (KX.tr (KX.tr hK hK1 rfl rfl) hK3 rfl rfl)
    · skip
      exact mwj_operand_32 rc ih (ml_operand_5 fu rc n) ihn x1 F1 G1 (KX.tr hK hK1 rfl rfl)
theorem mwt_operand {fu : Nat} (rc : RC) (ih : mKI1 rc) (F : PF) (G : PG) : PP (mh_operand fu rc F G) (fun _ F' G' => KX [42, 43, 44, 45, 47, 48, 49, 55, 60, 62, 70] [56, 57, 58, 59, 67, 68, 69] F G F' G') := by
  unfold mh_operand
  unfold mb_operand_0
  exact mwz_operand_5 rc ih fu (F 42) F G KX.rf
theorem mwj_plain_210 {fu : Nat} (rc : RC) (ih : mKI1 rc) {F0 : PF} {G0 : PG} (z0 : Int32) (F : PF) (G : PG) (hK : KX [42, 43, 44, 45, 47, 48, 49, 55, 60, 62, 70] [56, 57, 58, 59, 67, 68, 69] F0 G0 F G) : PP (mb_plain_210 fu rc z0 F G) (fun _ F' G' => KX [42, 43, 44, 45, 47, 48, 49, 55, 60, 62, 70] [56, 57, 58, 59, 67, 68, 69] F0 G0 F' G') := by
  unfold mb_plain_210
  refine PP.bz (fun _ => ?_)
  refine PP.ret ?_
  exact hK
theorem mwj_plain_143 {fu : Nat} (rc : RC) (ih : mKI1 rc) {F0 : PF} {G0 : PG} (F : PF) (G : PG) (hK : KX [42, 43, 44, 45, 47, 48, 49, 55, 60, 62, 70] [56, 57, 58, 59, 67, 68, 69] F0 G0 F G) : PP (mb_plain_143 fu rc F G) (fun _ F' G' => KX [42, 43, 44, 45, 47, 48, 49, 55, 60, 62, 70] [56, 57, 58, 59, 67, 68, 69] F0 G0 F' G') := by
  unfold mb_plain_143
  refine PP.ret ?_
  exact hK
theorem mwj_plain_115 {fu : Nat} (rc : RC) (ih : mKI1 rc) {F0 : PF} {G0 : PG} (F : PF) (G : PG) (hK : KX [42, 43, 44, 45, 47, 48, 49, 55, 60, 62, 70] [56, 57, 58, 59, 67, 68, 69] F0 G0 F G) : PP (mb_plain_115 fu rc F G) (fun _ F' G' => KX [42, 43, 44, 45, 47, 48, 49, 55, 60, 62, 70] [56, 57, 58, 59, 67, 68, 69] F0 G0 F' G') := by
  unfold mb_plain_115
  unfold mb_plain_125
  refine PP.bind (mw_openSign (22 : Int32) (fup F 42 ((F 42) + (1 : Int32))) G) ?_
  intro r1 F1 G1 hK1
  dsimp only
  unfold mb_plain_131
  refine PP.ite (fun c_2 => ?_) (fun c_2 => ?_)
  · skip
    exact mwj_plain_143 rc ih F1 G1 (KX.tr (KX.f (k := 42) rfl hK) hK1 rfl rfl)
  · skip
    unfold mb_plain_134
    refine PP.bind (mw_closeSign (23 : Int32) F1 G1) ?_
    intro r3 F3 G3 hK3
    dsimp only
    unfold mb_plain_140
    refine PP.ite (fun c_4 => ?_) (fun c_4 => ?_)
    · skip
      exact mwj_plain_143 rc ih F3 G3 (KX.tr (KX.tr (KX.f (k := 42) rfl hK) hK1 rfl rfl) hK3 rfl rfl)
    · skip
      unfold mb_plain_145
      refine PP.bind (mw_step (21 : Int32) (0 : Int32) (0 : Int32) F3 G3) ?_
      intro r5 F5 G5 hK5
      dsimp only
      unfold mb_plain_153
      refine PP.ret ?_
      exact (KX.tr (KX.tr (KX.tr (KX.f (k := 42) rfl hK) hK1 rfl rfl) hK3 rfl rfl) hK5 rfl rfl)
theorem mwj_plain_78 {fu : Nat} (rc : RC) (ih : mKI1 rc) {F0 : PF} {G0 : PG} (z0 : Int32) (F : PF) (G : PG) (hK : KX [42, 43, 44, 45, 47, 48, 49, 55, 60, 62, 70] [56, 57, 58, 59, 67, 68, 69] F0 G0 F G) : PP (mb_plain_78 fu rc z0 F G) (fun _ F' G' => KX [42, 43, 44, 45, 47, 48, 49, 55, 60, 62, 70] [56, 57, 58, 59, 67, 68, 69] F0 G0 F' G') := by
  unfold mb_plain_78
  refine PP.bz (fun _ => ?_)
  refine PP.ret ?_
  exact hK
theorem mwj_plain_77 {fu : Nat} (rc : RC) (ih : mKI1 rc) {F0 : PF} {G0 : PG} (F : PF) (G : PG) (hK : KX [42, 43, 44, 45, 47, 48, 49, 55, 60, 62, 70] [56, 57, 58, 59, 67, 68, 69] F0 G0 F G) : PP (mb_plain_77 fu rc F G) (fun _ F' G' => KX [42, 43, 44, 45, 47, 48, 49, 55, 60, 62, 70] [56, 57, 58, 59, 67, 68, 69] F0 G0 F' G') := by
  unfold mb_plain_77
  exact mwj_plain_78 rc ih (0 : Int32) F G hK
theorem mwt_plain {fu : Nat} (rc : RC) (ih : mKI1 rc) (F : PF) (G : PG) : PP (mh_plain fu rc F G) (fun _ F' G' => KX [42, 43, 44, 45, 47, 48, 49, 55, 60, 62, 70] [56, 57, 58, 59, 67, 68, 69] F G F' G') := by
  unfold mh_plain
  unfold mb_plain_0
  refine PP.ix (fun _ => ?_)
  refine PP.ite (fun c_1 => ?_) (fun c_1 => ?_)
  · skip
    unfold mb_plain_13
    refine PP.ix (fun _ => ?_)
    refine PP.bind (mw_step (0 : Int32) (G 5 (F 42).toNatClampNeg) (0 : Int32) F G) ?_
    intro r2 F2 G2 hK2
    dsimp only
    unfold mb_plain_28
    unfold mb_plain_39
    refine PP.ret ?_
    exact (KX.f (k := 42) rfl (KX.tr KX.rf hK2 rfl rfl))
  · skip
    unfold mb_plain_41
    refine PP.bind (mw_isSign (22 : Int32) F G) ?_
    intro r3 F3 G3 hK3
    dsimp only
    unfold mb_plain_47
    refine PP.ite (fun c_4 => ?_) (fun c_4 => ?_)
    · skip
      unfold mb_plain_79
      refine PP.bind (mw_isWord (13 : Int32) F3 G3) ?_
      intro r5 F5 G5 hK5
      dsimp only
      unfold mb_plain_85
      refine PP.ite (fun c_6 => ?_) (fun c_6 => ?_)
      · skip
        unfold mb_plain_156
        refine PP.ix (fun _ => ?_)
        refine PP.ite (fun c_7 => ?_) (fun c_7 => ?_)
        · skip
          unfold mb_plain_175
          unfold mb_plain_190
          refine PP.ite (fun c_8 => ?_) (fun c_8 => ?_)
          · skip
            unfold mb_plain_205
            refine PP.bind (ih 6 (F5 42) 0 (fup F5 42 ((F5 42) + (1 : Int32))) G5) ?_
            intro r9 F9 G9 hK9
            dsimp only
            exact mwj_plain_210 rc ih r9 F9 G9 (KX.tr (KX.f (k := 42) rfl (KX.tr (KX.tr KX.rf hK3 rfl rfl) hK5 rfl rfl)) hK9 rfl rfl)
          · skip
            unfold mb_plain_197
            refine PP.bind (ih 5 (F5 42) 0 (fup F5 42 ((F5 42) + (1 : Int32))) G5) ?_
            intro r10 F10 G10 hK10
            dsimp only
            unfold mb_plain_202
            exact mwj_plain_210 rc ih r10 F10 G10 (KX.tr (KX.f (k := 42) rfl (KX.tr (KX.tr KX.rf hK3 rfl rfl) hK5 rfl rfl)) hK10 rfl rfl)
        · skip
          unfold mb_plain_169
          refine PP.bind (mw_fails (2 : Int32) F5 G5) ?_
          intro r11 F11 G11 hK11
          dsimp only
          unfold mb_plain_174
          refine PP.bz (fun _ => ?_)
          refine PP.ret ?_
          exact (KX.tr (KX.tr (KX.tr KX.rf hK3 rfl rfl) hK5 rfl rfl) hK11 rfl rfl)
      · skip
        unfold mb_plain_88
        refine PP.ite (fun c_12 => ?_) (fun c_12 => ?_)
        · skip
          exact mwj_plain_115 rc ih F5 G5 (KX.tr (KX.tr KX.rf hK3 rfl rfl) hK5 rfl rfl)
        · skip
          unfold mb_plain_95
          refine PP.ix (fun _ => ?_)
          refine PP.bind (mw_note (10 : Int32) (G5 6 (F5 42).toNatClampNeg) F5 G5) ?_
          intro r13 F13 G13 hK13
          dsimp only
          unfold mb_plain_110
          exact mwj_plain_115 rc ih (fup F13 55 (1 : Int32)) G13 (KX.f (k := 55) rfl (KX.tr (KX.tr (KX.tr KX.rf hK3 rfl rfl) hK5 rfl rfl) hK13 rfl rfl))
    · skip
      unfold mb_plain_50
      refine PP.bind (mw_opens F3 G3) ?_
      intro r14 F14 G14 hK14
      dsimp only
      unfold mb_plain_54
      refine PP.ite (fun c_15 => ?_) (fun c_15 => ?_)
      · skip
        exact mwj_plain_77 rc ih F14 G14 (KX.tr (KX.tr KX.rf hK3 rfl rfl) hK14 rfl rfl)
      · skip
        unfold mb_plain_57
        refine PP.bind (ih 4 0 0 F14 G14) ?_
        intro r16 F16 G16 hK16
        dsimp only
        unfold mb_plain_61
        refine PP.ite (fun c_17 => ?_) (fun c_17 => ?_)
        · skip
          exact mwj_plain_77 rc ih F16 G16 (KX.tr (KX.tr (KX.tr KX.rf hK3 rfl rfl) hK14 rfl rfl) hK16 rfl rfl)
        · skip
          unfold mb_plain_64
          refine PP.bind (mw_closeSign (23 : Int32) F16 G16) ?_
          intro r18 F18 G18 hK18
          dsimp only
          unfold mb_plain_70
          refine PP.ite (fun c_19 => ?_) (fun c_19 => ?_)
          · skip
            exact mwj_plain_77 rc ih F18 G18 (KX.tr (KX.tr (KX.tr (KX.tr KX.rf hK3 rfl rfl) hK14 rfl rfl) hK16 rfl rfl) hK18 rfl rfl)
          · skip
            unfold mb_plain_73
            exact mwj_plain_78 rc ih (1 : Int32) F18 G18 (KX.tr (KX.tr (KX.tr (KX.tr KX.rf hK3 rfl rfl) hK14 rfl rfl) hK16 rfl rfl) hK18 rfl rfl)
theorem mwS1 {fu : Nat} : ∀ d : Nat, mKI1 (mS1 fu d) := by
  intro d
  induction d with
  | zero => exact fun _ _ _ _ _ => PP.no
  | succ d ih =>
    intro i x y F G
    exact PP.ite (fun _ => mwt_argument (mS1 fu d) ih x y F G) (fun _ => PP.ite (fun _ => mwt_call (mS1 fu d) ih x y F G) (fun _ => PP.ite (fun _ => mwt_chain (mS1 fu d) ih F G) (fun _ => PP.ite (fun _ => mwt_element (mS1 fu d) ih x F G) (fun _ => PP.ite (fun _ => mwt_expression (mS1 fu d) ih F G) (fun _ => PP.ite (fun _ => mwt_inConstant (mS1 fu d) ih x F G) (fun _ => PP.ite (fun _ => mwt_named (mS1 fu d) ih x F G) (fun _ => PP.ite (fun _ => mwt_operand (mS1 fu d) ih F G) (fun _ => PP.ite (fun _ => mwt_plain (mS1 fu d) ih F G) (fun _ => PP.no)))))))))
theorem mw_argument {fu : Nat} (x : Int32) (y : Int32) (F : PF) (G : PG) : PP (mf_argument fu x y F G) (fun _ F' G' => KX [42, 43, 44, 45, 47, 48, 49, 55, 60, 62, 70] [56, 57, 58, 59, 67, 68, 69] F G F' G') := mwS1 300 0 x y F G
theorem mw_call {fu : Nat} (x : Int32) (y : Int32) (F : PF) (G : PG) : PP (mf_call fu x y F G) (fun _ F' G' => KX [42, 43, 44, 45, 47, 48, 49, 55, 60, 62, 70] [56, 57, 58, 59, 67, 68, 69] F G F' G') := mwS1 300 1 x y F G
theorem mw_chain {fu : Nat} (F : PF) (G : PG) : PP (mf_chain fu F G) (fun _ F' G' => KX [42, 43, 44, 45, 47, 48, 49, 55, 60, 62, 70] [56, 57, 58, 59, 67, 68, 69] F G F' G') := mwS1 300 2 0 0 F G
theorem mw_element {fu : Nat} (x : Int32) (F : PF) (G : PG) : PP (mf_element fu x F G) (fun _ F' G' => KX [42, 43, 44, 45, 47, 48, 49, 55, 60, 62, 70] [56, 57, 58, 59, 67, 68, 69] F G F' G') := mwS1 300 3 x 0 F G
theorem mw_expression {fu : Nat} (F : PF) (G : PG) : PP (mf_expression fu F G) (fun _ F' G' => KX [42, 43, 44, 45, 47, 48, 49, 55, 60, 62, 70] [56, 57, 58, 59, 67, 68, 69] F G F' G') := mwS1 300 4 0 0 F G
theorem mw_inConstant {fu : Nat} (x : Int32) (F : PF) (G : PG) : PP (mf_inConstant fu x F G) (fun _ F' G' => KX [42, 43, 44, 45, 47, 48, 49, 55, 60, 62, 70] [56, 57, 58, 59, 67, 68, 69] F G F' G') := mwS1 300 5 x 0 F G
theorem mw_named {fu : Nat} (x : Int32) (F : PF) (G : PG) : PP (mf_named fu x F G) (fun _ F' G' => KX [42, 43, 44, 45, 47, 48, 49, 55, 60, 62, 70] [56, 57, 58, 59, 67, 68, 69] F G F' G') := mwS1 300 6 x 0 F G
theorem mw_operand {fu : Nat} (F : PF) (G : PG) : PP (mf_operand fu F G) (fun _ F' G' => KX [42, 43, 44, 45, 47, 48, 49, 55, 60, 62, 70] [56, 57, 58, 59, 67, 68, 69] F G F' G') := mwS1 300 7 0 0 F G
theorem mw_plain {fu : Nat} (F : PF) (G : PG) : PP (mf_plain fu F G) (fun _ F' G' => KX [42, 43, 44, 45, 47, 48, 49, 55, 60, 62, 70] [56, 57, 58, 59, 67, 68, 69] F G F' G') := mwS1 300 8 0 0 F G
theorem mwj_alone_32 {fu : Nat} {F0 : PF} {G0 : PG} (z0 : Int32) (F : PF) (G : PG) (hK : KX [] [] F0 G0 F G) : PP (mb_alone_32 fu z0 F G) (fun _ F' G' => KX [] [] F0 G0 F' G') := by
  unfold mb_alone_32
  refine PP.ret ?_
  exact hK
theorem mw_alone {fu : Nat} (x0 : Int32) (x1 : Int32) (F : PF) (G : PG) : PP (mf_alone fu x0 x1 F G) (fun _ F' G' => KX [] [] F G F' G') := by
  unfold mf_alone
  unfold mb_alone_0
  refine PP.ite (fun c_1 => ?_) (fun c_1 => ?_)
  · skip
    unfold mb_alone_6
    exact mwj_alone_32 (-x1) F G KX.rf
  · skip
    unfold mb_alone_11
    refine PP.ite (fun c_2 => ?_) (fun c_2 => ?_)
    · skip
      unfold mb_alone_17
      exact mwj_alone_32 (x1 ^^^ (-1 : Int32)) F G KX.rf
    · skip
      unfold mb_alone_23
      refine PP.ite (fun c_3 => ?_) (fun c_3 => ?_)
      · skip
        unfold mb_alone_27
        exact mwj_alone_32 (1 : Int32) F G KX.rf
      · skip
        unfold mb_alone_31
        exact mwj_alone_32 (0 : Int32) F G KX.rf
theorem mwj_rest_27 {fu : Nat} {F0 : PF} {G0 : PG} (z0 : Int32) (F : PF) (G : PG) (hK : KX [] [] F0 G0 F G) : PP (mb_rest_27 fu z0 F G) (fun _ F' G' => KX [] [] F0 G0 F' G') := by
  unfold mb_rest_27
  refine PP.ret ?_
  exact hK
theorem mwj_rest_24 {fu : Nat} {F0 : PF} {G0 : PG} (x0 : Int32) (x1 : Int32) (F : PF) (G : PG) (hK : KX [] [] F0 G0 F G) : PP (mb_rest_24 fu x0 x1 F G) (fun _ F' G' => KX [] [] F0 G0 F' G') := by
  unfold mb_rest_24
  refine PP.nz (fun _ => ?_)
  exact mwj_rest_27 (x0 - x0 / x1 * x1) F G hK
theorem mw_rest {fu : Nat} (x0 : Int32) (x1 : Int32) (F : PF) (G : PG) : PP (mf_rest fu x0 x1 F G) (fun _ F' G' => KX [] [] F G F' G') := by
  unfold mf_rest
  unfold mb_rest_0
  refine PP.ite (fun c_1 => ?_) (fun c_1 => ?_)
  · skip
    unfold mb_rest_4
    exact mwj_rest_27 x0 F G KX.rf
  · skip
    unfold mb_rest_8
    refine PP.ite (fun c_2 => ?_) (fun c_2 => ?_)
    · skip
      unfold mb_rest_15
      refine PP.ite (fun c_3 => ?_) (fun c_3 => ?_)
      · skip
        unfold mb_rest_20
        exact mwj_rest_27 (0 : Int32) F G KX.rf
      · skip
        exact mwj_rest_24 x0 x1 F G KX.rf
    · skip
      exact mwj_rest_24 x0 x1 F G KX.rf
theorem mwj_over_27 {fu : Nat} {F0 : PF} {G0 : PG} (z0 : Int32) (F : PF) (G : PG) (hK : KX [] [] F0 G0 F G) : PP (mb_over_27 fu z0 F G) (fun _ F' G' => KX [] [] F0 G0 F' G') := by
  unfold mb_over_27
  refine PP.ret ?_
  exact hK
theorem mwj_over_24 {fu : Nat} {F0 : PF} {G0 : PG} (x0 : Int32) (x1 : Int32) (F : PF) (G : PG) (hK : KX [] [] F0 G0 F G) : PP (mb_over_24 fu x0 x1 F G) (fun _ F' G' => KX [] [] F0 G0 F' G') := by
  unfold mb_over_24
  refine PP.nz (fun _ => ?_)
  exact mwj_over_27 (x0 / x1) F G hK
theorem mw_over {fu : Nat} (x0 : Int32) (x1 : Int32) (F : PF) (G : PG) : PP (mf_over fu x0 x1 F G) (fun _ F' G' => KX [] [] F G F' G') := by
  unfold mf_over
  unfold mb_over_0
  refine PP.ite (fun c_1 => ?_) (fun c_1 => ?_)
  · skip
    unfold mb_over_4
    exact mwj_over_27 (-1 : Int32) F G KX.rf
  · skip
    unfold mb_over_8
    refine PP.ite (fun c_2 => ?_) (fun c_2 => ?_)
    · skip
      unfold mb_over_15
      refine PP.ite (fun c_3 => ?_) (fun c_3 => ?_)
      · skip
        unfold mb_over_20
        exact mwj_over_27 x0 F G KX.rf
      · skip
        exact mwj_over_24 x0 x1 F G KX.rf
    · skip
      exact mwj_over_24 x0 x1 F G KX.rf
theorem mwj_doing_202 {fu : Nat} {F0 : PF} {G0 : PG} (z0 : Int32) (F : PF) (G : PG) (hK : KX [] [] F0 G0 F G) : PP (mb_doing_202 fu z0 F G) (fun _ F' G' => KX [] [] F0 G0 F' G') := by
  unfold mb_doing_202
  refine PP.ret ?_
  exact hK
theorem mwj_doing_213 {fu : Nat} {F0 : PF} {G0 : PG} (z0 : Int32) (F : PF) (G : PG) (hK : KX [] [] F0 G0 F G) : PP (mb_doing_213 fu z0 F G) (fun _ F' G' => KX [] [] F0 G0 F' G') := by
  unfold mb_doing_213
  refine PP.ret ?_
  exact hK
theorem mwj_doing_235 {fu : Nat} {F0 : PF} {G0 : PG} (z0 : Int32) (F : PF) (G : PG) (hK : KX [] [] F0 G0 F G) : PP (mb_doing_235 fu z0 F G) (fun _ F' G' => KX [] [] F0 G0 F' G') := by
  unfold mb_doing_235
  refine PP.ret ?_
  exact hK
theorem mwj_doing_257 {fu : Nat} {F0 : PF} {G0 : PG} (z0 : Int32) (F : PF) (G : PG) (hK : KX [] [] F0 G0 F G) : PP (mb_doing_257 fu z0 F G) (fun _ F' G' => KX [] [] F0 G0 F' G') := by
  unfold mb_doing_257
  refine PP.ret ?_
  exact hK
theorem mwj_doing_224 {fu : Nat} {F0 : PF} {G0 : PG} (z0 : Int32) (F : PF) (G : PG) (hK : KX [] [] F0 G0 F G) : PP (mb_doing_224 fu z0 F G) (fun _ F' G' => KX [] [] F0 G0 F' G') := by
  unfold mb_doing_224
  refine PP.ret ?_
  exact hK
theorem mwj_doing_246 {fu : Nat} {F0 : PF} {G0 : PG} (z0 : Int32) (F : PF) (G : PG) (hK : KX [] [] F0 G0 F G) : PP (mb_doing_246 fu z0 F G) (fun _ F' G' => KX [] [] F0 G0 F' G') := by
  unfold mb_doing_246
  refine PP.ret ?_
  exact hK
theorem mw_doing {fu : Nat} (x0 : Int32) (x1 : Int32) (x2 : Int32) (F : PF) (G : PG) : PP (mf_doing fu x0 x1 x2 F G) (fun _ F' G' => KX [] [] F G F' G') := by
  unfold mf_doing
  unfold mb_doing_0
  refine PP.ite (fun c_1 => ?_) (fun c_1 => ?_)
  · have e_2 : x0.toInt < 1 ∨ 41 < x0.toInt := c_1
    unfold mb_doing_297
    refine PP.bind (mw_rest x1 x2 F G) ?_
    intro r3 F3 G3 hK3
    dsimp only
    unfold mb_doing_302
    refine PP.ret ?_
    exact (KX.tr KX.rf hK3 rfl rfl)
  have e_4 : ¬ (x0.toInt < 1 ∨ 41 < x0.toInt) := c_1
  refine PP.ite (fun c_5 => ?_) (fun c_5 => ?_)
  · skip
    unfold mb_doing_272
    refine PP.ret ?_
    exact KX.rf
  refine PP.ite (fun c_6 => ?_) (fun c_6 => ?_)
  · skip
    unfold mb_doing_297
    refine PP.bind (mw_rest x1 x2 F G) ?_
    intro r7 F7 G7 hK7
    dsimp only
    unfold mb_doing_302
    refine PP.ret ?_
    exact (KX.tr KX.rf hK7 rfl rfl)
  refine PP.ite (fun c_8 => ?_) (fun c_8 => ?_)
  · skip
    unfold mb_doing_297
    refine PP.bind (mw_rest x1 x2 F G) ?_
    intro r9 F9 G9 hK9
    dsimp only
    unfold mb_doing_302
    refine PP.ret ?_
    exact (KX.tr KX.rf hK9 rfl rfl)
  refine PP.ite (fun c_10 => ?_) (fun c_10 => ?_)
  · skip
    unfold mb_doing_297
    refine PP.bind (mw_rest x1 x2 F G) ?_
    intro r11 F11 G11 hK11
    dsimp only
    unfold mb_doing_302
    refine PP.ret ?_
    exact (KX.tr KX.rf hK11 rfl rfl)
  refine PP.ite (fun c_12 => ?_) (fun c_12 => ?_)
  · skip
    unfold mb_doing_297
    refine PP.bind (mw_rest x1 x2 F G) ?_
    intro r13 F13 G13 hK13
    dsimp only
    unfold mb_doing_302
    refine PP.ret ?_
    exact (KX.tr KX.rf hK13 rfl rfl)
  refine PP.ite (fun c_14 => ?_) (fun c_14 => ?_)
  · skip
    unfold mb_doing_297
    refine PP.bind (mw_rest x1 x2 F G) ?_
    intro r15 F15 G15 hK15
    dsimp only
    unfold mb_doing_302
    refine PP.ret ?_
    exact (KX.tr KX.rf hK15 rfl rfl)
  refine PP.ite (fun c_16 => ?_) (fun c_16 => ?_)
  · skip
    unfold mb_doing_297
    refine PP.bind (mw_rest x1 x2 F G) ?_
    intro r17 F17 G17 hK17
    dsimp only
    unfold mb_doing_302
    refine PP.ret ?_
    exact (KX.tr KX.rf hK17 rfl rfl)
  refine PP.ite (fun c_18 => ?_) (fun c_18 => ?_)
  · skip
    unfold mb_doing_297
    refine PP.bind (mw_rest x1 x2 F G) ?_
    intro r19 F19 G19 hK19
    dsimp only
    unfold mb_doing_302
    refine PP.ret ?_
    exact (KX.tr KX.rf hK19 rfl rfl)
  refine PP.ite (fun c_20 => ?_) (fun c_20 => ?_)
  · skip
    unfold mb_doing_297
    refine PP.bind (mw_rest x1 x2 F G) ?_
    intro r21 F21 G21 hK21
    dsimp only
    unfold mb_doing_302
    refine PP.ret ?_
    exact (KX.tr KX.rf hK21 rfl rfl)
  refine PP.ite (fun c_22 => ?_) (fun c_22 => ?_)
  · skip
    unfold mb_doing_297
    refine PP.bind (mw_rest x1 x2 F G) ?_
    intro r23 F23 G23 hK23
    dsimp only
    unfold mb_doing_302
    refine PP.ret ?_
    exact (KX.tr KX.rf hK23 rfl rfl)
  refine PP.ite (fun c_24 => ?_) (fun c_24 => ?_)
  · skip
    unfold mb_doing_297
    refine PP.bind (mw_rest x1 x2 F G) ?_
    intro r25 F25 G25 hK25
    dsimp only
    unfold mb_doing_302
    refine PP.ret ?_
    exact (KX.tr KX.rf hK25 rfl rfl)
  refine PP.ite (fun c_26 => ?_) (fun c_26 => ?_)
  · skip
    unfold mb_doing_297
    refine PP.bind (mw_rest x1 x2 F G) ?_
    intro r27 F27 G27 hK27
    dsimp only
    unfold mb_doing_302
    refine PP.ret ?_
    exact (KX.tr KX.rf hK27 rfl rfl)
  refine PP.ite (fun c_28 => ?_) (fun c_28 => ?_)
  · skip
    unfold mb_doing_297
    refine PP.bind (mw_rest x1 x2 F G) ?_
    intro r29 F29 G29 hK29
    dsimp only
    unfold mb_doing_302
    refine PP.ret ?_
    exact (KX.tr KX.rf hK29 rfl rfl)
  refine PP.ite (fun c_30 => ?_) (fun c_30 => ?_)
  · skip
    unfold mb_doing_297
    refine PP.bind (mw_rest x1 x2 F G) ?_
    intro r31 F31 G31 hK31
    dsimp only
    unfold mb_doing_302
    refine PP.ret ?_
    exact (KX.tr KX.rf hK31 rfl rfl)
  refine PP.ite (fun c_32 => ?_) (fun c_32 => ?_)
  · skip
    unfold mb_doing_297
    refine PP.bind (mw_rest x1 x2 F G) ?_
    intro r33 F33 G33 hK33
    dsimp only
    unfold mb_doing_302
    refine PP.ret ?_
    exact (KX.tr KX.rf hK33 rfl rfl)
  refine PP.ite (fun c_34 => ?_) (fun c_34 => ?_)
  · skip
    unfold mb_doing_192
    refine PP.ite (fun c_35 => ?_) (fun c_35 => ?_)
    · skip
      unfold mb_doing_197
      exact mwj_doing_202 (1 : Int32) F G KX.rf
    · skip
      unfold mb_doing_201
      exact mwj_doing_202 (0 : Int32) F G KX.rf
  refine PP.ite (fun c_36 => ?_) (fun c_36 => ?_)
  · skip
    unfold mb_doing_203
    refine PP.ite (fun c_37 => ?_) (fun c_37 => ?_)
    · skip
      unfold mb_doing_212
      exact mwj_doing_213 (0 : Int32) F G KX.rf
    · skip
      unfold mb_doing_208
      exact mwj_doing_213 (1 : Int32) F G KX.rf
  refine PP.ite (fun c_38 => ?_) (fun c_38 => ?_)
  · skip
    unfold mb_doing_225
    refine PP.ite (fun c_39 => ?_) (fun c_39 => ?_)
    · skip
      unfold mb_doing_234
      exact mwj_doing_235 (0 : Int32) F G KX.rf
    · skip
      unfold mb_doing_230
      exact mwj_doing_235 (1 : Int32) F G KX.rf
  refine PP.ite (fun c_40 => ?_) (fun c_40 => ?_)
  · skip
    unfold mb_doing_247
    refine PP.ite (fun c_41 => ?_) (fun c_41 => ?_)
    · skip
      unfold mb_doing_256
      exact mwj_doing_257 (0 : Int32) F G KX.rf
    · skip
      unfold mb_doing_252
      exact mwj_doing_257 (1 : Int32) F G KX.rf
  refine PP.ite (fun c_42 => ?_) (fun c_42 => ?_)
  · skip
    unfold mb_doing_258
    refine PP.ret ?_
    exact KX.rf
  refine PP.ite (fun c_43 => ?_) (fun c_43 => ?_)
  · skip
    unfold mb_doing_265
    refine PP.ret ?_
    exact KX.rf
  refine PP.ite (fun c_44 => ?_) (fun c_44 => ?_)
  · skip
    unfold mb_doing_297
    refine PP.bind (mw_rest x1 x2 F G) ?_
    intro r45 F45 G45 hK45
    dsimp only
    unfold mb_doing_302
    refine PP.ret ?_
    exact (KX.tr KX.rf hK45 rfl rfl)
  refine PP.ite (fun c_46 => ?_) (fun c_46 => ?_)
  · skip
    unfold mb_doing_297
    refine PP.bind (mw_rest x1 x2 F G) ?_
    intro r47 F47 G47 hK47
    dsimp only
    unfold mb_doing_302
    refine PP.ret ?_
    exact (KX.tr KX.rf hK47 rfl rfl)
  refine PP.ite (fun c_48 => ?_) (fun c_48 => ?_)
  · skip
    unfold mb_doing_297
    refine PP.bind (mw_rest x1 x2 F G) ?_
    intro r49 F49 G49 hK49
    dsimp only
    unfold mb_doing_302
    refine PP.ret ?_
    exact (KX.tr KX.rf hK49 rfl rfl)
  refine PP.ite (fun c_50 => ?_) (fun c_50 => ?_)
  · skip
    unfold mb_doing_297
    refine PP.bind (mw_rest x1 x2 F G) ?_
    intro r51 F51 G51 hK51
    dsimp only
    unfold mb_doing_302
    refine PP.ret ?_
    exact (KX.tr KX.rf hK51 rfl rfl)
  refine PP.ite (fun c_52 => ?_) (fun c_52 => ?_)
  · skip
    unfold mb_doing_297
    refine PP.bind (mw_rest x1 x2 F G) ?_
    intro r53 F53 G53 hK53
    dsimp only
    unfold mb_doing_302
    refine PP.ret ?_
    exact (KX.tr KX.rf hK53 rfl rfl)
  refine PP.ite (fun c_54 => ?_) (fun c_54 => ?_)
  · skip
    unfold mb_doing_297
    refine PP.bind (mw_rest x1 x2 F G) ?_
    intro r55 F55 G55 hK55
    dsimp only
    unfold mb_doing_302
    refine PP.ret ?_
    exact (KX.tr KX.rf hK55 rfl rfl)
  refine PP.ite (fun c_56 => ?_) (fun c_56 => ?_)
  · skip
    unfold mb_doing_297
    refine PP.bind (mw_rest x1 x2 F G) ?_
    intro r57 F57 G57 hK57
    dsimp only
    unfold mb_doing_302
    refine PP.ret ?_
    exact (KX.tr KX.rf hK57 rfl rfl)
  refine PP.ite (fun c_58 => ?_) (fun c_58 => ?_)
  · skip
    unfold mb_doing_297
    refine PP.bind (mw_rest x1 x2 F G) ?_
    intro r59 F59 G59 hK59
    dsimp only
    unfold mb_doing_302
    refine PP.ret ?_
    exact (KX.tr KX.rf hK59 rfl rfl)
  refine PP.ite (fun c_60 => ?_) (fun c_60 => ?_)
  · skip
    unfold mb_doing_297
    refine PP.bind (mw_rest x1 x2 F G) ?_
    intro r61 F61 G61 hK61
    dsimp only
    unfold mb_doing_302
    refine PP.ret ?_
    exact (KX.tr KX.rf hK61 rfl rfl)
  refine PP.ite (fun c_62 => ?_) (fun c_62 => ?_)
  · skip
    unfold mb_doing_297
    refine PP.bind (mw_rest x1 x2 F G) ?_
    intro r63 F63 G63 hK63
    dsimp only
    unfold mb_doing_302
    refine PP.ret ?_
    exact (KX.tr KX.rf hK63 rfl rfl)
  refine PP.ite (fun c_64 => ?_) (fun c_64 => ?_)
  · skip
    unfold mb_doing_297
    refine PP.bind (mw_rest x1 x2 F G) ?_
    intro r65 F65 G65 hK65
    dsimp only
    unfold mb_doing_302
    refine PP.ret ?_
    exact (KX.tr KX.rf hK65 rfl rfl)
  refine PP.ite (fun c_66 => ?_) (fun c_66 => ?_)
  · skip
    unfold mb_doing_180
    refine PP.ret ?_
    exact KX.rf
  refine PP.ite (fun c_67 => ?_) (fun c_67 => ?_)
  · skip
    unfold mb_doing_184
    refine PP.ret ?_
    exact KX.rf
  refine PP.ite (fun c_68 => ?_) (fun c_68 => ?_)
  · skip
    unfold mb_doing_188
    refine PP.ret ?_
    exact KX.rf
  refine PP.ite (fun c_69 => ?_) (fun c_69 => ?_)
  · skip
    unfold mb_doing_214
    refine PP.ite (fun c_70 => ?_) (fun c_70 => ?_)
    · skip
      unfold mb_doing_223
      exact mwj_doing_224 (0 : Int32) F G KX.rf
    · skip
      unfold mb_doing_219
      exact mwj_doing_224 (1 : Int32) F G KX.rf
  refine PP.ite (fun c_71 => ?_) (fun c_71 => ?_)
  · skip
    unfold mb_doing_236
    refine PP.ite (fun c_72 => ?_) (fun c_72 => ?_)
    · skip
      unfold mb_doing_245
      exact mwj_doing_246 (0 : Int32) F G KX.rf
    · skip
      unfold mb_doing_241
      exact mwj_doing_246 (1 : Int32) F G KX.rf
  refine PP.ite (fun c_73 => ?_) (fun c_73 => ?_)
  · skip
    unfold mb_doing_279
    refine PP.ret ?_
    exact KX.rf
  refine PP.ite (fun c_74 => ?_) (fun c_74 => ?_)
  · skip
    unfold mb_doing_283
    refine PP.ret ?_
    exact KX.rf
  refine PP.ite (fun c_75 => ?_) (fun c_75 => ?_)
  · skip
    unfold mb_doing_287
    refine PP.ret ?_
    exact KX.rf
  unfold mb_doing_291
  refine PP.bind (mw_over x1 x2 F G) ?_
  intro r76 F76 G76 hK76
  dsimp only
  unfold mb_doing_296
  refine PP.ret ?_
  exact (KX.tr KX.rf hK76 rfl rfl)
theorem mwj_plainly_240 {fu : Nat} {F0 : PF} {G0 : PG} (z0 : Int32) (F : PF) (G : PG) (hK : KX [72] [71] F0 G0 F G) : PP (mb_plainly_240 fu z0 F G) (fun _ F' G' => KX [72] [71] F0 G0 F' G') := by
  unfold mb_plainly_240
  refine PP.ret ?_
  exact hK
theorem mwj_plainly_204 {fu : Nat} {F0 : PF} {G0 : PG} (x1 : Int32) (z0 : Int32) (z1 : Int32) (F : PF) (G : PG) (hK : KX [72] [71] F0 G0 F G) : PP (mb_plainly_204 fu x1 z0 z1 F G) (fun _ F' G' => KX [72] [71] F0 G0 F' G') := by
  unfold mb_plainly_204
  refine PP.ix (fun _ => ?_)
  unfold mb_plainly_205
  refine PP.ret ?_
  exact (KX.g (k := 71) rfl hK)
theorem mwj_plainly_270 {fu : Nat} {F0 : PF} {G0 : PG} (z0 : Int32) (F : PF) (G : PG) (hK : KX [72] [71] F0 G0 F G) : PP (mb_plainly_270 fu z0 F G) (fun _ F' G' => KX [72] [71] F0 G0 F' G') := by
  unfold mb_plainly_270
  refine PP.ret ?_
  exact hK
theorem mw_plainly {fu : Nat} (x1 : Int32) (F : PF) (G : PG) : PP (mf_plainly fu x1 F G) (fun _ F' G' => KX [72] [71] F G F' G') := by
  unfold mf_plainly
  unfold mb_plainly_0
  refine PP.ix (fun _ => ?_)
  refine PP.ix (fun _ => ?_)
  refine PP.ite (fun c_1 => ?_) (fun c_1 => ?_)
  · skip
    unfold mb_plainly_72
    refine PP.ix (fun _ => ?_)
    unfold mb_plainly_82
    unfold mb_plainly_92
    refine PP.ret ?_
    exact (KX.f (k := 72) rfl (KX.g (k := 71) rfl KX.rf))
  refine PP.ite (fun c_2 => ?_) (fun c_2 => ?_)
  · skip
    unfold mb_plainly_96
    unfold mb_plainly_106
    refine PP.ix (fun _ => ?_)
    refine PP.ix (fun _ => ?_)
    refine PP.bind (mw_doing (G 57 x1.toNatClampNeg) (G 71 (((F 72) - (1 : Int32)) - (1 : Int32)).toNatClampNeg) (G 71 ((F 72) - (1 : Int32)).toNatClampNeg) (fup F 72 ((F 72) - (1 : Int32))) G) ?_
    intro r3 F3 G3 hK3
    dsimp only
    unfold mb_plainly_140
    refine PP.ix (fun _ => ?_)
    unfold mb_plainly_141
    refine PP.ret ?_
    exact (KX.g (k := 71) rfl (KX.tr (KX.f (k := 72) rfl KX.rf) hK3 rfl rfl))
  refine PP.ite (fun c_4 => ?_) (fun c_4 => ?_)
  · skip
    unfold mb_plainly_145
    refine PP.ix (fun _ => ?_)
    refine PP.bind (mw_alone (G 57 x1.toNatClampNeg) (G 71 ((F 72) - (1 : Int32)).toNatClampNeg) F G) ?_
    intro r5 F5 G5 hK5
    dsimp only
    unfold mb_plainly_170
    refine PP.ix (fun _ => ?_)
    unfold mb_plainly_171
    refine PP.ret ?_
    exact (KX.g (k := 71) rfl (KX.tr KX.rf hK5 rfl rfl))
  refine PP.ite (fun c_6 => ?_) (fun c_6 => ?_)
  · skip
    unfold mb_plainly_209
    refine PP.ret ?_
    exact KX.rf
  refine PP.ite (fun c_7 => ?_) (fun c_7 => ?_)
  · skip
    unfold mb_plainly_211
    unfold mb_plainly_221
    refine PP.ix (fun _ => ?_)
    refine PP.ite (fun c_8 => ?_) (fun c_8 => ?_)
    · skip
      unfold mb_plainly_237
      exact mwj_plainly_240 (x1 + (1 : Int32)) (fup F 72 ((F 72) - (1 : Int32))) G (KX.f (k := 72) rfl KX.rf)
    · skip
      unfold mb_plainly_233
      exact mwj_plainly_240 (G 57 x1.toNatClampNeg) (fup F 72 ((F 72) - (1 : Int32))) G (KX.f (k := 72) rfl KX.rf)
  refine PP.ite (fun c_9 => ?_) (fun c_9 => ?_)
  · skip
    unfold mb_plainly_175
    refine PP.ix (fun _ => ?_)
    refine PP.ite (fun c_10 => ?_) (fun c_10 => ?_)
    · skip
      unfold mb_plainly_203
      exact mwj_plainly_204 x1 (0 : Int32) ((F 72) - (1 : Int32)) F G KX.rf
    · skip
      unfold mb_plainly_199
      exact mwj_plainly_204 x1 (1 : Int32) ((F 72) - (1 : Int32)) F G KX.rf
  unfold mb_plainly_241
  unfold mb_plainly_251
  refine PP.ix (fun _ => ?_)
  refine PP.ite (fun c_11 => ?_) (fun c_11 => ?_)
  · skip
    unfold mb_plainly_263
    exact mwj_plainly_270 (G 57 x1.toNatClampNeg) (fup F 72 ((F 72) - (1 : Int32))) G (KX.f (k := 72) rfl KX.rf)
  · skip
    unfold mb_plainly_267
    exact mwj_plainly_270 (x1 + (1 : Int32)) (fup F 72 ((F 72) - (1 : Int32))) G (KX.f (k := 72) rfl KX.rf)
theorem mwz_reckon_7 {fu : Nat} {F0 : PF} {G0 : PG} : ∀ (n : Nat) (x2 : Int32) (F : PF) (G : PG) (hK : KX [72] [71] F0 G0 F G), PP (ml_reckon_7 fu n x2 F G) (fun _ F' G' => KX [72] [71] F0 G0 F' G') := by
  intro n
  induction n with
  | zero =>
    intro x2 F G hK
    exact PP.no
  | succ n ihn =>
    intro x2 F G hK
    show PP (mb_reckon_7 fu (ml_reckon_7 fu n) x2 F G) _
    unfold mb_reckon_7
    refine PP.ite (fun c_1 => ?_) (fun c_1 => ?_)
    · skip
      unfold mb_reckon_24
      refine PP.ix (fun _ => ?_)
      refine PP.ret ?_
      exact hK
    · skip
      unfold mb_reckon_15
      refine PP.bind (mw_plainly x2 F G) ?_
      intro r2 F2 G2 hK2
      dsimp only
      unfold mb_reckon_20
      exact ihn r2 F2 G2 (KX.tr hK hK2 rfl rfl)
theorem mw_reckon {fu : Nat} (x1 : Int32) (F : PF) (G : PG) : PP (mf_reckon fu x1 F G) (fun _ F' G' => KX [72] [71] F G F' G') := by
  unfold mf_reckon
  unfold mb_reckon_0
  unfold mb_reckon_5
  exact mwz_reckon_7 fu x1 (fup F 72 (0 : Int32)) G (KX.f (k := 72) rfl KX.rf)
theorem mwj_value_60 {fu : Nat} {F0 : PF} {G0 : PG} (x2 : Int32) (z0 : Int32) (F : PF) (G : PG) (hK : KX [42, 43, 44, 45, 47, 48, 49, 54, 55, 60, 62, 70, 72] [56, 57, 58, 59, 67, 68, 69, 71] F0 G0 F G) : PP (mb_value_60 fu x2 z0 F G) (fun _ F' G' => KX [42, 43, 44, 45, 47, 48, 49, 54, 55, 60, 62, 70, 72] [56, 57, 58, 59, 67, 68, 69, 71] F0 G0 F' G') := by
  unfold mb_value_60
  unfold mb_value_66
  refine PP.ret ?_
  exact (KX.f (k := 60) rfl hK)
theorem mwj_value_51 {fu : Nat} {F0 : PF} {G0 : PG} (x2 : Int32) (F : PF) (G : PG) (hK : KX [42, 43, 44, 45, 47, 48, 49, 54, 55, 60, 62, 70, 72] [56, 57, 58, 59, 67, 68, 69, 71] F0 G0 F G) : PP (mb_value_51 fu x2 F G) (fun _ F' G' => KX [42, 43, 44, 45, 47, 48, 49, 54, 55, 60, 62, 70, 72] [56, 57, 58, 59, 67, 68, 69, 71] F0 G0 F' G') := by
  unfold mb_value_51
  exact mwj_value_60 x2 (0 : Int32) F G hK
theorem mw_value {fu : Nat} (F : PF) (G : PG) : PP (mf_value fu F G) (fun _ F' G' => KX [42, 43, 44, 45, 47, 48, 49, 54, 55, 60, 62, 70, 72] [56, 57, 58, 59, 67, 68, 69, 71] F G F' G') := by
  unfold mf_value
  unfold mb_value_0
  unfold mb_value_10
  unfold mb_value_15
  refine PP.bind (mw_expression (fup (fup F 54 (1 : Int32)) 55 (0 : Int32)) G) ?_
  intro r1 F1 G1 hK1
  dsimp only
  unfold mb_value_24
  refine PP.bz (fun _ => ?_)
  unfold mb_value_30
  refine PP.ite (fun c_2 => ?_) (fun c_2 => ?_)
  · skip
    exact mwj_value_51 (F 60) (fup F1 54 (F 54)) G1 (KX.f (k := 54) rfl (KX.tr (KX.f (k := 55) rfl (KX.f (k := 54) rfl KX.rf)) hK1 rfl rfl))
  · skip
    unfold mb_value_37
    refine PP.ite (fun c_3 => ?_) (fun c_3 => ?_)
    · skip
      exact mwj_value_51 (F 60) (fup F1 54 (F 54)) G1 (KX.f (k := 54) rfl (KX.tr (KX.f (k := 55) rfl (KX.f (k := 54) rfl KX.rf)) hK1 rfl rfl))
    · skip
      unfold mb_value_44
      refine PP.ite (fun c_4 => ?_) (fun c_4 => ?_)
      · skip
        unfold mb_value_55
        refine PP.bind (mw_reckon (F 60) (fup F1 54 (F 54)) G1) ?_
        intro r5 F5 G5 hK5
        dsimp only
        exact mwj_value_60 (F 60) r5 F5 G5 (KX.tr (KX.f (k := 54) rfl (KX.tr (KX.f (k := 55) rfl (KX.f (k := 54) rfl KX.rf)) hK1 rfl rfl)) hK5 rfl rfl)
      · skip
        exact mwj_value_51 (F 60) (fup F1 54 (F 54)) G1 (KX.f (k := 54) rfl (KX.tr (KX.f (k := 55) rfl (KX.f (k := 54) rfl KX.rf)) hK1 rfl rfl))
theorem mwj_sizeHere_29 {fu : Nat} {F0 : PF} {G0 : PG} (F : PF) (G : PG) (hK : KX [42, 43, 44, 45, 47, 48, 49, 54, 55, 60, 62, 70, 72] [56, 57, 58, 59, 67, 68, 69, 71] F0 G0 F G) : PP (mb_sizeHere_29 fu F G) (fun _ F' G' => KX [42, 43, 44, 45, 47, 48, 49, 54, 55, 60, 62, 70, 72] [56, 57, 58, 59, 67, 68, 69, 71] F0 G0 F' G') := by
  unfold mb_sizeHere_29
  refine PP.ret ?_
  exact hK
theorem mwj_sizeHere_54 {fu : Nat} {F0 : PF} {G0 : PG} (x1 : Int32) (F : PF) (G : PG) (hK : KX [42, 43, 44, 45, 47, 48, 49, 54, 55, 60, 62, 70, 72] [56, 57, 58, 59, 67, 68, 69, 71] F0 G0 F G) : PP (mb_sizeHere_54 fu x1 F G) (fun _ F' G' => KX [42, 43, 44, 45, 47, 48, 49, 54, 55, 60, 62, 70, 72] [56, 57, 58, 59, 67, 68, 69, 71] F0 G0 F' G') := by
  unfold mb_sizeHere_54
  refine PP.bind (mw_note (10 : Int32) x1 F G) ?_
  intro r1 F1 G1 hK1
  dsimp only
  unfold mb_sizeHere_61
  refine PP.ret ?_
  exact (KX.tr hK hK1 rfl rfl)
theorem mw_sizeHere {fu : Nat} (F : PF) (G : PG) : PP (mf_sizeHere fu F G) (fun _ F' G' => KX [42, 43, 44, 45, 47, 48, 49, 54, 55, 60, 62, 70, 72] [56, 57, 58, 59, 67, 68, 69, 71] F G F' G') := by
  unfold mf_sizeHere
  unfold mb_sizeHere_0
  refine PP.ix (fun _ => ?_)
  refine PP.bind (mw_value F G) ?_
  intro r1 F1 G1 hK1
  dsimp only
  unfold mb_sizeHere_14
  refine PP.ite (fun c_2 => ?_) (fun c_2 => ?_)
  · skip
    exact mwj_sizeHere_29 F1 G1 (KX.tr KX.rf hK1 rfl rfl)
  · skip
    unfold mb_sizeHere_22
    refine PP.ite (fun c_3 => ?_) (fun c_3 => ?_)
    · skip
      exact mwj_sizeHere_29 F1 G1 (KX.tr KX.rf hK1 rfl rfl)
    · skip
      unfold mb_sizeHere_31
      refine PP.ite (fun c_4 => ?_) (fun c_4 => ?_)
      · skip
        unfold mb_sizeHere_40
        refine PP.ite (fun c_5 => ?_) (fun c_5 => ?_)
        · skip
          exact mwj_sizeHere_54 (G 6 (F 42).toNatClampNeg) F1 G1 (KX.tr KX.rf hK1 rfl rfl)
        · skip
          unfold mb_sizeHere_45
          refine PP.ite (fun c_6 => ?_) (fun c_6 => ?_)
          · skip
            exact mwj_sizeHere_54 (G 6 (F 42).toNatClampNeg) F1 G1 (KX.tr KX.rf hK1 rfl rfl)
          · skip
            unfold mb_sizeHere_52
            refine PP.ret ?_
            exact (KX.tr KX.rf hK1 rfl rfl)
      · skip
        unfold mb_sizeHere_38
        refine PP.ret ?_
        exact (KX.tr KX.rf hK1 rfl rfl)
theorem mw_declare {fu : Nat} (x1 : Int32) (x2 : Int32) (x3 : Int32) (x4 : Int32) (x5 : Int32) (x6 : Int32) (F : PF) (G : PG) : PP (mf_declare fu x1 x2 x3 x4 x5 x6 F G) (fun _ F' G' => KX [14] [16, 17, 18, 19, 20, 21, 22, 23] F G F' G') := by
  unfold mf_declare
  unfold mb_declare_0
  refine PP.ite (fun c_1 => ?_) (fun c_1 => ?_)
  · skip
    unfold mb_declare_7
    refine PP.ret ?_
    exact KX.rf
  · skip
    unfold mb_declare_8
    refine PP.ix (fun _ => ?_)
    refine PP.ix (fun _ => ?_)
    unfold mb_declare_23
    refine PP.ix (fun _ => ?_)
    unfold mb_declare_33
    refine PP.ix (fun _ => ?_)
    refine PP.ix (fun _ => ?_)
    unfold mb_declare_48
    refine PP.ix (fun _ => ?_)
    unfold mb_declare_61
    refine PP.ix (fun _ => ?_)
    unfold mb_declare_71
    refine PP.ix (fun _ => ?_)
    unfold mb_declare_82
    refine PP.ix (fun _ => ?_)
    unfold mb_declare_93
    refine PP.ix (fun _ => ?_)
    unfold mb_declare_104
    unfold mb_declare_114
    refine PP.ret ?_
    exact (KX.f (k := 14) rfl (KX.g (k := 23) rfl (KX.g (k := 21) rfl (KX.g (k := 20) rfl (KX.g (k := 22) rfl (KX.g (k := 19) rfl (KX.g (k := 18) rfl (KX.g (k := 17) rfl (KX.g (k := 16) rfl KX.rf)))))))))
theorem mwj_twice_142 {fu : Nat} {F0 : PF} {G0 : PG} (F : PF) (G : PG) (hK : KX [47, 48, 49] [] F0 G0 F G) : PP (mb_twice_142 fu F G) (fun _ F' G' => KX [47, 48, 49] [] F0 G0 F' G') := by
  unfold mb_twice_142
  refine PP.ret ?_
  exact hK
theorem mwj_twice_127 {fu : Nat} {F0 : PF} {G0 : PG} (x1 : Int32) (x2 : Int32) (F : PF) (G : PG) (hK : KX [47, 48, 49] [] F0 G0 F G) : PP (mb_twice_127 fu x1 x2 F G) (fun _ F' G' => KX [47, 48, 49] [] F0 G0 F' G') := by
  unfold mb_twice_127
  refine PP.ite (fun c_1 => ?_) (fun c_1 => ?_)
  · skip
    exact mwj_twice_142 F G hK
  · skip
    unfold mb_twice_131
    refine PP.ix (fun _ => ?_)
    refine PP.bind (mw_note (5 : Int32) (G 6 x1.toNatClampNeg) F G) ?_
    intro r2 F2 G2 hK2
    dsimp only
    exact mwj_twice_142 F2 G2 (KX.tr hK hK2 rfl rfl)
theorem mwj_twice_120 {fu : Nat} {F0 : PF} {G0 : PG} (ag_66 : Int32 → Int32 → Int32 → PF → PG → PR) (hag_66 : ∀ (x1 : Int32) (x2 : Int32) (x3 : Int32) (F : PF) (G : PG) (hK : KX [47, 48, 49] [] F0 G0 F G), PP (ag_66 x1 x2 x3 F G) (fun _ F' G' => KX [47, 48, 49] [] F0 G0 F' G')) (x1 : Int32) (x3 : Int32) (z0 : Int32) (F : PF) (G : PG) (hK : KX [47, 48, 49] [] F0 G0 F G) : PP (mb_twice_120 fu ag_66 x1 x3 z0 F G) (fun _ F' G' => KX [47, 48, 49] [] F0 G0 F' G') := by
  unfold mb_twice_120
  exact hag_66 x1 z0 (x3 + (1 : Int32)) F G hK
theorem mwj_twice_119 {fu : Nat} {F0 : PF} {G0 : PG} (ag_66 : Int32 → Int32 → Int32 → PF → PG → PR) (hag_66 : ∀ (x1 : Int32) (x2 : Int32) (x3 : Int32) (F : PF) (G : PG) (hK : KX [47, 48, 49] [] F0 G0 F G), PP (ag_66 x1 x2 x3 F G) (fun _ F' G' => KX [47, 48, 49] [] F0 G0 F' G')) (x1 : Int32) (x3 : Int32) (F : PF) (G : PG) (hK : KX [47, 48, 49] [] F0 G0 F G) : PP (mb_twice_119 fu ag_66 x1 x3 F G) (fun _ F' G' => KX [47, 48, 49] [] F0 G0 F' G') := by
  unfold mb_twice_119
  exact mwj_twice_120 ag_66 hag_66 x1 x3 (0 : Int32) F G hK
theorem mwj_twice_115 {fu : Nat} {F0 : PF} {G0 : PG} (ag_66 : Int32 → Int32 → Int32 → PF → PG → PR) (hag_66 : ∀ (x1 : Int32) (x2 : Int32) (x3 : Int32) (F : PF) (G : PG) (hK : KX [47, 48, 49] [] F0 G0 F G), PP (ag_66 x1 x2 x3 F G) (fun _ F' G' => KX [47, 48, 49] [] F0 G0 F' G')) (x1 : Int32) (x3 : Int32) (F : PF) (G : PG) (hK : KX [47, 48, 49] [] F0 G0 F G) : PP (mb_twice_115 fu ag_66 x1 x3 F G) (fun _ F' G' => KX [47, 48, 49] [] F0 G0 F' G') := by
  unfold mb_twice_115
  exact mwj_twice_120 ag_66 hag_66 x1 x3 (1 : Int32) F G hK
theorem mwz_twice_66 {fu : Nat} {F0 : PF} {G0 : PG} : ∀ (n : Nat) (x1 : Int32) (x2 : Int32) (x3 : Int32) (F : PF) (G : PG) (hK : KX [47, 48, 49] [] F0 G0 F G), PP (ml_twice_66 fu n x1 x2 x3 F G) (fun _ F' G' => KX [47, 48, 49] [] F0 G0 F' G') := by
  intro n
  induction n with
  | zero =>
    intro x1 x2 x3 F G hK
    exact PP.no
  | succ n ihn =>
    intro x1 x2 x3 F G hK
    show PP (mb_twice_66 fu (ml_twice_66 fu n) x1 x2 x3 F G) _
    unfold mb_twice_66
    refine PP.ite (fun c_1 => ?_) (fun c_1 => ?_)
    · skip
      exact mwj_twice_127 x1 x2 F G hK
    · skip
      unfold mb_twice_74
      refine PP.ite (fun c_2 => ?_) (fun c_2 => ?_)
      · skip
        unfold mb_twice_81
        refine PP.ite (fun c_3 => ?_) (fun c_3 => ?_)
        · skip
          unfold mb_twice_85
          refine PP.ix (fun _ => ?_)
          refine PP.ix (fun _ => ?_)
          refine PP.ite (fun c_4 => ?_) (fun c_4 => ?_)
          · skip
            unfold mb_twice_100
            refine PP.ix (fun _ => ?_)
            refine PP.ix (fun _ => ?_)
            refine PP.ite (fun c_5 => ?_) (fun c_5 => ?_)
            · skip
              exact mwj_twice_119 (ml_twice_66 fu n) ihn x1 x3 F G hK
            · skip
              exact mwj_twice_115 (ml_twice_66 fu n) ihn x1 x3 F G hK
          · skip
            exact mwj_twice_119 (ml_twice_66 fu n) ihn x1 x3 F G hK
        · skip
          exact mwj_twice_115 (ml_twice_66 fu n) ihn x1 x3 F G hK
      · skip
        exact mwj_twice_127 x1 x2 F G hK
theorem mwj_twice_57 {fu : Nat} {F0 : PF} {G0 : PG} (ag_12 : Int32 → Int32 → Int32 → PF → PG → PR) (hag_12 : ∀ (x1 : Int32) (x2 : Int32) (x3 : Int32) (F : PF) (G : PG) (hK : KX [47, 48, 49] [] F0 G0 F G), PP (ag_12 x1 x2 x3 F G) (fun _ F' G' => KX [47, 48, 49] [] F0 G0 F' G')) (x1 : Int32) (x3 : Int32) (z0 : Int32) (F : PF) (G : PG) (hK : KX [47, 48, 49] [] F0 G0 F G) : PP (mb_twice_57 fu ag_12 x1 x3 z0 F G) (fun _ F' G' => KX [47, 48, 49] [] F0 G0 F' G') := by
  unfold mb_twice_57
  exact hag_12 x1 z0 (x3 + (1 : Int32)) F G hK
theorem mwj_twice_52 {fu : Nat} {F0 : PF} {G0 : PG} (ag_12 : Int32 → Int32 → Int32 → PF → PG → PR) (hag_12 : ∀ (x1 : Int32) (x2 : Int32) (x3 : Int32) (F : PF) (G : PG) (hK : KX [47, 48, 49] [] F0 G0 F G), PP (ag_12 x1 x2 x3 F G) (fun _ F' G' => KX [47, 48, 49] [] F0 G0 F' G')) (x1 : Int32) (x3 : Int32) (F : PF) (G : PG) (hK : KX [47, 48, 49] [] F0 G0 F G) : PP (mb_twice_52 fu ag_12 x1 x3 F G) (fun _ F' G' => KX [47, 48, 49] [] F0 G0 F' G') := by
  unfold mb_twice_52
  exact mwj_twice_57 ag_12 hag_12 x1 x3 (1 : Int32) F G hK
theorem mwj_twice_56 {fu : Nat} {F0 : PF} {G0 : PG} (ag_12 : Int32 → Int32 → Int32 → PF → PG → PR) (hag_12 : ∀ (x1 : Int32) (x2 : Int32) (x3 : Int32) (F : PF) (G : PG) (hK : KX [47, 48, 49] [] F0 G0 F G), PP (ag_12 x1 x2 x3 F G) (fun _ F' G' => KX [47, 48, 49] [] F0 G0 F' G')) (x1 : Int32) (x3 : Int32) (F : PF) (G : PG) (hK : KX [47, 48, 49] [] F0 G0 F G) : PP (mb_twice_56 fu ag_12 x1 x3 F G) (fun _ F' G' => KX [47, 48, 49] [] F0 G0 F' G') := by
  unfold mb_twice_56
  exact mwj_twice_57 ag_12 hag_12 x1 x3 (0 : Int32) F G hK
theorem mwz_twice_12 {fu : Nat} {F0 : PF} {G0 : PG} : ∀ (n : Nat) (x1 : Int32) (x2 : Int32) (x3 : Int32) (F : PF) (G : PG) (hK : KX [47, 48, 49] [] F0 G0 F G), PP (ml_twice_12 fu n x1 x2 x3 F G) (fun _ F' G' => KX [47, 48, 49] [] F0 G0 F' G') := by
  intro n
  induction n with
  | zero =>
    intro x1 x2 x3 F G hK
    exact PP.no
  | succ n ihn =>
    intro x1 x2 x3 F G hK
    show PP (mb_twice_12 fu (ml_twice_12 fu n) x1 x2 x3 F G) _
    unfold mb_twice_12
    refine PP.ite (fun c_1 => ?_) (fun c_1 => ?_)
    · skip
      unfold mb_twice_64
      exact mwz_twice_66 fu x1 x2 (0 : Int32) F G hK
    · skip
      unfold mb_twice_20
      refine PP.ite (fun c_2 => ?_) (fun c_2 => ?_)
      · skip
        unfold mb_twice_24
        refine PP.ix (fun _ => ?_)
        refine PP.ite (fun c_3 => ?_) (fun c_3 => ?_)
        · skip
          unfold mb_twice_37
          refine PP.ix (fun _ => ?_)
          refine PP.ix (fun _ => ?_)
          refine PP.ite (fun c_4 => ?_) (fun c_4 => ?_)
          · skip
            exact mwj_twice_52 (ml_twice_12 fu n) ihn x1 x3 F G hK
          · skip
            exact mwj_twice_56 (ml_twice_12 fu n) ihn x1 x3 F G hK
        · skip
          exact mwj_twice_56 (ml_twice_12 fu n) ihn x1 x3 F G hK
      · skip
        exact mwj_twice_52 (ml_twice_12 fu n) ihn x1 x3 F G hK
theorem mw_twice {fu : Nat} (x1 : Int32) (F : PF) (G : PG) : PP (mf_twice fu x1 F G) (fun _ F' G' => KX [47, 48, 49] [] F G F' G') := by
  unfold mf_twice
  unfold mb_twice_0
  refine PP.ite (fun c_1 => ?_) (fun c_1 => ?_)
  · skip
    unfold mb_twice_7
    refine PP.ret ?_
    exact KX.rf
  · skip
    unfold mb_twice_8
    exact mwz_twice_12 fu x1 (0 : Int32) (0 : Int32) F G KX.rf
theorem mwj_array_459 {fu : Nat} {F0 : PF} {G0 : PG} (z0 : Int32) (z1 : Int32) (z2 : Int32) (z3 : Int32) (z4 : Int32) (F : PF) (G : PG) (hK : KX [14, 36, 37, 42, 43, 44, 45, 47, 48, 49, 54, 55, 60, 62, 70, 72] [16, 17, 18, 19, 20, 21, 22, 23, 38, 39, 40, 41, 56, 57, 58, 59, 67, 68, 69, 71] F0 G0 F G) : PP (mb_array_459 fu z0 z1 z2 z3 z4 F G) (fun _ F' G' => KX [14, 36, 37, 42, 43, 44, 45, 47, 48, 49, 54, 55, 60, 62, 70, 72] [16, 17, 18, 19, 20, 21, 22, 23, 38, 39, 40, 41, 56, 57, 58, 59, 67, 68, 69, 71] F0 G0 F' G') := by
  unfold mb_array_459
  refine PP.bind (mw_declare z4 z3 z2 z1 z0 (0 : Int32) F G) ?_
  intro r1 F1 G1 hK1
  dsimp only
  unfold mb_array_463
  refine PP.ret ?_
  exact (KX.tr hK hK1 rfl rfl)
theorem mwj_array_443 {fu : Nat} {F0 : PF} {G0 : PG} (x1 : Int32) (x2 : Int32) (x3 : Int32) (x4 : Int32) (F : PF) (G : PG) (hK : KX [14, 36, 37, 42, 43, 44, 45, 47, 48, 49, 54, 55, 60, 62, 70, 72] [16, 17, 18, 19, 20, 21, 22, 23, 38, 39, 40, 41, 56, 57, 58, 59, 67, 68, 69, 71] F0 G0 F G) : PP (mb_array_443 fu x1 x2 x3 x4 F G) (fun _ F' G' => KX [14, 36, 37, 42, 43, 44, 45, 47, 48, 49, 54, 55, 60, 62, 70, 72] [16, 17, 18, 19, 20, 21, 22, 23, 38, 39, 40, 41, 56, 57, 58, 59, 67, 68, 69, 71] F0 G0 F' G') := by
  unfold mb_array_443
  refine PP.ite (fun c_1 => ?_) (fun c_1 => ?_)
  · skip
    unfold mb_array_454
    exact mwj_array_459 (1 : Int32) x4 x2 (2 : Int32) x1 F G hK
  · skip
    unfold mb_array_458
    exact mwj_array_459 x3 x4 x2 (2 : Int32) x1 F G hK
theorem mwj_array_432 {fu : Nat} {F0 : PF} {G0 : PG} (x1 : Int32) (x2 : Int32) (x3 : Int32) (x4 : Int32) (F : PF) (G : PG) (hK : KX [14, 36, 37, 42, 43, 44, 45, 47, 48, 49, 54, 55, 60, 62, 70, 72] [16, 17, 18, 19, 20, 21, 22, 23, 38, 39, 40, 41, 56, 57, 58, 59, 67, 68, 69, 71] F0 G0 F G) : PP (mb_array_432 fu x1 x2 x3 x4 F G) (fun _ F' G' => KX [14, 36, 37, 42, 43, 44, 45, 47, 48, 49, 54, 55, 60, 62, 70, 72] [16, 17, 18, 19, 20, 21, 22, 23, 38, 39, 40, 41, 56, 57, 58, 59, 67, 68, 69, 71] F0 G0 F' G') := by
  unfold mb_array_432
  refine PP.bind (mw_closeSign (27 : Int32) F G) ?_
  intro r1 F1 G1 hK1
  dsimp only
  unfold mb_array_438
  refine PP.ite (fun c_2 => ?_) (fun c_2 => ?_)
  · skip
    unfold mb_array_441
    refine PP.ret ?_
    exact (KX.tr hK hK1 rfl rfl)
  · skip
    exact mwj_array_443 x1 x2 x3 x4 F1 G1 (KX.tr hK hK1 rfl rfl)
theorem mwj_array_425 {fu : Nat} {F0 : PF} {G0 : PG} (ag_297 : Int32 → Int32 → Int32 → Int32 → Int32 → Int32 → Int32 → PF → PG → PR) (hag_297 : ∀ (x1 : Int32) (x2 : Int32) (x3 : Int32) (x4 : Int32) (x7 : Int32) (x8 : Int32) (x9 : Int32) (F : PF) (G : PG) (hK : KX [14, 36, 37, 42, 43, 44, 45, 47, 48, 49, 54, 55, 60, 62, 70, 72] [16, 17, 18, 19, 20, 21, 22, 23, 38, 39, 40, 41, 56, 57, 58, 59, 67, 68, 69, 71] F0 G0 F G), PP (ag_297 x1 x2 x3 x4 x7 x8 x9 F G) (fun _ F' G' => KX [14, 36, 37, 42, 43, 44, 45, 47, 48, 49, 54, 55, 60, 62, 70, 72] [16, 17, 18, 19, 20, 21, 22, 23, 38, 39, 40, 41, 56, 57, 58, 59, 67, 68, 69, 71] F0 G0 F' G')) (x1 : Int32) (x2 : Int32) (x3 : Int32) (x4 : Int32) (x7 : Int32) (x8 : Int32) (x9 : Int32) (z0 : Int32) (z1 : Int32) (F : PF) (G : PG) (hK : KX [14, 36, 37, 42, 43, 44, 45, 47, 48, 49, 54, 55, 60, 62, 70, 72] [16, 17, 18, 19, 20, 21, 22, 23, 38, 39, 40, 41, 56, 57, 58, 59, 67, 68, 69, 71] F0 G0 F G) : PP (mb_array_425 fu ag_297 x1 x2 x3 x4 x7 x8 x9 z0 z1 F G) (fun _ F' G' => KX [14, 36, 37, 42, 43, 44, 45, 47, 48, 49, 54, 55, 60, 62, 70, 72] [16, 17, 18, 19, 20, 21, 22, 23, 38, 39, 40, 41, 56, 57, 58, 59, 67, 68, 69, 71] F0 G0 F' G') := by
  unfold mb_array_425
  unfold mb_array_429
  exact hag_297 x1 x2 x3 x4 x7 x8 x9 (fup F 42 (z1 + z0)) G (KX.f (k := 42) rfl hK)
theorem mwj_array_408 {fu : Nat} {F0 : PF} {G0 : PG} (ag_297 : Int32 → Int32 → Int32 → Int32 → Int32 → Int32 → Int32 → PF → PG → PR) (hag_297 : ∀ (x1 : Int32) (x2 : Int32) (x3 : Int32) (x4 : Int32) (x7 : Int32) (x8 : Int32) (x9 : Int32) (F : PF) (G : PG) (hK : KX [14, 36, 37, 42, 43, 44, 45, 47, 48, 49, 54, 55, 60, 62, 70, 72] [16, 17, 18, 19, 20, 21, 22, 23, 38, 39, 40, 41, 56, 57, 58, 59, 67, 68, 69, 71] F0 G0 F G), PP (ag_297 x1 x2 x3 x4 x7 x8 x9 F G) (fun _ F' G' => KX [14, 36, 37, 42, 43, 44, 45, 47, 48, 49, 54, 55, 60, 62, 70, 72] [16, 17, 18, 19, 20, 21, 22, 23, 38, 39, 40, 41, 56, 57, 58, 59, 67, 68, 69, 71] F0 G0 F' G')) (x1 : Int32) (x2 : Int32) (x3 : Int32) (x4 : Int32) (x7 : Int32) (x8 : Int32) (z0 : Int32) (F : PF) (G : PG) (hK : KX [14, 36, 37, 42, 43, 44, 45, 47, 48, 49, 54, 55, 60, 62, 70, 72] [16, 17, 18, 19, 20, 21, 22, 23, 38, 39, 40, 41, 56, 57, 58, 59, 67, 68, 69, 71] F0 G0 F G) : PP (mb_array_408 fu ag_297 x1 x2 x3 x4 x7 x8 z0 F G) (fun _ F' G' => KX [14, 36, 37, 42, 43, 44, 45, 47, 48, 49, 54, 55, 60, 62, 70, 72] [16, 17, 18, 19, 20, 21, 22, 23, 38, 39, 40, 41, 56, 57, 58, 59, 67, 68, 69, 71] F0 G0 F' G') := by
  unfold mb_array_408
  refine PP.ite (fun c_1 => ?_) (fun c_1 => ?_)
  · skip
    unfold mb_array_424
    exact mwj_array_425 ag_297 hag_297 x1 x2 x3 x4 x7 x8 z0 (0 : Int32) (F 42) F G hK
  · skip
    unfold mb_array_420
    exact mwj_array_425 ag_297 hag_297 x1 x2 x3 x4 x7 x8 z0 (1 : Int32) (F 42) F G hK
theorem mwj_array_407 {fu : Nat} {F0 : PF} {G0 : PG} (ag_297 : Int32 → Int32 → Int32 → Int32 → Int32 → Int32 → Int32 → PF → PG → PR) (hag_297 : ∀ (x1 : Int32) (x2 : Int32) (x3 : Int32) (x4 : Int32) (x7 : Int32) (x8 : Int32) (x9 : Int32) (F : PF) (G : PG) (hK : KX [14, 36, 37, 42, 43, 44, 45, 47, 48, 49, 54, 55, 60, 62, 70, 72] [16, 17, 18, 19, 20, 21, 22, 23, 38, 39, 40, 41, 56, 57, 58, 59, 67, 68, 69, 71] F0 G0 F G), PP (ag_297 x1 x2 x3 x4 x7 x8 x9 F G) (fun _ F' G' => KX [14, 36, 37, 42, 43, 44, 45, 47, 48, 49, 54, 55, 60, 62, 70, 72] [16, 17, 18, 19, 20, 21, 22, 23, 38, 39, 40, 41, 56, 57, 58, 59, 67, 68, 69, 71] F0 G0 F' G')) (x1 : Int32) (x2 : Int32) (x3 : Int32) (x4 : Int32) (x7 : Int32) (x8 : Int32) (F : PF) (G : PG) (hK : KX [14, 36, 37, 42, 43, 44, 45, 47, 48, 49, 54, 55, 60, 62, 70, 72] [16, 17, 18, 19, 20, 21, 22, 23, 38, 39, 40, 41, 56, 57, 58, 59, 67, 68, 69, 71] F0 G0 F G) : PP (mb_array_407 fu ag_297 x1 x2 x3 x4 x7 x8 F G) (fun _ F' G' => KX [14, 36, 37, 42, 43, 44, 45, 47, 48, 49, 54, 55, 60, 62, 70, 72] [16, 17, 18, 19, 20, 21, 22, 23, 38, 39, 40, 41, 56, 57, 58, 59, 67, 68, 69, 71] F0 G0 F' G') := by
  unfold mb_array_407
  exact mwj_array_408 ag_297 hag_297 x1 x2 x3 x4 x7 x8 (0 : Int32) F G hK
theorem mwj_array_384 {fu : Nat} {F0 : PF} {G0 : PG} (ag_297 : Int32 → Int32 → Int32 → Int32 → Int32 → Int32 → Int32 → PF → PG → PR) (hag_297 : ∀ (x1 : Int32) (x2 : Int32) (x3 : Int32) (x4 : Int32) (x7 : Int32) (x8 : Int32) (x9 : Int32) (F : PF) (G : PG) (hK : KX [14, 36, 37, 42, 43, 44, 45, 47, 48, 49, 54, 55, 60, 62, 70, 72] [16, 17, 18, 19, 20, 21, 22, 23, 38, 39, 40, 41, 56, 57, 58, 59, 67, 68, 69, 71] F0 G0 F G), PP (ag_297 x1 x2 x3 x4 x7 x8 x9 F G) (fun _ F' G' => KX [14, 36, 37, 42, 43, 44, 45, 47, 48, 49, 54, 55, 60, 62, 70, 72] [16, 17, 18, 19, 20, 21, 22, 23, 38, 39, 40, 41, 56, 57, 58, 59, 67, 68, 69, 71] F0 G0 F' G')) (x1 : Int32) (x2 : Int32) (x3 : Int32) (x4 : Int32) (x7 : Int32) (x8 : Int32) (F : PF) (G : PG) (hK : KX [14, 36, 37, 42, 43, 44, 45, 47, 48, 49, 54, 55, 60, 62, 70, 72] [16, 17, 18, 19, 20, 21, 22, 23, 38, 39, 40, 41, 56, 57, 58, 59, 67, 68, 69, 71] F0 G0 F G) : PP (mb_array_384 fu ag_297 x1 x2 x3 x4 x7 x8 F G) (fun _ F' G' => KX [14, 36, 37, 42, 43, 44, 45, 47, 48, 49, 54, 55, 60, 62, 70, 72] [16, 17, 18, 19, 20, 21, 22, 23, 38, 39, 40, 41, 56, 57, 58, 59, 67, 68, 69, 71] F0 G0 F' G') := by
  unfold mb_array_384
  refine PP.ite (fun c_1 => ?_) (fun c_1 => ?_)
  · skip
    unfold mb_array_394
    refine PP.bind (mw_isSign (28 : Int32) F G) ?_
    intro r2 F2 G2 hK2
    dsimp only
    unfold mb_array_400
    refine PP.ite (fun c_3 => ?_) (fun c_3 => ?_)
    · skip
      exact mwj_array_407 ag_297 hag_297 x1 x2 x3 x4 x7 (x8 + (1 : Int32)) F2 G2 (KX.tr hK hK2 rfl rfl)
    · skip
      unfold mb_array_403
      exact mwj_array_408 ag_297 hag_297 x1 x2 x3 x4 x7 (x8 + (1 : Int32)) (1 : Int32) F2 G2 (KX.tr hK hK2 rfl rfl)
  · skip
    exact mwj_array_407 ag_297 hag_297 x1 x2 x3 x4 x7 (x8 + (1 : Int32)) F G hK
theorem mwj_array_383 {fu : Nat} {F0 : PF} {G0 : PG} (ag_297 : Int32 → Int32 → Int32 → Int32 → Int32 → Int32 → Int32 → PF → PG → PR) (hag_297 : ∀ (x1 : Int32) (x2 : Int32) (x3 : Int32) (x4 : Int32) (x7 : Int32) (x8 : Int32) (x9 : Int32) (F : PF) (G : PG) (hK : KX [14, 36, 37, 42, 43, 44, 45, 47, 48, 49, 54, 55, 60, 62, 70, 72] [16, 17, 18, 19, 20, 21, 22, 23, 38, 39, 40, 41, 56, 57, 58, 59, 67, 68, 69, 71] F0 G0 F G), PP (ag_297 x1 x2 x3 x4 x7 x8 x9 F G) (fun _ F' G' => KX [14, 36, 37, 42, 43, 44, 45, 47, 48, 49, 54, 55, 60, 62, 70, 72] [16, 17, 18, 19, 20, 21, 22, 23, 38, 39, 40, 41, 56, 57, 58, 59, 67, 68, 69, 71] F0 G0 F' G')) (x1 : Int32) (x2 : Int32) (x3 : Int32) (x4 : Int32) (x7 : Int32) (x8 : Int32) (z0 : Int32) (z1 : Int32) (F : PF) (G : PG) (hK : KX [14, 36, 37, 42, 43, 44, 45, 47, 48, 49, 54, 55, 60, 62, 70, 72] [16, 17, 18, 19, 20, 21, 22, 23, 38, 39, 40, 41, 56, 57, 58, 59, 67, 68, 69, 71] F0 G0 F G) : PP (mb_array_383 fu ag_297 x1 x2 x3 x4 x7 x8 z0 z1 F G) (fun _ F' G' => KX [14, 36, 37, 42, 43, 44, 45, 47, 48, 49, 54, 55, 60, 62, 70, 72] [16, 17, 18, 19, 20, 21, 22, 23, 38, 39, 40, 41, 56, 57, 58, 59, 67, 68, 69, 71] F0 G0 F' G') := by
  unfold mb_array_383
  refine PP.ix (fun _ => ?_)
  exact mwj_array_384 ag_297 hag_297 x1 x2 x3 x4 x7 x8 F (gup G 41 z1.toNatClampNeg z0) (KX.g (k := 41) rfl hK)
theorem mwj_array_345 {fu : Nat} {F0 : PF} {G0 : PG} (ag_297 : Int32 → Int32 → Int32 → Int32 → Int32 → Int32 → Int32 → PF → PG → PR) (hag_297 : ∀ (x1 : Int32) (x2 : Int32) (x3 : Int32) (x4 : Int32) (x7 : Int32) (x8 : Int32) (x9 : Int32) (F : PF) (G : PG) (hK : KX [14, 36, 37, 42, 43, 44, 45, 47, 48, 49, 54, 55, 60, 62, 70, 72] [16, 17, 18, 19, 20, 21, 22, 23, 38, 39, 40, 41, 56, 57, 58, 59, 67, 68, 69, 71] F0 G0 F G), PP (ag_297 x1 x2 x3 x4 x7 x8 x9 F G) (fun _ F' G' => KX [14, 36, 37, 42, 43, 44, 45, 47, 48, 49, 54, 55, 60, 62, 70, 72] [16, 17, 18, 19, 20, 21, 22, 23, 38, 39, 40, 41, 56, 57, 58, 59, 67, 68, 69, 71] F0 G0 F' G')) (x1 : Int32) (x2 : Int32) (x3 : Int32) (x4 : Int32) (x7 : Int32) (x8 : Int32) (x11 : Int32) (F : PF) (G : PG) (hK : KX [14, 36, 37, 42, 43, 44, 45, 47, 48, 49, 54, 55, 60, 62, 70, 72] [16, 17, 18, 19, 20, 21, 22, 23, 38, 39, 40, 41, 56, 57, 58, 59, 67, 68, 69, 71] F0 G0 F G) : PP (mb_array_345 fu ag_297 x1 x2 x3 x4 x7 x8 x11 F G) (fun _ F' G' => KX [14, 36, 37, 42, 43, 44, 45, 47, 48, 49, 54, 55, 60, 62, 70, 72] [16, 17, 18, 19, 20, 21, 22, 23, 38, 39, 40, 41, 56, 57, 58, 59, 67, 68, 69, 71] F0 G0 F' G') := by
  unfold mb_array_345
  refine PP.ite (fun c_1 => ?_) (fun c_1 => ?_)
  · skip
    exact mwj_array_384 ag_297 hag_297 x1 x2 x3 x4 x7 x8 F G hK
  · skip
    unfold mb_array_352
    refine PP.ite (fun c_2 => ?_) (fun c_2 => ?_)
    · skip
      exact mwj_array_384 ag_297 hag_297 x1 x2 x3 x4 x7 x8 F G hK
    · skip
      unfold mb_array_359
      refine PP.ite (fun c_3 => ?_) (fun c_3 => ?_)
      · skip
        unfold mb_array_381
        exact mwj_array_383 ag_297 hag_297 x1 x2 x3 x4 x7 x8 x11 (x4 + x8) F G hK
      · skip
        unfold mb_array_372
        exact mwj_array_383 ag_297 hag_297 x1 x2 x3 x4 x7 x8 (x11 &&& (255 : Int32)) (x4 + x8) F G hK
theorem mwz_array_297 {fu : Nat} {F0 : PF} {G0 : PG} : ∀ (n : Nat) (x1 : Int32) (x2 : Int32) (x3 : Int32) (x4 : Int32) (x7 : Int32) (x8 : Int32) (x9 : Int32) (F : PF) (G : PG) (hK : KX [14, 36, 37, 42, 43, 44, 45, 47, 48, 49, 54, 55, 60, 62, 70, 72] [16, 17, 18, 19, 20, 21, 22, 23, 38, 39, 40, 41, 56, 57, 58, 59, 67, 68, 69, 71] F0 G0 F G), PP (ml_array_297 fu n x1 x2 x3 x4 x7 x8 x9 F G) (fun _ F' G' => KX [14, 36, 37, 42, 43, 44, 45, 47, 48, 49, 54, 55, 60, 62, 70, 72] [16, 17, 18, 19, 20, 21, 22, 23, 38, 39, 40, 41, 56, 57, 58, 59, 67, 68, 69, 71] F0 G0 F' G') := by
  intro n
  induction n with
  | zero =>
    intro x1 x2 x3 x4 x7 x8 x9 F G hK
    exact PP.no
  | succ n ihn =>
    intro x1 x2 x3 x4 x7 x8 x9 F G hK
    show PP (mb_array_297 fu (ml_array_297 fu n) x1 x2 x3 x4 x7 x8 x9 F G) _
    unfold mb_array_297
    refine PP.ite (fun c_1 => ?_) (fun c_1 => ?_)
    · skip
      exact mwj_array_432 x1 x2 x3 x4 F G hK
    · skip
      unfold mb_array_302
      refine PP.ite (fun c_2 => ?_) (fun c_2 => ?_)
      · skip
        unfold mb_array_309
        refine PP.ix (fun _ => ?_)
        refine PP.bind (mw_value F G) ?_
        intro r3 F3 G3 hK3
        dsimp only
        unfold mb_array_324
        refine PP.ite (fun c_4 => ?_) (fun c_4 => ?_)
        · skip
          exact mwj_array_345 (ml_array_297 fu n) ihn x1 x2 x3 x4 x7 x8 r3 F3 G3 (KX.tr hK hK3 rfl rfl)
        · skip
          unfold mb_array_331
          refine PP.ite (fun c_5 => ?_) (fun c_5 => ?_)
          · skip
            unfold mb_array_337
            refine PP.bind (mw_note (10 : Int32) (G 6 (F 42).toNatClampNeg) F3 G3) ?_
            intro r6 F6 G6 hK6
            dsimp only
            exact mwj_array_345 (ml_array_297 fu n) ihn x1 x2 x3 x4 x7 x8 r3 F6 G6 (KX.tr (KX.tr hK hK3 rfl rfl) hK6 rfl rfl)
          · skip
            exact mwj_array_345 (ml_array_297 fu n) ihn x1 x2 x3 x4 x7 x8 r3 F3 G3 (KX.tr hK hK3 rfl rfl)
      · skip
        exact mwj_array_432 x1 x2 x3 x4 F G hK
theorem mwz_array_224 {fu : Nat} {F0 : PF} {G0 : PG} : ∀ (n : Nat) (x1 : Int32) (x2 : Int32) (x3 : Int32) (x4 : Int32) (x7 : Int32) (x8 : Int32) (F : PF) (G : PG) (hK : KX [14, 36, 37, 42, 43, 44, 45, 47, 48, 49, 54, 55, 60, 62, 70, 72] [16, 17, 18, 19, 20, 21, 22, 23, 38, 39, 40, 41, 56, 57, 58, 59, 67, 68, 69, 71] F0 G0 F G), PP (ml_array_224 fu n x1 x2 x3 x4 x7 x8 F G) (fun _ F' G' => KX [14, 36, 37, 42, 43, 44, 45, 47, 48, 49, 54, 55, 60, 62, 70, 72] [16, 17, 18, 19, 20, 21, 22, 23, 38, 39, 40, 41, 56, 57, 58, 59, 67, 68, 69, 71] F0 G0 F' G') := by
  intro n
  induction n with
  | zero =>
    intro x1 x2 x3 x4 x7 x8 F G hK
    exact PP.no
  | succ n ihn =>
    intro x1 x2 x3 x4 x7 x8 F G hK
    show PP (mb_array_224 fu (ml_array_224 fu n) x1 x2 x3 x4 x7 x8 F G) _
    unfold mb_array_224
    refine PP.ite (fun c_1 => ?_) (fun c_1 => ?_)
    · skip
      unfold mb_array_250
      unfold mb_array_261
      refine PP.bind (mw_isSign (32 : Int32) (fup F 37 ((F 37) + x7)) G) ?_
      intro r2 F2 G2 hK2
      dsimp only
      unfold mb_array_267
      refine PP.ite (fun c_3 => ?_) (fun c_3 => ?_)
      · skip
        exact mwj_array_443 x1 x2 x3 x4 F2 G2 (KX.tr (KX.f (k := 37) rfl hK) hK2 rfl rfl)
      · skip
        unfold mb_array_270
        unfold mb_array_280
        refine PP.bind (mw_openSign (26 : Int32) (fup F2 42 ((F2 42) + (1 : Int32))) G2) ?_
        intro r4 F4 G4 hK4
        dsimp only
        unfold mb_array_286
        refine PP.ite (fun c_5 => ?_) (fun c_5 => ?_)
        · skip
          unfold mb_array_289
          refine PP.ret ?_
          exact (KX.tr (KX.f (k := 42) rfl (KX.tr (KX.f (k := 37) rfl hK) hK2 rfl rfl)) hK4 rfl rfl)
        · skip
          unfold mb_array_291
          exact mwz_array_297 fu x1 x2 x3 x4 x7 (0 : Int32) (1 : Int32) F4 G4 (KX.tr (KX.f (k := 42) rfl (KX.tr (KX.f (k := 37) rfl hK) hK2 rfl rfl)) hK4 rfl rfl)
    · skip
      unfold mb_array_231
      refine PP.ix (fun _ => ?_)
      unfold mb_array_244
      exact ihn x1 x2 x3 x4 x7 (x8 + (1 : Int32)) F (gup G 41 ((F 37) + x8).toNatClampNeg (0 : Int32)) (KX.g (k := 41) rfl hK)
theorem mwj_array_219 {fu : Nat} {F0 : PF} {G0 : PG} (x1 : Int32) (x2 : Int32) (x3 : Int32) (x4 : Int32) (z0 : Int32) (F : PF) (G : PG) (hK : KX [14, 36, 37, 42, 43, 44, 45, 47, 48, 49, 54, 55, 60, 62, 70, 72] [16, 17, 18, 19, 20, 21, 22, 23, 38, 39, 40, 41, 56, 57, 58, 59, 67, 68, 69, 71] F0 G0 F G) : PP (mb_array_219 fu x1 x2 x3 x4 z0 F G) (fun _ F' G' => KX [14, 36, 37, 42, 43, 44, 45, 47, 48, 49, 54, 55, 60, 62, 70, 72] [16, 17, 18, 19, 20, 21, 22, 23, 38, 39, 40, 41, 56, 57, 58, 59, 67, 68, 69, 71] F0 G0 F' G') := by
  unfold mb_array_219
  exact mwz_array_224 fu x1 x2 x3 x4 z0 (0 : Int32) F G hK
theorem mwj_array_214 {fu : Nat} {F0 : PF} {G0 : PG} (x1 : Int32) (x2 : Int32) (x3 : Int32) (x4 : Int32) (F : PF) (G : PG) (hK : KX [14, 36, 37, 42, 43, 44, 45, 47, 48, 49, 54, 55, 60, 62, 70, 72] [16, 17, 18, 19, 20, 21, 22, 23, 38, 39, 40, 41, 56, 57, 58, 59, 67, 68, 69, 71] F0 G0 F G) : PP (mb_array_214 fu x1 x2 x3 x4 F G) (fun _ F' G' => KX [14, 36, 37, 42, 43, 44, 45, 47, 48, 49, 54, 55, 60, 62, 70, 72] [16, 17, 18, 19, 20, 21, 22, 23, 38, 39, 40, 41, 56, 57, 58, 59, 67, 68, 69, 71] F0 G0 F' G') := by
  unfold mb_array_214
  exact mwj_array_219 x1 x2 x3 x4 (0 : Int32) F G hK
theorem mwj_array_193 {fu : Nat} {F0 : PF} {G0 : PG} (x1 : Int32) (x2 : Int32) (x3 : Int32) (x4 : Int32) (x5 : Int32) (x6 : Int32) (F : PF) (G : PG) (hK : KX [14, 36, 37, 42, 43, 44, 45, 47, 48, 49, 54, 55, 60, 62, 70, 72] [16, 17, 18, 19, 20, 21, 22, 23, 38, 39, 40, 41, 56, 57, 58, 59, 67, 68, 69, 71] F0 G0 F G) : PP (mb_array_193 fu x1 x2 x3 x4 x5 x6 F G) (fun _ F' G' => KX [14, 36, 37, 42, 43, 44, 45, 47, 48, 49, 54, 55, 60, 62, 70, 72] [16, 17, 18, 19, 20, 21, 22, 23, 38, 39, 40, 41, 56, 57, 58, 59, 67, 68, 69, 71] F0 G0 F' G') := by
  unfold mb_array_193
  unfold mb_array_204
  refine PP.ite (fun c_1 => ?_) (fun c_1 => ?_)
  · skip
    exact mwj_array_214 x1 x2 x3 x4 (fup F 36 ((F 36) + x5)) G (KX.f (k := 36) rfl hK)
  · skip
    unfold mb_array_209
    refine PP.ite (fun c_2 => ?_) (fun c_2 => ?_)
    · skip
      exact mwj_array_214 x1 x2 x3 x4 (fup F 36 ((F 36) + x5)) G (KX.f (k := 36) rfl hK)
    · skip
      unfold mb_array_218
      exact mwj_array_219 x1 x2 x3 x4 x3 (fup F 36 ((F 36) + x5)) G (KX.f (k := 36) rfl hK)
theorem mwj_array_186 {fu : Nat} {F0 : PF} {G0 : PG} (ag_102 : Int32 → Int32 → Int32 → Int32 → Int32 → Int32 → Int32 → PF → PG → PR) (hag_102 : ∀ (x1 : Int32) (x2 : Int32) (x3 : Int32) (x4 : Int32) (x5 : Int32) (x6 : Int32) (x7 : Int32) (F : PF) (G : PG) (hK : KX [14, 36, 37, 42, 43, 44, 45, 47, 48, 49, 54, 55, 60, 62, 70, 72] [16, 17, 18, 19, 20, 21, 22, 23, 38, 39, 40, 41, 56, 57, 58, 59, 67, 68, 69, 71] F0 G0 F G), PP (ag_102 x1 x2 x3 x4 x5 x6 x7 F G) (fun _ F' G' => KX [14, 36, 37, 42, 43, 44, 45, 47, 48, 49, 54, 55, 60, 62, 70, 72] [16, 17, 18, 19, 20, 21, 22, 23, 38, 39, 40, 41, 56, 57, 58, 59, 67, 68, 69, 71] F0 G0 F' G')) (x1 : Int32) (x2 : Int32) (x3 : Int32) (x4 : Int32) (x5 : Int32) (x6 : Int32) (x7 : Int32) (z0 : Int32) (z1 : Int32) (F : PF) (G : PG) (hK : KX [14, 36, 37, 42, 43, 44, 45, 47, 48, 49, 54, 55, 60, 62, 70, 72] [16, 17, 18, 19, 20, 21, 22, 23, 38, 39, 40, 41, 56, 57, 58, 59, 67, 68, 69, 71] F0 G0 F G) : PP (mb_array_186 fu ag_102 x1 x2 x3 x4 x5 x6 x7 z0 z1 F G) (fun _ F' G' => KX [14, 36, 37, 42, 43, 44, 45, 47, 48, 49, 54, 55, 60, 62, 70, 72] [16, 17, 18, 19, 20, 21, 22, 23, 38, 39, 40, 41, 56, 57, 58, 59, 67, 68, 69, 71] F0 G0 F' G') := by
  unfold mb_array_186
  refine PP.ix (fun _ => ?_)
  unfold mb_array_187
  exact hag_102 x1 x2 x3 x4 x5 x6 (x7 + (1 : Int32)) F (gup G 38 z1.toNatClampNeg z0) (KX.g (k := 38) rfl hK)
theorem mwj_array_142 {fu : Nat} {F0 : PF} {G0 : PG} (ag_102 : Int32 → Int32 → Int32 → Int32 → Int32 → Int32 → Int32 → PF → PG → PR) (hag_102 : ∀ (x1 : Int32) (x2 : Int32) (x3 : Int32) (x4 : Int32) (x5 : Int32) (x6 : Int32) (x7 : Int32) (F : PF) (G : PG) (hK : KX [14, 36, 37, 42, 43, 44, 45, 47, 48, 49, 54, 55, 60, 62, 70, 72] [16, 17, 18, 19, 20, 21, 22, 23, 38, 39, 40, 41, 56, 57, 58, 59, 67, 68, 69, 71] F0 G0 F G), PP (ag_102 x1 x2 x3 x4 x5 x6 x7 F G) (fun _ F' G' => KX [14, 36, 37, 42, 43, 44, 45, 47, 48, 49, 54, 55, 60, 62, 70, 72] [16, 17, 18, 19, 20, 21, 22, 23, 38, 39, 40, 41, 56, 57, 58, 59, 67, 68, 69, 71] F0 G0 F' G')) (x1 : Int32) (x2 : Int32) (x3 : Int32) (x4 : Int32) (x5 : Int32) (x6 : Int32) (x7 : Int32) (z0 : Int32) (z1 : Int32) (z2 : Int32) (F : PF) (G : PG) (hK : KX [14, 36, 37, 42, 43, 44, 45, 47, 48, 49, 54, 55, 60, 62, 70, 72] [16, 17, 18, 19, 20, 21, 22, 23, 38, 39, 40, 41, 56, 57, 58, 59, 67, 68, 69, 71] F0 G0 F G) : PP (mb_array_142 fu ag_102 x1 x2 x3 x4 x5 x6 x7 z0 z1 z2 F G) (fun _ F' G' => KX [14, 36, 37, 42, 43, 44, 45, 47, 48, 49, 54, 55, 60, 62, 70, 72] [16, 17, 18, 19, 20, 21, 22, 23, 38, 39, 40, 41, 56, 57, 58, 59, 67, 68, 69, 71] F0 G0 F' G') := by
  unfold mb_array_142
  refine PP.ix (fun _ => ?_)
  unfold mb_array_144
  refine PP.ix (fun _ => ?_)
  unfold mb_array_157
  refine PP.ite (fun c_1 => ?_) (fun c_1 => ?_)
  · skip
    unfold mb_array_185
    exact mwj_array_186 ag_102 hag_102 x1 x2 x3 x4 x5 x6 x7 (1 : Int32) ((F 36) + x7) F (gup (gup G 39 z2.toNatClampNeg (z1 + z0)) 40 ((F 36) + x7).toNatClampNeg (vp_nar .boolean x2)) (KX.g (k := 40) rfl (KX.g (k := 39) rfl hK))
  · skip
    unfold mb_array_172
    unfold mb_array_182
    exact mwj_array_186 ag_102 hag_102 x1 x2 x3 x4 x5 x6 x7 (if (x3 - ((4 : Int32) * x7)) < (4 : Int32) then (x3 - ((4 : Int32) * x7)) else (4 : Int32)) ((F 36) + x7) F (gup (gup G 39 z2.toNatClampNeg (z1 + z0)) 40 ((F 36) + x7).toNatClampNeg (vp_nar .boolean x2)) (KX.g (k := 40) rfl (KX.g (k := 39) rfl hK))
theorem mwz_array_102 {fu : Nat} {F0 : PF} {G0 : PG} : ∀ (n : Nat) (x1 : Int32) (x2 : Int32) (x3 : Int32) (x4 : Int32) (x5 : Int32) (x6 : Int32) (x7 : Int32) (F : PF) (G : PG) (hK : KX [14, 36, 37, 42, 43, 44, 45, 47, 48, 49, 54, 55, 60, 62, 70, 72] [16, 17, 18, 19, 20, 21, 22, 23, 38, 39, 40, 41, 56, 57, 58, 59, 67, 68, 69, 71] F0 G0 F G), PP (ml_array_102 fu n x1 x2 x3 x4 x5 x6 x7 F G) (fun _ F' G' => KX [14, 36, 37, 42, 43, 44, 45, 47, 48, 49, 54, 55, 60, 62, 70, 72] [16, 17, 18, 19, 20, 21, 22, 23, 38, 39, 40, 41, 56, 57, 58, 59, 67, 68, 69, 71] F0 G0 F' G') := by
  intro n
  induction n with
  | zero =>
    intro x1 x2 x3 x4 x5 x6 x7 F G hK
    exact PP.no
  | succ n ihn =>
    intro x1 x2 x3 x4 x5 x6 x7 F G hK
    show PP (mb_array_102 fu (ml_array_102 fu n) x1 x2 x3 x4 x5 x6 x7 F G) _
    unfold mb_array_102
    refine PP.ite (fun c_1 => ?_) (fun c_1 => ?_)
    · skip
      exact mwj_array_193 x1 x2 x3 x4 x5 x6 F G hK
    · skip
      unfold mb_array_109
      refine PP.ite (fun c_2 => ?_) (fun c_2 => ?_)
      · skip
        exact mwj_array_193 x1 x2 x3 x4 x5 x6 F G hK
      · skip
        unfold mb_array_114
        refine PP.ite (fun c_3 => ?_) (fun c_3 => ?_)
        · skip
          unfold mb_array_140
          exact mwj_array_142 (ml_array_102 fu n) ihn x1 x2 x3 x4 x5 x6 x7 x7 (F 37) ((F 36) + x7) F G hK
        · skip
          unfold mb_array_133
          exact mwj_array_142 (ml_array_102 fu n) ihn x1 x2 x3 x4 x5 x6 x7 ((4 : Int32) * x7) (F 37) ((F 36) + x7) F G hK
theorem mwj_array_99 {fu : Nat} {F0 : PF} {G0 : PG} (x1 : Int32) (x2 : Int32) (x3 : Int32) (x4 : Int32) (x5 : Int32) (x6 : Int32) (F : PF) (G : PG) (hK : KX [14, 36, 37, 42, 43, 44, 45, 47, 48, 49, 54, 55, 60, 62, 70, 72] [16, 17, 18, 19, 20, 21, 22, 23, 38, 39, 40, 41, 56, 57, 58, 59, 67, 68, 69, 71] F0 G0 F G) : PP (mb_array_99 fu x1 x2 x3 x4 x5 x6 F G) (fun _ F' G' => KX [14, 36, 37, 42, 43, 44, 45, 47, 48, 49, 54, 55, 60, 62, 70, 72] [16, 17, 18, 19, 20, 21, 22, 23, 38, 39, 40, 41, 56, 57, 58, 59, 67, 68, 69, 71] F0 G0 F' G') := by
  unfold mb_array_99
  exact mwz_array_102 fu x1 x2 x3 x4 x5 x6 (0 : Int32) F G hK
theorem mwj_array_80 {fu : Nat} {F0 : PF} {G0 : PG} (x1 : Int32) (x2 : Int32) (x3 : Int32) (x4 : Int32) (x5 : Int32) (z0 : Int32) (F : PF) (G : PG) (hK : KX [14, 36, 37, 42, 43, 44, 45, 47, 48, 49, 54, 55, 60, 62, 70, 72] [16, 17, 18, 19, 20, 21, 22, 23, 38, 39, 40, 41, 56, 57, 58, 59, 67, 68, 69, 71] F0 G0 F G) : PP (mb_array_80 fu x1 x2 x3 x4 x5 z0 F G) (fun _ F' G' => KX [14, 36, 37, 42, 43, 44, 45, 47, 48, 49, 54, 55, 60, 62, 70, 72] [16, 17, 18, 19, 20, 21, 22, 23, 38, 39, 40, 41, 56, 57, 58, 59, 67, 68, 69, 71] F0 G0 F' G') := by
  unfold mb_array_80
  refine PP.ite (fun c_1 => ?_) (fun c_1 => ?_)
  · skip
    unfold mb_array_87
    refine PP.ix (fun _ => ?_)
    refine PP.bind (mw_note (11 : Int32) (G 6 x1.toNatClampNeg) F G) ?_
    intro r2 F2 G2 hK2
    dsimp only
    exact mwj_array_99 x1 x2 x3 x4 x5 z0 F2 G2 (KX.tr hK hK2 rfl rfl)
  · skip
    exact mwj_array_99 x1 x2 x3 x4 x5 z0 F G hK
theorem mwj_array_60 {fu : Nat} {F0 : PF} {G0 : PG} (x1 : Int32) (x2 : Int32) (x3 : Int32) (x4 : Int32) (z0 : Int32) (F : PF) (G : PG) (hK : KX [14, 36, 37, 42, 43, 44, 45, 47, 48, 49, 54, 55, 60, 62, 70, 72] [16, 17, 18, 19, 20, 21, 22, 23, 38, 39, 40, 41, 56, 57, 58, 59, 67, 68, 69, 71] F0 G0 F G) : PP (mb_array_60 fu x1 x2 x3 x4 z0 F G) (fun _ F' G' => KX [14, 36, 37, 42, 43, 44, 45, 47, 48, 49, 54, 55, 60, 62, 70, 72] [16, 17, 18, 19, 20, 21, 22, 23, 38, 39, 40, 41, 56, 57, 58, 59, 67, 68, 69, 71] F0 G0 F' G') := by
  unfold mb_array_60
  refine PP.ite (fun c_1 => ?_) (fun c_1 => ?_)
  · skip
    unfold mb_array_79
    exact mwj_array_80 x1 x2 x3 x4 z0 (0 : Int32) F G hK
  · skip
    unfold mb_array_75
    exact mwj_array_80 x1 x2 x3 x4 z0 (1 : Int32) F G hK
theorem mw_array {fu : Nat} (x1 : Int32) (x2 : Int32) (F : PF) (G : PG) : PP (mf_array fu x1 x2 F G) (fun _ F' G' => KX [14, 36, 37, 42, 43, 44, 45, 47, 48, 49, 54, 55, 60, 62, 70, 72] [16, 17, 18, 19, 20, 21, 22, 23, 38, 39, 40, 41, 56, 57, 58, 59, 67, 68, 69, 71] F G F' G') := by
  unfold mf_array
  unfold mb_array_0
  refine PP.bind (mw_twice x1 F G) ?_
  intro r1 F1 G1 hK1
  dsimp only
  unfold mb_array_5
  refine PP.bind (mw_openSign (24 : Int32) F1 G1) ?_
  intro r2 F2 G2 hK2
  dsimp only
  unfold mb_array_11
  refine PP.ite (fun c_3 => ?_) (fun c_3 => ?_)
  · skip
    unfold mb_array_14
    refine PP.ret ?_
    exact (KX.tr (KX.tr KX.rf hK1 rfl rfl) hK2 rfl rfl)
  · skip
    unfold mb_array_16
    refine PP.bind (mw_sizeHere F2 G2) ?_
    intro r4 F4 G4 hK4
    dsimp only
    unfold mb_array_20
    refine PP.bind (mw_closeSign (25 : Int32) F4 G4) ?_
    intro r5 F5 G5 hK5
    dsimp only
    unfold mb_array_27
    refine PP.ite (fun c_6 => ?_) (fun c_6 => ?_)
    · skip
      unfold mb_array_30
      refine PP.ret ?_
      exact (KX.tr (KX.tr (KX.tr (KX.tr KX.rf hK1 rfl rfl) hK2 rfl rfl) hK4 rfl rfl) hK5 rfl rfl)
    · skip
      unfold mb_array_32
      refine PP.ite (fun c_7 => ?_) (fun c_7 => ?_)
      · skip
        unfold mb_array_43
        exact mwj_array_60 x1 x2 r4 (F5 37) (0 : Int32) F5 G5 (KX.tr (KX.tr (KX.tr (KX.tr KX.rf hK1 rfl rfl) hK2 rfl rfl) hK4 rfl rfl) hK5 rfl rfl)
      · skip
        unfold mb_array_47
        refine PP.ite (fun c_8 => ?_) (fun c_8 => ?_)
        · skip
          unfold mb_array_59
          exact mwj_array_60 x1 x2 r4 (F5 37) r4 F5 G5 (KX.tr (KX.tr (KX.tr (KX.tr KX.rf hK1 rfl rfl) hK2 rfl rfl) hK4 rfl rfl) hK5 rfl rfl)
        · skip
          unfold mb_array_51
          exact mwj_array_60 x1 x2 r4 (F5 37) ((r4 + (3 : Int32)) / (4 : Int32)) F5 G5 (KX.tr (KX.tr (KX.tr (KX.tr KX.rf hK1 rfl rfl) hK2 rfl rfl) hK4 rfl rfl) hK5 rfl rfl)
theorem mwj_constantTold_54 {fu : Nat} {F0 : PF} {G0 : PG} (z0 : Int32) (z1 : Int32) (z2 : Int32) (z3 : Int32) (z4 : Int32) (F : PF) (G : PG) (hK : KX [14, 42, 43, 44, 45, 47, 48, 49, 54, 55, 60, 62, 70, 72] [16, 17, 18, 19, 20, 21, 22, 23, 56, 57, 58, 59, 67, 68, 69, 71] F0 G0 F G) : PP (mb_constantTold_54 fu z0 z1 z2 z3 z4 F G) (fun _ F' G' => KX [14, 42, 43, 44, 45, 47, 48, 49, 54, 55, 60, 62, 70, 72] [16, 17, 18, 19, 20, 21, 22, 23, 56, 57, 58, 59, 67, 68, 69, 71] F0 G0 F' G') := by
  unfold mb_constantTold_54
  refine PP.bind (mw_declare z4 z3 z2 z1 z0 (0 : Int32) F G) ?_
  intro r1 F1 G1 hK1
  dsimp only
  unfold mb_constantTold_58
  refine PP.bind (mw_sign (29 : Int32) F1 G1) ?_
  intro r2 F2 G2 hK2
  dsimp only
  unfold mb_constantTold_64
  refine PP.bz (fun _ => ?_)
  refine PP.ret ?_
  exact (KX.tr (KX.tr hK hK1 rfl rfl) hK2 rfl rfl)
theorem mw_constantTold {fu : Nat} (F : PF) (G : PG) : PP (mf_constantTold fu F G) (fun _ F' G' => KX [14, 42, 43, 44, 45, 47, 48, 49, 54, 55, 60, 62, 70, 72] [16, 17, 18, 19, 20, 21, 22, 23, 56, 57, 58, 59, 67, 68, 69, 71] F G F' G') := by
  unfold mf_constantTold
  unfold mb_constantTold_0
  refine PP.bind (mw_name F G) ?_
  intro r1 F1 G1 hK1
  dsimp only
  unfold mb_constantTold_4
  refine PP.bind (mw_sign (32 : Int32) F1 G1) ?_
  intro r2 F2 G2 hK2
  dsimp only
  unfold mb_constantTold_11
  refine PP.ite (fun c_3 => ?_) (fun c_3 => ?_)
  · skip
    unfold mb_constantTold_14
    refine PP.ret ?_
    exact (KX.tr (KX.tr KX.rf hK1 rfl rfl) hK2 rfl rfl)
  · skip
    unfold mb_constantTold_16
    refine PP.bind (mw_value F2 G2) ?_
    intro r4 F4 G4 hK4
    dsimp only
    unfold mb_constantTold_20
    refine PP.ite (fun c_5 => ?_) (fun c_5 => ?_)
    · skip
      unfold mb_constantTold_30
      refine PP.bind (mw_twice r1 F4 G4) ?_
      intro r6 F6 G6 hK6
      dsimp only
      unfold mb_constantTold_40
      refine PP.ite (fun c_7 => ?_) (fun c_7 => ?_)
      · skip
        unfold mb_constantTold_53
        exact mwj_constantTold_54 (1 : Int32) r4 (0 : Int32) (0 : Int32) r1 F6 G6 (KX.tr (KX.tr (KX.tr (KX.tr KX.rf hK1 rfl rfl) hK2 rfl rfl) hK4 rfl rfl) hK6 rfl rfl)
      · skip
        unfold mb_constantTold_49
        exact mwj_constantTold_54 (-1 : Int32) r4 (0 : Int32) (0 : Int32) r1 F6 G6 (KX.tr (KX.tr (KX.tr (KX.tr KX.rf hK1 rfl rfl) hK2 rfl rfl) hK4 rfl rfl) hK6 rfl rfl)
    · skip
      unfold mb_constantTold_28
      refine PP.ret ?_
      exact (KX.tr (KX.tr (KX.tr KX.rf hK1 rfl rfl) hK2 rfl rfl) hK4 rfl rfl)
theorem mwj_globalAt_100 {fu : Nat} {F0 : PF} {G0 : PG} (x2 : Int32) (F : PF) (G : PG) (hK : KX [36, 37, 47, 48, 49] [38, 39, 40, 41] F0 G0 F G) : PP (mb_globalAt_100 fu x2 F G) (fun _ F' G' => KX [36, 37, 47, 48, 49] [38, 39, 40, 41] F0 G0 F' G') := by
  unfold mb_globalAt_100
  refine PP.ret ?_
  exact hK
theorem mwj_globalAt_73 {fu : Nat} {F0 : PF} {G0 : PG} (x2 : Int32) (F : PF) (G : PG) (hK : KX [36, 37, 47, 48, 49] [38, 39, 40, 41] F0 G0 F G) : PP (mb_globalAt_73 fu x2 F G) (fun _ F' G' => KX [36, 37, 47, 48, 49] [38, 39, 40, 41] F0 G0 F' G') := by
  unfold mb_globalAt_73
  refine PP.ite (fun c_1 => ?_) (fun c_1 => ?_)
  · skip
    exact mwj_globalAt_100 x2 F G hK
  · skip
    unfold mb_globalAt_80
    refine PP.ix (fun _ => ?_)
    unfold mb_globalAt_90
    exact mwj_globalAt_100 x2 (fup F 37 ((F 37) + (1 : Int32))) (gup G 41 (F 37).toNatClampNeg (0 : Int32)) (KX.f (k := 37) rfl (KX.g (k := 41) rfl hK))
theorem mwj_globalAt_42 {fu : Nat} {F0 : PF} {G0 : PG} (x2 : Int32) (F : PF) (G : PG) (hK : KX [36, 37, 47, 48, 49] [38, 39, 40, 41] F0 G0 F G) : PP (mb_globalAt_42 fu x2 F G) (fun _ F' G' => KX [36, 37, 47, 48, 49] [38, 39, 40, 41] F0 G0 F' G') := by
  unfold mb_globalAt_42
  refine PP.ite (fun c_1 => ?_) (fun c_1 => ?_)
  · skip
    exact mwj_globalAt_73 x2 F G hK
  · skip
    unfold mb_globalAt_49
    refine PP.ix (fun _ => ?_)
    unfold mb_globalAt_56
    refine PP.ix (fun _ => ?_)
    unfold mb_globalAt_63
    refine PP.ix (fun _ => ?_)
    exact mwj_globalAt_73 x2 F (gup (gup (gup G 38 x2.toNatClampNeg (1 : Int32)) 40 x2.toNatClampNeg (vp_nar .boolean (0 : Int32))) 39 x2.toNatClampNeg (F 37)) (KX.g (k := 39) rfl (KX.g (k := 40) rfl (KX.g (k := 38) rfl hK)))
theorem mw_globalAt {fu : Nat} (x1 : Int32) (F : PF) (G : PG) : PP (mf_globalAt fu x1 F G) (fun _ F' G' => KX [36, 37, 47, 48, 49] [38, 39, 40, 41] F G F' G') := by
  unfold mf_globalAt
  unfold mb_globalAt_0
  refine PP.bind (mw_twice x1 F G) ?_
  intro r1 F1 G1 hK1
  dsimp only
  unfold mb_globalAt_5
  unfold mb_globalAt_20
  refine PP.ite (fun c_2 => ?_) (fun c_2 => ?_)
  · skip
    exact mwj_globalAt_42 (F1 36) (fup F1 36 ((F1 36) + (1 : Int32))) G1 (KX.f (k := 36) rfl (KX.tr KX.rf hK1 rfl rfl))
  · skip
    unfold mb_globalAt_30
    refine PP.ix (fun _ => ?_)
    refine PP.bind (mw_note (11 : Int32) (G1 6 x1.toNatClampNeg) (fup F1 36 ((F1 36) + (1 : Int32))) G1) ?_
    intro r3 F3 G3 hK3
    dsimp only
    exact mwj_globalAt_42 (F1 36) F3 G3 (KX.tr (KX.f (k := 36) rfl (KX.tr KX.rf hK1 rfl rfl)) hK3 rfl rfl)
theorem mw_globalInt {fu : Nat} (x1 : Int32) (F : PF) (G : PG) : PP (mf_globalInt fu x1 F G) (fun _ F' G' => KX [14, 36, 37, 47, 48, 49] [16, 17, 18, 19, 20, 21, 22, 23, 38, 39, 40, 41] F G F' G') := by
  unfold mf_globalInt
  unfold mb_globalInt_0
  refine PP.bind (mw_globalAt x1 F G) ?_
  intro r1 F1 G1 hK1
  dsimp only
  unfold mb_globalInt_5
  unfold mb_globalInt_21
  refine PP.ix (fun _ => ?_)
  refine PP.bind (mw_declare x1 (1 : Int32) (0 : Int32) (G1 39 (if (2000 : Int32) < r1 then (2000 : Int32) else r1).toNatClampNeg) (1 : Int32) (0 : Int32) F1 G1) ?_
  intro r2 F2 G2 hK2
  dsimp only
  unfold mb_globalInt_27
  refine PP.ret ?_
  exact (KX.tr (KX.tr KX.rf hK1 rfl rfl) hK2 rfl rfl)
theorem mw_begins {fu : Nat} (F : PF) (G : PG) : PP (mf_begins fu F G) (fun _ F' G' => KX [15] [] F G F' G') := by
  unfold mf_begins
  unfold mb_begins_0
  unfold mb_begins_10
  refine PP.ret ?_
  exact (KX.f (k := 15) rfl KX.rf)
theorem mwj_formalHere_185 {fu : Nat} {F0 : PF} {G0 : PG} (z0 : Int32) (F : PF) (G : PG) (hK : KX [14, 42, 43, 44, 45, 47, 48, 49, 53] [16, 17, 18, 19, 20, 21, 22, 23] F0 G0 F G) : PP (mb_formalHere_185 fu z0 F G) (fun _ F' G' => KX [14, 42, 43, 44, 45, 47, 48, 49, 53] [16, 17, 18, 19, 20, 21, 22, 23] F0 G0 F' G') := by
  unfold mb_formalHere_185
  refine PP.ret ?_
  exact hK
theorem mwj_formalHere_163 {fu : Nat} {F0 : PF} {G0 : PG} (x2 : Int32) (x4 : Int32) (z0 : Int32) (z1 : Int32) (F : PF) (G : PG) (hK : KX [14, 42, 43, 44, 45, 47, 48, 49, 53] [16, 17, 18, 19, 20, 21, 22, 23] F0 G0 F G) : PP (mb_formalHere_163 fu x2 x4 z0 z1 F G) (fun _ F' G' => KX [14, 42, 43, 44, 45, 47, 48, 49, 53] [16, 17, 18, 19, 20, 21, 22, 23] F0 G0 F' G') := by
  unfold mb_formalHere_163
  unfold mb_formalHere_167
  refine PP.ite (fun c_1 => ?_) (fun c_1 => ?_)
  · skip
    unfold mb_formalHere_172
    exact mwj_formalHere_185 (0 : Int32) (fup F 53 (z1 + z0)) G (KX.f (k := 53) rfl hK)
  · skip
    unfold mb_formalHere_176
    refine PP.ite (fun c_2 => ?_) (fun c_2 => ?_)
    · skip
      unfold mb_formalHere_184
      exact mwj_formalHere_185 (1 : Int32) (fup F 53 (z1 + z0)) G (KX.f (k := 53) rfl hK)
    · skip
      unfold mb_formalHere_180
      exact mwj_formalHere_185 (2 : Int32) (fup F 53 (z1 + z0)) G (KX.f (k := 53) rfl hK)
theorem mwj_formalHere_144 {fu : Nat} {F0 : PF} {G0 : PG} (x2 : Int32) (x4 : Int32) (z0 : Int32) (z1 : Int32) (z2 : Int32) (z3 : Int32) (z4 : Int32) (F : PF) (G : PG) (hK : KX [14, 42, 43, 44, 45, 47, 48, 49, 53] [16, 17, 18, 19, 20, 21, 22, 23] F0 G0 F G) : PP (mb_formalHere_144 fu x2 x4 z0 z1 z2 z3 z4 F G) (fun _ F' G' => KX [14, 42, 43, 44, 45, 47, 48, 49, 53] [16, 17, 18, 19, 20, 21, 22, 23] F0 G0 F' G') := by
  unfold mb_formalHere_144
  refine PP.bind (mw_declare z4 z3 z2 z1 z0 (1 : Int32) F G) ?_
  intro r1 F1 G1 hK1
  dsimp only
  unfold mb_formalHere_148
  refine PP.ite (fun c_2 => ?_) (fun c_2 => ?_)
  · skip
    unfold mb_formalHere_162
    exact mwj_formalHere_163 x2 x4 (1 : Int32) (F1 53) F1 G1 (KX.tr hK hK1 rfl rfl)
  · skip
    unfold mb_formalHere_158
    exact mwj_formalHere_163 x2 x4 (2 : Int32) (F1 53) F1 G1 (KX.tr hK hK1 rfl rfl)
theorem mwj_formalHere_129 {fu : Nat} {F0 : PF} {G0 : PG} (x2 : Int32) (x4 : Int32) (z0 : Int32) (z1 : Int32) (F : PF) (G : PG) (hK : KX [14, 42, 43, 44, 45, 47, 48, 49, 53] [16, 17, 18, 19, 20, 21, 22, 23] F0 G0 F G) : PP (mb_formalHere_129 fu x2 x4 z0 z1 F G) (fun _ F' G' => KX [14, 42, 43, 44, 45, 47, 48, 49, 53] [16, 17, 18, 19, 20, 21, 22, 23] F0 G0 F' G') := by
  unfold mb_formalHere_129
  refine PP.ite (fun c_1 => ?_) (fun c_1 => ?_)
  · skip
    unfold mb_formalHere_143
    exact mwj_formalHere_144 x2 x4 (1 : Int32) (F 53) x2 z0 z1 F G hK
  · skip
    unfold mb_formalHere_139
    exact mwj_formalHere_144 x2 x4 (-1 : Int32) (F 53) x2 z0 z1 F G hK
theorem mwj_formalHere_117 {fu : Nat} {F0 : PF} {G0 : PG} (x2 : Int32) (x3 : Int32) (x4 : Int32) (F : PF) (G : PG) (hK : KX [14, 42, 43, 44, 45, 47, 48, 49, 53] [16, 17, 18, 19, 20, 21, 22, 23] F0 G0 F G) : PP (mb_formalHere_117 fu x2 x3 x4 F G) (fun _ F' G' => KX [14, 42, 43, 44, 45, 47, 48, 49, 53] [16, 17, 18, 19, 20, 21, 22, 23] F0 G0 F' G') := by
  unfold mb_formalHere_117
  refine PP.ite (fun c_1 => ?_) (fun c_1 => ?_)
  · skip
    unfold mb_formalHere_128
    exact mwj_formalHere_129 x2 x4 (1 : Int32) x3 F G hK
  · skip
    unfold mb_formalHere_124
    exact mwj_formalHere_129 x2 x4 (2 : Int32) x3 F G hK
theorem mwj_formalHere_115 {fu : Nat} {F0 : PF} {G0 : PG} (F : PF) (G : PG) (hK : KX [14, 42, 43, 44, 45, 47, 48, 49, 53] [16, 17, 18, 19, 20, 21, 22, 23] F0 G0 F G) : PP (mb_formalHere_115 fu F G) (fun _ F' G' => KX [14, 42, 43, 44, 45, 47, 48, 49, 53] [16, 17, 18, 19, 20, 21, 22, 23] F0 G0 F' G') := by
  unfold mb_formalHere_115
  refine PP.ret ?_
  exact hK
theorem mwj_formalHere_90 {fu : Nat} {F0 : PF} {G0 : PG} (x2 : Int32) (x3 : Int32) (z0 : Int32) (F : PF) (G : PG) (hK : KX [14, 42, 43, 44, 45, 47, 48, 49, 53] [16, 17, 18, 19, 20, 21, 22, 23] F0 G0 F G) : PP (mb_formalHere_90 fu x2 x3 z0 F G) (fun _ F' G' => KX [14, 42, 43, 44, 45, 47, 48, 49, 53] [16, 17, 18, 19, 20, 21, 22, 23] F0 G0 F' G') := by
  unfold mb_formalHere_90
  refine PP.ite (fun c_1 => ?_) (fun c_1 => ?_)
  · skip
    exact mwj_formalHere_117 x2 x3 z0 F G hK
  · skip
    unfold mb_formalHere_97
    refine PP.bind (mw_openSign (24 : Int32) F G) ?_
    intro r2 F2 G2 hK2
    dsimp only
    unfold mb_formalHere_103
    refine PP.ite (fun c_3 => ?_) (fun c_3 => ?_)
    · skip
      exact mwj_formalHere_115 F2 G2 (KX.tr hK hK2 rfl rfl)
    · skip
      unfold mb_formalHere_106
      refine PP.bind (mw_closeSign (25 : Int32) F2 G2) ?_
      intro r4 F4 G4 hK4
      dsimp only
      unfold mb_formalHere_112
      refine PP.ite (fun c_5 => ?_) (fun c_5 => ?_)
      · skip
        exact mwj_formalHere_115 F4 G4 (KX.tr (KX.tr hK hK2 rfl rfl) hK4 rfl rfl)
      · skip
        exact mwj_formalHere_117 x2 x3 z0 F4 G4 (KX.tr (KX.tr hK hK2 rfl rfl) hK4 rfl rfl)
theorem mwj_formalHere_85 {fu : Nat} {F0 : PF} {G0 : PG} (x2 : Int32) (x3 : Int32) (F : PF) (G : PG) (hK : KX [14, 42, 43, 44, 45, 47, 48, 49, 53] [16, 17, 18, 19, 20, 21, 22, 23] F0 G0 F G) : PP (mb_formalHere_85 fu x2 x3 F G) (fun _ F' G' => KX [14, 42, 43, 44, 45, 47, 48, 49, 53] [16, 17, 18, 19, 20, 21, 22, 23] F0 G0 F' G') := by
  unfold mb_formalHere_85
  exact mwj_formalHere_90 x2 x3 (1 : Int32) F G hK
theorem mwj_formalHere_72 {fu : Nat} {F0 : PF} {G0 : PG} (x2 : Int32) (x3 : Int32) (F : PF) (G : PG) (hK : KX [14, 42, 43, 44, 45, 47, 48, 49, 53] [16, 17, 18, 19, 20, 21, 22, 23] F0 G0 F G) : PP (mb_formalHere_72 fu x2 x3 F G) (fun _ F' G' => KX [14, 42, 43, 44, 45, 47, 48, 49, 53] [16, 17, 18, 19, 20, 21, 22, 23] F0 G0 F' G') := by
  unfold mb_formalHere_72
  refine PP.ite (fun c_1 => ?_) (fun c_1 => ?_)
  · skip
    unfold mb_formalHere_76
    refine PP.bind (mw_isSign (24 : Int32) F G) ?_
    intro r2 F2 G2 hK2
    dsimp only
    unfold mb_formalHere_82
    refine PP.ite (fun c_3 => ?_) (fun c_3 => ?_)
    · skip
      unfold mb_formalHere_89
      exact mwj_formalHere_90 x2 x3 (0 : Int32) F2 G2 (KX.tr hK hK2 rfl rfl)
    · skip
      exact mwj_formalHere_85 x2 x3 F2 G2 (KX.tr hK hK2 rfl rfl)
  · skip
    exact mwj_formalHere_85 x2 x3 F G hK
theorem mwj_formalHere_26 {fu : Nat} {F0 : PF} {G0 : PG} (x1 : Int32) (x2 : Int32) (F : PF) (G : PG) (hK : KX [14, 42, 43, 44, 45, 47, 48, 49, 53] [16, 17, 18, 19, 20, 21, 22, 23] F0 G0 F G) : PP (mb_formalHere_26 fu x1 x2 F G) (fun _ F' G' => KX [14, 42, 43, 44, 45, 47, 48, 49, 53] [16, 17, 18, 19, 20, 21, 22, 23] F0 G0 F' G') := by
  unfold mb_formalHere_26
  unfold mb_formalHere_36
  refine PP.bind (mw_name (fup F 42 ((F 42) + (1 : Int32))) G) ?_
  intro r1 F1 G1 hK1
  dsimp only
  unfold mb_formalHere_40
  refine PP.ite (fun c_2 => ?_) (fun c_2 => ?_)
  · skip
    unfold mb_formalHere_50
    refine PP.bind (mw_twice r1 F1 G1) ?_
    intro r3 F3 G3 hK3
    dsimp only
    unfold mb_formalHere_55
    refine PP.ite (fun c_4 => ?_) (fun c_4 => ?_)
    · skip
      unfold mb_formalHere_60
      refine PP.ix (fun _ => ?_)
      refine PP.bind (mw_note (11 : Int32) (G3 6 r1.toNatClampNeg) F3 G3) ?_
      intro r5 F5 G5 hK5
      dsimp only
      exact mwj_formalHere_72 x2 r1 F5 G5 (KX.tr (KX.tr (KX.tr (KX.f (k := 42) rfl hK) hK1 rfl rfl) hK3 rfl rfl) hK5 rfl rfl)
    · skip
      exact mwj_formalHere_72 x2 r1 F3 G3 (KX.tr (KX.tr (KX.f (k := 42) rfl hK) hK1 rfl rfl) hK3 rfl rfl)
  · skip
    unfold mb_formalHere_48
    refine PP.ret ?_
    exact (KX.tr (KX.f (k := 42) rfl hK) hK1 rfl rfl)
theorem mw_formalHere {fu : Nat} (x1 : Int32) (F : PF) (G : PG) : PP (mf_formalHere fu x1 F G) (fun _ F' G' => KX [14, 42, 43, 44, 45, 47, 48, 49, 53] [16, 17, 18, 19, 20, 21, 22, 23] F G F' G') := by
  unfold mf_formalHere
  unfold mb_formalHere_0
  refine PP.bind (mw_isWord (1 : Int32) F G) ?_
  intro r1 F1 G1 hK1
  dsimp only
  unfold mb_formalHere_5
  refine PP.ite (fun c_2 => ?_) (fun c_2 => ?_)
  · skip
    unfold mb_formalHere_10
    refine PP.bind (mw_isWord (0 : Int32) F1 G1) ?_
    intro r3 F3 G3 hK3
    dsimp only
    unfold mb_formalHere_15
    refine PP.ite (fun c_4 => ?_) (fun c_4 => ?_)
    · skip
      unfold mb_formalHere_18
      refine PP.bind (mw_fails (2 : Int32) F3 G3) ?_
      intro r5 F5 G5 hK5
      dsimp only
      unfold mb_formalHere_23
      refine PP.ret ?_
      exact (KX.tr (KX.tr (KX.tr KX.rf hK1 rfl rfl) hK3 rfl rfl) hK5 rfl rfl)
    · skip
      exact mwj_formalHere_26 x1 r1 F3 G3 (KX.tr (KX.tr KX.rf hK1 rfl rfl) hK3 rfl rfl)
  · skip
    exact mwj_formalHere_26 x1 r1 F1 G1 (KX.tr KX.rf hK1 rfl rfl)
theorem mwj_ends_35 {fu : Nat} {F0 : PF} {G0 : PG} (x1 : Int32) (F : PF) (G : PG) (hK : KX [14, 15] [] F0 G0 F G) : PP (mb_ends_35 fu x1 F G) (fun _ F' G' => KX [14, 15] [] F0 G0 F' G') := by
  unfold mb_ends_35
  unfold mb_ends_40
  refine PP.ret ?_
  exact (KX.f (k := 15) rfl hK)
theorem mwz_ends_0 {fu : Nat} {F0 : PF} {G0 : PG} : ∀ (n : Nat) (x1 : Int32) (F : PF) (G : PG) (hK : KX [14, 15] [] F0 G0 F G), PP (ml_ends_0 fu n x1 F G) (fun _ F' G' => KX [14, 15] [] F0 G0 F' G') := by
  intro n
  induction n with
  | zero =>
    intro x1 F G hK
    exact PP.no
  | succ n ihn =>
    intro x1 F G hK
    show PP (mb_ends_0 fu (ml_ends_0 fu n) x1 F G) _
    unfold mb_ends_0
    refine PP.ite (fun c_1 => ?_) (fun c_1 => ?_)
    · skip
      exact mwj_ends_35 x1 F G hK
    · skip
      unfold mb_ends_7
      refine PP.ix (fun _ => ?_)
      refine PP.ite (fun c_2 => ?_) (fun c_2 => ?_)
      · skip
        exact mwj_ends_35 x1 F G hK
      · skip
        unfold mb_ends_22
        unfold mb_ends_32
        exact ihn x1 (fup F 14 ((F 14) - (1 : Int32))) G (KX.f (k := 14) rfl hK)
theorem mw_ends {fu : Nat} (x1 : Int32) (F : PF) (G : PG) : PP (mf_ends fu x1 F G) (fun _ F' G' => KX [14, 15] [] F G F' G') := by
  unfold mf_ends
  exact mwz_ends_0 fu x1 F G KX.rf
theorem mwj_condition_30 {fu : Nat} {F0 : PF} {G0 : PG} (z0 : Int32) (F : PF) (G : PG) (hK : KX [42, 43, 44, 45, 47, 48, 49, 55, 60, 62, 70] [56, 57, 58, 59, 67, 68, 69] F0 G0 F G) : PP (mb_condition_30 fu z0 F G) (fun _ F' G' => KX [42, 43, 44, 45, 47, 48, 49, 55, 60, 62, 70] [56, 57, 58, 59, 67, 68, 69] F0 G0 F' G') := by
  unfold mb_condition_30
  refine PP.bz (fun _ => ?_)
  refine PP.ret ?_
  exact hK
theorem mwj_condition_29 {fu : Nat} {F0 : PF} {G0 : PG} (F : PF) (G : PG) (hK : KX [42, 43, 44, 45, 47, 48, 49, 55, 60, 62, 70] [56, 57, 58, 59, 67, 68, 69] F0 G0 F G) : PP (mb_condition_29 fu F G) (fun _ F' G' => KX [42, 43, 44, 45, 47, 48, 49, 55, 60, 62, 70] [56, 57, 58, 59, 67, 68, 69] F0 G0 F' G') := by
  unfold mb_condition_29
  exact mwj_condition_30 (0 : Int32) F G hK
theorem mw_condition {fu : Nat} (F : PF) (G : PG) : PP (mf_condition fu F G) (fun _ F' G' => KX [42, 43, 44, 45, 47, 48, 49, 55, 60, 62, 70] [56, 57, 58, 59, 67, 68, 69] F G F' G') := by
  unfold mf_condition
  unfold mb_condition_0
  refine PP.bind (mw_openSign (22 : Int32) F G) ?_
  intro r1 F1 G1 hK1
  dsimp only
  unfold mb_condition_6
  refine PP.ite (fun c_2 => ?_) (fun c_2 => ?_)
  · skip
    exact mwj_condition_29 F1 G1 (KX.tr KX.rf hK1 rfl rfl)
  · skip
    unfold mb_condition_9
    refine PP.bind (mw_expression F1 G1) ?_
    intro r3 F3 G3 hK3
    dsimp only
    unfold mb_condition_13
    refine PP.ite (fun c_4 => ?_) (fun c_4 => ?_)
    · skip
      exact mwj_condition_29 F3 G3 (KX.tr (KX.tr KX.rf hK1 rfl rfl) hK3 rfl rfl)
    · skip
      unfold mb_condition_16
      refine PP.bind (mw_closeSign (23 : Int32) F3 G3) ?_
      intro r5 F5 G5 hK5
      dsimp only
      unfold mb_condition_22
      refine PP.ite (fun c_6 => ?_) (fun c_6 => ?_)
      · skip
        exact mwj_condition_29 F5 G5 (KX.tr (KX.tr (KX.tr KX.rf hK1 rfl rfl) hK3 rfl rfl) hK5 rfl rfl)
      · skip
        unfold mb_condition_25
        exact mwj_condition_30 (1 : Int32) F5 G5 (KX.tr (KX.tr (KX.tr KX.rf hK1 rfl rfl) hK3 rfl rfl) hK5 rfl rfl)
theorem mwz_settle_2 {fu : Nat} {F0 : PF} {G0 : PG} : ∀ (n : Nat) (x2 : Int32) (x3 : Int32) (F : PF) (G : PG) (hK : KX [] [57] F0 G0 F G), PP (ml_settle_2 fu n x2 x3 F G) (fun _ F' G' => KX [] [57] F0 G0 F' G') := by
  intro n
  induction n with
  | zero =>
    intro x2 x3 F G hK
    exact PP.no
  | succ n ihn =>
    intro x2 x3 F G hK
    show PP (mb_settle_2 fu (ml_settle_2 fu n) x2 x3 F G) _
    unfold mb_settle_2
    refine PP.ite (fun c_1 => ?_) (fun c_1 => ?_)
    · skip
      unfold mb_settle_28
      refine PP.ret ?_
      exact hK
    · skip
      unfold mb_settle_7
      refine PP.ix (fun _ => ?_)
      refine PP.ix (fun _ => ?_)
      unfold mb_settle_22
      exact ihn x2 (G 57 x3.toNatClampNeg) F (gup G 57 x3.toNatClampNeg x2) (KX.g (k := 57) rfl hK)
theorem mw_settle {fu : Nat} (x1 : Int32) (x2 : Int32) (F : PF) (G : PG) : PP (mf_settle fu x1 x2 F G) (fun _ F' G' => KX [] [57] F G F' G') := by
  unfold mf_settle
  unfold mb_settle_0
  exact mwz_settle_2 fu x2 x1 F G KX.rf
theorem mwj_returns_98 {fu : Nat} {F0 : PF} {G0 : PG} (F : PF) (G : PG) (hK : KX [42, 43, 44, 45, 47, 48, 49, 55, 60, 62, 70] [56, 57, 58, 59, 67, 68, 69] F0 G0 F G) : PP (mb_returns_98 fu F G) (fun _ F' G' => KX [42, 43, 44, 45, 47, 48, 49, 55, 60, 62, 70] [56, 57, 58, 59, 67, 68, 69] F0 G0 F' G') := by
  unfold mb_returns_98
  refine PP.bind (mw_step (17 : Int32) (0 : Int32) (0 : Int32) F G) ?_
  intro r1 F1 G1 hK1
  dsimp only
  unfold mb_returns_106
  refine PP.bind (mw_sign (29 : Int32) F1 G1) ?_
  intro r2 F2 G2 hK2
  dsimp only
  unfold mb_returns_113
  refine PP.bz (fun _ => ?_)
  refine PP.ret ?_
  exact (KX.tr (KX.tr hK hK1 rfl rfl) hK2 rfl rfl)
theorem mwj_returns_89 {fu : Nat} {F0 : PF} {G0 : PG} (F : PF) (G : PG) (hK : KX [42, 43, 44, 45, 47, 48, 49, 55, 60, 62, 70] [56, 57, 58, 59, 67, 68, 69] F0 G0 F G) : PP (mb_returns_89 fu F G) (fun _ F' G' => KX [42, 43, 44, 45, 47, 48, 49, 55, 60, 62, 70] [56, 57, 58, 59, 67, 68, 69] F0 G0 F' G') := by
  unfold mb_returns_89
  refine PP.bind (mw_expression F G) ?_
  intro r1 F1 G1 hK1
  dsimp only
  unfold mb_returns_93
  refine PP.ite (fun c_2 => ?_) (fun c_2 => ?_)
  · skip
    unfold mb_returns_96
    refine PP.ret ?_
    exact (KX.tr hK hK1 rfl rfl)
  · skip
    exact mwj_returns_98 F1 G1 (KX.tr hK hK1 rfl rfl)
theorem mwj_returns_46 {fu : Nat} {F0 : PF} {G0 : PG} (F : PF) (G : PG) (hK : KX [42, 43, 44, 45, 47, 48, 49, 55, 60, 62, 70] [56, 57, 58, 59, 67, 68, 69] F0 G0 F G) : PP (mb_returns_46 fu F G) (fun _ F' G' => KX [42, 43, 44, 45, 47, 48, 49, 55, 60, 62, 70] [56, 57, 58, 59, 67, 68, 69] F0 G0 F' G') := by
  unfold mb_returns_46
  refine PP.bind (mw_step (0 : Int32) (0 : Int32) (0 : Int32) F G) ?_
  intro r1 F1 G1 hK1
  dsimp only
  unfold mb_returns_53
  exact mwj_returns_98 F1 G1 (KX.tr hK hK1 rfl rfl)
theorem mw_returns {fu : Nat} (F : PF) (G : PG) : PP (mf_returns fu F G) (fun _ F' G' => KX [42, 43, 44, 45, 47, 48, 49, 55, 60, 62, 70] [56, 57, 58, 59, 67, 68, 69] F G F' G') := by
  unfold mf_returns
  unfold mb_returns_0
  unfold mb_returns_10
  refine PP.bind (mw_isSign (29 : Int32) (fup F 42 ((F 42) + (1 : Int32))) G) ?_
  intro r1 F1 G1 hK1
  dsimp only
  unfold mb_returns_16
  refine PP.ite (fun c_2 => ?_) (fun c_2 => ?_)
  · skip
    unfold mb_returns_57
    refine PP.ix (fun _ => ?_)
    refine PP.ite (fun c_3 => ?_) (fun c_3 => ?_)
    · skip
      exact mwj_returns_89 F1 G1 (KX.tr (KX.f (k := 42) rfl KX.rf) hK1 rfl rfl)
    · skip
      unfold mb_returns_69
      refine PP.ix (fun _ => ?_)
      refine PP.bind (mw_rank (7 : Int32) F1 G1) ?_
      intro r4 F4 G4 hK4
      dsimp only
      unfold mb_returns_86
      refine PP.bind (mw_noteAs (8 : Int32) (G1 6 (F1 42).toNatClampNeg) r4 F4 G4) ?_
      intro r5 F5 G5 hK5
      dsimp only
      exact mwj_returns_89 F5 G5 (KX.tr (KX.tr (KX.tr (KX.f (k := 42) rfl KX.rf) hK1 rfl rfl) hK4 rfl rfl) hK5 rfl rfl)
  · skip
    unfold mb_returns_19
    refine PP.ix (fun _ => ?_)
    refine PP.ite (fun c_6 => ?_) (fun c_6 => ?_)
    · skip
      unfold mb_returns_31
      refine PP.ix (fun _ => ?_)
      refine PP.bind (mw_note (8 : Int32) (G1 6 (F1 42).toNatClampNeg) F1 G1) ?_
      intro r7 F7 G7 hK7
      dsimp only
      exact mwj_returns_46 F7 G7 (KX.tr (KX.tr (KX.f (k := 42) rfl KX.rf) hK1 rfl rfl) hK7 rfl rfl)
    · skip
      exact mwj_returns_46 F1 G1 (KX.tr (KX.f (k := 42) rfl KX.rf) hK1 rfl rfl)
theorem mwj_simple_628 {fu : Nat} {F0 : PF} {G0 : PG} (F : PF) (G : PG) (hK : KX [42, 43, 44, 45, 47, 48, 49, 55, 60, 62, 70] [56, 57, 58, 59, 67, 68, 69] F0 G0 F G) : PP (mb_simple_628 fu F G) (fun _ F' G' => KX [42, 43, 44, 45, 47, 48, 49, 55, 60, 62, 70] [56, 57, 58, 59, 67, 68, 69] F0 G0 F' G') := by
  unfold mb_simple_628
  refine PP.ret ?_
  exact hK
theorem mwj_simple_621 {fu : Nat} {F0 : PF} {G0 : PG} (x8 : Int32) (z0 : Int32) (F : PF) (G : PG) (hK : KX [42, 43, 44, 45, 47, 48, 49, 55, 60, 62, 70] [56, 57, 58, 59, 67, 68, 69] F0 G0 F G) : PP (mb_simple_621 fu x8 z0 F G) (fun _ F' G' => KX [42, 43, 44, 45, 47, 48, 49, 55, 60, 62, 70] [56, 57, 58, 59, 67, 68, 69] F0 G0 F' G') := by
  unfold mb_simple_621
  refine PP.bind (mw_step z0 x8 (0 : Int32) F G) ?_
  intro r1 F1 G1 hK1
  dsimp only
  unfold mb_simple_627
  exact mwj_simple_628 F1 G1 (KX.tr hK hK1 rfl rfl)
theorem mwj_simple_602 {fu : Nat} {F0 : PF} {G0 : PG} (z0 : Int32) (z1 : Int32) (F : PF) (G : PG) (hK : KX [42, 43, 44, 45, 47, 48, 49, 55, 60, 62, 70] [56, 57, 58, 59, 67, 68, 69] F0 G0 F G) : PP (mb_simple_602 fu z0 z1 F G) (fun _ F' G' => KX [42, 43, 44, 45, 47, 48, 49, 55, 60, 62, 70] [56, 57, 58, 59, 67, 68, 69] F0 G0 F' G') := by
  unfold mb_simple_602
  refine PP.bind (mw_step z1 z0 (0 : Int32) F G) ?_
  intro r1 F1 G1 hK1
  dsimp only
  unfold mb_simple_606
  exact mwj_simple_628 F1 G1 (KX.tr hK hK1 rfl rfl)
theorem mwj_simple_584 {fu : Nat} {F0 : PF} {G0 : PG} (x4 : Int32) (x6 : Int32) (x7 : Int32) (x8 : Int32) (F : PF) (G : PG) (hK : KX [42, 43, 44, 45, 47, 48, 49, 55, 60, 62, 70] [56, 57, 58, 59, 67, 68, 69] F0 G0 F G) : PP (mb_simple_584 fu x4 x6 x7 x8 F G) (fun _ F' G' => KX [42, 43, 44, 45, 47, 48, 49, 55, 60, 62, 70] [56, 57, 58, 59, 67, 68, 69] F0 G0 F' G') := by
  unfold mb_simple_584
  refine PP.ite (fun c_1 => ?_) (fun c_1 => ?_)
  · skip
    unfold mb_simple_610
    refine PP.ite (fun c_2 => ?_) (fun c_2 => ?_)
    · skip
      unfold mb_simple_620
      exact mwj_simple_621 x8 (4 : Int32) F G hK
    · skip
      unfold mb_simple_616
      exact mwj_simple_621 x8 (2 : Int32) F G hK
  · skip
    unfold mb_simple_589
    refine PP.ite (fun c_3 => ?_) (fun c_3 => ?_)
    · skip
      unfold mb_simple_601
      exact mwj_simple_602 (0 : Int32) (8 : Int32) F G hK
    · skip
      unfold mb_simple_597
      exact mwj_simple_602 (1 : Int32) (8 : Int32) F G hK
theorem mwj_simple_579 {fu : Nat} {F0 : PF} {G0 : PG} (x4 : Int32) (x6 : Int32) (x7 : Int32) (x8 : Int32) (z0 : Int32) (z1 : Int32) (F : PF) (G : PG) (hK : KX [42, 43, 44, 45, 47, 48, 49, 55, 60, 62, 70] [56, 57, 58, 59, 67, 68, 69] F0 G0 F G) : PP (mb_simple_579 fu x4 x6 x7 x8 z0 z1 F G) (fun _ F' G' => KX [42, 43, 44, 45, 47, 48, 49, 55, 60, 62, 70] [56, 57, 58, 59, 67, 68, 69] F0 G0 F' G') := by
  unfold mb_simple_579
  refine PP.bind (mw_step z1 z0 (0 : Int32) F G) ?_
  intro r1 F1 G1 hK1
  dsimp only
  unfold mb_simple_583
  exact mwj_simple_584 x4 x6 x7 x8 F1 G1 (KX.tr hK hK1 rfl rfl)
theorem mwj_simple_461 {fu : Nat} {F0 : PF} {G0 : PG} (x4 : Int32) (x6 : Int32) (x7 : Int32) (x8 : Int32) (z0 : Int32) (F : PF) (G : PG) (hK : KX [42, 43, 44, 45, 47, 48, 49, 55, 60, 62, 70] [56, 57, 58, 59, 67, 68, 69] F0 G0 F G) : PP (mb_simple_461 fu x4 x6 x7 x8 z0 F G) (fun _ F' G' => KX [42, 43, 44, 45, 47, 48, 49, 55, 60, 62, 70] [56, 57, 58, 59, 67, 68, 69] F0 G0 F' G') := by
  unfold mb_simple_461
  exact mwj_simple_579 x4 x6 x7 x8 (38 : Int32) z0 F G hK
theorem mwj_simple_479 {fu : Nat} {F0 : PF} {G0 : PG} (x4 : Int32) (x6 : Int32) (x7 : Int32) (x8 : Int32) (z0 : Int32) (F : PF) (G : PG) (hK : KX [42, 43, 44, 45, 47, 48, 49, 55, 60, 62, 70] [56, 57, 58, 59, 67, 68, 69] F0 G0 F G) : PP (mb_simple_479 fu x4 x6 x7 x8 z0 F G) (fun _ F' G' => KX [42, 43, 44, 45, 47, 48, 49, 55, 60, 62, 70] [56, 57, 58, 59, 67, 68, 69] F0 G0 F' G') := by
  unfold mb_simple_479
  exact mwj_simple_579 x4 x6 x7 x8 (39 : Int32) z0 F G hK
theorem mwj_simple_438 {fu : Nat} {F0 : PF} {G0 : PG} (x4 : Int32) (x6 : Int32) (x7 : Int32) (x8 : Int32) (x9 : Int32) (F : PF) (G : PG) (hK : KX [42, 43, 44, 45, 47, 48, 49, 55, 60, 62, 70] [56, 57, 58, 59, 67, 68, 69] F0 G0 F G) : PP (mb_simple_438 fu x4 x6 x7 x8 x9 F G) (fun _ F' G' => KX [42, 43, 44, 45, 47, 48, 49, 55, 60, 62, 70] [56, 57, 58, 59, 67, 68, 69] F0 G0 F' G') := by
  unfold mb_simple_438
  refine PP.ite (fun c_1 => ?_) (fun c_1 => ?_)
  · skip
    exact mwj_simple_584 x4 x6 x7 x8 F G hK
  · skip
    unfold mb_simple_445
    refine PP.ite (fun c_2 => ?_) (fun c_2 => ?_)
    · skip
      exact mwj_simple_461 x4 x6 x7 x8 (10 : Int32) F G hK
    · skip
      unfold mb_simple_455
      refine PP.ite (fun c_3 => ?_) (fun c_3 => ?_)
      · skip
        exact mwj_simple_461 x4 x6 x7 x8 (10 : Int32) F G hK
      · skip
        unfold mb_simple_466
        refine PP.ite (fun c_4 => ?_) (fun c_4 => ?_)
        · skip
          exact mwj_simple_479 x4 x6 x7 x8 (10 : Int32) F G hK
        · skip
          unfold mb_simple_473
          refine PP.ite (fun c_5 => ?_) (fun c_5 => ?_)
          · skip
            exact mwj_simple_479 x4 x6 x7 x8 (10 : Int32) F G hK
          · skip
            unfold mb_simple_484
            refine PP.ite (fun c_6 => ?_) (fun c_6 => ?_)
            · skip
              unfold mb_simple_491
              exact mwj_simple_579 x4 x6 x7 x8 (40 : Int32) (10 : Int32) F G hK
            · skip
              unfold mb_simple_496
              refine PP.ite (fun c_7 => ?_) (fun c_7 => ?_)
              · skip
                unfold mb_simple_503
                exact mwj_simple_579 x4 x6 x7 x8 (41 : Int32) (10 : Int32) F G hK
              · skip
                unfold mb_simple_508
                refine PP.ite (fun c_8 => ?_) (fun c_8 => ?_)
                · skip
                  unfold mb_simple_515
                  exact mwj_simple_579 x4 x6 x7 x8 (42 : Int32) (10 : Int32) F G hK
                · skip
                  unfold mb_simple_520
                  refine PP.ite (fun c_9 => ?_) (fun c_9 => ?_)
                  · skip
                    unfold mb_simple_527
                    exact mwj_simple_579 x4 x6 x7 x8 (35 : Int32) (10 : Int32) F G hK
                  · skip
                    unfold mb_simple_532
                    refine PP.ite (fun c_10 => ?_) (fun c_10 => ?_)
                    · skip
                      unfold mb_simple_539
                      exact mwj_simple_579 x4 x6 x7 x8 (33 : Int32) (10 : Int32) F G hK
                    · skip
                      unfold mb_simple_544
                      refine PP.ite (fun c_11 => ?_) (fun c_11 => ?_)
                      · skip
                        unfold mb_simple_551
                        exact mwj_simple_579 x4 x6 x7 x8 (34 : Int32) (10 : Int32) F G hK
                      · skip
                        unfold mb_simple_556
                        refine PP.ite (fun c_12 => ?_) (fun c_12 => ?_)
                        · skip
                          unfold mb_simple_562
                          exact mwj_simple_579 x4 x6 x7 x8 (20 : Int32) (10 : Int32) F G hK
                        · skip
                          unfold mb_simple_567
                          refine PP.ite (fun c_13 => ?_) (fun c_13 => ?_)
                          · skip
                            unfold mb_simple_573
                            exact mwj_simple_579 x4 x6 x7 x8 (21 : Int32) (10 : Int32) F G hK
                          · skip
                            unfold mb_simple_578
                            exact mwj_simple_579 x4 x6 x7 x8 (1 : Int32) (10 : Int32) F G hK
theorem mwj_simple_418 {fu : Nat} {F0 : PF} {G0 : PG} (x4 : Int32) (x6 : Int32) (x7 : Int32) (x8 : Int32) (x9 : Int32) (F : PF) (G : PG) (hK : KX [42, 43, 44, 45, 47, 48, 49, 55, 60, 62, 70] [56, 57, 58, 59, 67, 68, 69] F0 G0 F G) : PP (mb_simple_418 fu x4 x6 x7 x8 x9 F G) (fun _ F' G' => KX [42, 43, 44, 45, 47, 48, 49, 55, 60, 62, 70] [56, 57, 58, 59, 67, 68, 69] F0 G0 F' G') := by
  unfold mb_simple_418
  refine PP.bind (mw_step (0 : Int32) (1 : Int32) (0 : Int32) F G) ?_
  intro r1 F1 G1 hK1
  dsimp only
  unfold mb_simple_425
  exact mwj_simple_438 x4 x6 x7 x8 x9 F1 G1 (KX.tr hK hK1 rfl rfl)
theorem mwj_simple_404 {fu : Nat} {F0 : PF} {G0 : PG} (x4 : Int32) (x6 : Int32) (x7 : Int32) (x8 : Int32) (x9 : Int32) (F : PF) (G : PG) (hK : KX [42, 43, 44, 45, 47, 48, 49, 55, 60, 62, 70] [56, 57, 58, 59, 67, 68, 69] F0 G0 F G) : PP (mb_simple_404 fu x4 x6 x7 x8 x9 F G) (fun _ F' G' => KX [42, 43, 44, 45, 47, 48, 49, 55, 60, 62, 70] [56, 57, 58, 59, 67, 68, 69] F0 G0 F' G') := by
  unfold mb_simple_404
  refine PP.ite (fun c_1 => ?_) (fun c_1 => ?_)
  · skip
    exact mwj_simple_418 x4 x6 x7 x8 x9 F G hK
  · skip
    unfold mb_simple_411
    refine PP.ite (fun c_2 => ?_) (fun c_2 => ?_)
    · skip
      exact mwj_simple_418 x4 x6 x7 x8 x9 F G hK
    · skip
      unfold mb_simple_429
      refine PP.bind (mw_expression F G) ?_
      intro r3 F3 G3 hK3
      dsimp only
      unfold mb_simple_433
      refine PP.ite (fun c_4 => ?_) (fun c_4 => ?_)
      · skip
        unfold mb_simple_436
        refine PP.ret ?_
        exact (KX.tr hK hK3 rfl rfl)
      · skip
        exact mwj_simple_438 x4 x6 x7 x8 x9 F3 G3 (KX.tr hK hK3 rfl rfl)
theorem mwj_simple_397 {fu : Nat} {F0 : PF} {G0 : PG} (x4 : Int32) (x6 : Int32) (x7 : Int32) (x8 : Int32) (x9 : Int32) (z0 : Int32) (F : PF) (G : PG) (hK : KX [42, 43, 44, 45, 47, 48, 49, 55, 60, 62, 70] [56, 57, 58, 59, 67, 68, 69] F0 G0 F G) : PP (mb_simple_397 fu x4 x6 x7 x8 x9 z0 F G) (fun _ F' G' => KX [42, 43, 44, 45, 47, 48, 49, 55, 60, 62, 70] [56, 57, 58, 59, 67, 68, 69] F0 G0 F' G') := by
  unfold mb_simple_397
  refine PP.bind (mw_step z0 x8 (0 : Int32) F G) ?_
  intro r1 F1 G1 hK1
  dsimp only
  unfold mb_simple_403
  exact mwj_simple_404 x4 x6 x7 x8 x9 F1 G1 (KX.tr hK hK1 rfl rfl)
theorem mwj_simple_330 {fu : Nat} {F0 : PF} {G0 : PG} (x4 : Int32) (x6 : Int32) (x7 : Int32) (x8 : Int32) (x9 : Int32) (z0 : Int32) (F : PF) (G : PG) (hK : KX [42, 43, 44, 45, 47, 48, 49, 55, 60, 62, 70] [56, 57, 58, 59, 67, 68, 69] F0 G0 F G) : PP (mb_simple_330 fu x4 x6 x7 x8 x9 z0 F G) (fun _ F' G' => KX [42, 43, 44, 45, 47, 48, 49, 55, 60, 62, 70] [56, 57, 58, 59, 67, 68, 69] F0 G0 F' G') := by
  unfold mb_simple_330
  refine PP.ite (fun c_1 => ?_) (fun c_1 => ?_)
  · skip
    unfold mb_simple_337
    refine PP.bind (mw_fails (2 : Int32) F G) ?_
    intro r2 F2 G2 hK2
    dsimp only
    unfold mb_simple_342
    refine PP.bz (fun _ => ?_)
    refine PP.ret ?_
    exact (KX.tr hK hK2 rfl rfl)
  · skip
    unfold mb_simple_343
    unfold mb_simple_353
    refine PP.ite (fun c_3 => ?_) (fun c_3 => ?_)
    · skip
      exact mwj_simple_404 x4 x6 x7 x8 x9 (fup F 42 ((F 42) + (1 : Int32))) G (KX.f (k := 42) rfl hK)
    · skip
      unfold mb_simple_360
      refine PP.ite (fun c_4 => ?_) (fun c_4 => ?_)
      · skip
        unfold mb_simple_386
        refine PP.ite (fun c_5 => ?_) (fun c_5 => ?_)
        · skip
          unfold mb_simple_396
          exact mwj_simple_397 x4 x6 x7 x8 x9 (3 : Int32) (fup F 42 ((F 42) + (1 : Int32))) G (KX.f (k := 42) rfl hK)
        · skip
          unfold mb_simple_392
          exact mwj_simple_397 x4 x6 x7 x8 x9 (1 : Int32) (fup F 42 ((F 42) + (1 : Int32))) G (KX.f (k := 42) rfl hK)
      · skip
        unfold mb_simple_365
        refine PP.bind (mw_step (9 : Int32) (0 : Int32) (0 : Int32) (fup F 42 ((F 42) + (1 : Int32))) G) ?_
        intro r6 F6 G6 hK6
        dsimp only
        unfold mb_simple_373
        refine PP.bind (mw_step (7 : Int32) (0 : Int32) (0 : Int32) F6 G6) ?_
        intro r7 F7 G7 hK7
        dsimp only
        unfold mb_simple_382
        exact mwj_simple_404 x4 x6 x7 x8 x9 F7 G7 (KX.tr (KX.tr (KX.f (k := 42) rfl hK) hK6 rfl rfl) hK7 rfl rfl)
theorem mwj_simple_325 {fu : Nat} {F0 : PF} {G0 : PG} (x4 : Int32) (x6 : Int32) (x7 : Int32) (x8 : Int32) (x9 : Int32) (F : PF) (G : PG) (hK : KX [42, 43, 44, 45, 47, 48, 49, 55, 60, 62, 70] [56, 57, 58, 59, 67, 68, 69] F0 G0 F G) : PP (mb_simple_325 fu x4 x6 x7 x8 x9 F G) (fun _ F' G' => KX [42, 43, 44, 45, 47, 48, 49, 55, 60, 62, 70] [56, 57, 58, 59, 67, 68, 69] F0 G0 F' G') := by
  unfold mb_simple_325
  exact mwj_simple_330 x4 x6 x7 x8 x9 (1 : Int32) F G hK
theorem mwj_simple_329 {fu : Nat} {F0 : PF} {G0 : PG} (x4 : Int32) (x6 : Int32) (x7 : Int32) (x8 : Int32) (x9 : Int32) (F : PF) (G : PG) (hK : KX [42, 43, 44, 45, 47, 48, 49, 55, 60, 62, 70] [56, 57, 58, 59, 67, 68, 69] F0 G0 F G) : PP (mb_simple_329 fu x4 x6 x7 x8 x9 F G) (fun _ F' G' => KX [42, 43, 44, 45, 47, 48, 49, 55, 60, 62, 70] [56, 57, 58, 59, 67, 68, 69] F0 G0 F' G') := by
  unfold mb_simple_329
  exact mwj_simple_330 x4 x6 x7 x8 x9 (0 : Int32) F G hK
theorem mwj_simple_272 {fu : Nat} {F0 : PF} {G0 : PG} (x4 : Int32) (x6 : Int32) (x7 : Int32) (x8 : Int32) (z0 : Int32) (F : PF) (G : PG) (hK : KX [42, 43, 44, 45, 47, 48, 49, 55, 60, 62, 70] [56, 57, 58, 59, 67, 68, 69] F0 G0 F G) : PP (mb_simple_272 fu x4 x6 x7 x8 z0 F G) (fun _ F' G' => KX [42, 43, 44, 45, 47, 48, 49, 55, 60, 62, 70] [56, 57, 58, 59, 67, 68, 69] F0 G0 F' G') := by
  unfold mb_simple_272
  refine PP.ite (fun c_1 => ?_) (fun c_1 => ?_)
  · skip
    exact mwj_simple_325 x4 x6 x7 x8 z0 F G hK
  · skip
    unfold mb_simple_281
    refine PP.ite (fun c_2 => ?_) (fun c_2 => ?_)
    · skip
      exact mwj_simple_325 x4 x6 x7 x8 z0 F G hK
    · skip
      unfold mb_simple_288
      refine PP.ite (fun c_3 => ?_) (fun c_3 => ?_)
      · skip
        exact mwj_simple_325 x4 x6 x7 x8 z0 F G hK
      · skip
        unfold mb_simple_295
        refine PP.ite (fun c_4 => ?_) (fun c_4 => ?_)
        · skip
          exact mwj_simple_325 x4 x6 x7 x8 z0 F G hK
        · skip
          unfold mb_simple_300
          refine PP.ite (fun c_5 => ?_) (fun c_5 => ?_)
          · skip
            exact mwj_simple_325 x4 x6 x7 x8 z0 F G hK
          · skip
            unfold mb_simple_306
            refine PP.ite (fun c_6 => ?_) (fun c_6 => ?_)
            · skip
              exact mwj_simple_325 x4 x6 x7 x8 z0 F G hK
            · skip
              unfold mb_simple_312
              refine PP.ite (fun c_7 => ?_) (fun c_7 => ?_)
              · skip
                exact mwj_simple_329 x4 x6 x7 x8 z0 F G hK
              · skip
                unfold mb_simple_318
                refine PP.ite (fun c_8 => ?_) (fun c_8 => ?_)
                · skip
                  exact mwj_simple_329 x4 x6 x7 x8 z0 F G hK
                · skip
                  exact mwj_simple_325 x4 x6 x7 x8 z0 F G hK
theorem mwj_simple_246 {fu : Nat} {F0 : PF} {G0 : PG} (x4 : Int32) (x6 : Int32) (x7 : Int32) (x8 : Int32) (F : PF) (G : PG) (hK : KX [42, 43, 44, 45, 47, 48, 49, 55, 60, 62, 70] [56, 57, 58, 59, 67, 68, 69] F0 G0 F G) : PP (mb_simple_246 fu x4 x6 x7 x8 F G) (fun _ F' G' => KX [42, 43, 44, 45, 47, 48, 49, 55, 60, 62, 70] [56, 57, 58, 59, 67, 68, 69] F0 G0 F' G') := by
  unfold mb_simple_246
  refine PP.ix (fun _ => ?_)
  refine PP.ite (fun c_1 => ?_) (fun c_1 => ?_)
  · skip
    unfold mb_simple_259
    refine PP.ix (fun _ => ?_)
    exact mwj_simple_272 x4 x6 x7 x8 (G 5 (F 42).toNatClampNeg) F G hK
  · skip
    unfold mb_simple_271
    exact mwj_simple_272 x4 x6 x7 x8 (-1 : Int32) F G hK
theorem mwj_simple_229 {fu : Nat} {F0 : PF} {G0 : PG} (x2 : Int32) (x4 : Int32) (x6 : Int32) (x7 : Int32) (z0 : Int32) (F : PF) (G : PG) (hK : KX [42, 43, 44, 45, 47, 48, 49, 55, 60, 62, 70] [56, 57, 58, 59, 67, 68, 69] F0 G0 F G) : PP (mb_simple_229 fu x2 x4 x6 x7 z0 F G) (fun _ F' G' => KX [42, 43, 44, 45, 47, 48, 49, 55, 60, 62, 70] [56, 57, 58, 59, 67, 68, 69] F0 G0 F' G') := by
  unfold mb_simple_229
  refine PP.ite (fun c_1 => ?_) (fun c_1 => ?_)
  · skip
    exact mwj_simple_246 x4 x6 x7 z0 F G hK
  · skip
    unfold mb_simple_236
    refine PP.bind (mw_element x2 F G) ?_
    intro r2 F2 G2 hK2
    dsimp only
    unfold mb_simple_241
    refine PP.ite (fun c_3 => ?_) (fun c_3 => ?_)
    · skip
      unfold mb_simple_244
      refine PP.ret ?_
      exact (KX.tr hK hK2 rfl rfl)
    · skip
      exact mwj_simple_246 x4 x6 x7 z0 F2 G2 (KX.tr hK hK2 rfl rfl)
theorem mwj_simple_212 {fu : Nat} {F0 : PF} {G0 : PG} (x2 : Int32) (x4 : Int32) (x6 : Int32) (z0 : Int32) (F : PF) (G : PG) (hK : KX [42, 43, 44, 45, 47, 48, 49, 55, 60, 62, 70] [56, 57, 58, 59, 67, 68, 69] F0 G0 F G) : PP (mb_simple_212 fu x2 x4 x6 z0 F G) (fun _ F' G' => KX [42, 43, 44, 45, 47, 48, 49, 55, 60, 62, 70] [56, 57, 58, 59, 67, 68, 69] F0 G0 F' G') := by
  unfold mb_simple_212
  refine PP.ite (fun c_1 => ?_) (fun c_1 => ?_)
  · skip
    unfold mb_simple_219
    exact mwj_simple_229 x2 x4 x6 z0 (0 : Int32) F G hK
  · skip
    unfold mb_simple_223
    refine PP.ix (fun _ => ?_)
    exact mwj_simple_229 x2 x4 x6 z0 (G 20 x2.toNatClampNeg) F G hK
theorem mwj_simple_211 {fu : Nat} {F0 : PF} {G0 : PG} (x2 : Int32) (x4 : Int32) (x6 : Int32) (F : PF) (G : PG) (hK : KX [42, 43, 44, 45, 47, 48, 49, 55, 60, 62, 70] [56, 57, 58, 59, 67, 68, 69] F0 G0 F G) : PP (mb_simple_211 fu x2 x4 x6 F G) (fun _ F' G' => KX [42, 43, 44, 45, 47, 48, 49, 55, 60, 62, 70] [56, 57, 58, 59, 67, 68, 69] F0 G0 F' G') := by
  unfold mb_simple_211
  exact mwj_simple_212 x2 x4 x6 (0 : Int32) F G hK
theorem mwj_simple_191 {fu : Nat} {F0 : PF} {G0 : PG} (x2 : Int32) (x4 : Int32) (z0 : Int32) (F : PF) (G : PG) (hK : KX [42, 43, 44, 45, 47, 48, 49, 55, 60, 62, 70] [56, 57, 58, 59, 67, 68, 69] F0 G0 F G) : PP (mb_simple_191 fu x2 x4 z0 F G) (fun _ F' G' => KX [42, 43, 44, 45, 47, 48, 49, 55, 60, 62, 70] [56, 57, 58, 59, 67, 68, 69] F0 G0 F' G') := by
  unfold mb_simple_191
  refine PP.ite (fun c_1 => ?_) (fun c_1 => ?_)
  · skip
    exact mwj_simple_211 x2 x4 z0 F G hK
  · skip
    unfold mb_simple_198
    refine PP.ix (fun _ => ?_)
    refine PP.ite (fun c_2 => ?_) (fun c_2 => ?_)
    · skip
      exact mwj_simple_211 x2 x4 z0 F G hK
    · skip
      unfold mb_simple_207
      exact mwj_simple_212 x2 x4 z0 (1 : Int32) F G hK
theorem mwj_simple_190 {fu : Nat} {F0 : PF} {G0 : PG} (x2 : Int32) (x4 : Int32) (F : PF) (G : PG) (hK : KX [42, 43, 44, 45, 47, 48, 49, 55, 60, 62, 70] [56, 57, 58, 59, 67, 68, 69] F0 G0 F G) : PP (mb_simple_190 fu x2 x4 F G) (fun _ F' G' => KX [42, 43, 44, 45, 47, 48, 49, 55, 60, 62, 70] [56, 57, 58, 59, 67, 68, 69] F0 G0 F' G') := by
  unfold mb_simple_190
  exact mwj_simple_191 x2 x4 (0 : Int32) F G hK
theorem mwj_simple_172 {fu : Nat} {F0 : PF} {G0 : PG} (x2 : Int32) (x4 : Int32) (F : PF) (G : PG) (hK : KX [42, 43, 44, 45, 47, 48, 49, 55, 60, 62, 70] [56, 57, 58, 59, 67, 68, 69] F0 G0 F G) : PP (mb_simple_172 fu x2 x4 F G) (fun _ F' G' => KX [42, 43, 44, 45, 47, 48, 49, 55, 60, 62, 70] [56, 57, 58, 59, 67, 68, 69] F0 G0 F' G') := by
  unfold mb_simple_172
  refine PP.ite (fun c_1 => ?_) (fun c_1 => ?_)
  · skip
    exact mwj_simple_190 x2 x4 F G hK
  · skip
    unfold mb_simple_177
    refine PP.ix (fun _ => ?_)
    refine PP.ite (fun c_2 => ?_) (fun c_2 => ?_)
    · skip
      exact mwj_simple_190 x2 x4 F G hK
    · skip
      unfold mb_simple_186
      exact mwj_simple_191 x2 x4 (1 : Int32) F G hK
theorem mwj_simple_149 {fu : Nat} {F0 : PF} {G0 : PG} (x1 : Int32) (x2 : Int32) (x3 : Int32) (x4 : Int32) (z0 : Int32) (F : PF) (G : PG) (hK : KX [42, 43, 44, 45, 47, 48, 49, 55, 60, 62, 70] [56, 57, 58, 59, 67, 68, 69] F0 G0 F G) : PP (mb_simple_149 fu x1 x2 x3 x4 z0 F G) (fun _ F' G' => KX [42, 43, 44, 45, 47, 48, 49, 55, 60, 62, 70] [56, 57, 58, 59, 67, 68, 69] F0 G0 F' G') := by
  unfold mb_simple_149
  refine PP.ite (fun c_1 => ?_) (fun c_1 => ?_)
  · skip
    unfold mb_simple_155
    refine PP.ite (fun c_2 => ?_) (fun c_2 => ?_)
    · skip
      unfold mb_simple_160
      refine PP.ix (fun _ => ?_)
      refine PP.bind (mw_note (6 : Int32) (G 6 x1.toNatClampNeg) F G) ?_
      intro r3 F3 G3 hK3
      dsimp only
      exact mwj_simple_172 x2 x4 F3 G3 (KX.tr hK hK3 rfl rfl)
    · skip
      exact mwj_simple_172 x2 x4 F G hK
  · skip
    exact mwj_simple_172 x2 x4 F G hK
theorem mwj_simple_148 {fu : Nat} {F0 : PF} {G0 : PG} (x1 : Int32) (x2 : Int32) (x3 : Int32) (x4 : Int32) (F : PF) (G : PG) (hK : KX [42, 43, 44, 45, 47, 48, 49, 55, 60, 62, 70] [56, 57, 58, 59, 67, 68, 69] F0 G0 F G) : PP (mb_simple_148 fu x1 x2 x3 x4 F G) (fun _ F' G' => KX [42, 43, 44, 45, 47, 48, 49, 55, 60, 62, 70] [56, 57, 58, 59, 67, 68, 69] F0 G0 F' G') := by
  unfold mb_simple_148
  exact mwj_simple_149 x1 x2 x3 x4 (0 : Int32) F G hK
theorem mwj_simple_144 {fu : Nat} {F0 : PF} {G0 : PG} (x1 : Int32) (x2 : Int32) (x3 : Int32) (x4 : Int32) (F : PF) (G : PG) (hK : KX [42, 43, 44, 45, 47, 48, 49, 55, 60, 62, 70] [56, 57, 58, 59, 67, 68, 69] F0 G0 F G) : PP (mb_simple_144 fu x1 x2 x3 x4 F G) (fun _ F' G' => KX [42, 43, 44, 45, 47, 48, 49, 55, 60, 62, 70] [56, 57, 58, 59, 67, 68, 69] F0 G0 F' G') := by
  unfold mb_simple_144
  exact mwj_simple_149 x1 x2 x3 x4 (1 : Int32) F G hK
theorem mwj_simple_111 {fu : Nat} {F0 : PF} {G0 : PG} (x1 : Int32) (x2 : Int32) (x3 : Int32) (x4 : Int32) (F : PF) (G : PG) (hK : KX [42, 43, 44, 45, 47, 48, 49, 55, 60, 62, 70] [56, 57, 58, 59, 67, 68, 69] F0 G0 F G) : PP (mb_simple_111 fu x1 x2 x3 x4 F G) (fun _ F' G' => KX [42, 43, 44, 45, 47, 48, 49, 55, 60, 62, 70] [56, 57, 58, 59, 67, 68, 69] F0 G0 F' G') := by
  unfold mb_simple_111
  refine PP.ite (fun c_1 => ?_) (fun c_1 => ?_)
  · skip
    exact mwj_simple_148 x1 x2 x3 x4 F G hK
  · skip
    unfold mb_simple_116
    refine PP.ite (fun c_2 => ?_) (fun c_2 => ?_)
    · skip
      unfold mb_simple_134
      refine PP.ix (fun _ => ?_)
      refine PP.ite (fun c_3 => ?_) (fun c_3 => ?_)
      · skip
        exact mwj_simple_144 x1 x2 x3 x4 F G hK
      · skip
        exact mwj_simple_148 x1 x2 x3 x4 F G hK
    · skip
      unfold mb_simple_121
      refine PP.ix (fun _ => ?_)
      refine PP.ite (fun c_4 => ?_) (fun c_4 => ?_)
      · skip
        unfold mb_simple_131
        exact mwj_simple_144 x1 x2 x3 x4 F G hK
      · skip
        exact mwj_simple_148 x1 x2 x3 x4 F G hK
