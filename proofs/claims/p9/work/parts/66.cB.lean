theorem cs_X3_fetch {fu : Nat} (hfu : 8589934592 ≤ fu) (x1 : Int32) (F : PF) (G : PG) (hI : CI F G) : WP (cf_X3_fetch fu x1 F G) (fun r' F' G' => CI F' G' ∧ KB F G F' G' ∧ KT F F' ∧ KO F F' ∧ KK F F' ∧ True) := by
  unfold cf_X3_fetch
  unfold cb_X3_fetch_0
  have q_1 := i_rng x1
  refine WP.bind (cs_X5_kind hfu x1 F G hI) ?_
  rintro r2 _ _ ⟨rfl, rfl, hp2⟩
  dsimp only
  have q_3 := i_rng r2
  unfold cb_X3_fetch_12
  refine WP.ite (fun c_4 => ?_) (fun c_4 => ?_)
  · skip
    have l_5 : (3 : Int32).toInt = 3 := rfl
    have e_6 := i_eq.mp (show r2 = (3 : Int32) from c_4)
    unfold cb_X3_fetch_16
    unfold cb_X3_fetch_23
    have l_7 : (78 : Int32).toInt = 78 := rfl
    refine WP.bind (cs_X1_add hfu (78 : Int32) F G hI) ?_
    rintro r8 F8 G8 ⟨hI8, hB8, hT8, hO8, hK8, hp8⟩
    dsimp only
    have q_9 := hI.r 10 rfl
    have q_10 := hI8.r 10 rfl
    have e_11 : (F8 10).toInt = (F 10).toInt := hO8
    have q_12 := hI.r 21 rfl
    have q_13 := hI8.r 21 rfl
    have e_14 : (F8 21).toInt = (F 21).toInt := congrArg Int32.toInt hp8
    unfold cb_X3_fetch_26
    refine WP.ret ?_
    exact ⟨hI8, (KB.tr (KB.rf : KB F G F G) hB8), (KT.tr (rfl : KT F F) hT8), (KO.tr (rfl : KO F F) hO8), (KK.tr (rfl : KK F F) hK8), trivial⟩
  · skip
    have l_15 : (3 : Int32).toInt = 3 := rfl
    have e_16 := mt i_eq.mpr (show ¬ (r2 = (3 : Int32)) from c_4)
    unfold cb_X3_fetch_21
    unfold cb_X3_fetch_23
    have l_17 : (77 : Int32).toInt = 77 := rfl
    refine WP.bind (cs_X1_add hfu (77 : Int32) F G hI) ?_
    rintro r18 F18 G18 ⟨hI18, hB18, hT18, hO18, hK18, hp18⟩
    dsimp only
    have q_19 := hI.r 10 rfl
    have q_20 := hI18.r 10 rfl
    have e_21 : (F18 10).toInt = (F 10).toInt := hO18
    have q_22 := hI.r 21 rfl
    have q_23 := hI18.r 21 rfl
    have e_24 : (F18 21).toInt = (F 21).toInt := congrArg Int32.toInt hp18
    unfold cb_X3_fetch_26
    refine WP.ret ?_
    exact ⟨hI18, (KB.tr (KB.rf : KB F G F G) hB18), (KT.tr (rfl : KT F F) hT18), (KO.tr (rfl : KO F F) hO18), (KK.tr (rfl : KK F F) hK18), trivial⟩
theorem cs_X3_load {fu : Nat} (hfu : 8589934592 ≤ fu) (x1 : Int32) (F : PF) (G : PG) (hI : CI F G) : WP (cf_X3_load fu x1 F G) (fun r' F' G' => CI F' G' ∧ KB F G F' G' ∧ KT F F' ∧ KO F F' ∧ KK F F' ∧ True) := by
  unfold cf_X3_load
  unfold cb_X3_load_0
  have q_1 := i_rng x1
  refine WP.bind (cs_X5_kind hfu x1 F G hI) ?_
  rintro r2 _ _ ⟨rfl, rfl, hp2⟩
  dsimp only
  have q_3 := i_rng r2
  unfold cb_X3_load_8
  refine WP.ite (fun c_4 => ?_) (fun c_4 => ?_)
  · skip
    have l_5 : (1 : Int32).toInt = 1 := rfl
    have e_6 := i_eq.mp (show r2 = (1 : Int32) from c_4)
    unfold cb_X3_load_12
    refine WP.bind (cs_X5_isGlobal hfu x1 F G hI) ?_
    rintro r7 _ _ ⟨rfl, rfl, hp7⟩
    dsimp only
    have q_8 := b_rng hp7
    unfold cb_X3_load_24
    refine WP.ite (fun c_9 => ?_) (fun c_9 => ?_)
    · skip
      have l_10 : (0 : Int32).toInt = 0 := rfl
      have e_11 := i_eq.mp (show r7 = (0 : Int32) from c_9)
      unfold cb_X3_load_32
      unfold cb_X3_load_34
      refine WP.bind (cs_X5_value hfu x1 F G hI) ?_
      rintro r12 _ _ ⟨rfl, rfl, hp12⟩
      dsimp only
      unfold cb_X3_load_42
      have l_13 : (70 : Int32).toInt = 70 := rfl
      have q_14 := i_rng r12
      refine WP.bind (cs_X1_addPair hfu (70 : Int32) r12 F G hI) ?_
      rintro r15 F15 G15 ⟨hI15, hB15, hT15, hO15, hK15, hp15⟩
      dsimp only
      have q_16 := hI.r 10 rfl
      have q_17 := hI15.r 10 rfl
      have e_18 : (F15 10).toInt = (F 10).toInt := hO15
      unfold cb_X3_load_45
      unfold cb_X3_load_65
      refine WP.ret ?_
      exact ⟨hI15, (KB.tr (KB.rf : KB F G F G) hB15), (KT.tr (rfl : KT F F) hT15), (KO.tr (rfl : KO F F) hO15), (KK.tr (rfl : KK F F) hK15), trivial⟩
    · skip
      have l_19 : (0 : Int32).toInt = 0 := rfl
      have e_20 := mt i_eq.mpr (show ¬ (r7 = (0 : Int32)) from c_9)
      unfold cb_X3_load_27
      unfold cb_X3_load_34
      refine WP.bind (cs_X5_value hfu x1 F G hI) ?_
      rintro r21 _ _ ⟨rfl, rfl, hp21⟩
      dsimp only
      unfold cb_X3_load_42
      have l_22 : (69 : Int32).toInt = 69 := rfl
      have q_23 := i_rng r21
      refine WP.bind (cs_X1_addPair hfu (69 : Int32) r21 F G hI) ?_
      rintro r24 F24 G24 ⟨hI24, hB24, hT24, hO24, hK24, hp24⟩
      dsimp only
      have q_25 := hI.r 10 rfl
      have q_26 := hI24.r 10 rfl
      have e_27 : (F24 10).toInt = (F 10).toInt := hO24
      unfold cb_X3_load_45
      unfold cb_X3_load_65
      refine WP.ret ?_
      exact ⟨hI24, (KB.tr (KB.rf : KB F G F G) hB24), (KT.tr (rfl : KT F F) hT24), (KO.tr (rfl : KO F F) hO24), (KK.tr (rfl : KK F F) hK24), trivial⟩
  · skip
    have l_28 : (1 : Int32).toInt = 1 := rfl
    have e_29 := mt i_eq.mpr (show ¬ (r2 = (1 : Int32)) from c_4)
    unfold cb_X3_load_48
    refine WP.bind (cs_X5_value hfu x1 F G hI) ?_
    rintro r30 _ _ ⟨rfl, rfl, hp30⟩
    dsimp only
    unfold cb_X3_load_62
    have l_31 : (66 : Int32).toInt = 66 := rfl
    have q_32 := i_rng r30
    refine WP.bind (cs_X1_addPair hfu (66 : Int32) r30 F G hI) ?_
    rintro r33 F33 G33 ⟨hI33, hB33, hT33, hO33, hK33, hp33⟩
    dsimp only
    have q_34 := hI.r 10 rfl
    have q_35 := hI33.r 10 rfl
    have e_36 : (F33 10).toInt = (F 10).toInt := hO33
    unfold cb_X3_load_65
    refine WP.ret ?_
    exact ⟨hI33, (KB.tr (KB.rf : KB F G F G) hB33), (KT.tr (rfl : KT F F) hT33), (KO.tr (rfl : KO F F) hO33), (KK.tr (rfl : KK F F) hK33), trivial⟩
def cIH1 (rc : RC) (d : Nat) : Prop := (∀ (x : Int32) (y : Int32) (F : PF) (G : PG), CI F G → 5 * (40 - (F 10).toInt) + 1 ≤ (d : Int) → WP (rc 0 x y F G) (fun r' F' G' => CI F' G' ∧ KB F G F' G' ∧ KT F F' ∧ KO F F' ∧ True)) ∧ (∀ (F : PF) (G : PG), CI F G → 5 * (40 - (F 10).toInt) + 5 ≤ (d : Int) → WP (rc 1 0 0 F G) (fun r' F' G' => CI F' G' ∧ KB F G F' G' ∧ KT F F' ∧ KO F F' ∧ KS F F' ∧ True)) ∧ (∀ (x : Int32) (F : PF) (G : PG), CI F G → 5 * (40 - (F 10).toInt) + 1 ≤ (d : Int) → WP (rc 2 x 0 F G) (fun r' F' G' => CI F' G' ∧ KB F G F' G' ∧ KT F F' ∧ KO F F' ∧ True)) ∧ (∀ (F : PF) (G : PG), CI F G → 5 * (40 - (F 10).toInt) + 4 ≤ (d : Int) → WP (rc 3 0 0 F G) (fun r' F' G' => CI F' G' ∧ KB F G F' G' ∧ KT F F' ∧ KO F F' ∧ KS F F' ∧ True)) ∧ (∀ (F : PF) (G : PG), CI F G → 5 * (40 - (F 10).toInt) + 2 ≤ (d : Int) → WP (rc 4 0 0 F G) (fun r' F' G' => CI F' G' ∧ KB F G F' G' ∧ KT F F' ∧ KO F F' ∧ True)) ∧ (∀ (F : PF) (G : PG), CI F G → 5 * (40 - (F 10).toInt) + 3 ≤ (d : Int) → WP (rc 5 0 0 F G) (fun r' F' G' => CI F' G' ∧ KB F G F' G' ∧ KT F F' ∧ KO F F' ∧ KS F F' ∧ True))
theorem cz_X3_call_74 {fu : Nat} (hfu : 8589934592 ≤ fu) (rc : RC) {d : Nat} (ih : cIH1 rc d) {F0 : PF} {G0 : PG} (hd : 5 * (40 - (F0 10).toInt) + 1 ≤ (d + 1 : Int)) : ∀ (n : Nat) (x2 : Int32) (x3 : Int32) (x4 : Int32) (x5 : Int32) (x6 : Int32) (x7 : Int32) (F : PF) (G : PG) (hI : CI F G) (hB : KB F0 G0 F G) (hT : KT F0 F) (i_0 : (F 10).toInt = (F0 10).toInt + 1) (i_1 : -1 ≤ (F0 10).toInt) (i_2 : (F0 10).toInt < 40) (i_3 : x5.toInt = x7.toInt) (i_4 : 0 ≤ x7.toInt) (i_5 : x7.toInt ≤ 4001) (hn : (2147483647 - x7.toInt).toNat < n), WP (cl_X3_call_74 fu rc n x2 x3 x4 x5 x6 x7 F G) (fun r' F' G' => CI F' G' ∧ KB F0 G0 F' G' ∧ KT F0 F' ∧ KO F0 F' ∧ True) := by
  intro n
  induction n with
  | zero =>
    intro x2 x3 x4 x5 x6 x7 F G hI hB hT i_0 i_1 i_2 i_3 i_4 i_5 hn
    exact absurd hn (Nat.not_lt_zero _)
  | succ n ihn =>
    intro x2 x3 x4 x5 x6 x7 F G hI hB hT i_0 i_1 i_2 i_3 i_4 i_5 hn
    show WP (cb_X3_call_74 fu rc (cl_X3_call_74 fu rc n)  x2 x3 x4 x5 x6 x7 F G) _
    unfold cb_X3_call_74
    refine WP.ite (fun c_1 => ?_) (fun c_1 => ?_)
    · skip
      have l_2 : (4001 : Int32).toInt = 4001 := rfl
      have q_3 := i_rng x7
      have e_4 := i_le.mp (show (4001 : Int32) ≤ x7 from c_1)
      unfold cb_X3_call_246
      refine WP.ite (fun c_5 => ?_) (fun c_5 => ?_)
      · skip
        have q_6 := i_rng x3
        have l_7 : (0 : Int32).toInt = 0 := rfl
        have e_8 := i_eq.mp (show x3 = (0 : Int32) from c_5)
        unfold cb_X3_call_280
        have l_9 : (20 : Int32).toInt = 20 := rfl
        have q_10 := hI.r 10 rfl
        refine WP.bind (cs_X2_closesWith hfu (20 : Int32) F G hI (show 0 ≤ (F 10).toInt by omega) (show (20 : Int32).toInt ≠ -2 by omega)) ?_
        rintro r11 F11 G11 ⟨hI11, hB11, hT11, hS11, hp11⟩
        dsimp only
        have q_12 := hI11.r 10 rfl
        have e_13 : (F11 10).toInt = (F 10).toInt - 1 := hp11
        unfold cb_X3_call_289
        have l_14 : (90 : Int32).toInt = 90 := rfl
        have q_15 := i_rng x4
        refine WP.bind (cs_X1_addPair hfu (90 : Int32) x4 F11 G11 hI11) ?_
        rintro r16 F16 G16 ⟨hI16, hB16, hT16, hO16, hK16, hp16⟩
        dsimp only
        have q_17 := hI16.r 10 rfl
        have e_18 : (F16 10).toInt = (F11 10).toInt := hO16
        unfold cb_X3_call_300
        have q_19 := i_rng x2
        refine WP.bind (cs_X1_add hfu x2 F16 G16 hI16) ?_
        rintro r20 F20 G20 ⟨hI20, hB20, hT20, hO20, hK20, hp20⟩
        dsimp only
        have q_21 := hI20.r 10 rfl
        have e_22 : (F20 10).toInt = (F16 10).toInt := hO20
        have q_23 := hI16.r 21 rfl
        have q_24 := hI20.r 21 rfl
        have e_25 : (F20 21).toInt = (F16 21).toInt := congrArg Int32.toInt hp20
        unfold cb_X3_call_308
        refine WP.ret ?_
        have q_26 := i_rng (F0 10)
        exact ⟨hI20, (KB.tr (KB.tr (KB.tr hB hB11) hB16) hB20), (KT.tr (KT.tr (KT.tr hT hT11) hT16) hT20), (show (F20 10).toInt = (F0 10).toInt by omega), trivial⟩
      · skip
        have q_27 := i_rng x3
        have l_28 : (0 : Int32).toInt = 0 := rfl
        have e_29 := mt i_eq.mpr (show ¬ (x3 = (0 : Int32)) from c_5)
        unfold cb_X3_call_250
        have q_30 := i_rng x4
        have q_31 := i_rng x5
        refine WP.bind (cs_X8_formalKind hfu x4 x5 F G hI (show x5.toInt ≤ 4001 by omega)) ?_
        rintro r32 _ _ ⟨rfl, rfl, hp32⟩
        dsimp only
        unfold cb_X3_call_261
        refine WP.ite (fun c_33 => ?_) (fun c_33 => ?_)
        · skip
          have q_34 := i_rng r32
          have l_35 : (-1 : Int32).toInt = -1 := rfl
          have e_36 := i_eq.mp (show r32 = (-1 : Int32) from c_33)
          unfold cb_X3_call_280
          have l_37 : (20 : Int32).toInt = 20 := rfl
          have q_38 := hI.r 10 rfl
          refine WP.bind (cs_X2_closesWith hfu (20 : Int32) F G hI (show 0 ≤ (F 10).toInt by omega) (show (20 : Int32).toInt ≠ -2 by omega)) ?_
          rintro r39 F39 G39 ⟨hI39, hB39, hT39, hS39, hp39⟩
          dsimp only
          have q_40 := hI39.r 10 rfl
          have e_41 : (F39 10).toInt = (F 10).toInt - 1 := hp39
          unfold cb_X3_call_289
          have l_42 : (90 : Int32).toInt = 90 := rfl
          refine WP.bind (cs_X1_addPair hfu (90 : Int32) x4 F39 G39 hI39) ?_
          rintro r43 F43 G43 ⟨hI43, hB43, hT43, hO43, hK43, hp43⟩
          dsimp only
          have q_44 := hI43.r 10 rfl
          have e_45 : (F43 10).toInt = (F39 10).toInt := hO43
          unfold cb_X3_call_300
          have q_46 := i_rng x2
          refine WP.bind (cs_X1_add hfu x2 F43 G43 hI43) ?_
          rintro r47 F47 G47 ⟨hI47, hB47, hT47, hO47, hK47, hp47⟩
          dsimp only
          have q_48 := hI47.r 10 rfl
          have e_49 : (F47 10).toInt = (F43 10).toInt := hO47
          have q_50 := hI43.r 21 rfl
          have q_51 := hI47.r 21 rfl
          have e_52 : (F47 21).toInt = (F43 21).toInt := congrArg Int32.toInt hp47
          unfold cb_X3_call_308
          refine WP.ret ?_
          have q_53 := i_rng (F0 10)
          exact ⟨hI47, (KB.tr (KB.tr (KB.tr hB hB39) hB43) hB47), (KT.tr (KT.tr (KT.tr hT hT39) hT43) hT47), (show (F47 10).toInt = (F0 10).toInt by omega), trivial⟩
        · skip
          have q_54 := i_rng r32
          have l_55 : (-1 : Int32).toInt = -1 := rfl
          have e_56 := mt i_eq.mpr (show ¬ (r32 = (-1 : Int32)) from c_33)
          unfold cb_X3_call_265
          have l_57 : (2 : Int32).toInt = 2 := rfl
          have q_58 := i_rng (F 13)
          refine WP.bind (cs_X5_note hfu (2 : Int32) (F 13) F G hI) ?_
          rintro r59 F59 G59 ⟨hI59, hB59, hT59, hO59, hK59, hp59⟩
          dsimp only
          have q_60 := hI.r 10 rfl
          have q_61 := hI59.r 10 rfl
          have e_62 : (F59 10).toInt = (F 10).toInt := hO59
          unfold cb_X3_call_280
          have l_63 : (20 : Int32).toInt = 20 := rfl
          refine WP.bind (cs_X2_closesWith hfu (20 : Int32) F59 G59 hI59 (show 0 ≤ (F59 10).toInt by omega) (show (20 : Int32).toInt ≠ -2 by omega)) ?_
          rintro r64 F64 G64 ⟨hI64, hB64, hT64, hS64, hp64⟩
          dsimp only
          have q_65 := hI64.r 10 rfl
          have e_66 : (F64 10).toInt = (F59 10).toInt - 1 := hp64
          unfold cb_X3_call_289
          have l_67 : (90 : Int32).toInt = 90 := rfl
          refine WP.bind (cs_X1_addPair hfu (90 : Int32) x4 F64 G64 hI64) ?_
          rintro r68 F68 G68 ⟨hI68, hB68, hT68, hO68, hK68, hp68⟩
          dsimp only
          have q_69 := hI68.r 10 rfl
          have e_70 : (F68 10).toInt = (F64 10).toInt := hO68
          unfold cb_X3_call_300
          have q_71 := i_rng x2
          refine WP.bind (cs_X1_add hfu x2 F68 G68 hI68) ?_
          rintro r72 F72 G72 ⟨hI72, hB72, hT72, hO72, hK72, hp72⟩
          dsimp only
          have q_73 := hI72.r 10 rfl
          have e_74 : (F72 10).toInt = (F68 10).toInt := hO72
          have q_75 := hI68.r 21 rfl
          have q_76 := hI72.r 21 rfl
          have e_77 : (F72 21).toInt = (F68 21).toInt := congrArg Int32.toInt hp72
          unfold cb_X3_call_308
          refine WP.ret ?_
          have q_78 := i_rng (F0 10)
          exact ⟨hI72, (KB.tr (KB.tr (KB.tr (KB.tr hB hB59) hB64) hB68) hB72), (KT.tr (KT.tr (KT.tr (KT.tr hT hT59) hT64) hT68) hT72), (show (F72 10).toInt = (F0 10).toInt by omega), trivial⟩
    · skip
      have l_79 : (4001 : Int32).toInt = 4001 := rfl
      have q_80 := i_rng x7
      have e_81 := mt i_le.mpr (show ¬ ((4001 : Int32) ≤ x7) from c_1)
      unfold cb_X3_call_82
      refine WP.ite (fun c_82 => ?_) (fun c_82 => ?_)
      · skip
        have q_83 := i_rng x6
        have l_84 : (0 : Int32).toInt = 0 := rfl
        have e_85 := i_eq.mp (show x6 = (0 : Int32) from c_82)
        unfold cb_X3_call_246
        refine WP.ite (fun c_86 => ?_) (fun c_86 => ?_)
        · skip
          have q_87 := i_rng x3
          have e_88 := i_eq.mp (show x3 = (0 : Int32) from c_86)
          unfold cb_X3_call_280
          have l_89 : (20 : Int32).toInt = 20 := rfl
          have q_90 := hI.r 10 rfl
          refine WP.bind (cs_X2_closesWith hfu (20 : Int32) F G hI (show 0 ≤ (F 10).toInt by omega) (show (20 : Int32).toInt ≠ -2 by omega)) ?_
          rintro r91 F91 G91 ⟨hI91, hB91, hT91, hS91, hp91⟩
          dsimp only
          have q_92 := hI91.r 10 rfl
          have e_93 : (F91 10).toInt = (F 10).toInt - 1 := hp91
          unfold cb_X3_call_289
          have l_94 : (90 : Int32).toInt = 90 := rfl
          have q_95 := i_rng x4
          refine WP.bind (cs_X1_addPair hfu (90 : Int32) x4 F91 G91 hI91) ?_
          rintro r96 F96 G96 ⟨hI96, hB96, hT96, hO96, hK96, hp96⟩
          dsimp only
          have q_97 := hI96.r 10 rfl
          have e_98 : (F96 10).toInt = (F91 10).toInt := hO96
          unfold cb_X3_call_300
          have q_99 := i_rng x2
          refine WP.bind (cs_X1_add hfu x2 F96 G96 hI96) ?_
          rintro r100 F100 G100 ⟨hI100, hB100, hT100, hO100, hK100, hp100⟩
          dsimp only
          have q_101 := hI100.r 10 rfl
          have e_102 : (F100 10).toInt = (F96 10).toInt := hO100
          have q_103 := hI96.r 21 rfl
          have q_104 := hI100.r 21 rfl
          have e_105 : (F100 21).toInt = (F96 21).toInt := congrArg Int32.toInt hp100
          unfold cb_X3_call_308
          refine WP.ret ?_
          have q_106 := i_rng (F0 10)
          exact ⟨hI100, (KB.tr (KB.tr (KB.tr hB hB91) hB96) hB100), (KT.tr (KT.tr (KT.tr hT hT91) hT96) hT100), (show (F100 10).toInt = (F0 10).toInt by omega), trivial⟩
        · skip
          have q_107 := i_rng x3
          have e_108 := mt i_eq.mpr (show ¬ (x3 = (0 : Int32)) from c_86)
          unfold cb_X3_call_250
          have q_109 := i_rng x4
          have q_110 := i_rng x5
          refine WP.bind (cs_X8_formalKind hfu x4 x5 F G hI (show x5.toInt ≤ 4001 by omega)) ?_
          rintro r111 _ _ ⟨rfl, rfl, hp111⟩
          dsimp only
          unfold cb_X3_call_261
          refine WP.ite (fun c_112 => ?_) (fun c_112 => ?_)
          · skip
            have q_113 := i_rng r111
            have l_114 : (-1 : Int32).toInt = -1 := rfl
            have e_115 := i_eq.mp (show r111 = (-1 : Int32) from c_112)
            unfold cb_X3_call_280
            have l_116 : (20 : Int32).toInt = 20 := rfl
            have q_117 := hI.r 10 rfl
            refine WP.bind (cs_X2_closesWith hfu (20 : Int32) F G hI (show 0 ≤ (F 10).toInt by omega) (show (20 : Int32).toInt ≠ -2 by omega)) ?_
            rintro r118 F118 G118 ⟨hI118, hB118, hT118, hS118, hp118⟩
            dsimp only
            have q_119 := hI118.r 10 rfl
            have e_120 : (F118 10).toInt = (F 10).toInt - 1 := hp118
            unfold cb_X3_call_289
            have l_121 : (90 : Int32).toInt = 90 := rfl
            refine WP.bind (cs_X1_addPair hfu (90 : Int32) x4 F118 G118 hI118) ?_
            rintro r122 F122 G122 ⟨hI122, hB122, hT122, hO122, hK122, hp122⟩
            dsimp only
            have q_123 := hI122.r 10 rfl
            have e_124 : (F122 10).toInt = (F118 10).toInt := hO122
            unfold cb_X3_call_300
            have q_125 := i_rng x2
            refine WP.bind (cs_X1_add hfu x2 F122 G122 hI122) ?_
            rintro r126 F126 G126 ⟨hI126, hB126, hT126, hO126, hK126, hp126⟩
            dsimp only
            have q_127 := hI126.r 10 rfl
            have e_128 : (F126 10).toInt = (F122 10).toInt := hO126
            have q_129 := hI122.r 21 rfl
            have q_130 := hI126.r 21 rfl
            have e_131 : (F126 21).toInt = (F122 21).toInt := congrArg Int32.toInt hp126
            unfold cb_X3_call_308
            refine WP.ret ?_
            have q_132 := i_rng (F0 10)
            exact ⟨hI126, (KB.tr (KB.tr (KB.tr hB hB118) hB122) hB126), (KT.tr (KT.tr (KT.tr hT hT118) hT122) hT126), (show (F126 10).toInt = (F0 10).toInt by omega), trivial⟩
          · skip
            have q_133 := i_rng r111
            have l_134 : (-1 : Int32).toInt = -1 := rfl
            have e_135 := mt i_eq.mpr (show ¬ (r111 = (-1 : Int32)) from c_112)
            unfold cb_X3_call_265
            have l_136 : (2 : Int32).toInt = 2 := rfl
            have q_137 := i_rng (F 13)
            refine WP.bind (cs_X5_note hfu (2 : Int32) (F 13) F G hI) ?_
            rintro r138 F138 G138 ⟨hI138, hB138, hT138, hO138, hK138, hp138⟩
            dsimp only
            have q_139 := hI.r 10 rfl
            have q_140 := hI138.r 10 rfl
            have e_141 : (F138 10).toInt = (F 10).toInt := hO138
            unfold cb_X3_call_280
            have l_142 : (20 : Int32).toInt = 20 := rfl
            refine WP.bind (cs_X2_closesWith hfu (20 : Int32) F138 G138 hI138 (show 0 ≤ (F138 10).toInt by omega) (show (20 : Int32).toInt ≠ -2 by omega)) ?_
            rintro r143 F143 G143 ⟨hI143, hB143, hT143, hS143, hp143⟩
            dsimp only
            have q_144 := hI143.r 10 rfl
            have e_145 : (F143 10).toInt = (F138 10).toInt - 1 := hp143
            unfold cb_X3_call_289
            have l_146 : (90 : Int32).toInt = 90 := rfl
            refine WP.bind (cs_X1_addPair hfu (90 : Int32) x4 F143 G143 hI143) ?_
            rintro r147 F147 G147 ⟨hI147, hB147, hT147, hO147, hK147, hp147⟩
            dsimp only
            have q_148 := hI147.r 10 rfl
            have e_149 : (F147 10).toInt = (F143 10).toInt := hO147
            unfold cb_X3_call_300
            have q_150 := i_rng x2
            refine WP.bind (cs_X1_add hfu x2 F147 G147 hI147) ?_
            rintro r151 F151 G151 ⟨hI151, hB151, hT151, hO151, hK151, hp151⟩
            dsimp only
            have q_152 := hI151.r 10 rfl
            have e_153 : (F151 10).toInt = (F147 10).toInt := hO151
            have q_154 := hI147.r 21 rfl
            have q_155 := hI151.r 21 rfl
            have e_156 : (F151 21).toInt = (F147 21).toInt := congrArg Int32.toInt hp151
            unfold cb_X3_call_308
            refine WP.ret ?_
            have q_157 := i_rng (F0 10)
            exact ⟨hI151, (KB.tr (KB.tr (KB.tr (KB.tr hB hB138) hB143) hB147) hB151), (KT.tr (KT.tr (KT.tr (KT.tr hT hT138) hT143) hT147) hT151), (show (F151 10).toInt = (F0 10).toInt by omega), trivial⟩
      · skip
        have q_158 := i_rng x6
        have l_159 : (0 : Int32).toInt = 0 := rfl
        have e_160 := mt i_eq.mpr (show ¬ (x6 = (0 : Int32)) from c_82)
        unfold cb_X3_call_87
        refine WP.ite (fun c_161 => ?_) (fun c_161 => ?_)
        · skip
          have q_162 := i_rng x3
          have e_163 := i_eq.mp (show x3 = (0 : Int32) from c_161)
          unfold cb_X3_call_105
          unfold cb_X3_call_106
          refine WP.ite (fun _ => ?_) (fun c_164 => absurd (by decide) c_164)
          unfold cb_X3_call_181
          refine WP.ite (fun _ => ?_) (fun c_165 => absurd (by decide) c_165)
          unfold cb_X3_call_202
          have q_166 := hI.r 10 rfl
          refine WP.bind (ih.2.1 F G hI (by omega)) ?_
          rintro r167 F167 G167 ⟨hI167, hB167, hT167, hO167, hS167, hp167⟩
          dsimp only
          have q_168 := hI167.r 10 rfl
          have e_169 : (F167 10).toInt = (F 10).toInt := hO167
          unfold cb_X3_call_206
          refine WP.ite (fun c_170 => ?_) (fun c_170 => ?_)
          · skip
            have q_171 := i_rng (F167 11)
            have l_172 : (25 : Int32).toInt = 25 := rfl
            have e_173 := i_eq.mp (show (F167 11) = (25 : Int32) from c_170)
            unfold cb_X3_call_221
            unfold cb_X3_call_226
            refine WP.ite (fun c_174 => absurd c_174 (by decide)) (fun _ => ?_)
            unfold cb_X3_call_233
            refine WP.bind (cs_X2_next hfu F167 G167 hI167) ?_
            rintro r175 F175 G175 ⟨hI175, hB175, hT175, hO175, hp175⟩
            dsimp only
            have q_176 := hI175.r 10 rfl
            have e_177 : (F175 10).toInt = (F167 10).toInt := hO175
            unfold cb_X3_call_240
            have q_178 := i_rng x2
            have q_179 := i_rng x4
            have q_180 := i_rng x5
            first | have e_181 : (x5 + (1 : Int32)).toInt = x5.toInt + (1) := i_addn x5 rfl (by omega) (by omega) | have e_182 := i_rng (x5 + (1 : Int32))
            have l_183 : (1 : Int32).toInt = 1 := rfl
            first | have e_184 : (x7 + (1 : Int32)).toInt = x7.toInt + (1) := i_addn x7 rfl (by omega) (by omega) | have e_185 := i_rng (x7 + (1 : Int32))
            exact ihn x2 x3 x4 (x5 + (1 : Int32)) (1 : Int32) (x7 + (1 : Int32)) F175 G175 hI175 (KB.tr (KB.tr hB hB167) hB175) (KT.tr (KT.tr hT hT167) hT175) (show (F175 10).toInt = (F0 10).toInt + 1 by omega) (show -1 ≤ (F0 10).toInt by omega) (show (F0 10).toInt < 40 by omega) (show (x5 + (1 : Int32)).toInt = (x7 + (1 : Int32)).toInt by omega) (show 0 ≤ (x7 + (1 : Int32)).toInt by omega) (show (x7 + (1 : Int32)).toInt ≤ 4001 by omega) (by omega)
          · skip
            have q_186 := i_rng (F167 11)
            have l_187 : (25 : Int32).toInt = 25 := rfl
            have e_188 := mt i_eq.mpr (show ¬ ((F167 11) = (25 : Int32)) from c_170)
            unfold cb_X3_call_225
            unfold cb_X3_call_226
            refine WP.ite (fun _ => ?_) (fun c_189 => absurd (by decide) c_189)
            unfold cb_X3_call_240
            have q_190 := i_rng x2
            have q_191 := i_rng x4
            have q_192 := i_rng x5
            first | have e_193 : (x5 + (1 : Int32)).toInt = x5.toInt + (1) := i_addn x5 rfl (by omega) (by omega) | have e_194 := i_rng (x5 + (1 : Int32))
            first | have e_195 : (x7 + (1 : Int32)).toInt = x7.toInt + (1) := i_addn x7 rfl (by omega) (by omega) | have e_196 := i_rng (x7 + (1 : Int32))
            exact ihn x2 x3 x4 (x5 + (1 : Int32)) (0 : Int32) (x7 + (1 : Int32)) F167 G167 hI167 (KB.tr hB hB167) (KT.tr hT hT167) (show (F167 10).toInt = (F0 10).toInt + 1 by omega) (show -1 ≤ (F0 10).toInt by omega) (show (F0 10).toInt < 40 by omega) (show (x5 + (1 : Int32)).toInt = (x7 + (1 : Int32)).toInt by omega) (show 0 ≤ (x7 + (1 : Int32)).toInt by omega) (show (x7 + (1 : Int32)).toInt ≤ 4001 by omega) (by omega)
        · skip
          have q_197 := i_rng x3
          have e_198 := mt i_eq.mpr (show ¬ (x3 = (0 : Int32)) from c_161)
          unfold cb_X3_call_91
          have q_199 := i_rng x4
          refine WP.bind (cs_X8_formalKind hfu x4 x7 F G hI (show x7.toInt ≤ 4001 by omega)) ?_
          rintro r200 _ _ ⟨rfl, rfl, hp200⟩
          dsimp only
          unfold cb_X3_call_102
          unfold cb_X3_call_106
          refine WP.ite (fun c_201 => ?_) (fun c_201 => ?_)
          · skip
            have q_202 := i_rng r200
            have l_203 : (1 : Int32).toInt = 1 := rfl
            have e_204 := i_le.mp (show r200 ≤ (1 : Int32) from c_201)
            unfold cb_X3_call_181
            refine WP.ite (fun c_205 => ?_) (fun c_205 => ?_)
            · skip
              have e_206 := i_eq.mp (show r200 = (1 : Int32) from c_205)
              unfold cb_X3_call_202
              have q_207 := hI.r 10 rfl
              refine WP.bind (ih.2.1 F G hI (by omega)) ?_
              rintro r208 F208 G208 ⟨hI208, hB208, hT208, hO208, hS208, hp208⟩
              dsimp only
              have q_209 := hI208.r 10 rfl
              have e_210 : (F208 10).toInt = (F 10).toInt := hO208
              unfold cb_X3_call_206
              refine WP.ite (fun c_211 => ?_) (fun c_211 => ?_)
              · skip
                have q_212 := i_rng (F208 11)
                have l_213 : (25 : Int32).toInt = 25 := rfl
                have e_214 := i_eq.mp (show (F208 11) = (25 : Int32) from c_211)
                unfold cb_X3_call_221
                unfold cb_X3_call_226
                refine WP.ite (fun c_215 => absurd c_215 (by decide)) (fun _ => ?_)
                unfold cb_X3_call_233
                refine WP.bind (cs_X2_next hfu F208 G208 hI208) ?_
                rintro r216 F216 G216 ⟨hI216, hB216, hT216, hO216, hp216⟩
                dsimp only
                have q_217 := hI216.r 10 rfl
                have e_218 : (F216 10).toInt = (F208 10).toInt := hO216
                unfold cb_X3_call_240
                have q_219 := i_rng x2
                have q_220 := i_rng x5
                first | have e_221 : (x5 + (1 : Int32)).toInt = x5.toInt + (1) := i_addn x5 rfl (by omega) (by omega) | have e_222 := i_rng (x5 + (1 : Int32))
                first | have e_223 : (x7 + (1 : Int32)).toInt = x7.toInt + (1) := i_addn x7 rfl (by omega) (by omega) | have e_224 := i_rng (x7 + (1 : Int32))
                exact ihn x2 x3 x4 (x5 + (1 : Int32)) (1 : Int32) (x7 + (1 : Int32)) F216 G216 hI216 (KB.tr (KB.tr hB hB208) hB216) (KT.tr (KT.tr hT hT208) hT216) (show (F216 10).toInt = (F0 10).toInt + 1 by omega) (show -1 ≤ (F0 10).toInt by omega) (show (F0 10).toInt < 40 by omega) (show (x5 + (1 : Int32)).toInt = (x7 + (1 : Int32)).toInt by omega) (show 0 ≤ (x7 + (1 : Int32)).toInt by omega) (show (x7 + (1 : Int32)).toInt ≤ 4001 by omega) (by omega)
              · skip
                have q_225 := i_rng (F208 11)
                have l_226 : (25 : Int32).toInt = 25 := rfl
                have e_227 := mt i_eq.mpr (show ¬ ((F208 11) = (25 : Int32)) from c_211)
                unfold cb_X3_call_225
                unfold cb_X3_call_226
                refine WP.ite (fun _ => ?_) (fun c_228 => absurd (by decide) c_228)
                unfold cb_X3_call_240
                have q_229 := i_rng x2
                have q_230 := i_rng x5
                first | have e_231 : (x5 + (1 : Int32)).toInt = x5.toInt + (1) := i_addn x5 rfl (by omega) (by omega) | have e_232 := i_rng (x5 + (1 : Int32))
                first | have e_233 : (x7 + (1 : Int32)).toInt = x7.toInt + (1) := i_addn x7 rfl (by omega) (by omega) | have e_234 := i_rng (x7 + (1 : Int32))
                exact ihn x2 x3 x4 (x5 + (1 : Int32)) (0 : Int32) (x7 + (1 : Int32)) F208 G208 hI208 (KB.tr hB hB208) (KT.tr hT hT208) (show (F208 10).toInt = (F0 10).toInt + 1 by omega) (show -1 ≤ (F0 10).toInt by omega) (show (F0 10).toInt < 40 by omega) (show (x5 + (1 : Int32)).toInt = (x7 + (1 : Int32)).toInt by omega) (show 0 ≤ (x7 + (1 : Int32)).toInt by omega) (show (x7 + (1 : Int32)).toInt ≤ 4001 by omega) (by omega)
            · skip
              have e_235 := mt i_eq.mpr (show ¬ (r200 = (1 : Int32)) from c_205)
              unfold cb_X3_call_187
              have l_236 : (2 : Int32).toInt = 2 := rfl
              have q_237 := i_rng (F 13)
              refine WP.bind (cs_X5_note hfu (2 : Int32) (F 13) F G hI) ?_
              rintro r238 F238 G238 ⟨hI238, hB238, hT238, hO238, hK238, hp238⟩
              dsimp only
              have q_239 := hI.r 10 rfl
              have q_240 := hI238.r 10 rfl
              have e_241 : (F238 10).toInt = (F 10).toInt := hO238
              unfold cb_X3_call_202
              refine WP.bind (ih.2.1 F238 G238 hI238 (by omega)) ?_
              rintro r242 F242 G242 ⟨hI242, hB242, hT242, hO242, hS242, hp242⟩
              dsimp only
              have q_243 := hI242.r 10 rfl
              have e_244 : (F242 10).toInt = (F238 10).toInt := hO242
              unfold cb_X3_call_206
              refine WP.ite (fun c_245 => ?_) (fun c_245 => ?_)
              · skip
                have q_246 := i_rng (F242 11)
                have l_247 : (25 : Int32).toInt = 25 := rfl
                have e_248 := i_eq.mp (show (F242 11) = (25 : Int32) from c_245)
                unfold cb_X3_call_221
                unfold cb_X3_call_226
                refine WP.ite (fun c_249 => absurd c_249 (by decide)) (fun _ => ?_)
                unfold cb_X3_call_233
                refine WP.bind (cs_X2_next hfu F242 G242 hI242) ?_
                rintro r250 F250 G250 ⟨hI250, hB250, hT250, hO250, hp250⟩
                dsimp only
                have q_251 := hI250.r 10 rfl
                have e_252 : (F250 10).toInt = (F242 10).toInt := hO250
                unfold cb_X3_call_240
                have q_253 := i_rng x2
                have q_254 := i_rng x5
                first | have e_255 : (x5 + (1 : Int32)).toInt = x5.toInt + (1) := i_addn x5 rfl (by omega) (by omega) | have e_256 := i_rng (x5 + (1 : Int32))
                first | have e_257 : (x7 + (1 : Int32)).toInt = x7.toInt + (1) := i_addn x7 rfl (by omega) (by omega) | have e_258 := i_rng (x7 + (1 : Int32))
                exact ihn x2 x3 x4 (x5 + (1 : Int32)) (1 : Int32) (x7 + (1 : Int32)) F250 G250 hI250 (KB.tr (KB.tr (KB.tr hB hB238) hB242) hB250) (KT.tr (KT.tr (KT.tr hT hT238) hT242) hT250) (show (F250 10).toInt = (F0 10).toInt + 1 by omega) (show -1 ≤ (F0 10).toInt by omega) (show (F0 10).toInt < 40 by omega) (show (x5 + (1 : Int32)).toInt = (x7 + (1 : Int32)).toInt by omega) (show 0 ≤ (x7 + (1 : Int32)).toInt by omega) (show (x7 + (1 : Int32)).toInt ≤ 4001 by omega) (by omega)
              · skip
                have q_259 := i_rng (F242 11)
                have l_260 : (25 : Int32).toInt = 25 := rfl
                have e_261 := mt i_eq.mpr (show ¬ ((F242 11) = (25 : Int32)) from c_245)
                unfold cb_X3_call_225
                unfold cb_X3_call_226
                refine WP.ite (fun _ => ?_) (fun c_262 => absurd (by decide) c_262)
                unfold cb_X3_call_240
                have q_263 := i_rng x2
                have q_264 := i_rng x5
                first | have e_265 : (x5 + (1 : Int32)).toInt = x5.toInt + (1) := i_addn x5 rfl (by omega) (by omega) | have e_266 := i_rng (x5 + (1 : Int32))
                first | have e_267 : (x7 + (1 : Int32)).toInt = x7.toInt + (1) := i_addn x7 rfl (by omega) (by omega) | have e_268 := i_rng (x7 + (1 : Int32))
                exact ihn x2 x3 x4 (x5 + (1 : Int32)) (0 : Int32) (x7 + (1 : Int32)) F242 G242 hI242 (KB.tr (KB.tr hB hB238) hB242) (KT.tr (KT.tr hT hT238) hT242) (show (F242 10).toInt = (F0 10).toInt + 1 by omega) (show -1 ≤ (F0 10).toInt by omega) (show (F0 10).toInt < 40 by omega) (show (x5 + (1 : Int32)).toInt = (x7 + (1 : Int32)).toInt by omega) (show 0 ≤ (x7 + (1 : Int32)).toInt by omega) (show (x7 + (1 : Int32)).toInt ≤ 4001 by omega) (by omega)
          · skip
            have q_269 := i_rng r200
            have l_270 : (1 : Int32).toInt = 1 := rfl
            have e_271 := mt i_le.mpr (show ¬ (r200 ≤ (1 : Int32)) from c_201)
            unfold cb_X3_call_114
            refine WP.bind (cs_X2_isNameAlone hfu F G hI) ?_
            rintro r272 _ _ ⟨rfl, rfl, hp272⟩
            dsimp only
            have q_273 := b_rng hp272
            unfold cb_X3_call_121
            refine WP.ite (fun c_274 => ?_) (fun c_274 => ?_)
            · skip
              have e_275 := i_eq.mp (show r272 = (0 : Int32) from c_274)
              unfold cb_X3_call_181
              refine WP.ite (fun c_276 => ?_) (fun c_276 => ?_)
              · skip
                have e_277 := i_eq.mp (show r200 = (1 : Int32) from c_276)
                unfold cb_X3_call_202
                have q_278 := hI.r 10 rfl
                refine WP.bind (ih.2.1 F G hI (by omega)) ?_
                rintro r279 F279 G279 ⟨hI279, hB279, hT279, hO279, hS279, hp279⟩
                dsimp only
                have q_280 := hI279.r 10 rfl
                have e_281 : (F279 10).toInt = (F 10).toInt := hO279
                unfold cb_X3_call_206
                refine WP.ite (fun c_282 => ?_) (fun c_282 => ?_)
                · skip
                  have q_283 := i_rng (F279 11)
                  have l_284 : (25 : Int32).toInt = 25 := rfl
                  have e_285 := i_eq.mp (show (F279 11) = (25 : Int32) from c_282)
                  unfold cb_X3_call_221
                  unfold cb_X3_call_226
                  refine WP.ite (fun c_286 => absurd c_286 (by decide)) (fun _ => ?_)
                  unfold cb_X3_call_233
                  refine WP.bind (cs_X2_next hfu F279 G279 hI279) ?_
                  rintro r287 F287 G287 ⟨hI287, hB287, hT287, hO287, hp287⟩
                  dsimp only
                  have q_288 := hI287.r 10 rfl
                  have e_289 : (F287 10).toInt = (F279 10).toInt := hO287
                  unfold cb_X3_call_240
                  have q_290 := i_rng x2
                  have q_291 := i_rng x5
                  first | have e_292 : (x5 + (1 : Int32)).toInt = x5.toInt + (1) := i_addn x5 rfl (by omega) (by omega) | have e_293 := i_rng (x5 + (1 : Int32))
                  first | have e_294 : (x7 + (1 : Int32)).toInt = x7.toInt + (1) := i_addn x7 rfl (by omega) (by omega) | have e_295 := i_rng (x7 + (1 : Int32))
                  exact ihn x2 x3 x4 (x5 + (1 : Int32)) (1 : Int32) (x7 + (1 : Int32)) F287 G287 hI287 (KB.tr (KB.tr hB hB279) hB287) (KT.tr (KT.tr hT hT279) hT287) (show (F287 10).toInt = (F0 10).toInt + 1 by omega) (show -1 ≤ (F0 10).toInt by omega) (show (F0 10).toInt < 40 by omega) (show (x5 + (1 : Int32)).toInt = (x7 + (1 : Int32)).toInt by omega) (show 0 ≤ (x7 + (1 : Int32)).toInt by omega) (show (x7 + (1 : Int32)).toInt ≤ 4001 by omega) (by omega)
                · skip
                  have q_296 := i_rng (F279 11)
                  have l_297 : (25 : Int32).toInt = 25 := rfl
                  have e_298 := mt i_eq.mpr (show ¬ ((F279 11) = (25 : Int32)) from c_282)
                  unfold cb_X3_call_225
                  unfold cb_X3_call_226
                  refine WP.ite (fun _ => ?_) (fun c_299 => absurd (by decide) c_299)
                  unfold cb_X3_call_240
                  have q_300 := i_rng x2
                  have q_301 := i_rng x5
                  first | have e_302 : (x5 + (1 : Int32)).toInt = x5.toInt + (1) := i_addn x5 rfl (by omega) (by omega) | have e_303 := i_rng (x5 + (1 : Int32))
                  first | have e_304 : (x7 + (1 : Int32)).toInt = x7.toInt + (1) := i_addn x7 rfl (by omega) (by omega) | have e_305 := i_rng (x7 + (1 : Int32))
                  exact ihn x2 x3 x4 (x5 + (1 : Int32)) (0 : Int32) (x7 + (1 : Int32)) F279 G279 hI279 (KB.tr hB hB279) (KT.tr hT hT279) (show (F279 10).toInt = (F0 10).toInt + 1 by omega) (show -1 ≤ (F0 10).toInt by omega) (show (F0 10).toInt < 40 by omega) (show (x5 + (1 : Int32)).toInt = (x7 + (1 : Int32)).toInt by omega) (show 0 ≤ (x7 + (1 : Int32)).toInt by omega) (show (x7 + (1 : Int32)).toInt ≤ 4001 by omega) (by omega)
              · skip
                have e_306 := mt i_eq.mpr (show ¬ (r200 = (1 : Int32)) from c_276)
                unfold cb_X3_call_187
                have l_307 : (2 : Int32).toInt = 2 := rfl
                have q_308 := i_rng (F 13)
                refine WP.bind (cs_X5_note hfu (2 : Int32) (F 13) F G hI) ?_
                rintro r309 F309 G309 ⟨hI309, hB309, hT309, hO309, hK309, hp309⟩
                dsimp only
                have q_310 := hI.r 10 rfl
                have q_311 := hI309.r 10 rfl
                have e_312 : (F309 10).toInt = (F 10).toInt := hO309
                unfold cb_X3_call_202
                refine WP.bind (ih.2.1 F309 G309 hI309 (by omega)) ?_
                rintro r313 F313 G313 ⟨hI313, hB313, hT313, hO313, hS313, hp313⟩
                dsimp only
                have q_314 := hI313.r 10 rfl
                have e_315 : (F313 10).toInt = (F309 10).toInt := hO313
                unfold cb_X3_call_206
                refine WP.ite (fun c_316 => ?_) (fun c_316 => ?_)
                · skip
                  have q_317 := i_rng (F313 11)
                  have l_318 : (25 : Int32).toInt = 25 := rfl
                  have e_319 := i_eq.mp (show (F313 11) = (25 : Int32) from c_316)
                  unfold cb_X3_call_221
                  unfold cb_X3_call_226
                  refine WP.ite (fun c_320 => absurd c_320 (by decide)) (fun _ => ?_)
                  unfold cb_X3_call_233
                  refine WP.bind (cs_X2_next hfu F313 G313 hI313) ?_
                  rintro r321 F321 G321 ⟨hI321, hB321, hT321, hO321, hp321⟩
                  dsimp only
                  have q_322 := hI321.r 10 rfl
                  have e_323 : (F321 10).toInt = (F313 10).toInt := hO321
                  unfold cb_X3_call_240
                  have q_324 := i_rng x2
                  have q_325 := i_rng x5
                  first | have e_326 : (x5 + (1 : Int32)).toInt = x5.toInt + (1) := i_addn x5 rfl (by omega) (by omega) | have e_327 := i_rng (x5 + (1 : Int32))
                  first | have e_328 : (x7 + (1 : Int32)).toInt = x7.toInt + (1) := i_addn x7 rfl (by omega) (by omega) | have e_329 := i_rng (x7 + (1 : Int32))
                  exact ihn x2 x3 x4 (x5 + (1 : Int32)) (1 : Int32) (x7 + (1 : Int32)) F321 G321 hI321 (KB.tr (KB.tr (KB.tr hB hB309) hB313) hB321) (KT.tr (KT.tr (KT.tr hT hT309) hT313) hT321) (show (F321 10).toInt = (F0 10).toInt + 1 by omega) (show -1 ≤ (F0 10).toInt by omega) (show (F0 10).toInt < 40 by omega) (show (x5 + (1 : Int32)).toInt = (x7 + (1 : Int32)).toInt by omega) (show 0 ≤ (x7 + (1 : Int32)).toInt by omega) (show (x7 + (1 : Int32)).toInt ≤ 4001 by omega) (by omega)
                · skip
                  have q_330 := i_rng (F313 11)
                  have l_331 : (25 : Int32).toInt = 25 := rfl
                  have e_332 := mt i_eq.mpr (show ¬ ((F313 11) = (25 : Int32)) from c_316)
                  unfold cb_X3_call_225
                  unfold cb_X3_call_226
                  refine WP.ite (fun _ => ?_) (fun c_333 => absurd (by decide) c_333)
                  unfold cb_X3_call_240
                  have q_334 := i_rng x2
                  have q_335 := i_rng x5
                  first | have e_336 : (x5 + (1 : Int32)).toInt = x5.toInt + (1) := i_addn x5 rfl (by omega) (by omega) | have e_337 := i_rng (x5 + (1 : Int32))
                  first | have e_338 : (x7 + (1 : Int32)).toInt = x7.toInt + (1) := i_addn x7 rfl (by omega) (by omega) | have e_339 := i_rng (x7 + (1 : Int32))
                  exact ihn x2 x3 x4 (x5 + (1 : Int32)) (0 : Int32) (x7 + (1 : Int32)) F313 G313 hI313 (KB.tr (KB.tr hB hB309) hB313) (KT.tr (KT.tr hT hT309) hT313) (show (F313 10).toInt = (F0 10).toInt + 1 by omega) (show -1 ≤ (F0 10).toInt by omega) (show (F0 10).toInt < 40 by omega) (show (x5 + (1 : Int32)).toInt = (x7 + (1 : Int32)).toInt by omega) (show 0 ≤ (x7 + (1 : Int32)).toInt by omega) (show (x7 + (1 : Int32)).toInt ≤ 4001 by omega) (by omega)
            · skip
              have e_340 := mt i_eq.mpr (show ¬ (r272 = (0 : Int32)) from c_274)
              unfold cb_X3_call_124
              have q_341 := i_rng (F 12)
              have q_342 := i_rng (F 13)
              refine WP.bind (cs_X5_meant hfu (F 12) (F 13) F G hI) ?_
              rintro r343 F343 G343 ⟨hI343, hB343, hT343, hO343, hK343, hp343⟩
              dsimp only
              have q_344 := hI.r 10 rfl
              have q_345 := hI343.r 10 rfl
              have e_346 : (F343 10).toInt = (F 10).toInt := hO343
              unfold cb_X3_call_145
              have q_347 := i_rng r343
              have q_348 := i_rng (F343 13)
              refine WP.bind (cs_X5_wantArray hfu r343 (F343 13) r200 F343 G343 hI343) ?_
              rintro r349 F349 G349 ⟨hI349, hB349, hT349, hO349, hK349, hp349⟩
              dsimp only
              have q_350 := hI349.r 10 rfl
              have e_351 : (F349 10).toInt = (F343 10).toInt := hO349
              unfold cb_X3_call_165
              refine WP.bind (cs_X3_pass hfu r343 F349 G349 hI349) ?_
              rintro r352 F352 G352 ⟨hI352, hB352, hT352, hO352, hK352, hp352⟩
              dsimp only
              have q_353 := hI352.r 10 rfl
              have e_354 : (F352 10).toInt = (F349 10).toInt := hO352
              unfold cb_X3_call_171
              refine WP.bind (cs_X2_next hfu F352 G352 hI352) ?_
              rintro r355 F355 G355 ⟨hI355, hB355, hT355, hO355, hp355⟩
              dsimp only
              have q_356 := hI355.r 10 rfl
              have e_357 : (F355 10).toInt = (F352 10).toInt := hO355
              unfold cb_X3_call_178
              unfold cb_X3_call_206
              refine WP.ite (fun c_358 => ?_) (fun c_358 => ?_)
              · skip
                have q_359 := i_rng (F355 11)
                have l_360 : (25 : Int32).toInt = 25 := rfl
                have e_361 := i_eq.mp (show (F355 11) = (25 : Int32) from c_358)
                unfold cb_X3_call_221
                unfold cb_X3_call_226
                refine WP.ite (fun c_362 => absurd c_362 (by decide)) (fun _ => ?_)
                unfold cb_X3_call_233
                refine WP.bind (cs_X2_next hfu F355 G355 hI355) ?_
                rintro r363 F363 G363 ⟨hI363, hB363, hT363, hO363, hp363⟩
                dsimp only
                have q_364 := hI363.r 10 rfl
                have e_365 : (F363 10).toInt = (F355 10).toInt := hO363
                unfold cb_X3_call_240
                have q_366 := i_rng x2
                have q_367 := i_rng x5
                first | have e_368 : (x5 + (1 : Int32)).toInt = x5.toInt + (1) := i_addn x5 rfl (by omega) (by omega) | have e_369 := i_rng (x5 + (1 : Int32))
                first | have e_370 : (x7 + (1 : Int32)).toInt = x7.toInt + (1) := i_addn x7 rfl (by omega) (by omega) | have e_371 := i_rng (x7 + (1 : Int32))
                exact ihn x2 x3 x4 (x5 + (1 : Int32)) (1 : Int32) (x7 + (1 : Int32)) F363 G363 hI363 (KB.tr (KB.tr (KB.tr (KB.tr (KB.tr hB hB343) hB349) hB352) hB355) hB363) (KT.tr (KT.tr (KT.tr (KT.tr (KT.tr hT hT343) hT349) hT352) hT355) hT363) (show (F363 10).toInt = (F0 10).toInt + 1 by omega) (show -1 ≤ (F0 10).toInt by omega) (show (F0 10).toInt < 40 by omega) (show (x5 + (1 : Int32)).toInt = (x7 + (1 : Int32)).toInt by omega) (show 0 ≤ (x7 + (1 : Int32)).toInt by omega) (show (x7 + (1 : Int32)).toInt ≤ 4001 by omega) (by omega)
              · skip
                have q_372 := i_rng (F355 11)
                have l_373 : (25 : Int32).toInt = 25 := rfl
                have e_374 := mt i_eq.mpr (show ¬ ((F355 11) = (25 : Int32)) from c_358)
                unfold cb_X3_call_225
                unfold cb_X3_call_226
                refine WP.ite (fun _ => ?_) (fun c_375 => absurd (by decide) c_375)
                unfold cb_X3_call_240
                have q_376 := i_rng x2
                have q_377 := i_rng x5
                first | have e_378 : (x5 + (1 : Int32)).toInt = x5.toInt + (1) := i_addn x5 rfl (by omega) (by omega) | have e_379 := i_rng (x5 + (1 : Int32))
                first | have e_380 : (x7 + (1 : Int32)).toInt = x7.toInt + (1) := i_addn x7 rfl (by omega) (by omega) | have e_381 := i_rng (x7 + (1 : Int32))
                exact ihn x2 x3 x4 (x5 + (1 : Int32)) (0 : Int32) (x7 + (1 : Int32)) F355 G355 hI355 (KB.tr (KB.tr (KB.tr (KB.tr hB hB343) hB349) hB352) hB355) (KT.tr (KT.tr (KT.tr (KT.tr hT hT343) hT349) hT352) hT355) (show (F355 10).toInt = (F0 10).toInt + 1 by omega) (show -1 ≤ (F0 10).toInt by omega) (show (F0 10).toInt < 40 by omega) (show (x5 + (1 : Int32)).toInt = (x7 + (1 : Int32)).toInt by omega) (show 0 ≤ (x7 + (1 : Int32)).toInt by omega) (show (x7 + (1 : Int32)).toInt ≤ 4001 by omega) (by omega)
theorem ct_X3_call {fu d : Nat} (hfu : 8589934592 ≤ fu) (rc : RC) (ih : cIH1 rc d) (x1 : Int32) (x2 : Int32) (F : PF) (G : PG) (hI : CI F G) (hd : 5 * (40 - (F 10).toInt) + 1 ≤ (d + 1 : Int)) : WP (ch_X3_call fu rc x1 x2 F G) (fun r' F' G' => CI F' G' ∧ KB F G F' G' ∧ KT F F' ∧ KO F F' ∧ True) := by
  unfold ch_X3_call
  have q_10 := hI.r 10 rfl
  unfold cb_X3_call_0
  have q_1 := i_rng x1
  refine WP.bind (cs_X5_kind hfu x1 F G hI) ?_
  rintro r2 _ _ ⟨rfl, rfl, hp2⟩
  dsimp only
  have q_3 := i_rng r2
  unfold cb_X3_call_8
  refine WP.ite (fun c_4 => ?_) (fun c_4 => ?_)
  · skip
    have l_5 : (4 : Int32).toInt = 4 := rfl
    have e_6 := i_eq.mp (show r2 = (4 : Int32) from c_4)
    unfold cb_X3_call_12
    unfold cb_X3_call_17
    refine WP.ite (fun c_7 => absurd c_7 (by decide)) (fun _ => ?_)
    unfold cb_X3_call_22
    refine WP.bind (cs_X5_value hfu x1 F G hI) ?_
    rintro r8 _ _ ⟨rfl, rfl, hp8⟩
    dsimp only
    unfold cb_X3_call_30
    unfold cb_X3_call_34
    have l_9 : (19 : Int32).toInt = 19 := rfl
    refine WP.bind (cs_X2_opens hfu (19 : Int32) F G hI (show (19 : Int32).toInt ≠ -2 by omega)) ?_
    rintro r10 F10 G10 ⟨hI10, hB10, hT10, hS10, hp10⟩
    dsimp only
    have q_11 := b_rng (hp10.1)
    have q_12 := hI.r 10 rfl
    have q_13 := hI10.r 10 rfl
    have q_14 := i_rng (F 11)
    have e_15 : r10.toInt = 1 → (F10 10).toInt = (F 10).toInt + 1 ∧ (F 10).toInt < 40 ∧ (F 11).toInt ≠ -2 := hp10.2.1
    have e_16 : r10.toInt = 0 → (F10 10).toInt = (F 10).toInt ∧ (F10 11).toInt = -2 := hp10.2.2
    unfold cb_X3_call_45
    refine WP.ite (fun c_17 => ?_) (fun c_17 => ?_)
    · skip
      have l_18 : (0 : Int32).toInt = 0 := rfl
      have e_19 := i_eq.mp (show r10 = (0 : Int32) from c_17)
      unfold cb_X3_call_48
      refine WP.ret ?_
      exact ⟨hI10, (KB.tr (KB.rf : KB F G F G) hB10), (KT.tr (rfl : KT F F) hT10), (show (F10 10).toInt = (F 10).toInt by omega), trivial⟩
    · skip
      have l_20 : (0 : Int32).toInt = 0 := rfl
      have e_21 := mt i_eq.mpr (show ¬ (r10 = (0 : Int32)) from c_17)
      unfold cb_X3_call_49
      refine WP.ite (fun c_22 => ?_) (fun c_22 => ?_)
      · skip
        have q_23 := i_rng (F10 11)
        have l_24 : (20 : Int32).toInt = 20 := rfl
        have e_25 := i_eq.mp (show (F10 11) = (20 : Int32) from c_22)
        unfold cb_X3_call_68
        unfold cb_X3_call_69
        have q_26 := i_rng x2
        have l_27 : (1 : Int32).toInt = 1 := rfl
        have q_28 := i_rng r8
        exact cz_X3_call_74 (F0 := F) (G0 := G) hfu rc ih hd fu x2 (1 : Int32) r8 (0 : Int32) (0 : Int32) (0 : Int32) F10 G10 hI10 (KB.tr (KB.rf : KB F G F G) hB10) (KT.tr (rfl : KT F F) hT10) (show (F10 10).toInt = (F 10).toInt + 1 by omega) (show -1 ≤ (F 10).toInt by omega) (show (F 10).toInt < 40 by omega) (show (0 : Int32).toInt = (0 : Int32).toInt by omega) (show 0 ≤ (0 : Int32).toInt by omega) (show (0 : Int32).toInt ≤ 4001 by omega) (by omega)
      · skip
        have q_29 := i_rng (F10 11)
        have l_30 : (20 : Int32).toInt = 20 := rfl
        have e_31 := mt i_eq.mpr (show ¬ ((F10 11) = (20 : Int32)) from c_22)
        unfold cb_X3_call_64
        unfold cb_X3_call_69
        have q_32 := i_rng x2
        have l_33 : (1 : Int32).toInt = 1 := rfl
        have q_34 := i_rng r8
        exact cz_X3_call_74 (F0 := F) (G0 := G) hfu rc ih hd fu x2 (1 : Int32) r8 (0 : Int32) (1 : Int32) (0 : Int32) F10 G10 hI10 (KB.tr (KB.rf : KB F G F G) hB10) (KT.tr (rfl : KT F F) hT10) (show (F10 10).toInt = (F 10).toInt + 1 by omega) (show -1 ≤ (F 10).toInt by omega) (show (F 10).toInt < 40 by omega) (show (0 : Int32).toInt = (0 : Int32).toInt by omega) (show 0 ≤ (0 : Int32).toInt by omega) (show (0 : Int32).toInt ≤ 4001 by omega) (by omega)
  · skip
    have l_35 : (4 : Int32).toInt = 4 := rfl
    have e_36 := mt i_eq.mpr (show ¬ (r2 = (4 : Int32)) from c_4)
    unfold cb_X3_call_16
    unfold cb_X3_call_17
    refine WP.ite (fun _ => ?_) (fun c_37 => absurd (by decide) c_37)
    unfold cb_X3_call_33
    unfold cb_X3_call_34
    have l_38 : (19 : Int32).toInt = 19 := rfl
    refine WP.bind (cs_X2_opens hfu (19 : Int32) F G hI (show (19 : Int32).toInt ≠ -2 by omega)) ?_
    rintro r39 F39 G39 ⟨hI39, hB39, hT39, hS39, hp39⟩
    dsimp only
    have q_40 := b_rng (hp39.1)
    have q_41 := hI.r 10 rfl
    have q_42 := hI39.r 10 rfl
    have q_43 := i_rng (F 11)
    have e_44 : r39.toInt = 1 → (F39 10).toInt = (F 10).toInt + 1 ∧ (F 10).toInt < 40 ∧ (F 11).toInt ≠ -2 := hp39.2.1
    have e_45 : r39.toInt = 0 → (F39 10).toInt = (F 10).toInt ∧ (F39 11).toInt = -2 := hp39.2.2
    unfold cb_X3_call_45
    refine WP.ite (fun c_46 => ?_) (fun c_46 => ?_)
    · skip
      have l_47 : (0 : Int32).toInt = 0 := rfl
      have e_48 := i_eq.mp (show r39 = (0 : Int32) from c_46)
      unfold cb_X3_call_48
      refine WP.ret ?_
      exact ⟨hI39, (KB.tr (KB.rf : KB F G F G) hB39), (KT.tr (rfl : KT F F) hT39), (show (F39 10).toInt = (F 10).toInt by omega), trivial⟩
    · skip
      have l_49 : (0 : Int32).toInt = 0 := rfl
      have e_50 := mt i_eq.mpr (show ¬ (r39 = (0 : Int32)) from c_46)
      unfold cb_X3_call_49
      refine WP.ite (fun c_51 => ?_) (fun c_51 => ?_)
      · skip
        have q_52 := i_rng (F39 11)
        have l_53 : (20 : Int32).toInt = 20 := rfl
        have e_54 := i_eq.mp (show (F39 11) = (20 : Int32) from c_51)
        unfold cb_X3_call_68
        unfold cb_X3_call_69
        have q_55 := i_rng x2
        have l_56 : (-1 : Int32).toInt = -1 := rfl
        exact cz_X3_call_74 (F0 := F) (G0 := G) hfu rc ih hd fu x2 (0 : Int32) (-1 : Int32) (0 : Int32) (0 : Int32) (0 : Int32) F39 G39 hI39 (KB.tr (KB.rf : KB F G F G) hB39) (KT.tr (rfl : KT F F) hT39) (show (F39 10).toInt = (F 10).toInt + 1 by omega) (show -1 ≤ (F 10).toInt by omega) (show (F 10).toInt < 40 by omega) (show (0 : Int32).toInt = (0 : Int32).toInt by omega) (show 0 ≤ (0 : Int32).toInt by omega) (show (0 : Int32).toInt ≤ 4001 by omega) (by omega)
      · skip
        have q_57 := i_rng (F39 11)
        have l_58 : (20 : Int32).toInt = 20 := rfl
        have e_59 := mt i_eq.mpr (show ¬ ((F39 11) = (20 : Int32)) from c_51)
        unfold cb_X3_call_64
        unfold cb_X3_call_69
        have q_60 := i_rng x2
        have l_61 : (-1 : Int32).toInt = -1 := rfl
        have l_62 : (1 : Int32).toInt = 1 := rfl
        exact cz_X3_call_74 (F0 := F) (G0 := G) hfu rc ih hd fu x2 (0 : Int32) (-1 : Int32) (0 : Int32) (1 : Int32) (0 : Int32) F39 G39 hI39 (KB.tr (KB.rf : KB F G F G) hB39) (KT.tr (rfl : KT F F) hT39) (show (F39 10).toInt = (F 10).toInt + 1 by omega) (show -1 ≤ (F 10).toInt by omega) (show (F 10).toInt < 40 by omega) (show (0 : Int32).toInt = (0 : Int32).toInt by omega) (show 0 ≤ (0 : Int32).toInt by omega) (show (0 : Int32).toInt ≤ 4001 by omega) (by omega)
theorem ct_X3_expression {fu d : Nat} (hfu : 8589934592 ≤ fu) (rc : RC) (ih : cIH1 rc d) (F : PF) (G : PG) (hI : CI F G) (hd : 5 * (40 - (F 10).toInt) + 5 ≤ (d + 1 : Int)) : WP (ch_X3_expression fu rc F G) (fun r' F' G' => CI F' G' ∧ KB F G F' G' ∧ KT F F' ∧ KO F F' ∧ KS F F' ∧ True) := by
  unfold ch_X3_expression
  have q_10 := hI.r 10 rfl
  unfold cb_X3_expression_0
  have q_1 := hI.r 10 rfl
  refine WP.bind (ih.2.2.2.1 F G hI (by omega)) ?_
  rintro r2 F2 G2 ⟨hI2, hB2, hT2, hO2, hS2, hp2⟩
  dsimp only
  have q_3 := i_rng (F 11)
  have q_4 := i_rng (F2 11)
  have e_5 : (F 11).toInt = -2 → (F2 11).toInt = -2 := hS2
  have q_6 := hI2.r 10 rfl
  have e_7 : (F2 10).toInt = (F 10).toInt := hO2
  unfold cb_X3_expression_4
  refine WP.ite (fun c_8 => ?_) (fun c_8 => ?_)
  · skip
    have l_9 : (27 : Int32).toInt = 27 := rfl
    have e_10 := i_eq.mp (show (F2 11) = (27 : Int32) from c_8)
    unfold cb_X3_expression_16
    refine WP.bind (cs_X2_opens hfu (27 : Int32) F2 G2 hI2 (show (27 : Int32).toInt ≠ -2 by omega)) ?_
    rintro r11 F11 G11 ⟨hI11, hB11, hT11, hS11, hp11⟩
    dsimp only
    have q_12 := i_rng (F11 11)
    have e_13 : (F2 11).toInt = -2 → (F11 11).toInt = -2 := hS11
    have q_14 := b_rng (hp11.1)
    have q_15 := hI11.r 10 rfl
    have e_16 : r11.toInt = 1 → (F11 10).toInt = (F2 10).toInt + 1 ∧ (F2 10).toInt < 40 ∧ (F2 11).toInt ≠ -2 := hp11.2.1
    have e_17 : r11.toInt = 0 → (F11 10).toInt = (F2 10).toInt ∧ (F11 11).toInt = -2 := hp11.2.2
    unfold cb_X3_expression_25
    refine WP.ite (fun c_18 => ?_) (fun c_18 => ?_)
    · skip
      have l_19 : (0 : Int32).toInt = 0 := rfl
      have e_20 := i_eq.mp (show r11 = (0 : Int32) from c_18)
      unfold cb_X3_expression_28
      refine WP.ret ?_
      exact ⟨hI11, (KB.tr (KB.tr (KB.rf : KB F G F G) hB2) hB11), (KT.tr (KT.tr (rfl : KT F F) hT2) hT11), (show (F11 10).toInt = (F 10).toInt by omega), (show (F 11).toInt = -2 → (F11 11).toInt = -2 by omega), trivial⟩
    · skip
      have l_21 : (0 : Int32).toInt = 0 := rfl
      have e_22 := mt i_eq.mpr (show ¬ (r11 = (0 : Int32)) from c_18)
      unfold cb_X3_expression_29
      have l_23 : (86 : Int32).toInt = 86 := rfl
      have l_24 : (-1 : Int32).toInt = -1 := rfl
      refine WP.bind (cs_X1_addJump hfu (86 : Int32) (-1 : Int32) F11 G11 hI11) ?_
      rintro r25 F25 G25 ⟨hI25, hB25, hT25, hO25, hK25, hp25⟩
      dsimp only
      have q_26 := i_rng (F25 11)
      have e_27 : (F25 11).toInt = (F11 11).toInt := congrArg Int32.toInt hK25
      have q_28 := hI25.r 10 rfl
      have e_29 : (F25 10).toInt = (F11 10).toInt := hO25
      have q_30 := hI11.r 21 rfl
      have q_31 := hI25.r 21 rfl
      have e_32 : (F25 21).toInt = (F11 21).toInt := congrArg Int32.toInt hp25
      unfold cb_X3_expression_39
      refine WP.bind (ih.2.1 F25 G25 hI25 (by omega)) ?_
      rintro r33 F33 G33 ⟨hI33, hB33, hT33, hO33, hS33, hp33⟩
      dsimp only
      have q_34 := i_rng (F33 11)
      have e_35 : (F25 11).toInt = -2 → (F33 11).toInt = -2 := hS33
      have q_36 := hI33.r 10 rfl
      have e_37 : (F33 10).toInt = (F25 10).toInt := hO33
      unfold cb_X3_expression_44
      have l_38 : (28 : Int32).toInt = 28 := rfl
      refine WP.bind (cs_X2_expect hfu (28 : Int32) F33 G33 hI33 (show (28 : Int32).toInt ≠ -2 by omega)) ?_
      rintro r39 F39 G39 ⟨hI39, hB39, hT39, hO39, hS39, hp39⟩
      dsimp only
      have q_40 := i_rng (F39 11)
      have e_41 : (F33 11).toInt = -2 → (F39 11).toInt = -2 := hS39
      have q_42 := hI39.r 10 rfl
      have e_43 : (F39 10).toInt = (F33 10).toInt := hO39
      unfold cb_X3_expression_53
      have l_44 : (84 : Int32).toInt = 84 := rfl
      refine WP.bind (cs_X1_addJump hfu (84 : Int32) (-1 : Int32) F39 G39 hI39) ?_
      rintro r45 F45 G45 ⟨hI45, hB45, hT45, hO45, hK45, hp45⟩
      dsimp only
      have q_46 := i_rng (F45 11)
      have e_47 : (F45 11).toInt = (F39 11).toInt := congrArg Int32.toInt hK45
      have q_48 := hI45.r 10 rfl
      have e_49 : (F45 10).toInt = (F39 10).toInt := hO45
      have q_50 := hI39.r 21 rfl
      have q_51 := hI45.r 21 rfl
      have e_52 : (F45 21).toInt = (F39 21).toInt := congrArg Int32.toInt hp45
      unfold cb_X3_expression_63
      have q_53 := i_rng r25
      have q_54 := hI45.r 6 rfl
      refine WP.bind (cs_X1_aim hfu r25 (F45 6) F45 G45 hI45) ?_
      rintro r55 F55 G55 ⟨hI55, hB55, hT55, hO55, hK55, hp55⟩
      dsimp only
      have q_56 := i_rng (F55 11)
      have e_57 : (F55 11).toInt = (F45 11).toInt := congrArg Int32.toInt hK55
      have q_58 := hI55.r 10 rfl
      have e_59 : (F55 10).toInt = (F45 10).toInt := hO55
      unfold cb_X3_expression_79
      refine WP.bind (ih.2.1 F55 G55 hI55 (by omega)) ?_
      rintro r60 F60 G60 ⟨hI60, hB60, hT60, hO60, hS60, hp60⟩
      dsimp only
      have q_61 := i_rng (F60 11)
      have e_62 : (F55 11).toInt = -2 → (F60 11).toInt = -2 := hS60
      have q_63 := hI60.r 10 rfl
      have e_64 : (F60 10).toInt = (F55 10).toInt := hO60
      unfold cb_X3_expression_83
      have q_65 := i_rng r45
      have q_66 := hI60.r 6 rfl
      refine WP.bind (cs_X1_aim hfu r45 (F60 6) F60 G60 hI60) ?_
      rintro r67 F67 G67 ⟨hI67, hB67, hT67, hO67, hK67, hp67⟩
      dsimp only
      have q_68 := i_rng (F67 11)
      have e_69 : (F67 11).toInt = (F60 11).toInt := congrArg Int32.toInt hK67
      have q_70 := hI67.r 10 rfl
      have e_71 : (F67 10).toInt = (F60 10).toInt := hO67
      unfold cb_X3_expression_98
      refine WP.bind (cs_X2_closes hfu F67 G67 hI67 (show 0 ≤ (F67 10).toInt by omega)) ?_
      rintro r72 F72 G72 ⟨hI72, hB72, hT72, hK72, hp72⟩
      dsimp only
      have q_73 := i_rng (F72 11)
      have e_74 : (F72 11).toInt = (F67 11).toInt := congrArg Int32.toInt hK72
      have q_75 := hI72.r 10 rfl
      have e_76 : (F72 10).toInt = (F67 10).toInt - 1 := hp72
      unfold cb_X3_expression_105
      refine WP.ret ?_
      exact ⟨hI72, (KB.tr (KB.tr (KB.tr (KB.tr (KB.tr (KB.tr (KB.tr (KB.tr (KB.tr (KB.tr (KB.rf : KB F G F G) hB2) hB11) hB25) hB33) hB39) hB45) hB55) hB60) hB67) hB72), (KT.tr (KT.tr (KT.tr (KT.tr (KT.tr (KT.tr (KT.tr (KT.tr (KT.tr (KT.tr (rfl : KT F F) hT2) hT11) hT25) hT33) hT39) hT45) hT55) hT60) hT67) hT72), (show (F72 10).toInt = (F 10).toInt by omega), (show (F 11).toInt = -2 → (F72 11).toInt = -2 by omega), trivial⟩
  · skip
    have l_77 : (27 : Int32).toInt = 27 := rfl
    have e_78 := mt i_eq.mpr (show ¬ ((F2 11) = (27 : Int32)) from c_8)
    unfold cb_X3_expression_28
    refine WP.ret ?_
    exact ⟨hI2, (KB.tr (KB.rf : KB F G F G) hB2), (KT.tr (rfl : KT F F) hT2), (KO.tr (rfl : KO F F) hO2), (show (F 11).toInt = -2 → (F2 11).toInt = -2 by omega), trivial⟩
theorem ct_X3_index {fu d : Nat} (hfu : 8589934592 ≤ fu) (rc : RC) (ih : cIH1 rc d) (x1 : Int32) (F : PF) (G : PG) (hI : CI F G) (hd : 5 * (40 - (F 10).toInt) + 1 ≤ (d + 1 : Int)) : WP (ch_X3_index fu rc x1 F G) (fun r' F' G' => CI F' G' ∧ KB F G F' G' ∧ KT F F' ∧ KO F F' ∧ True) := by
  unfold ch_X3_index
  have q_10 := hI.r 10 rfl
  unfold cb_X3_index_0
  have l_1 : (21 : Int32).toInt = 21 := rfl
  refine WP.bind (cs_X2_opens hfu (21 : Int32) F G hI (show (21 : Int32).toInt ≠ -2 by omega)) ?_
  rintro r2 F2 G2 ⟨hI2, hB2, hT2, hS2, hp2⟩
  dsimp only
  have q_3 := b_rng (hp2.1)
  have q_4 := hI.r 10 rfl
  have q_5 := hI2.r 10 rfl
  have q_6 := i_rng (F 11)
  have e_7 : r2.toInt = 1 → (F2 10).toInt = (F 10).toInt + 1 ∧ (F 10).toInt < 40 ∧ (F 11).toInt ≠ -2 := hp2.2.1
  have e_8 : r2.toInt = 0 → (F2 10).toInt = (F 10).toInt ∧ (F2 11).toInt = -2 := hp2.2.2
  unfold cb_X3_index_17
  refine WP.ite (fun c_9 => ?_) (fun c_9 => ?_)
  · skip
    have l_10 : (0 : Int32).toInt = 0 := rfl
    have e_11 := i_eq.mp (show r2 = (0 : Int32) from c_9)
    unfold cb_X3_index_20
    refine WP.ret ?_
    exact ⟨hI2, (KB.tr (KB.rf : KB F G F G) hB2), (KT.tr (rfl : KT F F) hT2), (show (F2 10).toInt = (F 10).toInt by omega), trivial⟩
  · skip
    have l_12 : (0 : Int32).toInt = 0 := rfl
    have e_13 := mt i_eq.mpr (show ¬ (r2 = (0 : Int32)) from c_9)
    unfold cb_X3_index_21
    refine WP.bind (ih.2.1 F2 G2 hI2 (by omega)) ?_
    rintro r14 F14 G14 ⟨hI14, hB14, hT14, hO14, hS14, hp14⟩
    dsimp only
    have q_15 := hI14.r 10 rfl
    have e_16 : (F14 10).toInt = (F2 10).toInt := hO14
    unfold cb_X3_index_25
    have l_17 : (22 : Int32).toInt = 22 := rfl
    refine WP.bind (cs_X2_closesWith hfu (22 : Int32) F14 G14 hI14 (show 0 ≤ (F14 10).toInt by omega) (show (22 : Int32).toInt ≠ -2 by omega)) ?_
    rintro r18 F18 G18 ⟨hI18, hB18, hT18, hS18, hp18⟩
    dsimp only
    have q_19 := hI18.r 10 rfl
    have e_20 : (F18 10).toInt = (F14 10).toInt - 1 := hp18
    unfold cb_X3_index_34
    have q_21 := i_rng x1
    refine WP.bind (cs_X5_size hfu x1 F18 G18 hI18) ?_
    rintro r22 _ _ ⟨rfl, rfl, hp22⟩
    dsimp only
    unfold cb_X3_index_42
    refine WP.ite (fun c_23 => ?_) (fun c_23 => ?_)
    · skip
      have q_24 := i_rng r22
      have e_25 := i_eq.mp (show r22 = (0 : Int32) from c_23)
      unfold cb_X3_index_45
      unfold cb_X3_index_50
      refine WP.ite (fun c_26 => absurd c_26 (by decide)) (fun _ => ?_)
      unfold cb_X3_index_59
      unfold cb_X3_index_82
      refine WP.bind (cs_X5_value hfu x1 F18 G18 hI18) ?_
      rintro r27 _ _ ⟨rfl, rfl, hp27⟩
      dsimp only
      unfold cb_X3_index_90
      have l_28 : (76 : Int32).toInt = 76 := rfl
      have q_29 := i_rng r27
      refine WP.bind (cs_X1_addPair hfu (76 : Int32) r27 F18 G18 hI18) ?_
      rintro r30 F30 G30 ⟨hI30, hB30, hT30, hO30, hK30, hp30⟩
      dsimp only
      have q_31 := hI30.r 10 rfl
      have e_32 : (F30 10).toInt = (F18 10).toInt := hO30
      unfold cb_X3_index_93
      refine WP.bind (cs_X5_size hfu x1 F30 G30 hI30) ?_
      rintro r33 _ _ ⟨rfl, rfl, hp33⟩
      dsimp only
      unfold cb_X3_index_105
      have q_34 := i_rng r33
      refine WP.bind (cs_X1_add hfu r33 F30 G30 hI30) ?_
      rintro r35 F35 G35 ⟨hI35, hB35, hT35, hO35, hK35, hp35⟩
      dsimp only
      have q_36 := hI35.r 10 rfl
      have e_37 : (F35 10).toInt = (F30 10).toInt := hO35
      have q_38 := hI30.r 21 rfl
      have q_39 := hI35.r 21 rfl
      have e_40 : (F35 21).toInt = (F30 21).toInt := congrArg Int32.toInt hp35
      unfold cb_X3_index_108
      refine WP.bind (cs_X5_kind hfu x1 F35 G35 hI35) ?_
      rintro r41 _ _ ⟨rfl, rfl, hp41⟩
      dsimp only
      have q_42 := i_rng r41
      unfold cb_X3_index_120
      refine WP.ite (fun c_43 => ?_) (fun c_43 => ?_)
      · skip
        have l_44 : (3 : Int32).toInt = 3 := rfl
        have e_45 := i_eq.mp (show r41 = (3 : Int32) from c_43)
        unfold cb_X3_index_124
        unfold cb_X3_index_129
        have l_46 : (2 : Int32).toInt = 2 := rfl
        refine WP.bind (cs_X1_add hfu (2 : Int32) F35 G35 hI35) ?_
        rintro r47 F47 G47 ⟨hI47, hB47, hT47, hO47, hK47, hp47⟩
        dsimp only
        have q_48 := hI47.r 10 rfl
        have e_49 : (F47 10).toInt = (F35 10).toInt := hO47
        have q_50 := hI47.r 21 rfl
        have e_51 : (F47 21).toInt = (F35 21).toInt := congrArg Int32.toInt hp47
        unfold cb_X3_index_132
        have q_52 := i_rng (F 13)
        refine WP.bind (cs_X1_add hfu (F 13) F47 G47 hI47) ?_
        rintro r53 F53 G53 ⟨hI53, hB53, hT53, hO53, hK53, hp53⟩
        dsimp only
        have q_54 := hI53.r 10 rfl
        have e_55 : (F53 10).toInt = (F47 10).toInt := hO53
        have q_56 := hI53.r 21 rfl
        have e_57 : (F53 21).toInt = (F47 21).toInt := congrArg Int32.toInt hp53
        unfold cb_X3_index_140
        refine WP.ret ?_
        exact ⟨hI53, (KB.tr (KB.tr (KB.tr (KB.tr (KB.tr (KB.tr (KB.tr (KB.rf : KB F G F G) hB2) hB14) hB18) hB30) hB35) hB47) hB53), (KT.tr (KT.tr (KT.tr (KT.tr (KT.tr (KT.tr (KT.tr (rfl : KT F F) hT2) hT14) hT18) hT30) hT35) hT47) hT53), (show (F53 10).toInt = (F 10).toInt by omega), trivial⟩
      · skip
        have l_58 : (3 : Int32).toInt = 3 := rfl
        have e_59 := mt i_eq.mpr (show ¬ (r41 = (3 : Int32)) from c_43)
        unfold cb_X3_index_128
        unfold cb_X3_index_129
        refine WP.bind (cs_X1_add hfu (0 : Int32) F35 G35 hI35) ?_
        rintro r60 F60 G60 ⟨hI60, hB60, hT60, hO60, hK60, hp60⟩
        dsimp only
        have q_61 := hI60.r 10 rfl
        have e_62 : (F60 10).toInt = (F35 10).toInt := hO60
        have q_63 := hI60.r 21 rfl
        have e_64 : (F60 21).toInt = (F35 21).toInt := congrArg Int32.toInt hp60
        unfold cb_X3_index_132
        have q_65 := i_rng (F 13)
        refine WP.bind (cs_X1_add hfu (F 13) F60 G60 hI60) ?_
        rintro r66 F66 G66 ⟨hI66, hB66, hT66, hO66, hK66, hp66⟩
        dsimp only
        have q_67 := hI66.r 10 rfl
        have e_68 : (F66 10).toInt = (F60 10).toInt := hO66
        have q_69 := hI66.r 21 rfl
        have e_70 : (F66 21).toInt = (F60 21).toInt := congrArg Int32.toInt hp66
        unfold cb_X3_index_140
        refine WP.ret ?_
        exact ⟨hI66, (KB.tr (KB.tr (KB.tr (KB.tr (KB.tr (KB.tr (KB.tr (KB.rf : KB F G F G) hB2) hB14) hB18) hB30) hB35) hB60) hB66), (KT.tr (KT.tr (KT.tr (KT.tr (KT.tr (KT.tr (KT.tr (rfl : KT F F) hT2) hT14) hT18) hT30) hT35) hT60) hT66), (show (F66 10).toInt = (F 10).toInt by omega), trivial⟩
    · skip
      have q_71 := i_rng r22
      have e_72 := mt i_eq.mpr (show ¬ (r22 = (0 : Int32)) from c_23)
      unfold cb_X3_index_49
      unfold cb_X3_index_50
      refine WP.ite (fun _ => ?_) (fun c_73 => absurd (by decide) c_73)
      unfold cb_X3_index_64
      refine WP.bind (cs_X5_isGlobal hfu x1 F18 G18 hI18) ?_
      rintro r74 _ _ ⟨rfl, rfl, hp74⟩
      dsimp only
      have q_75 := b_rng hp74
      unfold cb_X3_index_72
      refine WP.ite (fun c_76 => ?_) (fun c_76 => ?_)
      · skip
        have e_77 := i_eq.mp (show r74 = (0 : Int32) from c_76)
        unfold cb_X3_index_80
        unfold cb_X3_index_82
        refine WP.bind (cs_X5_value hfu x1 F18 G18 hI18) ?_
        rintro r78 _ _ ⟨rfl, rfl, hp78⟩
        dsimp only
        unfold cb_X3_index_90
        have l_79 : (75 : Int32).toInt = 75 := rfl
        have q_80 := i_rng r78
        refine WP.bind (cs_X1_addPair hfu (75 : Int32) r78 F18 G18 hI18) ?_
        rintro r81 F81 G81 ⟨hI81, hB81, hT81, hO81, hK81, hp81⟩
        dsimp only
        have q_82 := hI81.r 10 rfl
        have e_83 : (F81 10).toInt = (F18 10).toInt := hO81
        unfold cb_X3_index_93
        refine WP.bind (cs_X5_size hfu x1 F81 G81 hI81) ?_
        rintro r84 _ _ ⟨rfl, rfl, hp84⟩
        dsimp only
        unfold cb_X3_index_105
        have q_85 := i_rng r84
        refine WP.bind (cs_X1_add hfu r84 F81 G81 hI81) ?_
        rintro r86 F86 G86 ⟨hI86, hB86, hT86, hO86, hK86, hp86⟩
        dsimp only
        have q_87 := hI86.r 10 rfl
        have e_88 : (F86 10).toInt = (F81 10).toInt := hO86
        have q_89 := hI81.r 21 rfl
        have q_90 := hI86.r 21 rfl
        have e_91 : (F86 21).toInt = (F81 21).toInt := congrArg Int32.toInt hp86
        unfold cb_X3_index_108
        refine WP.bind (cs_X5_kind hfu x1 F86 G86 hI86) ?_
        rintro r92 _ _ ⟨rfl, rfl, hp92⟩
        dsimp only
        have q_93 := i_rng r92
        unfold cb_X3_index_120
        refine WP.ite (fun c_94 => ?_) (fun c_94 => ?_)
        · skip
          have l_95 : (3 : Int32).toInt = 3 := rfl
          have e_96 := i_eq.mp (show r92 = (3 : Int32) from c_94)
          unfold cb_X3_index_124
          unfold cb_X3_index_129
          have l_97 : (2 : Int32).toInt = 2 := rfl
          refine WP.bind (cs_X1_add hfu (2 : Int32) F86 G86 hI86) ?_
          rintro r98 F98 G98 ⟨hI98, hB98, hT98, hO98, hK98, hp98⟩
          dsimp only
          have q_99 := hI98.r 10 rfl
          have e_100 : (F98 10).toInt = (F86 10).toInt := hO98
          have q_101 := hI98.r 21 rfl
          have e_102 : (F98 21).toInt = (F86 21).toInt := congrArg Int32.toInt hp98
          unfold cb_X3_index_132
          have q_103 := i_rng (F 13)
          refine WP.bind (cs_X1_add hfu (F 13) F98 G98 hI98) ?_
          rintro r104 F104 G104 ⟨hI104, hB104, hT104, hO104, hK104, hp104⟩
          dsimp only
          have q_105 := hI104.r 10 rfl
          have e_106 : (F104 10).toInt = (F98 10).toInt := hO104
          have q_107 := hI104.r 21 rfl
          have e_108 : (F104 21).toInt = (F98 21).toInt := congrArg Int32.toInt hp104
          unfold cb_X3_index_140
          refine WP.ret ?_
          exact ⟨hI104, (KB.tr (KB.tr (KB.tr (KB.tr (KB.tr (KB.tr (KB.tr (KB.rf : KB F G F G) hB2) hB14) hB18) hB81) hB86) hB98) hB104), (KT.tr (KT.tr (KT.tr (KT.tr (KT.tr (KT.tr (KT.tr (rfl : KT F F) hT2) hT14) hT18) hT81) hT86) hT98) hT104), (show (F104 10).toInt = (F 10).toInt by omega), trivial⟩
        · skip
          have l_109 : (3 : Int32).toInt = 3 := rfl
          have e_110 := mt i_eq.mpr (show ¬ (r92 = (3 : Int32)) from c_94)
          unfold cb_X3_index_128
          unfold cb_X3_index_129
          refine WP.bind (cs_X1_add hfu (0 : Int32) F86 G86 hI86) ?_
          rintro r111 F111 G111 ⟨hI111, hB111, hT111, hO111, hK111, hp111⟩
          dsimp only
          have q_112 := hI111.r 10 rfl
          have e_113 : (F111 10).toInt = (F86 10).toInt := hO111
          have q_114 := hI111.r 21 rfl
          have e_115 : (F111 21).toInt = (F86 21).toInt := congrArg Int32.toInt hp111
          unfold cb_X3_index_132
          have q_116 := i_rng (F 13)
          refine WP.bind (cs_X1_add hfu (F 13) F111 G111 hI111) ?_
          rintro r117 F117 G117 ⟨hI117, hB117, hT117, hO117, hK117, hp117⟩
          dsimp only
          have q_118 := hI117.r 10 rfl
          have e_119 : (F117 10).toInt = (F111 10).toInt := hO117
          have q_120 := hI117.r 21 rfl
          have e_121 : (F117 21).toInt = (F111 21).toInt := congrArg Int32.toInt hp117
          unfold cb_X3_index_140
          refine WP.ret ?_
          exact ⟨hI117, (KB.tr (KB.tr (KB.tr (KB.tr (KB.tr (KB.tr (KB.tr (KB.rf : KB F G F G) hB2) hB14) hB18) hB81) hB86) hB111) hB117), (KT.tr (KT.tr (KT.tr (KT.tr (KT.tr (KT.tr (KT.tr (rfl : KT F F) hT2) hT14) hT18) hT81) hT86) hT111) hT117), (show (F117 10).toInt = (F 10).toInt by omega), trivial⟩
      · skip
        have e_122 := mt i_eq.mpr (show ¬ (r74 = (0 : Int32)) from c_76)
        unfold cb_X3_index_75
        unfold cb_X3_index_82
        refine WP.bind (cs_X5_value hfu x1 F18 G18 hI18) ?_
        rintro r123 _ _ ⟨rfl, rfl, hp123⟩
        dsimp only
        unfold cb_X3_index_90
        have l_124 : (74 : Int32).toInt = 74 := rfl
        have q_125 := i_rng r123
        refine WP.bind (cs_X1_addPair hfu (74 : Int32) r123 F18 G18 hI18) ?_
        rintro r126 F126 G126 ⟨hI126, hB126, hT126, hO126, hK126, hp126⟩
        dsimp only
        have q_127 := hI126.r 10 rfl
        have e_128 : (F126 10).toInt = (F18 10).toInt := hO126
        unfold cb_X3_index_93
        refine WP.bind (cs_X5_size hfu x1 F126 G126 hI126) ?_
        rintro r129 _ _ ⟨rfl, rfl, hp129⟩
        dsimp only
        unfold cb_X3_index_105
        have q_130 := i_rng r129
        refine WP.bind (cs_X1_add hfu r129 F126 G126 hI126) ?_
        rintro r131 F131 G131 ⟨hI131, hB131, hT131, hO131, hK131, hp131⟩
        dsimp only
        have q_132 := hI131.r 10 rfl
        have e_133 : (F131 10).toInt = (F126 10).toInt := hO131
        have q_134 := hI126.r 21 rfl
        have q_135 := hI131.r 21 rfl
        have e_136 : (F131 21).toInt = (F126 21).toInt := congrArg Int32.toInt hp131
        unfold cb_X3_index_108
        refine WP.bind (cs_X5_kind hfu x1 F131 G131 hI131) ?_
        rintro r137 _ _ ⟨rfl, rfl, hp137⟩
        dsimp only
        have q_138 := i_rng r137
        unfold cb_X3_index_120
        refine WP.ite (fun c_139 => ?_) (fun c_139 => ?_)
        · skip
          have l_140 : (3 : Int32).toInt = 3 := rfl
          have e_141 := i_eq.mp (show r137 = (3 : Int32) from c_139)
          unfold cb_X3_index_124
          unfold cb_X3_index_129
          have l_142 : (2 : Int32).toInt = 2 := rfl
          refine WP.bind (cs_X1_add hfu (2 : Int32) F131 G131 hI131) ?_
          rintro r143 F143 G143 ⟨hI143, hB143, hT143, hO143, hK143, hp143⟩
          dsimp only
          have q_144 := hI143.r 10 rfl
          have e_145 : (F143 10).toInt = (F131 10).toInt := hO143
          have q_146 := hI143.r 21 rfl
          have e_147 : (F143 21).toInt = (F131 21).toInt := congrArg Int32.toInt hp143
          unfold cb_X3_index_132
          have q_148 := i_rng (F 13)
          refine WP.bind (cs_X1_add hfu (F 13) F143 G143 hI143) ?_
          rintro r149 F149 G149 ⟨hI149, hB149, hT149, hO149, hK149, hp149⟩
          dsimp only
          have q_150 := hI149.r 10 rfl
          have e_151 : (F149 10).toInt = (F143 10).toInt := hO149
          have q_152 := hI149.r 21 rfl
          have e_153 : (F149 21).toInt = (F143 21).toInt := congrArg Int32.toInt hp149
          unfold cb_X3_index_140
          refine WP.ret ?_
          exact ⟨hI149, (KB.tr (KB.tr (KB.tr (KB.tr (KB.tr (KB.tr (KB.tr (KB.rf : KB F G F G) hB2) hB14) hB18) hB126) hB131) hB143) hB149), (KT.tr (KT.tr (KT.tr (KT.tr (KT.tr (KT.tr (KT.tr (rfl : KT F F) hT2) hT14) hT18) hT126) hT131) hT143) hT149), (show (F149 10).toInt = (F 10).toInt by omega), trivial⟩
        · skip
          have l_154 : (3 : Int32).toInt = 3 := rfl
          have e_155 := mt i_eq.mpr (show ¬ (r137 = (3 : Int32)) from c_139)
          unfold cb_X3_index_128
          unfold cb_X3_index_129
          refine WP.bind (cs_X1_add hfu (0 : Int32) F131 G131 hI131) ?_
          rintro r156 F156 G156 ⟨hI156, hB156, hT156, hO156, hK156, hp156⟩
          dsimp only
          have q_157 := hI156.r 10 rfl
          have e_158 : (F156 10).toInt = (F131 10).toInt := hO156
          have q_159 := hI156.r 21 rfl
          have e_160 : (F156 21).toInt = (F131 21).toInt := congrArg Int32.toInt hp156
          unfold cb_X3_index_132
          have q_161 := i_rng (F 13)
          refine WP.bind (cs_X1_add hfu (F 13) F156 G156 hI156) ?_
          rintro r162 F162 G162 ⟨hI162, hB162, hT162, hO162, hK162, hp162⟩
          dsimp only
          have q_163 := hI162.r 10 rfl
          have e_164 : (F162 10).toInt = (F156 10).toInt := hO162
          have q_165 := hI162.r 21 rfl
          have e_166 : (F162 21).toInt = (F156 21).toInt := congrArg Int32.toInt hp162
          unfold cb_X3_index_140
          refine WP.ret ?_
          exact ⟨hI162, (KB.tr (KB.tr (KB.tr (KB.tr (KB.tr (KB.tr (KB.tr (KB.rf : KB F G F G) hB2) hB14) hB18) hB126) hB131) hB156) hB162), (KT.tr (KT.tr (KT.tr (KT.tr (KT.tr (KT.tr (KT.tr (rfl : KT F F) hT2) hT14) hT18) hT126) hT131) hT156) hT162), (show (F162 10).toInt = (F 10).toInt by omega), trivial⟩
theorem cz_X3_joinedOperands_23 {fu : Nat} (hfu : 8589934592 ≤ fu) (rc : RC) {d : Nat} (ih : cIH1 rc d) {F0 : PF} {G0 : PG} (hd : 5 * (40 - (F0 10).toInt) + 4 ≤ (d + 1 : Int)) {n_9 : Nat} (ag_9 : Int32 → Int32 → Int32 → PF → PG → PR) (hag_9 : ∀ (x1 : Int32) (x2 : Int32) (x3 : Int32) (F : PF) (G : PG) (hI : CI F G) (hB : KB F0 G0 F G) (hT : KT F0 F) (hO : KO F0 F) (hS : KS F0 F) (hn : (2147483647 - x3.toInt).toNat < n_9), WP (ag_9 x1 x2 x3 F G) (fun r' F' G' => CI F' G' ∧ KB F0 G0 F' G' ∧ KT F0 F' ∧ KO F0 F' ∧ KS F0 F' ∧ True)) : ∀ (n : Nat) (x1 : Int32) (x3 : Int32) (x4 : Int32) (F : PF) (G : PG) (hI : CI F G) (hB : KB F0 G0 F G) (hT : KT F0 F) (hO : KO F0 F) (hS : KS F0 F) (i_0 : x3.toInt < 4001) (i_1 : (2147483647 - x3.toInt).toNat < n_9 + 1) (hn : (2147483647 - x4.toInt).toNat < n), WP (cl_X3_joinedOperands_23 fu rc ag_9 n x1 x3 x4 F G) (fun r' F' G' => CI F' G' ∧ KB F0 G0 F' G' ∧ KT F0 F' ∧ KO F0 F' ∧ KS F0 F' ∧ True) := by
  intro n
  induction n with
  | zero =>
    intro x1 x3 x4 F G hI hB hT hO hS i_0 i_1 hn
    exact absurd hn (Nat.not_lt_zero _)
  | succ n ihn =>
    intro x1 x3 x4 F G hI hB hT hO hS i_0 i_1 hn
    show WP (cb_X3_joinedOperands_23 fu rc ag_9 (cl_X3_joinedOperands_23 fu rc ag_9 n)  x1 x3 x4 F G) _
    have q_S : (F0 11).toInt = -2 → (F 11).toInt = -2 := hS
    have q_O : (F 10).toInt = (F0 10).toInt := hO
    have q_O1 := hI.r 10 rfl
    unfold cb_X3_joinedOperands_23
    refine WP.ite (fun c_1 => ?_) (fun c_1 => ?_)
    · skip
      have l_2 : (4001 : Int32).toInt = 4001 := rfl
      have q_3 := i_rng x4
      have e_4 := i_le.mp (show (4001 : Int32) ≤ x4 from c_1)
      unfold cb_X3_joinedOperands_85
      have q_5 := hI.r 10 rfl
      refine WP.bind (ih.2.2.2.2.2 F G hI (by omega)) ?_
      rintro r6 F6 G6 ⟨hI6, hB6, hT6, hO6, hS6, hp6⟩
      dsimp only
      have q_7 := i_rng (F 11)
      have q_8 := i_rng (F6 11)
      have e_9 : (F 11).toInt = -2 → (F6 11).toInt = -2 := hS6
      have q_10 := hI6.r 10 rfl
      have e_11 : (F6 10).toInt = (F 10).toInt := hO6
      unfold cb_X3_joinedOperands_89
      refine WP.ite (fun c_12 => ?_) (fun c_12 => ?_)
      · skip
        have l_13 : (43 : Int32).toInt = 43 := rfl
        have e_14 := i_lt.mp (show (F6 11) < (43 : Int32) from c_12)
        unfold cb_X3_joinedOperands_117
        unfold cb_X3_joinedOperands_118
        refine WP.ite (fun _ => ?_) (fun c_15 => absurd (by decide) c_15)
        unfold cb_X3_joinedOperands_156
        have q_16 := i_rng x1
        have l_17 : (0 : Int32).toInt = 0 := rfl
        have q_18 := i_rng x3
        first | have e_19 : (x3 + (1 : Int32)).toInt = x3.toInt + (1) := i_addn x3 rfl (by omega) (by omega) | have e_20 := i_rng (x3 + (1 : Int32))
        exact hag_9 x1 (0 : Int32) (x3 + (1 : Int32)) F6 G6 hI6 (KB.tr hB hB6) (KT.tr hT hT6) (KO.tr hO hO6) (show (F0 11).toInt = -2 → (F6 11).toInt = -2 by omega) (by omega)
      · skip
        have l_21 : (43 : Int32).toInt = 43 := rfl
        have e_22 := mt i_lt.mpr (show ¬ ((F6 11) < (43 : Int32)) from c_12)
        unfold cb_X3_joinedOperands_101
        refine WP.ite (fun c_23 => ?_) (fun c_23 => ?_)
        · skip
          have l_24 : (61 : Int32).toInt = 61 := rfl
          have e_25 := i_lt.mp (show (61 : Int32) < (F6 11) from c_23)
          unfold cb_X3_joinedOperands_117
          unfold cb_X3_joinedOperands_118
          refine WP.ite (fun _ => ?_) (fun c_26 => absurd (by decide) c_26)
          unfold cb_X3_joinedOperands_156
          have q_27 := i_rng x1
          have l_28 : (0 : Int32).toInt = 0 := rfl
          have q_29 := i_rng x3
          first | have e_30 : (x3 + (1 : Int32)).toInt = x3.toInt + (1) := i_addn x3 rfl (by omega) (by omega) | have e_31 := i_rng (x3 + (1 : Int32))
          exact hag_9 x1 (0 : Int32) (x3 + (1 : Int32)) F6 G6 hI6 (KB.tr hB hB6) (KT.tr hT hT6) (KO.tr hO hO6) (show (F0 11).toInt = -2 → (F6 11).toInt = -2 by omega) (by omega)
        · skip
          have l_32 : (61 : Int32).toInt = 61 := rfl
          have e_33 := mt i_lt.mpr (show ¬ ((61 : Int32) < (F6 11)) from c_23)
          unfold cb_X3_joinedOperands_113
          unfold cb_X3_joinedOperands_118
          refine WP.ite (fun c_34 => absurd c_34 (by decide)) (fun _ => ?_)
          unfold cb_X3_joinedOperands_123
          refine WP.bind (cs_X3_strength hfu (F6 11) F6 G6 hI6) ?_
          rintro r35 _ _ ⟨rfl, rfl, hp35⟩
          dsimp only
          unfold cb_X3_joinedOperands_135
          have q_36 := i_rng x1
          have q_37 := i_rng r35
          refine WP.bind (cs_X3_settle hfu x1 r35 F6 G6 hI6) ?_
          rintro r38 F38 G38 ⟨hI38, hB38, hT38, hO38, hK38, hp38⟩
          dsimp only
          have q_39 := i_rng (F38 11)
          have e_40 : (F38 11).toInt = (F6 11).toInt := congrArg Int32.toInt hK38
          have q_41 := hI38.r 10 rfl
          have e_42 : (F38 10).toInt = (F6 10).toInt := hO38
          unfold cb_X3_joinedOperands_138
          refine WP.bind (cs_X3_waits hfu (F38 11) F38 G38 hI38) ?_
          rintro r43 F43 G43 ⟨hI43, hB43, hT43, hO43, hK43, hp43⟩
          dsimp only
          have q_44 := i_rng (F43 11)
          have e_45 : (F43 11).toInt = (F38 11).toInt := congrArg Int32.toInt hK43
          have q_46 := hI43.r 10 rfl
          have e_47 : (F43 10).toInt = (F38 10).toInt := hO43
          unfold cb_X3_joinedOperands_149
          refine WP.bind (cs_X2_next hfu F43 G43 hI43) ?_
          rintro r48 F48 G48 ⟨hI48, hB48, hT48, hO48, hp48⟩
          dsimp only
          have q_49 := hI48.r 10 rfl
          have e_50 : (F48 10).toInt = (F43 10).toInt := hO48
          unfold cb_X3_joinedOperands_156
          have l_51 : (1 : Int32).toInt = 1 := rfl
          have q_52 := i_rng x3
          first | have e_53 : (x3 + (1 : Int32)).toInt = x3.toInt + (1) := i_addn x3 rfl (by omega) (by omega) | have e_54 := i_rng (x3 + (1 : Int32))
          have q_55 := i_rng (F48 11)
          exact hag_9 x1 (1 : Int32) (x3 + (1 : Int32)) F48 G48 hI48 (KB.tr (KB.tr (KB.tr (KB.tr hB hB6) hB38) hB43) hB48) (KT.tr (KT.tr (KT.tr (KT.tr hT hT6) hT38) hT43) hT48) (KO.tr (KO.tr (KO.tr (KO.tr hO hO6) hO38) hO43) hO48) (show (F0 11).toInt = -2 → (F48 11).toInt = -2 by omega) (by omega)
    · skip
      have l_56 : (4001 : Int32).toInt = 4001 := rfl
      have q_57 := i_rng x4
      have e_58 := mt i_le.mpr (show ¬ ((4001 : Int32) ≤ x4) from c_1)
      unfold cb_X3_joinedOperands_31
      have q_59 := i_rng (F 11)
      refine WP.bind (cs_X3_isAhead hfu (F 11) F G hI) ?_
      rintro r60 _ _ ⟨rfl, rfl, hp60⟩
      dsimp only
      have q_61 := b_rng (hp60.1)
      unfold cb_X3_joinedOperands_41
      refine WP.ite (fun c_62 => ?_) (fun c_62 => ?_)
      · skip
        have l_63 : (0 : Int32).toInt = 0 := rfl
        have e_64 := i_eq.mp (show r60 = (0 : Int32) from c_62)
        unfold cb_X3_joinedOperands_85
        have q_65 := hI.r 10 rfl
        refine WP.bind (ih.2.2.2.2.2 F G hI (by omega)) ?_
        rintro r66 F66 G66 ⟨hI66, hB66, hT66, hO66, hS66, hp66⟩
        dsimp only
        have q_67 := i_rng (F66 11)
        have e_68 : (F 11).toInt = -2 → (F66 11).toInt = -2 := hS66
        have q_69 := hI66.r 10 rfl
        have e_70 : (F66 10).toInt = (F 10).toInt := hO66
        unfold cb_X3_joinedOperands_89
        refine WP.ite (fun c_71 => ?_) (fun c_71 => ?_)
        · skip
          have l_72 : (43 : Int32).toInt = 43 := rfl
          have e_73 := i_lt.mp (show (F66 11) < (43 : Int32) from c_71)
          unfold cb_X3_joinedOperands_117
          unfold cb_X3_joinedOperands_118
          refine WP.ite (fun _ => ?_) (fun c_74 => absurd (by decide) c_74)
          unfold cb_X3_joinedOperands_156
          have q_75 := i_rng x1
          have q_76 := i_rng x3
          first | have e_77 : (x3 + (1 : Int32)).toInt = x3.toInt + (1) := i_addn x3 rfl (by omega) (by omega) | have e_78 := i_rng (x3 + (1 : Int32))
          exact hag_9 x1 (0 : Int32) (x3 + (1 : Int32)) F66 G66 hI66 (KB.tr hB hB66) (KT.tr hT hT66) (KO.tr hO hO66) (show (F0 11).toInt = -2 → (F66 11).toInt = -2 by omega) (by omega)
        · skip
          have l_79 : (43 : Int32).toInt = 43 := rfl
          have e_80 := mt i_lt.mpr (show ¬ ((F66 11) < (43 : Int32)) from c_71)
          unfold cb_X3_joinedOperands_101
          refine WP.ite (fun c_81 => ?_) (fun c_81 => ?_)
          · skip
            have l_82 : (61 : Int32).toInt = 61 := rfl
            have e_83 := i_lt.mp (show (61 : Int32) < (F66 11) from c_81)
            unfold cb_X3_joinedOperands_117
            unfold cb_X3_joinedOperands_118
            refine WP.ite (fun _ => ?_) (fun c_84 => absurd (by decide) c_84)
            unfold cb_X3_joinedOperands_156
            have q_85 := i_rng x1
            have q_86 := i_rng x3
            first | have e_87 : (x3 + (1 : Int32)).toInt = x3.toInt + (1) := i_addn x3 rfl (by omega) (by omega) | have e_88 := i_rng (x3 + (1 : Int32))
            exact hag_9 x1 (0 : Int32) (x3 + (1 : Int32)) F66 G66 hI66 (KB.tr hB hB66) (KT.tr hT hT66) (KO.tr hO hO66) (show (F0 11).toInt = -2 → (F66 11).toInt = -2 by omega) (by omega)
          · skip
            have l_89 : (61 : Int32).toInt = 61 := rfl
            have e_90 := mt i_lt.mpr (show ¬ ((61 : Int32) < (F66 11)) from c_81)
            unfold cb_X3_joinedOperands_113
            unfold cb_X3_joinedOperands_118
            refine WP.ite (fun c_91 => absurd c_91 (by decide)) (fun _ => ?_)
            unfold cb_X3_joinedOperands_123
            refine WP.bind (cs_X3_strength hfu (F66 11) F66 G66 hI66) ?_
            rintro r92 _ _ ⟨rfl, rfl, hp92⟩
            dsimp only
            unfold cb_X3_joinedOperands_135
            have q_93 := i_rng x1
            have q_94 := i_rng r92
            refine WP.bind (cs_X3_settle hfu x1 r92 F66 G66 hI66) ?_
            rintro r95 F95 G95 ⟨hI95, hB95, hT95, hO95, hK95, hp95⟩
            dsimp only
            have q_96 := i_rng (F95 11)
            have e_97 : (F95 11).toInt = (F66 11).toInt := congrArg Int32.toInt hK95
            have q_98 := hI95.r 10 rfl
            have e_99 : (F95 10).toInt = (F66 10).toInt := hO95
            unfold cb_X3_joinedOperands_138
            refine WP.bind (cs_X3_waits hfu (F95 11) F95 G95 hI95) ?_
            rintro r100 F100 G100 ⟨hI100, hB100, hT100, hO100, hK100, hp100⟩
            dsimp only
            have q_101 := i_rng (F100 11)
            have e_102 : (F100 11).toInt = (F95 11).toInt := congrArg Int32.toInt hK100
            have q_103 := hI100.r 10 rfl
            have e_104 : (F100 10).toInt = (F95 10).toInt := hO100
            unfold cb_X3_joinedOperands_149
            refine WP.bind (cs_X2_next hfu F100 G100 hI100) ?_
            rintro r105 F105 G105 ⟨hI105, hB105, hT105, hO105, hp105⟩
            dsimp only
            have q_106 := hI105.r 10 rfl
            have e_107 : (F105 10).toInt = (F100 10).toInt := hO105
            unfold cb_X3_joinedOperands_156
            have l_108 : (1 : Int32).toInt = 1 := rfl
            have q_109 := i_rng x3
            first | have e_110 : (x3 + (1 : Int32)).toInt = x3.toInt + (1) := i_addn x3 rfl (by omega) (by omega) | have e_111 := i_rng (x3 + (1 : Int32))
            have q_112 := i_rng (F105 11)
            exact hag_9 x1 (1 : Int32) (x3 + (1 : Int32)) F105 G105 hI105 (KB.tr (KB.tr (KB.tr (KB.tr hB hB66) hB95) hB100) hB105) (KT.tr (KT.tr (KT.tr (KT.tr hT hT66) hT95) hT100) hT105) (KO.tr (KO.tr (KO.tr (KO.tr hO hO66) hO95) hO100) hO105) (show (F0 11).toInt = -2 → (F105 11).toInt = -2 by omega) (by omega)
      · skip
        have l_113 : (0 : Int32).toInt = 0 := rfl
        have e_114 := mt i_eq.mpr (show ¬ (r60 = (0 : Int32)) from c_62)
        unfold cb_X3_joinedOperands_44
        refine WP.ite (fun c_115 => ?_) (fun c_115 => ?_)
        · skip
          have l_116 : (58 : Int32).toInt = 58 := rfl
          have e_117 := i_eq.mp (show (F 11) = (58 : Int32) from c_115)
          unfold cb_X3_joinedOperands_57
          unfold cb_X3_joinedOperands_69
          have l_118 : (64 : Int32).toInt = 64 := rfl
          refine WP.bind (cs_X3_waits hfu (64 : Int32) F G hI) ?_
          rintro r119 F119 G119 ⟨hI119, hB119, hT119, hO119, hK119, hp119⟩
          dsimp only
          have q_120 := i_rng (F119 11)
          have e_121 : (F119 11).toInt = (F 11).toInt := congrArg Int32.toInt hK119
          have q_122 := hI.r 10 rfl
          have q_123 := hI119.r 10 rfl
          have e_124 : (F119 10).toInt = (F 10).toInt := hO119
          unfold cb_X3_joinedOperands_72
          refine WP.bind (cs_X2_next hfu F119 G119 hI119) ?_
          rintro r125 F125 G125 ⟨hI125, hB125, hT125, hO125, hp125⟩
          dsimp only
          have q_126 := hI125.r 10 rfl
          have e_127 : (F125 10).toInt = (F119 10).toInt := hO125
          unfold cb_X3_joinedOperands_79
          have q_128 := i_rng x1
          have q_129 := i_rng x3
          first | have e_130 : (x4 + (1 : Int32)).toInt = x4.toInt + (1) := i_addn x4 rfl (by omega) (by omega) | have e_131 := i_rng (x4 + (1 : Int32))
          have q_132 := i_rng (F125 11)
          exact ihn x1 x3 (x4 + (1 : Int32)) F125 G125 hI125 (KB.tr (KB.tr hB hB119) hB125) (KT.tr (KT.tr hT hT119) hT125) (KO.tr (KO.tr hO hO119) hO125) (show (F0 11).toInt = -2 → (F125 11).toInt = -2 by omega) (show x3.toInt < 4001 by omega) (show (2147483647 - x3.toInt).toNat < n_9 + 1 by omega) (by omega)
        · skip
          have l_133 : (58 : Int32).toInt = 58 := rfl
          have e_134 := mt i_eq.mpr (show ¬ ((F 11) = (58 : Int32)) from c_115)
          unfold cb_X3_joinedOperands_62
          unfold cb_X3_joinedOperands_69
          refine WP.bind (cs_X3_waits hfu (F 11) F G hI) ?_
          rintro r135 F135 G135 ⟨hI135, hB135, hT135, hO135, hK135, hp135⟩
          dsimp only
          have q_136 := i_rng (F135 11)
          have e_137 : (F135 11).toInt = (F 11).toInt := congrArg Int32.toInt hK135
          have q_138 := hI.r 10 rfl
          have q_139 := hI135.r 10 rfl
          have e_140 : (F135 10).toInt = (F 10).toInt := hO135
          unfold cb_X3_joinedOperands_72
          refine WP.bind (cs_X2_next hfu F135 G135 hI135) ?_
          rintro r141 F141 G141 ⟨hI141, hB141, hT141, hO141, hp141⟩
          dsimp only
          have q_142 := hI141.r 10 rfl
          have e_143 : (F141 10).toInt = (F135 10).toInt := hO141
          unfold cb_X3_joinedOperands_79
          have q_144 := i_rng x1
          have q_145 := i_rng x3
          first | have e_146 : (x4 + (1 : Int32)).toInt = x4.toInt + (1) := i_addn x4 rfl (by omega) (by omega) | have e_147 := i_rng (x4 + (1 : Int32))
          have q_148 := i_rng (F141 11)
          exact ihn x1 x3 (x4 + (1 : Int32)) F141 G141 hI141 (KB.tr (KB.tr hB hB135) hB141) (KT.tr (KT.tr hT hT135) hT141) (KO.tr (KO.tr hO hO135) hO141) (show (F0 11).toInt = -2 → (F141 11).toInt = -2 by omega) (show x3.toInt < 4001 by omega) (show (2147483647 - x3.toInt).toNat < n_9 + 1 by omega) (by omega)
theorem cz_X3_joinedOperands_9 {fu : Nat} (hfu : 8589934592 ≤ fu) (rc : RC) {d : Nat} (ih : cIH1 rc d) {F0 : PF} {G0 : PG} (hd : 5 * (40 - (F0 10).toInt) + 4 ≤ (d + 1 : Int)) : ∀ (n : Nat) (x1 : Int32) (x2 : Int32) (x3 : Int32) (F : PF) (G : PG) (hI : CI F G) (hB : KB F0 G0 F G) (hT : KT F0 F) (hO : KO F0 F) (hS : KS F0 F) (hn : (2147483647 - x3.toInt).toNat < n), WP (cl_X3_joinedOperands_9 fu rc n x1 x2 x3 F G) (fun r' F' G' => CI F' G' ∧ KB F0 G0 F' G' ∧ KT F0 F' ∧ KO F0 F' ∧ KS F0 F' ∧ True) := by
  intro n
  induction n with
  | zero =>
    intro x1 x2 x3 F G hI hB hT hO hS hn
    exact absurd hn (Nat.not_lt_zero _)
  | succ n ihn =>
    intro x1 x2 x3 F G hI hB hT hO hS hn
    show WP (cb_X3_joinedOperands_9 fu rc (cl_X3_joinedOperands_9 fu rc n)  x1 x2 x3 F G) _
    have q_S : (F0 11).toInt = -2 → (F 11).toInt = -2 := hS
    have q_O : (F 10).toInt = (F0 10).toInt := hO
    have q_O1 := hI.r 10 rfl
    unfold cb_X3_joinedOperands_9
    refine WP.ite (fun c_1 => ?_) (fun c_1 => ?_)
    · skip
      have l_2 : (4001 : Int32).toInt = 4001 := rfl
      have q_3 := i_rng x3
      have e_4 := i_le.mp (show (4001 : Int32) ≤ x3 from c_1)
      unfold cb_X3_joinedOperands_162
      have q_5 := i_rng x1
      have l_6 : (0 : Int32).toInt = 0 := rfl
      refine WP.bind (cs_X3_settle hfu x1 (0 : Int32) F G hI) ?_
      rintro r7 F7 G7 ⟨hI7, hB7, hT7, hO7, hK7, hp7⟩
      dsimp only
      have q_8 := i_rng (F 11)
      have q_9 := i_rng (F7 11)
      have e_10 : (F7 11).toInt = (F 11).toInt := congrArg Int32.toInt hK7
      have q_11 := hI.r 10 rfl
      have q_12 := hI7.r 10 rfl
      have e_13 : (F7 10).toInt = (F 10).toInt := hO7
      unfold cb_X3_joinedOperands_168
      refine WP.ret ?_
      exact ⟨hI7, (KB.tr hB hB7), (KT.tr hT hT7), (KO.tr hO hO7), (show (F0 11).toInt = -2 → (F7 11).toInt = -2 by omega), trivial⟩
    · skip
      have l_14 : (4001 : Int32).toInt = 4001 := rfl
      have q_15 := i_rng x3
      have e_16 := mt i_le.mpr (show ¬ ((4001 : Int32) ≤ x3) from c_1)
      unfold cb_X3_joinedOperands_16
      refine WP.ite (fun c_17 => ?_) (fun c_17 => ?_)
      · skip
        have q_18 := i_rng x2
        have l_19 : (0 : Int32).toInt = 0 := rfl
        have e_20 := i_eq.mp (show x2 = (0 : Int32) from c_17)
        unfold cb_X3_joinedOperands_162
        have q_21 := i_rng x1
        refine WP.bind (cs_X3_settle hfu x1 (0 : Int32) F G hI) ?_
        rintro r22 F22 G22 ⟨hI22, hB22, hT22, hO22, hK22, hp22⟩
        dsimp only
        have q_23 := i_rng (F 11)
        have q_24 := i_rng (F22 11)
        have e_25 : (F22 11).toInt = (F 11).toInt := congrArg Int32.toInt hK22
        have q_26 := hI.r 10 rfl
        have q_27 := hI22.r 10 rfl
        have e_28 : (F22 10).toInt = (F 10).toInt := hO22
        unfold cb_X3_joinedOperands_168
        refine WP.ret ?_
        exact ⟨hI22, (KB.tr hB hB22), (KT.tr hT hT22), (KO.tr hO hO22), (show (F0 11).toInt = -2 → (F22 11).toInt = -2 by omega), trivial⟩
      · skip
        have q_29 := i_rng x2
        have l_30 : (0 : Int32).toInt = 0 := rfl
        have e_31 := mt i_eq.mpr (show ¬ (x2 = (0 : Int32)) from c_17)
        unfold cb_X3_joinedOperands_20
        have q_32 := i_rng x1
        have q_33 := i_rng (F 11)
        exact cz_X3_joinedOperands_23 (F0 := F0) (G0 := G0) hfu rc ih hd (cl_X3_joinedOperands_9 fu rc n) ihn fu x1 x3 (0 : Int32) F G hI hB hT hO (show (F0 11).toInt = -2 → (F 11).toInt = -2 by omega) (show x3.toInt < 4001 by omega) (show (2147483647 - x3.toInt).toNat < n + 1 by omega) (by omega)
theorem ct_X3_joinedOperands {fu d : Nat} (hfu : 8589934592 ≤ fu) (rc : RC) (ih : cIH1 rc d) (F : PF) (G : PG) (hI : CI F G) (hd : 5 * (40 - (F 10).toInt) + 4 ≤ (d + 1 : Int)) : WP (ch_X3_joinedOperands fu rc F G) (fun r' F' G' => CI F' G' ∧ KB F G F' G' ∧ KT F F' ∧ KO F F' ∧ KS F F' ∧ True) := by
  unfold ch_X3_joinedOperands
  have q_10 := hI.r 10 rfl
  unfold cb_X3_joinedOperands_0
  have q_1 := hI.r 21 rfl
  have l_2 : (1 : Int32).toInt = 1 := rfl
  have l_3 : (0 : Int32).toInt = 0 := rfl
  have q_4 := i_rng (F 11)
  exact cz_X3_joinedOperands_9 (F0 := F) (G0 := G) hfu rc ih hd fu (F 21) (1 : Int32) (0 : Int32) F G hI (KB.rf : KB F G F G) (rfl : KT F F) (rfl : KO F F) (show (F 11).toInt = -2 → (F 11).toInt = -2 by omega) (by omega)
theorem ct_X3_named {fu d : Nat} (hfu : 8589934592 ≤ fu) (rc : RC) (ih : cIH1 rc d) (F : PF) (G : PG) (hI : CI F G) (hd : 5 * (40 - (F 10).toInt) + 2 ≤ (d + 1 : Int)) : WP (ch_X3_named fu rc F G) (fun r' F' G' => CI F' G' ∧ KB F G F' G' ∧ KT F F' ∧ KO F F' ∧ True) := by
  unfold ch_X3_named
  have q_10 := hI.r 10 rfl
  unfold cb_X3_named_0
  have q_1 := i_rng (F 12)
  have q_2 := i_rng (F 13)
  refine WP.bind (cs_X5_meant hfu (F 12) (F 13) F G hI) ?_
  rintro r3 F3 G3 ⟨hI3, hB3, hT3, hO3, hK3, hp3⟩
  dsimp only
  have q_4 := hI.r 10 rfl
  have q_5 := hI3.r 10 rfl
  have e_6 : (F3 10).toInt = (F 10).toInt := hO3
  unfold cb_X3_named_23
  refine WP.bind (cs_X2_next hfu F3 G3 hI3) ?_
  rintro r7 F7 G7 ⟨hI7, hB7, hT7, hO7, hp7⟩
  dsimp only
  have q_8 := hI7.r 10 rfl
  have e_9 : (F7 10).toInt = (F3 10).toInt := hO7
  unfold cb_X3_named_31
  have q_10 := i_rng r3
  have q_11 := i_rng (F7 11)
  refine WP.bind (cs_X5_wantValue hfu r3 (F 13) (F7 11) F7 G7 hI7) ?_
  rintro r12 F12 G12 ⟨hI12, hB12, hT12, hO12, hK12, hp12⟩
  dsimp only
  have q_13 := hI12.r 10 rfl
  have e_14 : (F12 10).toInt = (F7 10).toInt := hO12
  unfold cb_X3_named_47
  refine WP.ite (fun c_15 => ?_) (fun c_15 => ?_)
  · skip
    have q_16 := i_rng (F12 11)
    have l_17 : (19 : Int32).toInt = 19 := rfl
    have e_18 := i_eq.mp (show (F12 11) = (19 : Int32) from c_15)
    unfold cb_X3_named_59
    refine WP.bind (ih.1 r3 (F 13) F12 G12 hI12 (by omega)) ?_
    rintro r19 F19 G19 ⟨hI19, hB19, hT19, hO19, hp19⟩
    dsimp only
    have q_20 := hI19.r 10 rfl
    have e_21 : (F19 10).toInt = (F12 10).toInt := hO19
    unfold cb_X3_named_65
    unfold cb_X3_named_98
    refine WP.ret ?_
    exact ⟨hI19, (KB.tr (KB.tr (KB.tr (KB.tr (KB.rf : KB F G F G) hB3) hB7) hB12) hB19), (KT.tr (KT.tr (KT.tr (KT.tr (rfl : KT F F) hT3) hT7) hT12) hT19), (KO.tr (KO.tr (KO.tr (KO.tr (rfl : KO F F) hO3) hO7) hO12) hO19), trivial⟩
  · skip
    have q_22 := i_rng (F12 11)
    have l_23 : (19 : Int32).toInt = 19 := rfl
    have e_24 := mt i_eq.mpr (show ¬ ((F12 11) = (19 : Int32)) from c_15)
    unfold cb_X3_named_68
    refine WP.ite (fun c_25 => ?_) (fun c_25 => ?_)
    · skip
      have l_26 : (21 : Int32).toInt = 21 := rfl
      have e_27 := i_eq.mp (show (F12 11) = (21 : Int32) from c_25)
      unfold cb_X3_named_80
      refine WP.bind (ih.2.2.1 r3 F12 G12 hI12 (by omega)) ?_
      rintro r28 F28 G28 ⟨hI28, hB28, hT28, hO28, hp28⟩
      dsimp only
      have q_29 := hI28.r 10 rfl
      have e_30 : (F28 10).toInt = (F12 10).toInt := hO28
      unfold cb_X3_named_85
      refine WP.bind (cs_X3_fetch hfu r3 F28 G28 hI28) ?_
      rintro r31 F31 G31 ⟨hI31, hB31, hT31, hO31, hK31, hp31⟩
      dsimp only
      have q_32 := hI31.r 10 rfl
      have e_33 : (F31 10).toInt = (F28 10).toInt := hO31
      unfold cb_X3_named_90
      unfold cb_X3_named_98
      refine WP.ret ?_
      exact ⟨hI31, (KB.tr (KB.tr (KB.tr (KB.tr (KB.tr (KB.rf : KB F G F G) hB3) hB7) hB12) hB28) hB31), (KT.tr (KT.tr (KT.tr (KT.tr (KT.tr (rfl : KT F F) hT3) hT7) hT12) hT28) hT31), (KO.tr (KO.tr (KO.tr (KO.tr (KO.tr (rfl : KO F F) hO3) hO7) hO12) hO28) hO31), trivial⟩
    · skip
      have l_34 : (21 : Int32).toInt = 21 := rfl
      have e_35 := mt i_eq.mpr (show ¬ ((F12 11) = (21 : Int32)) from c_25)
      unfold cb_X3_named_93
      refine WP.bind (cs_X3_load hfu r3 F12 G12 hI12) ?_
      rintro r36 F36 G36 ⟨hI36, hB36, hT36, hO36, hK36, hp36⟩
      dsimp only
      have q_37 := hI36.r 10 rfl
      have e_38 : (F36 10).toInt = (F12 10).toInt := hO36
      unfold cb_X3_named_98
      refine WP.ret ?_
      exact ⟨hI36, (KB.tr (KB.tr (KB.tr (KB.tr (KB.rf : KB F G F G) hB3) hB7) hB12) hB36), (KT.tr (KT.tr (KT.tr (KT.tr (rfl : KT F F) hT3) hT7) hT12) hT36), (KO.tr (KO.tr (KO.tr (KO.tr (rfl : KO F F) hO3) hO7) hO12) hO36), trivial⟩
theorem ct_X3_operand {fu d : Nat} (hfu : 8589934592 ≤ fu) (rc : RC) (ih : cIH1 rc d) (F : PF) (G : PG) (hI : CI F G) (hd : 5 * (40 - (F 10).toInt) + 3 ≤ (d + 1 : Int)) : WP (ch_X3_operand fu rc F G) (fun r' F' G' => CI F' G' ∧ KB F G F' G' ∧ KT F F' ∧ KO F F' ∧ KS F F' ∧ True) := by
  unfold ch_X3_operand
  have q_10 := hI.r 10 rfl
  unfold cb_X3_operand_0
  refine WP.ite (fun c_1 => ?_) (fun c_1 => ?_)
  · skip
    have q_2 := i_rng (F 11)
    have l_3 : (2 : Int32).toInt = 2 := rfl
    have e_4 := i_eq.mp (show (F 11) = (2 : Int32) from c_1)
    unfold cb_X3_operand_74
    have q_5 := hI.r 10 rfl
    refine WP.bind (ih.2.2.2.2.1 F G hI (by omega)) ?_
    rintro r6 F6 G6 ⟨hI6, hB6, hT6, hO6, hp6⟩
    dsimp only
    have q_7 := hI6.r 10 rfl
    have e_8 : (F6 10).toInt = (F 10).toInt := hO6
    unfold cb_X3_operand_78
    unfold cb_X3_operand_183
    refine WP.ret ?_
    have q_9 := i_rng (F6 11)
    exact ⟨hI6, (KB.tr (KB.rf : KB F G F G) hB6), (KT.tr (rfl : KT F F) hT6), (KO.tr (rfl : KO F F) hO6), (show (F 11).toInt = -2 → (F6 11).toInt = -2 by omega), trivial⟩
  have q_10 := i_rng (F 11)
  have l_11 : (2 : Int32).toInt = 2 := rfl
  have e_12 := mt i_eq.mpr (show ¬ ((F 11) = (2 : Int32)) from c_1)
  refine WP.ite (fun c_13 => ?_) (fun c_13 => ?_)
  · skip
    have l_14 : (3 : Int32).toInt = 3 := rfl
    have e_15 := i_eq.mp (show (F 11) = (3 : Int32) from c_13)
    unfold cb_X3_operand_48
    have l_16 : (66 : Int32).toInt = 66 := rfl
    have q_17 := i_rng (F 12)
    refine WP.bind (cs_X1_addPair hfu (66 : Int32) (F 12) F G hI) ?_
    rintro r18 F18 G18 ⟨hI18, hB18, hT18, hO18, hK18, hp18⟩
    dsimp only
    have q_19 := i_rng (F18 11)
    have e_20 : (F18 11).toInt = (F 11).toInt := congrArg Int32.toInt hK18
    have q_21 := hI.r 10 rfl
    have q_22 := hI18.r 10 rfl
    have e_23 : (F18 10).toInt = (F 10).toInt := hO18
    unfold cb_X3_operand_64
    refine WP.bind (cs_X2_next hfu F18 G18 hI18) ?_
    rintro r24 F24 G24 ⟨hI24, hB24, hT24, hO24, hp24⟩
    dsimp only
    have q_25 := hI24.r 10 rfl
    have e_26 : (F24 10).toInt = (F18 10).toInt := hO24
    unfold cb_X3_operand_71
    unfold cb_X3_operand_183
    refine WP.ret ?_
    have q_27 := i_rng (F24 11)
    exact ⟨hI24, (KB.tr (KB.tr (KB.rf : KB F G F G) hB18) hB24), (KT.tr (KT.tr (rfl : KT F F) hT18) hT24), (KO.tr (KO.tr (rfl : KO F F) hO18) hO24), (show (F 11).toInt = -2 → (F24 11).toInt = -2 by omega), trivial⟩
  have l_28 : (3 : Int32).toInt = 3 := rfl
  have e_29 := mt i_eq.mpr (show ¬ ((F 11) = (3 : Int32)) from c_13)
  refine WP.ite (fun c_30 => ?_) (fun c_30 => ?_)
  · skip
    have l_31 : (17 : Int32).toInt = 17 := rfl
    have e_32 := i_eq.mp (show (F 11) = (17 : Int32) from c_30)
    unfold cb_X3_operand_81
    refine WP.ite (fun c_33 => ?_) (fun c_33 => ?_)
    · skip
      have q_34 := hI.r 46 rfl
      have l_35 : (0 : Int32).toInt = 0 := rfl
      have e_36 := i_eq.mp (show (F 46) = (0 : Int32) from c_33)
      unfold cb_X3_operand_107
      refine WP.bind (cs_X2_next hfu F G hI) ?_
      rintro r37 F37 G37 ⟨hI37, hB37, hT37, hO37, hp37⟩
      dsimp only
      have q_38 := hI.r 10 rfl
      have q_39 := hI37.r 10 rfl
      have e_40 : (F37 10).toInt = (F 10).toInt := hO37
      unfold cb_X3_operand_114
      have l_41 : (19 : Int32).toInt = 19 := rfl
      refine WP.bind (cs_X2_opens hfu (19 : Int32) F37 G37 hI37 (show (19 : Int32).toInt ≠ -2 by omega)) ?_
      rintro r42 F42 G42 ⟨hI42, hB42, hT42, hS42, hp42⟩
      dsimp only
      have q_43 := i_rng (F37 11)
      have q_44 := i_rng (F42 11)
      have e_45 : (F37 11).toInt = -2 → (F42 11).toInt = -2 := hS42
      have q_46 := b_rng (hp42.1)
      have q_47 := hI42.r 10 rfl
      have e_48 : r42.toInt = 1 → (F42 10).toInt = (F37 10).toInt + 1 ∧ (F37 10).toInt < 40 ∧ (F37 11).toInt ≠ -2 := hp42.2.1
      have e_49 : r42.toInt = 0 → (F42 10).toInt = (F37 10).toInt ∧ (F42 11).toInt = -2 := hp42.2.2
      unfold cb_X3_operand_123
      refine WP.ite (fun c_50 => ?_) (fun c_50 => ?_)
      · skip
        have e_51 := i_eq.mp (show r42 = (0 : Int32) from c_50)
        unfold cb_X3_operand_135
        refine WP.bind (cs_X1_add hfu (17 : Int32) F42 G42 hI42) ?_
        rintro r52 F52 G52 ⟨hI52, hB52, hT52, hO52, hK52, hp52⟩
        dsimp only
        have q_53 := i_rng (F52 11)
        have e_54 : (F52 11).toInt = (F42 11).toInt := congrArg Int32.toInt hK52
        have q_55 := hI52.r 10 rfl
        have e_56 : (F52 10).toInt = (F42 10).toInt := hO52
        have q_57 := hI42.r 21 rfl
        have q_58 := hI52.r 21 rfl
        have e_59 : (F52 21).toInt = (F42 21).toInt := congrArg Int32.toInt hp52
        unfold cb_X3_operand_144
        unfold cb_X3_operand_183
        refine WP.ret ?_
        exact ⟨hI52, (KB.tr (KB.tr (KB.tr (KB.rf : KB F G F G) hB37) hB42) hB52), (KT.tr (KT.tr (KT.tr (rfl : KT F F) hT37) hT42) hT52), (show (F52 10).toInt = (F 10).toInt by omega), (show (F 11).toInt = -2 → (F52 11).toInt = -2 by omega), trivial⟩
      · skip
        have e_60 := mt i_eq.mpr (show ¬ (r42 = (0 : Int32)) from c_50)
        unfold cb_X3_operand_126
        have l_61 : (20 : Int32).toInt = 20 := rfl
        refine WP.bind (cs_X2_closesWith hfu (20 : Int32) F42 G42 hI42 (show 0 ≤ (F42 10).toInt by omega) (show (20 : Int32).toInt ≠ -2 by omega)) ?_
        rintro r62 F62 G62 ⟨hI62, hB62, hT62, hS62, hp62⟩
        dsimp only
        have q_63 := i_rng (F62 11)
        have e_64 : (F42 11).toInt = -2 → (F62 11).toInt = -2 := hS62
        have q_65 := hI62.r 10 rfl
        have e_66 : (F62 10).toInt = (F42 10).toInt - 1 := hp62
        unfold cb_X3_operand_135
        refine WP.bind (cs_X1_add hfu (17 : Int32) F62 G62 hI62) ?_
        rintro r67 F67 G67 ⟨hI67, hB67, hT67, hO67, hK67, hp67⟩
        dsimp only
        have q_68 := i_rng (F67 11)
        have e_69 : (F67 11).toInt = (F62 11).toInt := congrArg Int32.toInt hK67
        have q_70 := hI67.r 10 rfl
        have e_71 : (F67 10).toInt = (F62 10).toInt := hO67
        have q_72 := hI62.r 21 rfl
        have q_73 := hI67.r 21 rfl
        have e_74 : (F67 21).toInt = (F62 21).toInt := congrArg Int32.toInt hp67
        unfold cb_X3_operand_144
        unfold cb_X3_operand_183
        refine WP.ret ?_
        exact ⟨hI67, (KB.tr (KB.tr (KB.tr (KB.tr (KB.rf : KB F G F G) hB37) hB42) hB62) hB67), (KT.tr (KT.tr (KT.tr (KT.tr (rfl : KT F F) hT37) hT42) hT62) hT67), (show (F67 10).toInt = (F 10).toInt by omega), (show (F 11).toInt = -2 → (F67 11).toInt = -2 by omega), trivial⟩
    · skip
      have q_75 := hI.r 46 rfl
      have l_76 : (0 : Int32).toInt = 0 := rfl
      have e_77 := mt i_eq.mpr (show ¬ ((F 46) = (0 : Int32)) from c_33)
      unfold cb_X3_operand_91
      have l_78 : (7 : Int32).toInt = 7 := rfl
      have q_79 := i_rng (F 13)
      refine WP.bind (cs_X5_note hfu (7 : Int32) (F 13) F G hI) ?_
      rintro r80 F80 G80 ⟨hI80, hB80, hT80, hO80, hK80, hp80⟩
      dsimp only
      have q_81 := i_rng (F80 11)
      have e_82 : (F80 11).toInt = (F 11).toInt := congrArg Int32.toInt hK80
      have q_83 := hI.r 10 rfl
      have q_84 := hI80.r 10 rfl
      have e_85 : (F80 10).toInt = (F 10).toInt := hO80
      unfold cb_X3_operand_107
      refine WP.bind (cs_X2_next hfu F80 G80 hI80) ?_
      rintro r86 F86 G86 ⟨hI86, hB86, hT86, hO86, hp86⟩
      dsimp only
      have q_87 := hI86.r 10 rfl
      have e_88 : (F86 10).toInt = (F80 10).toInt := hO86
      unfold cb_X3_operand_114
      have l_89 : (19 : Int32).toInt = 19 := rfl
      refine WP.bind (cs_X2_opens hfu (19 : Int32) F86 G86 hI86 (show (19 : Int32).toInt ≠ -2 by omega)) ?_
      rintro r90 F90 G90 ⟨hI90, hB90, hT90, hS90, hp90⟩
      dsimp only
      have q_91 := i_rng (F86 11)
      have q_92 := i_rng (F90 11)
      have e_93 : (F86 11).toInt = -2 → (F90 11).toInt = -2 := hS90
      have q_94 := b_rng (hp90.1)
      have q_95 := hI90.r 10 rfl
      have e_96 : r90.toInt = 1 → (F90 10).toInt = (F86 10).toInt + 1 ∧ (F86 10).toInt < 40 ∧ (F86 11).toInt ≠ -2 := hp90.2.1
      have e_97 : r90.toInt = 0 → (F90 10).toInt = (F86 10).toInt ∧ (F90 11).toInt = -2 := hp90.2.2
      unfold cb_X3_operand_123
      refine WP.ite (fun c_98 => ?_) (fun c_98 => ?_)
      · skip
        have e_99 := i_eq.mp (show r90 = (0 : Int32) from c_98)
        unfold cb_X3_operand_135
        refine WP.bind (cs_X1_add hfu (17 : Int32) F90 G90 hI90) ?_
        rintro r100 F100 G100 ⟨hI100, hB100, hT100, hO100, hK100, hp100⟩
        dsimp only
        have q_101 := i_rng (F100 11)
        have e_102 : (F100 11).toInt = (F90 11).toInt := congrArg Int32.toInt hK100
        have q_103 := hI100.r 10 rfl
        have e_104 : (F100 10).toInt = (F90 10).toInt := hO100
        have q_105 := hI90.r 21 rfl
        have q_106 := hI100.r 21 rfl
        have e_107 : (F100 21).toInt = (F90 21).toInt := congrArg Int32.toInt hp100
        unfold cb_X3_operand_144
        unfold cb_X3_operand_183
        refine WP.ret ?_
        exact ⟨hI100, (KB.tr (KB.tr (KB.tr (KB.tr (KB.rf : KB F G F G) hB80) hB86) hB90) hB100), (KT.tr (KT.tr (KT.tr (KT.tr (rfl : KT F F) hT80) hT86) hT90) hT100), (show (F100 10).toInt = (F 10).toInt by omega), (show (F 11).toInt = -2 → (F100 11).toInt = -2 by omega), trivial⟩
      · skip
        have e_108 := mt i_eq.mpr (show ¬ (r90 = (0 : Int32)) from c_98)
        unfold cb_X3_operand_126
        have l_109 : (20 : Int32).toInt = 20 := rfl
        refine WP.bind (cs_X2_closesWith hfu (20 : Int32) F90 G90 hI90 (show 0 ≤ (F90 10).toInt by omega) (show (20 : Int32).toInt ≠ -2 by omega)) ?_
        rintro r110 F110 G110 ⟨hI110, hB110, hT110, hS110, hp110⟩
        dsimp only
        have q_111 := i_rng (F110 11)
        have e_112 : (F90 11).toInt = -2 → (F110 11).toInt = -2 := hS110
        have q_113 := hI110.r 10 rfl
        have e_114 : (F110 10).toInt = (F90 10).toInt - 1 := hp110
        unfold cb_X3_operand_135
        refine WP.bind (cs_X1_add hfu (17 : Int32) F110 G110 hI110) ?_
        rintro r115 F115 G115 ⟨hI115, hB115, hT115, hO115, hK115, hp115⟩
        dsimp only
        have q_116 := i_rng (F115 11)
        have e_117 : (F115 11).toInt = (F110 11).toInt := congrArg Int32.toInt hK115
        have q_118 := hI115.r 10 rfl
        have e_119 : (F115 10).toInt = (F110 10).toInt := hO115
        have q_120 := hI110.r 21 rfl
        have q_121 := hI115.r 21 rfl
        have e_122 : (F115 21).toInt = (F110 21).toInt := congrArg Int32.toInt hp115
        unfold cb_X3_operand_144
        unfold cb_X3_operand_183
        refine WP.ret ?_
        exact ⟨hI115, (KB.tr (KB.tr (KB.tr (KB.tr (KB.tr (KB.rf : KB F G F G) hB80) hB86) hB90) hB110) hB115), (KT.tr (KT.tr (KT.tr (KT.tr (KT.tr (rfl : KT F F) hT80) hT86) hT90) hT110) hT115), (show (F115 10).toInt = (F 10).toInt by omega), (show (F 11).toInt = -2 → (F115 11).toInt = -2 by omega), trivial⟩
  have l_123 : (17 : Int32).toInt = 17 := rfl
  have e_124 := mt i_eq.mpr (show ¬ ((F 11) = (17 : Int32)) from c_30)
  refine WP.ite (fun c_125 => ?_) (fun c_125 => ?_)
  · skip
    have l_126 : (19 : Int32).toInt = 19 := rfl
    have e_127 := i_eq.mp (show (F 11) = (19 : Int32) from c_125)
    unfold cb_X3_operand_147
    refine WP.bind (cs_X2_opens hfu (19 : Int32) F G hI (show (19 : Int32).toInt ≠ -2 by omega)) ?_
    rintro r128 F128 G128 ⟨hI128, hB128, hT128, hS128, hp128⟩
    dsimp only
    have q_129 := i_rng (F128 11)
    have e_130 : (F 11).toInt = -2 → (F128 11).toInt = -2 := hS128
    have q_131 := b_rng (hp128.1)
    have q_132 := hI.r 10 rfl
    have q_133 := hI128.r 10 rfl
    have e_134 : r128.toInt = 1 → (F128 10).toInt = (F 10).toInt + 1 ∧ (F 10).toInt < 40 ∧ (F 11).toInt ≠ -2 := hp128.2.1
    have e_135 : r128.toInt = 0 → (F128 10).toInt = (F 10).toInt ∧ (F128 11).toInt = -2 := hp128.2.2
    unfold cb_X3_operand_156
    refine WP.ite (fun c_136 => ?_) (fun c_136 => ?_)
    · skip
      have l_137 : (0 : Int32).toInt = 0 := rfl
      have e_138 := i_eq.mp (show r128 = (0 : Int32) from c_136)
      unfold cb_X3_operand_183
      refine WP.ret ?_
      exact ⟨hI128, (KB.tr (KB.rf : KB F G F G) hB128), (KT.tr (rfl : KT F F) hT128), (show (F128 10).toInt = (F 10).toInt by omega), (show (F 11).toInt = -2 → (F128 11).toInt = -2 by omega), trivial⟩
    · skip
      have l_139 : (0 : Int32).toInt = 0 := rfl
      have e_140 := mt i_eq.mpr (show ¬ (r128 = (0 : Int32)) from c_136)
      unfold cb_X3_operand_159
      refine WP.bind (ih.2.1 F128 G128 hI128 (by omega)) ?_
      rintro r141 F141 G141 ⟨hI141, hB141, hT141, hO141, hS141, hp141⟩
      dsimp only
      have q_142 := i_rng (F141 11)
      have e_143 : (F128 11).toInt = -2 → (F141 11).toInt = -2 := hS141
      have q_144 := hI141.r 10 rfl
      have e_145 : (F141 10).toInt = (F128 10).toInt := hO141
      unfold cb_X3_operand_163
      have l_146 : (20 : Int32).toInt = 20 := rfl
      refine WP.bind (cs_X2_closesWith hfu (20 : Int32) F141 G141 hI141 (show 0 ≤ (F141 10).toInt by omega) (show (20 : Int32).toInt ≠ -2 by omega)) ?_
      rintro r147 F147 G147 ⟨hI147, hB147, hT147, hS147, hp147⟩
      dsimp only
      have q_148 := i_rng (F147 11)
      have e_149 : (F141 11).toInt = -2 → (F147 11).toInt = -2 := hS147
      have q_150 := hI147.r 10 rfl
      have e_151 : (F147 10).toInt = (F141 10).toInt - 1 := hp147
      unfold cb_X3_operand_172
      unfold cb_X3_operand_183
      refine WP.ret ?_
      exact ⟨hI147, (KB.tr (KB.tr (KB.tr (KB.rf : KB F G F G) hB128) hB141) hB147), (KT.tr (KT.tr (KT.tr (rfl : KT F F) hT128) hT141) hT147), (show (F147 10).toInt = (F 10).toInt by omega), (show (F 11).toInt = -2 → (F147 11).toInt = -2 by omega), trivial⟩
  have l_152 : (19 : Int32).toInt = 19 := rfl
  have e_153 := mt i_eq.mpr (show ¬ ((F 11) = (19 : Int32)) from c_125)
  unfold cb_X3_operand_175
  refine WP.bind (cs_X2_fail hfu (2 : Int32) F G hI) ?_
  rintro r154 F154 G154 ⟨hI154, hB154, hT154, hO154, hp154⟩
  dsimp only
  have q_155 := hI.r 10 rfl
  have q_156 := hI154.r 10 rfl
  have e_157 : (F154 10).toInt = (F 10).toInt := hO154
  have q_158 := i_rng (F154 11)
  have e_159 : (F154 11).toInt = -2 := hp154
  unfold cb_X3_operand_183
  refine WP.ret ?_
  exact ⟨hI154, (KB.tr (KB.rf : KB F G F G) hB154), (KT.tr (rfl : KT F F) hT154), (KO.tr (rfl : KO F F) hO154), (show (F 11).toInt = -2 → (F154 11).toInt = -2 by omega), trivial⟩
