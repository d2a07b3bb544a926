theorem cs_X3_waits {fu : Nat} (hfu : 8589934592 ≤ fu) (x1 : Int32) (F : PF) (G : PG) (hI : CI F G) : WP (cf_X3_waits fu x1 F G) (fun r' F' G' => CI F' G' ∧ KB F G F' G' ∧ KT F F' ∧ KO F F' ∧ True) := by
  unfold cf_X3_waits
  unfold cb_X3_waits_0
  refine WP.ite (fun c_1 => ?_) (fun c_1 => ?_)
  · skip
    have q_2 := hI.r 21 rfl
    have l_3 : (4000 : Int32).toInt = 4000 := rfl
    have e_4 := i_lt.mp (show (F 21) < (4000 : Int32) from c_1)
    unfold cb_X3_waits_11
    refine WP.ite (fun c_5 => ?_) (fun c_5 => ?_)
    · skip
      have q_6 := i_rng x1
      have l_7 : (43 : Int32).toInt = 43 := rfl
      have e_8 := i_eq.mp (show x1 = (43 : Int32) from c_5)
      unfold cb_X3_waits_23
      refine WP.ite (fun c_9 => ?_) (fun c_9 => ?_)
      · skip
        have e_10 := i_eq.mp (show x1 = (43 : Int32) from c_9)
        unfold cb_X3_waits_41
        unfold cb_X3_waits_48
        have l_11 : (87 : Int32).toInt = 87 := rfl
        have l_12 : (-1 : Int32).toInt = -1 := rfl
        refine WP.bind (cs_X1_addJump hfu (87 : Int32) (-1 : Int32) F G hI) ?_
        rintro r13 F13 G13 ⟨hI13, hB13, hT13, hO13, hp13⟩
        dsimp only
        have q_14 := hI.r 10 rfl
        have q_15 := hI13.r 10 rfl
        have e_16 : (F13 10).toInt = (F 10).toInt := hO13
        have q_17 := hI13.r 21 rfl
        have e_18 : (F13 21).toInt = (F 21).toInt := congrArg Int32.toInt hp13
        unfold cb_X3_waits_52
        refine WP.ix (show vp_in (F 21) 4001 from vp_in_iff.mpr ⟨by omega, by omega⟩) ?_
        have j_19 : CI F13 (gup G13 20 (F 21).toNatClampNeg r13) := CI.g (by decide) hI13
        unfold cb_X3_waits_53
        have l_20 : (1 : Int32).toInt = 1 := rfl
        obtain ⟨k_21, e_22, e_23⟩ := i_add (F13 21) (1 : Int32)
        have j_24 : CI (fup F13 21 ((F13 21) + (1 : Int32))) (gup G13 20 (F 21).toNatClampNeg r13) := CI.rg (k := 21) (x := ((F13 21) + (1 : Int32))) rfl (by decide) (by decide) j_19 ⟨by omega, by omega⟩
        unfold cb_X3_waits_63
        refine WP.ix (show vp_in ((F13 21) + (1 : Int32)) 4001 from vp_in_iff.mpr ⟨by omega, by omega⟩) ?_
        have j_25 : CI (fup F13 21 ((F13 21) + (1 : Int32))) (gup (gup G13 20 (F 21).toNatClampNeg r13) 20 ((F13 21) + (1 : Int32)).toNatClampNeg x1) := CI.g (by decide) j_24
        unfold cb_X3_waits_73
        obtain ⟨k_26, e_27, e_28⟩ := i_add ((F13 21) + (1 : Int32)) (1 : Int32)
        have j_29 : CI (fup (fup F13 21 ((F13 21) + (1 : Int32))) 21 (((F13 21) + (1 : Int32)) + (1 : Int32))) (gup (gup G13 20 (F 21).toNatClampNeg r13) 20 ((F13 21) + (1 : Int32)).toNatClampNeg x1) := CI.rg (k := 21) (x := (((F13 21) + (1 : Int32)) + (1 : Int32))) rfl (by decide) (by decide) j_25 ⟨by omega, by omega⟩
        unfold cb_X3_waits_83
        refine WP.ret ?_
        exact ⟨j_29, (KB.f (by decide) (KB.g (by decide) (KB.f (by decide) (KB.g (by decide) (KB.tr (KB.rf : KB F G F G) hB13))))), (KT.f (by decide) (KT.f (by decide) (KT.tr (rfl : KT F F) hT13))), (KO.f (by decide) (KO.f (by decide) (KO.tr (rfl : KO F F) hO13))), trivial⟩
      · skip
        have e_30 := mt i_eq.mpr (show ¬ (x1 = (43 : Int32)) from c_9)
        unfold cb_X3_waits_46
        unfold cb_X3_waits_48
        have l_31 : (88 : Int32).toInt = 88 := rfl
        have l_32 : (-1 : Int32).toInt = -1 := rfl
        refine WP.bind (cs_X1_addJump hfu (88 : Int32) (-1 : Int32) F G hI) ?_
        rintro r33 F33 G33 ⟨hI33, hB33, hT33, hO33, hp33⟩
        dsimp only
        have q_34 := hI.r 10 rfl
        have q_35 := hI33.r 10 rfl
        have e_36 : (F33 10).toInt = (F 10).toInt := hO33
        have q_37 := hI33.r 21 rfl
        have e_38 : (F33 21).toInt = (F 21).toInt := congrArg Int32.toInt hp33
        unfold cb_X3_waits_52
        refine WP.ix (show vp_in (F 21) 4001 from vp_in_iff.mpr ⟨by omega, by omega⟩) ?_
        have j_39 : CI F33 (gup G33 20 (F 21).toNatClampNeg r33) := CI.g (by decide) hI33
        unfold cb_X3_waits_53
        have l_40 : (1 : Int32).toInt = 1 := rfl
        obtain ⟨k_41, e_42, e_43⟩ := i_add (F33 21) (1 : Int32)
        have j_44 : CI (fup F33 21 ((F33 21) + (1 : Int32))) (gup G33 20 (F 21).toNatClampNeg r33) := CI.rg (k := 21) (x := ((F33 21) + (1 : Int32))) rfl (by decide) (by decide) j_39 ⟨by omega, by omega⟩
        unfold cb_X3_waits_63
        refine WP.ix (show vp_in ((F33 21) + (1 : Int32)) 4001 from vp_in_iff.mpr ⟨by omega, by omega⟩) ?_
        have j_45 : CI (fup F33 21 ((F33 21) + (1 : Int32))) (gup (gup G33 20 (F 21).toNatClampNeg r33) 20 ((F33 21) + (1 : Int32)).toNatClampNeg x1) := CI.g (by decide) j_44
        unfold cb_X3_waits_73
        obtain ⟨k_46, e_47, e_48⟩ := i_add ((F33 21) + (1 : Int32)) (1 : Int32)
        have j_49 : CI (fup (fup F33 21 ((F33 21) + (1 : Int32))) 21 (((F33 21) + (1 : Int32)) + (1 : Int32))) (gup (gup G33 20 (F 21).toNatClampNeg r33) 20 ((F33 21) + (1 : Int32)).toNatClampNeg x1) := CI.rg (k := 21) (x := (((F33 21) + (1 : Int32)) + (1 : Int32))) rfl (by decide) (by decide) j_45 ⟨by omega, by omega⟩
        unfold cb_X3_waits_83
        refine WP.ret ?_
        exact ⟨j_49, (KB.f (by decide) (KB.g (by decide) (KB.f (by decide) (KB.g (by decide) (KB.tr (KB.rf : KB F G F G) hB33))))), (KT.f (by decide) (KT.f (by decide) (KT.tr (rfl : KT F F) hT33))), (KO.f (by decide) (KO.f (by decide) (KO.tr (rfl : KO F F) hO33))), trivial⟩
    · skip
      have q_50 := i_rng x1
      have l_51 : (43 : Int32).toInt = 43 := rfl
      have e_52 := mt i_eq.mpr (show ¬ (x1 = (43 : Int32)) from c_5)
      unfold cb_X3_waits_17
      refine WP.ite (fun c_53 => ?_) (fun c_53 => ?_)
      · skip
        have l_54 : (44 : Int32).toInt = 44 := rfl
        have e_55 := i_eq.mp (show x1 = (44 : Int32) from c_53)
        unfold cb_X3_waits_23
        refine WP.ite (fun c_56 => ?_) (fun c_56 => ?_)
        · skip
          have e_57 := i_eq.mp (show x1 = (43 : Int32) from c_56)
          unfold cb_X3_waits_41
          unfold cb_X3_waits_48
          have l_58 : (87 : Int32).toInt = 87 := rfl
          have l_59 : (-1 : Int32).toInt = -1 := rfl
          refine WP.bind (cs_X1_addJump hfu (87 : Int32) (-1 : Int32) F G hI) ?_
          rintro r60 F60 G60 ⟨hI60, hB60, hT60, hO60, hp60⟩
          dsimp only
          have q_61 := hI.r 10 rfl
          have q_62 := hI60.r 10 rfl
          have e_63 : (F60 10).toInt = (F 10).toInt := hO60
          have q_64 := hI60.r 21 rfl
          have e_65 : (F60 21).toInt = (F 21).toInt := congrArg Int32.toInt hp60
          unfold cb_X3_waits_52
          refine WP.ix (show vp_in (F 21) 4001 from vp_in_iff.mpr ⟨by omega, by omega⟩) ?_
          have j_66 : CI F60 (gup G60 20 (F 21).toNatClampNeg r60) := CI.g (by decide) hI60
          unfold cb_X3_waits_53
          have l_67 : (1 : Int32).toInt = 1 := rfl
          obtain ⟨k_68, e_69, e_70⟩ := i_add (F60 21) (1 : Int32)
          have j_71 : CI (fup F60 21 ((F60 21) + (1 : Int32))) (gup G60 20 (F 21).toNatClampNeg r60) := CI.rg (k := 21) (x := ((F60 21) + (1 : Int32))) rfl (by decide) (by decide) j_66 ⟨by omega, by omega⟩
          unfold cb_X3_waits_63
          refine WP.ix (show vp_in ((F60 21) + (1 : Int32)) 4001 from vp_in_iff.mpr ⟨by omega, by omega⟩) ?_
          have j_72 : CI (fup F60 21 ((F60 21) + (1 : Int32))) (gup (gup G60 20 (F 21).toNatClampNeg r60) 20 ((F60 21) + (1 : Int32)).toNatClampNeg x1) := CI.g (by decide) j_71
          unfold cb_X3_waits_73
          obtain ⟨k_73, e_74, e_75⟩ := i_add ((F60 21) + (1 : Int32)) (1 : Int32)
          have j_76 : CI (fup (fup F60 21 ((F60 21) + (1 : Int32))) 21 (((F60 21) + (1 : Int32)) + (1 : Int32))) (gup (gup G60 20 (F 21).toNatClampNeg r60) 20 ((F60 21) + (1 : Int32)).toNatClampNeg x1) := CI.rg (k := 21) (x := (((F60 21) + (1 : Int32)) + (1 : Int32))) rfl (by decide) (by decide) j_72 ⟨by omega, by omega⟩
          unfold cb_X3_waits_83
          refine WP.ret ?_
          exact ⟨j_76, (KB.f (by decide) (KB.g (by decide) (KB.f (by decide) (KB.g (by decide) (KB.tr (KB.rf : KB F G F G) hB60))))), (KT.f (by decide) (KT.f (by decide) (KT.tr (rfl : KT F F) hT60))), (KO.f (by decide) (KO.f (by decide) (KO.tr (rfl : KO F F) hO60))), trivial⟩
        · skip
          have e_77 := mt i_eq.mpr (show ¬ (x1 = (43 : Int32)) from c_56)
          unfold cb_X3_waits_46
          unfold cb_X3_waits_48
          have l_78 : (88 : Int32).toInt = 88 := rfl
          have l_79 : (-1 : Int32).toInt = -1 := rfl
          refine WP.bind (cs_X1_addJump hfu (88 : Int32) (-1 : Int32) F G hI) ?_
          rintro r80 F80 G80 ⟨hI80, hB80, hT80, hO80, hp80⟩
          dsimp only
          have q_81 := hI.r 10 rfl
          have q_82 := hI80.r 10 rfl
          have e_83 : (F80 10).toInt = (F 10).toInt := hO80
          have q_84 := hI80.r 21 rfl
          have e_85 : (F80 21).toInt = (F 21).toInt := congrArg Int32.toInt hp80
          unfold cb_X3_waits_52
          refine WP.ix (show vp_in (F 21) 4001 from vp_in_iff.mpr ⟨by omega, by omega⟩) ?_
          have j_86 : CI F80 (gup G80 20 (F 21).toNatClampNeg r80) := CI.g (by decide) hI80
          unfold cb_X3_waits_53
          have l_87 : (1 : Int32).toInt = 1 := rfl
          obtain ⟨k_88, e_89, e_90⟩ := i_add (F80 21) (1 : Int32)
          have j_91 : CI (fup F80 21 ((F80 21) + (1 : Int32))) (gup G80 20 (F 21).toNatClampNeg r80) := CI.rg (k := 21) (x := ((F80 21) + (1 : Int32))) rfl (by decide) (by decide) j_86 ⟨by omega, by omega⟩
          unfold cb_X3_waits_63
          refine WP.ix (show vp_in ((F80 21) + (1 : Int32)) 4001 from vp_in_iff.mpr ⟨by omega, by omega⟩) ?_
          have j_92 : CI (fup F80 21 ((F80 21) + (1 : Int32))) (gup (gup G80 20 (F 21).toNatClampNeg r80) 20 ((F80 21) + (1 : Int32)).toNatClampNeg x1) := CI.g (by decide) j_91
          unfold cb_X3_waits_73
          obtain ⟨k_93, e_94, e_95⟩ := i_add ((F80 21) + (1 : Int32)) (1 : Int32)
          have j_96 : CI (fup (fup F80 21 ((F80 21) + (1 : Int32))) 21 (((F80 21) + (1 : Int32)) + (1 : Int32))) (gup (gup G80 20 (F 21).toNatClampNeg r80) 20 ((F80 21) + (1 : Int32)).toNatClampNeg x1) := CI.rg (k := 21) (x := (((F80 21) + (1 : Int32)) + (1 : Int32))) rfl (by decide) (by decide) j_92 ⟨by omega, by omega⟩
          unfold cb_X3_waits_83
          refine WP.ret ?_
          exact ⟨j_96, (KB.f (by decide) (KB.g (by decide) (KB.f (by decide) (KB.g (by decide) (KB.tr (KB.rf : KB F G F G) hB80))))), (KT.f (by decide) (KT.f (by decide) (KT.tr (rfl : KT F F) hT80))), (KO.f (by decide) (KO.f (by decide) (KO.tr (rfl : KO F F) hO80))), trivial⟩
      · skip
        have l_97 : (44 : Int32).toInt = 44 := rfl
        have e_98 := mt i_eq.mpr (show ¬ (x1 = (44 : Int32)) from c_53)
        unfold cb_X3_waits_63
        refine WP.ix (show vp_in (F 21) 4001 from vp_in_iff.mpr ⟨by omega, by omega⟩) ?_
        have j_99 : CI F (gup G 20 (F 21).toNatClampNeg x1) := CI.g (by decide) hI
        unfold cb_X3_waits_73
        have l_100 : (1 : Int32).toInt = 1 := rfl
        obtain ⟨k_101, e_102, e_103⟩ := i_add (F 21) (1 : Int32)
        have j_104 : CI (fup F 21 ((F 21) + (1 : Int32))) (gup G 20 (F 21).toNatClampNeg x1) := CI.rg (k := 21) (x := ((F 21) + (1 : Int32))) rfl (by decide) (by decide) j_99 ⟨by omega, by omega⟩
        unfold cb_X3_waits_83
        refine WP.ret ?_
        exact ⟨j_104, (KB.f (by decide) (KB.g (by decide) (KB.rf : KB F G F G))), (KT.f (by decide) (rfl : KT F F)), (KO.f (by decide) (rfl : KO F F)), trivial⟩
  · skip
    have q_105 := hI.r 21 rfl
    have l_106 : (4000 : Int32).toInt = 4000 := rfl
    have e_107 := mt i_lt.mpr (show ¬ ((F 21) < (4000 : Int32)) from c_1)
    unfold cb_X3_waits_10
    refine WP.ret ?_
    exact ⟨hI, (KB.rf : KB F G F G), (rfl : KT F F), (rfl : KO F F), trivial⟩
theorem cs_X3_isAhead {fu : Nat} (hfu : 8589934592 ≤ fu) (x0 : Int32) (F : PF) (G : PG) (hI : CI F G) : WP (cf_X3_isAhead fu x0 F G) (fun r' F' G' => F = F' ∧ G = G' ∧ (r' = 0 ∨ r' = 1)) := by
  unfold cf_X3_isAhead
  unfold cb_X3_isAhead_0
  refine WP.ite (fun c_1 => ?_) (fun c_1 => ?_)
  · skip
    have q_2 := i_rng x0
    have l_3 : (58 : Int32).toInt = 58 := rfl
    have e_4 := i_eq.mp (show x0 = (58 : Int32) from c_1)
    unfold cb_X3_isAhead_18
    unfold cb_X3_isAhead_23
    have l_5 : (1 : Int32).toInt = 1 := rfl
    refine WP.bz (show (1 : Int32) = 0 ∨ (1 : Int32) = 1 from (by decide)) ?_
    refine WP.ret ?_
    exact ⟨rfl, rfl, (by decide)⟩
  · skip
    have q_6 := i_rng x0
    have l_7 : (58 : Int32).toInt = 58 := rfl
    have e_8 := mt i_eq.mpr (show ¬ (x0 = (58 : Int32)) from c_1)
    unfold cb_X3_isAhead_6
    refine WP.ite (fun c_9 => ?_) (fun c_9 => ?_)
    · skip
      have l_10 : (62 : Int32).toInt = 62 := rfl
      have e_11 := i_eq.mp (show x0 = (62 : Int32) from c_9)
      unfold cb_X3_isAhead_18
      unfold cb_X3_isAhead_23
      have l_12 : (1 : Int32).toInt = 1 := rfl
      refine WP.bz (show (1 : Int32) = 0 ∨ (1 : Int32) = 1 from (by decide)) ?_
      refine WP.ret ?_
      exact ⟨rfl, rfl, (by decide)⟩
    · skip
      have l_13 : (62 : Int32).toInt = 62 := rfl
      have e_14 := mt i_eq.mpr (show ¬ (x0 = (62 : Int32)) from c_9)
      unfold cb_X3_isAhead_12
      refine WP.ite (fun c_15 => ?_) (fun c_15 => ?_)
      · skip
        have l_16 : (63 : Int32).toInt = 63 := rfl
        have e_17 := i_eq.mp (show x0 = (63 : Int32) from c_15)
        unfold cb_X3_isAhead_18
        unfold cb_X3_isAhead_23
        have l_18 : (1 : Int32).toInt = 1 := rfl
        refine WP.bz (show (1 : Int32) = 0 ∨ (1 : Int32) = 1 from (by decide)) ?_
        refine WP.ret ?_
        exact ⟨rfl, rfl, (by decide)⟩
      · skip
        have l_19 : (63 : Int32).toInt = 63 := rfl
        have e_20 := mt i_eq.mpr (show ¬ (x0 = (63 : Int32)) from c_15)
        unfold cb_X3_isAhead_22
        unfold cb_X3_isAhead_23
        have l_21 : (0 : Int32).toInt = 0 := rfl
        refine WP.bz (show (0 : Int32) = 0 ∨ (0 : Int32) = 1 from (by decide)) ?_
        refine WP.ret ?_
        exact ⟨rfl, rfl, (by decide)⟩
def cIH1 (rc : RC) (d : Nat) : Prop := (∀ (x : Int32) (y : Int32) (F : PF) (G : PG), CI F G → 5 * (40 - (F 10).toInt) + 1 ≤ (d : Int) → WP (rc 0 x y F G) (fun r' F' G' => CI F' G' ∧ KB F G F' G' ∧ KT F F' ∧ KO F F' ∧ True)) ∧ (∀ (F : PF) (G : PG), CI F G → 5 * (40 - (F 10).toInt) + 5 ≤ (d : Int) → WP (rc 1 0 0 F G) (fun r' F' G' => CI F' G' ∧ KB F G F' G' ∧ KT F F' ∧ KO F F' ∧ True)) ∧ (∀ (x : Int32) (F : PF) (G : PG), CI F G → 5 * (40 - (F 10).toInt) + 1 ≤ (d : Int) → WP (rc 2 x 0 F G) (fun r' F' G' => CI F' G' ∧ KB F G F' G' ∧ KT F F' ∧ KO F F' ∧ True)) ∧ (∀ (F : PF) (G : PG), CI F G → 5 * (40 - (F 10).toInt) + 4 ≤ (d : Int) → WP (rc 3 0 0 F G) (fun r' F' G' => CI F' G' ∧ KB F G F' G' ∧ KT F F' ∧ KO F F' ∧ True)) ∧ (∀ (F : PF) (G : PG), CI F G → 5 * (40 - (F 10).toInt) + 2 ≤ (d : Int) → WP (rc 4 0 0 F G) (fun r' F' G' => CI F' G' ∧ KB F G F' G' ∧ KT F F' ∧ KO F F' ∧ True)) ∧ (∀ (F : PF) (G : PG), CI F G → 5 * (40 - (F 10).toInt) + 3 ≤ (d : Int) → WP (rc 5 0 0 F G) (fun r' F' G' => CI F' G' ∧ KB F G F' G' ∧ KT F F' ∧ KO F F' ∧ True))
theorem cz_X3_call_74 {fu : Nat} (hfu : 8589934592 ≤ fu) (rc : RC) {d : Nat} (ih : cIH1 rc d) {F0 : PF} {G0 : PG} (hd : 5 * (40 - (F0 10).toInt) + 1 ≤ (d + 1 : Int)) : ∀ (n : Nat) (x2 : Int32) (x3 : Int32) (x4 : Int32) (x5 : Int32) (x6 : Int32) (x7 : Int32) (F : PF) (G : PG) (hI : CI F G) (hB : KB F0 G0 F G) (hT : KT F0 F) (i_0 : (F 10).toInt = (F0 10).toInt + 1) (i_1 : 0 ≤ (F0 10).toInt) (i_2 : (F0 10).toInt < 40) (i_3 : x5.toInt = x7.toInt) (i_4 : 0 ≤ x7.toInt) (i_5 : x7.toInt ≤ 4001) (hn : (2147483647 - x7.toInt).toNat < n), WP (cl_X3_call_74 fu rc n x2 x3 x4 x5 x6 x7 F G) (fun r' F' G' => CI F' G' ∧ KB F0 G0 F' G' ∧ KT F0 F' ∧ KO F0 F' ∧ True) := by
  intro n
  induction n with
  | zero =>
    intro x2 x3 x4 x5 x6 x7 F G hI hB hT i_0 i_1 i_2 i_3 i_4 i_5 hn
    exact absurd hn (Nat.not_lt_zero _)
  | succ n ihn =>
    intro x2 x3 x4 x5 x6 x7 F G hI hB hT i_0 i_1 i_2 i_3 i_4 i_5 hn
    show WP (cb_X3_call_74 fu rc (cl_X3_call_74 fu rc n)  x2 x3 x4 x5 x6 x7 F G) _
    unfold cb_X3_call_74
    refine WP.ite (fun c_1 => ?_) (fun c_1 => ?_)
    · skip
      have l_2 : (4001 : Int32).toInt = 4001 := rfl
      have q_3 := i_rng x7
      have e_4 := i_le.mp (show (4001 : Int32) ≤ x7 from c_1)
      unfold cb_X3_call_246
      refine WP.ite (fun c_5 => ?_) (fun c_5 => ?_)
      · skip
        have q_6 := i_rng x3
        have l_7 : (0 : Int32).toInt = 0 := rfl
        have e_8 := i_eq.mp (show x3 = (0 : Int32) from c_5)
        unfold cb_X3_call_280
        have l_9 : (20 : Int32).toInt = 20 := rfl
        have q_10 := hI.r 10 rfl
        refine WP.bind (cs_X2_closesWith hfu (20 : Int32) F G hI (show 1 ≤ (F 10).toInt by omega)) ?_
        rintro r11 F11 G11 ⟨hI11, hB11, hT11, hp11⟩
        dsimp only
        have q_12 := hI11.r 10 rfl
        have e_13 : (F11 10).toInt = (F 10).toInt - 1 := hp11
        unfold cb_X3_call_289
        have l_14 : (90 : Int32).toInt = 90 := rfl
        have q_15 := i_rng x4
        refine WP.bind (cs_X1_addPair hfu (90 : Int32) x4 F11 G11 hI11) ?_
        rintro r16 F16 G16 ⟨hI16, hB16, hT16, hO16, hp16⟩
        dsimp only
        have q_17 := hI16.r 10 rfl
        have e_18 : (F16 10).toInt = (F11 10).toInt := hO16
        unfold cb_X3_call_300
        have q_19 := i_rng x2
        refine WP.bind (cs_X1_add hfu x2 F16 G16 hI16) ?_
        rintro r20 F20 G20 ⟨hI20, hB20, hT20, hO20, hp20⟩
        dsimp only
        have q_21 := hI20.r 10 rfl
        have e_22 : (F20 10).toInt = (F16 10).toInt := hO20
        have q_23 := hI16.r 21 rfl
        have q_24 := hI20.r 21 rfl
        have e_25 : (F20 21).toInt = (F16 21).toInt := congrArg Int32.toInt hp20
        unfold cb_X3_call_308
        refine WP.ret ?_
        have q_26 := i_rng (F0 10)
        exact ⟨hI20, (KB.tr (KB.tr (KB.tr hB hB11) hB16) hB20), (KT.tr (KT.tr (KT.tr hT hT11) hT16) hT20), (show (F20 10).toInt = (F0 10).toInt by omega), trivial⟩
      · skip
        have q_27 := i_rng x3
        have l_28 : (0 : Int32).toInt = 0 := rfl
        have e_29 := mt i_eq.mpr (show ¬ (x3 = (0 : Int32)) from c_5)
        unfold cb_X3_call_250
        have q_30 := i_rng x4
        have q_31 := i_rng x5
        refine WP.bind (cs_X8_formalKind hfu x4 x5 F G hI (show x5.toInt ≤ 4001 by omega)) ?_
        rintro r32 _ _ ⟨rfl, rfl, hp32⟩
        dsimp only
        unfold cb_X3_call_261
        refine WP.ite (fun c_33 => ?_) (fun c_33 => ?_)
        · skip
          have q_34 := i_rng r32
          have l_35 : (-1 : Int32).toInt = -1 := rfl
          have e_36 := i_eq.mp (show r32 = (-1 : Int32) from c_33)
          unfold cb_X3_call_280
          have l_37 : (20 : Int32).toInt = 20 := rfl
          have q_38 := hI.r 10 rfl
          refine WP.bind (cs_X2_closesWith hfu (20 : Int32) F G hI (show 1 ≤ (F 10).toInt by omega)) ?_
          rintro r39 F39 G39 ⟨hI39, hB39, hT39, hp39⟩
          dsimp only
          have q_40 := hI39.r 10 rfl
          have e_41 : (F39 10).toInt = (F 10).toInt - 1 := hp39
          unfold cb_X3_call_289
          have l_42 : (90 : Int32).toInt = 90 := rfl
          refine WP.bind (cs_X1_addPair hfu (90 : Int32) x4 F39 G39 hI39) ?_
          rintro r43 F43 G43 ⟨hI43, hB43, hT43, hO43, hp43⟩
          dsimp only
          have q_44 := hI43.r 10 rfl
          have e_45 : (F43 10).toInt = (F39 10).toInt := hO43
          unfold cb_X3_call_300
          have q_46 := i_rng x2
          refine WP.bind (cs_X1_add hfu x2 F43 G43 hI43) ?_
          rintro r47 F47 G47 ⟨hI47, hB47, hT47, hO47, hp47⟩
          dsimp only
          have q_48 := hI47.r 10 rfl
          have e_49 : (F47 10).toInt = (F43 10).toInt := hO47
          have q_50 := hI43.r 21 rfl
          have q_51 := hI47.r 21 rfl
          have e_52 : (F47 21).toInt = (F43 21).toInt := congrArg Int32.toInt hp47
          unfold cb_X3_call_308
          refine WP.ret ?_
          have q_53 := i_rng (F0 10)
          exact ⟨hI47, (KB.tr (KB.tr (KB.tr hB hB39) hB43) hB47), (KT.tr (KT.tr (KT.tr hT hT39) hT43) hT47), (show (F47 10).toInt = (F0 10).toInt by omega), trivial⟩
        · skip
          have q_54 := i_rng r32
          have l_55 : (-1 : Int32).toInt = -1 := rfl
          have e_56 := mt i_eq.mpr (show ¬ (r32 = (-1 : Int32)) from c_33)
          unfold cb_X3_call_265
          have l_57 : (2 : Int32).toInt = 2 := rfl
          have q_58 := i_rng (F 13)
          refine WP.bind (cs_X5_note hfu (2 : Int32) (F 13) F G hI) ?_
          rintro r59 F59 G59 ⟨hI59, hB59, hT59, hO59, hp59⟩
          dsimp only
          have q_60 := hI.r 10 rfl
          have q_61 := hI59.r 10 rfl
          have e_62 : (F59 10).toInt = (F 10).toInt := hO59
          unfold cb_X3_call_280
          have l_63 : (20 : Int32).toInt = 20 := rfl
          refine WP.bind (cs_X2_closesWith hfu (20 : Int32) F59 G59 hI59 (show 1 ≤ (F59 10).toInt by omega)) ?_
          rintro r64 F64 G64 ⟨hI64, hB64, hT64, hp64⟩
          dsimp only
          have q_65 := hI64.r 10 rfl
          have e_66 : (F64 10).toInt = (F59 10).toInt - 1 := hp64
          unfold cb_X3_call_289
          have l_67 : (90 : Int32).toInt = 90 := rfl
          refine WP.bind (cs_X1_addPair hfu (90 : Int32) x4 F64 G64 hI64) ?_
          rintro r68 F68 G68 ⟨hI68, hB68, hT68, hO68, hp68⟩
          dsimp only
          have q_69 := hI68.r 10 rfl
          have e_70 : (F68 10).toInt = (F64 10).toInt := hO68
          unfold cb_X3_call_300
          have q_71 := i_rng x2
          refine WP.bind (cs_X1_add hfu x2 F68 G68 hI68) ?_
          rintro r72 F72 G72 ⟨hI72, hB72, hT72, hO72, hp72⟩
          dsimp only
          have q_73 := hI72.r 10 rfl
          have e_74 : (F72 10).toInt = (F68 10).toInt := hO72
          have q_75 := hI68.r 21 rfl
          have q_76 := hI72.r 21 rfl
          have e_77 : (F72 21).toInt = (F68 21).toInt := congrArg Int32.toInt hp72
          unfold cb_X3_call_308
          refine WP.ret ?_
          have q_78 := i_rng (F0 10)
          exact ⟨hI72, (KB.tr (KB.tr (KB.tr (KB.tr hB hB59) hB64) hB68) hB72), (KT.tr (KT.tr (KT.tr (KT.tr hT hT59) hT64) hT68) hT72), (show (F72 10).toInt = (F0 10).toInt by omega), trivial⟩
    · skip
      have l_79 : (4001 : Int32).toInt = 4001 := rfl
      have q_80 := i_rng x7
      have e_81 := mt i_le.mpr (show ¬ ((4001 : Int32) ≤ x7) from c_1)
      unfold cb_X3_call_82
      refine WP.ite (fun c_82 => ?_) (fun c_82 => ?_)
      · skip
        have q_83 := i_rng x6
        have l_84 : (0 : Int32).toInt = 0 := rfl
        have e_85 := i_eq.mp (show x6 = (0 : Int32) from c_82)
        unfold cb_X3_call_246
        refine WP.ite (fun c_86 => ?_) (fun c_86 => ?_)
        · skip
          have q_87 := i_rng x3
          have e_88 := i_eq.mp (show x3 = (0 : Int32) from c_86)
          unfold cb_X3_call_280
          have l_89 : (20 : Int32).toInt = 20 := rfl
          have q_90 := hI.r 10 rfl
          refine WP.bind (cs_X2_closesWith hfu (20 : Int32) F G hI (show 1 ≤ (F 10).toInt by omega)) ?_
          rintro r91 F91 G91 ⟨hI91, hB91, hT91, hp91⟩
          dsimp only
          have q_92 := hI91.r 10 rfl
          have e_93 : (F91 10).toInt = (F 10).toInt - 1 := hp91
          unfold cb_X3_call_289
          have l_94 : (90 : Int32).toInt = 90 := rfl
          have q_95 := i_rng x4
          refine WP.bind (cs_X1_addPair hfu (90 : Int32) x4 F91 G91 hI91) ?_
          rintro r96 F96 G96 ⟨hI96, hB96, hT96, hO96, hp96⟩
          dsimp only
          have q_97 := hI96.r 10 rfl
          have e_98 : (F96 10).toInt = (F91 10).toInt := hO96
          unfold cb_X3_call_300
          have q_99 := i_rng x2
          refine WP.bind (cs_X1_add hfu x2 F96 G96 hI96) ?_
          rintro r100 F100 G100 ⟨hI100, hB100, hT100, hO100, hp100⟩
          dsimp only
          have q_101 := hI100.r 10 rfl
          have e_102 : (F100 10).toInt = (F96 10).toInt := hO100
          have q_103 := hI96.r 21 rfl
          have q_104 := hI100.r 21 rfl
          have e_105 : (F100 21).toInt = (F96 21).toInt := congrArg Int32.toInt hp100
          unfold cb_X3_call_308
          refine WP.ret ?_
          have q_106 := i_rng (F0 10)
          exact ⟨hI100, (KB.tr (KB.tr (KB.tr hB hB91) hB96) hB100), (KT.tr (KT.tr (KT.tr hT hT91) hT96) hT100), (show (F100 10).toInt = (F0 10).toInt by omega), trivial⟩
        · skip
          have q_107 := i_rng x3
          have e_108 := mt i_eq.mpr (show ¬ (x3 = (0 : Int32)) from c_86)
          unfold cb_X3_call_250
          have q_109 := i_rng x4
          have q_110 := i_rng x5
          refine WP.bind (cs_X8_formalKind hfu x4 x5 F G hI (show x5.toInt ≤ 4001 by omega)) ?_
          rintro r111 _ _ ⟨rfl, rfl, hp111⟩
          dsimp only
          unfold cb_X3_call_261
          refine WP.ite (fun c_112 => ?_) (fun c_112 => ?_)
          · skip
            have q_113 := i_rng r111
            have l_114 : (-1 : Int32).toInt = -1 := rfl
            have e_115 := i_eq.mp (show r111 = (-1 : Int32) from c_112)
            unfold cb_X3_call_280
            have l_116 : (20 : Int32).toInt = 20 := rfl
            have q_117 := hI.r 10 rfl
            refine WP.bind (cs_X2_closesWith hfu (20 : Int32) F G hI (show 1 ≤ (F 10).toInt by omega)) ?_
            rintro r118 F118 G118 ⟨hI118, hB118, hT118, hp118⟩
            dsimp only
            have q_119 := hI118.r 10 rfl
            have e_120 : (F118 10).toInt = (F 10).toInt - 1 := hp118
            unfold cb_X3_call_289
            have l_121 : (90 : Int32).toInt = 90 := rfl
            refine WP.bind (cs_X1_addPair hfu (90 : Int32) x4 F118 G118 hI118) ?_
            rintro r122 F122 G122 ⟨hI122, hB122, hT122, hO122, hp122⟩
            dsimp only
            have q_123 := hI122.r 10 rfl
            have e_124 : (F122 10).toInt = (F118 10).toInt := hO122
            unfold cb_X3_call_300
            have q_125 := i_rng x2
            refine WP.bind (cs_X1_add hfu x2 F122 G122 hI122) ?_
            rintro r126 F126 G126 ⟨hI126, hB126, hT126, hO126, hp126⟩
            dsimp only
            have q_127 := hI126.r 10 rfl
            have e_128 : (F126 10).toInt = (F122 10).toInt := hO126
            have q_129 := hI122.r 21 rfl
            have q_130 := hI126.r 21 rfl
            have e_131 : (F126 21).toInt = (F122 21).toInt := congrArg Int32.toInt hp126
            unfold cb_X3_call_308
            refine WP.ret ?_
            have q_132 := i_rng (F0 10)
            exact ⟨hI126, (KB.tr (KB.tr (KB.tr hB hB118) hB122) hB126), (KT.tr (KT.tr (KT.tr hT hT118) hT122) hT126), (show (F126 10).toInt = (F0 10).toInt by omega), trivial⟩
          · skip
            have q_133 := i_rng r111
            have l_134 : (-1 : Int32).toInt = -1 := rfl
            have e_135 := mt i_eq.mpr (show ¬ (r111 = (-1 : Int32)) from c_112)
            unfold cb_X3_call_265
            have l_136 : (2 : Int32).toInt = 2 := rfl
            have q_137 := i_rng (F 13)
            refine WP.bind (cs_X5_note hfu (2 : Int32) (F 13) F G hI) ?_
            rintro r138 F138 G138 ⟨hI138, hB138, hT138, hO138, hp138⟩
            dsimp only
            have q_139 := hI.r 10 rfl
            have q_140 := hI138.r 10 rfl
            have e_141 : (F138 10).toInt = (F 10).toInt := hO138
            unfold cb_X3_call_280
            have l_142 : (20 : Int32).toInt = 20 := rfl
            refine WP.bind (cs_X2_closesWith hfu (20 : Int32) F138 G138 hI138 (show 1 ≤ (F138 10).toInt by omega)) ?_
            rintro r143 F143 G143 ⟨hI143, hB143, hT143, hp143⟩
            dsimp only
            have q_144 := hI143.r 10 rfl
            have e_145 : (F143 10).toInt = (F138 10).toInt - 1 := hp143
            unfold cb_X3_call_289
            have l_146 : (90 : Int32).toInt = 90 := rfl
            refine WP.bind (cs_X1_addPair hfu (90 : Int32) x4 F143 G143 hI143) ?_
            rintro r147 F147 G147 ⟨hI147, hB147, hT147, hO147, hp147⟩
            dsimp only
            have q_148 := hI147.r 10 rfl
            have e_149 : (F147 10).toInt = (F143 10).toInt := hO147
            unfold cb_X3_call_300
            have q_150 := i_rng x2
            refine WP.bind (cs_X1_add hfu x2 F147 G147 hI147) ?_
            rintro r151 F151 G151 ⟨hI151, hB151, hT151, hO151, hp151⟩
            dsimp only
            have q_152 := hI151.r 10 rfl
            have e_153 : (F151 10).toInt = (F147 10).toInt := hO151
            have q_154 := hI147.r 21 rfl
            have q_155 := hI151.r 21 rfl
            have e_156 : (F151 21).toInt = (F147 21).toInt := congrArg Int32.toInt hp151
            unfold cb_X3_call_308
            refine WP.ret ?_
            have q_157 := i_rng (F0 10)
            exact ⟨hI151, (KB.tr (KB.tr (KB.tr (KB.tr hB hB138) hB143) hB147) hB151), (KT.tr (KT.tr (KT.tr (KT.tr hT hT138) hT143) hT147) hT151), (show (F151 10).toInt = (F0 10).toInt by omega), trivial⟩
      · skip
        have q_158 := i_rng x6
        have l_159 : (0 : Int32).toInt = 0 := rfl
        have e_160 := mt i_eq.mpr (show ¬ (x6 = (0 : Int32)) from c_82)
        unfold cb_X3_call_87
        refine WP.ite (fun c_161 => ?_) (fun c_161 => ?_)
        · skip
          have q_162 := i_rng x3
          have e_163 := i_eq.mp (show x3 = (0 : Int32) from c_161)
          unfold cb_X3_call_105
          unfold cb_X3_call_106
          refine WP.ite (fun _ => ?_) (fun c_164 => absurd (by decide) c_164)
          unfold cb_X3_call_181
          refine WP.ite (fun _ => ?_) (fun c_165 => absurd (by decide) c_165)
          unfold cb_X3_call_202
          have q_166 := hI.r 10 rfl
          refine WP.bind (ih.2.1 F G hI (by omega)) ?_
          rintro r167 F167 G167 ⟨hI167, hB167, hT167, hO167, hp167⟩
          dsimp only
          have q_168 := hI167.r 10 rfl
          have e_169 : (F167 10).toInt = (F 10).toInt := hO167
          unfold cb_X3_call_206
          refine WP.ite (fun c_170 => ?_) (fun c_170 => ?_)
          · skip
            have q_171 := i_rng (F167 11)
            have l_172 : (25 : Int32).toInt = 25 := rfl
            have e_173 := i_eq.mp (show (F167 11) = (25 : Int32) from c_170)
            unfold cb_X3_call_221
            unfold cb_X3_call_226
            refine WP.ite (fun c_174 => absurd c_174 (by decide)) (fun _ => ?_)
            unfold cb_X3_call_233
            refine WP.bind (cs_X2_next hfu F167 G167 hI167) ?_
            rintro r175 F175 G175 ⟨hI175, hB175, hT175, hO175, hp175⟩
            dsimp only
            have q_176 := hI175.r 10 rfl
            have e_177 : (F175 10).toInt = (F167 10).toInt := hO175
            unfold cb_X3_call_240
            have q_178 := i_rng x2
            have q_179 := i_rng x4
            have q_180 := i_rng x5
            have l_181 : (1 : Int32).toInt = 1 := rfl
            obtain ⟨k_182, e_183, e_184⟩ := i_add x5 (1 : Int32)
            obtain ⟨k_185, e_186, e_187⟩ := i_add x7 (1 : Int32)
            exact ihn x2 x3 x4 (x5 + (1 : Int32)) (1 : Int32) (x7 + (1 : Int32)) F175 G175 hI175 (KB.tr (KB.tr hB hB167) hB175) (KT.tr (KT.tr hT hT167) hT175) (show (F175 10).toInt = (F0 10).toInt + 1 by omega) (show 0 ≤ (F0 10).toInt by omega) (show (F0 10).toInt < 40 by omega) (show (x5 + (1 : Int32)).toInt = (x7 + (1 : Int32)).toInt by omega) (show 0 ≤ (x7 + (1 : Int32)).toInt by omega) (show (x7 + (1 : Int32)).toInt ≤ 4001 by omega) (by omega)
          · skip
            have q_188 := i_rng (F167 11)
            have l_189 : (25 : Int32).toInt = 25 := rfl
            have e_190 := mt i_eq.mpr (show ¬ ((F167 11) = (25 : Int32)) from c_170)
            unfold cb_X3_call_225
            unfold cb_X3_call_226
            refine WP.ite (fun _ => ?_) (fun c_191 => absurd (by decide) c_191)
            unfold cb_X3_call_240
            have q_192 := i_rng x2
            have q_193 := i_rng x4
            have q_194 := i_rng x5
            have l_195 : (1 : Int32).toInt = 1 := rfl
            obtain ⟨k_196, e_197, e_198⟩ := i_add x5 (1 : Int32)
            obtain ⟨k_199, e_200, e_201⟩ := i_add x7 (1 : Int32)
            exact ihn x2 x3 x4 (x5 + (1 : Int32)) (0 : Int32) (x7 + (1 : Int32)) F167 G167 hI167 (KB.tr hB hB167) (KT.tr hT hT167) (show (F167 10).toInt = (F0 10).toInt + 1 by omega) (show 0 ≤ (F0 10).toInt by omega) (show (F0 10).toInt < 40 by omega) (show (x5 + (1 : Int32)).toInt = (x7 + (1 : Int32)).toInt by omega) (show 0 ≤ (x7 + (1 : Int32)).toInt by omega) (show (x7 + (1 : Int32)).toInt ≤ 4001 by omega) (by omega)
        · skip
          have q_202 := i_rng x3
          have e_203 := mt i_eq.mpr (show ¬ (x3 = (0 : Int32)) from c_161)
          unfold cb_X3_call_91
          have q_204 := i_rng x4
          refine WP.bind (cs_X8_formalKind hfu x4 x7 F G hI (show x7.toInt ≤ 4001 by omega)) ?_
          rintro r205 _ _ ⟨rfl, rfl, hp205⟩
          dsimp only
          unfold cb_X3_call_102
          unfold cb_X3_call_106
          refine WP.ite (fun c_206 => ?_) (fun c_206 => ?_)
          · skip
            have q_207 := i_rng r205
            have l_208 : (1 : Int32).toInt = 1 := rfl
            have e_209 := i_le.mp (show r205 ≤ (1 : Int32) from c_206)
            unfold cb_X3_call_181
            refine WP.ite (fun c_210 => ?_) (fun c_210 => ?_)
            · skip
              have e_211 := i_eq.mp (show r205 = (1 : Int32) from c_210)
              unfold cb_X3_call_202
              have q_212 := hI.r 10 rfl
              refine WP.bind (ih.2.1 F G hI (by omega)) ?_
              rintro r213 F213 G213 ⟨hI213, hB213, hT213, hO213, hp213⟩
              dsimp only
              have q_214 := hI213.r 10 rfl
              have e_215 : (F213 10).toInt = (F 10).toInt := hO213
              unfold cb_X3_call_206
              refine WP.ite (fun c_216 => ?_) (fun c_216 => ?_)
              · skip
                have q_217 := i_rng (F213 11)
                have l_218 : (25 : Int32).toInt = 25 := rfl
                have e_219 := i_eq.mp (show (F213 11) = (25 : Int32) from c_216)
                unfold cb_X3_call_221
                unfold cb_X3_call_226
                refine WP.ite (fun c_220 => absurd c_220 (by decide)) (fun _ => ?_)
                unfold cb_X3_call_233
                refine WP.bind (cs_X2_next hfu F213 G213 hI213) ?_
                rintro r221 F221 G221 ⟨hI221, hB221, hT221, hO221, hp221⟩
                dsimp only
                have q_222 := hI221.r 10 rfl
                have e_223 : (F221 10).toInt = (F213 10).toInt := hO221
                unfold cb_X3_call_240
                have q_224 := i_rng x2
                have q_225 := i_rng x5
                obtain ⟨k_226, e_227, e_228⟩ := i_add x5 (1 : Int32)
                obtain ⟨k_229, e_230, e_231⟩ := i_add x7 (1 : Int32)
                exact ihn x2 x3 x4 (x5 + (1 : Int32)) (1 : Int32) (x7 + (1 : Int32)) F221 G221 hI221 (KB.tr (KB.tr hB hB213) hB221) (KT.tr (KT.tr hT hT213) hT221) (show (F221 10).toInt = (F0 10).toInt + 1 by omega) (show 0 ≤ (F0 10).toInt by omega) (show (F0 10).toInt < 40 by omega) (show (x5 + (1 : Int32)).toInt = (x7 + (1 : Int32)).toInt by omega) (show 0 ≤ (x7 + (1 : Int32)).toInt by omega) (show (x7 + (1 : Int32)).toInt ≤ 4001 by omega) (by omega)
              · skip
                have q_232 := i_rng (F213 11)
                have l_233 : (25 : Int32).toInt = 25 := rfl
                have e_234 := mt i_eq.mpr (show ¬ ((F213 11) = (25 : Int32)) from c_216)
                unfold cb_X3_call_225
                unfold cb_X3_call_226
                refine WP.ite (fun _ => ?_) (fun c_235 => absurd (by decide) c_235)
                unfold cb_X3_call_240
                have q_236 := i_rng x2
                have q_237 := i_rng x5
                obtain ⟨k_238, e_239, e_240⟩ := i_add x5 (1 : Int32)
                obtain ⟨k_241, e_242, e_243⟩ := i_add x7 (1 : Int32)
                exact ihn x2 x3 x4 (x5 + (1 : Int32)) (0 : Int32) (x7 + (1 : Int32)) F213 G213 hI213 (KB.tr hB hB213) (KT.tr hT hT213) (show (F213 10).toInt = (F0 10).toInt + 1 by omega) (show 0 ≤ (F0 10).toInt by omega) (show (F0 10).toInt < 40 by omega) (show (x5 + (1 : Int32)).toInt = (x7 + (1 : Int32)).toInt by omega) (show 0 ≤ (x7 + (1 : Int32)).toInt by omega) (show (x7 + (1 : Int32)).toInt ≤ 4001 by omega) (by omega)
            · skip
              have e_244 := mt i_eq.mpr (show ¬ (r205 = (1 : Int32)) from c_210)
              unfold cb_X3_call_187
              have l_245 : (2 : Int32).toInt = 2 := rfl
              have q_246 := i_rng (F 13)
              refine WP.bind (cs_X5_note hfu (2 : Int32) (F 13) F G hI) ?_
              rintro r247 F247 G247 ⟨hI247, hB247, hT247, hO247, hp247⟩
              dsimp only
              have q_248 := hI.r 10 rfl
              have q_249 := hI247.r 10 rfl
              have e_250 : (F247 10).toInt = (F 10).toInt := hO247
              unfold cb_X3_call_202
              refine WP.bind (ih.2.1 F247 G247 hI247 (by omega)) ?_
              rintro r251 F251 G251 ⟨hI251, hB251, hT251, hO251, hp251⟩
              dsimp only
              have q_252 := hI251.r 10 rfl
              have e_253 : (F251 10).toInt = (F247 10).toInt := hO251
              unfold cb_X3_call_206
              refine WP.ite (fun c_254 => ?_) (fun c_254 => ?_)
              · skip
                have q_255 := i_rng (F251 11)
                have l_256 : (25 : Int32).toInt = 25 := rfl
                have e_257 := i_eq.mp (show (F251 11) = (25 : Int32) from c_254)
                unfold cb_X3_call_221
                unfold cb_X3_call_226
                refine WP.ite (fun c_258 => absurd c_258 (by decide)) (fun _ => ?_)
                unfold cb_X3_call_233
                refine WP.bind (cs_X2_next hfu F251 G251 hI251) ?_
                rintro r259 F259 G259 ⟨hI259, hB259, hT259, hO259, hp259⟩
                dsimp only
                have q_260 := hI259.r 10 rfl
                have e_261 : (F259 10).toInt = (F251 10).toInt := hO259
                unfold cb_X3_call_240
                have q_262 := i_rng x2
                have q_263 := i_rng x5
                obtain ⟨k_264, e_265, e_266⟩ := i_add x5 (1 : Int32)
                obtain ⟨k_267, e_268, e_269⟩ := i_add x7 (1 : Int32)
                exact ihn x2 x3 x4 (x5 + (1 : Int32)) (1 : Int32) (x7 + (1 : Int32)) F259 G259 hI259 (KB.tr (KB.tr (KB.tr hB hB247) hB251) hB259) (KT.tr (KT.tr (KT.tr hT hT247) hT251) hT259) (show (F259 10).toInt = (F0 10).toInt + 1 by omega) (show 0 ≤ (F0 10).toInt by omega) (show (F0 10).toInt < 40 by omega) (show (x5 + (1 : Int32)).toInt = (x7 + (1 : Int32)).toInt by omega) (show 0 ≤ (x7 + (1 : Int32)).toInt by omega) (show (x7 + (1 : Int32)).toInt ≤ 4001 by omega) (by omega)
              · skip
                have q_270 := i_rng (F251 11)
                have l_271 : (25 : Int32).toInt = 25 := rfl
                have e_272 := mt i_eq.mpr (show ¬ ((F251 11) = (25 : Int32)) from c_254)
                unfold cb_X3_call_225
                unfold cb_X3_call_226
                refine WP.ite (fun _ => ?_) (fun c_273 => absurd (by decide) c_273)
                unfold cb_X3_call_240
                have q_274 := i_rng x2
                have q_275 := i_rng x5
                obtain ⟨k_276, e_277, e_278⟩ := i_add x5 (1 : Int32)
                obtain ⟨k_279, e_280, e_281⟩ := i_add x7 (1 : Int32)
                exact ihn x2 x3 x4 (x5 + (1 : Int32)) (0 : Int32) (x7 + (1 : Int32)) F251 G251 hI251 (KB.tr (KB.tr hB hB247) hB251) (KT.tr (KT.tr hT hT247) hT251) (show (F251 10).toInt = (F0 10).toInt + 1 by omega) (show 0 ≤ (F0 10).toInt by omega) (show (F0 10).toInt < 40 by omega) (show (x5 + (1 : Int32)).toInt = (x7 + (1 : Int32)).toInt by omega) (show 0 ≤ (x7 + (1 : Int32)).toInt by omega) (show (x7 + (1 : Int32)).toInt ≤ 4001 by omega) (by omega)
          · skip
            have q_282 := i_rng r205
            have l_283 : (1 : Int32).toInt = 1 := rfl
            have e_284 := mt i_le.mpr (show ¬ (r205 ≤ (1 : Int32)) from c_206)
            unfold cb_X3_call_114
            refine WP.bind (cs_X2_isNameAlone hfu F G hI) ?_
            rintro r285 _ _ ⟨rfl, rfl, hp285⟩
            dsimp only
            have q_286 := b_rng hp285
            unfold cb_X3_call_121
            refine WP.ite (fun c_287 => ?_) (fun c_287 => ?_)
            · skip
              have e_288 := i_eq.mp (show r285 = (0 : Int32) from c_287)
              unfold cb_X3_call_181
              refine WP.ite (fun c_289 => ?_) (fun c_289 => ?_)
              · skip
                have e_290 := i_eq.mp (show r205 = (1 : Int32) from c_289)
                unfold cb_X3_call_202
                have q_291 := hI.r 10 rfl
                refine WP.bind (ih.2.1 F G hI (by omega)) ?_
                rintro r292 F292 G292 ⟨hI292, hB292, hT292, hO292, hp292⟩
                dsimp only
                have q_293 := hI292.r 10 rfl
                have e_294 : (F292 10).toInt = (F 10).toInt := hO292
                unfold cb_X3_call_206
                refine WP.ite (fun c_295 => ?_) (fun c_295 => ?_)
                · skip
                  have q_296 := i_rng (F292 11)
                  have l_297 : (25 : Int32).toInt = 25 := rfl
                  have e_298 := i_eq.mp (show (F292 11) = (25 : Int32) from c_295)
                  unfold cb_X3_call_221
                  unfold cb_X3_call_226
                  refine WP.ite (fun c_299 => absurd c_299 (by decide)) (fun _ => ?_)
                  unfold cb_X3_call_233
                  refine WP.bind (cs_X2_next hfu F292 G292 hI292) ?_
                  rintro r300 F300 G300 ⟨hI300, hB300, hT300, hO300, hp300⟩
                  dsimp only
                  have q_301 := hI300.r 10 rfl
                  have e_302 : (F300 10).toInt = (F292 10).toInt := hO300
                  unfold cb_X3_call_240
                  have q_303 := i_rng x2
                  have q_304 := i_rng x5
                  obtain ⟨k_305, e_306, e_307⟩ := i_add x5 (1 : Int32)
                  obtain ⟨k_308, e_309, e_310⟩ := i_add x7 (1 : Int32)
                  exact ihn x2 x3 x4 (x5 + (1 : Int32)) (1 : Int32) (x7 + (1 : Int32)) F300 G300 hI300 (KB.tr (KB.tr hB hB292) hB300) (KT.tr (KT.tr hT hT292) hT300) (show (F300 10).toInt = (F0 10).toInt + 1 by omega) (show 0 ≤ (F0 10).toInt by omega) (show (F0 10).toInt < 40 by omega) (show (x5 + (1 : Int32)).toInt = (x7 + (1 : Int32)).toInt by omega) (show 0 ≤ (x7 + (1 : Int32)).toInt by omega) (show (x7 + (1 : Int32)).toInt ≤ 4001 by omega) (by omega)
                · skip
                  have q_311 := i_rng (F292 11)
                  have l_312 : (25 : Int32).toInt = 25 := rfl
                  have e_313 := mt i_eq.mpr (show ¬ ((F292 11) = (25 : Int32)) from c_295)
                  unfold cb_X3_call_225
                  unfold cb_X3_call_226
                  refine WP.ite (fun _ => ?_) (fun c_314 => absurd (by decide) c_314)
                  unfold cb_X3_call_240
                  have q_315 := i_rng x2
                  have q_316 := i_rng x5
                  obtain ⟨k_317, e_318, e_319⟩ := i_add x5 (1 : Int32)
                  obtain ⟨k_320, e_321, e_322⟩ := i_add x7 (1 : Int32)
                  exact ihn x2 x3 x4 (x5 + (1 : Int32)) (0 : Int32) (x7 + (1 : Int32)) F292 G292 hI292 (KB.tr hB hB292) (KT.tr hT hT292) (show (F292 10).toInt = (F0 10).toInt + 1 by omega) (show 0 ≤ (F0 10).toInt by omega) (show (F0 10).toInt < 40 by omega) (show (x5 + (1 : Int32)).toInt = (x7 + (1 : Int32)).toInt by omega) (show 0 ≤ (x7 + (1 : Int32)).toInt by omega) (show (x7 + (1 : Int32)).toInt ≤ 4001 by omega) (by omega)
              · skip
                have e_323 := mt i_eq.mpr (show ¬ (r205 = (1 : Int32)) from c_289)
                unfold cb_X3_call_187
                have l_324 : (2 : Int32).toInt = 2 := rfl
                have q_325 := i_rng (F 13)
                refine WP.bind (cs_X5_note hfu (2 : Int32) (F 13) F G hI) ?_
                rintro r326 F326 G326 ⟨hI326, hB326, hT326, hO326, hp326⟩
                dsimp only
                have q_327 := hI.r 10 rfl
                have q_328 := hI326.r 10 rfl
                have e_329 : (F326 10).toInt = (F 10).toInt := hO326
                unfold cb_X3_call_202
                refine WP.bind (ih.2.1 F326 G326 hI326 (by omega)) ?_
                rintro r330 F330 G330 ⟨hI330, hB330, hT330, hO330, hp330⟩
                dsimp only
                have q_331 := hI330.r 10 rfl
                have e_332 : (F330 10).toInt = (F326 10).toInt := hO330
                unfold cb_X3_call_206
                refine WP.ite (fun c_333 => ?_) (fun c_333 => ?_)
                · skip
                  have q_334 := i_rng (F330 11)
                  have l_335 : (25 : Int32).toInt = 25 := rfl
                  have e_336 := i_eq.mp (show (F330 11) = (25 : Int32) from c_333)
                  unfold cb_X3_call_221
                  unfold cb_X3_call_226
                  refine WP.ite (fun c_337 => absurd c_337 (by decide)) (fun _ => ?_)
                  unfold cb_X3_call_233
                  refine WP.bind (cs_X2_next hfu F330 G330 hI330) ?_
                  rintro r338 F338 G338 ⟨hI338, hB338, hT338, hO338, hp338⟩
                  dsimp only
                  have q_339 := hI338.r 10 rfl
                  have e_340 : (F338 10).toInt = (F330 10).toInt := hO338
                  unfold cb_X3_call_240
                  have q_341 := i_rng x2
                  have q_342 := i_rng x5
                  obtain ⟨k_343, e_344, e_345⟩ := i_add x5 (1 : Int32)
                  obtain ⟨k_346, e_347, e_348⟩ := i_add x7 (1 : Int32)
                  exact ihn x2 x3 x4 (x5 + (1 : Int32)) (1 : Int32) (x7 + (1 : Int32)) F338 G338 hI338 (KB.tr (KB.tr (KB.tr hB hB326) hB330) hB338) (KT.tr (KT.tr (KT.tr hT hT326) hT330) hT338) (show (F338 10).toInt = (F0 10).toInt + 1 by omega) (show 0 ≤ (F0 10).toInt by omega) (show (F0 10).toInt < 40 by omega) (show (x5 + (1 : Int32)).toInt = (x7 + (1 : Int32)).toInt by omega) (show 0 ≤ (x7 + (1 : Int32)).toInt by omega) (show (x7 + (1 : Int32)).toInt ≤ 4001 by omega) (by omega)
                · skip
                  have q_349 := i_rng (F330 11)
                  have l_350 : (25 : Int32).toInt = 25 := rfl
                  have e_351 := mt i_eq.mpr (show ¬ ((F330 11) = (25 : Int32)) from c_333)
                  unfold cb_X3_call_225
                  unfold cb_X3_call_226
                  refine WP.ite (fun _ => ?_) (fun c_352 => absurd (by decide) c_352)
                  unfold cb_X3_call_240
                  have q_353 := i_rng x2
                  have q_354 := i_rng x5
                  obtain ⟨k_355, e_356, e_357⟩ := i_add x5 (1 : Int32)
                  obtain ⟨k_358, e_359, e_360⟩ := i_add x7 (1 : Int32)
                  exact ihn x2 x3 x4 (x5 + (1 : Int32)) (0 : Int32) (x7 + (1 : Int32)) F330 G330 hI330 (KB.tr (KB.tr hB hB326) hB330) (KT.tr (KT.tr hT hT326) hT330) (show (F330 10).toInt = (F0 10).toInt + 1 by omega) (show 0 ≤ (F0 10).toInt by omega) (show (F0 10).toInt < 40 by omega) (show (x5 + (1 : Int32)).toInt = (x7 + (1 : Int32)).toInt by omega) (show 0 ≤ (x7 + (1 : Int32)).toInt by omega) (show (x7 + (1 : Int32)).toInt ≤ 4001 by omega) (by omega)
            · skip
              have e_361 := mt i_eq.mpr (show ¬ (r285 = (0 : Int32)) from c_287)
              unfold cb_X3_call_124
              have q_362 := i_rng (F 12)
              have q_363 := i_rng (F 13)
              refine WP.bind (cs_X5_meant hfu (F 12) (F 13) F G hI) ?_
              rintro r364 F364 G364 ⟨hI364, hB364, hT364, hO364, hp364⟩
              dsimp only
              have q_365 := hI.r 10 rfl
              have q_366 := hI364.r 10 rfl
              have e_367 : (F364 10).toInt = (F 10).toInt := hO364
              unfold cb_X3_call_145
              have q_368 := i_rng r364
              have q_369 := i_rng (F364 13)
              refine WP.bind (cs_X5_wantArray hfu r364 (F364 13) r205 F364 G364 hI364) ?_
              rintro r370 F370 G370 ⟨hI370, hB370, hT370, hO370, hp370⟩
              dsimp only
              have q_371 := hI370.r 10 rfl
              have e_372 : (F370 10).toInt = (F364 10).toInt := hO370
              unfold cb_X3_call_165
              refine WP.bind (cs_X3_pass hfu r364 F370 G370 hI370) ?_
              rintro r373 F373 G373 ⟨hI373, hB373, hT373, hO373, hp373⟩
              dsimp only
              have q_374 := hI373.r 10 rfl
              have e_375 : (F373 10).toInt = (F370 10).toInt := hO373
              unfold cb_X3_call_171
              refine WP.bind (cs_X2_next hfu F373 G373 hI373) ?_
              rintro r376 F376 G376 ⟨hI376, hB376, hT376, hO376, hp376⟩
              dsimp only
              have q_377 := hI376.r 10 rfl
              have e_378 : (F376 10).toInt = (F373 10).toInt := hO376
              unfold cb_X3_call_178
              unfold cb_X3_call_206
              refine WP.ite (fun c_379 => ?_) (fun c_379 => ?_)
              · skip
                have q_380 := i_rng (F376 11)
                have l_381 : (25 : Int32).toInt = 25 := rfl
                have e_382 := i_eq.mp (show (F376 11) = (25 : Int32) from c_379)
                unfold cb_X3_call_221
                unfold cb_X3_call_226
                refine WP.ite (fun c_383 => absurd c_383 (by decide)) (fun _ => ?_)
                unfold cb_X3_call_233
                refine WP.bind (cs_X2_next hfu F376 G376 hI376) ?_
                rintro r384 F384 G384 ⟨hI384, hB384, hT384, hO384, hp384⟩
                dsimp only
                have q_385 := hI384.r 10 rfl
                have e_386 : (F384 10).toInt = (F376 10).toInt := hO384
                unfold cb_X3_call_240
                have q_387 := i_rng x2
                have q_388 := i_rng x5
                obtain ⟨k_389, e_390, e_391⟩ := i_add x5 (1 : Int32)
                obtain ⟨k_392, e_393, e_394⟩ := i_add x7 (1 : Int32)
                exact ihn x2 x3 x4 (x5 + (1 : Int32)) (1 : Int32) (x7 + (1 : Int32)) F384 G384 hI384 (KB.tr (KB.tr (KB.tr (KB.tr (KB.tr hB hB364) hB370) hB373) hB376) hB384) (KT.tr (KT.tr (KT.tr (KT.tr (KT.tr hT hT364) hT370) hT373) hT376) hT384) (show (F384 10).toInt = (F0 10).toInt + 1 by omega) (show 0 ≤ (F0 10).toInt by omega) (show (F0 10).toInt < 40 by omega) (show (x5 + (1 : Int32)).toInt = (x7 + (1 : Int32)).toInt by omega) (show 0 ≤ (x7 + (1 : Int32)).toInt by omega) (show (x7 + (1 : Int32)).toInt ≤ 4001 by omega) (by omega)
              · skip
                have q_395 := i_rng (F376 11)
                have l_396 : (25 : Int32).toInt = 25 := rfl
                have e_397 := mt i_eq.mpr (show ¬ ((F376 11) = (25 : Int32)) from c_379)
                unfold cb_X3_call_225
                unfold cb_X3_call_226
                refine WP.ite (fun _ => ?_) (fun c_398 => absurd (by decide) c_398)
                unfold cb_X3_call_240
                have q_399 := i_rng x2
                have q_400 := i_rng x5
                obtain ⟨k_401, e_402, e_403⟩ := i_add x5 (1 : Int32)
                obtain ⟨k_404, e_405, e_406⟩ := i_add x7 (1 : Int32)
                exact ihn x2 x3 x4 (x5 + (1 : Int32)) (0 : Int32) (x7 + (1 : Int32)) F376 G376 hI376 (KB.tr (KB.tr (KB.tr (KB.tr hB hB364) hB370) hB373) hB376) (KT.tr (KT.tr (KT.tr (KT.tr hT hT364) hT370) hT373) hT376) (show (F376 10).toInt = (F0 10).toInt + 1 by omega) (show 0 ≤ (F0 10).toInt by omega) (show (F0 10).toInt < 40 by omega) (show (x5 + (1 : Int32)).toInt = (x7 + (1 : Int32)).toInt by omega) (show 0 ≤ (x7 + (1 : Int32)).toInt by omega) (show (x7 + (1 : Int32)).toInt ≤ 4001 by omega) (by omega)
theorem ct_X3_call {fu d : Nat} (hfu : 8589934592 ≤ fu) (rc : RC) (ih : cIH1 rc d) (x1 : Int32) (x2 : Int32) (F : PF) (G : PG) (hI : CI F G) (hd : 5 * (40 - (F 10).toInt) + 1 ≤ (d + 1 : Int)) : WP (ch_X3_call fu rc x1 x2 F G) (fun r' F' G' => CI F' G' ∧ KB F G F' G' ∧ KT F F' ∧ KO F F' ∧ True) := by
  unfold ch_X3_call
  have q_10 := hI.r 10 rfl
  unfold cb_X3_call_0
  have q_1 := i_rng x1
  refine WP.bind (cs_X5_kind hfu x1 F G hI) ?_
  rintro r2 _ _ ⟨rfl, rfl, hp2⟩
  dsimp only
  have q_3 := i_rng r2
  unfold cb_X3_call_8
  refine WP.ite (fun c_4 => ?_) (fun c_4 => ?_)
  · skip
    have l_5 : (4 : Int32).toInt = 4 := rfl
    have e_6 := i_eq.mp (show r2 = (4 : Int32) from c_4)
    unfold cb_X3_call_12
    unfold cb_X3_call_17
    refine WP.ite (fun c_7 => absurd c_7 (by decide)) (fun _ => ?_)
    unfold cb_X3_call_22
    refine WP.bind (cs_X5_value hfu x1 F G hI) ?_
    rintro r8 _ _ ⟨rfl, rfl, hp8⟩
    dsimp only
    unfold cb_X3_call_30
    unfold cb_X3_call_34
    have l_9 : (19 : Int32).toInt = 19 := rfl
    refine WP.bind (cs_X2_opens hfu (19 : Int32) F G hI) ?_
    rintro r10 F10 G10 ⟨hI10, hB10, hT10, hp10⟩
    dsimp only
    have q_11 := b_rng (hp10.1)
    have q_12 := hI.r 10 rfl
    have q_13 := hI10.r 10 rfl
    have e_14 : r10.toInt = 1 → (F10 10).toInt = (F 10).toInt + 1 ∧ (F 10).toInt < 40 := hp10.2.1
    have e_15 : r10.toInt = 0 → (F10 10).toInt = (F 10).toInt := hp10.2.2
    unfold cb_X3_call_45
    refine WP.ite (fun c_16 => ?_) (fun c_16 => ?_)
    · skip
      have l_17 : (0 : Int32).toInt = 0 := rfl
      have e_18 := i_eq.mp (show r10 = (0 : Int32) from c_16)
      unfold cb_X3_call_48
      refine WP.ret ?_
      exact ⟨hI10, (KB.tr (KB.rf : KB F G F G) hB10), (KT.tr (rfl : KT F F) hT10), (show (F10 10).toInt = (F 10).toInt by omega), trivial⟩
    · skip
      have l_19 : (0 : Int32).toInt = 0 := rfl
      have e_20 := mt i_eq.mpr (show ¬ (r10 = (0 : Int32)) from c_16)
      unfold cb_X3_call_49
      refine WP.ite (fun c_21 => ?_) (fun c_21 => ?_)
      · skip
        have q_22 := i_rng (F10 11)
        have l_23 : (20 : Int32).toInt = 20 := rfl
        have e_24 := i_eq.mp (show (F10 11) = (20 : Int32) from c_21)
        unfold cb_X3_call_68
        unfold cb_X3_call_69
        have q_25 := i_rng x2
        have l_26 : (1 : Int32).toInt = 1 := rfl
        have q_27 := i_rng r8
        exact cz_X3_call_74 (F0 := F) (G0 := G) hfu rc ih hd fu x2 (1 : Int32) r8 (0 : Int32) (0 : Int32) (0 : Int32) F10 G10 hI10 (KB.tr (KB.rf : KB F G F G) hB10) (KT.tr (rfl : KT F F) hT10) (show (F10 10).toInt = (F 10).toInt + 1 by omega) (show 0 ≤ (F 10).toInt by omega) (show (F 10).toInt < 40 by omega) (show (0 : Int32).toInt = (0 : Int32).toInt by omega) (show 0 ≤ (0 : Int32).toInt by omega) (show (0 : Int32).toInt ≤ 4001 by omega) (by omega)
      · skip
        have q_28 := i_rng (F10 11)
        have l_29 : (20 : Int32).toInt = 20 := rfl
        have e_30 := mt i_eq.mpr (show ¬ ((F10 11) = (20 : Int32)) from c_21)
        unfold cb_X3_call_64
        unfold cb_X3_call_69
        have q_31 := i_rng x2
        have l_32 : (1 : Int32).toInt = 1 := rfl
        have q_33 := i_rng r8
        exact cz_X3_call_74 (F0 := F) (G0 := G) hfu rc ih hd fu x2 (1 : Int32) r8 (0 : Int32) (1 : Int32) (0 : Int32) F10 G10 hI10 (KB.tr (KB.rf : KB F G F G) hB10) (KT.tr (rfl : KT F F) hT10) (show (F10 10).toInt = (F 10).toInt + 1 by omega) (show 0 ≤ (F 10).toInt by omega) (show (F 10).toInt < 40 by omega) (show (0 : Int32).toInt = (0 : Int32).toInt by omega) (show 0 ≤ (0 : Int32).toInt by omega) (show (0 : Int32).toInt ≤ 4001 by omega) (by omega)
  · skip
    have l_34 : (4 : Int32).toInt = 4 := rfl
    have e_35 := mt i_eq.mpr (show ¬ (r2 = (4 : Int32)) from c_4)
    unfold cb_X3_call_16
    unfold cb_X3_call_17
    refine WP.ite (fun _ => ?_) (fun c_36 => absurd (by decide) c_36)
    unfold cb_X3_call_33
    unfold cb_X3_call_34
    have l_37 : (19 : Int32).toInt = 19 := rfl
    refine WP.bind (cs_X2_opens hfu (19 : Int32) F G hI) ?_
    rintro r38 F38 G38 ⟨hI38, hB38, hT38, hp38⟩
    dsimp only
    have q_39 := b_rng (hp38.1)
    have q_40 := hI.r 10 rfl
    have q_41 := hI38.r 10 rfl
    have e_42 : r38.toInt = 1 → (F38 10).toInt = (F 10).toInt + 1 ∧ (F 10).toInt < 40 := hp38.2.1
    have e_43 : r38.toInt = 0 → (F38 10).toInt = (F 10).toInt := hp38.2.2
    unfold cb_X3_call_45
    refine WP.ite (fun c_44 => ?_) (fun c_44 => ?_)
    · skip
      have l_45 : (0 : Int32).toInt = 0 := rfl
      have e_46 := i_eq.mp (show r38 = (0 : Int32) from c_44)
      unfold cb_X3_call_48
      refine WP.ret ?_
      exact ⟨hI38, (KB.tr (KB.rf : KB F G F G) hB38), (KT.tr (rfl : KT F F) hT38), (show (F38 10).toInt = (F 10).toInt by omega), trivial⟩
    · skip
      have l_47 : (0 : Int32).toInt = 0 := rfl
      have e_48 := mt i_eq.mpr (show ¬ (r38 = (0 : Int32)) from c_44)
      unfold cb_X3_call_49
      refine WP.ite (fun c_49 => ?_) (fun c_49 => ?_)
      · skip
        have q_50 := i_rng (F38 11)
        have l_51 : (20 : Int32).toInt = 20 := rfl
        have e_52 := i_eq.mp (show (F38 11) = (20 : Int32) from c_49)
        unfold cb_X3_call_68
        unfold cb_X3_call_69
        have q_53 := i_rng x2
        have l_54 : (-1 : Int32).toInt = -1 := rfl
        exact cz_X3_call_74 (F0 := F) (G0 := G) hfu rc ih hd fu x2 (0 : Int32) (-1 : Int32) (0 : Int32) (0 : Int32) (0 : Int32) F38 G38 hI38 (KB.tr (KB.rf : KB F G F G) hB38) (KT.tr (rfl : KT F F) hT38) (show (F38 10).toInt = (F 10).toInt + 1 by omega) (show 0 ≤ (F 10).toInt by omega) (show (F 10).toInt < 40 by omega) (show (0 : Int32).toInt = (0 : Int32).toInt by omega) (show 0 ≤ (0 : Int32).toInt by omega) (show (0 : Int32).toInt ≤ 4001 by omega) (by omega)
      · skip
        have q_55 := i_rng (F38 11)
        have l_56 : (20 : Int32).toInt = 20 := rfl
        have e_57 := mt i_eq.mpr (show ¬ ((F38 11) = (20 : Int32)) from c_49)
        unfold cb_X3_call_64
        unfold cb_X3_call_69
        have q_58 := i_rng x2
        have l_59 : (-1 : Int32).toInt = -1 := rfl
        have l_60 : (1 : Int32).toInt = 1 := rfl
        exact cz_X3_call_74 (F0 := F) (G0 := G) hfu rc ih hd fu x2 (0 : Int32) (-1 : Int32) (0 : Int32) (1 : Int32) (0 : Int32) F38 G38 hI38 (KB.tr (KB.rf : KB F G F G) hB38) (KT.tr (rfl : KT F F) hT38) (show (F38 10).toInt = (F 10).toInt + 1 by omega) (show 0 ≤ (F 10).toInt by omega) (show (F 10).toInt < 40 by omega) (show (0 : Int32).toInt = (0 : Int32).toInt by omega) (show 0 ≤ (0 : Int32).toInt by omega) (show (0 : Int32).toInt ≤ 4001 by omega) (by omega)
theorem ct_X3_expression {fu d : Nat} (hfu : 8589934592 ≤ fu) (rc : RC) (ih : cIH1 rc d) (F : PF) (G : PG) (hI : CI F G) (hd : 5 * (40 - (F 10).toInt) + 5 ≤ (d + 1 : Int)) : WP (ch_X3_expression fu rc F G) (fun r' F' G' => CI F' G' ∧ KB F G F' G' ∧ KT F F' ∧ KO F F' ∧ True) := by
  unfold ch_X3_expression
  have q_10 := hI.r 10 rfl
  unfold cb_X3_expression_0
  have q_1 := hI.r 10 rfl
  refine WP.bind (ih.2.2.2.1 F G hI (by omega)) ?_
  rintro r2 F2 G2 ⟨hI2, hB2, hT2, hO2, hp2⟩
  dsimp only
  have q_3 := hI2.r 10 rfl
  have e_4 : (F2 10).toInt = (F 10).toInt := hO2
  unfold cb_X3_expression_4
  refine WP.ite (fun c_5 => ?_) (fun c_5 => ?_)
  · skip
    have q_6 := i_rng (F2 11)
    have l_7 : (27 : Int32).toInt = 27 := rfl
    have e_8 := i_eq.mp (show (F2 11) = (27 : Int32) from c_5)
    unfold cb_X3_expression_16
    refine WP.bind (cs_X2_opens hfu (27 : Int32) F2 G2 hI2) ?_
    rintro r9 F9 G9 ⟨hI9, hB9, hT9, hp9⟩
    dsimp only
    have q_10 := b_rng (hp9.1)
    have q_11 := hI9.r 10 rfl
    have e_12 : r9.toInt = 1 → (F9 10).toInt = (F2 10).toInt + 1 ∧ (F2 10).toInt < 40 := hp9.2.1
    have e_13 : r9.toInt = 0 → (F9 10).toInt = (F2 10).toInt := hp9.2.2
    unfold cb_X3_expression_25
    refine WP.ite (fun c_14 => ?_) (fun c_14 => ?_)
    · skip
      have l_15 : (0 : Int32).toInt = 0 := rfl
      have e_16 := i_eq.mp (show r9 = (0 : Int32) from c_14)
      unfold cb_X3_expression_28
      refine WP.ret ?_
      exact ⟨hI9, (KB.tr (KB.tr (KB.rf : KB F G F G) hB2) hB9), (KT.tr (KT.tr (rfl : KT F F) hT2) hT9), (show (F9 10).toInt = (F 10).toInt by omega), trivial⟩
    · skip
      have l_17 : (0 : Int32).toInt = 0 := rfl
      have e_18 := mt i_eq.mpr (show ¬ (r9 = (0 : Int32)) from c_14)
      unfold cb_X3_expression_29
      have l_19 : (86 : Int32).toInt = 86 := rfl
      have l_20 : (-1 : Int32).toInt = -1 := rfl
      refine WP.bind (cs_X1_addJump hfu (86 : Int32) (-1 : Int32) F9 G9 hI9) ?_
      rintro r21 F21 G21 ⟨hI21, hB21, hT21, hO21, hp21⟩
      dsimp only
      have q_22 := hI21.r 10 rfl
      have e_23 : (F21 10).toInt = (F9 10).toInt := hO21
      have q_24 := hI9.r 21 rfl
      have q_25 := hI21.r 21 rfl
      have e_26 : (F21 21).toInt = (F9 21).toInt := congrArg Int32.toInt hp21
      unfold cb_X3_expression_39
      refine WP.bind (ih.2.1 F21 G21 hI21 (by omega)) ?_
      rintro r27 F27 G27 ⟨hI27, hB27, hT27, hO27, hp27⟩
      dsimp only
      have q_28 := hI27.r 10 rfl
      have e_29 : (F27 10).toInt = (F21 10).toInt := hO27
      unfold cb_X3_expression_44
      have l_30 : (28 : Int32).toInt = 28 := rfl
      refine WP.bind (cs_X2_expect hfu (28 : Int32) F27 G27 hI27) ?_
      rintro r31 F31 G31 ⟨hI31, hB31, hT31, hO31, hp31⟩
      dsimp only
      have q_32 := hI31.r 10 rfl
      have e_33 : (F31 10).toInt = (F27 10).toInt := hO31
      unfold cb_X3_expression_53
      have l_34 : (84 : Int32).toInt = 84 := rfl
      refine WP.bind (cs_X1_addJump hfu (84 : Int32) (-1 : Int32) F31 G31 hI31) ?_
      rintro r35 F35 G35 ⟨hI35, hB35, hT35, hO35, hp35⟩
      dsimp only
      have q_36 := hI35.r 10 rfl
      have e_37 : (F35 10).toInt = (F31 10).toInt := hO35
      have q_38 := hI31.r 21 rfl
      have q_39 := hI35.r 21 rfl
      have e_40 : (F35 21).toInt = (F31 21).toInt := congrArg Int32.toInt hp35
      unfold cb_X3_expression_63
      have q_41 := i_rng r21
      have q_42 := hI35.r 6 rfl
      refine WP.bind (cs_X1_aim hfu r21 (F35 6) F35 G35 hI35) ?_
      rintro r43 F43 G43 ⟨hI43, hB43, hT43, hO43, hp43⟩
      dsimp only
      have q_44 := hI43.r 10 rfl
      have e_45 : (F43 10).toInt = (F35 10).toInt := hO43
      unfold cb_X3_expression_79
      refine WP.bind (ih.2.1 F43 G43 hI43 (by omega)) ?_
      rintro r46 F46 G46 ⟨hI46, hB46, hT46, hO46, hp46⟩
      dsimp only
      have q_47 := hI46.r 10 rfl
      have e_48 : (F46 10).toInt = (F43 10).toInt := hO46
      unfold cb_X3_expression_83
      have q_49 := i_rng r35
      have q_50 := hI46.r 6 rfl
      refine WP.bind (cs_X1_aim hfu r35 (F46 6) F46 G46 hI46) ?_
      rintro r51 F51 G51 ⟨hI51, hB51, hT51, hO51, hp51⟩
      dsimp only
      have q_52 := hI51.r 10 rfl
      have e_53 : (F51 10).toInt = (F46 10).toInt := hO51
      unfold cb_X3_expression_98
      refine WP.bind (cs_X2_closes hfu F51 G51 hI51 (show 1 ≤ (F51 10).toInt by omega)) ?_
      rintro r54 F54 G54 ⟨hI54, hB54, hT54, hp54⟩
      dsimp only
      have q_55 := hI54.r 10 rfl
      have e_56 : (F54 10).toInt = (F51 10).toInt - 1 := hp54
      unfold cb_X3_expression_105
      refine WP.ret ?_
      exact ⟨hI54, (KB.tr (KB.tr (KB.tr (KB.tr (KB.tr (KB.tr (KB.tr (KB.tr (KB.tr (KB.tr (KB.rf : KB F G F G) hB2) hB9) hB21) hB27) hB31) hB35) hB43) hB46) hB51) hB54), (KT.tr (KT.tr (KT.tr (KT.tr (KT.tr (KT.tr (KT.tr (KT.tr (KT.tr (KT.tr (rfl : KT F F) hT2) hT9) hT21) hT27) hT31) hT35) hT43) hT46) hT51) hT54), (show (F54 10).toInt = (F 10).toInt by omega), trivial⟩
  · skip
    have q_57 := i_rng (F2 11)
    have l_58 : (27 : Int32).toInt = 27 := rfl
    have e_59 := mt i_eq.mpr (show ¬ ((F2 11) = (27 : Int32)) from c_5)
    unfold cb_X3_expression_28
    refine WP.ret ?_
    exact ⟨hI2, (KB.tr (KB.rf : KB F G F G) hB2), (KT.tr (rfl : KT F F) hT2), (KO.tr (rfl : KO F F) hO2), trivial⟩
theorem ct_X3_index {fu d : Nat} (hfu : 8589934592 ≤ fu) (rc : RC) (ih : cIH1 rc d) (x1 : Int32) (F : PF) (G : PG) (hI : CI F G) (hd : 5 * (40 - (F 10).toInt) + 1 ≤ (d + 1 : Int)) : WP (ch_X3_index fu rc x1 F G) (fun r' F' G' => CI F' G' ∧ KB F G F' G' ∧ KT F F' ∧ KO F F' ∧ True) := by
  unfold ch_X3_index
  have q_10 := hI.r 10 rfl
  unfold cb_X3_index_0
  have l_1 : (21 : Int32).toInt = 21 := rfl
  refine WP.bind (cs_X2_opens hfu (21 : Int32) F G hI) ?_
  rintro r2 F2 G2 ⟨hI2, hB2, hT2, hp2⟩
  dsimp only
  have q_3 := b_rng (hp2.1)
  have q_4 := hI.r 10 rfl
  have q_5 := hI2.r 10 rfl
  have e_6 : r2.toInt = 1 → (F2 10).toInt = (F 10).toInt + 1 ∧ (F 10).toInt < 40 := hp2.2.1
  have e_7 : r2.toInt = 0 → (F2 10).toInt = (F 10).toInt := hp2.2.2
  unfold cb_X3_index_17
  refine WP.ite (fun c_8 => ?_) (fun c_8 => ?_)
  · skip
    have l_9 : (0 : Int32).toInt = 0 := rfl
    have e_10 := i_eq.mp (show r2 = (0 : Int32) from c_8)
    unfold cb_X3_index_20
    refine WP.ret ?_
    exact ⟨hI2, (KB.tr (KB.rf : KB F G F G) hB2), (KT.tr (rfl : KT F F) hT2), (show (F2 10).toInt = (F 10).toInt by omega), trivial⟩
  · skip
    have l_11 : (0 : Int32).toInt = 0 := rfl
    have e_12 := mt i_eq.mpr (show ¬ (r2 = (0 : Int32)) from c_8)
    unfold cb_X3_index_21
    refine WP.bind (ih.2.1 F2 G2 hI2 (by omega)) ?_
    rintro r13 F13 G13 ⟨hI13, hB13, hT13, hO13, hp13⟩
    dsimp only
    have q_14 := hI13.r 10 rfl
    have e_15 : (F13 10).toInt = (F2 10).toInt := hO13
    unfold cb_X3_index_25
    have l_16 : (22 : Int32).toInt = 22 := rfl
    refine WP.bind (cs_X2_closesWith hfu (22 : Int32) F13 G13 hI13 (show 1 ≤ (F13 10).toInt by omega)) ?_
    rintro r17 F17 G17 ⟨hI17, hB17, hT17, hp17⟩
    dsimp only
    have q_18 := hI17.r 10 rfl
    have e_19 : (F17 10).toInt = (F13 10).toInt - 1 := hp17
    unfold cb_X3_index_34
    have q_20 := i_rng x1
    refine WP.bind (cs_X5_size hfu x1 F17 G17 hI17) ?_
    rintro r21 _ _ ⟨rfl, rfl, hp21⟩
    dsimp only
    unfold cb_X3_index_42
    refine WP.ite (fun c_22 => ?_) (fun c_22 => ?_)
    · skip
      have q_23 := i_rng r21
      have e_24 := i_eq.mp (show r21 = (0 : Int32) from c_22)
      unfold cb_X3_index_45
      unfold cb_X3_index_50
      refine WP.ite (fun c_25 => absurd c_25 (by decide)) (fun _ => ?_)
      unfold cb_X3_index_59
      unfold cb_X3_index_82
      refine WP.bind (cs_X5_value hfu x1 F17 G17 hI17) ?_
      rintro r26 _ _ ⟨rfl, rfl, hp26⟩
      dsimp only
      unfold cb_X3_index_90
      have l_27 : (76 : Int32).toInt = 76 := rfl
      have q_28 := i_rng r26
      refine WP.bind (cs_X1_addPair hfu (76 : Int32) r26 F17 G17 hI17) ?_
      rintro r29 F29 G29 ⟨hI29, hB29, hT29, hO29, hp29⟩
      dsimp only
      have q_30 := hI29.r 10 rfl
      have e_31 : (F29 10).toInt = (F17 10).toInt := hO29
      unfold cb_X3_index_93
      refine WP.bind (cs_X5_size hfu x1 F29 G29 hI29) ?_
      rintro r32 _ _ ⟨rfl, rfl, hp32⟩
      dsimp only
      unfold cb_X3_index_105
      have q_33 := i_rng r32
      refine WP.bind (cs_X1_add hfu r32 F29 G29 hI29) ?_
      rintro r34 F34 G34 ⟨hI34, hB34, hT34, hO34, hp34⟩
      dsimp only
      have q_35 := hI34.r 10 rfl
      have e_36 : (F34 10).toInt = (F29 10).toInt := hO34
      have q_37 := hI29.r 21 rfl
      have q_38 := hI34.r 21 rfl
      have e_39 : (F34 21).toInt = (F29 21).toInt := congrArg Int32.toInt hp34
      unfold cb_X3_index_108
      refine WP.bind (cs_X5_kind hfu x1 F34 G34 hI34) ?_
      rintro r40 _ _ ⟨rfl, rfl, hp40⟩
      dsimp only
      have q_41 := i_rng r40
      unfold cb_X3_index_120
      refine WP.ite (fun c_42 => ?_) (fun c_42 => ?_)
      · skip
        have l_43 : (3 : Int32).toInt = 3 := rfl
        have e_44 := i_eq.mp (show r40 = (3 : Int32) from c_42)
        unfold cb_X3_index_124
        unfold cb_X3_index_129
        have l_45 : (2 : Int32).toInt = 2 := rfl
        refine WP.bind (cs_X1_add hfu (2 : Int32) F34 G34 hI34) ?_
        rintro r46 F46 G46 ⟨hI46, hB46, hT46, hO46, hp46⟩
        dsimp only
        have q_47 := hI46.r 10 rfl
        have e_48 : (F46 10).toInt = (F34 10).toInt := hO46
        have q_49 := hI46.r 21 rfl
        have e_50 : (F46 21).toInt = (F34 21).toInt := congrArg Int32.toInt hp46
        unfold cb_X3_index_132
        have q_51 := i_rng (F 13)
        refine WP.bind (cs_X1_add hfu (F 13) F46 G46 hI46) ?_
        rintro r52 F52 G52 ⟨hI52, hB52, hT52, hO52, hp52⟩
        dsimp only
        have q_53 := hI52.r 10 rfl
        have e_54 : (F52 10).toInt = (F46 10).toInt := hO52
        have q_55 := hI52.r 21 rfl
        have e_56 : (F52 21).toInt = (F46 21).toInt := congrArg Int32.toInt hp52
        unfold cb_X3_index_140
        refine WP.ret ?_
        exact ⟨hI52, (KB.tr (KB.tr (KB.tr (KB.tr (KB.tr (KB.tr (KB.tr (KB.rf : KB F G F G) hB2) hB13) hB17) hB29) hB34) hB46) hB52), (KT.tr (KT.tr (KT.tr (KT.tr (KT.tr (KT.tr (KT.tr (rfl : KT F F) hT2) hT13) hT17) hT29) hT34) hT46) hT52), (show (F52 10).toInt = (F 10).toInt by omega), trivial⟩
      · skip
        have l_57 : (3 : Int32).toInt = 3 := rfl
        have e_58 := mt i_eq.mpr (show ¬ (r40 = (3 : Int32)) from c_42)
        unfold cb_X3_index_128
        unfold cb_X3_index_129
        refine WP.bind (cs_X1_add hfu (0 : Int32) F34 G34 hI34) ?_
        rintro r59 F59 G59 ⟨hI59, hB59, hT59, hO59, hp59⟩
        dsimp only
        have q_60 := hI59.r 10 rfl
        have e_61 : (F59 10).toInt = (F34 10).toInt := hO59
        have q_62 := hI59.r 21 rfl
        have e_63 : (F59 21).toInt = (F34 21).toInt := congrArg Int32.toInt hp59
        unfold cb_X3_index_132
        have q_64 := i_rng (F 13)
        refine WP.bind (cs_X1_add hfu (F 13) F59 G59 hI59) ?_
        rintro r65 F65 G65 ⟨hI65, hB65, hT65, hO65, hp65⟩
        dsimp only
        have q_66 := hI65.r 10 rfl
        have e_67 : (F65 10).toInt = (F59 10).toInt := hO65
        have q_68 := hI65.r 21 rfl
        have e_69 : (F65 21).toInt = (F59 21).toInt := congrArg Int32.toInt hp65
        unfold cb_X3_index_140
        refine WP.ret ?_
        exact ⟨hI65, (KB.tr (KB.tr (KB.tr (KB.tr (KB.tr (KB.tr (KB.tr (KB.rf : KB F G F G) hB2) hB13) hB17) hB29) hB34) hB59) hB65), (KT.tr (KT.tr (KT.tr (KT.tr (KT.tr (KT.tr (KT.tr (rfl : KT F F) hT2) hT13) hT17) hT29) hT34) hT59) hT65), (show (F65 10).toInt = (F 10).toInt by omega), trivial⟩
    · skip
      have q_70 := i_rng r21
      have e_71 := mt i_eq.mpr (show ¬ (r21 = (0 : Int32)) from c_22)
      unfold cb_X3_index_49
      unfold cb_X3_index_50
      refine WP.ite (fun _ => ?_) (fun c_72 => absurd (by decide) c_72)
      unfold cb_X3_index_64
      refine WP.bind (cs_X5_isGlobal hfu x1 F17 G17 hI17) ?_
      rintro r73 _ _ ⟨rfl, rfl, hp73⟩
      dsimp only
      have q_74 := b_rng hp73
      unfold cb_X3_index_72
      refine WP.ite (fun c_75 => ?_) (fun c_75 => ?_)
      · skip
        have e_76 := i_eq.mp (show r73 = (0 : Int32) from c_75)
        unfold cb_X3_index_80
        unfold cb_X3_index_82
        refine WP.bind (cs_X5_value hfu x1 F17 G17 hI17) ?_
        rintro r77 _ _ ⟨rfl, rfl, hp77⟩
        dsimp only
        unfold cb_X3_index_90
        have l_78 : (75 : Int32).toInt = 75 := rfl
        have q_79 := i_rng r77
        refine WP.bind (cs_X1_addPair hfu (75 : Int32) r77 F17 G17 hI17) ?_
        rintro r80 F80 G80 ⟨hI80, hB80, hT80, hO80, hp80⟩
        dsimp only
        have q_81 := hI80.r 10 rfl
        have e_82 : (F80 10).toInt = (F17 10).toInt := hO80
        unfold cb_X3_index_93
        refine WP.bind (cs_X5_size hfu x1 F80 G80 hI80) ?_
        rintro r83 _ _ ⟨rfl, rfl, hp83⟩
        dsimp only
        unfold cb_X3_index_105
        have q_84 := i_rng r83
        refine WP.bind (cs_X1_add hfu r83 F80 G80 hI80) ?_
        rintro r85 F85 G85 ⟨hI85, hB85, hT85, hO85, hp85⟩
        dsimp only
        have q_86 := hI85.r 10 rfl
        have e_87 : (F85 10).toInt = (F80 10).toInt := hO85
        have q_88 := hI80.r 21 rfl
        have q_89 := hI85.r 21 rfl
        have e_90 : (F85 21).toInt = (F80 21).toInt := congrArg Int32.toInt hp85
        unfold cb_X3_index_108
        refine WP.bind (cs_X5_kind hfu x1 F85 G85 hI85) ?_
        rintro r91 _ _ ⟨rfl, rfl, hp91⟩
        dsimp only
        have q_92 := i_rng r91
        unfold cb_X3_index_120
        refine WP.ite (fun c_93 => ?_) (fun c_93 => ?_)
        · skip
          have l_94 : (3 : Int32).toInt = 3 := rfl
          have e_95 := i_eq.mp (show r91 = (3 : Int32) from c_93)
          unfold cb_X3_index_124
          unfold cb_X3_index_129
          have l_96 : (2 : Int32).toInt = 2 := rfl
          refine WP.bind (cs_X1_add hfu (2 : Int32) F85 G85 hI85) ?_
          rintro r97 F97 G97 ⟨hI97, hB97, hT97, hO97, hp97⟩
          dsimp only
          have q_98 := hI97.r 10 rfl
          have e_99 : (F97 10).toInt = (F85 10).toInt := hO97
          have q_100 := hI97.r 21 rfl
          have e_101 : (F97 21).toInt = (F85 21).toInt := congrArg Int32.toInt hp97
          unfold cb_X3_index_132
          have q_102 := i_rng (F 13)
          refine WP.bind (cs_X1_add hfu (F 13) F97 G97 hI97) ?_
          rintro r103 F103 G103 ⟨hI103, hB103, hT103, hO103, hp103⟩
          dsimp only
          have q_104 := hI103.r 10 rfl
          have e_105 : (F103 10).toInt = (F97 10).toInt := hO103
          have q_106 := hI103.r 21 rfl
          have e_107 : (F103 21).toInt = (F97 21).toInt := congrArg Int32.toInt hp103
          unfold cb_X3_index_140
          refine WP.ret ?_
          exact ⟨hI103, (KB.tr (KB.tr (KB.tr (KB.tr (KB.tr (KB.tr (KB.tr (KB.rf : KB F G F G) hB2) hB13) hB17) hB80) hB85) hB97) hB103), (KT.tr (KT.tr (KT.tr (KT.tr (KT.tr (KT.tr (KT.tr (rfl : KT F F) hT2) hT13) hT17) hT80) hT85) hT97) hT103), (show (F103 10).toInt = (F 10).toInt by omega), trivial⟩
        · skip
          have l_108 : (3 : Int32).toInt = 3 := rfl
          have e_109 := mt i_eq.mpr (show ¬ (r91 = (3 : Int32)) from c_93)
          unfold cb_X3_index_128
          unfold cb_X3_index_129
          refine WP.bind (cs_X1_add hfu (0 : Int32) F85 G85 hI85) ?_
          rintro r110 F110 G110 ⟨hI110, hB110, hT110, hO110, hp110⟩
          dsimp only
          have q_111 := hI110.r 10 rfl
          have e_112 : (F110 10).toInt = (F85 10).toInt := hO110
          have q_113 := hI110.r 21 rfl
          have e_114 : (F110 21).toInt = (F85 21).toInt := congrArg Int32.toInt hp110
          unfold cb_X3_index_132
          have q_115 := i_rng (F 13)
          refine WP.bind (cs_X1_add hfu (F 13) F110 G110 hI110) ?_
          rintro r116 F116 G116 ⟨hI116, hB116, hT116, hO116, hp116⟩
          dsimp only
          have q_117 := hI116.r 10 rfl
          have e_118 : (F116 10).toInt = (F110 10).toInt := hO116
          have q_119 := hI116.r 21 rfl
          have e_120 : (F116 21).toInt = (F110 21).toInt := congrArg Int32.toInt hp116
          unfold cb_X3_index_140
          refine WP.ret ?_
          exact ⟨hI116, (KB.tr (KB.tr (KB.tr (KB.tr (KB.tr (KB.tr (KB.tr (KB.rf : KB F G F G) hB2) hB13) hB17) hB80) hB85) hB110) hB116), (KT.tr (KT.tr (KT.tr (KT.tr (KT.tr (KT.tr (KT.tr (rfl : KT F F) hT2) hT13) hT17) hT80) hT85) hT110) hT116), (show (F116 10).toInt = (F 10).toInt by omega), trivial⟩
      · skip
        have e_121 := mt i_eq.mpr (show ¬ (r73 = (0 : Int32)) from c_75)
        unfold cb_X3_index_75
        unfold cb_X3_index_82
        refine WP.bind (cs_X5_value hfu x1 F17 G17 hI17) ?_
        rintro r122 _ _ ⟨rfl, rfl, hp122⟩
        dsimp only
        unfold cb_X3_index_90
        have l_123 : (74 : Int32).toInt = 74 := rfl
        have q_124 := i_rng r122
        refine WP.bind (cs_X1_addPair hfu (74 : Int32) r122 F17 G17 hI17) ?_
        rintro r125 F125 G125 ⟨hI125, hB125, hT125, hO125, hp125⟩
        dsimp only
        have q_126 := hI125.r 10 rfl
        have e_127 : (F125 10).toInt = (F17 10).toInt := hO125
        unfold cb_X3_index_93
        refine WP.bind (cs_X5_size hfu x1 F125 G125 hI125) ?_
        rintro r128 _ _ ⟨rfl, rfl, hp128⟩
        dsimp only
        unfold cb_X3_index_105
        have q_129 := i_rng r128
        refine WP.bind (cs_X1_add hfu r128 F125 G125 hI125) ?_
        rintro r130 F130 G130 ⟨hI130, hB130, hT130, hO130, hp130⟩
        dsimp only
        have q_131 := hI130.r 10 rfl
        have e_132 : (F130 10).toInt = (F125 10).toInt := hO130
        have q_133 := hI125.r 21 rfl
        have q_134 := hI130.r 21 rfl
        have e_135 : (F130 21).toInt = (F125 21).toInt := congrArg Int32.toInt hp130
        unfold cb_X3_index_108
        refine WP.bind (cs_X5_kind hfu x1 F130 G130 hI130) ?_
        rintro r136 _ _ ⟨rfl, rfl, hp136⟩
        dsimp only
        have q_137 := i_rng r136
        unfold cb_X3_index_120
        refine WP.ite (fun c_138 => ?_) (fun c_138 => ?_)
        · skip
          have l_139 : (3 : Int32).toInt = 3 := rfl
          have e_140 := i_eq.mp (show r136 = (3 : Int32) from c_138)
          unfold cb_X3_index_124
          unfold cb_X3_index_129
          have l_141 : (2 : Int32).toInt = 2 := rfl
          refine WP.bind (cs_X1_add hfu (2 : Int32) F130 G130 hI130) ?_
          rintro r142 F142 G142 ⟨hI142, hB142, hT142, hO142, hp142⟩
          dsimp only
          have q_143 := hI142.r 10 rfl
          have e_144 : (F142 10).toInt = (F130 10).toInt := hO142
          have q_145 := hI142.r 21 rfl
          have e_146 : (F142 21).toInt = (F130 21).toInt := congrArg Int32.toInt hp142
          unfold cb_X3_index_132
          have q_147 := i_rng (F 13)
          refine WP.bind (cs_X1_add hfu (F 13) F142 G142 hI142) ?_
          rintro r148 F148 G148 ⟨hI148, hB148, hT148, hO148, hp148⟩
          dsimp only
          have q_149 := hI148.r 10 rfl
          have e_150 : (F148 10).toInt = (F142 10).toInt := hO148
          have q_151 := hI148.r 21 rfl
          have e_152 : (F148 21).toInt = (F142 21).toInt := congrArg Int32.toInt hp148
          unfold cb_X3_index_140
          refine WP.ret ?_
          exact ⟨hI148, (KB.tr (KB.tr (KB.tr (KB.tr (KB.tr (KB.tr (KB.tr (KB.rf : KB F G F G) hB2) hB13) hB17) hB125) hB130) hB142) hB148), (KT.tr (KT.tr (KT.tr (KT.tr (KT.tr (KT.tr (KT.tr (rfl : KT F F) hT2) hT13) hT17) hT125) hT130) hT142) hT148), (show (F148 10).toInt = (F 10).toInt by omega), trivial⟩
        · skip
          have l_153 : (3 : Int32).toInt = 3 := rfl
          have e_154 := mt i_eq.mpr (show ¬ (r136 = (3 : Int32)) from c_138)
          unfold cb_X3_index_128
          unfold cb_X3_index_129
          refine WP.bind (cs_X1_add hfu (0 : Int32) F130 G130 hI130) ?_
          rintro r155 F155 G155 ⟨hI155, hB155, hT155, hO155, hp155⟩
          dsimp only
          have q_156 := hI155.r 10 rfl
          have e_157 : (F155 10).toInt = (F130 10).toInt := hO155
          have q_158 := hI155.r 21 rfl
          have e_159 : (F155 21).toInt = (F130 21).toInt := congrArg Int32.toInt hp155
          unfold cb_X3_index_132
          have q_160 := i_rng (F 13)
          refine WP.bind (cs_X1_add hfu (F 13) F155 G155 hI155) ?_
          rintro r161 F161 G161 ⟨hI161, hB161, hT161, hO161, hp161⟩
          dsimp only
          have q_162 := hI161.r 10 rfl
          have e_163 : (F161 10).toInt = (F155 10).toInt := hO161
          have q_164 := hI161.r 21 rfl
          have e_165 : (F161 21).toInt = (F155 21).toInt := congrArg Int32.toInt hp161
          unfold cb_X3_index_140
          refine WP.ret ?_
          exact ⟨hI161, (KB.tr (KB.tr (KB.tr (KB.tr (KB.tr (KB.tr (KB.tr (KB.rf : KB F G F G) hB2) hB13) hB17) hB125) hB130) hB155) hB161), (KT.tr (KT.tr (KT.tr (KT.tr (KT.tr (KT.tr (KT.tr (rfl : KT F F) hT2) hT13) hT17) hT125) hT130) hT155) hT161), (show (F161 10).toInt = (F 10).toInt by omega), trivial⟩
theorem cz_X3_joinedOperands_23 {fu : Nat} (hfu : 8589934592 ≤ fu) (rc : RC) {d : Nat} (ih : cIH1 rc d) {F0 : PF} {G0 : PG} (hd : 5 * (40 - (F0 10).toInt) + 4 ≤ (d + 1 : Int)) {n_9 : Nat} (ag_9 : Int32 → Int32 → Int32 → PF → PG → PR) (hag_9 : ∀ (x1 : Int32) (x2 : Int32) (x3 : Int32) (F : PF) (G : PG) (hI : CI F G) (hB : KB F0 G0 F G) (hT : KT F0 F) (hO : KO F0 F) (hn : (2147483647 - x3.toInt).toNat < n_9), WP (ag_9 x1 x2 x3 F G) (fun r' F' G' => CI F' G' ∧ KB F0 G0 F' G' ∧ KT F0 F' ∧ KO F0 F' ∧ True)) : ∀ (n : Nat) (x1 : Int32) (x3 : Int32) (x4 : Int32) (F : PF) (G : PG) (hI : CI F G) (hB : KB F0 G0 F G) (hT : KT F0 F) (hO : KO F0 F) (i_0 : x3.toInt < 4001) (i_1 : (2147483647 - x3.toInt).toNat < n_9 + 1) (hn : (2147483647 - x4.toInt).toNat < n), WP (cl_X3_joinedOperands_23 fu rc ag_9 n x1 x3 x4 F G) (fun r' F' G' => CI F' G' ∧ KB F0 G0 F' G' ∧ KT F0 F' ∧ KO F0 F' ∧ True) := by
  intro n
  induction n with
  | zero =>
    intro x1 x3 x4 F G hI hB hT hO i_0 i_1 hn
    exact absurd hn (Nat.not_lt_zero _)
  | succ n ihn =>
    intro x1 x3 x4 F G hI hB hT hO i_0 i_1 hn
    show WP (cb_X3_joinedOperands_23 fu rc ag_9 (cl_X3_joinedOperands_23 fu rc ag_9 n)  x1 x3 x4 F G) _
    have q_O : (F 10).toInt = (F0 10).toInt := hO
    have q_O1 := hI.r 10 rfl
    unfold cb_X3_joinedOperands_23
    refine WP.ite (fun c_1 => ?_) (fun c_1 => ?_)
    · skip
      have l_2 : (4001 : Int32).toInt = 4001 := rfl
      have q_3 := i_rng x4
      have e_4 := i_le.mp (show (4001 : Int32) ≤ x4 from c_1)
      unfold cb_X3_joinedOperands_85
      have q_5 := hI.r 10 rfl
      refine WP.bind (ih.2.2.2.2.2 F G hI (by omega)) ?_
      rintro r6 F6 G6 ⟨hI6, hB6, hT6, hO6, hp6⟩
      dsimp only
      have q_7 := hI6.r 10 rfl
      have e_8 : (F6 10).toInt = (F 10).toInt := hO6
      unfold cb_X3_joinedOperands_89
      refine WP.ite (fun c_9 => ?_) (fun c_9 => ?_)
      · skip
        have q_10 := i_rng (F6 11)
        have l_11 : (43 : Int32).toInt = 43 := rfl
        have e_12 := i_lt.mp (show (F6 11) < (43 : Int32) from c_9)
        unfold cb_X3_joinedOperands_117
        unfold cb_X3_joinedOperands_118
        refine WP.ite (fun _ => ?_) (fun c_13 => absurd (by decide) c_13)
        unfold cb_X3_joinedOperands_156
        have q_14 := i_rng x1
        have l_15 : (0 : Int32).toInt = 0 := rfl
        have q_16 := i_rng x3
        have l_17 : (1 : Int32).toInt = 1 := rfl
        obtain ⟨k_18, e_19, e_20⟩ := i_add x3 (1 : Int32)
        exact hag_9 x1 (0 : Int32) (x3 + (1 : Int32)) F6 G6 hI6 (KB.tr hB hB6) (KT.tr hT hT6) (KO.tr hO hO6) (by omega)
      · skip
        have q_21 := i_rng (F6 11)
        have l_22 : (43 : Int32).toInt = 43 := rfl
        have e_23 := mt i_lt.mpr (show ¬ ((F6 11) < (43 : Int32)) from c_9)
        unfold cb_X3_joinedOperands_101
        refine WP.ite (fun c_24 => ?_) (fun c_24 => ?_)
        · skip
          have l_25 : (61 : Int32).toInt = 61 := rfl
          have e_26 := i_lt.mp (show (61 : Int32) < (F6 11) from c_24)
          unfold cb_X3_joinedOperands_117
          unfold cb_X3_joinedOperands_118
          refine WP.ite (fun _ => ?_) (fun c_27 => absurd (by decide) c_27)
          unfold cb_X3_joinedOperands_156
          have q_28 := i_rng x1
          have l_29 : (0 : Int32).toInt = 0 := rfl
          have q_30 := i_rng x3
          have l_31 : (1 : Int32).toInt = 1 := rfl
          obtain ⟨k_32, e_33, e_34⟩ := i_add x3 (1 : Int32)
          exact hag_9 x1 (0 : Int32) (x3 + (1 : Int32)) F6 G6 hI6 (KB.tr hB hB6) (KT.tr hT hT6) (KO.tr hO hO6) (by omega)
        · skip
          have l_35 : (61 : Int32).toInt = 61 := rfl
          have e_36 := mt i_lt.mpr (show ¬ ((61 : Int32) < (F6 11)) from c_24)
          unfold cb_X3_joinedOperands_113
          unfold cb_X3_joinedOperands_118
          refine WP.ite (fun c_37 => absurd c_37 (by decide)) (fun _ => ?_)
          unfold cb_X3_joinedOperands_123
          refine WP.bind (cs_X3_strength hfu (F6 11) F6 G6 hI6) ?_
          rintro r38 _ _ ⟨rfl, rfl, hp38⟩
          dsimp only
          unfold cb_X3_joinedOperands_135
          have q_39 := i_rng x1
          have q_40 := i_rng r38
          refine WP.bind (cs_X3_settle hfu x1 r38 F6 G6 hI6) ?_
          rintro r41 F41 G41 ⟨hI41, hB41, hT41, hO41, hp41⟩
          dsimp only
          have q_42 := hI41.r 10 rfl
          have e_43 : (F41 10).toInt = (F6 10).toInt := hO41
          unfold cb_X3_joinedOperands_138
          have q_44 := i_rng (F41 11)
          refine WP.bind (cs_X3_waits hfu (F41 11) F41 G41 hI41) ?_
          rintro r45 F45 G45 ⟨hI45, hB45, hT45, hO45, hp45⟩
          dsimp only
          have q_46 := hI45.r 10 rfl
          have e_47 : (F45 10).toInt = (F41 10).toInt := hO45
          unfold cb_X3_joinedOperands_149
          refine WP.bind (cs_X2_next hfu F45 G45 hI45) ?_
          rintro r48 F48 G48 ⟨hI48, hB48, hT48, hO48, hp48⟩
          dsimp only
          have q_49 := hI48.r 10 rfl
          have e_50 : (F48 10).toInt = (F45 10).toInt := hO48
          unfold cb_X3_joinedOperands_156
          have l_51 : (1 : Int32).toInt = 1 := rfl
          have q_52 := i_rng x3
          obtain ⟨k_53, e_54, e_55⟩ := i_add x3 (1 : Int32)
          exact hag_9 x1 (1 : Int32) (x3 + (1 : Int32)) F48 G48 hI48 (KB.tr (KB.tr (KB.tr (KB.tr hB hB6) hB41) hB45) hB48) (KT.tr (KT.tr (KT.tr (KT.tr hT hT6) hT41) hT45) hT48) (KO.tr (KO.tr (KO.tr (KO.tr hO hO6) hO41) hO45) hO48) (by omega)
    · skip
      have l_56 : (4001 : Int32).toInt = 4001 := rfl
      have q_57 := i_rng x4
      have e_58 := mt i_le.mpr (show ¬ ((4001 : Int32) ≤ x4) from c_1)
      unfold cb_X3_joinedOperands_31
      have q_59 := i_rng (F 11)
      refine WP.bind (cs_X3_isAhead hfu (F 11) F G hI) ?_
      rintro r60 _ _ ⟨rfl, rfl, hp60⟩
      dsimp only
      have q_61 := b_rng hp60
      unfold cb_X3_joinedOperands_41
      refine WP.ite (fun c_62 => ?_) (fun c_62 => ?_)
      · skip
        have l_63 : (0 : Int32).toInt = 0 := rfl
        have e_64 := i_eq.mp (show r60 = (0 : Int32) from c_62)
        unfold cb_X3_joinedOperands_85
        have q_65 := hI.r 10 rfl
        refine WP.bind (ih.2.2.2.2.2 F G hI (by omega)) ?_
        rintro r66 F66 G66 ⟨hI66, hB66, hT66, hO66, hp66⟩
        dsimp only
        have q_67 := hI66.r 10 rfl
        have e_68 : (F66 10).toInt = (F 10).toInt := hO66
        unfold cb_X3_joinedOperands_89
        refine WP.ite (fun c_69 => ?_) (fun c_69 => ?_)
        · skip
          have q_70 := i_rng (F66 11)
          have l_71 : (43 : Int32).toInt = 43 := rfl
          have e_72 := i_lt.mp (show (F66 11) < (43 : Int32) from c_69)
          unfold cb_X3_joinedOperands_117
          unfold cb_X3_joinedOperands_118
          refine WP.ite (fun _ => ?_) (fun c_73 => absurd (by decide) c_73)
          unfold cb_X3_joinedOperands_156
          have q_74 := i_rng x1
          have q_75 := i_rng x3
          have l_76 : (1 : Int32).toInt = 1 := rfl
          obtain ⟨k_77, e_78, e_79⟩ := i_add x3 (1 : Int32)
          exact hag_9 x1 (0 : Int32) (x3 + (1 : Int32)) F66 G66 hI66 (KB.tr hB hB66) (KT.tr hT hT66) (KO.tr hO hO66) (by omega)
        · skip
          have q_80 := i_rng (F66 11)
          have l_81 : (43 : Int32).toInt = 43 := rfl
          have e_82 := mt i_lt.mpr (show ¬ ((F66 11) < (43 : Int32)) from c_69)
          unfold cb_X3_joinedOperands_101
          refine WP.ite (fun c_83 => ?_) (fun c_83 => ?_)
          · skip
            have l_84 : (61 : Int32).toInt = 61 := rfl
            have e_85 := i_lt.mp (show (61 : Int32) < (F66 11) from c_83)
            unfold cb_X3_joinedOperands_117
            unfold cb_X3_joinedOperands_118
            refine WP.ite (fun _ => ?_) (fun c_86 => absurd (by decide) c_86)
            unfold cb_X3_joinedOperands_156
            have q_87 := i_rng x1
            have q_88 := i_rng x3
            have l_89 : (1 : Int32).toInt = 1 := rfl
            obtain ⟨k_90, e_91, e_92⟩ := i_add x3 (1 : Int32)
            exact hag_9 x1 (0 : Int32) (x3 + (1 : Int32)) F66 G66 hI66 (KB.tr hB hB66) (KT.tr hT hT66) (KO.tr hO hO66) (by omega)
          · skip
            have l_93 : (61 : Int32).toInt = 61 := rfl
            have e_94 := mt i_lt.mpr (show ¬ ((61 : Int32) < (F66 11)) from c_83)
            unfold cb_X3_joinedOperands_113
            unfold cb_X3_joinedOperands_118
            refine WP.ite (fun c_95 => absurd c_95 (by decide)) (fun _ => ?_)
            unfold cb_X3_joinedOperands_123
            refine WP.bind (cs_X3_strength hfu (F66 11) F66 G66 hI66) ?_
            rintro r96 _ _ ⟨rfl, rfl, hp96⟩
            dsimp only
            unfold cb_X3_joinedOperands_135
            have q_97 := i_rng x1
            have q_98 := i_rng r96
            refine WP.bind (cs_X3_settle hfu x1 r96 F66 G66 hI66) ?_
            rintro r99 F99 G99 ⟨hI99, hB99, hT99, hO99, hp99⟩
            dsimp only
            have q_100 := hI99.r 10 rfl
            have e_101 : (F99 10).toInt = (F66 10).toInt := hO99
            unfold cb_X3_joinedOperands_138
            have q_102 := i_rng (F99 11)
            refine WP.bind (cs_X3_waits hfu (F99 11) F99 G99 hI99) ?_
            rintro r103 F103 G103 ⟨hI103, hB103, hT103, hO103, hp103⟩
            dsimp only
            have q_104 := hI103.r 10 rfl
            have e_105 : (F103 10).toInt = (F99 10).toInt := hO103
            unfold cb_X3_joinedOperands_149
            refine WP.bind (cs_X2_next hfu F103 G103 hI103) ?_
            rintro r106 F106 G106 ⟨hI106, hB106, hT106, hO106, hp106⟩
            dsimp only
            have q_107 := hI106.r 10 rfl
            have e_108 : (F106 10).toInt = (F103 10).toInt := hO106
            unfold cb_X3_joinedOperands_156
            have l_109 : (1 : Int32).toInt = 1 := rfl
            have q_110 := i_rng x3
            obtain ⟨k_111, e_112, e_113⟩ := i_add x3 (1 : Int32)
            exact hag_9 x1 (1 : Int32) (x3 + (1 : Int32)) F106 G106 hI106 (KB.tr (KB.tr (KB.tr (KB.tr hB hB66) hB99) hB103) hB106) (KT.tr (KT.tr (KT.tr (KT.tr hT hT66) hT99) hT103) hT106) (KO.tr (KO.tr (KO.tr (KO.tr hO hO66) hO99) hO103) hO106) (by omega)
      · skip
        have l_114 : (0 : Int32).toInt = 0 := rfl
        have e_115 := mt i_eq.mpr (show ¬ (r60 = (0 : Int32)) from c_62)
        unfold cb_X3_joinedOperands_44
        refine WP.ite (fun c_116 => ?_) (fun c_116 => ?_)
        · skip
          have l_117 : (58 : Int32).toInt = 58 := rfl
          have e_118 := i_eq.mp (show (F 11) = (58 : Int32) from c_116)
          unfold cb_X3_joinedOperands_57
          unfold cb_X3_joinedOperands_69
          have l_119 : (64 : Int32).toInt = 64 := rfl
          refine WP.bind (cs_X3_waits hfu (64 : Int32) F G hI) ?_
          rintro r120 F120 G120 ⟨hI120, hB120, hT120, hO120, hp120⟩
          dsimp only
          have q_121 := hI.r 10 rfl
          have q_122 := hI120.r 10 rfl
          have e_123 : (F120 10).toInt = (F 10).toInt := hO120
          unfold cb_X3_joinedOperands_72
          refine WP.bind (cs_X2_next hfu F120 G120 hI120) ?_
          rintro r124 F124 G124 ⟨hI124, hB124, hT124, hO124, hp124⟩
          dsimp only
          have q_125 := hI124.r 10 rfl
          have e_126 : (F124 10).toInt = (F120 10).toInt := hO124
          unfold cb_X3_joinedOperands_79
          have q_127 := i_rng x1
          have q_128 := i_rng x3
          have l_129 : (1 : Int32).toInt = 1 := rfl
          obtain ⟨k_130, e_131, e_132⟩ := i_add x4 (1 : Int32)
          exact ihn x1 x3 (x4 + (1 : Int32)) F124 G124 hI124 (KB.tr (KB.tr hB hB120) hB124) (KT.tr (KT.tr hT hT120) hT124) (KO.tr (KO.tr hO hO120) hO124) (show x3.toInt < 4001 by omega) (show (2147483647 - x3.toInt).toNat < n_9 + 1 by omega) (by omega)
        · skip
          have l_133 : (58 : Int32).toInt = 58 := rfl
          have e_134 := mt i_eq.mpr (show ¬ ((F 11) = (58 : Int32)) from c_116)
          unfold cb_X3_joinedOperands_62
          unfold cb_X3_joinedOperands_69
          refine WP.bind (cs_X3_waits hfu (F 11) F G hI) ?_
          rintro r135 F135 G135 ⟨hI135, hB135, hT135, hO135, hp135⟩
          dsimp only
          have q_136 := hI.r 10 rfl
          have q_137 := hI135.r 10 rfl
          have e_138 : (F135 10).toInt = (F 10).toInt := hO135
          unfold cb_X3_joinedOperands_72
          refine WP.bind (cs_X2_next hfu F135 G135 hI135) ?_
          rintro r139 F139 G139 ⟨hI139, hB139, hT139, hO139, hp139⟩
          dsimp only
          have q_140 := hI139.r 10 rfl
          have e_141 : (F139 10).toInt = (F135 10).toInt := hO139
          unfold cb_X3_joinedOperands_79
          have q_142 := i_rng x1
          have q_143 := i_rng x3
          have l_144 : (1 : Int32).toInt = 1 := rfl
          obtain ⟨k_145, e_146, e_147⟩ := i_add x4 (1 : Int32)
          exact ihn x1 x3 (x4 + (1 : Int32)) F139 G139 hI139 (KB.tr (KB.tr hB hB135) hB139) (KT.tr (KT.tr hT hT135) hT139) (KO.tr (KO.tr hO hO135) hO139) (show x3.toInt < 4001 by omega) (show (2147483647 - x3.toInt).toNat < n_9 + 1 by omega) (by omega)
theorem cz_X3_joinedOperands_9 {fu : Nat} (hfu : 8589934592 ≤ fu) (rc : RC) {d : Nat} (ih : cIH1 rc d) {F0 : PF} {G0 : PG} (hd : 5 * (40 - (F0 10).toInt) + 4 ≤ (d + 1 : Int)) : ∀ (n : Nat) (x1 : Int32) (x2 : Int32) (x3 : Int32) (F : PF) (G : PG) (hI : CI F G) (hB : KB F0 G0 F G) (hT : KT F0 F) (hO : KO F0 F) (hn : (2147483647 - x3.toInt).toNat < n), WP (cl_X3_joinedOperands_9 fu rc n x1 x2 x3 F G) (fun r' F' G' => CI F' G' ∧ KB F0 G0 F' G' ∧ KT F0 F' ∧ KO F0 F' ∧ True) := by
  intro n
  induction n with
  | zero =>
    intro x1 x2 x3 F G hI hB hT hO hn
    exact absurd hn (Nat.not_lt_zero _)
  | succ n ihn =>
    intro x1 x2 x3 F G hI hB hT hO hn
    show WP (cb_X3_joinedOperands_9 fu rc (cl_X3_joinedOperands_9 fu rc n)  x1 x2 x3 F G) _
    have q_O : (F 10).toInt = (F0 10).toInt := hO
    have q_O1 := hI.r 10 rfl
    unfold cb_X3_joinedOperands_9
    refine WP.ite (fun c_1 => ?_) (fun c_1 => ?_)
    · skip
      have l_2 : (4001 : Int32).toInt = 4001 := rfl
      have q_3 := i_rng x3
      have e_4 := i_le.mp (show (4001 : Int32) ≤ x3 from c_1)
      unfold cb_X3_joinedOperands_162
      have q_5 := i_rng x1
      have l_6 : (0 : Int32).toInt = 0 := rfl
      refine WP.bind (cs_X3_settle hfu x1 (0 : Int32) F G hI) ?_
      rintro r7 F7 G7 ⟨hI7, hB7, hT7, hO7, hp7⟩
      dsimp only
      have q_8 := hI.r 10 rfl
      have q_9 := hI7.r 10 rfl
      have e_10 : (F7 10).toInt = (F 10).toInt := hO7
      unfold cb_X3_joinedOperands_168
      refine WP.ret ?_
      exact ⟨hI7, (KB.tr hB hB7), (KT.tr hT hT7), (KO.tr hO hO7), trivial⟩
    · skip
      have l_11 : (4001 : Int32).toInt = 4001 := rfl
      have q_12 := i_rng x3
      have e_13 := mt i_le.mpr (show ¬ ((4001 : Int32) ≤ x3) from c_1)
      unfold cb_X3_joinedOperands_16
      refine WP.ite (fun c_14 => ?_) (fun c_14 => ?_)
      · skip
        have q_15 := i_rng x2
        have l_16 : (0 : Int32).toInt = 0 := rfl
        have e_17 := i_eq.mp (show x2 = (0 : Int32) from c_14)
        unfold cb_X3_joinedOperands_162
        have q_18 := i_rng x1
        refine WP.bind (cs_X3_settle hfu x1 (0 : Int32) F G hI) ?_
        rintro r19 F19 G19 ⟨hI19, hB19, hT19, hO19, hp19⟩
        dsimp only
        have q_20 := hI.r 10 rfl
        have q_21 := hI19.r 10 rfl
        have e_22 : (F19 10).toInt = (F 10).toInt := hO19
        unfold cb_X3_joinedOperands_168
        refine WP.ret ?_
        exact ⟨hI19, (KB.tr hB hB19), (KT.tr hT hT19), (KO.tr hO hO19), trivial⟩
      · skip
        have q_23 := i_rng x2
        have l_24 : (0 : Int32).toInt = 0 := rfl
        have e_25 := mt i_eq.mpr (show ¬ (x2 = (0 : Int32)) from c_14)
        unfold cb_X3_joinedOperands_20
        have q_26 := i_rng x1
        exact cz_X3_joinedOperands_23 (F0 := F0) (G0 := G0) hfu rc ih hd (cl_X3_joinedOperands_9 fu rc n) ihn fu x1 x3 (0 : Int32) F G hI hB hT hO (show x3.toInt < 4001 by omega) (show (2147483647 - x3.toInt).toNat < n + 1 by omega) (by omega)
theorem ct_X3_joinedOperands {fu d : Nat} (hfu : 8589934592 ≤ fu) (rc : RC) (ih : cIH1 rc d) (F : PF) (G : PG) (hI : CI F G) (hd : 5 * (40 - (F 10).toInt) + 4 ≤ (d + 1 : Int)) : WP (ch_X3_joinedOperands fu rc F G) (fun r' F' G' => CI F' G' ∧ KB F G F' G' ∧ KT F F' ∧ KO F F' ∧ True) := by
  unfold ch_X3_joinedOperands
  have q_10 := hI.r 10 rfl
  unfold cb_X3_joinedOperands_0
  have q_1 := hI.r 21 rfl
  have l_2 : (1 : Int32).toInt = 1 := rfl
  have l_3 : (0 : Int32).toInt = 0 := rfl
  exact cz_X3_joinedOperands_9 (F0 := F) (G0 := G) hfu rc ih hd fu (F 21) (1 : Int32) (0 : Int32) F G hI (KB.rf : KB F G F G) (rfl : KT F F) (rfl : KO F F) (by omega)
theorem ct_X3_named {fu d : Nat} (hfu : 8589934592 ≤ fu) (rc : RC) (ih : cIH1 rc d) (F : PF) (G : PG) (hI : CI F G) (hd : 5 * (40 - (F 10).toInt) + 2 ≤ (d + 1 : Int)) : WP (ch_X3_named fu rc F G) (fun r' F' G' => CI F' G' ∧ KB F G F' G' ∧ KT F F' ∧ KO F F' ∧ True) := by
  unfold ch_X3_named
  have q_10 := hI.r 10 rfl
  unfold cb_X3_named_0
  have q_1 := i_rng (F 12)
  have q_2 := i_rng (F 13)
  refine WP.bind (cs_X5_meant hfu (F 12) (F 13) F G hI) ?_
  rintro r3 F3 G3 ⟨hI3, hB3, hT3, hO3, hp3⟩
  dsimp only
  have q_4 := hI.r 10 rfl
  have q_5 := hI3.r 10 rfl
  have e_6 : (F3 10).toInt = (F 10).toInt := hO3
  unfold cb_X3_named_23
  refine WP.bind (cs_X2_next hfu F3 G3 hI3) ?_
  rintro r7 F7 G7 ⟨hI7, hB7, hT7, hO7, hp7⟩
  dsimp only
  have q_8 := hI7.r 10 rfl
  have e_9 : (F7 10).toInt = (F3 10).toInt := hO7
  unfold cb_X3_named_31
  have q_10 := i_rng r3
  have q_11 := i_rng (F7 11)
  refine WP.bind (cs_X5_wantValue hfu r3 (F 13) (F7 11) F7 G7 hI7) ?_
  rintro r12 F12 G12 ⟨hI12, hB12, hT12, hO12, hp12⟩
  dsimp only
  have q_13 := hI12.r 10 rfl
  have e_14 : (F12 10).toInt = (F7 10).toInt := hO12
  unfold cb_X3_named_47
  refine WP.ite (fun c_15 => ?_) (fun c_15 => ?_)
  · skip
    have q_16 := i_rng (F12 11)
    have l_17 : (19 : Int32).toInt = 19 := rfl
    have e_18 := i_eq.mp (show (F12 11) = (19 : Int32) from c_15)
    unfold cb_X3_named_59
    refine WP.bind (ih.1 r3 (F 13) F12 G12 hI12 (by omega)) ?_
    rintro r19 F19 G19 ⟨hI19, hB19, hT19, hO19, hp19⟩
    dsimp only
    have q_20 := hI19.r 10 rfl
    have e_21 : (F19 10).toInt = (F12 10).toInt := hO19
    unfold cb_X3_named_65
    unfold cb_X3_named_98
    refine WP.ret ?_
    exact ⟨hI19, (KB.tr (KB.tr (KB.tr (KB.tr (KB.rf : KB F G F G) hB3) hB7) hB12) hB19), (KT.tr (KT.tr (KT.tr (KT.tr (rfl : KT F F) hT3) hT7) hT12) hT19), (KO.tr (KO.tr (KO.tr (KO.tr (rfl : KO F F) hO3) hO7) hO12) hO19), trivial⟩
  · skip
    have q_22 := i_rng (F12 11)
    have l_23 : (19 : Int32).toInt = 19 := rfl
    have e_24 := mt i_eq.mpr (show ¬ ((F12 11) = (19 : Int32)) from c_15)
    unfold cb_X3_named_68
    refine WP.ite (fun c_25 => ?_) (fun c_25 => ?_)
    · skip
      have l_26 : (21 : Int32).toInt = 21 := rfl
      have e_27 := i_eq.mp (show (F12 11) = (21 : Int32) from c_25)
      unfold cb_X3_named_80
      refine WP.bind (ih.2.2.1 r3 F12 G12 hI12 (by omega)) ?_
      rintro r28 F28 G28 ⟨hI28, hB28, hT28, hO28, hp28⟩
      dsimp only
      have q_29 := hI28.r 10 rfl
      have e_30 : (F28 10).toInt = (F12 10).toInt := hO28
      unfold cb_X3_named_85
      refine WP.bind (cs_X3_fetch hfu r3 F28 G28 hI28) ?_
      rintro r31 F31 G31 ⟨hI31, hB31, hT31, hO31, hp31⟩
      dsimp only
      have q_32 := hI31.r 10 rfl
      have e_33 : (F31 10).toInt = (F28 10).toInt := hO31
      unfold cb_X3_named_90
      unfold cb_X3_named_98
      refine WP.ret ?_
      exact ⟨hI31, (KB.tr (KB.tr (KB.tr (KB.tr (KB.tr (KB.rf : KB F G F G) hB3) hB7) hB12) hB28) hB31), (KT.tr (KT.tr (KT.tr (KT.tr (KT.tr (rfl : KT F F) hT3) hT7) hT12) hT28) hT31), (KO.tr (KO.tr (KO.tr (KO.tr (KO.tr (rfl : KO F F) hO3) hO7) hO12) hO28) hO31), trivial⟩
    · skip
      have l_34 : (21 : Int32).toInt = 21 := rfl
      have e_35 := mt i_eq.mpr (show ¬ ((F12 11) = (21 : Int32)) from c_25)
      unfold cb_X3_named_93
      refine WP.bind (cs_X3_load hfu r3 F12 G12 hI12) ?_
      rintro r36 F36 G36 ⟨hI36, hB36, hT36, hO36, hp36⟩
      dsimp only
      have q_37 := hI36.r 10 rfl
      have e_38 : (F36 10).toInt = (F12 10).toInt := hO36
      unfold cb_X3_named_98
      refine WP.ret ?_
      exact ⟨hI36, (KB.tr (KB.tr (KB.tr (KB.tr (KB.rf : KB F G F G) hB3) hB7) hB12) hB36), (KT.tr (KT.tr (KT.tr (KT.tr (rfl : KT F F) hT3) hT7) hT12) hT36), (KO.tr (KO.tr (KO.tr (KO.tr (rfl : KO F F) hO3) hO7) hO12) hO36), trivial⟩
theorem ct_X3_operand {fu d : Nat} (hfu : 8589934592 ≤ fu) (rc : RC) (ih : cIH1 rc d) (F : PF) (G : PG) (hI : CI F G) (hd : 5 * (40 - (F 10).toInt) + 3 ≤ (d + 1 : Int)) : WP (ch_X3_operand fu rc F G) (fun r' F' G' => CI F' G' ∧ KB F G F' G' ∧ KT F F' ∧ KO F F' ∧ True) := by
  unfold ch_X3_operand
  have q_10 := hI.r 10 rfl
  unfold cb_X3_operand_0
  refine WP.ite (fun c_1 => ?_) (fun c_1 => ?_)
  · skip
    have q_2 := i_rng (F 11)
    have l_3 : (2 : Int32).toInt = 2 := rfl
    have e_4 := i_eq.mp (show (F 11) = (2 : Int32) from c_1)
    unfold cb_X3_operand_74
    have q_5 := hI.r 10 rfl
    refine WP.bind (ih.2.2.2.2.1 F G hI (by omega)) ?_
    rintro r6 F6 G6 ⟨hI6, hB6, hT6, hO6, hp6⟩
    dsimp only
    have q_7 := hI6.r 10 rfl
    have e_8 : (F6 10).toInt = (F 10).toInt := hO6
    unfold cb_X3_operand_78
    unfold cb_X3_operand_183
    refine WP.ret ?_
    exact ⟨hI6, (KB.tr (KB.rf : KB F G F G) hB6), (KT.tr (rfl : KT F F) hT6), (KO.tr (rfl : KO F F) hO6), trivial⟩
  have q_9 := i_rng (F 11)
  have l_10 : (2 : Int32).toInt = 2 := rfl
  have e_11 := mt i_eq.mpr (show ¬ ((F 11) = (2 : Int32)) from c_1)
  refine WP.ite (fun c_12 => ?_) (fun c_12 => ?_)
  · skip
    have l_13 : (3 : Int32).toInt = 3 := rfl
    have e_14 := i_eq.mp (show (F 11) = (3 : Int32) from c_12)
    unfold cb_X3_operand_48
    have l_15 : (66 : Int32).toInt = 66 := rfl
    have q_16 := i_rng (F 12)
    refine WP.bind (cs_X1_addPair hfu (66 : Int32) (F 12) F G hI) ?_
    rintro r17 F17 G17 ⟨hI17, hB17, hT17, hO17, hp17⟩
    dsimp only
    have q_18 := hI.r 10 rfl
    have q_19 := hI17.r 10 rfl
    have e_20 : (F17 10).toInt = (F 10).toInt := hO17
    unfold cb_X3_operand_64
    refine WP.bind (cs_X2_next hfu F17 G17 hI17) ?_
    rintro r21 F21 G21 ⟨hI21, hB21, hT21, hO21, hp21⟩
    dsimp only
    have q_22 := hI21.r 10 rfl
    have e_23 : (F21 10).toInt = (F17 10).toInt := hO21
    unfold cb_X3_operand_71
    unfold cb_X3_operand_183
    refine WP.ret ?_
    exact ⟨hI21, (KB.tr (KB.tr (KB.rf : KB F G F G) hB17) hB21), (KT.tr (KT.tr (rfl : KT F F) hT17) hT21), (KO.tr (KO.tr (rfl : KO F F) hO17) hO21), trivial⟩
  have l_24 : (3 : Int32).toInt = 3 := rfl
  have e_25 := mt i_eq.mpr (show ¬ ((F 11) = (3 : Int32)) from c_12)
  refine WP.ite (fun c_26 => ?_) (fun c_26 => ?_)
  · skip
    have l_27 : (17 : Int32).toInt = 17 := rfl
    have e_28 := i_eq.mp (show (F 11) = (17 : Int32) from c_26)
    unfold cb_X3_operand_81
    refine WP.ite (fun c_29 => ?_) (fun c_29 => ?_)
    · skip
      have q_30 := hI.r 46 rfl
      have l_31 : (0 : Int32).toInt = 0 := rfl
      have e_32 := i_eq.mp (show (F 46) = (0 : Int32) from c_29)
      unfold cb_X3_operand_107
      refine WP.bind (cs_X2_next hfu F G hI) ?_
      rintro r33 F33 G33 ⟨hI33, hB33, hT33, hO33, hp33⟩
      dsimp only
      have q_34 := hI.r 10 rfl
      have q_35 := hI33.r 10 rfl
      have e_36 : (F33 10).toInt = (F 10).toInt := hO33
      unfold cb_X3_operand_114
      have l_37 : (19 : Int32).toInt = 19 := rfl
      refine WP.bind (cs_X2_opens hfu (19 : Int32) F33 G33 hI33) ?_
      rintro r38 F38 G38 ⟨hI38, hB38, hT38, hp38⟩
      dsimp only
      have q_39 := b_rng (hp38.1)
      have q_40 := hI38.r 10 rfl
      have e_41 : r38.toInt = 1 → (F38 10).toInt = (F33 10).toInt + 1 ∧ (F33 10).toInt < 40 := hp38.2.1
      have e_42 : r38.toInt = 0 → (F38 10).toInt = (F33 10).toInt := hp38.2.2
      unfold cb_X3_operand_123
      refine WP.ite (fun c_43 => ?_) (fun c_43 => ?_)
      · skip
        have e_44 := i_eq.mp (show r38 = (0 : Int32) from c_43)
        unfold cb_X3_operand_135
        refine WP.bind (cs_X1_add hfu (17 : Int32) F38 G38 hI38) ?_
        rintro r45 F45 G45 ⟨hI45, hB45, hT45, hO45, hp45⟩
        dsimp only
        have q_46 := hI45.r 10 rfl
        have e_47 : (F45 10).toInt = (F38 10).toInt := hO45
        have q_48 := hI38.r 21 rfl
        have q_49 := hI45.r 21 rfl
        have e_50 : (F45 21).toInt = (F38 21).toInt := congrArg Int32.toInt hp45
        unfold cb_X3_operand_144
        unfold cb_X3_operand_183
        refine WP.ret ?_
        exact ⟨hI45, (KB.tr (KB.tr (KB.tr (KB.rf : KB F G F G) hB33) hB38) hB45), (KT.tr (KT.tr (KT.tr (rfl : KT F F) hT33) hT38) hT45), (show (F45 10).toInt = (F 10).toInt by omega), trivial⟩
      · skip
        have e_51 := mt i_eq.mpr (show ¬ (r38 = (0 : Int32)) from c_43)
        unfold cb_X3_operand_126
        have l_52 : (20 : Int32).toInt = 20 := rfl
        refine WP.bind (cs_X2_closesWith hfu (20 : Int32) F38 G38 hI38 (show 1 ≤ (F38 10).toInt by omega)) ?_
        rintro r53 F53 G53 ⟨hI53, hB53, hT53, hp53⟩
        dsimp only
        have q_54 := hI53.r 10 rfl
        have e_55 : (F53 10).toInt = (F38 10).toInt - 1 := hp53
        unfold cb_X3_operand_135
        refine WP.bind (cs_X1_add hfu (17 : Int32) F53 G53 hI53) ?_
        rintro r56 F56 G56 ⟨hI56, hB56, hT56, hO56, hp56⟩
        dsimp only
        have q_57 := hI56.r 10 rfl
        have e_58 : (F56 10).toInt = (F53 10).toInt := hO56
        have q_59 := hI53.r 21 rfl
        have q_60 := hI56.r 21 rfl
        have e_61 : (F56 21).toInt = (F53 21).toInt := congrArg Int32.toInt hp56
        unfold cb_X3_operand_144
        unfold cb_X3_operand_183
        refine WP.ret ?_
        exact ⟨hI56, (KB.tr (KB.tr (KB.tr (KB.tr (KB.rf : KB F G F G) hB33) hB38) hB53) hB56), (KT.tr (KT.tr (KT.tr (KT.tr (rfl : KT F F) hT33) hT38) hT53) hT56), (show (F56 10).toInt = (F 10).toInt by omega), trivial⟩
    · skip
      have q_62 := hI.r 46 rfl
      have l_63 : (0 : Int32).toInt = 0 := rfl
      have e_64 := mt i_eq.mpr (show ¬ ((F 46) = (0 : Int32)) from c_29)
      unfold cb_X3_operand_91
      have l_65 : (7 : Int32).toInt = 7 := rfl
      have q_66 := i_rng (F 13)
      refine WP.bind (cs_X5_note hfu (7 : Int32) (F 13) F G hI) ?_
      rintro r67 F67 G67 ⟨hI67, hB67, hT67, hO67, hp67⟩
      dsimp only
      have q_68 := hI.r 10 rfl
      have q_69 := hI67.r 10 rfl
      have e_70 : (F67 10).toInt = (F 10).toInt := hO67
      unfold cb_X3_operand_107
      refine WP.bind (cs_X2_next hfu F67 G67 hI67) ?_
      rintro r71 F71 G71 ⟨hI71, hB71, hT71, hO71, hp71⟩
      dsimp only
      have q_72 := hI71.r 10 rfl
      have e_73 : (F71 10).toInt = (F67 10).toInt := hO71
      unfold cb_X3_operand_114
      have l_74 : (19 : Int32).toInt = 19 := rfl
      refine WP.bind (cs_X2_opens hfu (19 : Int32) F71 G71 hI71) ?_
      rintro r75 F75 G75 ⟨hI75, hB75, hT75, hp75⟩
      dsimp only
      have q_76 := b_rng (hp75.1)
      have q_77 := hI75.r 10 rfl
      have e_78 : r75.toInt = 1 → (F75 10).toInt = (F71 10).toInt + 1 ∧ (F71 10).toInt < 40 := hp75.2.1
      have e_79 : r75.toInt = 0 → (F75 10).toInt = (F71 10).toInt := hp75.2.2
      unfold cb_X3_operand_123
      refine WP.ite (fun c_80 => ?_) (fun c_80 => ?_)
      · skip
        have e_81 := i_eq.mp (show r75 = (0 : Int32) from c_80)
        unfold cb_X3_operand_135
        refine WP.bind (cs_X1_add hfu (17 : Int32) F75 G75 hI75) ?_
        rintro r82 F82 G82 ⟨hI82, hB82, hT82, hO82, hp82⟩
        dsimp only
        have q_83 := hI82.r 10 rfl
        have e_84 : (F82 10).toInt = (F75 10).toInt := hO82
        have q_85 := hI75.r 21 rfl
        have q_86 := hI82.r 21 rfl
        have e_87 : (F82 21).toInt = (F75 21).toInt := congrArg Int32.toInt hp82
        unfold cb_X3_operand_144
        unfold cb_X3_operand_183
        refine WP.ret ?_
        exact ⟨hI82, (KB.tr (KB.tr (KB.tr (KB.tr (KB.rf : KB F G F G) hB67) hB71) hB75) hB82), (KT.tr (KT.tr (KT.tr (KT.tr (rfl : KT F F) hT67) hT71) hT75) hT82), (show (F82 10).toInt = (F 10).toInt by omega), trivial⟩
      · skip
        have e_88 := mt i_eq.mpr (show ¬ (r75 = (0 : Int32)) from c_80)
        unfold cb_X3_operand_126
        have l_89 : (20 : Int32).toInt = 20 := rfl
        refine WP.bind (cs_X2_closesWith hfu (20 : Int32) F75 G75 hI75 (show 1 ≤ (F75 10).toInt by omega)) ?_
        rintro r90 F90 G90 ⟨hI90, hB90, hT90, hp90⟩
        dsimp only
        have q_91 := hI90.r 10 rfl
        have e_92 : (F90 10).toInt = (F75 10).toInt - 1 := hp90
        unfold cb_X3_operand_135
        refine WP.bind (cs_X1_add hfu (17 : Int32) F90 G90 hI90) ?_
        rintro r93 F93 G93 ⟨hI93, hB93, hT93, hO93, hp93⟩
        dsimp only
        have q_94 := hI93.r 10 rfl
        have e_95 : (F93 10).toInt = (F90 10).toInt := hO93
        have q_96 := hI90.r 21 rfl
        have q_97 := hI93.r 21 rfl
        have e_98 : (F93 21).toInt = (F90 21).toInt := congrArg Int32.toInt hp93
        unfold cb_X3_operand_144
        unfold cb_X3_operand_183
        refine WP.ret ?_
        exact ⟨hI93, (KB.tr (KB.tr (KB.tr (KB.tr (KB.tr (KB.rf : KB F G F G) hB67) hB71) hB75) hB90) hB93), (KT.tr (KT.tr (KT.tr (KT.tr (KT.tr (rfl : KT F F) hT67) hT71) hT75) hT90) hT93), (show (F93 10).toInt = (F 10).toInt by omega), trivial⟩
  have l_99 : (17 : Int32).toInt = 17 := rfl
  have e_100 := mt i_eq.mpr (show ¬ ((F 11) = (17 : Int32)) from c_26)
  refine WP.ite (fun c_101 => ?_) (fun c_101 => ?_)
  · skip
    have l_102 : (19 : Int32).toInt = 19 := rfl
    have e_103 := i_eq.mp (show (F 11) = (19 : Int32) from c_101)
    unfold cb_X3_operand_147
    refine WP.bind (cs_X2_opens hfu (19 : Int32) F G hI) ?_
    rintro r104 F104 G104 ⟨hI104, hB104, hT104, hp104⟩
    dsimp only
    have q_105 := b_rng (hp104.1)
    have q_106 := hI.r 10 rfl
    have q_107 := hI104.r 10 rfl
    have e_108 : r104.toInt = 1 → (F104 10).toInt = (F 10).toInt + 1 ∧ (F 10).toInt < 40 := hp104.2.1
    have e_109 : r104.toInt = 0 → (F104 10).toInt = (F 10).toInt := hp104.2.2
    unfold cb_X3_operand_156
    refine WP.ite (fun c_110 => ?_) (fun c_110 => ?_)
    · skip
      have l_111 : (0 : Int32).toInt = 0 := rfl
      have e_112 := i_eq.mp (show r104 = (0 : Int32) from c_110)
      unfold cb_X3_operand_183
      refine WP.ret ?_
      exact ⟨hI104, (KB.tr (KB.rf : KB F G F G) hB104), (KT.tr (rfl : KT F F) hT104), (show (F104 10).toInt = (F 10).toInt by omega), trivial⟩
    · skip
      have l_113 : (0 : Int32).toInt = 0 := rfl
      have e_114 := mt i_eq.mpr (show ¬ (r104 = (0 : Int32)) from c_110)
      unfold cb_X3_operand_159
      refine WP.bind (ih.2.1 F104 G104 hI104 (by omega)) ?_
      rintro r115 F115 G115 ⟨hI115, hB115, hT115, hO115, hp115⟩
      dsimp only
      have q_116 := hI115.r 10 rfl
      have e_117 : (F115 10).toInt = (F104 10).toInt := hO115
      unfold cb_X3_operand_163
      have l_118 : (20 : Int32).toInt = 20 := rfl
      refine WP.bind (cs_X2_closesWith hfu (20 : Int32) F115 G115 hI115 (show 1 ≤ (F115 10).toInt by omega)) ?_
      rintro r119 F119 G119 ⟨hI119, hB119, hT119, hp119⟩
      dsimp only
      have q_120 := hI119.r 10 rfl
      have e_121 : (F119 10).toInt = (F115 10).toInt - 1 := hp119
      unfold cb_X3_operand_172
      unfold cb_X3_operand_183
      refine WP.ret ?_
      exact ⟨hI119, (KB.tr (KB.tr (KB.tr (KB.rf : KB F G F G) hB104) hB115) hB119), (KT.tr (KT.tr (KT.tr (rfl : KT F F) hT104) hT115) hT119), (show (F119 10).toInt = (F 10).toInt by omega), trivial⟩
  have l_122 : (19 : Int32).toInt = 19 := rfl
  have e_123 := mt i_eq.mpr (show ¬ ((F 11) = (19 : Int32)) from c_101)
  unfold cb_X3_operand_175
  refine WP.bind (cs_X2_fail hfu (2 : Int32) F G hI) ?_
  rintro r124 F124 G124 ⟨hI124, hB124, hT124, hO124, hp124⟩
  dsimp only
  have q_125 := hI.r 10 rfl
  have q_126 := hI124.r 10 rfl
  have e_127 : (F124 10).toInt = (F 10).toInt := hO124
  unfold cb_X3_operand_183
  refine WP.ret ?_
  exact ⟨hI124, (KB.tr (KB.rf : KB F G F G) hB124), (KT.tr (rfl : KT F F) hT124), (KO.tr (rfl : KO F F) hO124), trivial⟩
