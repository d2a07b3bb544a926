def MNS (F F1 : PF) : Prop := 0 ≤ (F 47).toInt → 0 ≤ (F1 47).toInt
theorem MNS.rf {F : PF} : MNS F F := id
theorem MNS.tr {F F1 F2 : PF} (h : MNS F F1) (h1 : MNS F1 F2) : MNS F F2 := fun q => h1 (h q)
theorem MNS.f {F F1 : PF} {k : Nat} {x : Int32} (e : (k == 44 || k == 47 || k == 8 || k == 46) = false) (h : MNS F F1) : MNS F (fup F1 k x) := by
  have e2 : 47 ≠ k := fun q => by rw [← q] at e; cases e
  unfold MNS
  rw [fup_n e2]
  exact h
theorem MNS.kx {a b : List Nat} {F F1 : PF} {G G1 : PG} (h : KX a b F G F1 G1) (e1 : a.contains 44 = false) (e2 : a.contains 47 = false) (e3 : a.contains 8 = false) (e4 : a.contains 46 = false) : MNS F F1 := by
  unfold MNS
  rw [h.1 47 e2]
  exact id
def nkI (rc : RC) : Prop := ∀ (i : Nat) (x y : Int32) (F : PF) (G : PG), PP (rc i x y F G) (fun _ F1 _ => MNS F F1)
theorem nk_fails {fu : Nat} (k : Int32) (hk : 0 < k.toInt) (F : PF) (G : PG) : PP (mf_fails fu k F G) (fun _ F' _ => MNS F F') := PP.mono (mp_fails k hk F G) (fun _ F1 _ q => by
  unfold MNS
  rw [q.2.2.2.1 47 rfl]
  exact id)
theorem nk_nt {F F' : PF} {G G' : PG} (h : KX [47, 48, 49] [] F G F' G' ∧ G = G' ∧ (¬ F 46 = 0 → 0 < (F' 47).toInt) ∧ (F 46 = 0 → F = F')) : MNS F F' := by
  obtain ⟨h1, -, h3, h4⟩ := h
  intro q
  by_cases c : F 46 = 0
  · rw [← h4 c]
    exact q
  · have := h3 c
    omega
theorem nk_note {fu : Nat} (k p : Int32) (hk : 0 < k.toInt) (F : PF) (G : PG) : PP (mf_note fu k p F G) (fun _ F' _ => MNS F F') := PP.mono (mp_note k p hk F G) (fun _ F1 _ q => nk_nt q)
theorem nk_noteAs {fu : Nat} (k p o : Int32) (hk : 0 < k.toInt) (F : PF) (G : PG) : PP (mf_noteAs fu k p o F G) (fun _ F' _ => MNS F F') := PP.mono (mp_noteAs k p o hk F G) (fun _ F1 _ q => nk_nt q)
theorem nkj_sign_20 {fu : Nat} {F0 : PF} (z0 : Int32) (F : PF) (G : PG) (hM : MNS F0 F) : PP (mb_sign_20 fu z0 F G) (fun _ F' _ => MNS F0 F') := by
  unfold mb_sign_20
  refine PP.bz (fun _ => ?_)
  refine PP.ret ?_
  exact hM
theorem nkj_sign_15 {fu : Nat} {F0 : PF} (F : PF) (G : PG) (hM : MNS F0 F) : PP (mb_sign_15 fu F G) (fun _ F' _ => MNS F0 F') := by
  unfold mb_sign_15
  refine PP.bind (nk_fails (2 : Int32) (by decide) F G) ?_
  intro r1 F1 G1 hM1
  dsimp only
  exact nkj_sign_20 r1 F1 G1 (MNS.tr hM hM1)
theorem nkj_sign_31 {fu : Nat} {F0 : PF} (F : PF) (G : PG) (hM : MNS F0 F) : PP (mb_sign_31 fu F G) (fun _ F' _ => MNS F0 F') := by
  unfold mb_sign_31
  refine PP.ret ?_
  exact hM
theorem nkj_sign_21 {fu : Nat} {F0 : PF} (F : PF) (G : PG) (hM : MNS F0 F) : PP (mb_sign_21 fu F G) (fun _ F' _ => MNS F0 F') := by
  unfold mb_sign_21
  exact nkj_sign_31 (fup F 42 ((F 42) + (1 : Int32))) G (MNS.f (k := 42) rfl hM)
theorem nkj_sign_12 {fu : Nat} {F0 : PF} (z0 : Int32) (F : PF) (G : PG) (hM : MNS F0 F) : PP (mb_sign_12 fu z0 F G) (fun _ F' _ => MNS F0 F') := by
  unfold mb_sign_12
  refine PP.ite (fun c_1 => ?_) (fun c_1 => ?_)
  · skip
    exact nkj_sign_15 F G hM
  · skip
    exact nkj_sign_21 F G hM
theorem nkj_sign_7 {fu : Nat} {F0 : PF} (x1 : Int32) (F : PF) (G : PG) (hM : MNS F0 F) : PP (mb_sign_7 fu x1 F G) (fun _ F' _ => MNS F0 F') := by
  unfold mb_sign_7
  refine PP.bind (mw_isSign x1 F G) ?_
  intro r1 F1 G1 hM1
  dsimp only
  exact nkj_sign_12 r1 F1 G1 (MNS.tr hM (MNS.kx hM1 rfl rfl rfl rfl))
theorem nk_sign {fu : Nat} (x1 : Int32) (F : PF) (G : PG) : PP (mf_sign fu x1 F G) (fun _ F' _ => MNS F F') := by
  unfold mf_sign
  unfold mb_sign_0
  refine PP.ite (fun c_1 => ?_) (fun c_1 => ?_)
  · skip
    exact nkj_sign_15 F G MNS.rf
  · skip
    exact nkj_sign_7 x1 F G MNS.rf
theorem nkj_word_32 {fu : Nat} {F0 : PF} (z0 : Int32) (F : PF) (G : PG) (hM : MNS F0 F) : PP (mb_word_32 fu z0 F G) (fun _ F' _ => MNS F0 F') := by
  unfold mb_word_32
  refine PP.bz (fun _ => ?_)
  refine PP.ret ?_
  exact hM
theorem nkj_word_31 {fu : Nat} {F0 : PF} (F : PF) (G : PG) (hM : MNS F0 F) : PP (mb_word_31 fu F G) (fun _ F' _ => MNS F0 F') := by
  unfold mb_word_31
  exact nkj_word_32 (0 : Int32) F G hM
theorem nkj_word_27 {fu : Nat} {F0 : PF} (F : PF) (G : PG) (hM : MNS F0 F) : PP (mb_word_27 fu F G) (fun _ F' _ => MNS F0 F') := by
  unfold mb_word_27
  exact nkj_word_32 (1 : Int32) F G hM
theorem nkj_word_24 {fu : Nat} {F0 : PF} (z0 : Int32) (F : PF) (G : PG) (hM : MNS F0 F) : PP (mb_word_24 fu z0 F G) (fun _ F' _ => MNS F0 F') := by
  unfold mb_word_24
  refine PP.ite (fun c_1 => ?_) (fun c_1 => ?_)
  · skip
    exact nkj_word_31 F G hM
  · skip
    exact nkj_word_27 F G hM
theorem nkj_word_19 {fu : Nat} {F0 : PF} (F : PF) (G : PG) (hM : MNS F0 F) : PP (mb_word_19 fu F G) (fun _ F' _ => MNS F0 F') := by
  unfold mb_word_19
  refine PP.bind (nk_fails (2 : Int32) (by decide) F G) ?_
  intro r1 F1 G1 hM1
  dsimp only
  exact nkj_word_24 r1 F1 G1 (MNS.tr hM hM1)
theorem nkj_word_15 {fu : Nat} {F0 : PF} (x2 : Int32) (F : PF) (G : PG) (hM : MNS F0 F) : PP (mb_word_15 fu x2 F G) (fun _ F' _ => MNS F0 F') := by
  unfold mb_word_15
  refine PP.ite (fun c_1 => ?_) (fun c_1 => ?_)
  · skip
    exact nkj_word_31 F G hM
  · skip
    exact nkj_word_19 F G hM
theorem nkj_word_43 {fu : Nat} {F0 : PF} (F : PF) (G : PG) (hM : MNS F0 F) : PP (mb_word_43 fu F G) (fun _ F' _ => MNS F0 F') := by
  unfold mb_word_43
  refine PP.ret ?_
  exact hM
theorem nkj_word_33 {fu : Nat} {F0 : PF} (F : PF) (G : PG) (hM : MNS F0 F) : PP (mb_word_33 fu F G) (fun _ F' _ => MNS F0 F') := by
  unfold mb_word_33
  exact nkj_word_43 (fup F 42 ((F 42) + (1 : Int32))) G (MNS.f (k := 42) rfl hM)
theorem nkj_word_12 {fu : Nat} {F0 : PF} (x2 : Int32) (z0 : Int32) (F : PF) (G : PG) (hM : MNS F0 F) : PP (mb_word_12 fu x2 z0 F G) (fun _ F' _ => MNS F0 F') := by
  unfold mb_word_12
  refine PP.ite (fun c_1 => ?_) (fun c_1 => ?_)
  · skip
    exact nkj_word_15 x2 F G hM
  · skip
    exact nkj_word_33 F G hM
theorem nkj_word_7 {fu : Nat} {F0 : PF} (x1 : Int32) (x2 : Int32) (F : PF) (G : PG) (hM : MNS F0 F) : PP (mb_word_7 fu x1 x2 F G) (fun _ F' _ => MNS F0 F') := by
  unfold mb_word_7
  refine PP.bind (mw_isWord x1 F G) ?_
  intro r1 F1 G1 hM1
  dsimp only
  exact nkj_word_12 x2 r1 F1 G1 (MNS.tr hM (MNS.kx hM1 rfl rfl rfl rfl))
theorem nk_word {fu : Nat} (x1 : Int32) (x2 : Int32) (F : PF) (G : PG) : PP (mf_word fu x1 x2 F G) (fun _ F' _ => MNS F F') := by
  unfold mf_word
  unfold mb_word_0
  refine PP.ite (fun c_1 => ?_) (fun c_1 => ?_)
  · skip
    exact nkj_word_15 x2 F G MNS.rf
  · skip
    exact nkj_word_7 x1 x2 F G MNS.rf
theorem nkj_name_25 {fu : Nat} {F0 : PF} (z0 : Int32) (F : PF) (G : PG) (hM : MNS F0 F) : PP (mb_name_25 fu z0 F G) (fun _ F' _ => MNS F0 F') := by
  unfold mb_name_25
  refine PP.ret ?_
  exact hM
theorem nkj_name_20 {fu : Nat} {F0 : PF} (F : PF) (G : PG) (hM : MNS F0 F) : PP (mb_name_20 fu F G) (fun _ F' _ => MNS F0 F') := by
  unfold mb_name_20
  refine PP.bind (nk_fails (2 : Int32) (by decide) F G) ?_
  intro r1 F1 G1 hM1
  dsimp only
  exact nkj_name_25 r1 F1 G1 (MNS.tr hM hM1)
theorem nkj_name_38 {fu : Nat} {F0 : PF} (F : PF) (G : PG) (hM : MNS F0 F) : PP (mb_name_38 fu F G) (fun _ F' _ => MNS F0 F') := by
  unfold mb_name_38
  refine PP.ret ?_
  exact hM
theorem nkj_name_28 {fu : Nat} {F0 : PF} (F : PF) (G : PG) (hM : MNS F0 F) : PP (mb_name_28 fu F G) (fun _ F' _ => MNS F0 F') := by
  unfold mb_name_28
  exact nkj_name_38 (fup F 42 ((F 42) + (1 : Int32))) G (MNS.f (k := 42) rfl hM)
theorem nkj_name_7 {fu : Nat} {F0 : PF} (F : PF) (G : PG) (hM : MNS F0 F) : PP (mb_name_7 fu F G) (fun _ F' _ => MNS F0 F') := by
  unfold mb_name_7
  refine PP.ix (fun _ => ?_)
  refine PP.ite (fun c_1 => ?_) (fun c_1 => ?_)
  · skip
    exact nkj_name_28 F G hM
  · skip
    exact nkj_name_20 F G hM
theorem nk_name {fu : Nat} (F : PF) (G : PG) : PP (mf_name fu F G) (fun _ F' _ => MNS F F') := by
  unfold mf_name
  unfold mb_name_0
  refine PP.ite (fun c_1 => ?_) (fun c_1 => ?_)
  · skip
    exact nkj_name_20 F G MNS.rf
  · skip
    exact nkj_name_7 F G MNS.rf
theorem nkj_opens_14 {fu : Nat} {F0 : PF} (z0 : Int32) (F : PF) (G : PG) (hM : MNS F0 F) : PP (mb_opens_14 fu z0 F G) (fun _ F' _ => MNS F0 F') := by
  unfold mb_opens_14
  refine PP.bz (fun _ => ?_)
  refine PP.ret ?_
  exact hM
theorem nkj_opens_9 {fu : Nat} {F0 : PF} (F : PF) (G : PG) (hM : MNS F0 F) : PP (mb_opens_9 fu F G) (fun _ F' _ => MNS F0 F') := by
  unfold mb_opens_9
  refine PP.bind (nk_fails (3 : Int32) (by decide) F G) ?_
  intro r1 F1 G1 hM1
  dsimp only
  exact nkj_opens_14 r1 F1 G1 (MNS.tr hM hM1)
theorem nkj_opens_35 {fu : Nat} {F0 : PF} (F : PF) (G : PG) (hM : MNS F0 F) : PP (mb_opens_35 fu F G) (fun _ F' _ => MNS F0 F') := by
  unfold mb_opens_35
  refine PP.ret ?_
  exact hM
theorem nkj_opens_25 {fu : Nat} {F0 : PF} (F : PF) (G : PG) (hM : MNS F0 F) : PP (mb_opens_25 fu F G) (fun _ F' _ => MNS F0 F') := by
  unfold mb_opens_25
  exact nkj_opens_35 (fup F 42 ((F 42) + (1 : Int32))) G (MNS.f (k := 42) rfl hM)
theorem nkj_opens_15 {fu : Nat} {F0 : PF} (F : PF) (G : PG) (hM : MNS F0 F) : PP (mb_opens_15 fu F G) (fun _ F' _ => MNS F0 F') := by
  unfold mb_opens_15
  exact nkj_opens_25 (fup F 43 ((F 43) + (1 : Int32))) G (MNS.f (k := 43) rfl hM)
theorem nk_opens {fu : Nat} (F : PF) (G : PG) : PP (mf_opens fu F G) (fun _ F' _ => MNS F F') := by
  unfold mf_opens
  unfold mb_opens_0
  refine PP.ite (fun c_1 => ?_) (fun c_1 => ?_)
  · skip
    exact nkj_opens_9 F G MNS.rf
  · skip
    exact nkj_opens_15 F G MNS.rf
theorem nkj_openSign_27 {fu : Nat} {F0 : PF} (z0 : Int32) (F : PF) (G : PG) (hM : MNS F0 F) : PP (mb_openSign_27 fu z0 F G) (fun _ F' _ => MNS F0 F') := by
  unfold mb_openSign_27
  refine PP.bz (fun _ => ?_)
  refine PP.ret ?_
  exact hM
theorem nkj_openSign_20 {fu : Nat} {F0 : PF} (z0 : Int32) (F : PF) (G : PG) (hM : MNS F0 F) : PP (mb_openSign_20 fu z0 F G) (fun _ F' _ => MNS F0 F') := by
  unfold mb_openSign_20
  exact nkj_openSign_27 z0 F G hM
theorem nkj_openSign_15 {fu : Nat} {F0 : PF} (F : PF) (G : PG) (hM : MNS F0 F) : PP (mb_openSign_15 fu F G) (fun _ F' _ => MNS F0 F') := by
  unfold mb_openSign_15
  refine PP.bind (nk_fails (2 : Int32) (by decide) F G) ?_
  intro r1 F1 G1 hM1
  dsimp only
  exact nkj_openSign_20 r1 F1 G1 (MNS.tr hM hM1)
theorem nkj_openSign_23 {fu : Nat} {F0 : PF} (F : PF) (G : PG) (hM : MNS F0 F) : PP (mb_openSign_23 fu F G) (fun _ F' _ => MNS F0 F') := by
  unfold mb_openSign_23
  refine PP.bind (nk_opens F G) ?_
  intro r1 F1 G1 hM1
  dsimp only
  exact nkj_openSign_27 r1 F1 G1 (MNS.tr hM hM1)
theorem nkj_openSign_12 {fu : Nat} {F0 : PF} (z0 : Int32) (F : PF) (G : PG) (hM : MNS F0 F) : PP (mb_openSign_12 fu z0 F G) (fun _ F' _ => MNS F0 F') := by
  unfold mb_openSign_12
  refine PP.ite (fun c_1 => ?_) (fun c_1 => ?_)
  · skip
    exact nkj_openSign_15 F G hM
  · skip
    exact nkj_openSign_23 F G hM
theorem nkj_openSign_7 {fu : Nat} {F0 : PF} (x1 : Int32) (F : PF) (G : PG) (hM : MNS F0 F) : PP (mb_openSign_7 fu x1 F G) (fun _ F' _ => MNS F0 F') := by
  unfold mb_openSign_7
  refine PP.bind (mw_isSign x1 F G) ?_
  intro r1 F1 G1 hM1
  dsimp only
  exact nkj_openSign_12 r1 F1 G1 (MNS.tr hM (MNS.kx hM1 rfl rfl rfl rfl))
theorem nk_openSign {fu : Nat} (x1 : Int32) (F : PF) (G : PG) : PP (mf_openSign fu x1 F G) (fun _ F' _ => MNS F F') := by
  unfold mf_openSign
  unfold mb_openSign_0
  refine PP.ite (fun c_1 => ?_) (fun c_1 => ?_)
  · skip
    exact nkj_openSign_15 F G MNS.rf
  · skip
    exact nkj_openSign_7 x1 F G MNS.rf
theorem nkj_closeSign_8 {fu : Nat} {F0 : PF} (F : PF) (G : PG) (hM : MNS F0 F) : PP (mb_closeSign_8 fu F G) (fun _ F' _ => MNS F0 F') := by
  unfold mb_closeSign_8
  refine PP.ret ?_
  exact hM
theorem nkj_closeSign_20 {fu : Nat} {F0 : PF} (F : PF) (G : PG) (hM : MNS F0 F) : PP (mb_closeSign_20 fu F G) (fun _ F' _ => MNS F0 F') := by
  unfold mb_closeSign_20
  refine PP.ret ?_
  exact hM
theorem nkj_closeSign_10 {fu : Nat} {F0 : PF} (F : PF) (G : PG) (hM : MNS F0 F) : PP (mb_closeSign_10 fu F G) (fun _ F' _ => MNS F0 F') := by
  unfold mb_closeSign_10
  exact nkj_closeSign_20 (fup F 43 ((F 43) - (1 : Int32))) G (MNS.f (k := 43) rfl hM)
theorem nkj_closeSign_5 {fu : Nat} {F0 : PF} (z0 : Int32) (F : PF) (G : PG) (hM : MNS F0 F) : PP (mb_closeSign_5 fu z0 F G) (fun _ F' _ => MNS F0 F') := by
  unfold mb_closeSign_5
  refine PP.ite (fun c_1 => ?_) (fun c_1 => ?_)
  · skip
    exact nkj_closeSign_8 F G hM
  · skip
    exact nkj_closeSign_10 F G hM
theorem nk_closeSign {fu : Nat} (x1 : Int32) (F : PF) (G : PG) : PP (mf_closeSign fu x1 F G) (fun _ F' _ => MNS F F') := by
  unfold mf_closeSign
  unfold mb_closeSign_0
  refine PP.bind (nk_sign x1 F G) ?_
  intro r1 F1 G1 hM1
  dsimp only
  exact nkj_closeSign_5 r1 F1 G1 (MNS.tr MNS.rf hM1)
theorem nkj_argument_16 {fu : Nat} (rc : RC) (ihQ : nkI rc) {F0 : PF} (z0 : Int32) (F : PF) (G : PG) (hM : MNS F0 F) : PP (mb_argument_16 fu rc z0 F G) (fun _ F' _ => MNS F0 F') := by
  unfold mb_argument_16
  refine PP.bz (fun _ => ?_)
  refine PP.ret ?_
  exact hM
theorem nkj_argument_12 {fu : Nat} (rc : RC) (ihQ : nkI rc) {F0 : PF} (F : PF) (G : PG) (hM : MNS F0 F) : PP (mb_argument_12 fu rc F G) (fun _ F' _ => MNS F0 F') := by
  unfold mb_argument_12
  refine PP.bind (ihQ 4 0 0 F G) ?_
  intro r1 F1 G1 hM1
  dsimp only
  exact nkj_argument_16 rc ihQ r1 F1 G1 (MNS.tr hM hM1)
theorem nkj_argument_73 {fu : Nat} (rc : RC) (ihQ : nkI rc) {F0 : PF} (z0 : Int32) (F : PF) (G : PG) (hM : MNS F0 F) : PP (mb_argument_73 fu rc z0 F G) (fun _ F' _ => MNS F0 F') := by
  unfold mb_argument_73
  refine PP.bz (fun _ => ?_)
  refine PP.ret ?_
  exact hM
theorem nkj_argument_69 {fu : Nat} (rc : RC) (ihQ : nkI rc) {F0 : PF} (F : PF) (G : PG) (hM : MNS F0 F) : PP (mb_argument_69 fu rc F G) (fun _ F' _ => MNS F0 F') := by
  unfold mb_argument_69
  refine PP.bind (ihQ 4 0 0 F G) ?_
  intro r1 F1 G1 hM1
  dsimp only
  exact nkj_argument_73 rc ihQ r1 F1 G1 (MNS.tr hM hM1)
theorem nkj_argument_157 {fu : Nat} (rc : RC) (ihQ : nkI rc) {F0 : PF} (z0 : Int32) (F : PF) (G : PG) (hM : MNS F0 F) : PP (mb_argument_157 fu rc z0 F G) (fun _ F' _ => MNS F0 F') := by
  unfold mb_argument_157
  refine PP.bz (fun _ => ?_)
  refine PP.ret ?_
  exact hM
theorem nkj_argument_153 {fu : Nat} (rc : RC) (ihQ : nkI rc) {F0 : PF} (F : PF) (G : PG) (hM : MNS F0 F) : PP (mb_argument_153 fu rc F G) (fun _ F' _ => MNS F0 F') := by
  unfold mb_argument_153
  refine PP.bind (ihQ 4 0 0 F G) ?_
  intro r1 F1 G1 hM1
  dsimp only
  exact nkj_argument_157 rc ihQ r1 F1 G1 (MNS.tr hM hM1)
theorem nkj_argument_146 {fu : Nat} (rc : RC) (ihQ : nkI rc) {F0 : PF} (x3 : Int32) (F : PF) (G : PG) (hM : MNS F0 F) : PP (mb_argument_146 fu rc x3 F G) (fun _ F' _ => MNS F0 F') := by
  unfold mb_argument_146
  refine PP.bind (nk_note (7 : Int32) x3 (by decide) F G) ?_
  intro r1 F1 G1 hM1
  dsimp only
  exact nkj_argument_153 rc ihQ F1 G1 (MNS.tr hM hM1)
theorem nkj_argument_315 {fu : Nat} (rc : RC) (ihQ : nkI rc) {F0 : PF} (F : PF) (G : PG) (hM : MNS F0 F) : PP (mb_argument_315 fu rc F G) (fun _ F' _ => MNS F0 F') := by
  unfold mb_argument_315
  refine PP.ret ?_
  exact hM
theorem nkj_argument_314 {fu : Nat} (rc : RC) (ihQ : nkI rc) {F0 : PF} (z0 : Int32) (z1 : Int32) (F : PF) (G : PG) (hM : MNS F0 F) : PP (mb_argument_314 fu rc z0 z1 F G) (fun _ F' _ => MNS F0 F') := by
  unfold mb_argument_314
  refine PP.ix (fun _ => ?_)
  exact nkj_argument_315 rc ihQ F (gup G 59 z1.toNatClampNeg z0) hM
theorem nkj_argument_313 {fu : Nat} (rc : RC) (ihQ : nkI rc) {F0 : PF} (z0 : Int32) (F : PF) (G : PG) (hM : MNS F0 F) : PP (mb_argument_313 fu rc z0 F G) (fun _ F' _ => MNS F0 F') := by
  unfold mb_argument_313
  exact nkj_argument_314 rc ihQ (0 : Int32) z0 F G hM
theorem nkj_argument_309 {fu : Nat} (rc : RC) (ihQ : nkI rc) {F0 : PF} (z0 : Int32) (F : PF) (G : PG) (hM : MNS F0 F) : PP (mb_argument_309 fu rc z0 F G) (fun _ F' _ => MNS F0 F') := by
  unfold mb_argument_309
  exact nkj_argument_314 rc ihQ (1 : Int32) z0 F G hM
theorem nkj_argument_299 {fu : Nat} (rc : RC) (ihQ : nkI rc) {F0 : PF} (x6 : Int32) (z0 : Int32) (F : PF) (G : PG) (hM : MNS F0 F) : PP (mb_argument_299 fu rc x6 z0 F G) (fun _ F' _ => MNS F0 F') := by
  unfold mb_argument_299
  refine PP.ix (fun _ => ?_)
  refine PP.ite (fun c_1 => ?_) (fun c_1 => ?_)
  · skip
    exact nkj_argument_313 rc ihQ z0 F G hM
  · skip
    exact nkj_argument_309 rc ihQ z0 F G hM
theorem nkj_argument_285 {fu : Nat} (rc : RC) (ihQ : nkI rc) {F0 : PF} (x6 : Int32) (z0 : Int32) (F : PF) (G : PG) (hM : MNS F0 F) : PP (mb_argument_285 fu rc x6 z0 F G) (fun _ F' _ => MNS F0 F') := by
  unfold mb_argument_285
  refine PP.ite (fun c_1 => ?_) (fun c_1 => ?_)
  · skip
    exact nkj_argument_313 rc ihQ z0 F G hM
  · skip
    exact nkj_argument_299 rc ihQ x6 z0 F G hM
theorem nkj_argument_282 {fu : Nat} (rc : RC) (ihQ : nkI rc) {F0 : PF} (x6 : Int32) (z0 : Int32) (z1 : Int32) (z2 : Int32) (F : PF) (G : PG) (hM : MNS F0 F) : PP (mb_argument_282 fu rc x6 z0 z1 z2 F G) (fun _ F' _ => MNS F0 F') := by
  unfold mb_argument_282
  refine PP.bind (mw_step z2 z1 z0 F G) ?_
  intro r1 F1 G1 hM1
  dsimp only
  exact nkj_argument_285 rc ihQ x6 r1 F1 G1 (MNS.tr hM (MNS.kx hM1 rfl rfl rfl rfl))
theorem nkj_argument_271 {fu : Nat} (rc : RC) (ihQ : nkI rc) {F0 : PF} (x6 : Int32) (z0 : Int32) (z1 : Int32) (F : PF) (G : PG) (hM : MNS F0 F) : PP (mb_argument_271 fu rc x6 z0 z1 F G) (fun _ F' _ => MNS F0 F') := by
  unfold mb_argument_271
  exact nkj_argument_282 rc ihQ x6 (1 : Int32) z0 z1 F G hM
theorem nkj_argument_275 {fu : Nat} (rc : RC) (ihQ : nkI rc) {F0 : PF} (x6 : Int32) (z0 : Int32) (z1 : Int32) (F : PF) (G : PG) (hM : MNS F0 F) : PP (mb_argument_275 fu rc x6 z0 z1 F G) (fun _ F' _ => MNS F0 F') := by
  unfold mb_argument_275
  refine PP.ix (fun _ => ?_)
  exact nkj_argument_282 rc ihQ x6 (G 21 x6.toNatClampNeg) z0 z1 F G hM
theorem nkj_argument_265 {fu : Nat} (rc : RC) (ihQ : nkI rc) {F0 : PF} (x6 : Int32) (z0 : Int32) (z1 : Int32) (F : PF) (G : PG) (hM : MNS F0 F) : PP (mb_argument_265 fu rc x6 z0 z1 F G) (fun _ F' _ => MNS F0 F') := by
  unfold mb_argument_265
  refine PP.ite (fun c_1 => ?_) (fun c_1 => ?_)
  · skip
    exact nkj_argument_271 rc ihQ x6 z0 z1 F G hM
  · skip
    exact nkj_argument_275 rc ihQ x6 z0 z1 F G hM
theorem nkj_argument_254 {fu : Nat} (rc : RC) (ihQ : nkI rc) {F0 : PF} (x6 : Int32) (z0 : Int32) (F : PF) (G : PG) (hM : MNS F0 F) : PP (mb_argument_254 fu rc x6 z0 F G) (fun _ F' _ => MNS F0 F') := by
  unfold mb_argument_254
  exact nkj_argument_265 rc ihQ x6 (0 : Int32) z0 F G hM
theorem nkj_argument_258 {fu : Nat} (rc : RC) (ihQ : nkI rc) {F0 : PF} (x6 : Int32) (z0 : Int32) (F : PF) (G : PG) (hM : MNS F0 F) : PP (mb_argument_258 fu rc x6 z0 F G) (fun _ F' _ => MNS F0 F') := by
  unfold mb_argument_258
  refine PP.ix (fun _ => ?_)
  exact nkj_argument_265 rc ihQ x6 (G 20 x6.toNatClampNeg) z0 F G hM
theorem nkj_argument_246 {fu : Nat} (rc : RC) (ihQ : nkI rc) {F0 : PF} (x6 : Int32) (F : PF) (G : PG) (hM : MNS F0 F) : PP (mb_argument_246 fu rc x6 F G) (fun _ F' _ => MNS F0 F') := by
  unfold mb_argument_246
  refine PP.ite (fun c_1 => ?_) (fun c_1 => ?_)
  · skip
    exact nkj_argument_254 rc ihQ x6 (5 : Int32) F G hM
  · skip
    exact nkj_argument_258 rc ihQ x6 (5 : Int32) F G hM
theorem nkj_argument_236 {fu : Nat} (rc : RC) (ihQ : nkI rc) {F0 : PF} (x6 : Int32) (F : PF) (G : PG) (hM : MNS F0 F) : PP (mb_argument_236 fu rc x6 F G) (fun _ F' _ => MNS F0 F') := by
  unfold mb_argument_236
  exact nkj_argument_246 rc ihQ x6 (fup F 42 ((F 42) + (1 : Int32))) G (MNS.f (k := 42) rfl hM)
theorem nkj_argument_188 {fu : Nat} (rc : RC) (ihQ : nkI rc) {F0 : PF} (x6 : Int32) (F : PF) (G : PG) (hM : MNS F0 F) : PP (mb_argument_188 fu rc x6 F G) (fun _ F' _ => MNS F0 F') := by
  unfold mb_argument_188
  exact nkj_argument_236 rc ihQ x6 F G hM
theorem nkj_argument_182 {fu : Nat} (rc : RC) (ihQ : nkI rc) {F0 : PF} (x3 : Int32) (x6 : Int32) (F : PF) (G : PG) (hM : MNS F0 F) : PP (mb_argument_182 fu rc x3 x6 F G) (fun _ F' _ => MNS F0 F') := by
  unfold mb_argument_182
  refine PP.bind (nk_note (4 : Int32) x3 (by decide) F G) ?_
  intro r1 F1 G1 hM1
  dsimp only
  exact nkj_argument_188 rc ihQ x6 F1 G1 (MNS.tr hM hM1)
theorem nkj_argument_229 {fu : Nat} (rc : RC) (ihQ : nkI rc) {F0 : PF} (x3 : Int32) (x6 : Int32) (F : PF) (G : PG) (hM : MNS F0 F) : PP (mb_argument_229 fu rc x3 x6 F G) (fun _ F' _ => MNS F0 F') := by
  unfold mb_argument_229
  refine PP.bind (nk_note (7 : Int32) x3 (by decide) F G) ?_
  intro r1 F1 G1 hM1
  dsimp only
  exact nkj_argument_236 rc ihQ x6 F1 G1 (MNS.tr hM hM1)
theorem nkj_argument_226 {fu : Nat} (rc : RC) (ihQ : nkI rc) {F0 : PF} (x3 : Int32) (x6 : Int32) (z0 : Int32) (z1 : Int32) (F : PF) (G : PG) (hM : MNS F0 F) : PP (mb_argument_226 fu rc x3 x6 z0 z1 F G) (fun _ F' _ => MNS F0 F') := by
  unfold mb_argument_226
  refine PP.ite (fun c_1 => ?_) (fun c_1 => ?_)
  · skip
    exact nkj_argument_236 rc ihQ x6 F G hM
  · skip
    exact nkj_argument_229 rc ihQ x3 x6 F G hM
theorem nkj_argument_221 {fu : Nat} (rc : RC) (ihQ : nkI rc) {F0 : PF} (x3 : Int32) (x6 : Int32) (z0 : Int32) (F : PF) (G : PG) (hM : MNS F0 F) : PP (mb_argument_221 fu rc x3 x6 z0 F G) (fun _ F' _ => MNS F0 F') := by
  unfold mb_argument_221
  exact nkj_argument_226 rc ihQ x3 x6 (1 : Int32) z0 F G hM
theorem nkj_argument_225 {fu : Nat} (rc : RC) (ihQ : nkI rc) {F0 : PF} (x3 : Int32) (x6 : Int32) (z0 : Int32) (F : PF) (G : PG) (hM : MNS F0 F) : PP (mb_argument_225 fu rc x3 x6 z0 F G) (fun _ F' _ => MNS F0 F') := by
  unfold mb_argument_225
  exact nkj_argument_226 rc ihQ x3 x6 (0 : Int32) z0 F G hM
theorem nkj_argument_208 {fu : Nat} (rc : RC) (ihQ : nkI rc) {F0 : PF} (x3 : Int32) (x4 : Int32) (x6 : Int32) (F : PF) (G : PG) (hM : MNS F0 F) : PP (mb_argument_208 fu rc x3 x4 x6 F G) (fun _ F' _ => MNS F0 F') := by
  unfold mb_argument_208
  refine PP.ix (fun _ => ?_)
  refine PP.ite (fun c_1 => ?_) (fun c_1 => ?_)
  · skip
    exact nkj_argument_221 rc ihQ x3 x6 (G 22 x6.toNatClampNeg) F G hM
  · skip
    exact nkj_argument_225 rc ihQ x3 x6 (G 22 x6.toNatClampNeg) F G hM
theorem nkj_argument_197 {fu : Nat} (rc : RC) (ihQ : nkI rc) {F0 : PF} (x3 : Int32) (x4 : Int32) (x6 : Int32) (F : PF) (G : PG) (hM : MNS F0 F) : PP (mb_argument_197 fu rc x3 x4 x6 F G) (fun _ F' _ => MNS F0 F') := by
  unfold mb_argument_197
  refine PP.ix (fun _ => ?_)
  refine PP.ite (fun c_1 => ?_) (fun c_1 => ?_)
  · skip
    exact nkj_argument_208 rc ihQ x3 x4 x6 F G hM
  · skip
    exact nkj_argument_229 rc ihQ x3 x6 F G hM
theorem nkj_argument_191 {fu : Nat} (rc : RC) (ihQ : nkI rc) {F0 : PF} (x3 : Int32) (x4 : Int32) (x6 : Int32) (F : PF) (G : PG) (hM : MNS F0 F) : PP (mb_argument_191 fu rc x3 x4 x6 F G) (fun _ F' _ => MNS F0 F') := by
  unfold mb_argument_191
  refine PP.ite (fun c_1 => ?_) (fun c_1 => ?_)
  · skip
    exact nkj_argument_229 rc ihQ x3 x6 F G hM
  · skip
    exact nkj_argument_197 rc ihQ x3 x4 x6 F G hM
theorem nkj_argument_174 {fu : Nat} (rc : RC) (ihQ : nkI rc) {F0 : PF} (x3 : Int32) (x4 : Int32) (x6 : Int32) (F : PF) (G : PG) (hM : MNS F0 F) : PP (mb_argument_174 fu rc x3 x4 x6 F G) (fun _ F' _ => MNS F0 F') := by
  unfold mb_argument_174
  refine PP.ite (fun c_1 => ?_) (fun c_1 => ?_)
  · skip
    exact nkj_argument_182 rc ihQ x3 x6 F G hM
  · skip
    exact nkj_argument_191 rc ihQ x3 x4 x6 F G hM
theorem nkj_argument_166 {fu : Nat} (rc : RC) (ihQ : nkI rc) {F0 : PF} (x3 : Int32) (x4 : Int32) (z0 : Int32) (F : PF) (G : PG) (hM : MNS F0 F) : PP (mb_argument_166 fu rc x3 x4 z0 F G) (fun _ F' _ => MNS F0 F') := by
  unfold mb_argument_166
  refine PP.ite (fun c_1 => ?_) (fun c_1 => ?_)
  · skip
    exact nkj_argument_174 rc ihQ x3 x4 z0 F G hM
  · skip
    exact nkj_argument_191 rc ihQ x3 x4 z0 F G hM
theorem nkj_argument_158 {fu : Nat} (rc : RC) (ihQ : nkI rc) {F0 : PF} (x3 : Int32) (x4 : Int32) (F : PF) (G : PG) (hM : MNS F0 F) : PP (mb_argument_158 fu rc x3 x4 F G) (fun _ F' _ => MNS F0 F') := by
  unfold mb_argument_158
  refine PP.bind (mw_meaning (F 42) F G) ?_
  intro r1 F1 G1 hM1
  dsimp only
  exact nkj_argument_166 rc ihQ x3 x4 r1 F1 G1 (MNS.tr hM (MNS.kx hM1 rfl rfl rfl rfl))
theorem nkj_argument_139 {fu : Nat} (rc : RC) (ihQ : nkI rc) {F0 : PF} (x3 : Int32) (x4 : Int32) (z0 : Int32) (F : PF) (G : PG) (hM : MNS F0 F) : PP (mb_argument_139 fu rc x3 x4 z0 F G) (fun _ F' _ => MNS F0 F') := by
  unfold mb_argument_139
  refine PP.ite (fun c_1 => ?_) (fun c_1 => ?_)
  · skip
    exact nkj_argument_146 rc ihQ x3 F G hM
  · skip
    exact nkj_argument_158 rc ihQ x3 x4 F G hM
theorem nkj_argument_134 {fu : Nat} (rc : RC) (ihQ : nkI rc) {F0 : PF} (x3 : Int32) (x4 : Int32) (F : PF) (G : PG) (hM : MNS F0 F) : PP (mb_argument_134 fu rc x3 x4 F G) (fun _ F' _ => MNS F0 F') := by
  unfold mb_argument_134
  exact nkj_argument_139 rc ihQ x3 x4 (1 : Int32) F G hM
theorem nkj_argument_138 {fu : Nat} (rc : RC) (ihQ : nkI rc) {F0 : PF} (x3 : Int32) (x4 : Int32) (F : PF) (G : PG) (hM : MNS F0 F) : PP (mb_argument_138 fu rc x3 x4 F G) (fun _ F' _ => MNS F0 F') := by
  unfold mb_argument_138
  exact nkj_argument_139 rc ihQ x3 x4 (0 : Int32) F G hM
theorem nkj_argument_118 {fu : Nat} (rc : RC) (ihQ : nkI rc) {F0 : PF} (x3 : Int32) (x4 : Int32) (F : PF) (G : PG) (hM : MNS F0 F) : PP (mb_argument_118 fu rc x3 x4 F G) (fun _ F' _ => MNS F0 F') := by
  unfold mb_argument_118
  refine PP.ix (fun _ => ?_)
  refine PP.ite (fun c_1 => ?_) (fun c_1 => ?_)
  · skip
    exact nkj_argument_134 rc ihQ x3 x4 F G hM
  · skip
    exact nkj_argument_138 rc ihQ x3 x4 F G hM
theorem nkj_argument_102 {fu : Nat} (rc : RC) (ihQ : nkI rc) {F0 : PF} (x3 : Int32) (x4 : Int32) (F : PF) (G : PG) (hM : MNS F0 F) : PP (mb_argument_102 fu rc x3 x4 F G) (fun _ F' _ => MNS F0 F') := by
  unfold mb_argument_102
  refine PP.ix (fun _ => ?_)
  refine PP.ite (fun c_1 => ?_) (fun c_1 => ?_)
  · skip
    exact nkj_argument_134 rc ihQ x3 x4 F G hM
  · skip
    exact nkj_argument_118 rc ihQ x3 x4 F G hM
theorem nkj_argument_87 {fu : Nat} (rc : RC) (ihQ : nkI rc) {F0 : PF} (x3 : Int32) (x4 : Int32) (F : PF) (G : PG) (hM : MNS F0 F) : PP (mb_argument_87 fu rc x3 x4 F G) (fun _ F' _ => MNS F0 F') := by
  unfold mb_argument_87
  refine PP.ix (fun _ => ?_)
  refine PP.ite (fun c_1 => ?_) (fun c_1 => ?_)
  · skip
    exact nkj_argument_102 rc ihQ x3 x4 F G hM
  · skip
    exact nkj_argument_138 rc ihQ x3 x4 F G hM
theorem nkj_argument_74 {fu : Nat} (rc : RC) (ihQ : nkI rc) {F0 : PF} (x3 : Int32) (x4 : Int32) (F : PF) (G : PG) (hM : MNS F0 F) : PP (mb_argument_74 fu rc x3 x4 F G) (fun _ F' _ => MNS F0 F') := by
  unfold mb_argument_74
  refine PP.ix (fun _ => ?_)
  refine PP.ite (fun c_1 => ?_) (fun c_1 => ?_)
  · skip
    exact nkj_argument_87 rc ihQ x3 x4 F G hM
  · skip
    exact nkj_argument_138 rc ihQ x3 x4 F G hM
theorem nkj_argument_49 {fu : Nat} (rc : RC) (ihQ : nkI rc) {F0 : PF} (x1 : Int32) (x2 : Int32) (x3 : Int32) (F : PF) (G : PG) (hM : MNS F0 F) : PP (mb_argument_49 fu rc x1 x2 x3 F G) (fun _ F' _ => MNS F0 F') := by
  unfold mb_argument_49
  refine PP.ix (fun _ => ?_)
  refine PP.ix (fun _ => ?_)
  refine PP.ite (fun c_1 => ?_) (fun c_1 => ?_)
  · skip
    exact nkj_argument_69 rc ihQ F G hM
  · skip
    exact nkj_argument_74 rc ihQ x3 (G 34 ((G 31 x1.toNatClampNeg) + x2).toNatClampNeg) F G hM
theorem nkj_argument_48 {fu : Nat} (rc : RC) (ihQ : nkI rc) {F0 : PF} (z0 : Int32) (F : PF) (G : PG) (hM : MNS F0 F) : PP (mb_argument_48 fu rc z0 F G) (fun _ F' _ => MNS F0 F') := by
  unfold mb_argument_48
  refine PP.bz (fun _ => ?_)
  refine PP.ret ?_
  exact hM
theorem nkj_argument_44 {fu : Nat} (rc : RC) (ihQ : nkI rc) {F0 : PF} (F : PF) (G : PG) (hM : MNS F0 F) : PP (mb_argument_44 fu rc F G) (fun _ F' _ => MNS F0 F') := by
  unfold mb_argument_44
  refine PP.bind (ihQ 4 0 0 F G) ?_
  intro r1 F1 G1 hM1
  dsimp only
  exact nkj_argument_48 rc ihQ r1 F1 G1 (MNS.tr hM hM1)
theorem nkj_argument_37 {fu : Nat} (rc : RC) (ihQ : nkI rc) {F0 : PF} (x3 : Int32) (F : PF) (G : PG) (hM : MNS F0 F) : PP (mb_argument_37 fu rc x3 F G) (fun _ F' _ => MNS F0 F') := by
  unfold mb_argument_37
  refine PP.bind (nk_note (7 : Int32) x3 (by decide) F G) ?_
  intro r1 F1 G1 hM1
  dsimp only
  exact nkj_argument_44 rc ihQ F1 G1 (MNS.tr hM hM1)
theorem nkj_argument_17 {fu : Nat} (rc : RC) (ihQ : nkI rc) {F0 : PF} (x1 : Int32) (x2 : Int32) (F : PF) (G : PG) (hM : MNS F0 F) : PP (mb_argument_17 fu rc x1 x2 F G) (fun _ F' _ => MNS F0 F') := by
  unfold mb_argument_17
  refine PP.ix (fun _ => ?_)
  refine PP.ix (fun _ => ?_)
  refine PP.ite (fun c_1 => ?_) (fun c_1 => ?_)
  · skip
    exact nkj_argument_49 rc ihQ x1 x2 (G 6 (F 42).toNatClampNeg) F G hM
  · skip
    exact nkj_argument_37 rc ihQ (G 6 (F 42).toNatClampNeg) F G hM
theorem nkj_argument_7 {fu : Nat} (rc : RC) (ihQ : nkI rc) {F0 : PF} (x1 : Int32) (x2 : Int32) (F : PF) (G : PG) (hM : MNS F0 F) : PP (mb_argument_7 fu rc x1 x2 F G) (fun _ F' _ => MNS F0 F') := by
  unfold mb_argument_7
  refine PP.ite (fun c_1 => ?_) (fun c_1 => ?_)
  · skip
    exact nkj_argument_12 rc ihQ F G hM
  · skip
    exact nkj_argument_17 rc ihQ x1 x2 F G hM
theorem nkt_argument {fu : Nat} (rc : RC) (ihQ : nkI rc) (x1 : Int32) (x2 : Int32) (F : PF) (G : PG) : PP (mh_argument fu rc x1 x2 F G) (fun _ F' _ => MNS F F') := by
  unfold mh_argument
  unfold mb_argument_0
  refine PP.ite (fun c_1 => ?_) (fun c_1 => ?_)
  · skip
    exact nkj_argument_7 rc ihQ x1 x2 F G MNS.rf
  · skip
    exact nkj_argument_12 rc ihQ F G MNS.rf
theorem nkj_call_135 {fu : Nat} (rc : RC) (ihQ : nkI rc) {F0 : PF} (F : PF) (G : PG) (hM : MNS F0 F) : PP (mb_call_135 fu rc F G) (fun _ F' _ => MNS F0 F') := by
  unfold mb_call_135
  refine PP.ret ?_
  exact hM
theorem nkj_call_265 {fu : Nat} (rc : RC) (ihQ : nkI rc) {F0 : PF} (F : PF) (G : PG) (hM : MNS F0 F) : PP (mb_call_265 fu rc F G) (fun _ F' _ => MNS F0 F') := by
  unfold mb_call_265
  refine PP.ret ?_
  exact hM
theorem nkj_call_290 {fu : Nat} (rc : RC) (ihQ : nkI rc) {F0 : PF} (z0 : Int32) (F : PF) (G : PG) (hM : MNS F0 F) : PP (mb_call_290 fu rc z0 F G) (fun _ F' _ => MNS F0 F') := by
  unfold mb_call_290
  refine PP.ret ?_
  exact hM
theorem nkj_call_275 {fu : Nat} (rc : RC) (ihQ : nkI rc) {F0 : PF} (x1 : Int32) (x4 : Int32) (z0 : Int32) (F : PF) (G : PG) (hM : MNS F0 F) : PP (mb_call_275 fu rc x1 x4 z0 F G) (fun _ F' _ => MNS F0 F') := by
  unfold mb_call_275
  refine PP.ix (fun _ => ?_)
  refine PP.bind (mw_step (16 : Int32) x4 (G 6 x1.toNatClampNeg) F G) ?_
  intro r1 F1 G1 hM1
  dsimp only
  exact nkj_call_290 rc ihQ r1 F1 G1 (MNS.tr hM (MNS.kx hM1 rfl rfl rfl rfl))
theorem nkj_call_267 {fu : Nat} (rc : RC) (ihQ : nkI rc) {F0 : PF} (x1 : Int32) (x4 : Int32) (F : PF) (G : PG) (hM : MNS F0 F) : PP (mb_call_267 fu rc x1 x4 F G) (fun _ F' _ => MNS F0 F') := by
  unfold mb_call_267
  refine PP.bind (mw_step (15 : Int32) (0 : Int32) (0 : Int32) F G) ?_
  intro r1 F1 G1 hM1
  dsimp only
  exact nkj_call_275 rc ihQ x1 x4 r1 F1 G1 (MNS.tr hM (MNS.kx hM1 rfl rfl rfl rfl))
theorem nkj_call_262 {fu : Nat} (rc : RC) (ihQ : nkI rc) {F0 : PF} (x1 : Int32) (x4 : Int32) (z0 : Int32) (F : PF) (G : PG) (hM : MNS F0 F) : PP (mb_call_262 fu rc x1 x4 z0 F G) (fun _ F' _ => MNS F0 F') := by
  unfold mb_call_262
  refine PP.ite (fun c_1 => ?_) (fun c_1 => ?_)
  · skip
    exact nkj_call_265 rc ihQ F G hM
  · skip
    exact nkj_call_267 rc ihQ x1 x4 F G hM
theorem nkj_call_256 {fu : Nat} (rc : RC) (ihQ : nkI rc) {F0 : PF} (x1 : Int32) (x4 : Int32) (F : PF) (G : PG) (hM : MNS F0 F) : PP (mb_call_256 fu rc x1 x4 F G) (fun _ F' _ => MNS F0 F') := by
  unfold mb_call_256
  refine PP.bind (nk_closeSign (23 : Int32) F G) ?_
  intro r1 F1 G1 hM1
  dsimp only
  exact nkj_call_262 rc ihQ x1 x4 r1 F1 G1 (MNS.tr hM hM1)
theorem nkj_call_241 {fu : Nat} (rc : RC) (ihQ : nkI rc) {F0 : PF} (x1 : Int32) (x4 : Int32) (F : PF) (G : PG) (hM : MNS F0 F) : PP (mb_call_241 fu rc x1 x4 F G) (fun _ F' _ => MNS F0 F') := by
  unfold mb_call_241
  refine PP.ix (fun _ => ?_)
  refine PP.bind (nk_note (7 : Int32) (G 6 (F 42).toNatClampNeg) (by decide) F G) ?_
  intro r1 F1 G1 hM1
  dsimp only
  exact nkj_call_256 rc ihQ x1 x4 F1 G1 (MNS.tr hM hM1)
theorem nkj_call_238 {fu : Nat} (rc : RC) (ihQ : nkI rc) {F0 : PF} (x1 : Int32) (x4 : Int32) (z0 : Int32) (F : PF) (G : PG) (hM : MNS F0 F) : PP (mb_call_238 fu rc x1 x4 z0 F G) (fun _ F' _ => MNS F0 F') := by
  unfold mb_call_238
  refine PP.ite (fun c_1 => ?_) (fun c_1 => ?_)
  · skip
    exact nkj_call_256 rc ihQ x1 x4 F G hM
  · skip
    exact nkj_call_241 rc ihQ x1 x4 F G hM
theorem nkj_call_232 {fu : Nat} (rc : RC) (ihQ : nkI rc) {F0 : PF} (x1 : Int32) (x4 : Int32) (F : PF) (G : PG) (hM : MNS F0 F) : PP (mb_call_232 fu rc x1 x4 F G) (fun _ F' _ => MNS F0 F') := by
  unfold mb_call_232
  refine PP.bind (mw_isSign (23 : Int32) F G) ?_
  intro r1 F1 G1 hM1
  dsimp only
  exact nkj_call_238 rc ihQ x1 x4 r1 F1 G1 (MNS.tr hM (MNS.kx hM1 rfl rfl rfl rfl))
theorem nkj_call_220 {fu : Nat} (rc : RC) (ihQ : nkI rc) {F0 : PF} (x1 : Int32) (x4 : Int32) (x5 : Int32) (F : PF) (G : PG) (hM : MNS F0 F) : PP (mb_call_220 fu rc x1 x4 x5 F G) (fun _ F' _ => MNS F0 F') := by
  unfold mb_call_220
  refine PP.ix (fun _ => ?_)
  refine PP.ite (fun c_1 => ?_) (fun c_1 => ?_)
  · skip
    exact nkj_call_256 rc ihQ x1 x4 F G hM
  · skip
    exact nkj_call_232 rc ihQ x1 x4 F G hM
theorem nkj_call_214 {fu : Nat} (rc : RC) (ihQ : nkI rc) {F0 : PF} (x1 : Int32) (x4 : Int32) (x5 : Int32) (F : PF) (G : PG) (hM : MNS F0 F) : PP (mb_call_214 fu rc x1 x4 x5 F G) (fun _ F' _ => MNS F0 F') := by
  unfold mb_call_214
  refine PP.ite (fun c_1 => ?_) (fun c_1 => ?_)
  · skip
    exact nkj_call_256 rc ihQ x1 x4 F G hM
  · skip
    exact nkj_call_220 rc ihQ x1 x4 x5 F G hM
theorem nkj_call_207 {fu : Nat} (rc : RC) (ihQ : nkI rc) {F0 : PF} (x1 : Int32) (x4 : Int32) (x5 : Int32) (F : PF) (G : PG) (hM : MNS F0 F) : PP (mb_call_207 fu rc x1 x4 x5 F G) (fun _ F' _ => MNS F0 F') := by
  unfold mb_call_207
  refine PP.ite (fun c_1 => ?_) (fun c_1 => ?_)
  · skip
    exact nkj_call_214 rc ihQ x1 x4 x5 F G hM
  · skip
    exact nkj_call_256 rc ihQ x1 x4 F G hM
theorem nkj_call_172 {fu : Nat} (rc : RC) (ihQ : nkI rc) {F0 : PF} (F : PF) (G : PG) (hM : MNS F0 F) : PP (mb_call_172 fu rc F G) (fun _ F' _ => MNS F0 F') := by
  unfold mb_call_172
  refine PP.ret ?_
  exact hM
theorem nkj_call_204 {fu : Nat} (rc : RC) (ihQ : nkI rc) {F0 : PF} (ag_156 : Int32 → Int32 → Int32 → Int32 → PF → PG → PR) (hag_156 : ∀ (x1 : Int32) (x4 : Int32) (x5 : Int32) (x6 : Int32) (F : PF) (G : PG) (hM : MNS F0 F), PP (ag_156 x1 x4 x5 x6 F G) (fun _ F' _ => MNS F0 F')) (x1 : Int32) (x4 : Int32) (x5 : Int32) (x6 : Int32) (F : PF) (G : PG) (hM : MNS F0 F) : PP (mb_call_204 fu rc ag_156 x1 x4 x5 x6 F G) (fun _ F' _ => MNS F0 F') := by
  unfold mb_call_204
  exact hag_156 x1 x4 x5 x6 F G hM
theorem nkj_call_200 {fu : Nat} (rc : RC) (ihQ : nkI rc) {F0 : PF} (ag_156 : Int32 → Int32 → Int32 → Int32 → PF → PG → PR) (hag_156 : ∀ (x1 : Int32) (x4 : Int32) (x5 : Int32) (x6 : Int32) (F : PF) (G : PG) (hM : MNS F0 F), PP (ag_156 x1 x4 x5 x6 F G) (fun _ F' _ => MNS F0 F')) (x1 : Int32) (x4 : Int32) (x5 : Int32) (x6 : Int32) (z0 : Int32) (z1 : Int32) (F : PF) (G : PG) (hM : MNS F0 F) : PP (mb_call_200 fu rc ag_156 x1 x4 x5 x6 z0 z1 F G) (fun _ F' _ => MNS F0 F') := by
  unfold mb_call_200
  exact nkj_call_204 rc ihQ ag_156 hag_156 x1 x4 x5 x6 (fup F 42 (z1 + z0)) G (MNS.f (k := 42) rfl hM)
theorem nkj_call_199 {fu : Nat} (rc : RC) (ihQ : nkI rc) {F0 : PF} (ag_156 : Int32 → Int32 → Int32 → Int32 → PF → PG → PR) (hag_156 : ∀ (x1 : Int32) (x4 : Int32) (x5 : Int32) (x6 : Int32) (F : PF) (G : PG) (hM : MNS F0 F), PP (ag_156 x1 x4 x5 x6 F G) (fun _ F' _ => MNS F0 F')) (x1 : Int32) (x4 : Int32) (x5 : Int32) (x6 : Int32) (z0 : Int32) (F : PF) (G : PG) (hM : MNS F0 F) : PP (mb_call_199 fu rc ag_156 x1 x4 x5 x6 z0 F G) (fun _ F' _ => MNS F0 F') := by
  unfold mb_call_199
  exact nkj_call_200 rc ihQ ag_156 hag_156 x1 x4 x5 x6 (0 : Int32) z0 F G hM
theorem nkj_call_195 {fu : Nat} (rc : RC) (ihQ : nkI rc) {F0 : PF} (ag_156 : Int32 → Int32 → Int32 → Int32 → PF → PG → PR) (hag_156 : ∀ (x1 : Int32) (x4 : Int32) (x5 : Int32) (x6 : Int32) (F : PF) (G : PG) (hM : MNS F0 F), PP (ag_156 x1 x4 x5 x6 F G) (fun _ F' _ => MNS F0 F')) (x1 : Int32) (x4 : Int32) (x5 : Int32) (x6 : Int32) (z0 : Int32) (F : PF) (G : PG) (hM : MNS F0 F) : PP (mb_call_195 fu rc ag_156 x1 x4 x5 x6 z0 F G) (fun _ F' _ => MNS F0 F') := by
  unfold mb_call_195
  exact nkj_call_200 rc ihQ ag_156 hag_156 x1 x4 x5 x6 (1 : Int32) z0 F G hM
theorem nkj_call_183 {fu : Nat} (rc : RC) (ihQ : nkI rc) {F0 : PF} (ag_156 : Int32 → Int32 → Int32 → Int32 → PF → PG → PR) (hag_156 : ∀ (x1 : Int32) (x4 : Int32) (x5 : Int32) (x6 : Int32) (F : PF) (G : PG) (hM : MNS F0 F), PP (ag_156 x1 x4 x5 x6 F G) (fun _ F' _ => MNS F0 F')) (x1 : Int32) (x4 : Int32) (x5 : Int32) (z0 : Int32) (F : PF) (G : PG) (hM : MNS F0 F) : PP (mb_call_183 fu rc ag_156 x1 x4 x5 z0 F G) (fun _ F' _ => MNS F0 F') := by
  unfold mb_call_183
  refine PP.ite (fun c_1 => ?_) (fun c_1 => ?_)
  · skip
    exact nkj_call_199 rc ihQ ag_156 hag_156 x1 x4 x5 z0 (F 42) F G hM
  · skip
    exact nkj_call_195 rc ihQ ag_156 hag_156 x1 x4 x5 z0 (F 42) F G hM
theorem nkj_call_174 {fu : Nat} (rc : RC) (ihQ : nkI rc) {F0 : PF} (ag_156 : Int32 → Int32 → Int32 → Int32 → PF → PG → PR) (hag_156 : ∀ (x1 : Int32) (x4 : Int32) (x5 : Int32) (x6 : Int32) (F : PF) (G : PG) (hM : MNS F0 F), PP (ag_156 x1 x4 x5 x6 F G) (fun _ F' _ => MNS F0 F')) (x1 : Int32) (x4 : Int32) (x5 : Int32) (F : PF) (G : PG) (hM : MNS F0 F) : PP (mb_call_174 fu rc ag_156 x1 x4 x5 F G) (fun _ F' _ => MNS F0 F') := by
  unfold mb_call_174
  refine PP.bind (mw_isSign (28 : Int32) F G) ?_
  intro r1 F1 G1 hM1
  dsimp only
  exact nkj_call_183 rc ihQ ag_156 hag_156 x1 x4 (x5 + (1 : Int32)) r1 F1 G1 (MNS.tr hM (MNS.kx hM1 rfl rfl rfl rfl))
theorem nkj_call_169 {fu : Nat} (rc : RC) (ihQ : nkI rc) {F0 : PF} (ag_156 : Int32 → Int32 → Int32 → Int32 → PF → PG → PR) (hag_156 : ∀ (x1 : Int32) (x4 : Int32) (x5 : Int32) (x6 : Int32) (F : PF) (G : PG) (hM : MNS F0 F), PP (ag_156 x1 x4 x5 x6 F G) (fun _ F' _ => MNS F0 F')) (x1 : Int32) (x4 : Int32) (x5 : Int32) (z0 : Int32) (F : PF) (G : PG) (hM : MNS F0 F) : PP (mb_call_169 fu rc ag_156 x1 x4 x5 z0 F G) (fun _ F' _ => MNS F0 F') := by
  unfold mb_call_169
  refine PP.ite (fun c_1 => ?_) (fun c_1 => ?_)
  · skip
    exact nkj_call_172 rc ihQ F G hM
  · skip
    exact nkj_call_174 rc ihQ ag_156 hag_156 x1 x4 x5 F G hM
theorem nkj_call_161 {fu : Nat} (rc : RC) (ihQ : nkI rc) {F0 : PF} (ag_156 : Int32 → Int32 → Int32 → Int32 → PF → PG → PR) (hag_156 : ∀ (x1 : Int32) (x4 : Int32) (x5 : Int32) (x6 : Int32) (F : PF) (G : PG) (hM : MNS F0 F), PP (ag_156 x1 x4 x5 x6 F G) (fun _ F' _ => MNS F0 F')) (x1 : Int32) (x4 : Int32) (x5 : Int32) (F : PF) (G : PG) (hM : MNS F0 F) : PP (mb_call_161 fu rc ag_156 x1 x4 x5 F G) (fun _ F' _ => MNS F0 F') := by
  unfold mb_call_161
  refine PP.bind (ihQ 0 x4 x5 F G) ?_
  intro r1 F1 G1 hM1
  dsimp only
  exact nkj_call_169 rc ihQ ag_156 hag_156 x1 x4 x5 r1 F1 G1 (MNS.tr hM hM1)
theorem nkz_call_156 {fu : Nat} (rc : RC) (ihQ : nkI rc) {F0 : PF} : ∀ (n : Nat) (x1 : Int32) (x4 : Int32) (x5 : Int32) (x6 : Int32) (F : PF) (G : PG) (hM : MNS F0 F), PP (ml_call_156 fu rc n x1 x4 x5 x6 F G) (fun _ F' _ => MNS F0 F') := by
  intro n
  induction n with
  | zero =>
    intro x1 x4 x5 x6 F G hM
    exact PP.no
  | succ n ihn =>
    intro x1 x4 x5 x6 F G hM
    show PP (mb_call_156 fu rc (ml_call_156 fu rc n) x1 x4 x5 x6 F G) _
    unfold mb_call_156
    refine PP.ite (fun c_1 => ?_) (fun c_1 => ?_)
    · skip
      exact nkj_call_207 rc ihQ x1 x4 x5 F G hM
    · skip
      exact nkj_call_161 rc ihQ (ml_call_156 fu rc n) ihn x1 x4 x5 F G hM
theorem nkj_call_154 {fu : Nat} (rc : RC) (ihQ : nkI rc) {F0 : PF} (x1 : Int32) (x4 : Int32) (x5 : Int32) (z0 : Int32) (F : PF) (G : PG) (hM : MNS F0 F) : PP (mb_call_154 fu rc x1 x4 x5 z0 F G) (fun _ F' _ => MNS F0 F') := by
  unfold mb_call_154
  exact nkz_call_156 rc ihQ fu x1 x4 x5 z0 F G hM
theorem nkj_call_149 {fu : Nat} (rc : RC) (ihQ : nkI rc) {F0 : PF} (x1 : Int32) (x4 : Int32) (x5 : Int32) (F : PF) (G : PG) (hM : MNS F0 F) : PP (mb_call_149 fu rc x1 x4 x5 F G) (fun _ F' _ => MNS F0 F') := by
  unfold mb_call_149
  exact nkj_call_154 rc ihQ x1 x4 x5 (1 : Int32) F G hM
theorem nkj_call_153 {fu : Nat} (rc : RC) (ihQ : nkI rc) {F0 : PF} (x1 : Int32) (x4 : Int32) (x5 : Int32) (F : PF) (G : PG) (hM : MNS F0 F) : PP (mb_call_153 fu rc x1 x4 x5 F G) (fun _ F' _ => MNS F0 F') := by
  unfold mb_call_153
  exact nkj_call_154 rc ihQ x1 x4 x5 (0 : Int32) F G hM
theorem nkj_call_146 {fu : Nat} (rc : RC) (ihQ : nkI rc) {F0 : PF} (x1 : Int32) (x4 : Int32) (x5 : Int32) (z0 : Int32) (F : PF) (G : PG) (hM : MNS F0 F) : PP (mb_call_146 fu rc x1 x4 x5 z0 F G) (fun _ F' _ => MNS F0 F') := by
  unfold mb_call_146
  refine PP.ite (fun c_1 => ?_) (fun c_1 => ?_)
  · skip
    exact nkj_call_149 rc ihQ x1 x4 x5 F G hM
  · skip
    exact nkj_call_153 rc ihQ x1 x4 x5 F G hM
theorem nkj_call_137 {fu : Nat} (rc : RC) (ihQ : nkI rc) {F0 : PF} (x1 : Int32) (x4 : Int32) (F : PF) (G : PG) (hM : MNS F0 F) : PP (mb_call_137 fu rc x1 x4 F G) (fun _ F' _ => MNS F0 F') := by
  unfold mb_call_137
  refine PP.bind (mw_isSign (23 : Int32) F G) ?_
  intro r1 F1 G1 hM1
  dsimp only
  exact nkj_call_146 rc ihQ x1 x4 (0 : Int32) r1 F1 G1 (MNS.tr hM (MNS.kx hM1 rfl rfl rfl rfl))
theorem nkj_call_132 {fu : Nat} (rc : RC) (ihQ : nkI rc) {F0 : PF} (x1 : Int32) (x4 : Int32) (z0 : Int32) (F : PF) (G : PG) (hM : MNS F0 F) : PP (mb_call_132 fu rc x1 x4 z0 F G) (fun _ F' _ => MNS F0 F') := by
  unfold mb_call_132
  refine PP.ite (fun c_1 => ?_) (fun c_1 => ?_)
  · skip
    exact nkj_call_135 rc ihQ F G hM
  · skip
    exact nkj_call_137 rc ihQ x1 x4 F G hM
theorem nkj_call_126 {fu : Nat} (rc : RC) (ihQ : nkI rc) {F0 : PF} (x1 : Int32) (x4 : Int32) (F : PF) (G : PG) (hM : MNS F0 F) : PP (mb_call_126 fu rc x1 x4 F G) (fun _ F' _ => MNS F0 F') := by
  unfold mb_call_126
  refine PP.bind (nk_openSign (22 : Int32) F G) ?_
  intro r1 F1 G1 hM1
  dsimp only
  exact nkj_call_132 rc ihQ x1 x4 r1 F1 G1 (MNS.tr hM hM1)
theorem nkj_call_114 {fu : Nat} (rc : RC) (ihQ : nkI rc) {F0 : PF} (x1 : Int32) (x4 : Int32) (F : PF) (G : PG) (hM : MNS F0 F) : PP (mb_call_114 fu rc x1 x4 F G) (fun _ F' _ => MNS F0 F') := by
  unfold mb_call_114
  refine PP.ix (fun _ => ?_)
  refine PP.bind (nk_note (8 : Int32) (G 6 x1.toNatClampNeg) (by decide) F G) ?_
  intro r1 F1 G1 hM1
  dsimp only
  exact nkj_call_126 rc ihQ x1 x4 F1 G1 (MNS.tr hM hM1)
theorem nkj_call_104 {fu : Nat} (rc : RC) (ihQ : nkI rc) {F0 : PF} (x1 : Int32) (x4 : Int32) (F : PF) (G : PG) (hM : MNS F0 F) : PP (mb_call_104 fu rc x1 x4 F G) (fun _ F' _ => MNS F0 F') := by
  unfold mb_call_104
  refine PP.ix (fun _ => ?_)
  refine PP.ite (fun c_1 => ?_) (fun c_1 => ?_)
  · skip
    exact nkj_call_126 rc ihQ x1 x4 F G hM
  · skip
    exact nkj_call_114 rc ihQ x1 x4 F G hM
theorem nkj_call_100 {fu : Nat} (rc : RC) (ihQ : nkI rc) {F0 : PF} (x1 : Int32) (x2 : Int32) (x4 : Int32) (F : PF) (G : PG) (hM : MNS F0 F) : PP (mb_call_100 fu rc x1 x2 x4 F G) (fun _ F' _ => MNS F0 F') := by
  unfold mb_call_100
  refine PP.ite (fun c_1 => ?_) (fun c_1 => ?_)
  · skip
    exact nkj_call_126 rc ihQ x1 x4 F G hM
  · skip
    exact nkj_call_104 rc ihQ x1 x4 F G hM
theorem nkj_call_94 {fu : Nat} (rc : RC) (ihQ : nkI rc) {F0 : PF} (x1 : Int32) (x2 : Int32) (x4 : Int32) (F : PF) (G : PG) (hM : MNS F0 F) : PP (mb_call_94 fu rc x1 x2 x4 F G) (fun _ F' _ => MNS F0 F') := by
  unfold mb_call_94
  refine PP.ite (fun c_1 => ?_) (fun c_1 => ?_)
  · skip
    exact nkj_call_126 rc ihQ x1 x4 F G hM
  · skip
    exact nkj_call_100 rc ihQ x1 x2 x4 F G hM
theorem nkj_call_87 {fu : Nat} (rc : RC) (ihQ : nkI rc) {F0 : PF} (x1 : Int32) (x2 : Int32) (x4 : Int32) (F : PF) (G : PG) (hM : MNS F0 F) : PP (mb_call_87 fu rc x1 x2 x4 F G) (fun _ F' _ => MNS F0 F') := by
  unfold mb_call_87
  refine PP.ite (fun c_1 => ?_) (fun c_1 => ?_)
  · skip
    exact nkj_call_94 rc ihQ x1 x2 x4 F G hM
  · skip
    exact nkj_call_126 rc ihQ x1 x4 F G hM
theorem nkj_call_75 {fu : Nat} (rc : RC) (ihQ : nkI rc) {F0 : PF} (x1 : Int32) (x2 : Int32) (x4 : Int32) (F : PF) (G : PG) (hM : MNS F0 F) : PP (mb_call_75 fu rc x1 x2 x4 F G) (fun _ F' _ => MNS F0 F') := by
  unfold mb_call_75
  refine PP.ix (fun _ => ?_)
  refine PP.bind (nk_note (6 : Int32) (G 6 x1.toNatClampNeg) (by decide) F G) ?_
  intro r1 F1 G1 hM1
  dsimp only
  exact nkj_call_87 rc ihQ x1 x2 x4 F1 G1 (MNS.tr hM hM1)
theorem nkj_call_70 {fu : Nat} (rc : RC) (ihQ : nkI rc) {F0 : PF} (x1 : Int32) (x2 : Int32) (x3 : Int32) (x4 : Int32) (F : PF) (G : PG) (hM : MNS F0 F) : PP (mb_call_70 fu rc x1 x2 x3 x4 F G) (fun _ F' _ => MNS F0 F') := by
  unfold mb_call_70
  refine PP.ite (fun c_1 => ?_) (fun c_1 => ?_)
  · skip
    exact nkj_call_87 rc ihQ x1 x2 x4 F G hM
  · skip
    exact nkj_call_75 rc ihQ x1 x2 x4 F G hM
theorem nkj_call_63 {fu : Nat} (rc : RC) (ihQ : nkI rc) {F0 : PF} (x1 : Int32) (x2 : Int32) (x3 : Int32) (x4 : Int32) (F : PF) (G : PG) (hM : MNS F0 F) : PP (mb_call_63 fu rc x1 x2 x3 x4 F G) (fun _ F' _ => MNS F0 F') := by
  unfold mb_call_63
  refine PP.ite (fun c_1 => ?_) (fun c_1 => ?_)
  · skip
    exact nkj_call_70 rc ihQ x1 x2 x3 x4 F G hM
  · skip
    exact nkj_call_87 rc ihQ x1 x2 x4 F G hM
theorem nkj_call_52 {fu : Nat} (rc : RC) (ihQ : nkI rc) {F0 : PF} (x1 : Int32) (x2 : Int32) (x3 : Int32) (x4 : Int32) (F : PF) (G : PG) (hM : MNS F0 F) : PP (mb_call_52 fu rc x1 x2 x3 x4 F G) (fun _ F' _ => MNS F0 F') := by
  unfold mb_call_52
  refine PP.ix (fun _ => ?_)
  refine PP.bind (nk_note (4 : Int32) (G 6 x1.toNatClampNeg) (by decide) F G) ?_
  intro r1 F1 G1 hM1
  dsimp only
  exact nkj_call_63 rc ihQ x1 x2 x3 x4 F1 G1 (MNS.tr hM hM1)
theorem nkj_call_46 {fu : Nat} (rc : RC) (ihQ : nkI rc) {F0 : PF} (x1 : Int32) (x2 : Int32) (x3 : Int32) (x4 : Int32) (F : PF) (G : PG) (hM : MNS F0 F) : PP (mb_call_46 fu rc x1 x2 x3 x4 F G) (fun _ F' _ => MNS F0 F') := by
  unfold mb_call_46
  refine PP.ite (fun c_1 => ?_) (fun c_1 => ?_)
  · skip
    exact nkj_call_52 rc ihQ x1 x2 x3 x4 F G hM
  · skip
    exact nkj_call_63 rc ihQ x1 x2 x3 x4 F G hM
theorem nkj_call_41 {fu : Nat} (rc : RC) (ihQ : nkI rc) {F0 : PF} (x1 : Int32) (x2 : Int32) (x3 : Int32) (x4 : Int32) (F : PF) (G : PG) (hM : MNS F0 F) : PP (mb_call_41 fu rc x1 x2 x3 x4 F G) (fun _ F' _ => MNS F0 F') := by
  unfold mb_call_41
  refine PP.ite (fun c_1 => ?_) (fun c_1 => ?_)
  · skip
    exact nkj_call_46 rc ihQ x1 x2 x3 x4 F G hM
  · skip
    exact nkj_call_63 rc ihQ x1 x2 x3 x4 F G hM
theorem nkj_call_32 {fu : Nat} (rc : RC) (ihQ : nkI rc) {F0 : PF} (x1 : Int32) (x2 : Int32) (x3 : Int32) (z0 : Int32) (F : PF) (G : PG) (hM : MNS F0 F) : PP (mb_call_32 fu rc x1 x2 x3 z0 F G) (fun _ F' _ => MNS F0 F') := by
  unfold mb_call_32
  refine PP.ite (fun c_1 => ?_) (fun c_1 => ?_)
  · skip
    exact nkj_call_41 rc ihQ x1 x2 x3 z0 F G hM
  · skip
    exact nkj_call_63 rc ihQ x1 x2 x3 z0 F G hM
theorem nkj_call_24 {fu : Nat} (rc : RC) (ihQ : nkI rc) {F0 : PF} (x1 : Int32) (x2 : Int32) (x3 : Int32) (F : PF) (G : PG) (hM : MNS F0 F) : PP (mb_call_24 fu rc x1 x2 x3 F G) (fun _ F' _ => MNS F0 F') := by
  unfold mb_call_24
  exact nkj_call_32 rc ihQ x1 x2 x3 (-1 : Int32) F G hM
theorem nkj_call_28 {fu : Nat} (rc : RC) (ihQ : nkI rc) {F0 : PF} (x1 : Int32) (x2 : Int32) (x3 : Int32) (F : PF) (G : PG) (hM : MNS F0 F) : PP (mb_call_28 fu rc x1 x2 x3 F G) (fun _ F' _ => MNS F0 F') := by
  unfold mb_call_28
  exact nkj_call_32 rc ihQ x1 x2 x3 (F 62) F G hM
theorem nkj_call_16 {fu : Nat} (rc : RC) (ihQ : nkI rc) {F0 : PF} (x1 : Int32) (x2 : Int32) (z0 : Int32) (F : PF) (G : PG) (hM : MNS F0 F) : PP (mb_call_16 fu rc x1 x2 z0 F G) (fun _ F' _ => MNS F0 F') := by
  unfold mb_call_16
  refine PP.ite (fun c_1 => ?_) (fun c_1 => ?_)
  · skip
    exact nkj_call_24 rc ihQ x1 x2 z0 F G hM
  · skip
    exact nkj_call_28 rc ihQ x1 x2 z0 F G hM
theorem nkj_call_7 {fu : Nat} (rc : RC) (ihQ : nkI rc) {F0 : PF} (x1 : Int32) (x2 : Int32) (F : PF) (G : PG) (hM : MNS F0 F) : PP (mb_call_7 fu rc x1 x2 F G) (fun _ F' _ => MNS F0 F') := by
  unfold mb_call_7
  exact nkj_call_16 rc ihQ x1 x2 (-1 : Int32) F G hM
theorem nkj_call_11 {fu : Nat} (rc : RC) (ihQ : nkI rc) {F0 : PF} (x1 : Int32) (x2 : Int32) (F : PF) (G : PG) (hM : MNS F0 F) : PP (mb_call_11 fu rc x1 x2 F G) (fun _ F' _ => MNS F0 F') := by
  unfold mb_call_11
  refine PP.bind (mw_meaning x1 F G) ?_
  intro r1 F1 G1 hM1
  dsimp only
  exact nkj_call_16 rc ihQ x1 x2 r1 F1 G1 (MNS.tr hM (MNS.kx hM1 rfl rfl rfl rfl))
theorem nkt_call {fu : Nat} (rc : RC) (ihQ : nkI rc) (x1 : Int32) (x2 : Int32) (F : PF) (G : PG) : PP (mh_call fu rc x1 x2 F G) (fun _ F' _ => MNS F F') := by
  unfold mh_call
  unfold mb_call_0
  refine PP.ite (fun c_1 => ?_) (fun c_1 => ?_)
  · skip
    exact nkj_call_7 rc ihQ x1 x2 F G MNS.rf
  · skip
    exact nkj_call_11 rc ihQ x1 x2 F G MNS.rf
theorem nkj_chain_147 {fu : Nat} (rc : RC) (ihQ : nkI rc) {F0 : PF} (F : PF) (G : PG) (hM : MNS F0 F) : PP (mb_chain_147 fu rc F G) (fun _ F' _ => MNS F0 F') := by
  unfold mb_chain_147
  refine PP.ret ?_
  exact hM
theorem nkj_chain_54 {fu : Nat} (rc : RC) (ihQ : nkI rc) {F0 : PF} (F : PF) (G : PG) (hM : MNS F0 F) : PP (mb_chain_54 fu rc F G) (fun _ F' _ => MNS F0 F') := by
  unfold mb_chain_54
  refine PP.ret ?_
  exact hM
theorem nkj_chain_143 {fu : Nat} (rc : RC) (ihQ : nkI rc) {F0 : PF} (ag_10 : Int32 → Int32 → PF → PG → PR) (hag_10 : ∀ (x1 : Int32) (x2 : Int32) (F : PF) (G : PG) (hM : MNS F0 F), PP (ag_10 x1 x2 F G) (fun _ F' _ => MNS F0 F')) (x1 : Int32) (z0 : Int32) (F : PF) (G : PG) (hM : MNS F0 F) : PP (mb_chain_143 fu rc ag_10 x1 z0 F G) (fun _ F' _ => MNS F0 F') := by
  unfold mb_chain_143
  exact hag_10 x1 z0 F G hM
theorem nkj_chain_139 {fu : Nat} (rc : RC) (ihQ : nkI rc) {F0 : PF} (ag_10 : Int32 → Int32 → PF → PG → PR) (hag_10 : ∀ (x1 : Int32) (x2 : Int32) (F : PF) (G : PG) (hM : MNS F0 F), PP (ag_10 x1 x2 F G) (fun _ F' _ => MNS F0 F')) (x1 : Int32) (F : PF) (G : PG) (hM : MNS F0 F) : PP (mb_chain_139 fu rc ag_10 x1 F G) (fun _ F' _ => MNS F0 F') := by
  unfold mb_chain_139
  refine PP.bind (ihQ 7 0 0 F G) ?_
  intro r1 F1 G1 hM1
  dsimp only
  exact nkj_chain_143 rc ihQ ag_10 hag_10 x1 r1 F1 G1 (MNS.tr hM hM1)
theorem nkj_chain_129 {fu : Nat} (rc : RC) (ihQ : nkI rc) {F0 : PF} (ag_10 : Int32 → Int32 → PF → PG → PR) (hag_10 : ∀ (x1 : Int32) (x2 : Int32) (F : PF) (G : PG) (hM : MNS F0 F), PP (ag_10 x1 x2 F G) (fun _ F' _ => MNS F0 F')) (x1 : Int32) (F : PF) (G : PG) (hM : MNS F0 F) : PP (mb_chain_129 fu rc ag_10 x1 F G) (fun _ F' _ => MNS F0 F') := by
  unfold mb_chain_129
  exact nkj_chain_139 rc ihQ ag_10 hag_10 x1 (fup F 42 ((F 42) + (1 : Int32))) G (MNS.f (k := 42) rfl hM)
theorem nkj_chain_119 {fu : Nat} (rc : RC) (ihQ : nkI rc) {F0 : PF} (ag_10 : Int32 → Int32 → PF → PG → PR) (hag_10 : ∀ (x1 : Int32) (x2 : Int32) (F : PF) (G : PG) (hM : MNS F0 F), PP (ag_10 x1 x2 F G) (fun _ F' _ => MNS F0 F')) (x1 : Int32) (F : PF) (G : PG) (hM : MNS F0 F) : PP (mb_chain_119 fu rc ag_10 x1 F G) (fun _ F' _ => MNS F0 F') := by
  unfold mb_chain_119
  exact nkj_chain_129 rc ihQ ag_10 hag_10 x1 (fup F 70 ((F 70) + (1 : Int32))) G (MNS.f (k := 70) rfl hM)
theorem nkj_chain_118 {fu : Nat} (rc : RC) (ihQ : nkI rc) {F0 : PF} (ag_10 : Int32 → Int32 → PF → PG → PR) (hag_10 : ∀ (x1 : Int32) (x2 : Int32) (F : PF) (G : PG) (hM : MNS F0 F), PP (ag_10 x1 x2 F G) (fun _ F' _ => MNS F0 F')) (x1 : Int32) (z0 : Int32) (z1 : Int32) (F : PF) (G : PG) (hM : MNS F0 F) : PP (mb_chain_118 fu rc ag_10 x1 z0 z1 F G) (fun _ F' _ => MNS F0 F') := by
  unfold mb_chain_118
  refine PP.ix (fun _ => ?_)
  exact nkj_chain_119 rc ihQ ag_10 hag_10 x1 F (gup G 69 z1.toNatClampNeg z0) hM
theorem nkj_chain_113 {fu : Nat} (rc : RC) (ihQ : nkI rc) {F0 : PF} (ag_10 : Int32 → Int32 → PF → PG → PR) (hag_10 : ∀ (x1 : Int32) (x2 : Int32) (F : PF) (G : PG) (hM : MNS F0 F), PP (ag_10 x1 x2 F G) (fun _ F' _ => MNS F0 F')) (x1 : Int32) (z0 : Int32) (z2 : Int32) (F : PF) (G : PG) (hM : MNS F0 F) : PP (mb_chain_113 fu rc ag_10 x1 z0 z2 F G) (fun _ F' _ => MNS F0 F') := by
  unfold mb_chain_113
  refine PP.bind (mw_step z0 (0 : Int32) (0 : Int32) F G) ?_
  intro r1 F1 G1 hM1
  dsimp only
  exact nkj_chain_118 rc ihQ ag_10 hag_10 x1 r1 z2 F1 G1 (MNS.tr hM (MNS.kx hM1 rfl rfl rfl rfl))
theorem nkj_chain_106 {fu : Nat} (rc : RC) (ihQ : nkI rc) {F0 : PF} (ag_10 : Int32 → Int32 → PF → PG → PR) (hag_10 : ∀ (x1 : Int32) (x2 : Int32) (F : PF) (G : PG) (hM : MNS F0 F), PP (ag_10 x1 x2 F G) (fun _ F' _ => MNS F0 F')) (x1 : Int32) (z1 : Int32) (F : PF) (G : PG) (hM : MNS F0 F) : PP (mb_chain_106 fu rc ag_10 x1 z1 F G) (fun _ F' _ => MNS F0 F') := by
  unfold mb_chain_106
  exact nkj_chain_113 rc ihQ ag_10 hag_10 x1 (14 : Int32) z1 F G hM
theorem nkj_chain_111 {fu : Nat} (rc : RC) (ihQ : nkI rc) {F0 : PF} (ag_10 : Int32 → Int32 → PF → PG → PR) (hag_10 : ∀ (x1 : Int32) (x2 : Int32) (F : PF) (G : PG) (hM : MNS F0 F), PP (ag_10 x1 x2 F G) (fun _ F' _ => MNS F0 F')) (x1 : Int32) (z1 : Int32) (F : PF) (G : PG) (hM : MNS F0 F) : PP (mb_chain_111 fu rc ag_10 x1 z1 F G) (fun _ F' _ => MNS F0 F') := by
  unfold mb_chain_111
  exact nkj_chain_113 rc ihQ ag_10 hag_10 x1 (13 : Int32) z1 F G hM
theorem nkj_chain_101 {fu : Nat} (rc : RC) (ihQ : nkI rc) {F0 : PF} (ag_10 : Int32 → Int32 → PF → PG → PR) (hag_10 : ∀ (x1 : Int32) (x2 : Int32) (F : PF) (G : PG) (hM : MNS F0 F), PP (ag_10 x1 x2 F G) (fun _ F' _ => MNS F0 F')) (x1 : Int32) (x3 : Int32) (z0 : Int32) (F : PF) (G : PG) (hM : MNS F0 F) : PP (mb_chain_101 fu rc ag_10 x1 x3 z0 F G) (fun _ F' _ => MNS F0 F') := by
  unfold mb_chain_101
  refine PP.ite (fun c_1 => ?_) (fun c_1 => ?_)
  · skip
    exact nkj_chain_106 rc ihQ ag_10 hag_10 x1 z0 F G hM
  · skip
    exact nkj_chain_111 rc ihQ ag_10 hag_10 x1 z0 F G hM
theorem nkj_chain_97 {fu : Nat} (rc : RC) (ihQ : nkI rc) {F0 : PF} (ag_10 : Int32 → Int32 → PF → PG → PR) (hag_10 : ∀ (x1 : Int32) (x2 : Int32) (F : PF) (G : PG) (hM : MNS F0 F), PP (ag_10 x1 x2 F G) (fun _ F' _ => MNS F0 F')) (x1 : Int32) (z0 : Int32) (F : PF) (G : PG) (hM : MNS F0 F) : PP (mb_chain_97 fu rc ag_10 x1 z0 F G) (fun _ F' _ => MNS F0 F') := by
  unfold mb_chain_97
  exact nkj_chain_118 rc ihQ ag_10 hag_10 x1 (-1 : Int32) z0 F G hM
theorem nkj_chain_84 {fu : Nat} (rc : RC) (ihQ : nkI rc) {F0 : PF} (ag_10 : Int32 → Int32 → PF → PG → PR) (hag_10 : ∀ (x1 : Int32) (x2 : Int32) (F : PF) (G : PG) (hM : MNS F0 F), PP (ag_10 x1 x2 F G) (fun _ F' _ => MNS F0 F')) (x1 : Int32) (x3 : Int32) (F : PF) (G : PG) (hM : MNS F0 F) : PP (mb_chain_84 fu rc ag_10 x1 x3 F G) (fun _ F' _ => MNS F0 F') := by
  unfold mb_chain_84
  refine PP.ite (fun c_1 => ?_) (fun c_1 => ?_)
  · skip
    exact nkj_chain_101 rc ihQ ag_10 hag_10 x1 x3 (F 70) F G hM
  · skip
    exact nkj_chain_97 rc ihQ ag_10 hag_10 x1 (F 70) F G hM
theorem nkj_chain_74 {fu : Nat} (rc : RC) (ihQ : nkI rc) {F0 : PF} (ag_10 : Int32 → Int32 → PF → PG → PR) (hag_10 : ∀ (x1 : Int32) (x2 : Int32) (F : PF) (G : PG) (hM : MNS F0 F), PP (ag_10 x1 x2 F G) (fun _ F' _ => MNS F0 F')) (x1 : Int32) (x3 : Int32) (F : PF) (G : PG) (hM : MNS F0 F) : PP (mb_chain_74 fu rc ag_10 x1 x3 F G) (fun _ F' _ => MNS F0 F') := by
  unfold mb_chain_74
  refine PP.ix (fun _ => ?_)
  exact nkj_chain_84 rc ihQ ag_10 hag_10 x1 x3 F (gup G 68 (F 70).toNatClampNeg x3) hM
theorem nkj_chain_56 {fu : Nat} (rc : RC) (ihQ : nkI rc) {F0 : PF} (ag_10 : Int32 → Int32 → PF → PG → PR) (hag_10 : ∀ (x1 : Int32) (x2 : Int32) (F : PF) (G : PG) (hM : MNS F0 F), PP (ag_10 x1 x2 F G) (fun _ F' _ => MNS F0 F')) (x1 : Int32) (x3 : Int32) (F : PF) (G : PG) (hM : MNS F0 F) : PP (mb_chain_56 fu rc ag_10 x1 x3 F G) (fun _ F' _ => MNS F0 F') := by
  unfold mb_chain_56
  refine PP.ix (fun _ => ?_)
  refine PP.ix (fun _ => ?_)
  exact nkj_chain_74 rc ihQ ag_10 hag_10 x1 x3 F (gup G 67 (F 70).toNatClampNeg (G 5 (F 42).toNatClampNeg)) hM
theorem nkj_chain_49 {fu : Nat} (rc : RC) (ihQ : nkI rc) {F0 : PF} (ag_10 : Int32 → Int32 → PF → PG → PR) (hag_10 : ∀ (x1 : Int32) (x2 : Int32) (F : PF) (G : PG) (hM : MNS F0 F), PP (ag_10 x1 x2 F G) (fun _ F' _ => MNS F0 F')) (x1 : Int32) (x3 : Int32) (F : PF) (G : PG) (hM : MNS F0 F) : PP (mb_chain_49 fu rc ag_10 x1 x3 F G) (fun _ F' _ => MNS F0 F') := by
  unfold mb_chain_49
  refine PP.ite (fun c_1 => ?_) (fun c_1 => ?_)
  · skip
    exact nkj_chain_54 rc ihQ F G hM
  · skip
    exact nkj_chain_56 rc ihQ ag_10 hag_10 x1 x3 F G hM
theorem nkj_chain_46 {fu : Nat} (rc : RC) (ihQ : nkI rc) {F0 : PF} (ag_10 : Int32 → Int32 → PF → PG → PR) (hag_10 : ∀ (x1 : Int32) (x2 : Int32) (F : PF) (G : PG) (hM : MNS F0 F), PP (ag_10 x1 x2 F G) (fun _ F' _ => MNS F0 F')) (ag_19 : Int32 → Int32 → PF → PG → PR) (hag_19 : ∀ (x1 : Int32) (x3 : Int32) (F : PF) (G : PG) (hM : MNS F0 F), PP (ag_19 x1 x3 F G) (fun _ F' _ => MNS F0 F')) (x1 : Int32) (x3 : Int32) (F : PF) (G : PG) (hM : MNS F0 F) : PP (mb_chain_46 fu rc ag_10 ag_19 x1 x3 F G) (fun _ F' _ => MNS F0 F') := by
  unfold mb_chain_46
  exact hag_19 x1 x3 F G hM
theorem nkj_chain_42 {fu : Nat} (rc : RC) (ihQ : nkI rc) {F0 : PF} (ag_10 : Int32 → Int32 → PF → PG → PR) (hag_10 : ∀ (x1 : Int32) (x2 : Int32) (F : PF) (G : PG) (hM : MNS F0 F), PP (ag_10 x1 x2 F G) (fun _ F' _ => MNS F0 F')) (ag_19 : Int32 → Int32 → PF → PG → PR) (hag_19 : ∀ (x1 : Int32) (x3 : Int32) (F : PF) (G : PG) (hM : MNS F0 F), PP (ag_19 x1 x3 F G) (fun _ F' _ => MNS F0 F')) (x1 : Int32) (x3 : Int32) (F : PF) (G : PG) (hM : MNS F0 F) : PP (mb_chain_42 fu rc ag_10 ag_19 x1 x3 F G) (fun _ F' _ => MNS F0 F') := by
  unfold mb_chain_42
  refine PP.bind (mw_binds F G) ?_
  intro r1 F1 G1 hM1
  dsimp only
  exact nkj_chain_46 rc ihQ ag_10 hag_10 ag_19 hag_19 x1 x3 F1 G1 (MNS.tr hM (MNS.kx hM1 rfl rfl rfl rfl))
theorem nkj_chain_27 {fu : Nat} (rc : RC) (ihQ : nkI rc) {F0 : PF} (ag_10 : Int32 → Int32 → PF → PG → PR) (hag_10 : ∀ (x1 : Int32) (x2 : Int32) (F : PF) (G : PG) (hM : MNS F0 F), PP (ag_10 x1 x2 F G) (fun _ F' _ => MNS F0 F')) (ag_19 : Int32 → Int32 → PF → PG → PR) (hag_19 : ∀ (x1 : Int32) (x3 : Int32) (F : PF) (G : PG) (hM : MNS F0 F), PP (ag_19 x1 x3 F G) (fun _ F' _ => MNS F0 F')) (x1 : Int32) (x3 : Int32) (F : PF) (G : PG) (hM : MNS F0 F) : PP (mb_chain_27 fu rc ag_10 ag_19 x1 x3 F G) (fun _ F' _ => MNS F0 F') := by
  unfold mb_chain_27
  refine PP.ix (fun _ => ?_)
  refine PP.ite (fun c_1 => ?_) (fun c_1 => ?_)
  · skip
    exact nkj_chain_49 rc ihQ ag_10 hag_10 x1 x3 F G hM
  · skip
    exact nkj_chain_42 rc ihQ ag_10 hag_10 ag_19 hag_19 x1 x3 F G hM
theorem nkz_chain_19 {fu : Nat} (rc : RC) (ihQ : nkI rc) {F0 : PF} (ag_10 : Int32 → Int32 → PF → PG → PR) (hag_10 : ∀ (x1 : Int32) (x2 : Int32) (F : PF) (G : PG) (hM : MNS F0 F), PP (ag_10 x1 x2 F G) (fun _ F' _ => MNS F0 F')) : ∀ (n : Nat) (x1 : Int32) (x3 : Int32) (F : PF) (G : PG) (hM : MNS F0 F), PP (ml_chain_19 fu rc ag_10 n x1 x3 F G) (fun _ F' _ => MNS F0 F') := by
  intro n
  induction n with
  | zero =>
    intro x1 x3 F G hM
    exact PP.no
  | succ n ihn =>
    intro x1 x3 F G hM
    show PP (mb_chain_19 fu rc ag_10 (ml_chain_19 fu rc ag_10 n) x1 x3 F G) _
    unfold mb_chain_19
    refine PP.ite (fun c_1 => ?_) (fun c_1 => ?_)
    · skip
      exact nkj_chain_49 rc ihQ ag_10 hag_10 x1 x3 F G hM
    · skip
      exact nkj_chain_27 rc ihQ ag_10 hag_10 (ml_chain_19 fu rc ag_10 n) ihn x1 x3 F G hM
theorem nkj_chain_18 {fu : Nat} (rc : RC) (ihQ : nkI rc) {F0 : PF} (ag_10 : Int32 → Int32 → PF → PG → PR) (hag_10 : ∀ (x1 : Int32) (x2 : Int32) (F : PF) (G : PG) (hM : MNS F0 F), PP (ag_10 x1 x2 F G) (fun _ F' _ => MNS F0 F')) (x1 : Int32) (z0 : Int32) (F : PF) (G : PG) (hM : MNS F0 F) : PP (mb_chain_18 fu rc ag_10 x1 z0 F G) (fun _ F' _ => MNS F0 F') := by
  unfold mb_chain_18
  exact nkz_chain_19 rc ihQ ag_10 hag_10 fu x1 z0 F G hM
theorem nkj_chain_14 {fu : Nat} (rc : RC) (ihQ : nkI rc) {F0 : PF} (ag_10 : Int32 → Int32 → PF → PG → PR) (hag_10 : ∀ (x1 : Int32) (x2 : Int32) (F : PF) (G : PG) (hM : MNS F0 F), PP (ag_10 x1 x2 F G) (fun _ F' _ => MNS F0 F')) (x1 : Int32) (F : PF) (G : PG) (hM : MNS F0 F) : PP (mb_chain_14 fu rc ag_10 x1 F G) (fun _ F' _ => MNS F0 F') := by
  unfold mb_chain_14
  refine PP.bind (mw_level F G) ?_
  intro r1 F1 G1 hM1
  dsimp only
  exact nkj_chain_18 rc ihQ ag_10 hag_10 x1 r1 F1 G1 (MNS.tr hM (MNS.kx hM1 rfl rfl rfl rfl))
theorem nkz_chain_10 {fu : Nat} (rc : RC) (ihQ : nkI rc) {F0 : PF} : ∀ (n : Nat) (x1 : Int32) (x2 : Int32) (F : PF) (G : PG) (hM : MNS F0 F), PP (ml_chain_10 fu rc n x1 x2 F G) (fun _ F' _ => MNS F0 F') := by
  intro n
  induction n with
  | zero =>
    intro x1 x2 F G hM
    exact PP.no
  | succ n ihn =>
    intro x1 x2 F G hM
    show PP (mb_chain_10 fu rc (ml_chain_10 fu rc n) x1 x2 F G) _
    unfold mb_chain_10
    refine PP.ite (fun c_1 => ?_) (fun c_1 => ?_)
    · skip
      exact nkj_chain_147 rc ihQ F G hM
    · skip
      exact nkj_chain_14 rc ihQ (ml_chain_10 fu rc n) ihn x1 F G hM
theorem nkj_chain_9 {fu : Nat} (rc : RC) (ihQ : nkI rc) {F0 : PF} (x1 : Int32) (z0 : Int32) (F : PF) (G : PG) (hM : MNS F0 F) : PP (mb_chain_9 fu rc x1 z0 F G) (fun _ F' _ => MNS F0 F') := by
  unfold mb_chain_9
  exact nkz_chain_10 rc ihQ fu x1 z0 F G hM
theorem nkt_chain {fu : Nat} (rc : RC) (ihQ : nkI rc) (F : PF) (G : PG) : PP (mh_chain fu rc F G) (fun _ F' _ => MNS F F') := by
  unfold mh_chain
  unfold mb_chain_0
  refine PP.bind (ihQ 7 0 0 F G) ?_
  intro r1 F1 G1 hM1
  dsimp only
  exact nkj_chain_9 rc ihQ (F 70) r1 F1 G1 (MNS.tr MNS.rf hM1)
theorem nkj_element_89 {fu : Nat} (rc : RC) (ihQ : nkI rc) {F0 : PF} (F : PF) (G : PG) (hM : MNS F0 F) : PP (mb_element_89 fu rc F G) (fun _ F' _ => MNS F0 F') := by
  unfold mb_element_89
  refine PP.ret ?_
  exact hM
theorem nkj_element_123 {fu : Nat} (rc : RC) (ihQ : nkI rc) {F0 : PF} (F : PF) (G : PG) (hM : MNS F0 F) : PP (mb_element_123 fu rc F G) (fun _ F' _ => MNS F0 F') := by
  unfold mb_element_123
  refine PP.ret ?_
  exact hM
theorem nkj_element_121 {fu : Nat} (rc : RC) (ihQ : nkI rc) {F0 : PF} (z0 : Int32) (z1 : Int32) (z2 : Int32) (F : PF) (G : PG) (hM : MNS F0 F) : PP (mb_element_121 fu rc z0 z1 z2 F G) (fun _ F' _ => MNS F0 F') := by
  unfold mb_element_121
  refine PP.ix (fun _ => ?_)
  exact nkj_element_123 rc ihQ F (gup G 59 z2.toNatClampNeg (z1 + z0)) hM
theorem nkj_element_120 {fu : Nat} (rc : RC) (ihQ : nkI rc) {F0 : PF} (z0 : Int32) (z1 : Int32) (F : PF) (G : PG) (hM : MNS F0 F) : PP (mb_element_120 fu rc z0 z1 F G) (fun _ F' _ => MNS F0 F') := by
  unfold mb_element_120
  exact nkj_element_121 rc ihQ (0 : Int32) z0 z1 F G hM
theorem nkj_element_116 {fu : Nat} (rc : RC) (ihQ : nkI rc) {F0 : PF} (z0 : Int32) (z1 : Int32) (F : PF) (G : PG) (hM : MNS F0 F) : PP (mb_element_116 fu rc z0 z1 F G) (fun _ F' _ => MNS F0 F') := by
  unfold mb_element_116
  exact nkj_element_121 rc ihQ (1 : Int32) z0 z1 F G hM
theorem nkj_element_100 {fu : Nat} (rc : RC) (ihQ : nkI rc) {F0 : PF} (x2 : Int32) (x5 : Int32) (z0 : Int32) (F : PF) (G : PG) (hM : MNS F0 F) : PP (mb_element_100 fu rc x2 x5 z0 F G) (fun _ F' _ => MNS F0 F') := by
  unfold mb_element_100
  refine PP.ite (fun c_1 => ?_) (fun c_1 => ?_)
  · skip
    exact nkj_element_120 rc ihQ ((2 : Int32) * x2) z0 F G hM
  · skip
    exact nkj_element_116 rc ihQ ((2 : Int32) * x2) z0 F G hM
theorem nkj_element_91 {fu : Nat} (rc : RC) (ihQ : nkI rc) {F0 : PF} (x2 : Int32) (x3 : Int32) (x4 : Int32) (x5 : Int32) (F : PF) (G : PG) (hM : MNS F0 F) : PP (mb_element_91 fu rc x2 x3 x4 x5 F G) (fun _ F' _ => MNS F0 F') := by
  unfold mb_element_91
  refine PP.bind (mw_step (6 : Int32) x3 x4 F G) ?_
  intro r1 F1 G1 hM1
  dsimp only
  exact nkj_element_100 rc ihQ x2 x5 r1 F1 G1 (MNS.tr hM (MNS.kx hM1 rfl rfl rfl rfl))
theorem nkj_element_86 {fu : Nat} (rc : RC) (ihQ : nkI rc) {F0 : PF} (x2 : Int32) (x3 : Int32) (x4 : Int32) (x5 : Int32) (z0 : Int32) (F : PF) (G : PG) (hM : MNS F0 F) : PP (mb_element_86 fu rc x2 x3 x4 x5 z0 F G) (fun _ F' _ => MNS F0 F') := by
  unfold mb_element_86
  refine PP.ite (fun c_1 => ?_) (fun c_1 => ?_)
  · skip
    exact nkj_element_89 rc ihQ F G hM
  · skip
    exact nkj_element_91 rc ihQ x2 x3 x4 x5 F G hM
theorem nkj_element_80 {fu : Nat} (rc : RC) (ihQ : nkI rc) {F0 : PF} (x2 : Int32) (x3 : Int32) (x4 : Int32) (x5 : Int32) (F : PF) (G : PG) (hM : MNS F0 F) : PP (mb_element_80 fu rc x2 x3 x4 x5 F G) (fun _ F' _ => MNS F0 F') := by
  unfold mb_element_80
  refine PP.bind (nk_closeSign (25 : Int32) F G) ?_
  intro r1 F1 G1 hM1
  dsimp only
  exact nkj_element_86 rc ihQ x2 x3 x4 x5 r1 F1 G1 (MNS.tr hM hM1)
theorem nkj_element_77 {fu : Nat} (rc : RC) (ihQ : nkI rc) {F0 : PF} (x2 : Int32) (x3 : Int32) (x4 : Int32) (x5 : Int32) (z0 : Int32) (F : PF) (G : PG) (hM : MNS F0 F) : PP (mb_element_77 fu rc x2 x3 x4 x5 z0 F G) (fun _ F' _ => MNS F0 F') := by
  unfold mb_element_77
  refine PP.ite (fun c_1 => ?_) (fun c_1 => ?_)
  · skip
    exact nkj_element_89 rc ihQ F G hM
  · skip
    exact nkj_element_80 rc ihQ x2 x3 x4 x5 F G hM
theorem nkj_element_73 {fu : Nat} (rc : RC) (ihQ : nkI rc) {F0 : PF} (x2 : Int32) (x3 : Int32) (x4 : Int32) (x5 : Int32) (F : PF) (G : PG) (hM : MNS F0 F) : PP (mb_element_73 fu rc x2 x3 x4 x5 F G) (fun _ F' _ => MNS F0 F') := by
  unfold mb_element_73
  refine PP.bind (ihQ 4 0 0 F G) ?_
  intro r1 F1 G1 hM1
  dsimp only
  exact nkj_element_77 rc ihQ x2 x3 x4 x5 r1 F1 G1 (MNS.tr hM hM1)
theorem nkj_element_70 {fu : Nat} (rc : RC) (ihQ : nkI rc) {F0 : PF} (x2 : Int32) (x3 : Int32) (x4 : Int32) (x5 : Int32) (z0 : Int32) (F : PF) (G : PG) (hM : MNS F0 F) : PP (mb_element_70 fu rc x2 x3 x4 x5 z0 F G) (fun _ F' _ => MNS F0 F') := by
  unfold mb_element_70
  refine PP.ite (fun c_1 => ?_) (fun c_1 => ?_)
  · skip
    exact nkj_element_89 rc ihQ F G hM
  · skip
    exact nkj_element_73 rc ihQ x2 x3 x4 x5 F G hM
theorem nkj_element_62 {fu : Nat} (rc : RC) (ihQ : nkI rc) {F0 : PF} (x2 : Int32) (x3 : Int32) (x4 : Int32) (z0 : Int32) (F : PF) (G : PG) (hM : MNS F0 F) : PP (mb_element_62 fu rc x2 x3 x4 z0 F G) (fun _ F' _ => MNS F0 F') := by
  unfold mb_element_62
  refine PP.bind (nk_openSign (24 : Int32) F G) ?_
  intro r1 F1 G1 hM1
  dsimp only
  exact nkj_element_70 rc ihQ x2 x3 x4 z0 r1 F1 G1 (MNS.tr hM hM1)
theorem nkj_element_61 {fu : Nat} (rc : RC) (ihQ : nkI rc) {F0 : PF} (x2 : Int32) (x3 : Int32) (x4 : Int32) (F : PF) (G : PG) (hM : MNS F0 F) : PP (mb_element_61 fu rc x2 x3 x4 F G) (fun _ F' _ => MNS F0 F') := by
  unfold mb_element_61
  exact nkj_element_62 rc ihQ x2 x3 x4 (0 : Int32) F G hM
theorem nkj_element_57 {fu : Nat} (rc : RC) (ihQ : nkI rc) {F0 : PF} (x2 : Int32) (x3 : Int32) (x4 : Int32) (F : PF) (G : PG) (hM : MNS F0 F) : PP (mb_element_57 fu rc x2 x3 x4 F G) (fun _ F' _ => MNS F0 F') := by
  unfold mb_element_57
  exact nkj_element_62 rc ihQ x2 x3 x4 (1 : Int32) F G hM
theorem nkj_element_48 {fu : Nat} (rc : RC) (ihQ : nkI rc) {F0 : PF} (x1 : Int32) (x2 : Int32) (x3 : Int32) (x4 : Int32) (F : PF) (G : PG) (hM : MNS F0 F) : PP (mb_element_48 fu rc x1 x2 x3 x4 F G) (fun _ F' _ => MNS F0 F') := by
  unfold mb_element_48
  refine PP.ix (fun _ => ?_)
  refine PP.ite (fun c_1 => ?_) (fun c_1 => ?_)
  · skip
    exact nkj_element_61 rc ihQ x2 x3 x4 F G hM
  · skip
    exact nkj_element_57 rc ihQ x2 x3 x4 F G hM
theorem nkj_element_41 {fu : Nat} (rc : RC) (ihQ : nkI rc) {F0 : PF} (x1 : Int32) (x2 : Int32) (x3 : Int32) (z0 : Int32) (F : PF) (G : PG) (hM : MNS F0 F) : PP (mb_element_41 fu rc x1 x2 x3 z0 F G) (fun _ F' _ => MNS F0 F') := by
  unfold mb_element_41
  refine PP.ite (fun c_1 => ?_) (fun c_1 => ?_)
  · skip
    exact nkj_element_61 rc ihQ x2 x3 z0 F G hM
  · skip
    exact nkj_element_48 rc ihQ x1 x2 x3 z0 F G hM
theorem nkj_element_31 {fu : Nat} (rc : RC) (ihQ : nkI rc) {F0 : PF} (x1 : Int32) (x2 : Int32) (x3 : Int32) (F : PF) (G : PG) (hM : MNS F0 F) : PP (mb_element_31 fu rc x1 x2 x3 F G) (fun _ F' _ => MNS F0 F') := by
  unfold mb_element_31
  exact nkj_element_41 rc ihQ x1 x2 x3 (1 : Int32) F G hM
theorem nkj_element_35 {fu : Nat} (rc : RC) (ihQ : nkI rc) {F0 : PF} (x1 : Int32) (x2 : Int32) (x3 : Int32) (F : PF) (G : PG) (hM : MNS F0 F) : PP (mb_element_35 fu rc x1 x2 x3 F G) (fun _ F' _ => MNS F0 F') := by
  unfold mb_element_35
  refine PP.ix (fun _ => ?_)
  exact nkj_element_41 rc ihQ x1 x2 x3 (G 21 x1.toNatClampNeg) F G hM
theorem nkj_element_25 {fu : Nat} (rc : RC) (ihQ : nkI rc) {F0 : PF} (x1 : Int32) (x2 : Int32) (z0 : Int32) (F : PF) (G : PG) (hM : MNS F0 F) : PP (mb_element_25 fu rc x1 x2 z0 F G) (fun _ F' _ => MNS F0 F') := by
  unfold mb_element_25
  refine PP.ite (fun c_1 => ?_) (fun c_1 => ?_)
  · skip
    exact nkj_element_31 rc ihQ x1 x2 z0 F G hM
  · skip
    exact nkj_element_35 rc ihQ x1 x2 z0 F G hM
theorem nkj_element_15 {fu : Nat} (rc : RC) (ihQ : nkI rc) {F0 : PF} (x1 : Int32) (x2 : Int32) (F : PF) (G : PG) (hM : MNS F0 F) : PP (mb_element_15 fu rc x1 x2 F G) (fun _ F' _ => MNS F0 F') := by
  unfold mb_element_15
  exact nkj_element_25 rc ihQ x1 x2 (0 : Int32) F G hM
theorem nkj_element_19 {fu : Nat} (rc : RC) (ihQ : nkI rc) {F0 : PF} (x1 : Int32) (x2 : Int32) (F : PF) (G : PG) (hM : MNS F0 F) : PP (mb_element_19 fu rc x1 x2 F G) (fun _ F' _ => MNS F0 F') := by
  unfold mb_element_19
  refine PP.ix (fun _ => ?_)
  exact nkj_element_25 rc ihQ x1 x2 (G 20 x1.toNatClampNeg) F G hM
theorem nkt_element {fu : Nat} (rc : RC) (ihQ : nkI rc) (x1 : Int32) (F : PF) (G : PG) : PP (mh_element fu rc x1 F G) (fun _ F' _ => MNS F F') := by
  unfold mh_element
  unfold mb_element_0
  refine PP.ix (fun _ => ?_)
  refine PP.ite (fun c_1 => ?_) (fun c_1 => ?_)
  · skip
    exact nkj_element_15 rc ihQ x1 (G 6 (F 42).toNatClampNeg) F G MNS.rf
  · skip
    exact nkj_element_19 rc ihQ x1 (G 6 (F 42).toNatClampNeg) F G MNS.rf
theorem nkj_expression_7 {fu : Nat} (rc : RC) (ihQ : nkI rc) {F0 : PF} (F : PF) (G : PG) (hM : MNS F0 F) : PP (mb_expression_7 fu rc F G) (fun _ F' _ => MNS F0 F') := by
  unfold mb_expression_7
  refine PP.ret ?_
  exact hM
theorem nkj_expression_18 {fu : Nat} (rc : RC) (ihQ : nkI rc) {F0 : PF} (F : PF) (G : PG) (hM : MNS F0 F) : PP (mb_expression_18 fu rc F G) (fun _ F' _ => MNS F0 F') := by
  unfold mb_expression_18
  refine PP.ret ?_
  exact hM
theorem nkj_expression_27 {fu : Nat} (rc : RC) (ihQ : nkI rc) {F0 : PF} (F : PF) (G : PG) (hM : MNS F0 F) : PP (mb_expression_27 fu rc F G) (fun _ F' _ => MNS F0 F') := by
  unfold mb_expression_27
  refine PP.ret ?_
  exact hM
theorem nkj_expression_54 {fu : Nat} (rc : RC) (ihQ : nkI rc) {F0 : PF} (F : PF) (G : PG) (hM : MNS F0 F) : PP (mb_expression_54 fu rc F G) (fun _ F' _ => MNS F0 F') := by
  unfold mb_expression_54
  refine PP.ret ?_
  exact hM
theorem nkj_expression_82 {fu : Nat} (rc : RC) (ihQ : nkI rc) {F0 : PF} (F : PF) (G : PG) (hM : MNS F0 F) : PP (mb_expression_82 fu rc F G) (fun _ F' _ => MNS F0 F') := by
  unfold mb_expression_82
  refine PP.ret ?_
  exact hM
theorem nkj_expression_104 {fu : Nat} (rc : RC) (ihQ : nkI rc) {F0 : PF} (F : PF) (G : PG) (hM : MNS F0 F) : PP (mb_expression_104 fu rc F G) (fun _ F' _ => MNS F0 F') := by
  unfold mb_expression_104
  refine PP.ret ?_
  exact hM
theorem nkj_expression_94 {fu : Nat} (rc : RC) (ihQ : nkI rc) {F0 : PF} (F : PF) (G : PG) (hM : MNS F0 F) : PP (mb_expression_94 fu rc F G) (fun _ F' _ => MNS F0 F') := by
  unfold mb_expression_94
  exact nkj_expression_104 rc ihQ (fup F 43 ((F 43) - (1 : Int32))) G (MNS.f (k := 43) rfl hM)
theorem nkj_expression_84 {fu : Nat} (rc : RC) (ihQ : nkI rc) {F0 : PF} (x2 : Int32) (F : PF) (G : PG) (hM : MNS F0 F) : PP (mb_expression_84 fu rc x2 F G) (fun _ F' _ => MNS F0 F') := by
  unfold mb_expression_84
  refine PP.ix (fun _ => ?_)
  exact nkj_expression_94 rc ihQ F (gup G 57 x2.toNatClampNeg (F 60)) hM
theorem nkj_expression_79 {fu : Nat} (rc : RC) (ihQ : nkI rc) {F0 : PF} (x2 : Int32) (z0 : Int32) (F : PF) (G : PG) (hM : MNS F0 F) : PP (mb_expression_79 fu rc x2 z0 F G) (fun _ F' _ => MNS F0 F') := by
  unfold mb_expression_79
  refine PP.ite (fun c_1 => ?_) (fun c_1 => ?_)
  · skip
    exact nkj_expression_82 rc ihQ F G hM
  · skip
    exact nkj_expression_84 rc ihQ x2 F G hM
theorem nkj_expression_75 {fu : Nat} (rc : RC) (ihQ : nkI rc) {F0 : PF} (x2 : Int32) (F : PF) (G : PG) (hM : MNS F0 F) : PP (mb_expression_75 fu rc x2 F G) (fun _ F' _ => MNS F0 F') := by
  unfold mb_expression_75
  refine PP.bind (ihQ 4 0 0 F G) ?_
  intro r1 F1 G1 hM1
  dsimp only
  exact nkj_expression_79 rc ihQ x2 r1 F1 G1 (MNS.tr hM hM1)
theorem nkj_expression_64 {fu : Nat} (rc : RC) (ihQ : nkI rc) {F0 : PF} (x1 : Int32) (z0 : Int32) (F : PF) (G : PG) (hM : MNS F0 F) : PP (mb_expression_64 fu rc x1 z0 F G) (fun _ F' _ => MNS F0 F') := by
  unfold mb_expression_64
  refine PP.ix (fun _ => ?_)
  exact nkj_expression_75 rc ihQ z0 F (gup G 57 x1.toNatClampNeg (F 60)) hM
theorem nkj_expression_56 {fu : Nat} (rc : RC) (ihQ : nkI rc) {F0 : PF} (x1 : Int32) (F : PF) (G : PG) (hM : MNS F0 F) : PP (mb_expression_56 fu rc x1 F G) (fun _ F' _ => MNS F0 F') := by
  unfold mb_expression_56
  refine PP.bind (mw_step (12 : Int32) (0 : Int32) (0 : Int32) F G) ?_
  intro r1 F1 G1 hM1
  dsimp only
  exact nkj_expression_64 rc ihQ x1 r1 F1 G1 (MNS.tr hM (MNS.kx hM1 rfl rfl rfl rfl))
theorem nkj_expression_51 {fu : Nat} (rc : RC) (ihQ : nkI rc) {F0 : PF} (x1 : Int32) (z0 : Int32) (F : PF) (G : PG) (hM : MNS F0 F) : PP (mb_expression_51 fu rc x1 z0 F G) (fun _ F' _ => MNS F0 F') := by
  unfold mb_expression_51
  refine PP.ite (fun c_1 => ?_) (fun c_1 => ?_)
  · skip
    exact nkj_expression_54 rc ihQ F G hM
  · skip
    exact nkj_expression_56 rc ihQ x1 F G hM
theorem nkj_expression_45 {fu : Nat} (rc : RC) (ihQ : nkI rc) {F0 : PF} (x1 : Int32) (F : PF) (G : PG) (hM : MNS F0 F) : PP (mb_expression_45 fu rc x1 F G) (fun _ F' _ => MNS F0 F') := by
  unfold mb_expression_45
  refine PP.bind (nk_sign (31 : Int32) F G) ?_
  intro r1 F1 G1 hM1
  dsimp only
  exact nkj_expression_51 rc ihQ x1 r1 F1 G1 (MNS.tr hM hM1)
theorem nkj_expression_42 {fu : Nat} (rc : RC) (ihQ : nkI rc) {F0 : PF} (x1 : Int32) (z0 : Int32) (F : PF) (G : PG) (hM : MNS F0 F) : PP (mb_expression_42 fu rc x1 z0 F G) (fun _ F' _ => MNS F0 F') := by
  unfold mb_expression_42
  refine PP.ite (fun c_1 => ?_) (fun c_1 => ?_)
  · skip
    exact nkj_expression_54 rc ihQ F G hM
  · skip
    exact nkj_expression_45 rc ihQ x1 F G hM
theorem nkj_expression_37 {fu : Nat} (rc : RC) (ihQ : nkI rc) {F0 : PF} (z0 : Int32) (F : PF) (G : PG) (hM : MNS F0 F) : PP (mb_expression_37 fu rc z0 F G) (fun _ F' _ => MNS F0 F') := by
  unfold mb_expression_37
  refine PP.bind (ihQ 4 0 0 F G) ?_
  intro r1 F1 G1 hM1
  dsimp only
  exact nkj_expression_42 rc ihQ z0 r1 F1 G1 (MNS.tr hM hM1)
theorem nkj_expression_29 {fu : Nat} (rc : RC) (ihQ : nkI rc) {F0 : PF} (F : PF) (G : PG) (hM : MNS F0 F) : PP (mb_expression_29 fu rc F G) (fun _ F' _ => MNS F0 F') := by
  unfold mb_expression_29
  refine PP.bind (mw_step (13 : Int32) (0 : Int32) (0 : Int32) F G) ?_
  intro r1 F1 G1 hM1
  dsimp only
  exact nkj_expression_37 rc ihQ r1 F1 G1 (MNS.tr hM (MNS.kx hM1 rfl rfl rfl rfl))
theorem nkj_expression_24 {fu : Nat} (rc : RC) (ihQ : nkI rc) {F0 : PF} (z0 : Int32) (F : PF) (G : PG) (hM : MNS F0 F) : PP (mb_expression_24 fu rc z0 F G) (fun _ F' _ => MNS F0 F') := by
  unfold mb_expression_24
  refine PP.ite (fun c_1 => ?_) (fun c_1 => ?_)
  · skip
    exact nkj_expression_27 rc ihQ F G hM
  · skip
    exact nkj_expression_29 rc ihQ F G hM
theorem nkj_expression_20 {fu : Nat} (rc : RC) (ihQ : nkI rc) {F0 : PF} (F : PF) (G : PG) (hM : MNS F0 F) : PP (mb_expression_20 fu rc F G) (fun _ F' _ => MNS F0 F') := by
  unfold mb_expression_20
  refine PP.bind (nk_opens F G) ?_
  intro r1 F1 G1 hM1
  dsimp only
  exact nkj_expression_24 rc ihQ r1 F1 G1 (MNS.tr hM hM1)
theorem nkj_expression_15 {fu : Nat} (rc : RC) (ihQ : nkI rc) {F0 : PF} (z0 : Int32) (F : PF) (G : PG) (hM : MNS F0 F) : PP (mb_expression_15 fu rc z0 F G) (fun _ F' _ => MNS F0 F') := by
  unfold mb_expression_15
  refine PP.ite (fun c_1 => ?_) (fun c_1 => ?_)
  · skip
    exact nkj_expression_18 rc ihQ F G hM
  · skip
    exact nkj_expression_20 rc ihQ F G hM
theorem nkj_expression_9 {fu : Nat} (rc : RC) (ihQ : nkI rc) {F0 : PF} (F : PF) (G : PG) (hM : MNS F0 F) : PP (mb_expression_9 fu rc F G) (fun _ F' _ => MNS F0 F') := by
  unfold mb_expression_9
  refine PP.bind (mw_isSign (30 : Int32) F G) ?_
  intro r1 F1 G1 hM1
  dsimp only
  exact nkj_expression_15 rc ihQ r1 F1 G1 (MNS.tr hM (MNS.kx hM1 rfl rfl rfl rfl))
theorem nkj_expression_4 {fu : Nat} (rc : RC) (ihQ : nkI rc) {F0 : PF} (z0 : Int32) (F : PF) (G : PG) (hM : MNS F0 F) : PP (mb_expression_4 fu rc z0 F G) (fun _ F' _ => MNS F0 F') := by
  unfold mb_expression_4
  refine PP.ite (fun c_1 => ?_) (fun c_1 => ?_)
  · skip
    exact nkj_expression_7 rc ihQ F G hM
  · skip
    exact nkj_expression_9 rc ihQ F G hM
theorem nkt_expression {fu : Nat} (rc : RC) (ihQ : nkI rc) (F : PF) (G : PG) : PP (mh_expression fu rc F G) (fun _ F' _ => MNS F F') := by
  unfold mh_expression
  unfold mb_expression_0
  refine PP.bind (ihQ 2 0 0 F G) ?_
  intro r1 F1 G1 hM1
  dsimp only
  exact nkj_expression_4 rc ihQ r1 F1 G1 (MNS.tr MNS.rf hM1)
theorem nkj_inConstant_248 {fu : Nat} (rc : RC) (ihQ : nkI rc) {F0 : PF} (F : PF) (G : PG) (hM : MNS F0 F) : PP (mb_inConstant_248 fu rc F G) (fun _ F' _ => MNS F0 F') := by
  unfold mb_inConstant_248
  refine PP.ret ?_
  exact hM
theorem nkj_inConstant_247 {fu : Nat} (rc : RC) (ihQ : nkI rc) {F0 : PF} (z0 : Int32) (F : PF) (G : PG) (hM : MNS F0 F) : PP (mb_inConstant_247 fu rc z0 F G) (fun _ F' _ => MNS F0 F') := by
  unfold mb_inConstant_247
  exact nkj_inConstant_248 rc ihQ F G hM
theorem nkj_inConstant_243 {fu : Nat} (rc : RC) (ihQ : nkI rc) {F0 : PF} (z0 : Int32) (z1 : Int32) (F : PF) (G : PG) (hM : MNS F0 F) : PP (mb_inConstant_243 fu rc z0 z1 F G) (fun _ F' _ => MNS F0 F') := by
  unfold mb_inConstant_243
  refine PP.bind (mw_step z1 z0 (0 : Int32) F G) ?_
  intro r1 F1 G1 hM1
  dsimp only
  exact nkj_inConstant_247 rc ihQ r1 F1 G1 (MNS.tr hM (MNS.kx hM1 rfl rfl rfl rfl))
theorem nkj_inConstant_242 {fu : Nat} (rc : RC) (ihQ : nkI rc) {F0 : PF} (z0 : Int32) (F : PF) (G : PG) (hM : MNS F0 F) : PP (mb_inConstant_242 fu rc z0 F G) (fun _ F' _ => MNS F0 F') := by
  unfold mb_inConstant_242
  exact nkj_inConstant_243 rc ihQ (0 : Int32) z0 F G hM
theorem nkj_inConstant_233 {fu : Nat} (rc : RC) (ihQ : nkI rc) {F0 : PF} (x2 : Int32) (z0 : Int32) (F : PF) (G : PG) (hM : MNS F0 F) : PP (mb_inConstant_233 fu rc x2 z0 F G) (fun _ F' _ => MNS F0 F') := by
  unfold mb_inConstant_233
  refine PP.ix (fun _ => ?_)
  exact nkj_inConstant_243 rc ihQ (G 20 x2.toNatClampNeg) z0 F G hM
theorem nkj_inConstant_226 {fu : Nat} (rc : RC) (ihQ : nkI rc) {F0 : PF} (x2 : Int32) (x5 : Int32) (F : PF) (G : PG) (hM : MNS F0 F) : PP (mb_inConstant_226 fu rc x2 x5 F G) (fun _ F' _ => MNS F0 F') := by
  unfold mb_inConstant_226
  refine PP.ite (fun c_1 => ?_) (fun c_1 => ?_)
  · skip
    exact nkj_inConstant_242 rc ihQ (0 : Int32) F G hM
  · skip
    exact nkj_inConstant_233 rc ihQ x2 (0 : Int32) F G hM
theorem nkj_inConstant_221 {fu : Nat} (rc : RC) (ihQ : nkI rc) {F0 : PF} (x2 : Int32) (x4 : Int32) (x5 : Int32) (F : PF) (G : PG) (hM : MNS F0 F) : PP (mb_inConstant_221 fu rc x2 x4 x5 F G) (fun _ F' _ => MNS F0 F') := by
  unfold mb_inConstant_221
  refine PP.ite (fun c_1 => ?_) (fun c_1 => ?_)
  · skip
    exact nkj_inConstant_226 rc ihQ x2 x5 F G hM
  · skip
    exact nkj_inConstant_248 rc ihQ F G hM
theorem nkj_inConstant_219 {fu : Nat} (rc : RC) (ihQ : nkI rc) {F0 : PF} (F : PF) (G : PG) (hM : MNS F0 F) : PP (mb_inConstant_219 fu rc F G) (fun _ F' _ => MNS F0 F') := by
  unfold mb_inConstant_219
  refine PP.ret ?_
  exact hM
theorem nkj_inConstant_216 {fu : Nat} (rc : RC) (ihQ : nkI rc) {F0 : PF} (x2 : Int32) (x4 : Int32) (x5 : Int32) (z0 : Int32) (F : PF) (G : PG) (hM : MNS F0 F) : PP (mb_inConstant_216 fu rc x2 x4 x5 z0 F G) (fun _ F' _ => MNS F0 F') := by
  unfold mb_inConstant_216
  refine PP.ite (fun c_1 => ?_) (fun c_1 => ?_)
  · skip
    exact nkj_inConstant_219 rc ihQ F G hM
  · skip
    exact nkj_inConstant_221 rc ihQ x2 x4 x5 F G hM
theorem nkj_inConstant_211 {fu : Nat} (rc : RC) (ihQ : nkI rc) {F0 : PF} (x2 : Int32) (x4 : Int32) (x5 : Int32) (F : PF) (G : PG) (hM : MNS F0 F) : PP (mb_inConstant_211 fu rc x2 x4 x5 F G) (fun _ F' _ => MNS F0 F') := by
  unfold mb_inConstant_211
  refine PP.bind (ihQ 3 (-1 : Int32) 0 F G) ?_
  intro r1 F1 G1 hM1
  dsimp only
  exact nkj_inConstant_216 rc ihQ x2 x4 x5 r1 F1 G1 (MNS.tr hM hM1)
theorem nkj_inConstant_196 {fu : Nat} (rc : RC) (ihQ : nkI rc) {F0 : PF} (x2 : Int32) (x4 : Int32) (x5 : Int32) (F : PF) (G : PG) (hM : MNS F0 F) : PP (mb_inConstant_196 fu rc x2 x4 x5 F G) (fun _ F' _ => MNS F0 F') := by
  unfold mb_inConstant_196
  refine PP.ix (fun _ => ?_)
  refine PP.ite (fun c_1 => ?_) (fun c_1 => ?_)
  · skip
    exact nkj_inConstant_211 rc ihQ x2 x4 x5 F G hM
  · skip
    exact nkj_inConstant_221 rc ihQ x2 x4 x5 F G hM
theorem nkj_inConstant_191 {fu : Nat} (rc : RC) (ihQ : nkI rc) {F0 : PF} (x2 : Int32) (x4 : Int32) (x5 : Int32) (F : PF) (G : PG) (hM : MNS F0 F) : PP (mb_inConstant_191 fu rc x2 x4 x5 F G) (fun _ F' _ => MNS F0 F') := by
  unfold mb_inConstant_191
  refine PP.ite (fun c_1 => ?_) (fun c_1 => ?_)
  · skip
    exact nkj_inConstant_221 rc ihQ x2 x4 x5 F G hM
  · skip
    exact nkj_inConstant_196 rc ihQ x2 x4 x5 F G hM
theorem nkj_inConstant_188 {fu : Nat} (rc : RC) (ihQ : nkI rc) {F0 : PF} (x2 : Int32) (x4 : Int32) (x5 : Int32) (z0 : Int32) (F : PF) (G : PG) (hM : MNS F0 F) : PP (mb_inConstant_188 fu rc x2 x4 x5 z0 F G) (fun _ F' _ => MNS F0 F') := by
  unfold mb_inConstant_188
  refine PP.ite (fun c_1 => ?_) (fun c_1 => ?_)
  · skip
    exact nkj_inConstant_221 rc ihQ x2 x4 x5 F G hM
  · skip
    exact nkj_inConstant_191 rc ihQ x2 x4 x5 F G hM
theorem nkj_inConstant_182 {fu : Nat} (rc : RC) (ihQ : nkI rc) {F0 : PF} (x2 : Int32) (x4 : Int32) (x5 : Int32) (F : PF) (G : PG) (hM : MNS F0 F) : PP (mb_inConstant_182 fu rc x2 x4 x5 F G) (fun _ F' _ => MNS F0 F') := by
  unfold mb_inConstant_182
  refine PP.bind (mw_isSign (24 : Int32) F G) ?_
  intro r1 F1 G1 hM1
  dsimp only
  exact nkj_inConstant_188 rc ihQ x2 x4 x5 r1 F1 G1 (MNS.tr hM (MNS.kx hM1 rfl rfl rfl rfl))
theorem nkj_inConstant_180 {fu : Nat} (rc : RC) (ihQ : nkI rc) {F0 : PF} (F : PF) (G : PG) (hM : MNS F0 F) : PP (mb_inConstant_180 fu rc F G) (fun _ F' _ => MNS F0 F') := by
  unfold mb_inConstant_180
  refine PP.ret ?_
  exact hM
theorem nkj_inConstant_177 {fu : Nat} (rc : RC) (ihQ : nkI rc) {F0 : PF} (x2 : Int32) (x4 : Int32) (x5 : Int32) (z0 : Int32) (F : PF) (G : PG) (hM : MNS F0 F) : PP (mb_inConstant_177 fu rc x2 x4 x5 z0 F G) (fun _ F' _ => MNS F0 F') := by
  unfold mb_inConstant_177
  refine PP.ite (fun c_1 => ?_) (fun c_1 => ?_)
  · skip
    exact nkj_inConstant_180 rc ihQ F G hM
  · skip
    exact nkj_inConstant_182 rc ihQ x2 x4 x5 F G hM
theorem nkj_inConstant_171 {fu : Nat} (rc : RC) (ihQ : nkI rc) {F0 : PF} (x1 : Int32) (x2 : Int32) (x4 : Int32) (x5 : Int32) (F : PF) (G : PG) (hM : MNS F0 F) : PP (mb_inConstant_171 fu rc x1 x2 x4 x5 F G) (fun _ F' _ => MNS F0 F') := by
  unfold mb_inConstant_171
  refine PP.bind (ihQ 1 x1 (0 : Int32) F G) ?_
  intro r1 F1 G1 hM1
  dsimp only
  exact nkj_inConstant_177 rc ihQ x2 x4 x5 r1 F1 G1 (MNS.tr hM hM1)
theorem nkj_inConstant_168 {fu : Nat} (rc : RC) (ihQ : nkI rc) {F0 : PF} (x1 : Int32) (x2 : Int32) (x4 : Int32) (x5 : Int32) (z0 : Int32) (F : PF) (G : PG) (hM : MNS F0 F) : PP (mb_inConstant_168 fu rc x1 x2 x4 x5 z0 F G) (fun _ F' _ => MNS F0 F') := by
  unfold mb_inConstant_168
  refine PP.ite (fun c_1 => ?_) (fun c_1 => ?_)
  · skip
    exact nkj_inConstant_182 rc ihQ x2 x4 x5 F G hM
  · skip
    exact nkj_inConstant_171 rc ihQ x1 x2 x4 x5 F G hM
theorem nkj_inConstant_162 {fu : Nat} (rc : RC) (ihQ : nkI rc) {F0 : PF} (x1 : Int32) (x2 : Int32) (x4 : Int32) (x5 : Int32) (F : PF) (G : PG) (hM : MNS F0 F) : PP (mb_inConstant_162 fu rc x1 x2 x4 x5 F G) (fun _ F' _ => MNS F0 F') := by
  unfold mb_inConstant_162
  refine PP.bind (mw_isSign (22 : Int32) F G) ?_
  intro r1 F1 G1 hM1
  dsimp only
  exact nkj_inConstant_168 rc ihQ x1 x2 x4 x5 r1 F1 G1 (MNS.tr hM (MNS.kx hM1 rfl rfl rfl rfl))
theorem nkj_inConstant_157 {fu : Nat} (rc : RC) (ihQ : nkI rc) {F0 : PF} (x1 : Int32) (x2 : Int32) (x4 : Int32) (x5 : Int32) (F : PF) (G : PG) (hM : MNS F0 F) : PP (mb_inConstant_157 fu rc x1 x2 x4 x5 F G) (fun _ F' _ => MNS F0 F') := by
  unfold mb_inConstant_157
  exact nkj_inConstant_162 rc ihQ x1 x2 x4 x5 (fup F 55 (1 : Int32)) G (MNS.f (k := 55) rfl hM)
theorem nkj_inConstant_147 {fu : Nat} (rc : RC) (ihQ : nkI rc) {F0 : PF} (x1 : Int32) (x2 : Int32) (x4 : Int32) (x5 : Int32) (F : PF) (G : PG) (hM : MNS F0 F) : PP (mb_inConstant_147 fu rc x1 x2 x4 x5 F G) (fun _ F' _ => MNS F0 F') := by
  unfold mb_inConstant_147
  refine PP.ix (fun _ => ?_)
  refine PP.ite (fun c_1 => ?_) (fun c_1 => ?_)
  · skip
    exact nkj_inConstant_157 rc ihQ x1 x2 x4 x5 F G hM
  · skip
    exact nkj_inConstant_162 rc ihQ x1 x2 x4 x5 F G hM
theorem nkj_inConstant_142 {fu : Nat} (rc : RC) (ihQ : nkI rc) {F0 : PF} (x1 : Int32) (x2 : Int32) (x4 : Int32) (x5 : Int32) (F : PF) (G : PG) (hM : MNS F0 F) : PP (mb_inConstant_142 fu rc x1 x2 x4 x5 F G) (fun _ F' _ => MNS F0 F') := by
  unfold mb_inConstant_142
  refine PP.ite (fun c_1 => ?_) (fun c_1 => ?_)
  · skip
    exact nkj_inConstant_147 rc ihQ x1 x2 x4 x5 F G hM
  · skip
    exact nkj_inConstant_157 rc ihQ x1 x2 x4 x5 F G hM
theorem nkj_inConstant_137 {fu : Nat} (rc : RC) (ihQ : nkI rc) {F0 : PF} (x1 : Int32) (x2 : Int32) (x4 : Int32) (x5 : Int32) (F : PF) (G : PG) (hM : MNS F0 F) : PP (mb_inConstant_137 fu rc x1 x2 x4 x5 F G) (fun _ F' _ => MNS F0 F') := by
  unfold mb_inConstant_137
  refine PP.ite (fun c_1 => ?_) (fun c_1 => ?_)
  · skip
    exact nkj_inConstant_157 rc ihQ x1 x2 x4 x5 F G hM
  · skip
    exact nkj_inConstant_142 rc ihQ x1 x2 x4 x5 F G hM
theorem nkj_inConstant_125 {fu : Nat} (rc : RC) (ihQ : nkI rc) {F0 : PF} (x1 : Int32) (x2 : Int32) (x4 : Int32) (x5 : Int32) (F : PF) (G : PG) (hM : MNS F0 F) : PP (mb_inConstant_125 fu rc x1 x2 x4 x5 F G) (fun _ F' _ => MNS F0 F') := by
  unfold mb_inConstant_125
  refine PP.ix (fun _ => ?_)
  refine PP.bind (nk_note (10 : Int32) (G 6 x1.toNatClampNeg) (by decide) F G) ?_
  intro r1 F1 G1 hM1
  dsimp only
  exact nkj_inConstant_137 rc ihQ x1 x2 x4 x5 F1 G1 (MNS.tr hM hM1)
theorem nkj_inConstant_120 {fu : Nat} (rc : RC) (ihQ : nkI rc) {F0 : PF} (x1 : Int32) (x2 : Int32) (x4 : Int32) (x5 : Int32) (F : PF) (G : PG) (hM : MNS F0 F) : PP (mb_inConstant_120 fu rc x1 x2 x4 x5 F G) (fun _ F' _ => MNS F0 F') := by
  unfold mb_inConstant_120
  refine PP.ite (fun c_1 => ?_) (fun c_1 => ?_)
  · skip
    exact nkj_inConstant_137 rc ihQ x1 x2 x4 x5 F G hM
  · skip
    exact nkj_inConstant_125 rc ihQ x1 x2 x4 x5 F G hM
theorem nkj_inConstant_115 {fu : Nat} (rc : RC) (ihQ : nkI rc) {F0 : PF} (x1 : Int32) (x2 : Int32) (x4 : Int32) (x5 : Int32) (F : PF) (G : PG) (hM : MNS F0 F) : PP (mb_inConstant_115 fu rc x1 x2 x4 x5 F G) (fun _ F' _ => MNS F0 F') := by
  unfold mb_inConstant_115
  refine PP.ite (fun c_1 => ?_) (fun c_1 => ?_)
  · skip
    exact nkj_inConstant_125 rc ihQ x1 x2 x4 x5 F G hM
  · skip
    exact nkj_inConstant_120 rc ihQ x1 x2 x4 x5 F G hM
theorem nkj_inConstant_111 {fu : Nat} (rc : RC) (ihQ : nkI rc) {F0 : PF} (x1 : Int32) (x2 : Int32) (x3 : Int32) (x4 : Int32) (x5 : Int32) (F : PF) (G : PG) (hM : MNS F0 F) : PP (mb_inConstant_111 fu rc x1 x2 x3 x4 x5 F G) (fun _ F' _ => MNS F0 F') := by
  unfold mb_inConstant_111
  refine PP.ite (fun c_1 => ?_) (fun c_1 => ?_)
  · skip
    exact nkj_inConstant_115 rc ihQ x1 x2 x4 x5 F G hM
  · skip
    exact nkj_inConstant_137 rc ihQ x1 x2 x4 x5 F G hM
theorem nkj_inConstant_104 {fu : Nat} (rc : RC) (ihQ : nkI rc) {F0 : PF} (x1 : Int32) (x2 : Int32) (x3 : Int32) (x4 : Int32) (x5 : Int32) (F : PF) (G : PG) (hM : MNS F0 F) : PP (mb_inConstant_104 fu rc x1 x2 x3 x4 x5 F G) (fun _ F' _ => MNS F0 F') := by
  unfold mb_inConstant_104
  refine PP.ite (fun c_1 => ?_) (fun c_1 => ?_)
  · skip
    exact nkj_inConstant_137 rc ihQ x1 x2 x4 x5 F G hM
  · skip
    exact nkj_inConstant_111 rc ihQ x1 x2 x3 x4 x5 F G hM
theorem nkj_inConstant_93 {fu : Nat} (rc : RC) (ihQ : nkI rc) {F0 : PF} (x1 : Int32) (x2 : Int32) (x3 : Int32) (x4 : Int32) (x5 : Int32) (F : PF) (G : PG) (hM : MNS F0 F) : PP (mb_inConstant_93 fu rc x1 x2 x3 x4 x5 F G) (fun _ F' _ => MNS F0 F') := by
  unfold mb_inConstant_93
  refine PP.ix (fun _ => ?_)
  refine PP.bind (nk_note (4 : Int32) (G 6 x1.toNatClampNeg) (by decide) F G) ?_
  intro r1 F1 G1 hM1
  dsimp only
  exact nkj_inConstant_104 rc ihQ x1 x2 x3 x4 x5 F1 G1 (MNS.tr hM hM1)
theorem nkj_inConstant_89 {fu : Nat} (rc : RC) (ihQ : nkI rc) {F0 : PF} (x1 : Int32) (x2 : Int32) (x3 : Int32) (x4 : Int32) (x5 : Int32) (F : PF) (G : PG) (hM : MNS F0 F) : PP (mb_inConstant_89 fu rc x1 x2 x3 x4 x5 F G) (fun _ F' _ => MNS F0 F') := by
  unfold mb_inConstant_89
  refine PP.ite (fun c_1 => ?_) (fun c_1 => ?_)
  · skip
    exact nkj_inConstant_104 rc ihQ x1 x2 x3 x4 x5 F G hM
  · skip
    exact nkj_inConstant_93 rc ihQ x1 x2 x3 x4 x5 F G hM
theorem nkj_inConstant_80 {fu : Nat} (rc : RC) (ihQ : nkI rc) {F0 : PF} (x1 : Int32) (x2 : Int32) (x3 : Int32) (x4 : Int32) (z0 : Int32) (F : PF) (G : PG) (hM : MNS F0 F) : PP (mb_inConstant_80 fu rc x1 x2 x3 x4 z0 F G) (fun _ F' _ => MNS F0 F') := by
  unfold mb_inConstant_80
  refine PP.ite (fun c_1 => ?_) (fun c_1 => ?_)
  · skip
    exact nkj_inConstant_104 rc ihQ x1 x2 x3 x4 z0 F G hM
  · skip
    exact nkj_inConstant_89 rc ihQ x1 x2 x3 x4 z0 F G hM
theorem nkj_inConstant_79 {fu : Nat} (rc : RC) (ihQ : nkI rc) {F0 : PF} (x1 : Int32) (x2 : Int32) (x3 : Int32) (x4 : Int32) (F : PF) (G : PG) (hM : MNS F0 F) : PP (mb_inConstant_79 fu rc x1 x2 x3 x4 F G) (fun _ F' _ => MNS F0 F') := by
  unfold mb_inConstant_79
  exact nkj_inConstant_80 rc ihQ x1 x2 x3 x4 (0 : Int32) F G hM
theorem nkj_inConstant_75 {fu : Nat} (rc : RC) (ihQ : nkI rc) {F0 : PF} (x1 : Int32) (x2 : Int32) (x3 : Int32) (x4 : Int32) (F : PF) (G : PG) (hM : MNS F0 F) : PP (mb_inConstant_75 fu rc x1 x2 x3 x4 F G) (fun _ F' _ => MNS F0 F') := by
  unfold mb_inConstant_75
  exact nkj_inConstant_80 rc ihQ x1 x2 x3 x4 (1 : Int32) F G hM
theorem nkj_inConstant_66 {fu : Nat} (rc : RC) (ihQ : nkI rc) {F0 : PF} (x1 : Int32) (x2 : Int32) (x3 : Int32) (x4 : Int32) (F : PF) (G : PG) (hM : MNS F0 F) : PP (mb_inConstant_66 fu rc x1 x2 x3 x4 F G) (fun _ F' _ => MNS F0 F') := by
  unfold mb_inConstant_66
  refine PP.ix (fun _ => ?_)
  refine PP.ite (fun c_1 => ?_) (fun c_1 => ?_)
  · skip
    exact nkj_inConstant_75 rc ihQ x1 x2 x3 x4 F G hM
  · skip
    exact nkj_inConstant_79 rc ihQ x1 x2 x3 x4 F G hM
theorem nkj_inConstant_59 {fu : Nat} (rc : RC) (ihQ : nkI rc) {F0 : PF} (x1 : Int32) (x2 : Int32) (x3 : Int32) (z0 : Int32) (F : PF) (G : PG) (hM : MNS F0 F) : PP (mb_inConstant_59 fu rc x1 x2 x3 z0 F G) (fun _ F' _ => MNS F0 F') := by
  unfold mb_inConstant_59
  refine PP.ite (fun c_1 => ?_) (fun c_1 => ?_)
  · skip
    exact nkj_inConstant_79 rc ihQ x1 x2 x3 z0 F G hM
  · skip
    exact nkj_inConstant_66 rc ihQ x1 x2 x3 z0 F G hM
theorem nkj_inConstant_58 {fu : Nat} (rc : RC) (ihQ : nkI rc) {F0 : PF} (x1 : Int32) (x2 : Int32) (x3 : Int32) (F : PF) (G : PG) (hM : MNS F0 F) : PP (mb_inConstant_58 fu rc x1 x2 x3 F G) (fun _ F' _ => MNS F0 F') := by
  unfold mb_inConstant_58
  exact nkj_inConstant_59 rc ihQ x1 x2 x3 (0 : Int32) F G hM
theorem nkj_inConstant_54 {fu : Nat} (rc : RC) (ihQ : nkI rc) {F0 : PF} (x1 : Int32) (x2 : Int32) (x3 : Int32) (F : PF) (G : PG) (hM : MNS F0 F) : PP (mb_inConstant_54 fu rc x1 x2 x3 F G) (fun _ F' _ => MNS F0 F') := by
  unfold mb_inConstant_54
  exact nkj_inConstant_59 rc ihQ x1 x2 x3 (1 : Int32) F G hM
theorem nkj_inConstant_51 {fu : Nat} (rc : RC) (ihQ : nkI rc) {F0 : PF} (x1 : Int32) (x2 : Int32) (x3 : Int32) (z0 : Int32) (F : PF) (G : PG) (hM : MNS F0 F) : PP (mb_inConstant_51 fu rc x1 x2 x3 z0 F G) (fun _ F' _ => MNS F0 F') := by
  unfold mb_inConstant_51
  refine PP.ite (fun c_1 => ?_) (fun c_1 => ?_)
  · skip
    exact nkj_inConstant_58 rc ihQ x1 x2 x3 F G hM
  · skip
    exact nkj_inConstant_54 rc ihQ x1 x2 x3 F G hM
theorem nkj_inConstant_45 {fu : Nat} (rc : RC) (ihQ : nkI rc) {F0 : PF} (x1 : Int32) (x2 : Int32) (x3 : Int32) (F : PF) (G : PG) (hM : MNS F0 F) : PP (mb_inConstant_45 fu rc x1 x2 x3 F G) (fun _ F' _ => MNS F0 F') := by
  unfold mb_inConstant_45
  refine PP.bind (mw_isSign (22 : Int32) F G) ?_
  intro r1 F1 G1 hM1
  dsimp only
  exact nkj_inConstant_51 rc ihQ x1 x2 x3 r1 F1 G1 (MNS.tr hM (MNS.kx hM1 rfl rfl rfl rfl))
theorem nkj_inConstant_42 {fu : Nat} (rc : RC) (ihQ : nkI rc) {F0 : PF} (x1 : Int32) (x2 : Int32) (x3 : Int32) (z0 : Int32) (F : PF) (G : PG) (hM : MNS F0 F) : PP (mb_inConstant_42 fu rc x1 x2 x3 z0 F G) (fun _ F' _ => MNS F0 F') := by
  unfold mb_inConstant_42
  refine PP.ite (fun c_1 => ?_) (fun c_1 => ?_)
  · skip
    exact nkj_inConstant_45 rc ihQ x1 x2 x3 F G hM
  · skip
    exact nkj_inConstant_54 rc ihQ x1 x2 x3 F G hM
theorem nkj_inConstant_35 {fu : Nat} (rc : RC) (ihQ : nkI rc) {F0 : PF} (x1 : Int32) (x2 : Int32) (z0 : Int32) (F : PF) (G : PG) (hM : MNS F0 F) : PP (mb_inConstant_35 fu rc x1 x2 z0 F G) (fun _ F' _ => MNS F0 F') := by
  unfold mb_inConstant_35
  refine PP.bind (mw_isSign (24 : Int32) F G) ?_
  intro r1 F1 G1 hM1
  dsimp only
  exact nkj_inConstant_42 rc ihQ x1 x2 z0 r1 F1 G1 (MNS.tr hM (MNS.kx hM1 rfl rfl rfl rfl))
theorem nkj_inConstant_30 {fu : Nat} (rc : RC) (ihQ : nkI rc) {F0 : PF} (x1 : Int32) (x2 : Int32) (F : PF) (G : PG) (hM : MNS F0 F) : PP (mb_inConstant_30 fu rc x1 x2 F G) (fun _ F' _ => MNS F0 F') := by
  unfold mb_inConstant_30
  exact nkj_inConstant_35 rc ihQ x1 x2 (1 : Int32) F G hM
theorem nkj_inConstant_34 {fu : Nat} (rc : RC) (ihQ : nkI rc) {F0 : PF} (x1 : Int32) (x2 : Int32) (F : PF) (G : PG) (hM : MNS F0 F) : PP (mb_inConstant_34 fu rc x1 x2 F G) (fun _ F' _ => MNS F0 F') := by
  unfold mb_inConstant_34
  exact nkj_inConstant_35 rc ihQ x1 x2 (0 : Int32) F G hM
theorem nkj_inConstant_22 {fu : Nat} (rc : RC) (ihQ : nkI rc) {F0 : PF} (x1 : Int32) (x2 : Int32) (F : PF) (G : PG) (hM : MNS F0 F) : PP (mb_inConstant_22 fu rc x1 x2 F G) (fun _ F' _ => MNS F0 F') := by
  unfold mb_inConstant_22
  refine PP.ite (fun c_1 => ?_) (fun c_1 => ?_)
  · skip
    exact nkj_inConstant_30 rc ihQ x1 x2 F G hM
  · skip
    exact nkj_inConstant_34 rc ihQ x1 x2 F G hM
theorem nkj_inConstant_16 {fu : Nat} (rc : RC) (ihQ : nkI rc) {F0 : PF} (x1 : Int32) (z0 : Int32) (F : PF) (G : PG) (hM : MNS F0 F) : PP (mb_inConstant_16 fu rc x1 z0 F G) (fun _ F' _ => MNS F0 F') := by
  unfold mb_inConstant_16
  refine PP.ite (fun c_1 => ?_) (fun c_1 => ?_)
  · skip
    exact nkj_inConstant_22 rc ihQ x1 z0 F G hM
  · skip
    exact nkj_inConstant_34 rc ihQ x1 z0 F G hM
theorem nkj_inConstant_7 {fu : Nat} (rc : RC) (ihQ : nkI rc) {F0 : PF} (x1 : Int32) (F : PF) (G : PG) (hM : MNS F0 F) : PP (mb_inConstant_7 fu rc x1 F G) (fun _ F' _ => MNS F0 F') := by
  unfold mb_inConstant_7
  exact nkj_inConstant_16 rc ihQ x1 (-1 : Int32) F G hM
theorem nkj_inConstant_11 {fu : Nat} (rc : RC) (ihQ : nkI rc) {F0 : PF} (x1 : Int32) (F : PF) (G : PG) (hM : MNS F0 F) : PP (mb_inConstant_11 fu rc x1 F G) (fun _ F' _ => MNS F0 F') := by
  unfold mb_inConstant_11
  refine PP.bind (mw_meaning x1 F G) ?_
  intro r1 F1 G1 hM1
  dsimp only
  exact nkj_inConstant_16 rc ihQ x1 r1 F1 G1 (MNS.tr hM (MNS.kx hM1 rfl rfl rfl rfl))
theorem nkt_inConstant {fu : Nat} (rc : RC) (ihQ : nkI rc) (x1 : Int32) (F : PF) (G : PG) : PP (mh_inConstant fu rc x1 F G) (fun _ F' _ => MNS F F') := by
  unfold mh_inConstant
  unfold mb_inConstant_0
  refine PP.ite (fun c_1 => ?_) (fun c_1 => ?_)
  · skip
    exact nkj_inConstant_7 rc ihQ x1 F G MNS.rf
  · skip
    exact nkj_inConstant_11 rc ihQ x1 F G MNS.rf
theorem nkj_named_212 {fu : Nat} (rc : RC) (ihQ : nkI rc) {F0 : PF} (F : PF) (G : PG) (hM : MNS F0 F) : PP (mb_named_212 fu rc F G) (fun _ F' _ => MNS F0 F') := by
  unfold mb_named_212
  refine PP.ret ?_
  exact hM
theorem nkj_named_211 {fu : Nat} (rc : RC) (ihQ : nkI rc) {F0 : PF} (z0 : Int32) (F : PF) (G : PG) (hM : MNS F0 F) : PP (mb_named_211 fu rc z0 F G) (fun _ F' _ => MNS F0 F') := by
  unfold mb_named_211
  exact nkj_named_212 rc ihQ F G hM
theorem nkj_named_207 {fu : Nat} (rc : RC) (ihQ : nkI rc) {F0 : PF} (z0 : Int32) (z1 : Int32) (F : PF) (G : PG) (hM : MNS F0 F) : PP (mb_named_207 fu rc z0 z1 F G) (fun _ F' _ => MNS F0 F') := by
  unfold mb_named_207
  refine PP.bind (mw_step z1 z0 (0 : Int32) F G) ?_
  intro r1 F1 G1 hM1
  dsimp only
  exact nkj_named_211 rc ihQ r1 F1 G1 (MNS.tr hM (MNS.kx hM1 rfl rfl rfl rfl))
theorem nkj_named_197 {fu : Nat} (rc : RC) (ihQ : nkI rc) {F0 : PF} (z0 : Int32) (F : PF) (G : PG) (hM : MNS F0 F) : PP (mb_named_197 fu rc z0 F G) (fun _ F' _ => MNS F0 F') := by
  unfold mb_named_197
  exact nkj_named_207 rc ihQ (0 : Int32) z0 F G hM
theorem nkj_named_201 {fu : Nat} (rc : RC) (ihQ : nkI rc) {F0 : PF} (x2 : Int32) (z0 : Int32) (F : PF) (G : PG) (hM : MNS F0 F) : PP (mb_named_201 fu rc x2 z0 F G) (fun _ F' _ => MNS F0 F') := by
  unfold mb_named_201
  refine PP.ix (fun _ => ?_)
  exact nkj_named_207 rc ihQ (G 20 x2.toNatClampNeg) z0 F G hM
theorem nkj_named_192 {fu : Nat} (rc : RC) (ihQ : nkI rc) {F0 : PF} (x2 : Int32) (z0 : Int32) (F : PF) (G : PG) (hM : MNS F0 F) : PP (mb_named_192 fu rc x2 z0 F G) (fun _ F' _ => MNS F0 F') := by
  unfold mb_named_192
  refine PP.ite (fun c_1 => ?_) (fun c_1 => ?_)
  · skip
    exact nkj_named_197 rc ihQ z0 F G hM
  · skip
    exact nkj_named_201 rc ihQ x2 z0 F G hM
theorem nkj_named_191 {fu : Nat} (rc : RC) (ihQ : nkI rc) {F0 : PF} (x2 : Int32) (F : PF) (G : PG) (hM : MNS F0 F) : PP (mb_named_191 fu rc x2 F G) (fun _ F' _ => MNS F0 F') := by
  unfold mb_named_191
  exact nkj_named_192 rc ihQ x2 (3 : Int32) F G hM
theorem nkj_named_187 {fu : Nat} (rc : RC) (ihQ : nkI rc) {F0 : PF} (x2 : Int32) (F : PF) (G : PG) (hM : MNS F0 F) : PP (mb_named_187 fu rc x2 F G) (fun _ F' _ => MNS F0 F') := by
  unfold mb_named_187
  exact nkj_named_192 rc ihQ x2 (1 : Int32) F G hM
theorem nkj_named_178 {fu : Nat} (rc : RC) (ihQ : nkI rc) {F0 : PF} (x2 : Int32) (F : PF) (G : PG) (hM : MNS F0 F) : PP (mb_named_178 fu rc x2 F G) (fun _ F' _ => MNS F0 F') := by
  unfold mb_named_178
  refine PP.ix (fun _ => ?_)
  refine PP.ite (fun c_1 => ?_) (fun c_1 => ?_)
  · skip
    exact nkj_named_191 rc ihQ x2 F G hM
  · skip
    exact nkj_named_187 rc ihQ x2 F G hM
theorem nkj_named_172 {fu : Nat} (rc : RC) (ihQ : nkI rc) {F0 : PF} (x2 : Int32) (F : PF) (G : PG) (hM : MNS F0 F) : PP (mb_named_172 fu rc x2 F G) (fun _ F' _ => MNS F0 F') := by
  unfold mb_named_172
  refine PP.ite (fun c_1 => ?_) (fun c_1 => ?_)
  · skip
    exact nkj_named_191 rc ihQ x2 F G hM
  · skip
    exact nkj_named_178 rc ihQ x2 F G hM
theorem nkj_named_168 {fu : Nat} (rc : RC) (ihQ : nkI rc) {F0 : PF} (z0 : Int32) (F : PF) (G : PG) (hM : MNS F0 F) : PP (mb_named_168 fu rc z0 F G) (fun _ F' _ => MNS F0 F') := by
  unfold mb_named_168
  exact nkj_named_212 rc ihQ F G hM
theorem nkj_named_156 {fu : Nat} (rc : RC) (ihQ : nkI rc) {F0 : PF} (x2 : Int32) (F : PF) (G : PG) (hM : MNS F0 F) : PP (mb_named_156 fu rc x2 F G) (fun _ F' _ => MNS F0 F') := by
  unfold mb_named_156
  refine PP.ix (fun _ => ?_)
  refine PP.bind (mw_step (0 : Int32) (G 20 x2.toNatClampNeg) (0 : Int32) F G) ?_
  intro r1 F1 G1 hM1
  dsimp only
  exact nkj_named_168 rc ihQ r1 F1 G1 (MNS.tr hM (MNS.kx hM1 rfl rfl rfl rfl))
theorem nkj_named_147 {fu : Nat} (rc : RC) (ihQ : nkI rc) {F0 : PF} (x2 : Int32) (F : PF) (G : PG) (hM : MNS F0 F) : PP (mb_named_147 fu rc x2 F G) (fun _ F' _ => MNS F0 F') := by
  unfold mb_named_147
  refine PP.ix (fun _ => ?_)
  refine PP.ite (fun c_1 => ?_) (fun c_1 => ?_)
  · skip
    exact nkj_named_156 rc ihQ x2 F G hM
  · skip
    exact nkj_named_172 rc ihQ x2 F G hM
theorem nkj_named_142 {fu : Nat} (rc : RC) (ihQ : nkI rc) {F0 : PF} (x2 : Int32) (F : PF) (G : PG) (hM : MNS F0 F) : PP (mb_named_142 fu rc x2 F G) (fun _ F' _ => MNS F0 F') := by
  unfold mb_named_142
  refine PP.ite (fun c_1 => ?_) (fun c_1 => ?_)
  · skip
    exact nkj_named_172 rc ihQ x2 F G hM
  · skip
    exact nkj_named_147 rc ihQ x2 F G hM
theorem nkj_named_128 {fu : Nat} (rc : RC) (ihQ : nkI rc) {F0 : PF} (F : PF) (G : PG) (hM : MNS F0 F) : PP (mb_named_128 fu rc F G) (fun _ F' _ => MNS F0 F') := by
  unfold mb_named_128
  refine PP.ret ?_
  exact hM
theorem nkj_named_138 {fu : Nat} (rc : RC) (ihQ : nkI rc) {F0 : PF} (z0 : Int32) (F : PF) (G : PG) (hM : MNS F0 F) : PP (mb_named_138 fu rc z0 F G) (fun _ F' _ => MNS F0 F') := by
  unfold mb_named_138
  exact nkj_named_212 rc ihQ F G hM
theorem nkj_named_130 {fu : Nat} (rc : RC) (ihQ : nkI rc) {F0 : PF} (F : PF) (G : PG) (hM : MNS F0 F) : PP (mb_named_130 fu rc F G) (fun _ F' _ => MNS F0 F') := by
  unfold mb_named_130
  refine PP.bind (mw_step (7 : Int32) (0 : Int32) (0 : Int32) F G) ?_
  intro r1 F1 G1 hM1
  dsimp only
  exact nkj_named_138 rc ihQ r1 F1 G1 (MNS.tr hM (MNS.kx hM1 rfl rfl rfl rfl))
theorem nkj_named_125 {fu : Nat} (rc : RC) (ihQ : nkI rc) {F0 : PF} (z0 : Int32) (F : PF) (G : PG) (hM : MNS F0 F) : PP (mb_named_125 fu rc z0 F G) (fun _ F' _ => MNS F0 F') := by
  unfold mb_named_125
  refine PP.ite (fun c_1 => ?_) (fun c_1 => ?_)
  · skip
    exact nkj_named_128 rc ihQ F G hM
  · skip
    exact nkj_named_130 rc ihQ F G hM
theorem nkj_named_120 {fu : Nat} (rc : RC) (ihQ : nkI rc) {F0 : PF} (x2 : Int32) (F : PF) (G : PG) (hM : MNS F0 F) : PP (mb_named_120 fu rc x2 F G) (fun _ F' _ => MNS F0 F') := by
  unfold mb_named_120
  refine PP.bind (ihQ 3 x2 0 F G) ?_
  intro r1 F1 G1 hM1
  dsimp only
  exact nkj_named_125 rc ihQ r1 F1 G1 (MNS.tr hM hM1)
theorem nkj_named_115 {fu : Nat} (rc : RC) (ihQ : nkI rc) {F0 : PF} (x2 : Int32) (x4 : Int32) (F : PF) (G : PG) (hM : MNS F0 F) : PP (mb_named_115 fu rc x2 x4 F G) (fun _ F' _ => MNS F0 F') := by
  unfold mb_named_115
  refine PP.ite (fun c_1 => ?_) (fun c_1 => ?_)
  · skip
    exact nkj_named_142 rc ihQ x2 F G hM
  · skip
    exact nkj_named_120 rc ihQ x2 F G hM
theorem nkj_named_103 {fu : Nat} (rc : RC) (ihQ : nkI rc) {F0 : PF} (x1 : Int32) (x2 : Int32) (x4 : Int32) (F : PF) (G : PG) (hM : MNS F0 F) : PP (mb_named_103 fu rc x1 x2 x4 F G) (fun _ F' _ => MNS F0 F') := by
  unfold mb_named_103
  refine PP.ix (fun _ => ?_)
  refine PP.bind (nk_note (6 : Int32) (G 6 x1.toNatClampNeg) (by decide) F G) ?_
  intro r1 F1 G1 hM1
  dsimp only
  exact nkj_named_115 rc ihQ x2 x4 F1 G1 (MNS.tr hM hM1)
theorem nkj_named_100 {fu : Nat} (rc : RC) (ihQ : nkI rc) {F0 : PF} (x1 : Int32) (x2 : Int32) (x4 : Int32) (z0 : Int32) (z1 : Int32) (F : PF) (G : PG) (hM : MNS F0 F) : PP (mb_named_100 fu rc x1 x2 x4 z0 z1 F G) (fun _ F' _ => MNS F0 F') := by
  unfold mb_named_100
  refine PP.ite (fun c_1 => ?_) (fun c_1 => ?_)
  · skip
    exact nkj_named_115 rc ihQ x2 x4 F G hM
  · skip
    exact nkj_named_103 rc ihQ x1 x2 x4 F G hM
theorem nkj_named_95 {fu : Nat} (rc : RC) (ihQ : nkI rc) {F0 : PF} (x1 : Int32) (x2 : Int32) (x4 : Int32) (z0 : Int32) (F : PF) (G : PG) (hM : MNS F0 F) : PP (mb_named_95 fu rc x1 x2 x4 z0 F G) (fun _ F' _ => MNS F0 F') := by
  unfold mb_named_95
  exact nkj_named_100 rc ihQ x1 x2 x4 (1 : Int32) z0 F G hM
theorem nkj_named_99 {fu : Nat} (rc : RC) (ihQ : nkI rc) {F0 : PF} (x1 : Int32) (x2 : Int32) (x4 : Int32) (z0 : Int32) (F : PF) (G : PG) (hM : MNS F0 F) : PP (mb_named_99 fu rc x1 x2 x4 z0 F G) (fun _ F' _ => MNS F0 F') := by
  unfold mb_named_99
  exact nkj_named_100 rc ihQ x1 x2 x4 (0 : Int32) z0 F G hM
theorem nkj_named_83 {fu : Nat} (rc : RC) (ihQ : nkI rc) {F0 : PF} (x1 : Int32) (x2 : Int32) (x4 : Int32) (F : PF) (G : PG) (hM : MNS F0 F) : PP (mb_named_83 fu rc x1 x2 x4 F G) (fun _ F' _ => MNS F0 F') := by
  unfold mb_named_83
  refine PP.ix (fun _ => ?_)
  refine PP.ite (fun c_1 => ?_) (fun c_1 => ?_)
  · skip
    exact nkj_named_95 rc ihQ x1 x2 x4 x4 F G hM
  · skip
    exact nkj_named_99 rc ihQ x1 x2 x4 x4 F G hM
theorem nkj_named_78 {fu : Nat} (rc : RC) (ihQ : nkI rc) {F0 : PF} (x1 : Int32) (x2 : Int32) (x4 : Int32) (F : PF) (G : PG) (hM : MNS F0 F) : PP (mb_named_78 fu rc x1 x2 x4 F G) (fun _ F' _ => MNS F0 F') := by
  unfold mb_named_78
  refine PP.ite (fun c_1 => ?_) (fun c_1 => ?_)
  · skip
    exact nkj_named_103 rc ihQ x1 x2 x4 F G hM
  · skip
    exact nkj_named_83 rc ihQ x1 x2 x4 F G hM
theorem nkj_named_75 {fu : Nat} (rc : RC) (ihQ : nkI rc) {F0 : PF} (x2 : Int32) (x4 : Int32) (F : PF) (G : PG) (hM : MNS F0 F) : PP (mb_named_75 fu rc x2 x4 F G) (fun _ F' _ => MNS F0 F') := by
  unfold mb_named_75
  exact nkj_named_115 rc ihQ x2 x4 F G hM
theorem nkj_named_64 {fu : Nat} (rc : RC) (ihQ : nkI rc) {F0 : PF} (x1 : Int32) (x2 : Int32) (x4 : Int32) (F : PF) (G : PG) (hM : MNS F0 F) : PP (mb_named_64 fu rc x1 x2 x4 F G) (fun _ F' _ => MNS F0 F') := by
  unfold mb_named_64
  refine PP.ix (fun _ => ?_)
  refine PP.bind (nk_note (4 : Int32) (G 6 x1.toNatClampNeg) (by decide) F G) ?_
  intro r1 F1 G1 hM1
  dsimp only
  exact nkj_named_75 rc ihQ x2 x4 F1 G1 (MNS.tr hM hM1)
theorem nkj_named_58 {fu : Nat} (rc : RC) (ihQ : nkI rc) {F0 : PF} (x1 : Int32) (x2 : Int32) (x3 : Int32) (z0 : Int32) (F : PF) (G : PG) (hM : MNS F0 F) : PP (mb_named_58 fu rc x1 x2 x3 z0 F G) (fun _ F' _ => MNS F0 F') := by
  unfold mb_named_58
  refine PP.ite (fun c_1 => ?_) (fun c_1 => ?_)
  · skip
    exact nkj_named_78 rc ihQ x1 x2 z0 F G hM
  · skip
    exact nkj_named_64 rc ihQ x1 x2 z0 F G hM
theorem nkj_named_51 {fu : Nat} (rc : RC) (ihQ : nkI rc) {F0 : PF} (x1 : Int32) (x2 : Int32) (z0 : Int32) (F : PF) (G : PG) (hM : MNS F0 F) : PP (mb_named_51 fu rc x1 x2 z0 F G) (fun _ F' _ => MNS F0 F') := by
  unfold mb_named_51
  refine PP.bind (mw_isSign (24 : Int32) F G) ?_
  intro r1 F1 G1 hM1
  dsimp only
  exact nkj_named_58 rc ihQ x1 x2 z0 r1 F1 G1 (MNS.tr hM (MNS.kx hM1 rfl rfl rfl rfl))
theorem nkj_named_46 {fu : Nat} (rc : RC) (ihQ : nkI rc) {F0 : PF} (x1 : Int32) (x2 : Int32) (F : PF) (G : PG) (hM : MNS F0 F) : PP (mb_named_46 fu rc x1 x2 F G) (fun _ F' _ => MNS F0 F') := by
  unfold mb_named_46
  exact nkj_named_51 rc ihQ x1 x2 (1 : Int32) F G hM
theorem nkj_named_50 {fu : Nat} (rc : RC) (ihQ : nkI rc) {F0 : PF} (x1 : Int32) (x2 : Int32) (F : PF) (G : PG) (hM : MNS F0 F) : PP (mb_named_50 fu rc x1 x2 F G) (fun _ F' _ => MNS F0 F') := by
  unfold mb_named_50
  exact nkj_named_51 rc ihQ x1 x2 (0 : Int32) F G hM
theorem nkj_named_38 {fu : Nat} (rc : RC) (ihQ : nkI rc) {F0 : PF} (x1 : Int32) (x2 : Int32) (F : PF) (G : PG) (hM : MNS F0 F) : PP (mb_named_38 fu rc x1 x2 F G) (fun _ F' _ => MNS F0 F') := by
  unfold mb_named_38
  refine PP.ite (fun c_1 => ?_) (fun c_1 => ?_)
  · skip
    exact nkj_named_46 rc ihQ x1 x2 F G hM
  · skip
    exact nkj_named_50 rc ihQ x1 x2 F G hM
theorem nkj_named_32 {fu : Nat} (rc : RC) (ihQ : nkI rc) {F0 : PF} (x1 : Int32) (z0 : Int32) (F : PF) (G : PG) (hM : MNS F0 F) : PP (mb_named_32 fu rc x1 z0 F G) (fun _ F' _ => MNS F0 F') := by
  unfold mb_named_32
  refine PP.ite (fun c_1 => ?_) (fun c_1 => ?_)
  · skip
    exact nkj_named_38 rc ihQ x1 z0 F G hM
  · skip
    exact nkj_named_50 rc ihQ x1 z0 F G hM
theorem nkj_named_23 {fu : Nat} (rc : RC) (ihQ : nkI rc) {F0 : PF} (x1 : Int32) (F : PF) (G : PG) (hM : MNS F0 F) : PP (mb_named_23 fu rc x1 F G) (fun _ F' _ => MNS F0 F') := by
  unfold mb_named_23
  exact nkj_named_32 rc ihQ x1 (-1 : Int32) F G hM
theorem nkj_named_27 {fu : Nat} (rc : RC) (ihQ : nkI rc) {F0 : PF} (x1 : Int32) (F : PF) (G : PG) (hM : MNS F0 F) : PP (mb_named_27 fu rc x1 F G) (fun _ F' _ => MNS F0 F') := by
  unfold mb_named_27
  refine PP.bind (mw_meaning x1 F G) ?_
  intro r1 F1 G1 hM1
  dsimp only
  exact nkj_named_32 rc ihQ x1 r1 F1 G1 (MNS.tr hM (MNS.kx hM1 rfl rfl rfl rfl))
theorem nkj_named_16 {fu : Nat} (rc : RC) (ihQ : nkI rc) {F0 : PF} (x1 : Int32) (F : PF) (G : PG) (hM : MNS F0 F) : PP (mb_named_16 fu rc x1 F G) (fun _ F' _ => MNS F0 F') := by
  unfold mb_named_16
  refine PP.ite (fun c_1 => ?_) (fun c_1 => ?_)
  · skip
    exact nkj_named_23 rc ihQ x1 F G hM
  · skip
    exact nkj_named_27 rc ihQ x1 F G hM
theorem nkj_named_15 {fu : Nat} (rc : RC) (ihQ : nkI rc) {F0 : PF} (z0 : Int32) (F : PF) (G : PG) (hM : MNS F0 F) : PP (mb_named_15 fu rc z0 F G) (fun _ F' _ => MNS F0 F') := by
  unfold mb_named_15
  refine PP.bz (fun _ => ?_)
  refine PP.ret ?_
  exact hM
theorem nkj_named_9 {fu : Nat} (rc : RC) (ihQ : nkI rc) {F0 : PF} (x1 : Int32) (F : PF) (G : PG) (hM : MNS F0 F) : PP (mb_named_9 fu rc x1 F G) (fun _ F' _ => MNS F0 F') := by
  unfold mb_named_9
  refine PP.bind (ihQ 1 x1 (1 : Int32) F G) ?_
  intro r1 F1 G1 hM1
  dsimp only
  exact nkj_named_15 rc ihQ r1 F1 G1 (MNS.tr hM hM1)
theorem nkj_named_6 {fu : Nat} (rc : RC) (ihQ : nkI rc) {F0 : PF} (x1 : Int32) (z0 : Int32) (F : PF) (G : PG) (hM : MNS F0 F) : PP (mb_named_6 fu rc x1 z0 F G) (fun _ F' _ => MNS F0 F') := by
  unfold mb_named_6
  refine PP.ite (fun c_1 => ?_) (fun c_1 => ?_)
  · skip
    exact nkj_named_16 rc ihQ x1 F G hM
  · skip
    exact nkj_named_9 rc ihQ x1 F G hM
theorem nkt_named {fu : Nat} (rc : RC) (ihQ : nkI rc) (x1 : Int32) (F : PF) (G : PG) : PP (mh_named fu rc x1 F G) (fun _ F' _ => MNS F F') := by
  unfold mh_named
  unfold mb_named_0
  refine PP.bind (mw_isSign (22 : Int32) F G) ?_
  intro r1 F1 G1 hM1
  dsimp only
  exact nkj_named_6 rc ihQ x1 r1 F1 G1 (MNS.tr MNS.rf (MNS.kx hM1 rfl rfl rfl rfl))
theorem nkj_operand_57 {fu : Nat} (rc : RC) (ihQ : nkI rc) {F0 : PF} (F : PF) (G : PG) (hM : MNS F0 F) : PP (mb_operand_57 fu rc F G) (fun _ F' _ => MNS F0 F') := by
  unfold mb_operand_57
  refine PP.ret ?_
  exact hM
theorem nkj_operand_88 {fu : Nat} (rc : RC) (ihQ : nkI rc) {F0 : PF} (F : PF) (G : PG) (hM : MNS F0 F) : PP (mb_operand_88 fu rc F G) (fun _ F' _ => MNS F0 F') := by
  unfold mb_operand_88
  refine PP.ret ?_
  exact hM
theorem nkj_operand_81 {fu : Nat} (rc : RC) (ihQ : nkI rc) {F0 : PF} (ag_63 : Int32 → Int32 → PF → PG → PR) (hag_63 : ∀ (x1 : Int32) (x3 : Int32) (F : PF) (G : PG) (hM : MNS F0 F), PP (ag_63 x1 x3 F G) (fun _ F' _ => MNS F0 F')) (x1 : Int32) (x3 : Int32) (z0 : Int32) (F : PF) (G : PG) (hM : MNS F0 F) : PP (mb_operand_81 fu rc ag_63 x1 x3 z0 F G) (fun _ F' _ => MNS F0 F') := by
  unfold mb_operand_81
  exact hag_63 x1 (x3 + (-1 : Int32)) F G hM
theorem nkj_operand_68 {fu : Nat} (rc : RC) (ihQ : nkI rc) {F0 : PF} (ag_63 : Int32 → Int32 → PF → PG → PR) (hag_63 : ∀ (x1 : Int32) (x3 : Int32) (F : PF) (G : PG) (hM : MNS F0 F), PP (ag_63 x1 x3 F G) (fun _ F' _ => MNS F0 F')) (x1 : Int32) (x3 : Int32) (F : PF) (G : PG) (hM : MNS F0 F) : PP (mb_operand_68 fu rc ag_63 x1 x3 F G) (fun _ F' _ => MNS F0 F') := by
  unfold mb_operand_68
  refine PP.ix (fun _ => ?_)
  refine PP.bind (mw_step (11 : Int32) (G 5 x3.toNatClampNeg) (0 : Int32) F G) ?_
  intro r1 F1 G1 hM1
  dsimp only
  exact nkj_operand_81 rc ihQ ag_63 hag_63 x1 x3 r1 F1 G1 (MNS.tr hM (MNS.kx hM1 rfl rfl rfl rfl))
theorem nkz_operand_63 {fu : Nat} (rc : RC) (ihQ : nkI rc) {F0 : PF} : ∀ (n : Nat) (x1 : Int32) (x3 : Int32) (F : PF) (G : PG) (hM : MNS F0 F), PP (ml_operand_63 fu rc n x1 x3 F G) (fun _ F' _ => MNS F0 F') := by
  intro n
  induction n with
  | zero =>
    intro x1 x3 F G hM
    exact PP.no
  | succ n ihn =>
    intro x1 x3 F G hM
    show PP (mb_operand_63 fu rc (ml_operand_63 fu rc n) x1 x3 F G) _
    unfold mb_operand_63
    refine PP.ite (fun c_1 => ?_) (fun c_1 => ?_)
    · skip
      exact nkj_operand_88 rc ihQ F G hM
    · skip
      exact nkj_operand_68 rc ihQ (ml_operand_63 fu rc n) ihn x1 x3 F G hM
theorem nkj_operand_59 {fu : Nat} (rc : RC) (ihQ : nkI rc) {F0 : PF} (x1 : Int32) (x2 : Int32) (F : PF) (G : PG) (hM : MNS F0 F) : PP (mb_operand_59 fu rc x1 x2 F G) (fun _ F' _ => MNS F0 F') := by
  unfold mb_operand_59
  exact nkz_operand_63 rc ihQ fu x1 (x2 - (1 : Int32)) F G hM
theorem nkj_operand_54 {fu : Nat} (rc : RC) (ihQ : nkI rc) {F0 : PF} (x1 : Int32) (x2 : Int32) (z0 : Int32) (F : PF) (G : PG) (hM : MNS F0 F) : PP (mb_operand_54 fu rc x1 x2 z0 F G) (fun _ F' _ => MNS F0 F') := by
  unfold mb_operand_54
  refine PP.ite (fun c_1 => ?_) (fun c_1 => ?_)
  · skip
    exact nkj_operand_57 rc ihQ F G hM
  · skip
    exact nkj_operand_59 rc ihQ x1 x2 F G hM
theorem nkj_operand_45 {fu : Nat} (rc : RC) (ihQ : nkI rc) {F0 : PF} (x1 : Int32) (F : PF) (G : PG) (hM : MNS F0 F) : PP (mb_operand_45 fu rc x1 F G) (fun _ F' _ => MNS F0 F') := by
  unfold mb_operand_45
  refine PP.bind (ihQ 8 0 0 F G) ?_
  intro r1 F1 G1 hM1
  dsimp only
  exact nkj_operand_54 rc ihQ x1 (F 42) r1 F1 G1 (MNS.tr hM hM1)
theorem nkj_operand_42 {fu : Nat} (rc : RC) (ihQ : nkI rc) {F0 : PF} (ag_5 : Int32 → PF → PG → PR) (hag_5 : ∀ (x1 : Int32) (F : PF) (G : PG) (hM : MNS F0 F), PP (ag_5 x1 F G) (fun _ F' _ => MNS F0 F')) (x1 : Int32) (F : PF) (G : PG) (hM : MNS F0 F) : PP (mb_operand_42 fu rc ag_5 x1 F G) (fun _ F' _ => MNS F0 F') := by
  unfold mb_operand_42
  exact hag_5 x1 F G hM
theorem nkj_operand_32 {fu : Nat} (rc : RC) (ihQ : nkI rc) {F0 : PF} (ag_5 : Int32 → PF → PG → PR) (hag_5 : ∀ (x1 : Int32) (F : PF) (G : PG) (hM : MNS F0 F), PP (ag_5 x1 F G) (fun _ F' _ => MNS F0 F')) (x1 : Int32) (F : PF) (G : PG) (hM : MNS F0 F) : PP (mb_operand_32 fu rc ag_5 x1 F G) (fun _ F' _ => MNS F0 F') := by
  unfold mb_operand_32
  exact nkj_operand_42 rc ihQ ag_5 hag_5 x1 (fup F 42 ((F 42) + (1 : Int32))) G (MNS.f (k := 42) rfl hM)
theorem nkj_operand_29 {fu : Nat} (rc : RC) (ihQ : nkI rc) {F0 : PF} (ag_5 : Int32 → PF → PG → PR) (hag_5 : ∀ (x1 : Int32) (F : PF) (G : PG) (hM : MNS F0 F), PP (ag_5 x1 F G) (fun _ F' _ => MNS F0 F')) (x1 : Int32) (z0 : Int32) (F : PF) (G : PG) (hM : MNS F0 F) : PP (mb_operand_29 fu rc ag_5 x1 z0 F G) (fun _ F' _ => MNS F0 F') := by
  unfold mb_operand_29
  refine PP.ite (fun c_1 => ?_) (fun c_1 => ?_)
  · skip
    exact nkj_operand_45 rc ihQ x1 F G hM
  · skip
    exact nkj_operand_32 rc ihQ ag_5 hag_5 x1 F G hM
theorem nkj_operand_23 {fu : Nat} (rc : RC) (ihQ : nkI rc) {F0 : PF} (ag_5 : Int32 → PF → PG → PR) (hag_5 : ∀ (x1 : Int32) (F : PF) (G : PG) (hM : MNS F0 F), PP (ag_5 x1 F G) (fun _ F' _ => MNS F0 F')) (x1 : Int32) (F : PF) (G : PG) (hM : MNS F0 F) : PP (mb_operand_23 fu rc ag_5 x1 F G) (fun _ F' _ => MNS F0 F') := by
  unfold mb_operand_23
  refine PP.bind (mw_isSign (44 : Int32) F G) ?_
  intro r1 F1 G1 hM1
  dsimp only
  exact nkj_operand_29 rc ihQ ag_5 hag_5 x1 r1 F1 G1 (MNS.tr hM (MNS.kx hM1 rfl rfl rfl rfl))
theorem nkj_operand_20 {fu : Nat} (rc : RC) (ihQ : nkI rc) {F0 : PF} (ag_5 : Int32 → PF → PG → PR) (hag_5 : ∀ (x1 : Int32) (F : PF) (G : PG) (hM : MNS F0 F), PP (ag_5 x1 F G) (fun _ F' _ => MNS F0 F')) (x1 : Int32) (z0 : Int32) (F : PF) (G : PG) (hM : MNS F0 F) : PP (mb_operand_20 fu rc ag_5 x1 z0 F G) (fun _ F' _ => MNS F0 F') := by
  unfold mb_operand_20
  refine PP.ite (fun c_1 => ?_) (fun c_1 => ?_)
  · skip
    exact nkj_operand_23 rc ihQ ag_5 hag_5 x1 F G hM
  · skip
    exact nkj_operand_32 rc ihQ ag_5 hag_5 x1 F G hM
theorem nkj_operand_14 {fu : Nat} (rc : RC) (ihQ : nkI rc) {F0 : PF} (ag_5 : Int32 → PF → PG → PR) (hag_5 : ∀ (x1 : Int32) (F : PF) (G : PG) (hM : MNS F0 F), PP (ag_5 x1 F G) (fun _ F' _ => MNS F0 F')) (x1 : Int32) (F : PF) (G : PG) (hM : MNS F0 F) : PP (mb_operand_14 fu rc ag_5 x1 F G) (fun _ F' _ => MNS F0 F') := by
  unfold mb_operand_14
  refine PP.bind (mw_isSign (43 : Int32) F G) ?_
  intro r1 F1 G1 hM1
  dsimp only
  exact nkj_operand_20 rc ihQ ag_5 hag_5 x1 r1 F1 G1 (MNS.tr hM (MNS.kx hM1 rfl rfl rfl rfl))
theorem nkj_operand_11 {fu : Nat} (rc : RC) (ihQ : nkI rc) {F0 : PF} (ag_5 : Int32 → PF → PG → PR) (hag_5 : ∀ (x1 : Int32) (F : PF) (G : PG) (hM : MNS F0 F), PP (ag_5 x1 F G) (fun _ F' _ => MNS F0 F')) (x1 : Int32) (z0 : Int32) (F : PF) (G : PG) (hM : MNS F0 F) : PP (mb_operand_11 fu rc ag_5 x1 z0 F G) (fun _ F' _ => MNS F0 F') := by
  unfold mb_operand_11
  refine PP.ite (fun c_1 => ?_) (fun c_1 => ?_)
  · skip
    exact nkj_operand_14 rc ihQ ag_5 hag_5 x1 F G hM
  · skip
    exact nkj_operand_32 rc ihQ ag_5 hag_5 x1 F G hM
theorem nkz_operand_5 {fu : Nat} (rc : RC) (ihQ : nkI rc) {F0 : PF} : ∀ (n : Nat) (x1 : Int32) (F : PF) (G : PG) (hM : MNS F0 F), PP (ml_operand_5 fu rc n x1 F G) (fun _ F' _ => MNS F0 F') := by
  intro n
  induction n with
  | zero =>
    intro x1 F G hM
    exact PP.no
  | succ n ihn =>
    intro x1 F G hM
    show PP (mb_operand_5 fu rc (ml_operand_5 fu rc n) x1 F G) _
    unfold mb_operand_5
    refine PP.bind (mw_isSign (39 : Int32) F G) ?_
    intro r1 F1 G1 hM1
    dsimp only
    exact nkj_operand_11 rc ihQ (ml_operand_5 fu rc n) ihn x1 r1 F1 G1 (MNS.tr hM (MNS.kx hM1 rfl rfl rfl rfl))
theorem nkt_operand {fu : Nat} (rc : RC) (ihQ : nkI rc) (F : PF) (G : PG) : PP (mh_operand fu rc F G) (fun _ F' _ => MNS F F') := by
  unfold mh_operand
  unfold mb_operand_0
  exact nkz_operand_5 rc ihQ fu (F 42) F G MNS.rf
theorem nkj_plain_39 {fu : Nat} (rc : RC) (ihQ : nkI rc) {F0 : PF} (F : PF) (G : PG) (hM : MNS F0 F) : PP (mb_plain_39 fu rc F G) (fun _ F' _ => MNS F0 F') := by
  unfold mb_plain_39
  refine PP.ret ?_
  exact hM
theorem nkj_plain_28 {fu : Nat} (rc : RC) (ihQ : nkI rc) {F0 : PF} (z0 : Int32) (F : PF) (G : PG) (hM : MNS F0 F) : PP (mb_plain_28 fu rc z0 F G) (fun _ F' _ => MNS F0 F') := by
  unfold mb_plain_28
  exact nkj_plain_39 rc ihQ (fup F 42 ((F 42) + (1 : Int32))) G (MNS.f (k := 42) rfl hM)
theorem nkj_plain_13 {fu : Nat} (rc : RC) (ihQ : nkI rc) {F0 : PF} (F : PF) (G : PG) (hM : MNS F0 F) : PP (mb_plain_13 fu rc F G) (fun _ F' _ => MNS F0 F') := by
  unfold mb_plain_13
  refine PP.ix (fun _ => ?_)
  refine PP.bind (mw_step (0 : Int32) (G 5 (F 42).toNatClampNeg) (0 : Int32) F G) ?_
  intro r1 F1 G1 hM1
  dsimp only
  exact nkj_plain_28 rc ihQ r1 F1 G1 (MNS.tr hM (MNS.kx hM1 rfl rfl rfl rfl))
theorem nkj_plain_210 {fu : Nat} (rc : RC) (ihQ : nkI rc) {F0 : PF} (z0 : Int32) (F : PF) (G : PG) (hM : MNS F0 F) : PP (mb_plain_210 fu rc z0 F G) (fun _ F' _ => MNS F0 F') := by
  unfold mb_plain_210
  refine PP.bz (fun _ => ?_)
  refine PP.ret ?_
  exact hM
theorem nkj_plain_205 {fu : Nat} (rc : RC) (ihQ : nkI rc) {F0 : PF} (x1 : Int32) (F : PF) (G : PG) (hM : MNS F0 F) : PP (mb_plain_205 fu rc x1 F G) (fun _ F' _ => MNS F0 F') := by
  unfold mb_plain_205
  refine PP.bind (ihQ 6 x1 0 F G) ?_
  intro r1 F1 G1 hM1
  dsimp only
  exact nkj_plain_210 rc ihQ r1 F1 G1 (MNS.tr hM hM1)
theorem nkj_plain_202 {fu : Nat} (rc : RC) (ihQ : nkI rc) {F0 : PF} (z0 : Int32) (F : PF) (G : PG) (hM : MNS F0 F) : PP (mb_plain_202 fu rc z0 F G) (fun _ F' _ => MNS F0 F') := by
  unfold mb_plain_202
  exact nkj_plain_210 rc ihQ z0 F G hM
theorem nkj_plain_197 {fu : Nat} (rc : RC) (ihQ : nkI rc) {F0 : PF} (x1 : Int32) (F : PF) (G : PG) (hM : MNS F0 F) : PP (mb_plain_197 fu rc x1 F G) (fun _ F' _ => MNS F0 F') := by
  unfold mb_plain_197
  refine PP.bind (ihQ 5 x1 0 F G) ?_
  intro r1 F1 G1 hM1
  dsimp only
  exact nkj_plain_202 rc ihQ r1 F1 G1 (MNS.tr hM hM1)
theorem nkj_plain_190 {fu : Nat} (rc : RC) (ihQ : nkI rc) {F0 : PF} (x1 : Int32) (F : PF) (G : PG) (hM : MNS F0 F) : PP (mb_plain_190 fu rc x1 F G) (fun _ F' _ => MNS F0 F') := by
  unfold mb_plain_190
  refine PP.ite (fun c_1 => ?_) (fun c_1 => ?_)
  · skip
    exact nkj_plain_205 rc ihQ x1 F G hM
  · skip
    exact nkj_plain_197 rc ihQ x1 F G hM
theorem nkj_plain_175 {fu : Nat} (rc : RC) (ihQ : nkI rc) {F0 : PF} (F : PF) (G : PG) (hM : MNS F0 F) : PP (mb_plain_175 fu rc F G) (fun _ F' _ => MNS F0 F') := by
  unfold mb_plain_175
  exact nkj_plain_190 rc ihQ (F 42) (fup F 42 ((F 42) + (1 : Int32))) G (MNS.f (k := 42) rfl hM)
theorem nkj_plain_174 {fu : Nat} (rc : RC) (ihQ : nkI rc) {F0 : PF} (z0 : Int32) (F : PF) (G : PG) (hM : MNS F0 F) : PP (mb_plain_174 fu rc z0 F G) (fun _ F' _ => MNS F0 F') := by
  unfold mb_plain_174
  refine PP.bz (fun _ => ?_)
  refine PP.ret ?_
  exact hM
theorem nkj_plain_169 {fu : Nat} (rc : RC) (ihQ : nkI rc) {F0 : PF} (F : PF) (G : PG) (hM : MNS F0 F) : PP (mb_plain_169 fu rc F G) (fun _ F' _ => MNS F0 F') := by
  unfold mb_plain_169
  refine PP.bind (nk_fails (2 : Int32) (by decide) F G) ?_
  intro r1 F1 G1 hM1
  dsimp only
  exact nkj_plain_174 rc ihQ r1 F1 G1 (MNS.tr hM hM1)
theorem nkj_plain_156 {fu : Nat} (rc : RC) (ihQ : nkI rc) {F0 : PF} (F : PF) (G : PG) (hM : MNS F0 F) : PP (mb_plain_156 fu rc F G) (fun _ F' _ => MNS F0 F') := by
  unfold mb_plain_156
  refine PP.ix (fun _ => ?_)
  refine PP.ite (fun c_1 => ?_) (fun c_1 => ?_)
  · skip
    exact nkj_plain_175 rc ihQ F G hM
  · skip
    exact nkj_plain_169 rc ihQ F G hM
theorem nkj_plain_143 {fu : Nat} (rc : RC) (ihQ : nkI rc) {F0 : PF} (F : PF) (G : PG) (hM : MNS F0 F) : PP (mb_plain_143 fu rc F G) (fun _ F' _ => MNS F0 F') := by
  unfold mb_plain_143
  refine PP.ret ?_
  exact hM
theorem nkj_plain_153 {fu : Nat} (rc : RC) (ihQ : nkI rc) {F0 : PF} (z0 : Int32) (F : PF) (G : PG) (hM : MNS F0 F) : PP (mb_plain_153 fu rc z0 F G) (fun _ F' _ => MNS F0 F') := by
  unfold mb_plain_153
  refine PP.ret ?_
  exact hM
theorem nkj_plain_145 {fu : Nat} (rc : RC) (ihQ : nkI rc) {F0 : PF} (F : PF) (G : PG) (hM : MNS F0 F) : PP (mb_plain_145 fu rc F G) (fun _ F' _ => MNS F0 F') := by
  unfold mb_plain_145
  refine PP.bind (mw_step (21 : Int32) (0 : Int32) (0 : Int32) F G) ?_
  intro r1 F1 G1 hM1
  dsimp only
  exact nkj_plain_153 rc ihQ r1 F1 G1 (MNS.tr hM (MNS.kx hM1 rfl rfl rfl rfl))
theorem nkj_plain_140 {fu : Nat} (rc : RC) (ihQ : nkI rc) {F0 : PF} (z0 : Int32) (F : PF) (G : PG) (hM : MNS F0 F) : PP (mb_plain_140 fu rc z0 F G) (fun _ F' _ => MNS F0 F') := by
  unfold mb_plain_140
  refine PP.ite (fun c_1 => ?_) (fun c_1 => ?_)
  · skip
    exact nkj_plain_143 rc ihQ F G hM
  · skip
    exact nkj_plain_145 rc ihQ F G hM
theorem nkj_plain_134 {fu : Nat} (rc : RC) (ihQ : nkI rc) {F0 : PF} (F : PF) (G : PG) (hM : MNS F0 F) : PP (mb_plain_134 fu rc F G) (fun _ F' _ => MNS F0 F') := by
  unfold mb_plain_134
  refine PP.bind (nk_closeSign (23 : Int32) F G) ?_
  intro r1 F1 G1 hM1
  dsimp only
  exact nkj_plain_140 rc ihQ r1 F1 G1 (MNS.tr hM hM1)
theorem nkj_plain_131 {fu : Nat} (rc : RC) (ihQ : nkI rc) {F0 : PF} (z0 : Int32) (F : PF) (G : PG) (hM : MNS F0 F) : PP (mb_plain_131 fu rc z0 F G) (fun _ F' _ => MNS F0 F') := by
  unfold mb_plain_131
  refine PP.ite (fun c_1 => ?_) (fun c_1 => ?_)
  · skip
    exact nkj_plain_143 rc ihQ F G hM
  · skip
    exact nkj_plain_134 rc ihQ F G hM
theorem nkj_plain_125 {fu : Nat} (rc : RC) (ihQ : nkI rc) {F0 : PF} (F : PF) (G : PG) (hM : MNS F0 F) : PP (mb_plain_125 fu rc F G) (fun _ F' _ => MNS F0 F') := by
  unfold mb_plain_125
  refine PP.bind (nk_openSign (22 : Int32) F G) ?_
  intro r1 F1 G1 hM1
  dsimp only
  exact nkj_plain_131 rc ihQ r1 F1 G1 (MNS.tr hM hM1)
theorem nkj_plain_115 {fu : Nat} (rc : RC) (ihQ : nkI rc) {F0 : PF} (F : PF) (G : PG) (hM : MNS F0 F) : PP (mb_plain_115 fu rc F G) (fun _ F' _ => MNS F0 F') := by
  unfold mb_plain_115
  exact nkj_plain_125 rc ihQ (fup F 42 ((F 42) + (1 : Int32))) G (MNS.f (k := 42) rfl hM)
theorem nkj_plain_110 {fu : Nat} (rc : RC) (ihQ : nkI rc) {F0 : PF} (F : PF) (G : PG) (hM : MNS F0 F) : PP (mb_plain_110 fu rc F G) (fun _ F' _ => MNS F0 F') := by
  unfold mb_plain_110
  exact nkj_plain_115 rc ihQ (fup F 55 (1 : Int32)) G (MNS.f (k := 55) rfl hM)
theorem nkj_plain_95 {fu : Nat} (rc : RC) (ihQ : nkI rc) {F0 : PF} (F : PF) (G : PG) (hM : MNS F0 F) : PP (mb_plain_95 fu rc F G) (fun _ F' _ => MNS F0 F') := by
  unfold mb_plain_95
  refine PP.ix (fun _ => ?_)
  refine PP.bind (nk_note (10 : Int32) (G 6 (F 42).toNatClampNeg) (by decide) F G) ?_
  intro r1 F1 G1 hM1
  dsimp only
  exact nkj_plain_110 rc ihQ F1 G1 (MNS.tr hM hM1)
theorem nkj_plain_88 {fu : Nat} (rc : RC) (ihQ : nkI rc) {F0 : PF} (F : PF) (G : PG) (hM : MNS F0 F) : PP (mb_plain_88 fu rc F G) (fun _ F' _ => MNS F0 F') := by
  unfold mb_plain_88
  refine PP.ite (fun c_1 => ?_) (fun c_1 => ?_)
  · skip
    exact nkj_plain_115 rc ihQ F G hM
  · skip
    exact nkj_plain_95 rc ihQ F G hM
theorem nkj_plain_85 {fu : Nat} (rc : RC) (ihQ : nkI rc) {F0 : PF} (z0 : Int32) (F : PF) (G : PG) (hM : MNS F0 F) : PP (mb_plain_85 fu rc z0 F G) (fun _ F' _ => MNS F0 F') := by
  unfold mb_plain_85
  refine PP.ite (fun c_1 => ?_) (fun c_1 => ?_)
  · skip
    exact nkj_plain_156 rc ihQ F G hM
  · skip
    exact nkj_plain_88 rc ihQ F G hM
theorem nkj_plain_79 {fu : Nat} (rc : RC) (ihQ : nkI rc) {F0 : PF} (F : PF) (G : PG) (hM : MNS F0 F) : PP (mb_plain_79 fu rc F G) (fun _ F' _ => MNS F0 F') := by
  unfold mb_plain_79
  refine PP.bind (mw_isWord (13 : Int32) F G) ?_
  intro r1 F1 G1 hM1
  dsimp only
  exact nkj_plain_85 rc ihQ r1 F1 G1 (MNS.tr hM (MNS.kx hM1 rfl rfl rfl rfl))
theorem nkj_plain_78 {fu : Nat} (rc : RC) (ihQ : nkI rc) {F0 : PF} (z0 : Int32) (F : PF) (G : PG) (hM : MNS F0 F) : PP (mb_plain_78 fu rc z0 F G) (fun _ F' _ => MNS F0 F') := by
  unfold mb_plain_78
  refine PP.bz (fun _ => ?_)
  refine PP.ret ?_
  exact hM
theorem nkj_plain_77 {fu : Nat} (rc : RC) (ihQ : nkI rc) {F0 : PF} (F : PF) (G : PG) (hM : MNS F0 F) : PP (mb_plain_77 fu rc F G) (fun _ F' _ => MNS F0 F') := by
  unfold mb_plain_77
  exact nkj_plain_78 rc ihQ (0 : Int32) F G hM
theorem nkj_plain_73 {fu : Nat} (rc : RC) (ihQ : nkI rc) {F0 : PF} (F : PF) (G : PG) (hM : MNS F0 F) : PP (mb_plain_73 fu rc F G) (fun _ F' _ => MNS F0 F') := by
  unfold mb_plain_73
  exact nkj_plain_78 rc ihQ (1 : Int32) F G hM
theorem nkj_plain_70 {fu : Nat} (rc : RC) (ihQ : nkI rc) {F0 : PF} (z0 : Int32) (F : PF) (G : PG) (hM : MNS F0 F) : PP (mb_plain_70 fu rc z0 F G) (fun _ F' _ => MNS F0 F') := by
  unfold mb_plain_70
  refine PP.ite (fun c_1 => ?_) (fun c_1 => ?_)
  · skip
    exact nkj_plain_77 rc ihQ F G hM
  · skip
    exact nkj_plain_73 rc ihQ F G hM
theorem nkj_plain_64 {fu : Nat} (rc : RC) (ihQ : nkI rc) {F0 : PF} (F : PF) (G : PG) (hM : MNS F0 F) : PP (mb_plain_64 fu rc F G) (fun _ F' _ => MNS F0 F') := by
  unfold mb_plain_64
  refine PP.bind (nk_closeSign (23 : Int32) F G) ?_
  intro r1 F1 G1 hM1
  dsimp only
  exact nkj_plain_70 rc ihQ r1 F1 G1 (MNS.tr hM hM1)
theorem nkj_plain_61 {fu : Nat} (rc : RC) (ihQ : nkI rc) {F0 : PF} (z0 : Int32) (F : PF) (G : PG) (hM : MNS F0 F) : PP (mb_plain_61 fu rc z0 F G) (fun _ F' _ => MNS F0 F') := by
  unfold mb_plain_61
  refine PP.ite (fun c_1 => ?_) (fun c_1 => ?_)
  · skip
    exact nkj_plain_77 rc ihQ F G hM
  · skip
    exact nkj_plain_64 rc ihQ F G hM
theorem nkj_plain_57 {fu : Nat} (rc : RC) (ihQ : nkI rc) {F0 : PF} (F : PF) (G : PG) (hM : MNS F0 F) : PP (mb_plain_57 fu rc F G) (fun _ F' _ => MNS F0 F') := by
  unfold mb_plain_57
  refine PP.bind (ihQ 4 0 0 F G) ?_
  intro r1 F1 G1 hM1
  dsimp only
  exact nkj_plain_61 rc ihQ r1 F1 G1 (MNS.tr hM hM1)
theorem nkj_plain_54 {fu : Nat} (rc : RC) (ihQ : nkI rc) {F0 : PF} (z0 : Int32) (F : PF) (G : PG) (hM : MNS F0 F) : PP (mb_plain_54 fu rc z0 F G) (fun _ F' _ => MNS F0 F') := by
  unfold mb_plain_54
  refine PP.ite (fun c_1 => ?_) (fun c_1 => ?_)
  · skip
    exact nkj_plain_77 rc ihQ F G hM
  · skip
    exact nkj_plain_57 rc ihQ F G hM
theorem nkj_plain_50 {fu : Nat} (rc : RC) (ihQ : nkI rc) {F0 : PF} (F : PF) (G : PG) (hM : MNS F0 F) : PP (mb_plain_50 fu rc F G) (fun _ F' _ => MNS F0 F') := by
  unfold mb_plain_50
  refine PP.bind (nk_opens F G) ?_
  intro r1 F1 G1 hM1
  dsimp only
  exact nkj_plain_54 rc ihQ r1 F1 G1 (MNS.tr hM hM1)
theorem nkj_plain_47 {fu : Nat} (rc : RC) (ihQ : nkI rc) {F0 : PF} (z0 : Int32) (F : PF) (G : PG) (hM : MNS F0 F) : PP (mb_plain_47 fu rc z0 F G) (fun _ F' _ => MNS F0 F') := by
  unfold mb_plain_47
  refine PP.ite (fun c_1 => ?_) (fun c_1 => ?_)
  · skip
    exact nkj_plain_79 rc ihQ F G hM
  · skip
    exact nkj_plain_50 rc ihQ F G hM
theorem nkj_plain_41 {fu : Nat} (rc : RC) (ihQ : nkI rc) {F0 : PF} (F : PF) (G : PG) (hM : MNS F0 F) : PP (mb_plain_41 fu rc F G) (fun _ F' _ => MNS F0 F') := by
  unfold mb_plain_41
  refine PP.bind (mw_isSign (22 : Int32) F G) ?_
  intro r1 F1 G1 hM1
  dsimp only
  exact nkj_plain_47 rc ihQ r1 F1 G1 (MNS.tr hM (MNS.kx hM1 rfl rfl rfl rfl))
theorem nkt_plain {fu : Nat} (rc : RC) (ihQ : nkI rc) (F : PF) (G : PG) : PP (mh_plain fu rc F G) (fun _ F' _ => MNS F F') := by
  unfold mh_plain
  unfold mb_plain_0
  refine PP.ix (fun _ => ?_)
  refine PP.ite (fun c_1 => ?_) (fun c_1 => ?_)
  · skip
    exact nkj_plain_13 rc ihQ F G MNS.rf
  · skip
    exact nkj_plain_41 rc ihQ F G MNS.rf
theorem nkS1 {fu : Nat} : ∀ d : Nat, nkI (mS1 fu d) := by
  intro d
  induction d with
  | zero => exact fun _ _ _ _ _ => PP.no
  | succ d ih =>
    intro i x y F G
    exact PP.ite (fun _ => nkt_argument (mS1 fu d) ih x y F G) (fun _ => PP.ite (fun _ => nkt_call (mS1 fu d) ih x y F G) (fun _ => PP.ite (fun _ => nkt_chain (mS1 fu d) ih F G) (fun _ => PP.ite (fun _ => nkt_element (mS1 fu d) ih x F G) (fun _ => PP.ite (fun _ => nkt_expression (mS1 fu d) ih F G) (fun _ => PP.ite (fun _ => nkt_inConstant (mS1 fu d) ih x F G) (fun _ => PP.ite (fun _ => nkt_named (mS1 fu d) ih x F G) (fun _ => PP.ite (fun _ => nkt_operand (mS1 fu d) ih F G) (fun _ => PP.ite (fun _ => nkt_plain (mS1 fu d) ih F G) (fun _ => PP.no)))))))))
theorem nk_argument {fu : Nat} (x : Int32) (y : Int32) (F : PF) (G : PG) : PP (mf_argument fu x y F G) (fun _ F' _ => MNS F F') := nkS1 300 0 x y F G
theorem nk_call {fu : Nat} (x : Int32) (y : Int32) (F : PF) (G : PG) : PP (mf_call fu x y F G) (fun _ F' _ => MNS F F') := nkS1 300 1 x y F G
theorem nk_chain {fu : Nat} (F : PF) (G : PG) : PP (mf_chain fu F G) (fun _ F' _ => MNS F F') := nkS1 300 2 0 0 F G
theorem nk_element {fu : Nat} (x : Int32) (F : PF) (G : PG) : PP (mf_element fu x F G) (fun _ F' _ => MNS F F') := nkS1 300 3 x 0 F G
theorem nk_expression {fu : Nat} (F : PF) (G : PG) : PP (mf_expression fu F G) (fun _ F' _ => MNS F F') := nkS1 300 4 0 0 F G
theorem nk_inConstant {fu : Nat} (x : Int32) (F : PF) (G : PG) : PP (mf_inConstant fu x F G) (fun _ F' _ => MNS F F') := nkS1 300 5 x 0 F G
theorem nk_named {fu : Nat} (x : Int32) (F : PF) (G : PG) : PP (mf_named fu x F G) (fun _ F' _ => MNS F F') := nkS1 300 6 x 0 F G
theorem nk_operand {fu : Nat} (F : PF) (G : PG) : PP (mf_operand fu F G) (fun _ F' _ => MNS F F') := nkS1 300 7 0 0 F G
theorem nk_plain {fu : Nat} (F : PF) (G : PG) : PP (mf_plain fu F G) (fun _ F' _ => MNS F F') := nkS1 300 8 0 0 F G
theorem nkj_value_66 {fu : Nat} {F0 : PF} (x3 : Int32) (F : PF) (G : PG) (hM : MNS F0 F) : PP (mb_value_66 fu x3 F G) (fun _ F' _ => MNS F0 F') := by
  unfold mb_value_66
  refine PP.ret ?_
  exact hM
theorem nkj_value_60 {fu : Nat} {F0 : PF} (x2 : Int32) (z0 : Int32) (F : PF) (G : PG) (hM : MNS F0 F) : PP (mb_value_60 fu x2 z0 F G) (fun _ F' _ => MNS F0 F') := by
  unfold mb_value_60
  exact nkj_value_66 z0 (fup F 60 x2) G (MNS.f (k := 60) rfl hM)
theorem nkj_value_51 {fu : Nat} {F0 : PF} (x2 : Int32) (F : PF) (G : PG) (hM : MNS F0 F) : PP (mb_value_51 fu x2 F G) (fun _ F' _ => MNS F0 F') := by
  unfold mb_value_51
  exact nkj_value_60 x2 (0 : Int32) F G hM
theorem nkj_value_55 {fu : Nat} {F0 : PF} (x2 : Int32) (F : PF) (G : PG) (hM : MNS F0 F) : PP (mb_value_55 fu x2 F G) (fun _ F' _ => MNS F0 F') := by
  unfold mb_value_55
  refine PP.bind (mw_reckon x2 F G) ?_
  intro r1 F1 G1 hM1
  dsimp only
  exact nkj_value_60 x2 r1 F1 G1 (MNS.tr hM (MNS.kx hM1 rfl rfl rfl rfl))
theorem nkj_value_44 {fu : Nat} {F0 : PF} (x2 : Int32) (F : PF) (G : PG) (hM : MNS F0 F) : PP (mb_value_44 fu x2 F G) (fun _ F' _ => MNS F0 F') := by
  unfold mb_value_44
  refine PP.ite (fun c_1 => ?_) (fun c_1 => ?_)
  · skip
    exact nkj_value_55 x2 F G hM
  · skip
    exact nkj_value_51 x2 F G hM
theorem nkj_value_37 {fu : Nat} {F0 : PF} (x2 : Int32) (F : PF) (G : PG) (hM : MNS F0 F) : PP (mb_value_37 fu x2 F G) (fun _ F' _ => MNS F0 F') := by
  unfold mb_value_37
  refine PP.ite (fun c_1 => ?_) (fun c_1 => ?_)
  · skip
    exact nkj_value_51 x2 F G hM
  · skip
    exact nkj_value_44 x2 F G hM
theorem nkj_value_30 {fu : Nat} {F0 : PF} (x2 : Int32) (F : PF) (G : PG) (hM : MNS F0 F) : PP (mb_value_30 fu x2 F G) (fun _ F' _ => MNS F0 F') := by
  unfold mb_value_30
  refine PP.ite (fun c_1 => ?_) (fun c_1 => ?_)
  · skip
    exact nkj_value_51 x2 F G hM
  · skip
    exact nkj_value_37 x2 F G hM
theorem nkj_value_24 {fu : Nat} {F0 : PF} (x1 : Int32) (x2 : Int32) (z0 : Int32) (F : PF) (G : PG) (hM : MNS F0 F) : PP (mb_value_24 fu x1 x2 z0 F G) (fun _ F' _ => MNS F0 F') := by
  unfold mb_value_24
  refine PP.bz (fun _ => ?_)
  exact nkj_value_30 x2 (fup F 54 x1) G (MNS.f (k := 54) rfl hM)
theorem nkj_value_15 {fu : Nat} {F0 : PF} (x1 : Int32) (F : PF) (G : PG) (hM : MNS F0 F) : PP (mb_value_15 fu x1 F G) (fun _ F' _ => MNS F0 F') := by
  unfold mb_value_15
  refine PP.bind (nk_expression F G) ?_
  intro r1 F1 G1 hM1
  dsimp only
  exact nkj_value_24 x1 (F 60) r1 F1 G1 (MNS.tr hM hM1)
theorem nkj_value_10 {fu : Nat} {F0 : PF} (x1 : Int32) (F : PF) (G : PG) (hM : MNS F0 F) : PP (mb_value_10 fu x1 F G) (fun _ F' _ => MNS F0 F') := by
  unfold mb_value_10
  exact nkj_value_15 x1 (fup F 55 (0 : Int32)) G (MNS.f (k := 55) rfl hM)
theorem nk_value {fu : Nat} (F : PF) (G : PG) : PP (mf_value fu F G) (fun _ F' _ => MNS F F') := by
  unfold mf_value
  unfold mb_value_0
  exact nkj_value_10 (F 54) (fup F 54 (1 : Int32)) G (MNS.f (k := 54) rfl MNS.rf)
theorem nkj_sizeHere_29 {fu : Nat} {F0 : PF} (F : PF) (G : PG) (hM : MNS F0 F) : PP (mb_sizeHere_29 fu F G) (fun _ F' _ => MNS F0 F') := by
  unfold mb_sizeHere_29
  refine PP.ret ?_
  exact hM
theorem nkj_sizeHere_61 {fu : Nat} {F0 : PF} (F : PF) (G : PG) (hM : MNS F0 F) : PP (mb_sizeHere_61 fu F G) (fun _ F' _ => MNS F0 F') := by
  unfold mb_sizeHere_61
  refine PP.ret ?_
  exact hM
theorem nkj_sizeHere_54 {fu : Nat} {F0 : PF} (x1 : Int32) (F : PF) (G : PG) (hM : MNS F0 F) : PP (mb_sizeHere_54 fu x1 F G) (fun _ F' _ => MNS F0 F') := by
  unfold mb_sizeHere_54
  refine PP.bind (nk_note (10 : Int32) x1 (by decide) F G) ?_
  intro r1 F1 G1 hM1
  dsimp only
  exact nkj_sizeHere_61 F1 G1 (MNS.tr hM hM1)
theorem nkj_sizeHere_52 {fu : Nat} {F0 : PF} (x2 : Int32) (F : PF) (G : PG) (hM : MNS F0 F) : PP (mb_sizeHere_52 fu x2 F G) (fun _ F' _ => MNS F0 F') := by
  unfold mb_sizeHere_52
  refine PP.ret ?_
  exact hM
theorem nkj_sizeHere_45 {fu : Nat} {F0 : PF} (x1 : Int32) (x2 : Int32) (F : PF) (G : PG) (hM : MNS F0 F) : PP (mb_sizeHere_45 fu x1 x2 F G) (fun _ F' _ => MNS F0 F') := by
  unfold mb_sizeHere_45
  refine PP.ite (fun c_1 => ?_) (fun c_1 => ?_)
  · skip
    exact nkj_sizeHere_54 x1 F G hM
  · skip
    exact nkj_sizeHere_52 x2 F G hM
theorem nkj_sizeHere_40 {fu : Nat} {F0 : PF} (x1 : Int32) (x2 : Int32) (F : PF) (G : PG) (hM : MNS F0 F) : PP (mb_sizeHere_40 fu x1 x2 F G) (fun _ F' _ => MNS F0 F') := by
  unfold mb_sizeHere_40
  refine PP.ite (fun c_1 => ?_) (fun c_1 => ?_)
  · skip
    exact nkj_sizeHere_54 x1 F G hM
  · skip
    exact nkj_sizeHere_45 x1 x2 F G hM
theorem nkj_sizeHere_38 {fu : Nat} {F0 : PF} (F : PF) (G : PG) (hM : MNS F0 F) : PP (mb_sizeHere_38 fu F G) (fun _ F' _ => MNS F0 F') := by
  unfold mb_sizeHere_38
  refine PP.ret ?_
  exact hM
theorem nkj_sizeHere_31 {fu : Nat} {F0 : PF} (x1 : Int32) (x2 : Int32) (F : PF) (G : PG) (hM : MNS F0 F) : PP (mb_sizeHere_31 fu x1 x2 F G) (fun _ F' _ => MNS F0 F') := by
  unfold mb_sizeHere_31
  refine PP.ite (fun c_1 => ?_) (fun c_1 => ?_)
  · skip
    exact nkj_sizeHere_40 x1 x2 F G hM
  · skip
    exact nkj_sizeHere_38 F G hM
theorem nkj_sizeHere_22 {fu : Nat} {F0 : PF} (x1 : Int32) (x2 : Int32) (F : PF) (G : PG) (hM : MNS F0 F) : PP (mb_sizeHere_22 fu x1 x2 F G) (fun _ F' _ => MNS F0 F') := by
  unfold mb_sizeHere_22
  refine PP.ite (fun c_1 => ?_) (fun c_1 => ?_)
  · skip
    exact nkj_sizeHere_29 F G hM
  · skip
    exact nkj_sizeHere_31 x1 x2 F G hM
theorem nkj_sizeHere_14 {fu : Nat} {F0 : PF} (x1 : Int32) (z0 : Int32) (F : PF) (G : PG) (hM : MNS F0 F) : PP (mb_sizeHere_14 fu x1 z0 F G) (fun _ F' _ => MNS F0 F') := by
  unfold mb_sizeHere_14
  refine PP.ite (fun c_1 => ?_) (fun c_1 => ?_)
  · skip
    exact nkj_sizeHere_29 F G hM
  · skip
    exact nkj_sizeHere_22 x1 z0 F G hM
theorem nk_sizeHere {fu : Nat} (F : PF) (G : PG) : PP (mf_sizeHere fu F G) (fun _ F' _ => MNS F F') := by
  unfold mf_sizeHere
  unfold mb_sizeHere_0
  refine PP.ix (fun _ => ?_)
  refine PP.bind (nk_value F G) ?_
  intro r1 F1 G1 hM1
  dsimp only
  exact nkj_sizeHere_14 (G 6 (F 42).toNatClampNeg) r1 F1 G1 (MNS.tr MNS.rf hM1)
theorem nkj_twice_7 {fu : Nat} {F0 : PF} (F : PF) (G : PG) (hM : MNS F0 F) : PP (mb_twice_7 fu F G) (fun _ F' _ => MNS F0 F') := by
  unfold mb_twice_7
  refine PP.ret ?_
  exact hM
theorem nkj_twice_142 {fu : Nat} {F0 : PF} (F : PF) (G : PG) (hM : MNS F0 F) : PP (mb_twice_142 fu F G) (fun _ F' _ => MNS F0 F') := by
  unfold mb_twice_142
  refine PP.ret ?_
  exact hM
theorem nkj_twice_131 {fu : Nat} {F0 : PF} (x1 : Int32) (F : PF) (G : PG) (hM : MNS F0 F) : PP (mb_twice_131 fu x1 F G) (fun _ F' _ => MNS F0 F') := by
  unfold mb_twice_131
  refine PP.ix (fun _ => ?_)
  refine PP.bind (nk_note (5 : Int32) (G 6 x1.toNatClampNeg) (by decide) F G) ?_
  intro r1 F1 G1 hM1
  dsimp only
  exact nkj_twice_142 F1 G1 (MNS.tr hM hM1)
theorem nkj_twice_127 {fu : Nat} {F0 : PF} (x1 : Int32) (x2 : Int32) (F : PF) (G : PG) (hM : MNS F0 F) : PP (mb_twice_127 fu x1 x2 F G) (fun _ F' _ => MNS F0 F') := by
  unfold mb_twice_127
  refine PP.ite (fun c_1 => ?_) (fun c_1 => ?_)
  · skip
    exact nkj_twice_142 F G hM
  · skip
    exact nkj_twice_131 x1 F G hM
theorem nkj_twice_120 {fu : Nat} {F0 : PF} (ag_66 : Int32 → Int32 → Int32 → PF → PG → PR) (hag_66 : ∀ (x1 : Int32) (x2 : Int32) (x3 : Int32) (F : PF) (G : PG) (hM : MNS F0 F), PP (ag_66 x1 x2 x3 F G) (fun _ F' _ => MNS F0 F')) (x1 : Int32) (x3 : Int32) (z0 : Int32) (F : PF) (G : PG) (hM : MNS F0 F) : PP (mb_twice_120 fu ag_66 x1 x3 z0 F G) (fun _ F' _ => MNS F0 F') := by
  unfold mb_twice_120
  exact hag_66 x1 z0 (x3 + (1 : Int32)) F G hM
theorem nkj_twice_119 {fu : Nat} {F0 : PF} (ag_66 : Int32 → Int32 → Int32 → PF → PG → PR) (hag_66 : ∀ (x1 : Int32) (x2 : Int32) (x3 : Int32) (F : PF) (G : PG) (hM : MNS F0 F), PP (ag_66 x1 x2 x3 F G) (fun _ F' _ => MNS F0 F')) (x1 : Int32) (x3 : Int32) (F : PF) (G : PG) (hM : MNS F0 F) : PP (mb_twice_119 fu ag_66 x1 x3 F G) (fun _ F' _ => MNS F0 F') := by
  unfold mb_twice_119
  exact nkj_twice_120 ag_66 hag_66 x1 x3 (0 : Int32) F G hM
theorem nkj_twice_115 {fu : Nat} {F0 : PF} (ag_66 : Int32 → Int32 → Int32 → PF → PG → PR) (hag_66 : ∀ (x1 : Int32) (x2 : Int32) (x3 : Int32) (F : PF) (G : PG) (hM : MNS F0 F), PP (ag_66 x1 x2 x3 F G) (fun _ F' _ => MNS F0 F')) (x1 : Int32) (x3 : Int32) (F : PF) (G : PG) (hM : MNS F0 F) : PP (mb_twice_115 fu ag_66 x1 x3 F G) (fun _ F' _ => MNS F0 F') := by
  unfold mb_twice_115
  exact nkj_twice_120 ag_66 hag_66 x1 x3 (1 : Int32) F G hM
theorem nkj_twice_100 {fu : Nat} {F0 : PF} (ag_66 : Int32 → Int32 → Int32 → PF → PG → PR) (hag_66 : ∀ (x1 : Int32) (x2 : Int32) (x3 : Int32) (F : PF) (G : PG) (hM : MNS F0 F), PP (ag_66 x1 x2 x3 F G) (fun _ F' _ => MNS F0 F')) (x1 : Int32) (x3 : Int32) (F : PF) (G : PG) (hM : MNS F0 F) : PP (mb_twice_100 fu ag_66 x1 x3 F G) (fun _ F' _ => MNS F0 F') := by
  unfold mb_twice_100
  refine PP.ix (fun _ => ?_)
  refine PP.ix (fun _ => ?_)
  refine PP.ite (fun c_1 => ?_) (fun c_1 => ?_)
  · skip
    exact nkj_twice_119 ag_66 hag_66 x1 x3 F G hM
  · skip
    exact nkj_twice_115 ag_66 hag_66 x1 x3 F G hM
theorem nkj_twice_85 {fu : Nat} {F0 : PF} (ag_66 : Int32 → Int32 → Int32 → PF → PG → PR) (hag_66 : ∀ (x1 : Int32) (x2 : Int32) (x3 : Int32) (F : PF) (G : PG) (hM : MNS F0 F), PP (ag_66 x1 x2 x3 F G) (fun _ F' _ => MNS F0 F')) (x1 : Int32) (x3 : Int32) (F : PF) (G : PG) (hM : MNS F0 F) : PP (mb_twice_85 fu ag_66 x1 x3 F G) (fun _ F' _ => MNS F0 F') := by
  unfold mb_twice_85
  refine PP.ix (fun _ => ?_)
  refine PP.ix (fun _ => ?_)
  refine PP.ite (fun c_1 => ?_) (fun c_1 => ?_)
  · skip
    exact nkj_twice_100 ag_66 hag_66 x1 x3 F G hM
  · skip
    exact nkj_twice_119 ag_66 hag_66 x1 x3 F G hM
theorem nkj_twice_81 {fu : Nat} {F0 : PF} (ag_66 : Int32 → Int32 → Int32 → PF → PG → PR) (hag_66 : ∀ (x1 : Int32) (x2 : Int32) (x3 : Int32) (F : PF) (G : PG) (hM : MNS F0 F), PP (ag_66 x1 x2 x3 F G) (fun _ F' _ => MNS F0 F')) (x1 : Int32) (x2 : Int32) (x3 : Int32) (F : PF) (G : PG) (hM : MNS F0 F) : PP (mb_twice_81 fu ag_66 x1 x2 x3 F G) (fun _ F' _ => MNS F0 F') := by
  unfold mb_twice_81
  refine PP.ite (fun c_1 => ?_) (fun c_1 => ?_)
  · skip
    exact nkj_twice_85 ag_66 hag_66 x1 x3 F G hM
  · skip
    exact nkj_twice_115 ag_66 hag_66 x1 x3 F G hM
theorem nkj_twice_74 {fu : Nat} {F0 : PF} (ag_66 : Int32 → Int32 → Int32 → PF → PG → PR) (hag_66 : ∀ (x1 : Int32) (x2 : Int32) (x3 : Int32) (F : PF) (G : PG) (hM : MNS F0 F), PP (ag_66 x1 x2 x3 F G) (fun _ F' _ => MNS F0 F')) (x1 : Int32) (x2 : Int32) (x3 : Int32) (F : PF) (G : PG) (hM : MNS F0 F) : PP (mb_twice_74 fu ag_66 x1 x2 x3 F G) (fun _ F' _ => MNS F0 F') := by
  unfold mb_twice_74
  refine PP.ite (fun c_1 => ?_) (fun c_1 => ?_)
  · skip
    exact nkj_twice_81 ag_66 hag_66 x1 x2 x3 F G hM
  · skip
    exact nkj_twice_127 x1 x2 F G hM
theorem nkz_twice_66 {fu : Nat} {F0 : PF} : ∀ (n : Nat) (x1 : Int32) (x2 : Int32) (x3 : Int32) (F : PF) (G : PG) (hM : MNS F0 F), PP (ml_twice_66 fu n x1 x2 x3 F G) (fun _ F' _ => MNS F0 F') := by
  intro n
  induction n with
  | zero =>
    intro x1 x2 x3 F G hM
    exact PP.no
  | succ n ihn =>
    intro x1 x2 x3 F G hM
    show PP (mb_twice_66 fu (ml_twice_66 fu n) x1 x2 x3 F G) _
    unfold mb_twice_66
    refine PP.ite (fun c_1 => ?_) (fun c_1 => ?_)
    · skip
      exact nkj_twice_127 x1 x2 F G hM
    · skip
      exact nkj_twice_74 (ml_twice_66 fu n) ihn x1 x2 x3 F G hM
theorem nkj_twice_64 {fu : Nat} {F0 : PF} (x1 : Int32) (x2 : Int32) (F : PF) (G : PG) (hM : MNS F0 F) : PP (mb_twice_64 fu x1 x2 F G) (fun _ F' _ => MNS F0 F') := by
  unfold mb_twice_64
  exact nkz_twice_66 fu x1 x2 (0 : Int32) F G hM
theorem nkj_twice_57 {fu : Nat} {F0 : PF} (ag_12 : Int32 → Int32 → Int32 → PF → PG → PR) (hag_12 : ∀ (x1 : Int32) (x2 : Int32) (x3 : Int32) (F : PF) (G : PG) (hM : MNS F0 F), PP (ag_12 x1 x2 x3 F G) (fun _ F' _ => MNS F0 F')) (x1 : Int32) (x3 : Int32) (z0 : Int32) (F : PF) (G : PG) (hM : MNS F0 F) : PP (mb_twice_57 fu ag_12 x1 x3 z0 F G) (fun _ F' _ => MNS F0 F') := by
  unfold mb_twice_57
  exact hag_12 x1 z0 (x3 + (1 : Int32)) F G hM
theorem nkj_twice_52 {fu : Nat} {F0 : PF} (ag_12 : Int32 → Int32 → Int32 → PF → PG → PR) (hag_12 : ∀ (x1 : Int32) (x2 : Int32) (x3 : Int32) (F : PF) (G : PG) (hM : MNS F0 F), PP (ag_12 x1 x2 x3 F G) (fun _ F' _ => MNS F0 F')) (x1 : Int32) (x3 : Int32) (F : PF) (G : PG) (hM : MNS F0 F) : PP (mb_twice_52 fu ag_12 x1 x3 F G) (fun _ F' _ => MNS F0 F') := by
  unfold mb_twice_52
  exact nkj_twice_57 ag_12 hag_12 x1 x3 (1 : Int32) F G hM
theorem nkj_twice_56 {fu : Nat} {F0 : PF} (ag_12 : Int32 → Int32 → Int32 → PF → PG → PR) (hag_12 : ∀ (x1 : Int32) (x2 : Int32) (x3 : Int32) (F : PF) (G : PG) (hM : MNS F0 F), PP (ag_12 x1 x2 x3 F G) (fun _ F' _ => MNS F0 F')) (x1 : Int32) (x3 : Int32) (F : PF) (G : PG) (hM : MNS F0 F) : PP (mb_twice_56 fu ag_12 x1 x3 F G) (fun _ F' _ => MNS F0 F') := by
  unfold mb_twice_56
  exact nkj_twice_57 ag_12 hag_12 x1 x3 (0 : Int32) F G hM
theorem nkj_twice_37 {fu : Nat} {F0 : PF} (ag_12 : Int32 → Int32 → Int32 → PF → PG → PR) (hag_12 : ∀ (x1 : Int32) (x2 : Int32) (x3 : Int32) (F : PF) (G : PG) (hM : MNS F0 F), PP (ag_12 x1 x2 x3 F G) (fun _ F' _ => MNS F0 F')) (x1 : Int32) (x3 : Int32) (F : PF) (G : PG) (hM : MNS F0 F) : PP (mb_twice_37 fu ag_12 x1 x3 F G) (fun _ F' _ => MNS F0 F') := by
  unfold mb_twice_37
  refine PP.ix (fun _ => ?_)
  refine PP.ix (fun _ => ?_)
  refine PP.ite (fun c_1 => ?_) (fun c_1 => ?_)
  · skip
    exact nkj_twice_52 ag_12 hag_12 x1 x3 F G hM
  · skip
    exact nkj_twice_56 ag_12 hag_12 x1 x3 F G hM
theorem nkj_twice_24 {fu : Nat} {F0 : PF} (ag_12 : Int32 → Int32 → Int32 → PF → PG → PR) (hag_12 : ∀ (x1 : Int32) (x2 : Int32) (x3 : Int32) (F : PF) (G : PG) (hM : MNS F0 F), PP (ag_12 x1 x2 x3 F G) (fun _ F' _ => MNS F0 F')) (x1 : Int32) (x3 : Int32) (F : PF) (G : PG) (hM : MNS F0 F) : PP (mb_twice_24 fu ag_12 x1 x3 F G) (fun _ F' _ => MNS F0 F') := by
  unfold mb_twice_24
  refine PP.ix (fun _ => ?_)
  refine PP.ite (fun c_1 => ?_) (fun c_1 => ?_)
  · skip
    exact nkj_twice_37 ag_12 hag_12 x1 x3 F G hM
  · skip
    exact nkj_twice_56 ag_12 hag_12 x1 x3 F G hM
theorem nkj_twice_20 {fu : Nat} {F0 : PF} (ag_12 : Int32 → Int32 → Int32 → PF → PG → PR) (hag_12 : ∀ (x1 : Int32) (x2 : Int32) (x3 : Int32) (F : PF) (G : PG) (hM : MNS F0 F), PP (ag_12 x1 x2 x3 F G) (fun _ F' _ => MNS F0 F')) (x1 : Int32) (x2 : Int32) (x3 : Int32) (F : PF) (G : PG) (hM : MNS F0 F) : PP (mb_twice_20 fu ag_12 x1 x2 x3 F G) (fun _ F' _ => MNS F0 F') := by
  unfold mb_twice_20
  refine PP.ite (fun c_1 => ?_) (fun c_1 => ?_)
  · skip
    exact nkj_twice_24 ag_12 hag_12 x1 x3 F G hM
  · skip
    exact nkj_twice_52 ag_12 hag_12 x1 x3 F G hM
theorem nkz_twice_12 {fu : Nat} {F0 : PF} : ∀ (n : Nat) (x1 : Int32) (x2 : Int32) (x3 : Int32) (F : PF) (G : PG) (hM : MNS F0 F), PP (ml_twice_12 fu n x1 x2 x3 F G) (fun _ F' _ => MNS F0 F') := by
  intro n
  induction n with
  | zero =>
    intro x1 x2 x3 F G hM
    exact PP.no
  | succ n ihn =>
    intro x1 x2 x3 F G hM
    show PP (mb_twice_12 fu (ml_twice_12 fu n) x1 x2 x3 F G) _
    unfold mb_twice_12
    refine PP.ite (fun c_1 => ?_) (fun c_1 => ?_)
    · skip
      exact nkj_twice_64 x1 x2 F G hM
    · skip
      exact nkj_twice_20 (ml_twice_12 fu n) ihn x1 x2 x3 F G hM
theorem nkj_twice_8 {fu : Nat} {F0 : PF} (x1 : Int32) (F : PF) (G : PG) (hM : MNS F0 F) : PP (mb_twice_8 fu x1 F G) (fun _ F' _ => MNS F0 F') := by
  unfold mb_twice_8
  exact nkz_twice_12 fu x1 (0 : Int32) (0 : Int32) F G hM
theorem nk_twice {fu : Nat} (x1 : Int32) (F : PF) (G : PG) : PP (mf_twice fu x1 F G) (fun _ F' _ => MNS F F') := by
  unfold mf_twice
  unfold mb_twice_0
  refine PP.ite (fun c_1 => ?_) (fun c_1 => ?_)
  · skip
    exact nkj_twice_7 F G MNS.rf
  · skip
    exact nkj_twice_8 x1 F G MNS.rf
theorem nkj_array_14 {fu : Nat} {F0 : PF} (F : PF) (G : PG) (hM : MNS F0 F) : PP (mb_array_14 fu F G) (fun _ F' _ => MNS F0 F') := by
  unfold mb_array_14
  refine PP.ret ?_
  exact hM
theorem nkj_array_30 {fu : Nat} {F0 : PF} (F : PF) (G : PG) (hM : MNS F0 F) : PP (mb_array_30 fu F G) (fun _ F' _ => MNS F0 F') := by
  unfold mb_array_30
  refine PP.ret ?_
  exact hM
theorem nkj_array_463 {fu : Nat} {F0 : PF} (F : PF) (G : PG) (hM : MNS F0 F) : PP (mb_array_463 fu F G) (fun _ F' _ => MNS F0 F') := by
  unfold mb_array_463
  refine PP.ret ?_
  exact hM
theorem nkj_array_459 {fu : Nat} {F0 : PF} (z0 : Int32) (z1 : Int32) (z2 : Int32) (z3 : Int32) (z4 : Int32) (F : PF) (G : PG) (hM : MNS F0 F) : PP (mb_array_459 fu z0 z1 z2 z3 z4 F G) (fun _ F' _ => MNS F0 F') := by
  unfold mb_array_459
  refine PP.bind (mw_declare z4 z3 z2 z1 z0 (0 : Int32) F G) ?_
  intro r1 F1 G1 hM1
  dsimp only
  exact nkj_array_463 F1 G1 (MNS.tr hM (MNS.kx hM1 rfl rfl rfl rfl))
theorem nkj_array_454 {fu : Nat} {F0 : PF} (z0 : Int32) (z1 : Int32) (z2 : Int32) (z3 : Int32) (F : PF) (G : PG) (hM : MNS F0 F) : PP (mb_array_454 fu z0 z1 z2 z3 F G) (fun _ F' _ => MNS F0 F') := by
  unfold mb_array_454
  exact nkj_array_459 (1 : Int32) z0 z1 z2 z3 F G hM
theorem nkj_array_458 {fu : Nat} {F0 : PF} (x3 : Int32) (z0 : Int32) (z1 : Int32) (z2 : Int32) (z3 : Int32) (F : PF) (G : PG) (hM : MNS F0 F) : PP (mb_array_458 fu x3 z0 z1 z2 z3 F G) (fun _ F' _ => MNS F0 F') := by
  unfold mb_array_458
  exact nkj_array_459 x3 z0 z1 z2 z3 F G hM
theorem nkj_array_443 {fu : Nat} {F0 : PF} (x1 : Int32) (x2 : Int32) (x3 : Int32) (x4 : Int32) (F : PF) (G : PG) (hM : MNS F0 F) : PP (mb_array_443 fu x1 x2 x3 x4 F G) (fun _ F' _ => MNS F0 F') := by
  unfold mb_array_443
  refine PP.ite (fun c_1 => ?_) (fun c_1 => ?_)
  · skip
    exact nkj_array_454 x4 x2 (2 : Int32) x1 F G hM
  · skip
    exact nkj_array_458 x3 x4 x2 (2 : Int32) x1 F G hM
theorem nkj_array_289 {fu : Nat} {F0 : PF} (F : PF) (G : PG) (hM : MNS F0 F) : PP (mb_array_289 fu F G) (fun _ F' _ => MNS F0 F') := by
  unfold mb_array_289
  refine PP.ret ?_
  exact hM
theorem nkj_array_441 {fu : Nat} {F0 : PF} (F : PF) (G : PG) (hM : MNS F0 F) : PP (mb_array_441 fu F G) (fun _ F' _ => MNS F0 F') := by
  unfold mb_array_441
  refine PP.ret ?_
  exact hM
theorem nkj_array_438 {fu : Nat} {F0 : PF} (x1 : Int32) (x2 : Int32) (x3 : Int32) (x4 : Int32) (z0 : Int32) (F : PF) (G : PG) (hM : MNS F0 F) : PP (mb_array_438 fu x1 x2 x3 x4 z0 F G) (fun _ F' _ => MNS F0 F') := by
  unfold mb_array_438
  refine PP.ite (fun c_1 => ?_) (fun c_1 => ?_)
  · skip
    exact nkj_array_441 F G hM
  · skip
    exact nkj_array_443 x1 x2 x3 x4 F G hM
theorem nkj_array_432 {fu : Nat} {F0 : PF} (x1 : Int32) (x2 : Int32) (x3 : Int32) (x4 : Int32) (F : PF) (G : PG) (hM : MNS F0 F) : PP (mb_array_432 fu x1 x2 x3 x4 F G) (fun _ F' _ => MNS F0 F') := by
  unfold mb_array_432
  refine PP.bind (nk_closeSign (27 : Int32) F G) ?_
  intro r1 F1 G1 hM1
  dsimp only
  exact nkj_array_438 x1 x2 x3 x4 r1 F1 G1 (MNS.tr hM hM1)
theorem nkj_array_429 {fu : Nat} {F0 : PF} (ag_297 : Int32 → Int32 → Int32 → Int32 → Int32 → Int32 → Int32 → PF → PG → PR) (hag_297 : ∀ (x1 : Int32) (x2 : Int32) (x3 : Int32) (x4 : Int32) (x7 : Int32) (x8 : Int32) (x9 : Int32) (F : PF) (G : PG) (hM : MNS F0 F), PP (ag_297 x1 x2 x3 x4 x7 x8 x9 F G) (fun _ F' _ => MNS F0 F')) (x1 : Int32) (x2 : Int32) (x3 : Int32) (x4 : Int32) (x7 : Int32) (x8 : Int32) (x9 : Int32) (F : PF) (G : PG) (hM : MNS F0 F) : PP (mb_array_429 fu ag_297 x1 x2 x3 x4 x7 x8 x9 F G) (fun _ F' _ => MNS F0 F') := by
  unfold mb_array_429
  exact hag_297 x1 x2 x3 x4 x7 x8 x9 F G hM
theorem nkj_array_425 {fu : Nat} {F0 : PF} (ag_297 : Int32 → Int32 → Int32 → Int32 → Int32 → Int32 → Int32 → PF → PG → PR) (hag_297 : ∀ (x1 : Int32) (x2 : Int32) (x3 : Int32) (x4 : Int32) (x7 : Int32) (x8 : Int32) (x9 : Int32) (F : PF) (G : PG) (hM : MNS F0 F), PP (ag_297 x1 x2 x3 x4 x7 x8 x9 F G) (fun _ F' _ => MNS F0 F')) (x1 : Int32) (x2 : Int32) (x3 : Int32) (x4 : Int32) (x7 : Int32) (x8 : Int32) (x9 : Int32) (z0 : Int32) (z1 : Int32) (F : PF) (G : PG) (hM : MNS F0 F) : PP (mb_array_425 fu ag_297 x1 x2 x3 x4 x7 x8 x9 z0 z1 F G) (fun _ F' _ => MNS F0 F') := by
  unfold mb_array_425
  exact nkj_array_429 ag_297 hag_297 x1 x2 x3 x4 x7 x8 x9 (fup F 42 (z1 + z0)) G (MNS.f (k := 42) rfl hM)
theorem nkj_array_424 {fu : Nat} {F0 : PF} (ag_297 : Int32 → Int32 → Int32 → Int32 → Int32 → Int32 → Int32 → PF → PG → PR) (hag_297 : ∀ (x1 : Int32) (x2 : Int32) (x3 : Int32) (x4 : Int32) (x7 : Int32) (x8 : Int32) (x9 : Int32) (F : PF) (G : PG) (hM : MNS F0 F), PP (ag_297 x1 x2 x3 x4 x7 x8 x9 F G) (fun _ F' _ => MNS F0 F')) (x1 : Int32) (x2 : Int32) (x3 : Int32) (x4 : Int32) (x7 : Int32) (x8 : Int32) (x9 : Int32) (z0 : Int32) (F : PF) (G : PG) (hM : MNS F0 F) : PP (mb_array_424 fu ag_297 x1 x2 x3 x4 x7 x8 x9 z0 F G) (fun _ F' _ => MNS F0 F') := by
  unfold mb_array_424
  exact nkj_array_425 ag_297 hag_297 x1 x2 x3 x4 x7 x8 x9 (0 : Int32) z0 F G hM
theorem nkj_array_420 {fu : Nat} {F0 : PF} (ag_297 : Int32 → Int32 → Int32 → Int32 → Int32 → Int32 → Int32 → PF → PG → PR) (hag_297 : ∀ (x1 : Int32) (x2 : Int32) (x3 : Int32) (x4 : Int32) (x7 : Int32) (x8 : Int32) (x9 : Int32) (F : PF) (G : PG) (hM : MNS F0 F), PP (ag_297 x1 x2 x3 x4 x7 x8 x9 F G) (fun _ F' _ => MNS F0 F')) (x1 : Int32) (x2 : Int32) (x3 : Int32) (x4 : Int32) (x7 : Int32) (x8 : Int32) (x9 : Int32) (z0 : Int32) (F : PF) (G : PG) (hM : MNS F0 F) : PP (mb_array_420 fu ag_297 x1 x2 x3 x4 x7 x8 x9 z0 F G) (fun _ F' _ => MNS F0 F') := by
  unfold mb_array_420
  exact nkj_array_425 ag_297 hag_297 x1 x2 x3 x4 x7 x8 x9 (1 : Int32) z0 F G hM
theorem nkj_array_408 {fu : Nat} {F0 : PF} (ag_297 : Int32 → Int32 → Int32 → Int32 → Int32 → Int32 → Int32 → PF → PG → PR) (hag_297 : ∀ (x1 : Int32) (x2 : Int32) (x3 : Int32) (x4 : Int32) (x7 : Int32) (x8 : Int32) (x9 : Int32) (F : PF) (G : PG) (hM : MNS F0 F), PP (ag_297 x1 x2 x3 x4 x7 x8 x9 F G) (fun _ F' _ => MNS F0 F')) (x1 : Int32) (x2 : Int32) (x3 : Int32) (x4 : Int32) (x7 : Int32) (x8 : Int32) (z0 : Int32) (F : PF) (G : PG) (hM : MNS F0 F) : PP (mb_array_408 fu ag_297 x1 x2 x3 x4 x7 x8 z0 F G) (fun _ F' _ => MNS F0 F') := by
  unfold mb_array_408
  refine PP.ite (fun c_1 => ?_) (fun c_1 => ?_)
  · skip
    exact nkj_array_424 ag_297 hag_297 x1 x2 x3 x4 x7 x8 z0 (F 42) F G hM
  · skip
    exact nkj_array_420 ag_297 hag_297 x1 x2 x3 x4 x7 x8 z0 (F 42) F G hM
theorem nkj_array_407 {fu : Nat} {F0 : PF} (ag_297 : Int32 → Int32 → Int32 → Int32 → Int32 → Int32 → Int32 → PF → PG → PR) (hag_297 : ∀ (x1 : Int32) (x2 : Int32) (x3 : Int32) (x4 : Int32) (x7 : Int32) (x8 : Int32) (x9 : Int32) (F : PF) (G : PG) (hM : MNS F0 F), PP (ag_297 x1 x2 x3 x4 x7 x8 x9 F G) (fun _ F' _ => MNS F0 F')) (x1 : Int32) (x2 : Int32) (x3 : Int32) (x4 : Int32) (x7 : Int32) (x8 : Int32) (F : PF) (G : PG) (hM : MNS F0 F) : PP (mb_array_407 fu ag_297 x1 x2 x3 x4 x7 x8 F G) (fun _ F' _ => MNS F0 F') := by
  unfold mb_array_407
  exact nkj_array_408 ag_297 hag_297 x1 x2 x3 x4 x7 x8 (0 : Int32) F G hM
theorem nkj_array_403 {fu : Nat} {F0 : PF} (ag_297 : Int32 → Int32 → Int32 → Int32 → Int32 → Int32 → Int32 → PF → PG → PR) (hag_297 : ∀ (x1 : Int32) (x2 : Int32) (x3 : Int32) (x4 : Int32) (x7 : Int32) (x8 : Int32) (x9 : Int32) (F : PF) (G : PG) (hM : MNS F0 F), PP (ag_297 x1 x2 x3 x4 x7 x8 x9 F G) (fun _ F' _ => MNS F0 F')) (x1 : Int32) (x2 : Int32) (x3 : Int32) (x4 : Int32) (x7 : Int32) (x8 : Int32) (F : PF) (G : PG) (hM : MNS F0 F) : PP (mb_array_403 fu ag_297 x1 x2 x3 x4 x7 x8 F G) (fun _ F' _ => MNS F0 F') := by
  unfold mb_array_403
  exact nkj_array_408 ag_297 hag_297 x1 x2 x3 x4 x7 x8 (1 : Int32) F G hM
theorem nkj_array_400 {fu : Nat} {F0 : PF} (ag_297 : Int32 → Int32 → Int32 → Int32 → Int32 → Int32 → Int32 → PF → PG → PR) (hag_297 : ∀ (x1 : Int32) (x2 : Int32) (x3 : Int32) (x4 : Int32) (x7 : Int32) (x8 : Int32) (x9 : Int32) (F : PF) (G : PG) (hM : MNS F0 F), PP (ag_297 x1 x2 x3 x4 x7 x8 x9 F G) (fun _ F' _ => MNS F0 F')) (x1 : Int32) (x2 : Int32) (x3 : Int32) (x4 : Int32) (x7 : Int32) (x8 : Int32) (z0 : Int32) (F : PF) (G : PG) (hM : MNS F0 F) : PP (mb_array_400 fu ag_297 x1 x2 x3 x4 x7 x8 z0 F G) (fun _ F' _ => MNS F0 F') := by
  unfold mb_array_400
  refine PP.ite (fun c_1 => ?_) (fun c_1 => ?_)
  · skip
    exact nkj_array_407 ag_297 hag_297 x1 x2 x3 x4 x7 x8 F G hM
  · skip
    exact nkj_array_403 ag_297 hag_297 x1 x2 x3 x4 x7 x8 F G hM
theorem nkj_array_394 {fu : Nat} {F0 : PF} (ag_297 : Int32 → Int32 → Int32 → Int32 → Int32 → Int32 → Int32 → PF → PG → PR) (hag_297 : ∀ (x1 : Int32) (x2 : Int32) (x3 : Int32) (x4 : Int32) (x7 : Int32) (x8 : Int32) (x9 : Int32) (F : PF) (G : PG) (hM : MNS F0 F), PP (ag_297 x1 x2 x3 x4 x7 x8 x9 F G) (fun _ F' _ => MNS F0 F')) (x1 : Int32) (x2 : Int32) (x3 : Int32) (x4 : Int32) (x7 : Int32) (x8 : Int32) (F : PF) (G : PG) (hM : MNS F0 F) : PP (mb_array_394 fu ag_297 x1 x2 x3 x4 x7 x8 F G) (fun _ F' _ => MNS F0 F') := by
  unfold mb_array_394
  refine PP.bind (mw_isSign (28 : Int32) F G) ?_
  intro r1 F1 G1 hM1
  dsimp only
  exact nkj_array_400 ag_297 hag_297 x1 x2 x3 x4 x7 x8 r1 F1 G1 (MNS.tr hM (MNS.kx hM1 rfl rfl rfl rfl))
