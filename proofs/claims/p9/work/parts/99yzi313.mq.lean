theorem nqj_counted_56 {fu : Nat} (rc : RC) (ihQ : nqI rc) {F0 : PF} (x1 : Int32) (z0 : Int32) (F : PF) (G : PG) (hM : MFS F0 F) : PP (mb_counted_56 fu rc x1 z0 F G) (fun _ F' _ => MFS F0 F') := by
  unfold mb_counted_56
  refine PP.ite (fun c_1 => ?_) (fun c_1 => ?_)
  · skip
    exact nqj_counted_61 rc ihQ F G hM
  · skip
    exact nqj_counted_63 rc ihQ x1 F G hM
theorem nqj_counted_52 {fu : Nat} (rc : RC) (ihQ : nqI rc) {F0 : PF} (x1 : Int32) (F : PF) (G : PG) (hM : MFS F0 F) : PP (mb_counted_52 fu rc x1 F G) (fun _ F' _ => MFS F0 F') := by
  unfold mb_counted_52
  refine PP.bind (nq_simple F G) ?_
  intro r1 F1 G1 hM1
  dsimp only
  exact nqj_counted_56 rc ihQ x1 r1 F1 G1 (MFS.tr hM hM1)
theorem nqj_counted_49 {fu : Nat} (rc : RC) (ihQ : nqI rc) {F0 : PF} (x1 : Int32) (z0 : Int32) (F : PF) (G : PG) (hM : MFS F0 F) : PP (mb_counted_49 fu rc x1 z0 F G) (fun _ F' _ => MFS F0 F') := by
  unfold mb_counted_49
  exact nqj_counted_56 rc ihQ x1 z0 F G hM
theorem nqj_counted_44 {fu : Nat} (rc : RC) (ihQ : nqI rc) {F0 : PF} (x1 : Int32) (F : PF) (G : PG) (hM : MFS F0 F) : PP (mb_counted_44 fu rc x1 F G) (fun _ F' _ => MFS F0 F') := by
  unfold mb_counted_44
  refine PP.bind (nq_tellHere (0 : Int32) F G) ?_
  intro r1 F1 G1 hM1
  dsimp only
  exact nqj_counted_49 rc ihQ x1 r1 F1 G1 (MFS.tr hM hM1)
theorem nqj_counted_41 {fu : Nat} (rc : RC) (ihQ : nqI rc) {F0 : PF} (x1 : Int32) (z0 : Int32) (F : PF) (G : PG) (hM : MFS F0 F) : PP (mb_counted_41 fu rc x1 z0 F G) (fun _ F' _ => MFS F0 F') := by
  unfold mb_counted_41
  refine PP.ite (fun c_1 => ?_) (fun c_1 => ?_)
  · skip
    exact nqj_counted_52 rc ihQ x1 F G hM
  · skip
    exact nqj_counted_44 rc ihQ x1 F G hM
theorem nqj_counted_36 {fu : Nat} (rc : RC) (ihQ : nqI rc) {F0 : PF} (x1 : Int32) (F : PF) (G : PG) (hM : MFS F0 F) : PP (mb_counted_36 fu rc x1 F G) (fun _ F' _ => MFS F0 F') := by
  unfold mb_counted_36
  refine PP.bind (mw_isWord (0 : Int32) F G) ?_
  intro r1 F1 G1 hM1
  dsimp only
  exact nqj_counted_41 rc ihQ x1 r1 F1 G1 (MFS.tr hM (MFS.kx hM1 rfl rfl rfl rfl))
theorem nqj_counted_33 {fu : Nat} (rc : RC) (ihQ : nqI rc) {F0 : PF} (x1 : Int32) (z0 : Int32) (F : PF) (G : PG) (hM : MFS F0 F) : PP (mb_counted_33 fu rc x1 z0 F G) (fun _ F' _ => MFS F0 F') := by
  unfold mb_counted_33
  refine PP.ite (fun c_1 => ?_) (fun c_1 => ?_)
  · skip
    exact nqj_counted_36 rc ihQ x1 F G hM
  · skip
    exact nqj_counted_63 rc ihQ x1 F G hM
theorem nqj_counted_27 {fu : Nat} (rc : RC) (ihQ : nqI rc) {F0 : PF} (x1 : Int32) (F : PF) (G : PG) (hM : MFS F0 F) : PP (mb_counted_27 fu rc x1 F G) (fun _ F' _ => MFS F0 F') := by
  unfold mb_counted_27
  refine PP.bind (mw_isSign (29 : Int32) F G) ?_
  intro r1 F1 G1 hM1
  dsimp only
  exact nqj_counted_33 rc ihQ x1 r1 F1 G1 (MFS.tr hM (MFS.kx hM1 rfl rfl rfl rfl))
theorem nqj_counted_18 {fu : Nat} (rc : RC) (ihQ : nqI rc) {F0 : PF} (F : PF) (G : PG) (hM : MFS F0 F) : PP (mb_counted_18 fu rc F G) (fun _ F' _ => MFS F0 F') := by
  unfold mb_counted_18
  refine PP.bind (mw_begins F G) ?_
  intro r1 F1 G1 hM1
  dsimp only
  exact nqj_counted_27 rc ihQ (F 15) F1 G1 (MFS.tr hM (MFS.kx hM1 rfl rfl rfl rfl))
theorem nqj_counted_13 {fu : Nat} (rc : RC) (ihQ : nqI rc) {F0 : PF} (z0 : Int32) (F : PF) (G : PG) (hM : MFS F0 F) : PP (mb_counted_13 fu rc z0 F G) (fun _ F' _ => MFS F0 F') := by
  unfold mb_counted_13
  refine PP.ite (fun c_1 => ?_) (fun c_1 => ?_)
  · skip
    exact nqj_counted_16 rc ihQ F G hM
  · skip
    exact nqj_counted_18 rc ihQ F G hM
theorem nqj_counted_7 {fu : Nat} (rc : RC) (ihQ : nqI rc) {F0 : PF} (F : PF) (G : PG) (hM : MFS F0 F) : PP (mb_counted_7 fu rc F G) (fun _ F' _ => MFS F0 F') := by
  unfold mb_counted_7
  refine PP.bind (nq_openSign (22 : Int32) F G) ?_
  intro r1 F1 G1 hM1
  dsimp only
  exact nqj_counted_13 rc ihQ r1 F1 G1 (MFS.tr hM hM1)
theorem nqj_counted_4 {fu : Nat} (rc : RC) (ihQ : nqI rc) {F0 : PF} (z0 : Int32) (F : PF) (G : PG) (hM : MFS F0 F) : PP (mb_counted_4 fu rc z0 F G) (fun _ F' _ => MFS F0 F') := by
  unfold mb_counted_4
  refine PP.ite (fun c_1 => ?_) (fun c_1 => ?_)
  · skip
    exact nqj_counted_16 rc ihQ F G hM
  · skip
    exact nqj_counted_7 rc ihQ F G hM
theorem nqt_counted {fu : Nat} (rc : RC) (ihQ : nqI rc) (F : PF) (G : PG) : PP (mh_counted fu rc F G) (fun _ F' _ => MFS F F') := by
  unfold mh_counted
  unfold mb_counted_0
  refine PP.bind (nq_opens F G) ?_
  intro r1 F1 G1 hM1
  dsimp only
  exact nqj_counted_4 rc ihQ r1 F1 G1 (MFS.tr MFS.rf hM1)
theorem nqj_loop_19 {fu : Nat} (rc : RC) (ihQ : nqI rc) {F0 : PF} (F : PF) (G : PG) (hM : MFS F0 F) : PP (mb_loop_19 fu rc F G) (fun _ F' _ => MFS F0 F') := by
  unfold mb_loop_19
  refine PP.ret ?_
  exact hM
theorem nqj_loop_38 {fu : Nat} (rc : RC) (ihQ : nqI rc) {F0 : PF} (F : PF) (G : PG) (hM : MFS F0 F) : PP (mb_loop_38 fu rc F G) (fun _ F' _ => MFS F0 F') := by
  unfold mb_loop_38
  refine PP.ret ?_
  exact hM
theorem nqj_loop_83 {fu : Nat} (rc : RC) (ihQ : nqI rc) {F0 : PF} (F : PF) (G : PG) (hM : MFS F0 F) : PP (mb_loop_83 fu rc F G) (fun _ F' _ => MFS F0 F') := by
  unfold mb_loop_83
  refine PP.ret ?_
  exact hM
theorem nqj_loop_73 {fu : Nat} (rc : RC) (ihQ : nqI rc) {F0 : PF} (F : PF) (G : PG) (hM : MFS F0 F) : PP (mb_loop_73 fu rc F G) (fun _ F' _ => MFS F0 F') := by
  unfold mb_loop_73
  exact nqj_loop_83 rc ihQ (fup F 43 ((F 43) - (1 : Int32))) G (MFS.f (k := 43) rfl hM)
theorem nqj_loop_64 {fu : Nat} (rc : RC) (ihQ : nqI rc) {F0 : PF} (x3 : Int32) (F : PF) (G : PG) (hM : MFS F0 F) : PP (mb_loop_64 fu rc x3 F G) (fun _ F' _ => MFS F0 F') := by
  unfold mb_loop_64
  refine PP.bind (mw_settle x3 (F 60) F G) ?_
  intro r1 F1 G1 hM1
  dsimp only
  exact nqj_loop_73 rc ihQ F1 G1 (MFS.tr hM (MFS.kx hM1 rfl rfl rfl rfl))
theorem nqj_loop_53 {fu : Nat} (rc : RC) (ihQ : nqI rc) {F0 : PF} (x2 : Int32) (x3 : Int32) (z0 : Int32) (F : PF) (G : PG) (hM : MFS F0 F) : PP (mb_loop_53 fu rc x2 x3 z0 F G) (fun _ F' _ => MFS F0 F') := by
  unfold mb_loop_53
  refine PP.ix (fun _ => ?_)
  exact nqj_loop_64 rc ihQ x3 F (gup G 57 x2.toNatClampNeg (F 60)) hM
theorem nqj_loop_40 {fu : Nat} (rc : RC) (ihQ : nqI rc) {F0 : PF} (x1 : Int32) (x2 : Int32) (F : PF) (G : PG) (hM : MFS F0 F) : PP (mb_loop_40 fu rc x1 x2 F G) (fun _ F' _ => MFS F0 F') := by
  unfold mb_loop_40
  refine PP.bind (mw_step (12 : Int32) x1 (0 : Int32) F G) ?_
  intro r1 F1 G1 hM1
  dsimp only
  exact nqj_loop_53 rc ihQ x2 (F 65) r1 F1 G1 (MFS.tr hM (MFS.kx hM1 rfl rfl rfl rfl))
theorem nqj_loop_35 {fu : Nat} (rc : RC) (ihQ : nqI rc) {F0 : PF} (x1 : Int32) (x2 : Int32) (z0 : Int32) (F : PF) (G : PG) (hM : MFS F0 F) : PP (mb_loop_35 fu rc x1 x2 z0 F G) (fun _ F' _ => MFS F0 F') := by
  unfold mb_loop_35
  refine PP.ite (fun c_1 => ?_) (fun c_1 => ?_)
  · skip
    exact nqj_loop_38 rc ihQ F G hM
  · skip
    exact nqj_loop_40 rc ihQ x1 x2 F G hM
theorem nqj_loop_29 {fu : Nat} (rc : RC) (ihQ : nqI rc) {F0 : PF} (x1 : Int32) (z0 : Int32) (F : PF) (G : PG) (hM : MFS F0 F) : PP (mb_loop_29 fu rc x1 z0 F G) (fun _ F' _ => MFS F0 F') := by
  unfold mb_loop_29
  refine PP.bind (ihQ 1 x1 0 F G) ?_
  intro r1 F1 G1 hM1
  dsimp only
  exact nqj_loop_35 rc ihQ x1 z0 r1 F1 G1 (MFS.tr hM hM1)
theorem nqj_loop_21 {fu : Nat} (rc : RC) (ihQ : nqI rc) {F0 : PF} (x1 : Int32) (F : PF) (G : PG) (hM : MFS F0 F) : PP (mb_loop_21 fu rc x1 F G) (fun _ F' _ => MFS F0 F') := by
  unfold mb_loop_21
  refine PP.bind (mw_step (13 : Int32) (0 : Int32) (0 : Int32) F G) ?_
  intro r1 F1 G1 hM1
  dsimp only
  exact nqj_loop_29 rc ihQ x1 r1 F1 G1 (MFS.tr hM (MFS.kx hM1 rfl rfl rfl rfl))
theorem nqj_loop_16 {fu : Nat} (rc : RC) (ihQ : nqI rc) {F0 : PF} (x1 : Int32) (z0 : Int32) (F : PF) (G : PG) (hM : MFS F0 F) : PP (mb_loop_16 fu rc x1 z0 F G) (fun _ F' _ => MFS F0 F') := by
  unfold mb_loop_16
  refine PP.ite (fun c_1 => ?_) (fun c_1 => ?_)
  · skip
    exact nqj_loop_19 rc ihQ F G hM
  · skip
    exact nqj_loop_21 rc ihQ x1 F G hM
theorem nqj_loop_12 {fu : Nat} (rc : RC) (ihQ : nqI rc) {F0 : PF} (x1 : Int32) (F : PF) (G : PG) (hM : MFS F0 F) : PP (mb_loop_12 fu rc x1 F G) (fun _ F' _ => MFS F0 F') := by
  unfold mb_loop_12
  refine PP.bind (nq_condition F G) ?_
  intro r1 F1 G1 hM1
  dsimp only
  exact nqj_loop_16 rc ihQ x1 r1 F1 G1 (MFS.tr hM hM1)
theorem nqj_loop_9 {fu : Nat} (rc : RC) (ihQ : nqI rc) {F0 : PF} (x1 : Int32) (z0 : Int32) (F : PF) (G : PG) (hM : MFS F0 F) : PP (mb_loop_9 fu rc x1 z0 F G) (fun _ F' _ => MFS F0 F') := by
  unfold mb_loop_9
  refine PP.ite (fun c_1 => ?_) (fun c_1 => ?_)
  · skip
    exact nqj_loop_19 rc ihQ F G hM
  · skip
    exact nqj_loop_12 rc ihQ x1 F G hM
theorem nqt_loop {fu : Nat} (rc : RC) (ihQ : nqI rc) (F : PF) (G : PG) : PP (mh_loop fu rc F G) (fun _ F' _ => MFS F F') := by
  unfold mh_loop
  unfold mb_loop_0
  refine PP.bind (nq_opens F G) ?_
  intro r1 F1 G1 hM1
  dsimp only
  exact nqj_loop_9 rc ihQ (F 60) r1 F1 G1 (MFS.tr MFS.rf hM1)
theorem nqj_scoped_19 {fu : Nat} (rc : RC) (ihQ : nqI rc) {F0 : PF} (x2 : Int32) (F : PF) (G : PG) (hM : MFS F0 F) : PP (mb_scoped_19 fu rc x2 F G) (fun _ F' _ => MFS F0 F') := by
  unfold mb_scoped_19
  refine PP.bz (fun _ => ?_)
  refine PP.ret ?_
  exact hM
theorem nqj_scoped_13 {fu : Nat} (rc : RC) (ihQ : nqI rc) {F0 : PF} (x1 : Int32) (z0 : Int32) (F : PF) (G : PG) (hM : MFS F0 F) : PP (mb_scoped_13 fu rc x1 z0 F G) (fun _ F' _ => MFS F0 F') := by
  unfold mb_scoped_13
  refine PP.bind (mw_ends x1 F G) ?_
  intro r1 F1 G1 hM1
  dsimp only
  exact nqj_scoped_19 rc ihQ z0 F1 G1 (MFS.tr hM (MFS.kx hM1 rfl rfl rfl rfl))
theorem nqj_scoped_9 {fu : Nat} (rc : RC) (ihQ : nqI rc) {F0 : PF} (x1 : Int32) (F : PF) (G : PG) (hM : MFS F0 F) : PP (mb_scoped_9 fu rc x1 F G) (fun _ F' _ => MFS F0 F') := by
  unfold mb_scoped_9
  refine PP.bind (ihQ 6 0 0 F G) ?_
  intro r1 F1 G1 hM1
  dsimp only
  exact nqj_scoped_13 rc ihQ x1 r1 F1 G1 (MFS.tr hM hM1)
theorem nqt_scoped {fu : Nat} (rc : RC) (ihQ : nqI rc) (F : PF) (G : PG) : PP (mh_scoped fu rc F G) (fun _ F' _ => MFS F F') := by
  unfold mh_scoped
  unfold mb_scoped_0
  refine PP.bind (mw_begins F G) ?_
  intro r1 F1 G1 hM1
  dsimp only
  exact nqj_scoped_9 rc ihQ (F 15) F1 G1 (MFS.tr MFS.rf (MFS.kx hM1 rfl rfl rfl rfl))
theorem nqj_statement_80 {fu : Nat} (rc : RC) (ihQ : nqI rc) {F0 : PF} (z0 : Int32) (F : PF) (G : PG) (hM : MFS F0 F) : PP (mb_statement_80 fu rc z0 F G) (fun _ F' _ => MFS F0 F') := by
  unfold mb_statement_80
  refine PP.bz (fun _ => ?_)
  refine PP.ret ?_
  exact hM
theorem nqj_statement_79 {fu : Nat} (rc : RC) (ihQ : nqI rc) {F0 : PF} (F : PF) (G : PG) (hM : MFS F0 F) : PP (mb_statement_79 fu rc F G) (fun _ F' _ => MFS F0 F') := by
  unfold mb_statement_79
  exact nqj_statement_80 rc ihQ (0 : Int32) F G hM
theorem nqj_statement_75 {fu : Nat} (rc : RC) (ihQ : nqI rc) {F0 : PF} (F : PF) (G : PG) (hM : MFS F0 F) : PP (mb_statement_75 fu rc F G) (fun _ F' _ => MFS F0 F') := by
  unfold mb_statement_75
  exact nqj_statement_80 rc ihQ (1 : Int32) F G hM
theorem nqj_statement_72 {fu : Nat} (rc : RC) (ihQ : nqI rc) {F0 : PF} (z0 : Int32) (F : PF) (G : PG) (hM : MFS F0 F) : PP (mb_statement_72 fu rc z0 F G) (fun _ F' _ => MFS F0 F') := by
  unfold mb_statement_72
  refine PP.ite (fun c_1 => ?_) (fun c_1 => ?_)
  · skip
    exact nqj_statement_79 rc ihQ F G hM
  · skip
    exact nqj_statement_75 rc ihQ F G hM
theorem nqj_statement_66 {fu : Nat} (rc : RC) (ihQ : nqI rc) {F0 : PF} (F : PF) (G : PG) (hM : MFS F0 F) : PP (mb_statement_66 fu rc F G) (fun _ F' _ => MFS F0 F') := by
  unfold mb_statement_66
  refine PP.bind (nq_sign (29 : Int32) F G) ?_
  intro r1 F1 G1 hM1
  dsimp only
  exact nqj_statement_72 rc ihQ r1 F1 G1 (MFS.tr hM hM1)
theorem nqj_statement_63 {fu : Nat} (rc : RC) (ihQ : nqI rc) {F0 : PF} (z0 : Int32) (F : PF) (G : PG) (hM : MFS F0 F) : PP (mb_statement_63 fu rc z0 F G) (fun _ F' _ => MFS F0 F') := by
  unfold mb_statement_63
  refine PP.ite (fun c_1 => ?_) (fun c_1 => ?_)
  · skip
    exact nqj_statement_79 rc ihQ F G hM
  · skip
    exact nqj_statement_66 rc ihQ F G hM
theorem nqj_statement_59 {fu : Nat} (rc : RC) (ihQ : nqI rc) {F0 : PF} (F : PF) (G : PG) (hM : MFS F0 F) : PP (mb_statement_59 fu rc F G) (fun _ F' _ => MFS F0 F') := by
  unfold mb_statement_59
  refine PP.bind (nq_simple F G) ?_
  intro r1 F1 G1 hM1
  dsimp only
  exact nqj_statement_63 rc ihQ r1 F1 G1 (MFS.tr hM hM1)
theorem nqj_statement_311 {fu : Nat} (rc : RC) (ihQ : nqI rc) {F0 : PF} (z0 : Int32) (F : PF) (G : PG) (hM : MFS F0 F) : PP (mb_statement_311 fu rc z0 F G) (fun _ F' _ => MFS F0 F') := by
  unfold mb_statement_311
  refine PP.bz (fun _ => ?_)
  refine PP.ret ?_
  exact hM
theorem nqj_statement_306 {fu : Nat} (rc : RC) (ihQ : nqI rc) {F0 : PF} (F : PF) (G : PG) (hM : MFS F0 F) : PP (mb_statement_306 fu rc F G) (fun _ F' _ => MFS F0 F') := by
  unfold mb_statement_306
  refine PP.bind (nq_fails (2 : Int32) (by decide) F G) ?_
  intro r1 F1 G1 hM1
  dsimp only
  exact nqj_statement_311 rc ihQ r1 F1 G1 (MFS.tr hM hM1)
theorem nqj_statement_206 {fu : Nat} (rc : RC) (ihQ : nqI rc) {F0 : PF} (z0 : Int32) (F : PF) (G : PG) (hM : MFS F0 F) : PP (mb_statement_206 fu rc z0 F G) (fun _ F' _ => MFS F0 F') := by
  unfold mb_statement_206
  refine PP.bz (fun _ => ?_)
  refine PP.ret ?_
  exact hM
theorem nqj_statement_205 {fu : Nat} (rc : RC) (ihQ : nqI rc) {F0 : PF} (F : PF) (G : PG) (hM : MFS F0 F) : PP (mb_statement_205 fu rc F G) (fun _ F' _ => MFS F0 F') := by
  unfold mb_statement_205
  exact nqj_statement_206 rc ihQ (0 : Int32) F G hM
theorem nqj_statement_201 {fu : Nat} (rc : RC) (ihQ : nqI rc) {F0 : PF} (F : PF) (G : PG) (hM : MFS F0 F) : PP (mb_statement_201 fu rc F G) (fun _ F' _ => MFS F0 F') := by
  unfold mb_statement_201
  exact nqj_statement_206 rc ihQ (1 : Int32) F G hM
theorem nqj_statement_198 {fu : Nat} (rc : RC) (ihQ : nqI rc) {F0 : PF} (z0 : Int32) (F : PF) (G : PG) (hM : MFS F0 F) : PP (mb_statement_198 fu rc z0 F G) (fun _ F' _ => MFS F0 F') := by
  unfold mb_statement_198
  refine PP.ite (fun c_1 => ?_) (fun c_1 => ?_)
  · skip
    exact nqj_statement_205 rc ihQ F G hM
  · skip
    exact nqj_statement_201 rc ihQ F G hM
theorem nqj_statement_192 {fu : Nat} (rc : RC) (ihQ : nqI rc) {F0 : PF} (F : PF) (G : PG) (hM : MFS F0 F) : PP (mb_statement_192 fu rc F G) (fun _ F' _ => MFS F0 F') := by
  unfold mb_statement_192
  refine PP.bind (nq_sign (29 : Int32) F G) ?_
  intro r1 F1 G1 hM1
  dsimp only
  exact nqj_statement_198 rc ihQ r1 F1 G1 (MFS.tr hM hM1)
theorem nqj_statement_189 {fu : Nat} (rc : RC) (ihQ : nqI rc) {F0 : PF} (z0 : Int32) (F : PF) (G : PG) (hM : MFS F0 F) : PP (mb_statement_189 fu rc z0 F G) (fun _ F' _ => MFS F0 F') := by
  unfold mb_statement_189
  refine PP.ite (fun c_1 => ?_) (fun c_1 => ?_)
  · skip
    exact nqj_statement_205 rc ihQ F G hM
  · skip
    exact nqj_statement_192 rc ihQ F G hM
theorem nqj_statement_184 {fu : Nat} (rc : RC) (ihQ : nqI rc) {F0 : PF} (F : PF) (G : PG) (hM : MFS F0 F) : PP (mb_statement_184 fu rc F G) (fun _ F' _ => MFS F0 F') := by
  unfold mb_statement_184
  refine PP.bind (nq_tellHere (1 : Int32) F G) ?_
  intro r1 F1 G1 hM1
  dsimp only
  exact nqj_statement_189 rc ihQ r1 F1 G1 (MFS.tr hM hM1)
theorem nqj_statement_211 {fu : Nat} (rc : RC) (ihQ : nqI rc) {F0 : PF} (z0 : Int32) (F : PF) (G : PG) (hM : MFS F0 F) : PP (mb_statement_211 fu rc z0 F G) (fun _ F' _ => MFS F0 F') := by
  unfold mb_statement_211
  refine PP.bz (fun _ => ?_)
  refine PP.ret ?_
  exact hM
theorem nqj_statement_207 {fu : Nat} (rc : RC) (ihQ : nqI rc) {F0 : PF} (F : PF) (G : PG) (hM : MFS F0 F) : PP (mb_statement_207 fu rc F G) (fun _ F' _ => MFS F0 F') := by
  unfold mb_statement_207
  refine PP.bind (ihQ 2 0 0 F G) ?_
  intro r1 F1 G1 hM1
  dsimp only
  exact nqj_statement_211 rc ihQ r1 F1 G1 (MFS.tr hM hM1)
theorem nqj_statement_216 {fu : Nat} (rc : RC) (ihQ : nqI rc) {F0 : PF} (z0 : Int32) (F : PF) (G : PG) (hM : MFS F0 F) : PP (mb_statement_216 fu rc z0 F G) (fun _ F' _ => MFS F0 F') := by
  unfold mb_statement_216
  refine PP.bz (fun _ => ?_)
  refine PP.ret ?_
  exact hM
theorem nqj_statement_212 {fu : Nat} (rc : RC) (ihQ : nqI rc) {F0 : PF} (F : PF) (G : PG) (hM : MFS F0 F) : PP (mb_statement_212 fu rc F G) (fun _ F' _ => MFS F0 F') := by
  unfold mb_statement_212
  refine PP.bind (ihQ 4 0 0 F G) ?_
  intro r1 F1 G1 hM1
  dsimp only
  exact nqj_statement_216 rc ihQ r1 F1 G1 (MFS.tr hM hM1)
theorem nqj_statement_221 {fu : Nat} (rc : RC) (ihQ : nqI rc) {F0 : PF} (z0 : Int32) (F : PF) (G : PG) (hM : MFS F0 F) : PP (mb_statement_221 fu rc z0 F G) (fun _ F' _ => MFS F0 F') := by
  unfold mb_statement_221
  refine PP.bz (fun _ => ?_)
  refine PP.ret ?_
  exact hM
theorem nqj_statement_217 {fu : Nat} (rc : RC) (ihQ : nqI rc) {F0 : PF} (F : PF) (G : PG) (hM : MFS F0 F) : PP (mb_statement_217 fu rc F G) (fun _ F' _ => MFS F0 F') := by
  unfold mb_statement_217
  refine PP.bind (ihQ 7 0 0 F G) ?_
  intro r1 F1 G1 hM1
  dsimp only
  exact nqj_statement_221 rc ihQ r1 F1 G1 (MFS.tr hM hM1)
theorem nqj_statement_226 {fu : Nat} (rc : RC) (ihQ : nqI rc) {F0 : PF} (z0 : Int32) (F : PF) (G : PG) (hM : MFS F0 F) : PP (mb_statement_226 fu rc z0 F G) (fun _ F' _ => MFS F0 F') := by
  unfold mb_statement_226
  refine PP.bz (fun _ => ?_)
  refine PP.ret ?_
  exact hM
theorem nqj_statement_222 {fu : Nat} (rc : RC) (ihQ : nqI rc) {F0 : PF} (F : PF) (G : PG) (hM : MFS F0 F) : PP (mb_statement_222 fu rc F G) (fun _ F' _ => MFS F0 F') := by
  unfold mb_statement_222
  refine PP.bind (ihQ 3 0 0 F G) ?_
  intro r1 F1 G1 hM1
  dsimp only
  exact nqj_statement_226 rc ihQ r1 F1 G1 (MFS.tr hM hM1)
theorem nqj_statement_231 {fu : Nat} (rc : RC) (ihQ : nqI rc) {F0 : PF} (z0 : Int32) (F : PF) (G : PG) (hM : MFS F0 F) : PP (mb_statement_231 fu rc z0 F G) (fun _ F' _ => MFS F0 F') := by
  unfold mb_statement_231
  refine PP.bz (fun _ => ?_)
  refine PP.ret ?_
  exact hM
theorem nqj_statement_227 {fu : Nat} (rc : RC) (ihQ : nqI rc) {F0 : PF} (F : PF) (G : PG) (hM : MFS F0 F) : PP (mb_statement_227 fu rc F G) (fun _ F' _ => MFS F0 F') := by
  unfold mb_statement_227
  refine PP.bind (nq_leaves F G) ?_
  intro r1 F1 G1 hM1
  dsimp only
  exact nqj_statement_231 rc ihQ r1 F1 G1 (MFS.tr hM hM1)
theorem nqj_statement_236 {fu : Nat} (rc : RC) (ihQ : nqI rc) {F0 : PF} (z0 : Int32) (F : PF) (G : PG) (hM : MFS F0 F) : PP (mb_statement_236 fu rc z0 F G) (fun _ F' _ => MFS F0 F') := by
  unfold mb_statement_236
  refine PP.bz (fun _ => ?_)
  refine PP.ret ?_
  exact hM
theorem nqj_statement_232 {fu : Nat} (rc : RC) (ihQ : nqI rc) {F0 : PF} (F : PF) (G : PG) (hM : MFS F0 F) : PP (mb_statement_232 fu rc F G) (fun _ F' _ => MFS F0 F') := by
  unfold mb_statement_232
  refine PP.bind (nq_returns F G) ?_
  intro r1 F1 G1 hM1
  dsimp only
  exact nqj_statement_236 rc ihQ r1 F1 G1 (MFS.tr hM hM1)
theorem nqj_statement_289 {fu : Nat} (rc : RC) (ihQ : nqI rc) {F0 : PF} (F : PF) (G : PG) (hM : MFS F0 F) : PP (mb_statement_289 fu rc F G) (fun _ F' _ => MFS F0 F') := by
  unfold mb_statement_289
  refine PP.ret ?_
  exact hM
theorem nqj_statement_305 {fu : Nat} (rc : RC) (ihQ : nqI rc) {F0 : PF} (z0 : Int32) (F : PF) (G : PG) (hM : MFS F0 F) : PP (mb_statement_305 fu rc z0 F G) (fun _ F' _ => MFS F0 F') := by
  unfold mb_statement_305
  refine PP.bz (fun _ => ?_)
  refine PP.ret ?_
  exact hM
theorem nqj_statement_298 {fu : Nat} (rc : RC) (ihQ : nqI rc) {F0 : PF} (z0 : Int32) (F : PF) (G : PG) (hM : MFS F0 F) : PP (mb_statement_298 fu rc z0 F G) (fun _ F' _ => MFS F0 F') := by
  unfold mb_statement_298
  refine PP.bind (nq_sign (29 : Int32) F G) ?_
  intro r1 F1 G1 hM1
  dsimp only
  exact nqj_statement_305 rc ihQ r1 F1 G1 (MFS.tr hM hM1)
theorem nqj_statement_291 {fu : Nat} (rc : RC) (ihQ : nqI rc) {F0 : PF} (x1 : Int32) (F : PF) (G : PG) (hM : MFS F0 F) : PP (mb_statement_291 fu rc x1 F G) (fun _ F' _ => MFS F0 F') := by
  unfold mb_statement_291
  refine PP.bind (mw_step x1 (0 : Int32) (0 : Int32) F G) ?_
  intro r1 F1 G1 hM1
  dsimp only
  exact nqj_statement_298 rc ihQ r1 F1 G1 (MFS.tr hM (MFS.kx hM1 rfl rfl rfl rfl))
theorem nqj_statement_286 {fu : Nat} (rc : RC) (ihQ : nqI rc) {F0 : PF} (x1 : Int32) (z0 : Int32) (F : PF) (G : PG) (hM : MFS F0 F) : PP (mb_statement_286 fu rc x1 z0 F G) (fun _ F' _ => MFS F0 F') := by
  unfold mb_statement_286
  refine PP.ite (fun c_1 => ?_) (fun c_1 => ?_)
  · skip
    exact nqj_statement_289 rc ihQ F G hM
  · skip
    exact nqj_statement_291 rc ihQ x1 F G hM
theorem nqj_statement_280 {fu : Nat} (rc : RC) (ihQ : nqI rc) {F0 : PF} (x1 : Int32) (F : PF) (G : PG) (hM : MFS F0 F) : PP (mb_statement_280 fu rc x1 F G) (fun _ F' _ => MFS F0 F') := by
  unfold mb_statement_280
  refine PP.bind (nq_closeSign (23 : Int32) F G) ?_
  intro r1 F1 G1 hM1
  dsimp only
  exact nqj_statement_286 rc ihQ x1 r1 F1 G1 (MFS.tr hM hM1)
theorem nqj_statement_277 {fu : Nat} (rc : RC) (ihQ : nqI rc) {F0 : PF} (x1 : Int32) (z0 : Int32) (F : PF) (G : PG) (hM : MFS F0 F) : PP (mb_statement_277 fu rc x1 z0 F G) (fun _ F' _ => MFS F0 F') := by
  unfold mb_statement_277
  refine PP.ite (fun c_1 => ?_) (fun c_1 => ?_)
  · skip
    exact nqj_statement_289 rc ihQ F G hM
  · skip
    exact nqj_statement_280 rc ihQ x1 F G hM
theorem nqj_statement_273 {fu : Nat} (rc : RC) (ihQ : nqI rc) {F0 : PF} (x1 : Int32) (F : PF) (G : PG) (hM : MFS F0 F) : PP (mb_statement_273 fu rc x1 F G) (fun _ F' _ => MFS F0 F') := by
  unfold mb_statement_273
  refine PP.bind (nq_expression F G) ?_
  intro r1 F1 G1 hM1
  dsimp only
  exact nqj_statement_277 rc ihQ x1 r1 F1 G1 (MFS.tr hM hM1)
theorem nqj_statement_270 {fu : Nat} (rc : RC) (ihQ : nqI rc) {F0 : PF} (x1 : Int32) (z0 : Int32) (F : PF) (G : PG) (hM : MFS F0 F) : PP (mb_statement_270 fu rc x1 z0 F G) (fun _ F' _ => MFS F0 F') := by
  unfold mb_statement_270
  refine PP.ite (fun c_1 => ?_) (fun c_1 => ?_)
  · skip
    exact nqj_statement_289 rc ihQ F G hM
  · skip
    exact nqj_statement_273 rc ihQ x1 F G hM
theorem nqj_statement_264 {fu : Nat} (rc : RC) (ihQ : nqI rc) {F0 : PF} (x1 : Int32) (F : PF) (G : PG) (hM : MFS F0 F) : PP (mb_statement_264 fu rc x1 F G) (fun _ F' _ => MFS F0 F') := by
  unfold mb_statement_264
  refine PP.bind (nq_openSign (22 : Int32) F G) ?_
  intro r1 F1 G1 hM1
  dsimp only
  exact nqj_statement_270 rc ihQ x1 r1 F1 G1 (MFS.tr hM hM1)
theorem nqj_statement_253 {fu : Nat} (rc : RC) (ihQ : nqI rc) {F0 : PF} (z0 : Int32) (F : PF) (G : PG) (hM : MFS F0 F) : PP (mb_statement_253 fu rc z0 F G) (fun _ F' _ => MFS F0 F') := by
  unfold mb_statement_253
  exact nqj_statement_264 rc ihQ z0 (fup F 42 ((F 42) + (1 : Int32))) G (MFS.f (k := 42) rfl hM)
theorem nqj_statement_251 {fu : Nat} (rc : RC) (ihQ : nqI rc) {F0 : PF} (F : PF) (G : PG) (hM : MFS F0 F) : PP (mb_statement_251 fu rc F G) (fun _ F' _ => MFS F0 F') := by
  unfold mb_statement_251
  exact nqj_statement_253 rc ihQ (20 : Int32) F G hM
theorem nqj_statement_246 {fu : Nat} (rc : RC) (ihQ : nqI rc) {F0 : PF} (F : PF) (G : PG) (hM : MFS F0 F) : PP (mb_statement_246 fu rc F G) (fun _ F' _ => MFS F0 F') := by
  unfold mb_statement_246
  exact nqj_statement_253 rc ihQ (19 : Int32) F G hM
theorem nqj_statement_243 {fu : Nat} (rc : RC) (ihQ : nqI rc) {F0 : PF} (z0 : Int32) (F : PF) (G : PG) (hM : MFS F0 F) : PP (mb_statement_243 fu rc z0 F G) (fun _ F' _ => MFS F0 F') := by
  unfold mb_statement_243
  refine PP.ite (fun c_1 => ?_) (fun c_1 => ?_)
  · skip
    exact nqj_statement_251 rc ihQ F G hM
  · skip
    exact nqj_statement_246 rc ihQ F G hM
theorem nqj_statement_237 {fu : Nat} (rc : RC) (ihQ : nqI rc) {F0 : PF} (F : PF) (G : PG) (hM : MFS F0 F) : PP (mb_statement_237 fu rc F G) (fun _ F' _ => MFS F0 F') := by
  unfold mb_statement_237
  refine PP.bind (mw_isWord (12 : Int32) F G) ?_
  intro r1 F1 G1 hM1
  dsimp only
  exact nqj_statement_243 rc ihQ r1 F1 G1 (MFS.tr hM (MFS.kx hM1 rfl rfl rfl rfl))
theorem nqj_statement_100 {fu : Nat} (rc : RC) (ihQ : nqI rc) {F0 : PF} (F : PF) (G : PG) (hM : MFS F0 F) : PP (mb_statement_100 fu rc F G) (fun _ F' _ => MFS F0 F') := by
  unfold mb_statement_100
  refine PP.ix (fun _ => ?_)
  refine PP.ite (fun c_1 => ?_) (fun c_1 => ?_)
  · have e_2 : (G 5 (F 42).toNatClampNeg).toInt < 0 ∨ 14 < (G 5 (F 42).toNatClampNeg).toInt := c_1
    exact nqj_statement_306 rc ihQ F G hM
  have e_3 : ¬ ((G 5 (F 42).toNatClampNeg).toInt < 0 ∨ 14 < (G 5 (F 42).toNatClampNeg).toInt) := c_1
  refine PP.ite (fun c_4 => ?_) (fun c_4 => ?_)
  · skip
    exact nqj_statement_184 rc ihQ F G hM
  refine PP.ite (fun c_5 => ?_) (fun c_5 => ?_)
  · skip
    exact nqj_statement_184 rc ihQ F G hM
  refine PP.ite (fun c_6 => ?_) (fun c_6 => ?_)
  · skip
    exact nqj_statement_306 rc ihQ F G hM
  refine PP.ite (fun c_7 => ?_) (fun c_7 => ?_)
  · skip
    exact nqj_statement_306 rc ihQ F G hM
  refine PP.ite (fun c_8 => ?_) (fun c_8 => ?_)
  · skip
    exact nqj_statement_207 rc ihQ F G hM
  refine PP.ite (fun c_9 => ?_) (fun c_9 => ?_)
  · skip
    exact nqj_statement_306 rc ihQ F G hM
  refine PP.ite (fun c_10 => ?_) (fun c_10 => ?_)
  · skip
    exact nqj_statement_212 rc ihQ F G hM
  refine PP.ite (fun c_11 => ?_) (fun c_11 => ?_)
  · skip
    exact nqj_statement_217 rc ihQ F G hM
  refine PP.ite (fun c_12 => ?_) (fun c_12 => ?_)
  · skip
    exact nqj_statement_222 rc ihQ F G hM
  refine PP.ite (fun c_13 => ?_) (fun c_13 => ?_)
  · skip
    exact nqj_statement_227 rc ihQ F G hM
  refine PP.ite (fun c_14 => ?_) (fun c_14 => ?_)
  · skip
    exact nqj_statement_227 rc ihQ F G hM
  refine PP.ite (fun c_15 => ?_) (fun c_15 => ?_)
  · skip
    exact nqj_statement_232 rc ihQ F G hM
  refine PP.ite (fun c_16 => ?_) (fun c_16 => ?_)
  · skip
    exact nqj_statement_237 rc ihQ F G hM
  refine PP.ite (fun c_17 => ?_) (fun c_17 => ?_)
  · skip
    exact nqj_statement_306 rc ihQ F G hM
  exact nqj_statement_237 rc ihQ F G hM
theorem nqj_statement_99 {fu : Nat} (rc : RC) (ihQ : nqI rc) {F0 : PF} (z0 : Int32) (F : PF) (G : PG) (hM : MFS F0 F) : PP (mb_statement_99 fu rc z0 F G) (fun _ F' _ => MFS F0 F') := by
  unfold mb_statement_99
  refine PP.bz (fun _ => ?_)
  refine PP.ret ?_
  exact hM
theorem nqj_statement_94 {fu : Nat} (rc : RC) (ihQ : nqI rc) {F0 : PF} (F : PF) (G : PG) (hM : MFS F0 F) : PP (mb_statement_94 fu rc F G) (fun _ F' _ => MFS F0 F') := by
  unfold mb_statement_94
  refine PP.bind (nq_fails (2 : Int32) (by decide) F G) ?_
  intro r1 F1 G1 hM1
  dsimp only
  exact nqj_statement_99 rc ihQ r1 F1 G1 (MFS.tr hM hM1)
theorem nqj_statement_81 {fu : Nat} (rc : RC) (ihQ : nqI rc) {F0 : PF} (F : PF) (G : PG) (hM : MFS F0 F) : PP (mb_statement_81 fu rc F G) (fun _ F' _ => MFS F0 F') := by
  unfold mb_statement_81
  refine PP.ix (fun _ => ?_)
  refine PP.ite (fun c_1 => ?_) (fun c_1 => ?_)
  · skip
    exact nqj_statement_100 rc ihQ F G hM
  · skip
    exact nqj_statement_94 rc ihQ F G hM
theorem nqj_statement_46 {fu : Nat} (rc : RC) (ihQ : nqI rc) {F0 : PF} (F : PF) (G : PG) (hM : MFS F0 F) : PP (mb_statement_46 fu rc F G) (fun _ F' _ => MFS F0 F') := by
  unfold mb_statement_46
  refine PP.ix (fun _ => ?_)
  refine PP.ite (fun c_1 => ?_) (fun c_1 => ?_)
  · skip
    exact nqj_statement_59 rc ihQ F G hM
  · skip
    exact nqj_statement_81 rc ihQ F G hM
theorem nqj_statement_45 {fu : Nat} (rc : RC) (ihQ : nqI rc) {F0 : PF} (z0 : Int32) (F : PF) (G : PG) (hM : MFS F0 F) : PP (mb_statement_45 fu rc z0 F G) (fun _ F' _ => MFS F0 F') := by
  unfold mb_statement_45
  refine PP.bz (fun _ => ?_)
  refine PP.ret ?_
  exact hM
theorem nqj_statement_39 {fu : Nat} (rc : RC) (ihQ : nqI rc) {F0 : PF} (F : PF) (G : PG) (hM : MFS F0 F) : PP (mb_statement_39 fu rc F G) (fun _ F' _ => MFS F0 F') := by
  unfold mb_statement_39
  refine PP.bind (nq_sign (29 : Int32) F G) ?_
  intro r1 F1 G1 hM1
  dsimp only
  exact nqj_statement_45 rc ihQ r1 F1 G1 (MFS.tr hM hM1)
theorem nqj_statement_36 {fu : Nat} (rc : RC) (ihQ : nqI rc) {F0 : PF} (z0 : Int32) (F : PF) (G : PG) (hM : MFS F0 F) : PP (mb_statement_36 fu rc z0 F G) (fun _ F' _ => MFS F0 F') := by
  unfold mb_statement_36
  refine PP.ite (fun c_1 => ?_) (fun c_1 => ?_)
  · skip
    exact nqj_statement_46 rc ihQ F G hM
  · skip
    exact nqj_statement_39 rc ihQ F G hM
theorem nqj_statement_30 {fu : Nat} (rc : RC) (ihQ : nqI rc) {F0 : PF} (F : PF) (G : PG) (hM : MFS F0 F) : PP (mb_statement_30 fu rc F G) (fun _ F' _ => MFS F0 F') := by
  unfold mb_statement_30
  refine PP.bind (mw_isSign (29 : Int32) F G) ?_
  intro r1 F1 G1 hM1
  dsimp only
  exact nqj_statement_36 rc ihQ r1 F1 G1 (MFS.tr hM (MFS.kx hM1 rfl rfl rfl rfl))
theorem nqj_statement_28 {fu : Nat} (rc : RC) (ihQ : nqI rc) {F0 : PF} (x2 : Int32) (F : PF) (G : PG) (hM : MFS F0 F) : PP (mb_statement_28 fu rc x2 F G) (fun _ F' _ => MFS F0 F') := by
  unfold mb_statement_28
  refine PP.bz (fun _ => ?_)
  refine PP.ret ?_
  exact hM
theorem nqj_statement_22 {fu : Nat} (rc : RC) (ihQ : nqI rc) {F0 : PF} (x1 : Int32) (z0 : Int32) (F : PF) (G : PG) (hM : MFS F0 F) : PP (mb_statement_22 fu rc x1 z0 F G) (fun _ F' _ => MFS F0 F') := by
  unfold mb_statement_22
  refine PP.bind (mw_ends x1 F G) ?_
  intro r1 F1 G1 hM1
  dsimp only
  exact nqj_statement_28 rc ihQ z0 F1 G1 (MFS.tr hM (MFS.kx hM1 rfl rfl rfl rfl))
theorem nqj_statement_18 {fu : Nat} (rc : RC) (ihQ : nqI rc) {F0 : PF} (x1 : Int32) (F : PF) (G : PG) (hM : MFS F0 F) : PP (mb_statement_18 fu rc x1 F G) (fun _ F' _ => MFS F0 F') := by
  unfold mb_statement_18
  refine PP.bind (ihQ 0 0 0 F G) ?_
  intro r1 F1 G1 hM1
  dsimp only
  exact nqj_statement_22 rc ihQ x1 r1 F1 G1 (MFS.tr hM hM1)
theorem nqj_statement_9 {fu : Nat} (rc : RC) (ihQ : nqI rc) {F0 : PF} (F : PF) (G : PG) (hM : MFS F0 F) : PP (mb_statement_9 fu rc F G) (fun _ F' _ => MFS F0 F') := by
  unfold mb_statement_9
  refine PP.bind (mw_begins F G) ?_
  intro r1 F1 G1 hM1
  dsimp only
  exact nqj_statement_18 rc ihQ (F 15) F1 G1 (MFS.tr hM (MFS.kx hM1 rfl rfl rfl rfl))
theorem nqj_statement_6 {fu : Nat} (rc : RC) (ihQ : nqI rc) {F0 : PF} (z0 : Int32) (F : PF) (G : PG) (hM : MFS F0 F) : PP (mb_statement_6 fu rc z0 F G) (fun _ F' _ => MFS F0 F') := by
  unfold mb_statement_6
  refine PP.ite (fun c_1 => ?_) (fun c_1 => ?_)
  · skip
    exact nqj_statement_30 rc ihQ F G hM
  · skip
    exact nqj_statement_9 rc ihQ F G hM
theorem nqt_statement {fu : Nat} (rc : RC) (ihQ : nqI rc) (F : PF) (G : PG) : PP (mh_statement fu rc F G) (fun _ F' _ => MFS F F') := by
  unfold mh_statement
  unfold mb_statement_0
  refine PP.bind (mw_isSign (26 : Int32) F G) ?_
  intro r1 F1 G1 hM1
  dsimp only
  exact nqj_statement_6 rc ihQ r1 F1 G1 (MFS.tr MFS.rf (MFS.kx hM1 rfl rfl rfl rfl))
theorem nqj_turnLoop_20 {fu : Nat} (rc : RC) (ihQ : nqI rc) {F0 : PF} (F : PF) (G : PG) (hM : MFS F0 F) : PP (mb_turnLoop_20 fu rc F G) (fun _ F' _ => MFS F0 F') := by
  unfold mb_turnLoop_20
  refine PP.ret ?_
  exact hM
theorem nqj_turnLoop_58 {fu : Nat} (rc : RC) (ihQ : nqI rc) {F0 : PF} (F : PF) (G : PG) (hM : MFS F0 F) : PP (mb_turnLoop_58 fu rc F G) (fun _ F' _ => MFS F0 F') := by
  unfold mb_turnLoop_58
  refine PP.ret ?_
  exact hM
theorem nqj_turnLoop_94 {fu : Nat} (rc : RC) (ihQ : nqI rc) {F0 : PF} (z0 : Int32) (F : PF) (G : PG) (hM : MFS F0 F) : PP (mb_turnLoop_94 fu rc z0 F G) (fun _ F' _ => MFS F0 F') := by
  unfold mb_turnLoop_94
  refine PP.bz (fun _ => ?_)
  refine PP.ret ?_
  exact hM
theorem nqj_turnLoop_88 {fu : Nat} (rc : RC) (ihQ : nqI rc) {F0 : PF} (F : PF) (G : PG) (hM : MFS F0 F) : PP (mb_turnLoop_88 fu rc F G) (fun _ F' _ => MFS F0 F') := by
  unfold mb_turnLoop_88
  refine PP.bind (nq_sign (29 : Int32) F G) ?_
  intro r1 F1 G1 hM1
  dsimp only
  exact nqj_turnLoop_94 rc ihQ r1 F1 G1 (MFS.tr hM hM1)
theorem nqj_turnLoop_78 {fu : Nat} (rc : RC) (ihQ : nqI rc) {F0 : PF} (F : PF) (G : PG) (hM : MFS F0 F) : PP (mb_turnLoop_78 fu rc F G) (fun _ F' _ => MFS F0 F') := by
  unfold mb_turnLoop_78
  exact nqj_turnLoop_88 rc ihQ (fup F 43 ((F 43) - (1 : Int32))) G (MFS.f (k := 43) rfl hM)
theorem nqj_turnLoop_68 {fu : Nat} (rc : RC) (ihQ : nqI rc) {F0 : PF} (x2 : Int32) (z0 : Int32) (F : PF) (G : PG) (hM : MFS F0 F) : PP (mb_turnLoop_68 fu rc x2 z0 F G) (fun _ F' _ => MFS F0 F') := by
  unfold mb_turnLoop_68
  refine PP.bind (mw_settle x2 (F 60) F G) ?_
  intro r1 F1 G1 hM1
  dsimp only
  exact nqj_turnLoop_78 rc ihQ F1 G1 (MFS.tr hM (MFS.kx hM1 rfl rfl rfl rfl))
theorem nqj_turnLoop_60 {fu : Nat} (rc : RC) (ihQ : nqI rc) {F0 : PF} (x1 : Int32) (x2 : Int32) (F : PF) (G : PG) (hM : MFS F0 F) : PP (mb_turnLoop_60 fu rc x1 x2 F G) (fun _ F' _ => MFS F0 F') := by
  unfold mb_turnLoop_60
  refine PP.bind (mw_step (14 : Int32) x1 (0 : Int32) F G) ?_
  intro r1 F1 G1 hM1
  dsimp only
  exact nqj_turnLoop_68 rc ihQ x2 r1 F1 G1 (MFS.tr hM (MFS.kx hM1 rfl rfl rfl rfl))
theorem nqj_turnLoop_55 {fu : Nat} (rc : RC) (ihQ : nqI rc) {F0 : PF} (x1 : Int32) (x2 : Int32) (z0 : Int32) (F : PF) (G : PG) (hM : MFS F0 F) : PP (mb_turnLoop_55 fu rc x1 x2 z0 F G) (fun _ F' _ => MFS F0 F') := by
  unfold mb_turnLoop_55
  refine PP.ite (fun c_1 => ?_) (fun c_1 => ?_)
  · skip
    exact nqj_turnLoop_58 rc ihQ F G hM
  · skip
    exact nqj_turnLoop_60 rc ihQ x1 x2 F G hM
theorem nqj_turnLoop_51 {fu : Nat} (rc : RC) (ihQ : nqI rc) {F0 : PF} (x1 : Int32) (x2 : Int32) (F : PF) (G : PG) (hM : MFS F0 F) : PP (mb_turnLoop_51 fu rc x1 x2 F G) (fun _ F' _ => MFS F0 F') := by
  unfold mb_turnLoop_51
  refine PP.bind (nq_condition F G) ?_
  intro r1 F1 G1 hM1
  dsimp only
  exact nqj_turnLoop_55 rc ihQ x1 x2 r1 F1 G1 (MFS.tr hM hM1)
theorem nqj_turnLoop_48 {fu : Nat} (rc : RC) (ihQ : nqI rc) {F0 : PF} (x1 : Int32) (x2 : Int32) (z0 : Int32) (F : PF) (G : PG) (hM : MFS F0 F) : PP (mb_turnLoop_48 fu rc x1 x2 z0 F G) (fun _ F' _ => MFS F0 F') := by
  unfold mb_turnLoop_48
  refine PP.ite (fun c_1 => ?_) (fun c_1 => ?_)
  · skip
    exact nqj_turnLoop_58 rc ihQ F G hM
  · skip
    exact nqj_turnLoop_51 rc ihQ x1 x2 F G hM
theorem nqj_turnLoop_41 {fu : Nat} (rc : RC) (ihQ : nqI rc) {F0 : PF} (x1 : Int32) (x2 : Int32) (F : PF) (G : PG) (hM : MFS F0 F) : PP (mb_turnLoop_41 fu rc x1 x2 F G) (fun _ F' _ => MFS F0 F') := by
  unfold mb_turnLoop_41
  refine PP.bind (nq_word (6 : Int32) (1 : Int32) F G) ?_
  intro r1 F1 G1 hM1
  dsimp only
  exact nqj_turnLoop_48 rc ihQ x1 x2 r1 F1 G1 (MFS.tr hM hM1)
theorem nqj_turnLoop_22 {fu : Nat} (rc : RC) (ihQ : nqI rc) {F0 : PF} (x1 : Int32) (F : PF) (G : PG) (hM : MFS F0 F) : PP (mb_turnLoop_22 fu rc x1 F G) (fun _ F' _ => MFS F0 F') := by
  unfold mb_turnLoop_22
  refine PP.bind (mw_settle (F 66) (F 60) F G) ?_
  intro r1 F1 G1 hM1
  dsimp only
  exact nqj_turnLoop_41 rc ihQ x1 (F 65) F1 G1 (MFS.tr hM (MFS.kx hM1 rfl rfl rfl rfl))
theorem nqj_turnLoop_17 {fu : Nat} (rc : RC) (ihQ : nqI rc) {F0 : PF} (x1 : Int32) (z0 : Int32) (F : PF) (G : PG) (hM : MFS F0 F) : PP (mb_turnLoop_17 fu rc x1 z0 F G) (fun _ F' _ => MFS F0 F') := by
  unfold mb_turnLoop_17
  refine PP.ite (fun c_1 => ?_) (fun c_1 => ?_)
  · skip
    exact nqj_turnLoop_20 rc ihQ F G hM
  · skip
    exact nqj_turnLoop_22 rc ihQ x1 F G hM
theorem nqj_turnLoop_12 {fu : Nat} (rc : RC) (ihQ : nqI rc) {F0 : PF} (x1 : Int32) (F : PF) (G : PG) (hM : MFS F0 F) : PP (mb_turnLoop_12 fu rc x1 F G) (fun _ F' _ => MFS F0 F') := by
  unfold mb_turnLoop_12
  refine PP.bind (ihQ 1 (-1 : Int32) 0 F G) ?_
  intro r1 F1 G1 hM1
  dsimp only
  exact nqj_turnLoop_17 rc ihQ x1 r1 F1 G1 (MFS.tr hM hM1)
theorem nqj_turnLoop_9 {fu : Nat} (rc : RC) (ihQ : nqI rc) {F0 : PF} (x1 : Int32) (z0 : Int32) (F : PF) (G : PG) (hM : MFS F0 F) : PP (mb_turnLoop_9 fu rc x1 z0 F G) (fun _ F' _ => MFS F0 F') := by
  unfold mb_turnLoop_9
  refine PP.ite (fun c_1 => ?_) (fun c_1 => ?_)
  · skip
    exact nqj_turnLoop_20 rc ihQ F G hM
  · skip
    exact nqj_turnLoop_12 rc ihQ x1 F G hM
theorem nqt_turnLoop {fu : Nat} (rc : RC) (ihQ : nqI rc) (F : PF) (G : PG) : PP (mh_turnLoop fu rc F G) (fun _ F' _ => MFS F F') := by
  unfold mh_turnLoop
  unfold mb_turnLoop_0
  refine PP.bind (nq_opens F G) ?_
  intro r1 F1 G1 hM1
  dsimp only
  exact nqj_turnLoop_9 rc ihQ (F 60) r1 F1 G1 (MFS.tr MFS.rf hM1)
theorem nqS2 {fu : Nat} : ∀ d : Nat, nqI (mS2 fu d) := by
  intro d
  induction d with
  | zero => exact fun _ _ _ _ _ => PP.no
  | succ d ih =>
    intro i x y F G
    exact PP.ite (fun _ => nqt_block (mS2 fu d) ih F G) (fun _ => PP.ite (fun _ => nqt_body (mS2 fu d) ih x F G) (fun _ => PP.ite (fun _ => nqt_choice (mS2 fu d) ih F G) (fun _ => PP.ite (fun _ => nqt_counted (mS2 fu d) ih F G) (fun _ => PP.ite (fun _ => nqt_loop (mS2 fu d) ih F G) (fun _ => PP.ite (fun _ => nqt_scoped (mS2 fu d) ih F G) (fun _ => PP.ite (fun _ => nqt_statement (mS2 fu d) ih F G) (fun _ => PP.ite (fun _ => nqt_turnLoop (mS2 fu d) ih F G) (fun _ => PP.no))))))))
theorem nq_block {fu : Nat} (F : PF) (G : PG) : PP (mf_block fu F G) (fun _ F' _ => MFS F F') := nqS2 300 0 0 0 F G
theorem nq_body {fu : Nat} (x : Int32) (F : PF) (G : PG) : PP (mf_body fu x F G) (fun _ F' _ => MFS F F') := nqS2 300 1 x 0 F G
theorem nq_choice {fu : Nat} (F : PF) (G : PG) : PP (mf_choice fu F G) (fun _ F' _ => MFS F F') := nqS2 300 2 0 0 F G
theorem nq_counted {fu : Nat} (F : PF) (G : PG) : PP (mf_counted fu F G) (fun _ F' _ => MFS F F') := nqS2 300 3 0 0 F G
theorem nq_loop {fu : Nat} (F : PF) (G : PG) : PP (mf_loop fu F G) (fun _ F' _ => MFS F F') := nqS2 300 4 0 0 F G
theorem nq_scoped {fu : Nat} (F : PF) (G : PG) : PP (mf_scoped fu F G) (fun _ F' _ => MFS F F') := nqS2 300 5 0 0 F G
theorem nq_statement {fu : Nat} (F : PF) (G : PG) : PP (mf_statement fu F G) (fun _ F' _ => MFS F F') := nqS2 300 6 0 0 F G
theorem nq_turnLoop {fu : Nat} (F : PF) (G : PG) : PP (mf_turnLoop fu F G) (fun _ F' _ => MFS F F') := nqS2 300 7 0 0 F G
theorem nqj_function_140 {fu : Nat} {F0 : PF} (F : PF) (G : PG) (hM : MFS F0 F) : PP (mb_function_140 fu F G) (fun _ F' _ => MFS F0 F') := by
  unfold mb_function_140
  refine PP.ret ?_
  exact hM
theorem nqj_function_291 {fu : Nat} {F0 : PF} (F : PF) (G : PG) (hM : MFS F0 F) : PP (mb_function_291 fu F G) (fun _ F' _ => MFS F0 F') := by
  unfold mb_function_291
  refine PP.ret ?_
  exact hM
theorem nqj_function_325 {fu : Nat} {F0 : PF} (z0 : Int32) (F : PF) (G : PG) (hM : MFS F0 F) : PP (mb_function_325 fu z0 F G) (fun _ F' _ => MFS F0 F') := by
  unfold mb_function_325
  refine PP.bz (fun _ => ?_)
  refine PP.ret ?_
  exact hM
theorem nqj_function_320 {fu : Nat} {F0 : PF} (F : PF) (G : PG) (hM : MFS F0 F) : PP (mb_function_320 fu F G) (fun _ F' _ => MFS F0 F') := by
  unfold mb_function_320
  refine PP.bind (nq_fails (2 : Int32) (by decide) F G) ?_
  intro r1 F1 G1 hM1
  dsimp only
  exact nqj_function_325 r1 F1 G1 (MFS.tr hM hM1)
theorem nqj_function_333 {fu : Nat} {F0 : PF} (F : PF) (G : PG) (hM : MFS F0 F) : PP (mb_function_333 fu F G) (fun _ F' _ => MFS F0 F') := by
  unfold mb_function_333
  refine PP.ret ?_
  exact hM
theorem nqj_function_385 {fu : Nat} {F0 : PF} (F : PF) (G : PG) (hM : MFS F0 F) : PP (mb_function_385 fu F G) (fun _ F' _ => MFS F0 F') := by
  unfold mb_function_385
  refine PP.ret ?_
  exact hM
theorem nqj_function_380 {fu : Nat} {F0 : PF} (F : PF) (G : PG) (hM : MFS F0 F) : PP (mb_function_380 fu F G) (fun _ F' _ => MFS F0 F') := by
  unfold mb_function_380
  exact nqj_function_385 (fup F 50 (-1 : Int32)) G (MFS.f (k := 50) rfl hM)
theorem nqj_function_375 {fu : Nat} {F0 : PF} (F : PF) (G : PG) (hM : MFS F0 F) : PP (mb_function_375 fu F G) (fun _ F' _ => MFS F0 F') := by
  unfold mb_function_375
  refine PP.bind (mw_ends (0 : Int32) F G) ?_
  intro r1 F1 G1 hM1
  dsimp only
  exact nqj_function_380 F1 G1 (MFS.tr hM (MFS.kx hM1 rfl rfl rfl rfl))
theorem nqj_function_365 {fu : Nat} {F0 : PF} (x1 : Int32) (F : PF) (G : PG) (hM : MFS F0 F) : PP (mb_function_365 fu x1 F G) (fun _ F' _ => MFS F0 F') := by
  unfold mb_function_365
  refine PP.ix (fun _ => ?_)
  exact nqj_function_375 F (gup G 29 x1.toNatClampNeg (F 53)) hM
theorem nqj_function_351 {fu : Nat} {F0 : PF} (x1 : Int32) (x4 : Int32) (z0 : Int32) (F : PF) (G : PG) (hM : MFS F0 F) : PP (mb_function_351 fu x1 x4 z0 F G) (fun _ F' _ => MFS F0 F') := by
  unfold mb_function_351
  refine PP.ix (fun _ => ?_)
  exact nqj_function_365 x1 F (gup G 28 x1.toNatClampNeg (x4 + (F 52))) hM
theorem nqj_function_342 {fu : Nat} {F0 : PF} (x1 : Int32) (x4 : Int32) (z0 : Int32) (F : PF) (G : PG) (hM : MFS F0 F) : PP (mb_function_342 fu x1 x4 z0 F G) (fun _ F' _ => MFS F0 F') := by
  unfold mb_function_342
  refine PP.bind (mw_step (17 : Int32) (0 : Int32) (0 : Int32) F G) ?_
  intro r1 F1 G1 hM1
  dsimp only
  exact nqj_function_351 x1 x4 r1 F1 G1 (MFS.tr hM (MFS.kx hM1 rfl rfl rfl rfl))
theorem nqj_function_335 {fu : Nat} {F0 : PF} (x1 : Int32) (x4 : Int32) (F : PF) (G : PG) (hM : MFS F0 F) : PP (mb_function_335 fu x1 x4 F G) (fun _ F' _ => MFS F0 F') := by
  unfold mb_function_335
  refine PP.bind (mw_step (0 : Int32) (0 : Int32) (0 : Int32) F G) ?_
  intro r1 F1 G1 hM1
  dsimp only
  exact nqj_function_342 x1 x4 r1 F1 G1 (MFS.tr hM (MFS.kx hM1 rfl rfl rfl rfl))
theorem nqj_function_330 {fu : Nat} {F0 : PF} (x1 : Int32) (x4 : Int32) (z0 : Int32) (F : PF) (G : PG) (hM : MFS F0 F) : PP (mb_function_330 fu x1 x4 z0 F G) (fun _ F' _ => MFS F0 F') := by
  unfold mb_function_330
  refine PP.ite (fun c_1 => ?_) (fun c_1 => ?_)
  · skip
    exact nqj_function_333 F G hM
  · skip
    exact nqj_function_335 x1 x4 F G hM
theorem nqj_function_326 {fu : Nat} {F0 : PF} (x1 : Int32) (x4 : Int32) (F : PF) (G : PG) (hM : MFS F0 F) : PP (mb_function_326 fu x1 x4 F G) (fun _ F' _ => MFS F0 F') := by
  unfold mb_function_326
  refine PP.bind (nq_block F G) ?_
  intro r1 F1 G1 hM1
  dsimp only
  exact nqj_function_330 x1 x4 r1 F1 G1 (MFS.tr hM hM1)
theorem nqj_function_317 {fu : Nat} {F0 : PF} (x1 : Int32) (x4 : Int32) (z0 : Int32) (F : PF) (G : PG) (hM : MFS F0 F) : PP (mb_function_317 fu x1 x4 z0 F G) (fun _ F' _ => MFS F0 F') := by
  unfold mb_function_317
  refine PP.ite (fun c_1 => ?_) (fun c_1 => ?_)
  · skip
    exact nqj_function_320 F G hM
  · skip
    exact nqj_function_326 x1 x4 F G hM
theorem nqj_function_311 {fu : Nat} {F0 : PF} (x1 : Int32) (x4 : Int32) (F : PF) (G : PG) (hM : MFS F0 F) : PP (mb_function_311 fu x1 x4 F G) (fun _ F' _ => MFS F0 F') := by
  unfold mb_function_311
  refine PP.bind (mw_isSign (26 : Int32) F G) ?_
  intro r1 F1 G1 hM1
  dsimp only
  exact nqj_function_317 x1 x4 r1 F1 G1 (MFS.tr hM (MFS.kx hM1 rfl rfl rfl rfl))
theorem nqj_function_301 {fu : Nat} {F0 : PF} (x1 : Int32) (x4 : Int32) (F : PF) (G : PG) (hM : MFS F0 F) : PP (mb_function_301 fu x1 x4 F G) (fun _ F' _ => MFS F0 F') := by
  unfold mb_function_301
  refine PP.ix (fun _ => ?_)
  exact nqj_function_311 x1 x4 F (gup G 30 x1.toNatClampNeg (F 60)) hM
theorem nqj_function_293 {fu : Nat} {F0 : PF} (x1 : Int32) (x4 : Int32) (x5 : Int32) (F : PF) (G : PG) (hM : MFS F0 F) : PP (mb_function_293 fu x1 x4 x5 F G) (fun _ F' _ => MFS F0 F') := by
  unfold mb_function_293
  refine PP.ix (fun _ => ?_)
  exact nqj_function_301 x1 x4 F (gup G 27 x1.toNatClampNeg x5) hM
theorem nqj_function_288 {fu : Nat} {F0 : PF} (x1 : Int32) (x4 : Int32) (x5 : Int32) (z0 : Int32) (F : PF) (G : PG) (hM : MFS F0 F) : PP (mb_function_288 fu x1 x4 x5 z0 F G) (fun _ F' _ => MFS F0 F') := by
  unfold mb_function_288
  refine PP.ite (fun c_1 => ?_) (fun c_1 => ?_)
  · skip
    exact nqj_function_291 F G hM
  · skip
    exact nqj_function_293 x1 x4 x5 F G hM
theorem nqj_function_282 {fu : Nat} {F0 : PF} (x1 : Int32) (x4 : Int32) (x5 : Int32) (F : PF) (G : PG) (hM : MFS F0 F) : PP (mb_function_282 fu x1 x4 x5 F G) (fun _ F' _ => MFS F0 F') := by
  unfold mb_function_282
  refine PP.bind (nq_closeSign (23 : Int32) F G) ?_
  intro r1 F1 G1 hM1
  dsimp only
  exact nqj_function_288 x1 x4 x5 r1 F1 G1 (MFS.tr hM hM1)
theorem nqj_function_279 {fu : Nat} {F0 : PF} (ag_177 : Int32 → Int32 → Int32 → Int32 → PF → PG → PR) (hag_177 : ∀ (x1 : Int32) (x4 : Int32) (x5 : Int32) (x6 : Int32) (F : PF) (G : PG) (hM : MFS F0 F), PP (ag_177 x1 x4 x5 x6 F G) (fun _ F' _ => MFS F0 F')) (x1 : Int32) (x4 : Int32) (x5 : Int32) (x6 : Int32) (F : PF) (G : PG) (hM : MFS F0 F) : PP (mb_function_279 fu ag_177 x1 x4 x5 x6 F G) (fun _ F' _ => MFS F0 F') := by
  unfold mb_function_279
  exact hag_177 x1 x4 x5 x6 F G hM
theorem nqj_function_275 {fu : Nat} {F0 : PF} (ag_177 : Int32 → Int32 → Int32 → Int32 → PF → PG → PR) (hag_177 : ∀ (x1 : Int32) (x4 : Int32) (x5 : Int32) (x6 : Int32) (F : PF) (G : PG) (hM : MFS F0 F), PP (ag_177 x1 x4 x5 x6 F G) (fun _ F' _ => MFS F0 F')) (x1 : Int32) (x4 : Int32) (x5 : Int32) (x6 : Int32) (z0 : Int32) (z1 : Int32) (F : PF) (G : PG) (hM : MFS F0 F) : PP (mb_function_275 fu ag_177 x1 x4 x5 x6 z0 z1 F G) (fun _ F' _ => MFS F0 F') := by
  unfold mb_function_275
  exact nqj_function_279 ag_177 hag_177 x1 x4 x5 x6 (fup F 42 (z1 + z0)) G (MFS.f (k := 42) rfl hM)
theorem nqj_function_274 {fu : Nat} {F0 : PF} (ag_177 : Int32 → Int32 → Int32 → Int32 → PF → PG → PR) (hag_177 : ∀ (x1 : Int32) (x4 : Int32) (x5 : Int32) (x6 : Int32) (F : PF) (G : PG) (hM : MFS F0 F), PP (ag_177 x1 x4 x5 x6 F G) (fun _ F' _ => MFS F0 F')) (x1 : Int32) (x4 : Int32) (x5 : Int32) (x6 : Int32) (z0 : Int32) (F : PF) (G : PG) (hM : MFS F0 F) : PP (mb_function_274 fu ag_177 x1 x4 x5 x6 z0 F G) (fun _ F' _ => MFS F0 F') := by
  unfold mb_function_274
  exact nqj_function_275 ag_177 hag_177 x1 x4 x5 x6 (0 : Int32) z0 F G hM
theorem nqj_function_270 {fu : Nat} {F0 : PF} (ag_177 : Int32 → Int32 → Int32 → Int32 → PF → PG → PR) (hag_177 : ∀ (x1 : Int32) (x4 : Int32) (x5 : Int32) (x6 : Int32) (F : PF) (G : PG) (hM : MFS F0 F), PP (ag_177 x1 x4 x5 x6 F G) (fun _ F' _ => MFS F0 F')) (x1 : Int32) (x4 : Int32) (x5 : Int32) (x6 : Int32) (z0 : Int32) (F : PF) (G : PG) (hM : MFS F0 F) : PP (mb_function_270 fu ag_177 x1 x4 x5 x6 z0 F G) (fun _ F' _ => MFS F0 F') := by
  unfold mb_function_270
  exact nqj_function_275 ag_177 hag_177 x1 x4 x5 x6 (1 : Int32) z0 F G hM
theorem nqj_function_258 {fu : Nat} {F0 : PF} (ag_177 : Int32 → Int32 → Int32 → Int32 → PF → PG → PR) (hag_177 : ∀ (x1 : Int32) (x4 : Int32) (x5 : Int32) (x6 : Int32) (F : PF) (G : PG) (hM : MFS F0 F), PP (ag_177 x1 x4 x5 x6 F G) (fun _ F' _ => MFS F0 F')) (x1 : Int32) (x4 : Int32) (x5 : Int32) (z0 : Int32) (F : PF) (G : PG) (hM : MFS F0 F) : PP (mb_function_258 fu ag_177 x1 x4 x5 z0 F G) (fun _ F' _ => MFS F0 F') := by
  unfold mb_function_258
  refine PP.ite (fun c_1 => ?_) (fun c_1 => ?_)
  · skip
    exact nqj_function_274 ag_177 hag_177 x1 x4 x5 z0 (F 42) F G hM
  · skip
    exact nqj_function_270 ag_177 hag_177 x1 x4 x5 z0 (F 42) F G hM
theorem nqj_function_246 {fu : Nat} {F0 : PF} (ag_177 : Int32 → Int32 → Int32 → Int32 → PF → PG → PR) (hag_177 : ∀ (x1 : Int32) (x4 : Int32) (x5 : Int32) (x6 : Int32) (F : PF) (G : PG) (hM : MFS F0 F), PP (ag_177 x1 x4 x5 x6 F G) (fun _ F' _ => MFS F0 F')) (x1 : Int32) (x5 : Int32) (z0 : Int32) (z1 : Int32) (F : PF) (G : PG) (hM : MFS F0 F) : PP (mb_function_246 fu ag_177 x1 x5 z0 z1 F G) (fun _ F' _ => MFS F0 F') := by
  unfold mb_function_246
  refine PP.bind (mw_isSign (28 : Int32) F G) ?_
  intro r1 F1 G1 hM1
  dsimp only
  exact nqj_function_258 ag_177 hag_177 x1 (z1 + z0) (x5 + (1 : Int32)) r1 F1 G1 (MFS.tr hM (MFS.kx hM1 rfl rfl rfl rfl))
theorem nqj_function_241 {fu : Nat} {F0 : PF} (ag_177 : Int32 → Int32 → Int32 → Int32 → PF → PG → PR) (hag_177 : ∀ (x1 : Int32) (x4 : Int32) (x5 : Int32) (x6 : Int32) (F : PF) (G : PG) (hM : MFS F0 F), PP (ag_177 x1 x4 x5 x6 F G) (fun _ F' _ => MFS F0 F')) (x1 : Int32) (x5 : Int32) (z0 : Int32) (F : PF) (G : PG) (hM : MFS F0 F) : PP (mb_function_241 fu ag_177 x1 x5 z0 F G) (fun _ F' _ => MFS F0 F') := by
  unfold mb_function_241
  exact nqj_function_246 ag_177 hag_177 x1 x5 (1 : Int32) z0 F G hM
theorem nqj_function_245 {fu : Nat} {F0 : PF} (ag_177 : Int32 → Int32 → Int32 → Int32 → PF → PG → PR) (hag_177 : ∀ (x1 : Int32) (x4 : Int32) (x5 : Int32) (x6 : Int32) (F : PF) (G : PG) (hM : MFS F0 F), PP (ag_177 x1 x4 x5 x6 F G) (fun _ F' _ => MFS F0 F')) (x1 : Int32) (x5 : Int32) (z0 : Int32) (F : PF) (G : PG) (hM : MFS F0 F) : PP (mb_function_245 fu ag_177 x1 x5 z0 F G) (fun _ F' _ => MFS F0 F') := by
  unfold mb_function_245
  exact nqj_function_246 ag_177 hag_177 x1 x5 (2 : Int32) z0 F G hM
theorem nqj_function_234 {fu : Nat} {F0 : PF} (ag_177 : Int32 → Int32 → Int32 → Int32 → PF → PG → PR) (hag_177 : ∀ (x1 : Int32) (x4 : Int32) (x5 : Int32) (x6 : Int32) (F : PF) (G : PG) (hM : MFS F0 F), PP (ag_177 x1 x4 x5 x6 F G) (fun _ F' _ => MFS F0 F')) (x1 : Int32) (x4 : Int32) (x5 : Int32) (x7 : Int32) (F : PF) (G : PG) (hM : MFS F0 F) : PP (mb_function_234 fu ag_177 x1 x4 x5 x7 F G) (fun _ F' _ => MFS F0 F') := by
  unfold mb_function_234
  refine PP.ite (fun c_1 => ?_) (fun c_1 => ?_)
  · skip
    exact nqj_function_241 ag_177 hag_177 x1 x5 x4 F G hM
  · skip
    exact nqj_function_245 ag_177 hag_177 x1 x5 x4 F G hM
theorem nqj_function_224 {fu : Nat} {F0 : PF} (ag_177 : Int32 → Int32 → Int32 → Int32 → PF → PG → PR) (hag_177 : ∀ (x1 : Int32) (x4 : Int32) (x5 : Int32) (x6 : Int32) (F : PF) (G : PG) (hM : MFS F0 F), PP (ag_177 x1 x4 x5 x6 F G) (fun _ F' _ => MFS F0 F')) (x1 : Int32) (x4 : Int32) (x5 : Int32) (x7 : Int32) (F : PF) (G : PG) (hM : MFS F0 F) : PP (mb_function_224 fu ag_177 x1 x4 x5 x7 F G) (fun _ F' _ => MFS F0 F') := by
  unfold mb_function_224
  exact nqj_function_234 ag_177 hag_177 x1 x4 x5 x7 (fup F 35 ((F 35) + (1 : Int32))) G (MFS.f (k := 35) rfl hM)
theorem nqj_function_213 {fu : Nat} {F0 : PF} (ag_177 : Int32 → Int32 → Int32 → Int32 → PF → PG → PR) (hag_177 : ∀ (x1 : Int32) (x4 : Int32) (x5 : Int32) (x6 : Int32) (F : PF) (G : PG) (hM : MFS F0 F), PP (ag_177 x1 x4 x5 x6 F G) (fun _ F' _ => MFS F0 F')) (x1 : Int32) (x4 : Int32) (x5 : Int32) (x7 : Int32) (F : PF) (G : PG) (hM : MFS F0 F) : PP (mb_function_213 fu ag_177 x1 x4 x5 x7 F G) (fun _ F' _ => MFS F0 F') := by
  unfold mb_function_213
  refine PP.ix (fun _ => ?_)
  exact nqj_function_224 ag_177 hag_177 x1 x4 x5 x7 F (gup G 34 (F 35).toNatClampNeg x7) hM
theorem nqj_function_206 {fu : Nat} {F0 : PF} (ag_177 : Int32 → Int32 → Int32 → Int32 → PF → PG → PR) (hag_177 : ∀ (x1 : Int32) (x4 : Int32) (x5 : Int32) (x6 : Int32) (F : PF) (G : PG) (hM : MFS F0 F), PP (ag_177 x1 x4 x5 x6 F G) (fun _ F' _ => MFS F0 F')) (x1 : Int32) (x4 : Int32) (x5 : Int32) (x7 : Int32) (F : PF) (G : PG) (hM : MFS F0 F) : PP (mb_function_206 fu ag_177 x1 x4 x5 x7 F G) (fun _ F' _ => MFS F0 F') := by
  unfold mb_function_206
  refine PP.ite (fun c_1 => ?_) (fun c_1 => ?_)
  · skip
    exact nqj_function_213 ag_177 hag_177 x1 x4 x5 x7 F G hM
  · skip
    exact nqj_function_234 ag_177 hag_177 x1 x4 x5 x7 F G hM
theorem nqj_function_204 {fu : Nat} {F0 : PF} (F : PF) (G : PG) (hM : MFS F0 F) : PP (mb_function_204 fu F G) (fun _ F' _ => MFS F0 F') := by
  unfold mb_function_204
  refine PP.ret ?_
  exact hM
theorem nqj_function_195 {fu : Nat} {F0 : PF} (ag_177 : Int32 → Int32 → Int32 → Int32 → PF → PG → PR) (hag_177 : ∀ (x1 : Int32) (x4 : Int32) (x5 : Int32) (x6 : Int32) (F : PF) (G : PG) (hM : MFS F0 F), PP (ag_177 x1 x4 x5 x6 F G) (fun _ F' _ => MFS F0 F')) (x1 : Int32) (x4 : Int32) (x5 : Int32) (z0 : Int32) (F : PF) (G : PG) (hM : MFS F0 F) : PP (mb_function_195 fu ag_177 x1 x4 x5 z0 F G) (fun _ F' _ => MFS F0 F') := by
  unfold mb_function_195
  refine PP.ite (fun c_1 => ?_) (fun c_1 => ?_)
  · skip
    exact nqj_function_206 ag_177 hag_177 x1 x4 x5 z0 F G hM
  · skip
    exact nqj_function_204 F G hM
theorem nqj_function_189 {fu : Nat} {F0 : PF} (ag_177 : Int32 → Int32 → Int32 → Int32 → PF → PG → PR) (hag_177 : ∀ (x1 : Int32) (x4 : Int32) (x5 : Int32) (x6 : Int32) (F : PF) (G : PG) (hM : MFS F0 F), PP (ag_177 x1 x4 x5 x6 F G) (fun _ F' _ => MFS F0 F')) (x1 : Int32) (x4 : Int32) (x5 : Int32) (F : PF) (G : PG) (hM : MFS F0 F) : PP (mb_function_189 fu ag_177 x1 x4 x5 F G) (fun _ F' _ => MFS F0 F') := by
  unfold mb_function_189
  refine PP.bind (nq_formalHere x5 F G) ?_
  intro r1 F1 G1 hM1
  dsimp only
  exact nqj_function_195 ag_177 hag_177 x1 x4 x5 r1 F1 G1 (MFS.tr hM hM1)
theorem nqj_function_182 {fu : Nat} {F0 : PF} (ag_177 : Int32 → Int32 → Int32 → Int32 → PF → PG → PR) (hag_177 : ∀ (x1 : Int32) (x4 : Int32) (x5 : Int32) (x6 : Int32) (F : PF) (G : PG) (hM : MFS F0 F), PP (ag_177 x1 x4 x5 x6 F G) (fun _ F' _ => MFS F0 F')) (x1 : Int32) (x4 : Int32) (x5 : Int32) (F : PF) (G : PG) (hM : MFS F0 F) : PP (mb_function_182 fu ag_177 x1 x4 x5 F G) (fun _ F' _ => MFS F0 F') := by
  unfold mb_function_182
  refine PP.ite (fun c_1 => ?_) (fun c_1 => ?_)
  · skip
    exact nqj_function_189 ag_177 hag_177 x1 x4 x5 F G hM
  · skip
    exact nqj_function_282 x1 x4 x5 F G hM
theorem nqz_function_177 {fu : Nat} {F0 : PF} : ∀ (n : Nat) (x1 : Int32) (x4 : Int32) (x5 : Int32) (x6 : Int32) (F : PF) (G : PG) (hM : MFS F0 F), PP (ml_function_177 fu n x1 x4 x5 x6 F G) (fun _ F' _ => MFS F0 F') := by
  intro n
  induction n with
  | zero =>
    intro x1 x4 x5 x6 F G hM
    exact PP.no
  | succ n ihn =>
    intro x1 x4 x5 x6 F G hM
    show PP (mb_function_177 fu (ml_function_177 fu n) x1 x4 x5 x6 F G) _
    unfold mb_function_177
    refine PP.ite (fun c_1 => ?_) (fun c_1 => ?_)
    · skip
      exact nqj_function_282 x1 x4 x5 F G hM
    · skip
      exact nqj_function_182 (ml_function_177 fu n) ihn x1 x4 x5 F G hM
theorem nqj_function_174 {fu : Nat} {F0 : PF} (x1 : Int32) (x4 : Int32) (x5 : Int32) (F : PF) (G : PG) (hM : MFS F0 F) : PP (mb_function_174 fu x1 x4 x5 F G) (fun _ F' _ => MFS F0 F') := by
  unfold mb_function_174
  exact nqz_function_177 fu x1 x4 x5 (1 : Int32) F G hM
theorem nqj_function_164 {fu : Nat} {F0 : PF} (x1 : Int32) (x4 : Int32) (x5 : Int32) (F : PF) (G : PG) (hM : MFS F0 F) : PP (mb_function_164 fu x1 x4 x5 F G) (fun _ F' _ => MFS F0 F') := by
  unfold mb_function_164
  refine PP.ix (fun _ => ?_)
  exact nqj_function_174 x1 x4 x5 F (gup G 32 x1.toNatClampNeg (F 42)) hM
theorem nqj_function_157 {fu : Nat} {F0 : PF} (x1 : Int32) (x4 : Int32) (x5 : Int32) (F : PF) (G : PG) (hM : MFS F0 F) : PP (mb_function_157 fu x1 x4 x5 F G) (fun _ F' _ => MFS F0 F') := by
  unfold mb_function_157
  refine PP.ite (fun c_1 => ?_) (fun c_1 => ?_)
  · skip
    exact nqj_function_164 x1 x4 x5 F G hM
  · skip
    exact nqj_function_174 x1 x4 x5 F G hM
theorem nqj_function_154 {fu : Nat} {F0 : PF} (x1 : Int32) (x4 : Int32) (x5 : Int32) (z0 : Int32) (F : PF) (G : PG) (hM : MFS F0 F) : PP (mb_function_154 fu x1 x4 x5 z0 F G) (fun _ F' _ => MFS F0 F') := by
  unfold mb_function_154
  refine PP.ite (fun c_1 => ?_) (fun c_1 => ?_)
  · skip
    exact nqj_function_157 x1 x4 x5 F G hM
  · skip
    exact nqj_function_282 x1 x4 x5 F G hM
theorem nqj_function_142 {fu : Nat} {F0 : PF} (x1 : Int32) (F : PF) (G : PG) (hM : MFS F0 F) : PP (mb_function_142 fu x1 F G) (fun _ F' _ => MFS F0 F') := by
  unfold mb_function_142
  refine PP.bind (mw_isSign (23 : Int32) F G) ?_
  intro r1 F1 G1 hM1
  dsimp only
  exact nqj_function_154 x1 (4 : Int32) (0 : Int32) r1 F1 G1 (MFS.tr hM (MFS.kx hM1 rfl rfl rfl rfl))
theorem nqj_function_137 {fu : Nat} {F0 : PF} (x1 : Int32) (z0 : Int32) (F : PF) (G : PG) (hM : MFS F0 F) : PP (mb_function_137 fu x1 z0 F G) (fun _ F' _ => MFS F0 F') := by
  unfold mb_function_137
  refine PP.ite (fun c_1 => ?_) (fun c_1 => ?_)
  · skip
    exact nqj_function_140 F G hM
  · skip
    exact nqj_function_142 x1 F G hM
theorem nqj_function_131 {fu : Nat} {F0 : PF} (x1 : Int32) (F : PF) (G : PG) (hM : MFS F0 F) : PP (mb_function_131 fu x1 F G) (fun _ F' _ => MFS F0 F') := by
  unfold mb_function_131
  refine PP.bind (nq_openSign (22 : Int32) F G) ?_
  intro r1 F1 G1 hM1
  dsimp only
  exact nqj_function_137 x1 r1 F1 G1 (MFS.tr hM hM1)
theorem nqj_function_127 {fu : Nat} {F0 : PF} (x1 : Int32) (F : PF) (G : PG) (hM : MFS F0 F) : PP (mb_function_127 fu x1 F G) (fun _ F' _ => MFS F0 F') := by
  unfold mb_function_127
  refine PP.bind (mw_begins F G) ?_
  intro r1 F1 G1 hM1
  dsimp only
  exact nqj_function_131 x1 F1 G1 (MFS.tr hM (MFS.kx hM1 rfl rfl rfl rfl))
theorem nqj_function_122 {fu : Nat} {F0 : PF} (x1 : Int32) (F : PF) (G : PG) (hM : MFS F0 F) : PP (mb_function_122 fu x1 F G) (fun _ F' _ => MFS F0 F') := by
  unfold mb_function_122
  exact nqj_function_127 x1 (fup F 51 (0 : Int32)) G (MFS.f (k := 51) rfl hM)
theorem nqj_function_117 {fu : Nat} {F0 : PF} (x1 : Int32) (F : PF) (G : PG) (hM : MFS F0 F) : PP (mb_function_117 fu x1 F G) (fun _ F' _ => MFS F0 F') := by
  unfold mb_function_117
  exact nqj_function_122 x1 (fup F 53 (0 : Int32)) G (MFS.f (k := 53) rfl hM)
theorem nqj_function_112 {fu : Nat} {F0 : PF} (x1 : Int32) (F : PF) (G : PG) (hM : MFS F0 F) : PP (mb_function_112 fu x1 F G) (fun _ F' _ => MFS F0 F') := by
  unfold mb_function_112
  exact nqj_function_117 x1 (fup F 52 (0 : Int32)) G (MFS.f (k := 52) rfl hM)
theorem nqj_function_107 {fu : Nat} {F0 : PF} (x1 : Int32) (F : PF) (G : PG) (hM : MFS F0 F) : PP (mb_function_107 fu x1 F G) (fun _ F' _ => MFS F0 F') := by
  unfold mb_function_107
  exact nqj_function_112 x1 (fup F 64 (-1 : Int32)) G (MFS.f (k := 64) rfl hM)
theorem nqj_function_102 {fu : Nat} {F0 : PF} (x1 : Int32) (F : PF) (G : PG) (hM : MFS F0 F) : PP (mb_function_102 fu x1 F G) (fun _ F' _ => MFS F0 F') := by
  unfold mb_function_102
  exact nqj_function_107 x1 (fup F 63 (-1 : Int32)) G (MFS.f (k := 63) rfl hM)
theorem nqj_function_97 {fu : Nat} {F0 : PF} (x1 : Int32) (F : PF) (G : PG) (hM : MFS F0 F) : PP (mb_function_97 fu x1 F G) (fun _ F' _ => MFS F0 F') := by
  unfold mb_function_97
  exact nqj_function_102 x1 (fup F 50 x1) G (MFS.f (k := 50) rfl hM)
theorem nqj_function_90 {fu : Nat} {F0 : PF} (x1 : Int32) (F : PF) (G : PG) (hM : MFS F0 F) : PP (mb_function_90 fu x1 F G) (fun _ F' _ => MFS F0 F') := by
  unfold mb_function_90
  exact nqj_function_97 x1 (fup F 24 (x1 + (1 : Int32))) G (MFS.f (k := 24) rfl hM)
theorem nqj_function_83 {fu : Nat} {F0 : PF} (x1 : Int32) (F : PF) (G : PG) (hM : MFS F0 F) : PP (mb_function_83 fu x1 F G) (fun _ F' _ => MFS F0 F') := by
  unfold mb_function_83
  refine PP.ix (fun _ => ?_)
  exact nqj_function_90 x1 F (gup G 32 x1.toNatClampNeg (-1 : Int32)) hM
theorem nqj_function_76 {fu : Nat} {F0 : PF} (x1 : Int32) (F : PF) (G : PG) (hM : MFS F0 F) : PP (mb_function_76 fu x1 F G) (fun _ F' _ => MFS F0 F') := by
  unfold mb_function_76
  refine PP.ix (fun _ => ?_)
  exact nqj_function_83 x1 F (gup G 27 x1.toNatClampNeg (0 : Int32)) hM
theorem nqj_function_66 {fu : Nat} {F0 : PF} (x1 : Int32) (F : PF) (G : PG) (hM : MFS F0 F) : PP (mb_function_66 fu x1 F G) (fun _ F' _ => MFS F0 F') := by
  unfold mb_function_66
  refine PP.ix (fun _ => ?_)
  exact nqj_function_76 x1 F (gup G 31 x1.toNatClampNeg (F 35)) hM
theorem nqj_function_59 {fu : Nat} {F0 : PF} (x1 : Int32) (x3 : Int32) (F : PF) (G : PG) (hM : MFS F0 F) : PP (mb_function_59 fu x1 x3 F G) (fun _ F' _ => MFS F0 F') := by
  unfold mb_function_59
  refine PP.ix (fun _ => ?_)
  exact nqj_function_66 x1 F (gup G 33 x1.toNatClampNeg (vp_nar .boolean x3)) hM
theorem nqj_function_47 {fu : Nat} {F0 : PF} (x1 : Int32) (x2 : Int32) (x3 : Int32) (F : PF) (G : PG) (hM : MFS F0 F) : PP (mb_function_47 fu x1 x2 x3 F G) (fun _ F' _ => MFS F0 F') := by
  unfold mb_function_47
  refine PP.ix (fun _ => ?_)
  refine PP.ix (fun _ => ?_)
  exact nqj_function_59 x1 x3 F (gup G 26 x1.toNatClampNeg (G 6 x2.toNatClampNeg)) hM
theorem nqj_function_35 {fu : Nat} {F0 : PF} (x1 : Int32) (x2 : Int32) (x3 : Int32) (F : PF) (G : PG) (hM : MFS F0 F) : PP (mb_function_35 fu x1 x2 x3 F G) (fun _ F' _ => MFS F0 F') := by
  unfold mb_function_35
  refine PP.ix (fun _ => ?_)
  refine PP.ix (fun _ => ?_)
  exact nqj_function_47 x1 x2 x3 F (gup G 25 x1.toNatClampNeg (G 5 x2.toNatClampNeg)) hM
theorem nqj_function_28 {fu : Nat} {F0 : PF} (x1 : Int32) (x2 : Int32) (x3 : Int32) (F : PF) (G : PG) (hM : MFS F0 F) : PP (mb_function_28 fu x1 x2 x3 F G) (fun _ F' _ => MFS F0 F') := by
  unfold mb_function_28
  refine PP.ite (fun c_1 => ?_) (fun c_1 => ?_)
  · skip
    exact nqj_function_35 x1 x2 x3 F G hM
  · skip
    exact nqj_function_97 x1 F G hM
theorem nqj_function_16 {fu : Nat} {F0 : PF} (x1 : Int32) (x2 : Int32) (x3 : Int32) (F : PF) (G : PG) (hM : MFS F0 F) : PP (mb_function_16 fu x1 x2 x3 F G) (fun _ F' _ => MFS F0 F') := by
  unfold mb_function_16
  refine PP.ix (fun _ => ?_)
  refine PP.bind (nq_note (11 : Int32) (G 6 x2.toNatClampNeg) (by decide) F G) ?_
  intro r1 F1 G1 hM1
  dsimp only
  exact nqj_function_28 x1 x2 x3 F1 G1 (MFS.tr hM hM1)
theorem nqj_function_10 {fu : Nat} {F0 : PF} (x1 : Int32) (x2 : Int32) (x3 : Int32) (F : PF) (G : PG) (hM : MFS F0 F) : PP (mb_function_10 fu x1 x2 x3 F G) (fun _ F' _ => MFS F0 F') := by
  unfold mb_function_10
  refine PP.ite (fun c_1 => ?_) (fun c_1 => ?_)
  · skip
    exact nqj_function_28 x1 x2 x3 F G hM
  · skip
    exact nqj_function_16 x1 x2 x3 F G hM
theorem nqj_function_5 {fu : Nat} {F0 : PF} (x1 : Int32) (x2 : Int32) (x3 : Int32) (F : PF) (G : PG) (hM : MFS F0 F) : PP (mb_function_5 fu x1 x2 x3 F G) (fun _ F' _ => MFS F0 F') := by
  unfold mb_function_5
  refine PP.bind (nq_twice x2 F G) ?_
  intro r1 F1 G1 hM1
  dsimp only
  exact nqj_function_10 x1 x2 x3 F1 G1 (MFS.tr hM hM1)
theorem nq_function {fu : Nat} (x1 : Int32) (x2 : Int32) (x3 : Int32) (F : PF) (G : PG) : PP (mf_function fu x1 x2 x3 F G) (fun _ F' _ => MFS F F') := by
  unfold mf_function
  unfold mb_function_0
  exact nqj_function_5 x1 x2 x3 (fup F 61 (1 : Int32)) G (MFS.f (k := 61) rfl MFS.rf)
theorem nqj_tells_69 {fu : Nat} {F0 : PF} (z0 : Int32) (F : PF) (G : PG) (hM : MFS F0 F) : PP (mb_tells_69 fu z0 F G) (fun _ F' _ => MFS F0 F') := by
  unfold mb_tells_69
  refine PP.bz (fun _ => ?_)
  refine PP.ret ?_
  exact hM
theorem nqj_tells_64 {fu : Nat} {F0 : PF} (F : PF) (G : PG) (hM : MFS F0 F) : PP (mb_tells_64 fu F G) (fun _ F' _ => MFS F0 F') := by
  unfold mb_tells_64
  refine PP.bind (nq_fails (2 : Int32) (by decide) F G) ?_
  intro r1 F1 G1 hM1
  dsimp only
  exact nqj_tells_69 r1 F1 G1 (MFS.tr hM hM1)
theorem nqj_tells_293 {fu : Nat} {F0 : PF} (z0 : Int32) (F : PF) (G : PG) (hM : MFS F0 F) : PP (mb_tells_293 fu z0 F G) (fun _ F' _ => MFS F0 F') := by
  unfold mb_tells_293
  refine PP.bz (fun _ => ?_)
  refine PP.ret ?_
  exact hM
theorem nqj_tells_292 {fu : Nat} {F0 : PF} (F : PF) (G : PG) (hM : MFS F0 F) : PP (mb_tells_292 fu F G) (fun _ F' _ => MFS F0 F') := by
  unfold mb_tells_292
  exact nqj_tells_293 (0 : Int32) F G hM
theorem nqj_tells_288 {fu : Nat} {F0 : PF} (F : PF) (G : PG) (hM : MFS F0 F) : PP (mb_tells_288 fu F G) (fun _ F' _ => MFS F0 F') := by
  unfold mb_tells_288
  exact nqj_tells_293 (1 : Int32) F G hM
theorem nqj_tells_285 {fu : Nat} {F0 : PF} (z0 : Int32) (F : PF) (G : PG) (hM : MFS F0 F) : PP (mb_tells_285 fu z0 F G) (fun _ F' _ => MFS F0 F') := by
  unfold mb_tells_285
  refine PP.ite (fun c_1 => ?_) (fun c_1 => ?_)
  · skip
    exact nqj_tells_292 F G hM
  · skip
    exact nqj_tells_288 F G hM
theorem nqj_tells_279 {fu : Nat} {F0 : PF} (F : PF) (G : PG) (hM : MFS F0 F) : PP (mb_tells_279 fu F G) (fun _ F' _ => MFS F0 F') := by
  unfold mb_tells_279
  refine PP.bind (nq_sign (29 : Int32) F G) ?_
  intro r1 F1 G1 hM1
  dsimp only
  exact nqj_tells_285 r1 F1 G1 (MFS.tr hM hM1)
theorem nqj_tells_276 {fu : Nat} {F0 : PF} (z0 : Int32) (F : PF) (G : PG) (hM : MFS F0 F) : PP (mb_tells_276 fu z0 F G) (fun _ F' _ => MFS F0 F') := by
  unfold mb_tells_276
  refine PP.ite (fun c_1 => ?_) (fun c_1 => ?_)
  · skip
    exact nqj_tells_292 F G hM
  · skip
    exact nqj_tells_279 F G hM
theorem nqj_tells_269 {fu : Nat} {F0 : PF} (x3 : Int32) (x4 : Int32) (F : PF) (G : PG) (hM : MFS F0 F) : PP (mb_tells_269 fu x3 x4 F G) (fun _ F' _ => MFS F0 F') := by
  unfold mb_tells_269
  refine PP.bind (nq_array x4 x3 F G) ?_
  intro r1 F1 G1 hM1
  dsimp only
  exact nqj_tells_276 r1 F1 G1 (MFS.tr hM hM1)
theorem nqj_tells_268 {fu : Nat} {F0 : PF} (z0 : Int32) (F : PF) (G : PG) (hM : MFS F0 F) : PP (mb_tells_268 fu z0 F G) (fun _ F' _ => MFS F0 F') := by
  unfold mb_tells_268
  refine PP.bz (fun _ => ?_)
  refine PP.ret ?_
  exact hM
theorem nqj_tells_262 {fu : Nat} {F0 : PF} (F : PF) (G : PG) (hM : MFS F0 F) : PP (mb_tells_262 fu F G) (fun _ F' _ => MFS F0 F') := by
  unfold mb_tells_262
  refine PP.bind (nq_sign (29 : Int32) F G) ?_
  intro r1 F1 G1 hM1
  dsimp only
  exact nqj_tells_268 r1 F1 G1 (MFS.tr hM hM1)
theorem nqj_tells_256 {fu : Nat} {F0 : PF} (z0 : Int32) (z2 : Int32) (z3 : Int32) (z4 : Int32) (F : PF) (G : PG) (hM : MFS F0 F) : PP (mb_tells_256 fu z0 z2 z3 z4 F G) (fun _ F' _ => MFS F0 F') := by
  unfold mb_tells_256
  refine PP.ix (fun _ => ?_)
  refine PP.bind (mw_declare z4 z3 z2 (G 39 z0.toNatClampNeg) (1 : Int32) (0 : Int32) F G) ?_
  intro r1 F1 G1 hM1
  dsimp only
  exact nqj_tells_262 F1 G1 (MFS.tr hM (MFS.kx hM1 rfl rfl rfl rfl))
theorem nqj_tells_239 {fu : Nat} {F0 : PF} (x4 : Int32) (x5 : Int32) (F : PF) (G : PG) (hM : MFS F0 F) : PP (mb_tells_239 fu x4 x5 F G) (fun _ F' _ => MFS F0 F') := by
  unfold mb_tells_239
  exact nqj_tells_256 (if (2000 : Int32) < x5 then (2000 : Int32) else x5) (0 : Int32) (1 : Int32) x4 F G hM
theorem nqj_tells_225 {fu : Nat} {F0 : PF} (x4 : Int32) (x5 : Int32) (x6 : Int32) (F : PF) (G : PG) (hM : MFS F0 F) : PP (mb_tells_225 fu x4 x5 x6 F G) (fun _ F' _ => MFS F0 F') := by
  unfold mb_tells_225
  refine PP.ix (fun _ => ?_)
  refine PP.ix (fun _ => ?_)
  exact nqj_tells_239 x4 x5 F (gup G 41 (G 39 x5.toNatClampNeg).toNatClampNeg x6) hM
theorem nqj_tells_217 {fu : Nat} {F0 : PF} (x4 : Int32) (x5 : Int32) (x6 : Int32) (F : PF) (G : PG) (hM : MFS F0 F) : PP (mb_tells_217 fu x4 x5 x6 F G) (fun _ F' _ => MFS F0 F') := by
  unfold mb_tells_217
  refine PP.ite (fun c_1 => ?_) (fun c_1 => ?_)
  · skip
    exact nqj_tells_239 x4 x5 F G hM
  · skip
    exact nqj_tells_225 x4 x5 x6 F G hM
theorem nqj_tells_210 {fu : Nat} {F0 : PF} (x4 : Int32) (x5 : Int32) (x6 : Int32) (F : PF) (G : PG) (hM : MFS F0 F) : PP (mb_tells_210 fu x4 x5 x6 F G) (fun _ F' _ => MFS F0 F') := by
  unfold mb_tells_210
  refine PP.ite (fun c_1 => ?_) (fun c_1 => ?_)
  · skip
    exact nqj_tells_239 x4 x5 F G hM
  · skip
    exact nqj_tells_217 x4 x5 x6 F G hM
theorem nqj_tells_208 {fu : Nat} {F0 : PF} (F : PF) (G : PG) (hM : MFS F0 F) : PP (mb_tells_208 fu F G) (fun _ F' _ => MFS F0 F') := by
  unfold mb_tells_208
  refine PP.ret ?_
  exact hM
theorem nqj_tells_199 {fu : Nat} {F0 : PF} (x4 : Int32) (x5 : Int32) (z0 : Int32) (F : PF) (G : PG) (hM : MFS F0 F) : PP (mb_tells_199 fu x4 x5 z0 F G) (fun _ F' _ => MFS F0 F') := by
  unfold mb_tells_199
  refine PP.ite (fun c_1 => ?_) (fun c_1 => ?_)
  · skip
    exact nqj_tells_210 x4 x5 z0 F G hM
  · skip
    exact nqj_tells_208 F G hM
theorem nqj_tells_195 {fu : Nat} {F0 : PF} (x4 : Int32) (x5 : Int32) (F : PF) (G : PG) (hM : MFS F0 F) : PP (mb_tells_195 fu x4 x5 F G) (fun _ F' _ => MFS F0 F') := by
  unfold mb_tells_195
  refine PP.bind (nq_value F G) ?_
  intro r1 F1 G1 hM1
  dsimp only
  exact nqj_tells_199 x4 x5 r1 F1 G1 (MFS.tr hM hM1)
theorem nqj_tells_183 {fu : Nat} {F0 : PF} (x4 : Int32) (z0 : Int32) (F : PF) (G : PG) (hM : MFS F0 F) : PP (mb_tells_183 fu x4 z0 F G) (fun _ F' _ => MFS F0 F') := by
  unfold mb_tells_183
  exact nqj_tells_195 x4 z0 (fup F 42 ((F 42) + (1 : Int32))) G (MFS.f (k := 42) rfl hM)
theorem nqj_tells_177 {fu : Nat} {F0 : PF} (x4 : Int32) (F : PF) (G : PG) (hM : MFS F0 F) : PP (mb_tells_177 fu x4 F G) (fun _ F' _ => MFS F0 F') := by
  unfold mb_tells_177
  refine PP.bind (nq_globalAt x4 F G) ?_
  intro r1 F1 G1 hM1
  dsimp only
  exact nqj_tells_183 x4 r1 F1 G1 (MFS.tr hM hM1)
theorem nqj_tells_174 {fu : Nat} {F0 : PF} (x3 : Int32) (x4 : Int32) (z0 : Int32) (F : PF) (G : PG) (hM : MFS F0 F) : PP (mb_tells_174 fu x3 x4 z0 F G) (fun _ F' _ => MFS F0 F') := by
  unfold mb_tells_174
  refine PP.ite (fun c_1 => ?_) (fun c_1 => ?_)
  · skip
    exact nqj_tells_269 x3 x4 F G hM
  · skip
    exact nqj_tells_177 x4 F G hM
theorem nqj_tells_168 {fu : Nat} {F0 : PF} (x3 : Int32) (x4 : Int32) (F : PF) (G : PG) (hM : MFS F0 F) : PP (mb_tells_168 fu x3 x4 F G) (fun _ F' _ => MFS F0 F') := by
  unfold mb_tells_168
  refine PP.bind (mw_isSign (32 : Int32) F G) ?_
  intro r1 F1 G1 hM1
  dsimp only
  exact nqj_tells_174 x3 x4 r1 F1 G1 (MFS.tr hM (MFS.kx hM1 rfl rfl rfl rfl))
theorem nqj_tells_164 {fu : Nat} {F0 : PF} (x3 : Int32) (x4 : Int32) (F : PF) (G : PG) (hM : MFS F0 F) : PP (mb_tells_164 fu x3 x4 F G) (fun _ F' _ => MFS F0 F') := by
  unfold mb_tells_164
  refine PP.ite (fun c_1 => ?_) (fun c_1 => ?_)
  · skip
    exact nqj_tells_168 x3 x4 F G hM
  · skip
    exact nqj_tells_269 x3 x4 F G hM
theorem nqj_tells_163 {fu : Nat} {F0 : PF} (z0 : Int32) (F : PF) (G : PG) (hM : MFS F0 F) : PP (mb_tells_163 fu z0 F G) (fun _ F' _ => MFS F0 F') := by
  unfold mb_tells_163
  refine PP.bz (fun _ => ?_)
  refine PP.ret ?_
  exact hM
theorem nqj_tells_162 {fu : Nat} {F0 : PF} (F : PF) (G : PG) (hM : MFS F0 F) : PP (mb_tells_162 fu F G) (fun _ F' _ => MFS F0 F') := by
  unfold mb_tells_162
  exact nqj_tells_163 (0 : Int32) F G hM
theorem nqj_tells_158 {fu : Nat} {F0 : PF} (F : PF) (G : PG) (hM : MFS F0 F) : PP (mb_tells_158 fu F G) (fun _ F' _ => MFS F0 F') := by
  unfold mb_tells_158
  exact nqj_tells_163 (1 : Int32) F G hM
theorem nqj_tells_155 {fu : Nat} {F0 : PF} (z0 : Int32) (F : PF) (G : PG) (hM : MFS F0 F) : PP (mb_tells_155 fu z0 F G) (fun _ F' _ => MFS F0 F') := by
  unfold mb_tells_155
  refine PP.ite (fun c_1 => ?_) (fun c_1 => ?_)
  · skip
    exact nqj_tells_162 F G hM
  · skip
    exact nqj_tells_158 F G hM
theorem nqj_tells_149 {fu : Nat} {F0 : PF} (F : PF) (G : PG) (hM : MFS F0 F) : PP (mb_tells_149 fu F G) (fun _ F' _ => MFS F0 F') := by
  unfold mb_tells_149
  refine PP.bind (nq_sign (29 : Int32) F G) ?_
  intro r1 F1 G1 hM1
  dsimp only
  exact nqj_tells_155 r1 F1 G1 (MFS.tr hM hM1)
theorem nqj_tells_146 {fu : Nat} {F0 : PF} (z0 : Int32) (F : PF) (G : PG) (hM : MFS F0 F) : PP (mb_tells_146 fu z0 F G) (fun _ F' _ => MFS F0 F') := by
  unfold mb_tells_146
  refine PP.ite (fun c_1 => ?_) (fun c_1 => ?_)
  · skip
    exact nqj_tells_162 F G hM
  · skip
    exact nqj_tells_149 F G hM
theorem nqj_tells_140 {fu : Nat} {F0 : PF} (x4 : Int32) (F : PF) (G : PG) (hM : MFS F0 F) : PP (mb_tells_140 fu x4 F G) (fun _ F' _ => MFS F0 F') := by
  unfold mb_tells_140
  refine PP.bind (nq_globalInt x4 F G) ?_
  intro r1 F1 G1 hM1
  dsimp only
  exact nqj_tells_146 r1 F1 G1 (MFS.tr hM hM1)
theorem nqj_tells_137 {fu : Nat} {F0 : PF} (x3 : Int32) (x4 : Int32) (z0 : Int32) (F : PF) (G : PG) (hM : MFS F0 F) : PP (mb_tells_137 fu x3 x4 z0 F G) (fun _ F' _ => MFS F0 F') := by
  unfold mb_tells_137
  refine PP.ite (fun c_1 => ?_) (fun c_1 => ?_)
  · skip
    exact nqj_tells_164 x3 x4 F G hM
  · skip
    exact nqj_tells_140 x4 F G hM
theorem nqj_tells_131 {fu : Nat} {F0 : PF} (x3 : Int32) (x4 : Int32) (F : PF) (G : PG) (hM : MFS F0 F) : PP (mb_tells_131 fu x3 x4 F G) (fun _ F' _ => MFS F0 F') := by
  unfold mb_tells_131
  refine PP.bind (mw_isSign (29 : Int32) F G) ?_
  intro r1 F1 G1 hM1
  dsimp only
  exact nqj_tells_137 x3 x4 r1 F1 G1 (MFS.tr hM (MFS.kx hM1 rfl rfl rfl rfl))
theorem nqj_tells_127 {fu : Nat} {F0 : PF} (x3 : Int32) (x4 : Int32) (F : PF) (G : PG) (hM : MFS F0 F) : PP (mb_tells_127 fu x3 x4 F G) (fun _ F' _ => MFS F0 F') := by
  unfold mb_tells_127
  refine PP.ite (fun c_1 => ?_) (fun c_1 => ?_)
  · skip
    exact nqj_tells_131 x3 x4 F G hM
  · skip
    exact nqj_tells_164 x3 x4 F G hM
theorem nqj_tells_126 {fu : Nat} {F0 : PF} (z0 : Int32) (F : PF) (G : PG) (hM : MFS F0 F) : PP (mb_tells_126 fu z0 F G) (fun _ F' _ => MFS F0 F') := by
  unfold mb_tells_126
  refine PP.bz (fun _ => ?_)
  refine PP.ret ?_
  exact hM
theorem nqj_tells_121 {fu : Nat} {F0 : PF} (F : PF) (G : PG) (hM : MFS F0 F) : PP (mb_tells_121 fu F G) (fun _ F' _ => MFS F0 F') := by
  unfold mb_tells_121
  refine PP.bind (nq_fails (2 : Int32) (by decide) F G) ?_
  intro r1 F1 G1 hM1
  dsimp only
  exact nqj_tells_126 r1 F1 G1 (MFS.tr hM hM1)
theorem nqj_tells_117 {fu : Nat} {F0 : PF} (x2 : Int32) (x3 : Int32) (x4 : Int32) (F : PF) (G : PG) (hM : MFS F0 F) : PP (mb_tells_117 fu x2 x3 x4 F G) (fun _ F' _ => MFS F0 F') := by
  unfold mb_tells_117
  refine PP.ite (fun c_1 => ?_) (fun c_1 => ?_)
  · skip
    exact nqj_tells_127 x3 x4 F G hM
  · skip
    exact nqj_tells_121 F G hM
theorem nqj_tells_116 {fu : Nat} {F0 : PF} (z0 : Int32) (F : PF) (G : PG) (hM : MFS F0 F) : PP (mb_tells_116 fu z0 F G) (fun _ F' _ => MFS F0 F') := by
  unfold mb_tells_116
  refine PP.bz (fun _ => ?_)
  refine PP.ret ?_
  exact hM
theorem nqj_tells_108 {fu : Nat} {F0 : PF} (x1 : Int32) (x2 : Int32) (x4 : Int32) (F : PF) (G : PG) (hM : MFS F0 F) : PP (mb_tells_108 fu x1 x2 x4 F G) (fun _ F' _ => MFS F0 F') := by
  unfold mb_tells_108
  refine PP.bind (nq_function x1 x4 x2 F G) ?_
  intro r1 F1 G1 hM1
  dsimp only
  exact nqj_tells_116 r1 F1 G1 (MFS.tr hM hM1)
theorem nqj_tells_105 {fu : Nat} {F0 : PF} (x1 : Int32) (x2 : Int32) (x3 : Int32) (x4 : Int32) (z0 : Int32) (F : PF) (G : PG) (hM : MFS F0 F) : PP (mb_tells_105 fu x1 x2 x3 x4 z0 F G) (fun _ F' _ => MFS F0 F') := by
  unfold mb_tells_105
  refine PP.ite (fun c_1 => ?_) (fun c_1 => ?_)
  · skip
    exact nqj_tells_117 x2 x3 x4 F G hM
  · skip
    exact nqj_tells_108 x1 x2 x4 F G hM
theorem nqj_tells_99 {fu : Nat} {F0 : PF} (x1 : Int32) (x2 : Int32) (x3 : Int32) (x4 : Int32) (F : PF) (G : PG) (hM : MFS F0 F) : PP (mb_tells_99 fu x1 x2 x3 x4 F G) (fun _ F' _ => MFS F0 F') := by
  unfold mb_tells_99
  refine PP.bind (mw_isSign (22 : Int32) F G) ?_
  intro r1 F1 G1 hM1
  dsimp only
  exact nqj_tells_105 x1 x2 x3 x4 r1 F1 G1 (MFS.tr hM (MFS.kx hM1 rfl rfl rfl rfl))
theorem nqj_tells_95 {fu : Nat} {F0 : PF} (x1 : Int32) (x2 : Int32) (x3 : Int32) (x4 : Int32) (F : PF) (G : PG) (hM : MFS F0 F) : PP (mb_tells_95 fu x1 x2 x3 x4 F G) (fun _ F' _ => MFS F0 F') := by
  unfold mb_tells_95
  refine PP.ite (fun c_1 => ?_) (fun c_1 => ?_)
  · skip
    exact nqj_tells_99 x1 x2 x3 x4 F G hM
  · skip
    exact nqj_tells_117 x2 x3 x4 F G hM
theorem nqj_tells_93 {fu : Nat} {F0 : PF} (F : PF) (G : PG) (hM : MFS F0 F) : PP (mb_tells_93 fu F G) (fun _ F' _ => MFS F0 F') := by
  unfold mb_tells_93
  refine PP.ret ?_
  exact hM
theorem nqj_tells_84 {fu : Nat} {F0 : PF} (x1 : Int32) (x2 : Int32) (x3 : Int32) (z0 : Int32) (F : PF) (G : PG) (hM : MFS F0 F) : PP (mb_tells_84 fu x1 x2 x3 z0 F G) (fun _ F' _ => MFS F0 F') := by
  unfold mb_tells_84
  refine PP.ite (fun c_1 => ?_) (fun c_1 => ?_)
  · skip
    exact nqj_tells_95 x1 x2 x3 z0 F G hM
  · skip
    exact nqj_tells_93 F G hM
theorem nqj_tells_80 {fu : Nat} {F0 : PF} (x1 : Int32) (x2 : Int32) (x3 : Int32) (F : PF) (G : PG) (hM : MFS F0 F) : PP (mb_tells_80 fu x1 x2 x3 F G) (fun _ F' _ => MFS F0 F') := by
  unfold mb_tells_80
  refine PP.bind (nq_name F G) ?_
  intro r1 F1 G1 hM1
  dsimp only
  exact nqj_tells_84 x1 x2 x3 r1 F1 G1 (MFS.tr hM hM1)
theorem nqj_tells_70 {fu : Nat} {F0 : PF} (x1 : Int32) (x2 : Int32) (x3 : Int32) (F : PF) (G : PG) (hM : MFS F0 F) : PP (mb_tells_70 fu x1 x2 x3 F G) (fun _ F' _ => MFS F0 F') := by
  unfold mb_tells_70
  exact nqj_tells_80 x1 x2 x3 (fup F 42 ((F 42) + (1 : Int32))) G (MFS.f (k := 42) rfl hM)
theorem nqj_tells_61 {fu : Nat} {F0 : PF} (x1 : Int32) (x2 : Int32) (x3 : Int32) (z0 : Int32) (F : PF) (G : PG) (hM : MFS F0 F) : PP (mb_tells_61 fu x1 x2 x3 z0 F G) (fun _ F' _ => MFS F0 F') := by
  unfold mb_tells_61
  refine PP.ite (fun c_1 => ?_) (fun c_1 => ?_)
  · skip
    exact nqj_tells_64 F G hM
  · skip
    exact nqj_tells_70 x1 x2 x3 F G hM
theorem nqj_tells_56 {fu : Nat} {F0 : PF} (x1 : Int32) (x2 : Int32) (x3 : Int32) (F : PF) (G : PG) (hM : MFS F0 F) : PP (mb_tells_56 fu x1 x2 x3 F G) (fun _ F' _ => MFS F0 F') := by
  unfold mb_tells_56
  refine PP.bind (mw_isWord (0 : Int32) F G) ?_
  intro r1 F1 G1 hM1
  dsimp only
  exact nqj_tells_61 x1 x2 x3 r1 F1 G1 (MFS.tr hM (MFS.kx hM1 rfl rfl rfl rfl))
theorem nqj_tells_52 {fu : Nat} {F0 : PF} (x1 : Int32) (x2 : Int32) (x3 : Int32) (F : PF) (G : PG) (hM : MFS F0 F) : PP (mb_tells_52 fu x1 x2 x3 F G) (fun _ F' _ => MFS F0 F') := by
  unfold mb_tells_52
  refine PP.ite (fun c_1 => ?_) (fun c_1 => ?_)
  · skip
    exact nqj_tells_56 x1 x2 x3 F G hM
  · skip
    exact nqj_tells_70 x1 x2 x3 F G hM
theorem nqj_tells_47 {fu : Nat} {F0 : PF} (x1 : Int32) (x2 : Int32) (z0 : Int32) (F : PF) (G : PG) (hM : MFS F0 F) : PP (mb_tells_47 fu x1 x2 z0 F G) (fun _ F' _ => MFS F0 F') := by
  unfold mb_tells_47
  refine PP.ite (fun c_1 => ?_) (fun c_1 => ?_)
  · skip
    exact nqj_tells_52 x1 x2 z0 F G hM
  · skip
    exact nqj_tells_70 x1 x2 z0 F G hM
theorem nqj_tells_41 {fu : Nat} {F0 : PF} (x1 : Int32) (z0 : Int32) (F : PF) (G : PG) (hM : MFS F0 F) : PP (mb_tells_41 fu x1 z0 F G) (fun _ F' _ => MFS F0 F') := by
  unfold mb_tells_41
  refine PP.bind (mw_isWord (1 : Int32) F G) ?_
  intro r1 F1 G1 hM1
  dsimp only
  exact nqj_tells_47 x1 z0 r1 F1 G1 (MFS.tr hM (MFS.kx hM1 rfl rfl rfl rfl))
theorem nqj_tells_36 {fu : Nat} {F0 : PF} (x1 : Int32) (F : PF) (G : PG) (hM : MFS F0 F) : PP (mb_tells_36 fu x1 F G) (fun _ F' _ => MFS F0 F') := by
  unfold mb_tells_36
  refine PP.bind (mw_isWord (2 : Int32) F G) ?_
  intro r1 F1 G1 hM1
  dsimp only
  exact nqj_tells_41 x1 r1 F1 G1 (MFS.tr hM (MFS.kx hM1 rfl rfl rfl rfl))
theorem nqj_tells_35 {fu : Nat} {F0 : PF} (z0 : Int32) (F : PF) (G : PG) (hM : MFS F0 F) : PP (mb_tells_35 fu z0 F G) (fun _ F' _ => MFS F0 F') := by
  unfold mb_tells_35
  refine PP.bz (fun _ => ?_)
  refine PP.ret ?_
  exact hM
theorem nqj_tells_34 {fu : Nat} {F0 : PF} (F : PF) (G : PG) (hM : MFS F0 F) : PP (mb_tells_34 fu F G) (fun _ F' _ => MFS F0 F') := by
  unfold mb_tells_34
  exact nqj_tells_35 (0 : Int32) F G hM
theorem nqj_tells_30 {fu : Nat} {F0 : PF} (F : PF) (G : PG) (hM : MFS F0 F) : PP (mb_tells_30 fu F G) (fun _ F' _ => MFS F0 F') := by
  unfold mb_tells_30
  exact nqj_tells_35 (1 : Int32) F G hM
theorem nqj_tells_27 {fu : Nat} {F0 : PF} (z0 : Int32) (F : PF) (G : PG) (hM : MFS F0 F) : PP (mb_tells_27 fu z0 F G) (fun _ F' _ => MFS F0 F') := by
  unfold mb_tells_27
  refine PP.ite (fun c_1 => ?_) (fun c_1 => ?_)
  · skip
    exact nqj_tells_34 F G hM
  · skip
    exact nqj_tells_30 F G hM
theorem nqj_tells_23 {fu : Nat} {F0 : PF} (F : PF) (G : PG) (hM : MFS F0 F) : PP (mb_tells_23 fu F G) (fun _ F' _ => MFS F0 F') := by
  unfold mb_tells_23
  refine PP.bind (nq_constantTold F G) ?_
  intro r1 F1 G1 hM1
  dsimp only
  exact nqj_tells_27 r1 F1 G1 (MFS.tr hM hM1)
theorem nqj_tells_20 {fu : Nat} {F0 : PF} (z0 : Int32) (F : PF) (G : PG) (hM : MFS F0 F) : PP (mb_tells_20 fu z0 F G) (fun _ F' _ => MFS F0 F') := by
  unfold mb_tells_20
  refine PP.ite (fun c_1 => ?_) (fun c_1 => ?_)
  · skip
    exact nqj_tells_34 F G hM
  · skip
    exact nqj_tells_23 F G hM
theorem nqj_tells_14 {fu : Nat} {F0 : PF} (F : PF) (G : PG) (hM : MFS F0 F) : PP (mb_tells_14 fu F G) (fun _ F' _ => MFS F0 F') := by
  unfold mb_tells_14
  refine PP.bind (nq_word (0 : Int32) (1 : Int32) F G) ?_
  intro r1 F1 G1 hM1
  dsimp only
  exact nqj_tells_20 r1 F1 G1 (MFS.tr hM hM1)
theorem nqj_tells_11 {fu : Nat} {F0 : PF} (x1 : Int32) (z0 : Int32) (F : PF) (G : PG) (hM : MFS F0 F) : PP (mb_tells_11 fu x1 z0 F G) (fun _ F' _ => MFS F0 F') := by
  unfold mb_tells_11
  refine PP.ite (fun c_1 => ?_) (fun c_1 => ?_)
  · skip
    exact nqj_tells_36 x1 F G hM
  · skip
    exact nqj_tells_14 F G hM
theorem nqj_tells_5 {fu : Nat} {F0 : PF} (x1 : Int32) (F : PF) (G : PG) (hM : MFS F0 F) : PP (mb_tells_5 fu x1 F G) (fun _ F' _ => MFS F0 F') := by
  unfold mb_tells_5
  refine PP.bind (nq_word (3 : Int32) (0 : Int32) F G) ?_
  intro r1 F1 G1 hM1
  dsimp only
  exact nqj_tells_11 x1 r1 F1 G1 (MFS.tr hM hM1)
theorem nq_tells {fu : Nat} (x1 : Int32) (F : PF) (G : PG) : PP (mf_tells fu x1 F G) (fun _ F' _ => MFS F F') := by
  unfold mf_tells
  unfold mb_tells_0
  exact nqj_tells_5 x1 (fup F 61 (0 : Int32)) G (MFS.f (k := 61) rfl MFS.rf)
theorem nqj_texts_155 {fu : Nat} {F0 : PF} (z0 : Int32) (F : PF) (G : PG) (hM : MFS F0 F) : PP (mb_texts_155 fu z0 F G) (fun _ F' _ => MFS F0 F') := by
  unfold mb_texts_155
  refine PP.bz (fun _ => ?_)
  refine PP.ret ?_
  exact hM
theorem nqj_texts_150 {fu : Nat} {F0 : PF} (F : PF) (G : PG) (hM : MFS F0 F) : PP (mb_texts_150 fu F G) (fun _ F' _ => MFS F0 F') := by
  unfold mb_texts_150
  exact nqj_texts_155 (1 : Int32) F G hM
theorem nqj_texts_154 {fu : Nat} {F0 : PF} (F : PF) (G : PG) (hM : MFS F0 F) : PP (mb_texts_154 fu F G) (fun _ F' _ => MFS F0 F') := by
  unfold mb_texts_154
  exact nqj_texts_155 (0 : Int32) F G hM
theorem nqj_texts_147 {fu : Nat} {F0 : PF} (z0 : Int32) (F : PF) (G : PG) (hM : MFS F0 F) : PP (mb_texts_147 fu z0 F G) (fun _ F' _ => MFS F0 F') := by
  unfold mb_texts_147
  refine PP.ite (fun c_1 => ?_) (fun c_1 => ?_)
  · skip
    exact nqj_texts_154 F G hM
  · skip
    exact nqj_texts_150 F G hM
theorem nqj_texts_142 {fu : Nat} {F0 : PF} (F : PF) (G : PG) (hM : MFS F0 F) : PP (mb_texts_142 fu F G) (fun _ F' _ => MFS F0 F') := by
  unfold mb_texts_142
  refine PP.bind (nq_fails (1 : Int32) (by decide) F G) ?_
  intro r1 F1 G1 hM1
  dsimp only
  exact nqj_texts_147 r1 F1 G1 (MFS.tr hM hM1)
theorem nqj_texts_134 {fu : Nat} {F0 : PF} (F : PF) (G : PG) (hM : MFS F0 F) : PP (mb_texts_134 fu F G) (fun _ F' _ => MFS F0 F') := by
  unfold mb_texts_134
  refine PP.ite (fun c_1 => ?_) (fun c_1 => ?_)
  · skip
    exact nqj_texts_150 F G hM
  · skip
    exact nqj_texts_142 F G hM
theorem nqj_texts_127 {fu : Nat} {F0 : PF} (F : PF) (G : PG) (hM : MFS F0 F) : PP (mb_texts_127 fu F G) (fun _ F' _ => MFS F0 F') := by
  unfold mb_texts_127
  refine PP.ite (fun c_1 => ?_) (fun c_1 => ?_)
  · skip
    exact nqj_texts_134 F G hM
  · skip
    exact nqj_texts_154 F G hM
theorem nqj_texts_122 {fu : Nat} {F0 : PF} (ag_87 : Int32 → Int32 → PF → PG → PR) (hag_87 : ∀ (x1 : Int32) (x2 : Int32) (F : PF) (G : PG) (hM : MFS F0 F), PP (ag_87 x1 x2 F G) (fun _ F' _ => MFS F0 F')) (x2 : Int32) (z0 : Int32) (z1 : Int32) (F : PF) (G : PG) (hM : MFS F0 F) : PP (mb_texts_122 fu ag_87 x2 z0 z1 F G) (fun _ F' _ => MFS F0 F') := by
  unfold mb_texts_122
  exact hag_87 (z1 + z0) x2 F G hM
theorem nqj_texts_121 {fu : Nat} {F0 : PF} (ag_87 : Int32 → Int32 → PF → PG → PR) (hag_87 : ∀ (x1 : Int32) (x2 : Int32) (F : PF) (G : PG) (hM : MFS F0 F), PP (ag_87 x1 x2 F G) (fun _ F' _ => MFS F0 F')) (x2 : Int32) (z0 : Int32) (F : PF) (G : PG) (hM : MFS F0 F) : PP (mb_texts_121 fu ag_87 x2 z0 F G) (fun _ F' _ => MFS F0 F') := by
  unfold mb_texts_121
  exact nqj_texts_122 ag_87 hag_87 x2 (0 : Int32) z0 F G hM
theorem nqj_texts_117 {fu : Nat} {F0 : PF} (ag_87 : Int32 → Int32 → PF → PG → PR) (hag_87 : ∀ (x1 : Int32) (x2 : Int32) (F : PF) (G : PG) (hM : MFS F0 F), PP (ag_87 x1 x2 F G) (fun _ F' _ => MFS F0 F')) (x2 : Int32) (z0 : Int32) (F : PF) (G : PG) (hM : MFS F0 F) : PP (mb_texts_117 fu ag_87 x2 z0 F G) (fun _ F' _ => MFS F0 F') := by
  unfold mb_texts_117
  exact nqj_texts_122 ag_87 hag_87 x2 (1 : Int32) z0 F G hM
theorem nqj_texts_108 {fu : Nat} {F0 : PF} (ag_87 : Int32 → Int32 → PF → PG → PR) (hag_87 : ∀ (x1 : Int32) (x2 : Int32) (F : PF) (G : PG) (hM : MFS F0 F), PP (ag_87 x1 x2 F G) (fun _ F' _ => MFS F0 F')) (x1 : Int32) (z0 : Int32) (F : PF) (G : PG) (hM : MFS F0 F) : PP (mb_texts_108 fu ag_87 x1 z0 F G) (fun _ F' _ => MFS F0 F') := by
  unfold mb_texts_108
  refine PP.ite (fun c_1 => ?_) (fun c_1 => ?_)
  · skip
    exact nqj_texts_121 ag_87 hag_87 z0 x1 F G hM
  · skip
    exact nqj_texts_117 ag_87 hag_87 z0 x1 F G hM
theorem nqj_texts_103 {fu : Nat} {F0 : PF} (ag_87 : Int32 → Int32 → PF → PG → PR) (hag_87 : ∀ (x1 : Int32) (x2 : Int32) (F : PF) (G : PG) (hM : MFS F0 F), PP (ag_87 x1 x2 F G) (fun _ F' _ => MFS F0 F')) (x1 : Int32) (F : PF) (G : PG) (hM : MFS F0 F) : PP (mb_texts_103 fu ag_87 x1 F G) (fun _ F' _ => MFS F0 F') := by
  unfold mb_texts_103
  refine PP.bind (nq_tells x1 F G) ?_
  intro r1 F1 G1 hM1
  dsimp only
  exact nqj_texts_108 ag_87 hag_87 x1 r1 F1 G1 (MFS.tr hM hM1)
theorem nqj_texts_91 {fu : Nat} {F0 : PF} (ag_87 : Int32 → Int32 → PF → PG → PR) (hag_87 : ∀ (x1 : Int32) (x2 : Int32) (F : PF) (G : PG) (hM : MFS F0 F), PP (ag_87 x1 x2 F G) (fun _ F' _ => MFS F0 F')) (x1 : Int32) (F : PF) (G : PG) (hM : MFS F0 F) : PP (mb_texts_91 fu ag_87 x1 F G) (fun _ F' _ => MFS F0 F') := by
  unfold mb_texts_91
  refine PP.ix (fun _ => ?_)
  refine PP.ite (fun c_1 => ?_) (fun c_1 => ?_)
  · skip
    exact nqj_texts_127 F G hM
  · skip
    exact nqj_texts_103 ag_87 hag_87 x1 F G hM
theorem nqz_texts_87 {fu : Nat} {F0 : PF} : ∀ (n : Nat) (x1 : Int32) (x2 : Int32) (F : PF) (G : PG) (hM : MFS F0 F), PP (ml_texts_87 fu n x1 x2 F G) (fun _ F' _ => MFS F0 F') := by
  intro n
  induction n with
  | zero =>
    intro x1 x2 F G hM
    exact PP.no
  | succ n ihn =>
    intro x1 x2 F G hM
    show PP (mb_texts_87 fu (ml_texts_87 fu n) x1 x2 F G) _
    unfold mb_texts_87
    refine PP.ite (fun c_1 => ?_) (fun c_1 => ?_)
    · skip
      exact nqj_texts_127 F G hM
    · skip
      exact nqj_texts_91 (ml_texts_87 fu n) ihn x1 F G hM
theorem nqj_texts_85 {fu : Nat} {F0 : PF} (x1 : Int32) (F : PF) (G : PG) (hM : MFS F0 F) : PP (mb_texts_85 fu x1 F G) (fun _ F' _ => MFS F0 F') := by
  unfold mb_texts_85
  exact nqz_texts_87 fu x1 (1 : Int32) F G hM
theorem nqj_texts_82 {fu : Nat} {F0 : PF} (x1 : Int32) (z0 : Int32) (F : PF) (G : PG) (hM : MFS F0 F) : PP (mb_texts_82 fu x1 z0 F G) (fun _ F' _ => MFS F0 F') := by
  unfold mb_texts_82
  exact nqj_texts_85 x1 (fup F 35 z0) G (MFS.f (k := 35) rfl hM)
theorem nqj_texts_74 {fu : Nat} {F0 : PF} (x1 : Int32) (F : PF) (G : PG) (hM : MFS F0 F) : PP (mb_texts_74 fu x1 F G) (fun _ F' _ => MFS F0 F') := by
  unfold mb_texts_74
  exact nqj_texts_82 x1 (0 : Int32) F G hM
theorem nqj_texts_78 {fu : Nat} {F0 : PF} (x1 : Int32) (F : PF) (G : PG) (hM : MFS F0 F) : PP (mb_texts_78 fu x1 F G) (fun _ F' _ => MFS F0 F') := by
  unfold mb_texts_78
  exact nqj_texts_82 x1 (F 35) F G hM
theorem nqj_texts_64 {fu : Nat} {F0 : PF} (F : PF) (G : PG) (hM : MFS F0 F) : PP (mb_texts_64 fu F G) (fun _ F' _ => MFS F0 F') := by
  unfold mb_texts_64
  refine PP.ite (fun c_1 => ?_) (fun c_1 => ?_)
  · skip
    exact nqj_texts_74 (0 : Int32) F G hM
  · skip
    exact nqj_texts_78 (0 : Int32) F G hM
theorem nqj_texts_61 {fu : Nat} {F0 : PF} (z0 : Int32) (F : PF) (G : PG) (hM : MFS F0 F) : PP (mb_texts_61 fu z0 F G) (fun _ F' _ => MFS F0 F') := by
  unfold mb_texts_61
  exact nqj_texts_64 (fup F 24 z0) G (MFS.f (k := 24) rfl hM)
theorem nqj_texts_53 {fu : Nat} {F0 : PF} (F : PF) (G : PG) (hM : MFS F0 F) : PP (mb_texts_53 fu F G) (fun _ F' _ => MFS F0 F') := by
  unfold mb_texts_53
  exact nqj_texts_61 (0 : Int32) F G hM
theorem nqj_texts_57 {fu : Nat} {F0 : PF} (F : PF) (G : PG) (hM : MFS F0 F) : PP (mb_texts_57 fu F G) (fun _ F' _ => MFS F0 F') := by
  unfold mb_texts_57
  exact nqj_texts_61 (F 24) F G hM
theorem nqj_texts_45 {fu : Nat} {F0 : PF} (F : PF) (G : PG) (hM : MFS F0 F) : PP (mb_texts_45 fu F G) (fun _ F' _ => MFS F0 F') := by
  unfold mb_texts_45
  refine PP.ite (fun c_1 => ?_) (fun c_1 => ?_)
  · skip
    exact nqj_texts_53 F G hM
  · skip
    exact nqj_texts_57 F G hM
theorem nqj_texts_40 {fu : Nat} {F0 : PF} (F : PF) (G : PG) (hM : MFS F0 F) : PP (mb_texts_40 fu F G) (fun _ F' _ => MFS F0 F') := by
  unfold mb_texts_40
  exact nqj_texts_45 (fup F 50 (-1 : Int32)) G (MFS.f (k := 50) rfl hM)
theorem nqj_texts_35 {fu : Nat} {F0 : PF} (F : PF) (G : PG) (hM : MFS F0 F) : PP (mb_texts_35 fu F G) (fun _ F' _ => MFS F0 F') := by
  unfold mb_texts_35
  exact nqj_texts_40 (fup F 37 (0 : Int32)) G (MFS.f (k := 37) rfl hM)
theorem nqj_texts_30 {fu : Nat} {F0 : PF} (F : PF) (G : PG) (hM : MFS F0 F) : PP (mb_texts_30 fu F G) (fun _ F' _ => MFS F0 F') := by
  unfold mb_texts_30
  exact nqj_texts_35 (fup F 36 (0 : Int32)) G (MFS.f (k := 36) rfl hM)
theorem nqj_texts_25 {fu : Nat} {F0 : PF} (F : PF) (G : PG) (hM : MFS F0 F) : PP (mb_texts_25 fu F G) (fun _ F' _ => MFS F0 F') := by
  unfold mb_texts_25
  exact nqj_texts_30 (fup F 70 (0 : Int32)) G (MFS.f (k := 70) rfl hM)
theorem nqj_texts_20 {fu : Nat} {F0 : PF} (F : PF) (G : PG) (hM : MFS F0 F) : PP (mb_texts_20 fu F G) (fun _ F' _ => MFS F0 F') := by
  unfold mb_texts_20
  exact nqj_texts_25 (fup F 60 (0 : Int32)) G (MFS.f (k := 60) rfl hM)
theorem nqj_texts_15 {fu : Nat} {F0 : PF} (F : PF) (G : PG) (hM : MFS F0 F) : PP (mb_texts_15 fu F G) (fun _ F' _ => MFS F0 F') := by
  unfold mb_texts_15
  exact nqj_texts_20 (fup F 15 (0 : Int32)) G (MFS.f (k := 15) rfl hM)
theorem nqj_texts_10 {fu : Nat} {F0 : PF} (F : PF) (G : PG) (hM : MFS F0 F) : PP (mb_texts_10 fu F G) (fun _ F' _ => MFS F0 F') := by
  unfold mb_texts_10
  exact nqj_texts_15 (fup F 14 (0 : Int32)) G (MFS.f (k := 14) rfl hM)
theorem nqj_texts_5 {fu : Nat} {F0 : PF} (F : PF) (G : PG) (hM : MFS F0 F) : PP (mb_texts_5 fu F G) (fun _ F' _ => MFS F0 F') := by
  unfold mb_texts_5
  exact nqj_texts_10 (fup F 43 (0 : Int32)) G (MFS.f (k := 43) rfl hM)
theorem nq_texts {fu : Nat} (F : PF) (G : PG) : PP (mf_texts fu F G) (fun _ F' _ => MFS F F') := by
  unfold mf_texts
  unfold mb_texts_0
  exact nqj_texts_5 (fup F 42 (0 : Int32)) G (MFS.f (k := 42) rfl MFS.rf)
