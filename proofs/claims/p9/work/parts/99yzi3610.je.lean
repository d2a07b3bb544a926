theorem fup_id {F : PF} {k : Nat} : fup F k (F k + 0) = F := by
  funext j
  by_cases c : j = k
  · rw [c, fup_s, i_a0]
  · exact fup_n c
theorem nI_s (k : Nat) (h : k < 5000) : nI k + 1 = nI (k + 1) := by
  have e : (nI k).toInt = k := nI_toInt (by omega)
  have : (nI k + 1).toInt = (nI k).toInt + 1 := i_addn _ rfl (by omega) (by omega)
  exact i_eq.mpr (by rw [nI_toInt (by omega)]; omega)
theorem CU.kx {N i : Nat} {Fc Fm F1 : PF} {Gc Gm G1 : PG} {a b : List Nat} (C : CU N i Fc Gc Fm Gm) (k : KX a b Fc Gc F1 G1) (e : [9, 10, 11, 12, 13, 14].all (fun z => !a.contains z) = true) (f : [90, 91, 92].all (fun z => !b.contains z) = true) : CU N i F1 G1 Fm Gm := by
  have e' : ∀ z ∈ [9, 10, 11, 12, 13, 14], a.contains z = false := fun z hz => by
    have := List.all_eq_true.mp e z hz
    cases q : a.contains z
    · rfl
    · rw [q] at this
      cases this
  have f' : ∀ z ∈ [90, 91, 92], b.contains z = false := fun z hz => by
    have := List.all_eq_true.mp f z hz
    cases q : b.contains z
    · rfl
    · rw [q] at this
      cases this
  unfold CU at C ⊢
  rw [k.1 9 (e' 9 (by simp)), k.1 10 (e' 10 (by simp)), k.1 14 (e' 14 (by simp)), k.1 11 (e' 11 (by simp)), k.1 12 (e' 12 (by simp)), k.1 13 (e' 13 (by simp)), k.2 90 (f' 90 (by simp)), k.2 91 (f' 91 (by simp)), k.2 92 (f' 92 (by simp))]
  exact C
section JE10
variable {fu : Nat} {X : JCX} {p : Int32} {N K n q nf t : Nat}
/-- the arguments of a call, and its end -/
theorem je_args {dm dc i : Nat} {s : SH} {L : List Nat} {isf fn f x1 pl : Int32} {Fc Fm : PF} {Gc Gm : PG} (ihE : ∀ d : Nat, d < dm → jPx fu X p N K n q nf t 1 4 d) (I : jIn X p N K n q nf t i Fc Gc Fm Gm) (Ca : jCa X p nf isf fn f) (hL : ∀ g : Nat, p = 1 → f = nI g → g < nf → L = X.2.2.2 g) (hx : Gm 6 x1.toNatClampNeg = pl) : ∀ (nc nm k j : Nat) (on : Int32) (κ : Int) (F1 F2 : PF) (G1 G2 : PG), jAl X p N i j 1 κ s (jArg (L.take k) s) [] Fc Gc Fm Gm F1 G1 F2 G2 → i + k ≤ j → ((on = 1 ∧ κ ≤ -2 ∧ i + 1 + k ≤ j) ∨ (on = 0 ∧ κ ≤ -1)) → (p = 1 → k ≤ L.length) → JP (cl_X3_call_74 fu (cS1 fu dc) nc pl isf fn (nI k) on (nI k) F1 G1) (ml_call_156 fu (mS1 fu dm) nm x1 f (nI k) on F2 G2) (fun _ F1 G1 r2 F2 G2 => jOut X p N i 0 s (0 :: s) Fc Gc Fm Gm r2 F1 G1 F2 G2) := by
  have hp := I.1.2.1
  have o0 := I.2.1.1.2.2.2.2.1
  have l4 : (4001 : Int32).toInt = 4001 := rfl
  intro nc
  induction nc with
  | zero => intro nm k j on κ F1 F2 G1 G2 _ _ _ _; exact JP.noL
  | succ nc ih =>
    intro nm k j on κ F1 F2 G1 G2 h hk hon hlen
    cases nm with
    | zero => exact JP.noR
    | succ nm =>
      show JP (cb_X3_call_74 fu (cS1 fu dc) (cl_X3_call_74 fu (cS1 fu dc) nc) pl isf fn (nI k) on (nI k) F1 G1) (mb_call_156 fu (mS1 fu dm) (ml_call_156 fu (mS1 fu dm) nm) x1 f (nI k) on F2 G2) _
      have hagc : ∀ {F0 : PF} (a b c d e g : Int32) (F : PF) (G : PG), CFS F0 F → PP (cl_X3_call_74 fu (cS1 fu dc) nc a b c d e g F G) (fun _ F' _ => CFS F0 F') := fun a b c d e g F G hK => kqz_X3_call_74 _ (kqS1 dc) nc a b c d e g F G hK
      have hagm : ∀ {F0 : PF} (a b c d : Int32) (F : PF) (G : PG), MFS F0 F → PP (ml_call_156 fu (mS1 fu dm) nm a b c d F G) (fun _ F' _ => MFS F0 F') := fun a b c d F G hM => nqz_call_156 _ (nqS1 dm) nm a b c d F G hM
      have I1 := I.next h (by rcases hon with ⟨-, z, -⟩ | ⟨-, z⟩ <;> omega)
      have jN := I1.2.1.1.1
      have nN := I1.1.1.1
      have ek : (nI k).toInt = k := nI_toInt (by omega)
      have o1 := h.2.2.2.1
      obtain ⟨pl0, pl1, pl2⟩ := I1.2.1.1.place I1.1.1
      unfold cb_X3_call_74
      rw [if_neg (fun z => by have := i_le.mp z; omega)]
      unfold cb_X3_call_82 mb_call_156
      -- the call's end
      have close : (p = 1 → k = L.length) → κ ≤ -1 → JP (cb_X3_call_280 fu (cS1 fu dc) pl fn F1 G1) (mb_call_256 fu (mS1 fu dm) x1 f F2 G2) (fun _ F1 G1 r2 F2 G2 => jOut X p N i 0 s (0 :: s) Fc Gc Fm Gm r2 F1 G1 F2 G2) := by
        intro full kκ
        unfold cb_X3_call_280 mb_call_256
        refine JP.both (jo_close I1.1.1 I1.2.1.1 (by omega) (w := 23) (by decide) (by decide) (by decide)) ?_
        rintro r3 F3 G3 r4 F4 G4 (⟨rfl, hz, o⟩ | o)
        · dsimp only
          have lj := I1.2.1.1.ltS I1.1.1 hz
          have e2 := jAl.on (X := X) (p := p) (s := jArg (L.take k) s) I1.1 I1.2.1 lj (I1.1.t1 lj) o
          have h3 := h.tr e2
          have I3 := I1.next e2 (by omega)
          unfold cb_X3_call_289 mb_call_262
          rw [if_neg i10n]
          unfold mb_call_267
          have rm := h3.room (m := 3) I.1 I.2.2 (by omega)
          have rm2 : jRm 2 F3 := by
            rcases rm with z | ⟨z, z1, z2⟩
            · exact .inl z
            · exact .inr ⟨z, z1, by omega⟩
          refine JP.L (cp_wpair 90 fn G3 rm2) ?_
          intro _ F5 G5 w1
          dsimp only
          unfold cb_X3_call_300
          have e7 : F5 7 = F3 7 := w1.1.1 7 rfl
          refine JP.L (cp_wadd pl G5 ?_) ?_
          · rcases rm with z | ⟨z, z1, z2⟩
            · exact .inl (e7.trans z)
            · have : (F5 6).toInt = (F3 6).toInt + ((2 : Nat) : Int) := (w1.2.2 z).1
              exact .inr ⟨e7.trans z, by omega, by omega⟩
          · intro _ F6 G6 w2
            have w3 := w1.tr w2 I3.2.1.2.2.2.1
            dsimp only
            unfold cb_X3_call_308
            refine JP.R (mp_em 15 0 0 F4 G4) ?_
            rintro r7 F7 G7 ⟨-, -, v2, v3⟩
            dsimp only
            unfold mb_call_275
            refine JP.ixR (fun _ => ?_)
            have g6 : G7 6 = Gm 6 := (v2.1.2 6 rfl).trans (h3.1.2.2 6 rfl)
            rw [g6, hx]
            refine JP.R (mp_em 16 f pl F7 G7) ?_
            rintro r8 F8 G8 ⟨-, -, u2, u3⟩
            dsimp only
            unfold mb_call_290
            have e3 : jAl X p N (j + 1) (j + 1) 0 3 (jArg (L.take k) s) (0 :: s) [] F3 G3 F4 G4 F6 G6 F8 G8 := by
              refine jAl.cal (fun z => ?_) I3.h7.1 I3.h7.2 I3.2.1 w3 v2 u2
              obtain ⟨y1, y2, g, y3, y4, y5⟩ := Ca.2 z
              refine ⟨y1, g, by have := (I3.1.2.2.2.2.2 z).2.2.2.2.2.2.1; omega, y4, y5, ?_⟩
              rw [← hL g z y5 y3, full z, List.take_length]
            exact JP.ret (.inl ⟨rfl, j + 1, (h3.tr e3).ca (by omega) (by omega)⟩)
        · exact JP.fin (kqj_X3_call_289 _ (kqS1 dc) _ _ F3 G3 CFS.rf) (nqj_call_262 _ (nqS1 dm) _ _ r4 F4 G4 MFS.rf) (.inr o) (fun _ _ _ _ _ _ w => .inr w)
      rcases hon with ⟨rfl, kκ, kj⟩ | ⟨rfl, kκ⟩
      · rw [if_neg i10n, if_neg i10n]
        -- behind an argument
        have cont : ∀ (j' : Nat) (κ1 : Int) (F3 F4 : PF) (G3 G4 : PG), jAl X p N i j' 1 κ1 s (jArg (L.take (k + 1)) s) [] Fc Gc Fm Gm F3 G3 F4 G4 → κ1 ≤ -1 → j ≤ j' → (p = 1 → k + 1 ≤ L.length) → JP (cb_X3_call_206 fu (cS1 fu dc) (cl_X3_call_74 fu (cS1 fu dc) nc) pl isf fn (nI k) (nI k) F3 G3) (mb_call_169 fu (mS1 fu dm) (ml_call_156 fu (mS1 fu dm) nm) x1 f (nI k) 1 F4 G4) (fun _ F1 G1 r2 F2 G2 => jOut X p N i 0 s (0 :: s) Fc Gc Fm Gm r2 F1 G1 F2 G2) := by
          intro j' κ1 F3 F4 G3 G4 h' k1 jj len
          have I2 := I.next h' (by omega)
          unfold mb_call_169
          rw [if_neg i10n]
          unfold mb_call_174
          refine JP.R (mp_isSign 28 F4 G4) ?_
          rintro z _ _ ⟨rfl, rfl, hz⟩
          dsimp only
          have sg := I2.sg (w := 28) (a := 25) (b := 28) (by decide) (by decide) (by decide)
          unfold cb_X3_call_206 mb_call_183
          rcases hz with ⟨rfl, hz⟩ | ⟨rfl, hz⟩
          · rw [if_pos (sg.mpr hz), if_neg i10n]
            have lj := I2.2.1.1.ltS I2.1.1 hz
            unfold cb_X3_call_221 cb_X3_call_226
            rw [if_neg i10n]
            unfold cb_X3_call_233 mb_call_195 mb_call_200 mb_call_204
            refine JP.L (jo_next I2.1.1 I2.2.1.1 lj) ?_
            rintro _ F5 G5 (o | o)
            · dsimp only
              have e2 := jAl.on (X := X) (p := p) (s := jArg (L.take (k + 1)) s) I2.1 I2.2.1 lj (I2.1.t1 lj) o
              unfold cb_X3_call_240
              rw [nI_s k (by omega)]
              exact ih nm (k + 1) (j' + 1) 1 _ _ _ _ _ (h'.tr e2) (by omega) (.inl ⟨rfl, by omega, by omega⟩) len
            · dsimp only
              exact JP.fin (kqj_X3_call_240 _ (kqS1 dc) _ hagc _ _ _ _ _ _ F5 G5 CFS.rf) (hagm _ _ _ _ _ _ MFS.rf) (.inr o) (fun _ _ _ _ _ _ w => .inr w)
          · rw [if_neg (fun w => by rw [sg.mp w] at hz; cases hz), if_pos rfl]
            unfold cb_X3_call_225 cb_X3_call_226
            rw [if_pos rfl]
            unfold cb_X3_call_240 mb_call_199 mb_call_200 mb_call_204
            rw [nI_s k (by omega), fup_id]
            exact ih nm (k + 1) j' 0 _ _ _ _ _ h' (by omega) (.inr ⟨rfl, by omega⟩) len
        -- an argument that is an expression
        have plain : ((p = 0 ∧ f = -1) ∨ (F2 54 = 0 ∧ ∃ g : Nat, g < 450 ∧ k < 5000 ∧ f = nI g ∧ (k : Int) < (G2 27 g).toInt ∧ 0 ≤ (G2 31 g).toInt ∧ (G2 31 g).toInt + (G2 27 g).toInt ≤ 690 ∧ G2 34 ((G2 31 g).toInt.toNat + k) = 0)) → (p = 1 → k + 1 ≤ L.length) → (p = 1 → jArg (L.take (k + 1)) s = 0 :: jArg (L.take k) s) → JP (cb_X3_call_202 fu (cS1 fu dc) (cl_X3_call_74 fu (cS1 fu dc) nc) pl isf fn (nI k) (nI k) F1 G1) (mb_call_161 fu (mS1 fu dm) (ml_call_156 fu (mS1 fu dm) nm) x1 f (nI k) F2 G2) (fun _ F1 G1 r2 F2 G2 => jOut X p N i 0 s (0 :: s) Fc Gc Fm Gm r2 F1 G1 F2 G2) := by
          intro hA len sh
          unfold cb_X3_call_202 mb_call_161
          refine JP.both (je_argE (s := jArg (L.take k) s) ihE I1 hA) ?_
          rintro r3 F3 G3 r4 F4 G4 (⟨rfl, j', h'⟩ | h')
          · dsimp only
            have h2 := h.tr h'
            refine cont j' _ F3 F4 G3 G4 (?_ : jAl X p N i j' 1 (κ + 0) s (jArg (L.take (k + 1)) s) [] Fc Gc Fm Gm F3 G3 F4 G4) (by omega) h'.2.2.1.1 len
            rcases hp with z | z
            · exact (h2.p0 z).ca (by omega) (by omega)
            · rw [sh z]
              exact h2.ca (by omega) (by omega)
          · dsimp only
            exact JP.fin (kqj_X3_call_206 _ (kqS1 dc) _ hagc _ _ _ _ _ F3 G3 CFS.rf) (nqj_call_169 _ (nqS1 dm) _ hagm _ _ _ r4 F4 G4 MFS.rf) h' (fun _ _ _ _ _ _ w => .inr w)
        unfold cb_X3_call_87
        rcases hp with hp0 | hp1
        · obtain ⟨y1, y2, y3⟩ := Ca.1 hp0
          rw [if_pos y1]
          unfold cb_X3_call_105 cb_X3_call_106
          rw [if_pos (show (1 : Int32) ≤ 1 by decide)]
          unfold cb_X3_call_181
          rw [if_pos rfl]
          exact plain (.inl ⟨hp0, y3⟩) (fun z => by rw [hp0] at z; exact absurd z (by decide)) (fun z => by rw [hp0] at z; exact absurd z (by decide))
        · obtain ⟨y1, y2, g, y3, y4, y5⟩ := Ca.2 hp1
          obtain ⟨x0, SA, SE, SU, SL, FT⟩ := I1.1.2.2.2.2.2 hp1
          have eL := hL g hp1 y5 y3
          obtain ⟨len, karg⟩ := FT.arg y3
          obtain ⟨f1, f2, fg⟩ := id FT
          obtain ⟨-, -, q1, q2, q3, q4, q5, q6, q7⟩ := fg g y3
          rw [← eL] at len karg
          have h46 : ¬ F2 46 = 0 := by rw [I1.1.2.2.1.1, hp1]; decide
          have on1 : F1 45 = 1 := by rw [I1.1.2.2.1.2.1, hp1]
          have on0 : ¬ F1 45 = 0 := by rw [on1]; decide
          have h54 : F2 54 = 0 := by
            rcases I1.1.2.2.2.2.1 with z | z
            · exact z
            · have := x0.mpr (by rw [z]; decide)
              rw [y1] at this
              cases this
          have h42 : F2 42 = nI j := I1.2.1.1.2.2.1
          rw [if_neg (by rw [y2]; exact i10n)]
          unfold cb_X3_call_91
          refine JP.L (cp_formalKind fn (nI k) F1 G1) ?_
          rintro w _ _ ⟨rfl, rfl, hw⟩
          have hw := hw g nf k f1 (by omega) y3 y4 rfl (by omega) (by rw [q2]; exact q4) (by rw [q1, q2]; exact q5)
          rw [q1, q2] at hw
          dsimp only
          unfold cb_X3_call_102 cb_X3_call_106
          -- a fault is found on both sides
          have bad : ((G2 27 g).toInt ≤ k ∨ (¬ G2 34 ((G2 31 g).toInt.toNat + k) = 0 ∧ ¬ jAlone G2 j)) → ¬ w = 1 → JP (cb_X3_call_181 fu (cS1 fu dc) (cl_X3_call_74 fu (cS1 fu dc) nc) pl isf fn (nI k) (nI k) w F1 G1) (mb_call_161 fu (mS1 fu dm) (ml_call_156 fu (mS1 fu dm) nm) x1 f (nI k) F2 G2) (fun _ F1 G1 r2 F2 G2 => jOut X p N i 0 s (0 :: s) Fc Gc Fm Gm r2 F1 G1 F2 G2) := by
            intro hA nw
            unfold cb_X3_call_181
            rw [if_neg nw]
            unfold cb_X3_call_187 mb_call_161
            refine JP.L (cp_note 2 (F1 13) (by decide) (by decide) F1 G1) ?_
            rintro _ F3 G3 ⟨-, -, -, n4⟩
            dsimp only
            refine JP.R (mp_argN (fu := fu) (dm := dm) h46 h54 h42 (by omega) (by omega) (by omega) y5 q4 q5 hA) ?_
            intro r4 F4 G4 n5
            dsimp only
            exact JP.fin (kqj_X3_call_202 _ (kqS1 dc) _ hagc _ _ _ _ _ F3 G3 CFS.rf) (nqj_call_169 _ (nqS1 dm) _ hagm _ _ _ r4 F4 G4 MFS.rf) (.inl ⟨n4 on0 pl1, n5⟩) (fun _ _ _ _ _ _ w => .inr w)
          rcases hw with ⟨w1, w2⟩ | ⟨w1, w2⟩
          · obtain ⟨kk, k0, k1, k2, k3⟩ := karg k (by omega)
            rw [k2] at w2
            by_cases c0 : kk = 0
            · rw [c0] at w2 k1 k3
              have we : w = 1 := w2
              rw [if_pos (by rw [we]; decide)]
              unfold cb_X3_call_181
              rw [if_pos we]
              exact plain (.inr ⟨h54, g, by omega, by omega, y5, w1, q4, q5, k1⟩) (fun _ => by omega) (fun _ => k3 s)
            · have we : w.toInt = (kk : Int) + 1 := by
                rw [w2, nI_toInt (by omega)]
                omega
              have l1 : (1 : Int32).toInt = 1 := rfl
              have nw : ¬ w = 1 := fun z => by rw [z] at we; omega
              have n34 : ¬ G2 34 ((G2 31 g).toInt.toNat + k) = 0 := fun z => by
                rw [k1] at z
                have := congrArg Int32.toInt z
                rw [nI_toInt (by omega)] at this
                have l0 : (0 : Int32).toInt = 0 := rfl
                omega
              rw [if_neg (fun z => by have := i_le.mp z; omega)]
              unfold cb_X3_call_114
              refine JP.L (cp_alone I1.1.1 I1.2.1.1) ?_
              rintro z _ _ ⟨rfl, rfl, hz⟩
              dsimp only
              unfold cb_X3_call_121
              rcases hz with ⟨rfl, al⟩ | ⟨rfl, al⟩
              · rw [if_neg i10n]
                have lj : j < N := I1.2.1.1.lt I1.1.1 (by rw [al.1]; decide)
                obtain ⟨tk, tn, -⟩ := I1.1.1.2.2.2.1 j lj
                obtain ⟨id0, id1⟩ := tn al.1
                have ev : F1 12 = G2 5 j := by
                  have e12 : F1 12 = G1 91 j := I1.2.1.1.2.2.2.2.2.2.2.2.2.1
                  rcases tk.2 with ⟨-, -, z⟩ | ⟨z, -⟩ | ⟨z, -⟩ | ⟨z, -⟩
                  · rw [e12, z]
                  · rw [al.1] at z; exact absurd z (by decide)
                  · rw [al.1] at z; exact absurd z (by decide)
                  · rw [al.1] at z; exact absurd z (by decide)
                unfold cb_X3_call_124 mb_call_161
                refine JP.L (cp_meant (K := K) (c := q + t) (F1 12) (F1 13) (fun _ => ⟨SL, by rw [ev]; exact id0, by rw [ev]; exact id1⟩) pl1) ?_
                rintro sym Fa _ ⟨rfl, ka, -, a1⟩
                obtain ⟨a2, a3, a4⟩ := a1 on1
                rw [ev] at a2
                dsimp only
                have Sa := I1.1.keep (KX.tr (a := jXc) (b := jYc) KX.rf ka rfl rfl) (KX.rf (a := jXm) (b := jYm))
                have Ca' := I1.2.1.1.kx ka rfl rfl
                -- both find a fault
                have bad2 : ∀ (m fm : Int32), jMn nf t G2 (G2 5 j) m fm → (¬ ∃ e : Nat, e < t ∧ m = nI e ∧ G2 17 e = 2 ∧ G2 22 e = nI (kk - 1)) → ((Fa 43).toInt ≤ 4000 ∨ ∃ j2 : Nat, j2 < q + t ∧ sym = nI j2 ∧ ¬ G1 35 j2 = w) → JP (cb_X3_call_145 fu (cS1 fu dc) (cl_X3_call_74 fu (cS1 fu dc) nc) pl isf fn (nI k) (nI k) w sym Fa G1) ((mS1 fu dm 0 f (nI k) F2 G2).bind (fun q => mb_call_169 fu (mS1 fu dm) (ml_call_156 fu (mS1 fu dm) nm) x1 f (nI k) q.1 q.2.1 q.2.2)) (fun _ F1 G1 r2 F2 G2 => jOut X p N i 0 s (0 :: s) Fc Gc Fm Gm r2 F1 G1 F2 G2) := by
                  intro m fm hm nb hc
                  refine JP.R (mp_argA (fu := fu) (dm := dm) SU SE.1 SA.1 (by have := SE.2.2.1; omega) (by omega) h46 h54 h42 (by omega) (by omega) (by omega) y5 w1 q4 q5 k1 (by omega) k0 al hm) ?_
                  rintro r4 F4 G4 (⟨e, e1, e2, e3, e4, -⟩ | ⟨-, n5⟩)
                  · exact absurd ⟨e, e1, e2, e3, e4⟩ nb
                  · dsimp only
                    rcases hc with hc | ⟨j2, j3, j4, j5⟩
                    · exact JP.fin (kqj_X3_call_145 _ (kqS1 dc) _ hagc _ _ _ _ _ _ _ Fa G1 CFS.rf) (nqj_call_169 _ (nqS1 dm) _ hagm _ _ _ r4 F4 G4 MFS.rf) (.inl ⟨hc, n5⟩) (fun _ _ _ _ _ _ w => .inr w)
                    · unfold cb_X3_call_145
                      refine JP.L (cp_wantArray sym (Fa 13) w (j := j2) (c := q + t) (by rw [ka.1 41 rfl]; exact SE.2.1) (by have := SE.2.2.1; omega) j3 j4 (by rw [ka.1 45 rfl]; exact on0) (by rw [ka.1 13 rfl]; exact pl1)) ?_
                      rintro _ Fb Gb ⟨-, -, -, b4⟩
                      dsimp only
                      exact JP.fin (kqj_X3_call_165 _ (kqS1 dc) _ hagc _ _ _ _ _ _ Fb Gb CFS.rf) (nqj_call_169 _ (nqS1 dm) _ hagm _ _ _ r4 F4 G4 MFS.rf) (.inl ⟨b4 j5, n5⟩) (fun _ _ _ _ _ _ w => .inr w)
                have t9 := SE.2.2.1
                rcases jMn.of SA SE a2 with ⟨z1, z2⟩ | ⟨e, z1, z2, z3⟩ | ⟨j2, g2, z1, z2, z3, z4, z5, z6, z7⟩
                · exact bad2 _ _ z2 (fun ⟨e, e1, e2, _⟩ => nI_n1 (by omega) e2.symm) (.inl (a3 z1))
                · have ns : ¬ sym = -1 := by rw [z2]; exact nI_n1 (by omega)
                  have ea := a4 ns
                  obtain ⟨n1, n2, n3, n4, n5, n6⟩ := SE.2.2.2.2.2 e z1
                  by_cases gd : G2 17 e = 2 ∧ G2 22 e = nI (kk - 1)
                  · obtain ⟨κ', g', l2, v1, v2, v3, v4, v5, v6, v7, v8⟩ := jEN.arr (kf := X.2.2.2) (b := X.1) n6 gd.1
                    have ek' : κ' = kk := by
                      have := nI_ij (v4.symm.trans gd.2) (by omega) (by omega)
                      omega
                    have gw : G1 35 (q + e) = w := by rw [v3, w2, ek']
                    unfold cb_X3_call_145
                    refine JP.L (cp_wantArray sym (Fa 13) w (j := q + e) (c := q + t) (by rw [ka.1 41 rfl]; exact SE.2.1) (by omega) (by omega) z2 (by rw [ka.1 45 rfl]; exact on0) (by rw [ka.1 13 rfl]; exact pl1)) ?_
                    rintro _ Fb _ ⟨rfl, kb, b3, -⟩
                    have eb := b3 gw
                    rw [← eb, ← ea]
                    dsimp only
                    unfold cb_X3_call_165
                    refine JP.L (cp_pass sym I1.2.1.2.2.2.1 (h.room I.1 I.2.2 (by omega))) ?_
                    rintro _ F5 G5 ⟨a, b, c, w3, w4⟩
                    obtain ⟨u1, u2, u3⟩ := w4 (q + e) (q + t) SE.2.1 (by omega) (by omega) z2
                    dsimp only
                    unfold cb_X3_call_171
                    refine JP.R (mp_argA (fu := fu) (dm := dm) SU SE.1 SA.1 (by omega) (by omega) h46 h54 h42 (by omega) (by omega) (by omega) y5 w1 q4 q5 k1 (by omega) k0 al z3) ?_
                    rintro r4 F4 G4 (⟨e', e1, e2, e3, e4, rfl, F2a, G3, l, e5, e6, e7, e8⟩ | ⟨nb, -⟩)
                    · have ee : e' = e := nI_ij e2.symm (by omega) (by omega)
                      rw [ee] at e3 e4 e6 e7
                      dsimp only
                      have m1 := jAl.mm (X := X) (p := p) (s := jArg (L.take k) s) I1.2.1 (KX.tr (a := [55, 62]) (b := []) KX.rf e5 rfl rfl) (fun _ => e5.1 55 rfl)
                      have I2 := I1.next m1 (Int.le_refl _)
                      have S5 := I2.1.keep (KX.tr (a := jXc) (b := jYc) KX.rf w3.1 rfl rfl) (KX.rf (a := jXm) (b := jYm))
                      have C5 := I2.2.1.1.kx w3.1 rfl rfl
                      refine JP.L (jo_next S5.1 C5 lj) ?_
                      rintro _ F6 G6 (o | o)
                      · dsimp only
                        unfold cb_X3_call_178
                        have s60 : sN (fup F2a 42 (F2a 42 + 1)) = sN F2 := by
                          show (fup F2a 42 (F2a 42 + 1) 60).toNatClampNeg = _
                          rw [fup_n (show (60 : Nat) ≠ 42 by decide), e5.1 60 rfl]
                        have s61 : sN F2a = sN F2 := by
                          show (F2a 60).toNatClampNeg = _
                          rw [e5.1 60 rfl]
                        have m2 : EMM 5 (G2 20 e) (G2 21 e) (fup F2a 42 (F2a 42 + 1)) G2 F4 G4 := by
                          have := e6.w59 (v := nI l)
                          rw [s60, ← e8] at this
                          exact this
                        have e9 : jAl X p N j (j + 1) 0 (([a, b, c].length : Int) - 2 * ((1 : Nat) : Int)) (jArg (L.take k) s) (jPush kk (jArg (L.take k) s)) [] F1 G1 F2a G2 F6 G6 F4 G4 := by
                          refine jAl.ps I2.1 I2.2.1 lj (I2.1.t1 lj) w3 o m2 (fun _ => ?_)
                          have W : ∀ (jj : Nat) (x : Int32), [a, b, c][jj]? = some x → G5 5 (wN F1 + jj) = x := (w3.2.2 (I1.h7.2 hp1)).2.2
                          have el : l2 = l := by
                            rcases e7 with ⟨q1', q2'⟩ | ⟨q1', q2'⟩
                            · rw [q2'] at v5
                              have := nI_ij (a := 0) v5 (by decide) (by omega)
                              omega
                            · rcases Nat.lt_or_ge l2 1 with z | z
                              · rw [show l2 = 0 by omega] at v5
                                exact absurd v5 q2'
                              · omega
                          refine .inr (.inr (.inr (.inr ⟨y1, .inr (.inr (.inr (.inr (.inl ⟨rfl, rfl, kk, g', by omega, ?_, ?_, rfl⟩))))⟩)))
                          · show jArr X kk (G2 20 e) (G2 21 e) (G4 59 (sN F2a)) g' (G5 5 (wN F1 + 1)) (G5 5 (wN F1 + 2))
                            rw [W 1 b rfl, W 2 c rfl, u2, u3, s61, e8, gup_i, ← el, ← ek']
                            exact v6
                          · show G5 5 (wN F1 + 0) = jPas g'
                            rw [W 0 a rfl, u1, v8, n2]
                        refine cont (j + 1) _ F6 F4 G6 G4 (?_ : jAl X p N i (j + 1) 1 (κ + 1) s (jArg (L.take (k + 1)) s) [] Fc Gc Fm Gm F6 G6 F4 G4) (by omega) (by omega) (fun _ => by omega)
                        rw [k3 s]
                        have e10 := h.tr (m1.tr e9)
                        exact e10.ca (by omega) (by show κ + (0 + (((3 : Nat) : Int) - 2 * ((1 : Nat) : Int))) ≤ κ + 1; omega)
                      · dsimp only
                        refine JP.fin (kqj_X3_call_178 _ (kqS1 dc) _ hagc _ _ _ _ _ F6 G6 CFS.rf) (nqj_call_169 _ (nqS1 dm) _ hagm _ _ _ 1 F4 G4 MFS.rf) (.inr ⟨o.1, o.2.1, ?_⟩) (fun _ _ _ _ _ _ w => .inr w)
                        have f44 : F4 44 = F2a 44 := (e6.1.1 44 rfl).trans (fup_n (by decide))
                        have f8 : F4 8 = F2a 8 := (e6.1.1 8 rfl).trans (fup_n (by decide))
                        rw [f44, f8]
                        have := o.2.2
                        rw [fup_n (show (44 : Nat) ≠ 42 by decide), fup_n (show (8 : Nat) ≠ 42 by decide)] at this
                        exact this
                    · exact absurd ⟨e, z1, rfl, gd.1, gd.2⟩ nb
                  · refine bad2 _ _ z3 (fun ⟨e', e1, e2, e3, e4⟩ => gd ?_) (.inr ⟨q + e, by omega, z2, fun y => gd ?_⟩)
                    · have ee : e' = e := nI_ij e2.symm (by omega) (by omega)
                      rw [ee] at e3 e4
                      exact ⟨e3, e4⟩
                    · rw [w2] at y
                      rcases n6 with ⟨u1, -⟩ | ⟨u1, -⟩ | ⟨κ', u0, u1, u2, u3, -⟩
                      · have := nI_ij (a := 0) (u1.symm.trans y) (by decide) (by omega)
                        omega
                      · have := nI_ij (a := 1) (u1.symm.trans y) (by decide) (by omega)
                        omega
                      · have := nI_ij (u1.symm.trans y) (by omega) (by omega)
                        exact ⟨u2, by rw [u3]; congr 1; omega⟩
                · refine bad2 _ _ z4 (fun ⟨e, e1, e2, _⟩ => nI_n1 (by omega) e2.symm) (.inr ⟨j2, by omega, z3, fun y => ?_⟩)
                  rw [z6, w2] at y
                  have := nI_ij (a := 4) y (by decide) (by omega)
                  omega
              · rw [if_pos rfl]
                exact bad (.inr ⟨n34, al⟩) nw
          · rw [if_pos (by rw [w2]; decide)]
            exact bad (.inl w1) (by rw [w2]; decide)
      · rw [if_pos rfl, if_pos rfl]
        unfold cb_X3_call_246 mb_call_207
        rcases hp with hp0 | hp1
        · obtain ⟨y1, y2, y3⟩ := Ca.1 hp0
          rw [if_pos y1]
          have cl := close (fun z => by rw [hp0] at z; exact absurd z (by decide)) kκ
          refine JP.iteR (fun _ => ?_) (fun _ => cl)
          unfold mb_call_214
          rw [if_pos y3]
          exact cl
        · obtain ⟨y1, y2, g, y3, y4, y5⟩ := Ca.2 hp1
          obtain ⟨x0, SA, SE, SU, SL, FT⟩ := I1.1.2.2.2.2.2 hp1
          have eL := hL g hp1 y5 y3
          obtain ⟨len, karg⟩ := FT.arg y3
          obtain ⟨f1, f2, fg⟩ := id FT
          obtain ⟨-, -, q1, q2, q3, q4, q5, q6, q7⟩ := fg g y3
          rw [← eL] at len karg
          have h46 : ¬ F2 46 = 0 := by rw [I1.1.2.2.1.1, hp1]; decide
          have on0 : ¬ F1 45 = 0 := by rw [I1.1.2.2.1.2.1, hp1]; decide
          have h54 : F2 54 = 0 := by
            rcases I1.1.2.2.2.2.1 with z | z
            · exact z
            · have := x0.mpr (by rw [z]; decide)
              rw [y1] at this
              cases this
          have eg : f.toNatClampNeg = g := by
            show f.toInt.toNat = g
            rw [y5, nI_toInt (by omega)]
            omega
          rw [if_neg (by rw [y2]; exact i10n), if_pos h54]
          unfold cb_X3_call_250 mb_call_214
          rw [if_neg (by rw [y5]; exact nI_n1 (by omega))]
          refine JP.L (cp_formalKind fn (nI k) F1 G1) ?_
          rintro w _ _ ⟨rfl, rfl, hw⟩
          have hw := hw g nf k f1 (by omega) y3 y4 rfl (by omega) (by rw [q2]; exact q4) (by rw [q1, q2]; exact q5)
          rw [q1, q2] at hw
          dsimp only
          unfold cb_X3_call_261 mb_call_220
          refine JP.ixR (fun _ => ?_)
          rw [eg]
          rcases hw with ⟨w1, w2⟩ | ⟨w1, w2⟩
          · obtain ⟨kk, k0, k1, k2, k3⟩ := karg k (by omega)
            rw [if_neg (by rw [w2, k2]; exact nI_n1 (by omega)), if_neg (fun z => by have := i_le.mp z; omega)]
            unfold cb_X3_call_265 mb_call_232
            refine JP.L (cp_note 2 (F1 13) (by decide) (by decide) F1 G1) ?_
            rintro _ F3 _ ⟨rfl, n2, -, n4⟩
            dsimp only
            refine JP.R (mp_isSign 23 F2 G2) ?_
            rintro z _ _ ⟨rfl, rfl, hz⟩
            dsimp only
            unfold mb_call_238
            rcases hz with ⟨rfl, hz⟩ | ⟨rfl, hz⟩
            · rw [if_neg i10n]
              unfold mb_call_241
              refine JP.ixR (fun _ => JP.R (mp_note 7 _ (by decide) F2 G2) ?_)
              rintro _ F4 G4 ⟨-, -, n5, -⟩
              dsimp only
              refine JP.fin (kqj_X3_call_280 _ (kqS1 dc) _ _ F3 G1 CFS.rf) (nqj_call_256 _ (nqS1 dm) _ _ F4 G4 MFS.rf) (.inl ⟨n4 on0 pl1, fun z => ?_⟩) (fun _ _ _ _ _ _ w => .inr w)
              have := n5 h46
              rw [z] at this
              exact absurd this (by decide)
            · rw [if_pos rfl]
              unfold cb_X3_call_280 mb_call_256
              have S3 := I1.1.keep (KX.tr (a := jXc) (b := jYc) KX.rf n2 rfl rfl) (KX.rf (a := jXm) (b := jYm))
              have C3 := I1.2.1.1.kx n2 rfl rfl
              refine JP.both (jo_close S3.1 C3 (by rw [n2.1 10 rfl]; omega) (w := 23) (by decide) (by decide) (by decide)) ?_
              rintro r5 F5 G5 r6 F6 G6 (⟨-, hy, -⟩ | o)
              · rw [hz] at hy
                cases hy
              · exact JP.fin (kqj_X3_call_289 _ (kqS1 dc) _ _ F5 G5 CFS.rf) (nqj_call_262 _ (nqS1 dm) _ _ r6 F6 G6 MFS.rf) (.inr o) (fun _ _ _ _ _ _ w => .inr w)
          · rw [if_pos w2, if_pos (i_le.mpr (by omega))]
            exact close (fun _ => by have := hlen hp1; omega) kκ
/-- a call from its bracket on -/
theorem je_callT {dm : Nat} (ihE : ∀ d : Nat, d < dm → jPx fu X p N K n q nf t 1 4 d) : jPt fu X p N K n q nf t dm := by
  intro dc i s isf fn f x1 pl Fc Gc Fm Gm I Ca hx
  unfold cb_X3_call_34 mb_call_126
  refine JP.both (jo_open I.1.1 I.2.1.1 (w := 22) (by decide) (by decide) (by decide)) ?_
  rintro r3 F3 G3 r4 F4 G4 (⟨rfl, rfl, hz, o⟩ | o)
  · dsimp only
    have li := I.2.1.1.ltS I.1.1 hz
    have e0 := jAl.on (X := X) (p := p) (s := s) I.1 I.2.1 li (I.1.t1 li) o
    have I1 := I.next e0 (by omega)
    unfold cb_X3_call_45 mb_call_132
    rw [if_neg i10n, if_neg i10n]
    unfold cb_X3_call_49 mb_call_137
    refine JP.R (mp_isSign 23 F4 G4) ?_
    rintro z _ _ ⟨rfl, rfl, hy⟩
    dsimp only
    have sg := I1.sg (w := 23) (a := 20) (b := 23) (by decide) (by decide) (by decide)
    obtain ⟨L, hL⟩ : ∃ L : List Nat, ∀ g : Nat, p = 1 → f = nI g → g < nf → L = X.2.2.2 g := by
      by_cases c : ∃ g : Nat, f = nI g ∧ g < nf ∧ p = 1
      · obtain ⟨g, g1, g2, g3⟩ := c
        obtain ⟨-, -, -, -, -, FT⟩ := I.1.2.2.2.2.2 g3
        have := FT.2.1
        exact ⟨X.2.2.2 g, fun g' _ a2 a3 => by rw [nI_ij (a2.symm.trans g1) (by omega) (by omega)]⟩
      · exact ⟨[], fun g a1 a2 a3 => absurd ⟨g, a2, a3, a1⟩ c⟩
    have go := je_args (dc := dc) (s := s) ihE I Ca hL hx fu fu 0 (i + 1)
    unfold mb_call_146
    rcases hy with ⟨rfl, hy⟩ | ⟨rfl, hy⟩
    · rw [if_pos (sg.mpr hy), if_neg i10n]
      unfold cb_X3_call_68 cb_X3_call_69 mb_call_153 mb_call_154
      exact go 0 _ F3 F4 G3 G4 (e0 : jAl X p N i (i + 1) 1 _ s (jArg (L.take 0) s) [] Fc Gc Fm Gm F3 G3 F4 G4) (by omega) (.inr ⟨rfl, by omega⟩) (fun _ => Nat.zero_le _)
    · rw [if_neg (fun w => by rw [sg.mp w] at hy; cases hy), if_pos rfl]
      unfold cb_X3_call_64 cb_X3_call_69 mb_call_149 mb_call_154
      exact go 1 _ F3 F4 G3 G4 (e0 : jAl X p N i (i + 1) 1 _ s (jArg (L.take 0) s) [] Fc Gc Fm Gm F3 G3 F4 G4) (by omega) (.inl ⟨rfl, by omega, by omega⟩) (fun _ => Nat.zero_le _)
  · exact JP.fin (kqj_X3_call_45 _ (kqS1 dc) _ _ _ r3 F3 G3 CFS.rf) (nqj_call_132 _ (nqS1 dm) _ _ r4 F4 G4 MFS.rf) (.inr o) (fun _ _ _ _ _ _ w => .inr w)
end JE10
