theorem JP.abL {a b : PR} {k : Int32 × PF × PG → PR} {Q : Int32 → PF → PG → Int32 → PF → PG → Prop} (h : JP a b (fun r1 F1 G1 r2 F2 G2 => ∀ (s1 : Int32) (E1 : PF) (H1 : PG), k (r1, F1, G1) = some (s1, E1, H1) → Q s1 E1 H1 r2 F2 G2)) : JP (a.bind k) b Q := by
  intro s1 E1 H1 r2 F2 G2 e1 e2
  obtain ⟨⟨r, F, G⟩, e3, e4⟩ := bind_elim e1
  exact h r F G r2 F2 G2 e3 e2 s1 E1 H1 e4
theorem JP.unL {a b : PR} {k : Int32 × PF × PG → PR} {Q : Int32 → PF → PG → Int32 → PF → PG → Prop} (h : JP (a.bind k) b Q) : JP a b (fun r1 F1 G1 r2 F2 G2 => ∀ (s1 : Int32) (E1 : PF) (H1 : PG), k (r1, F1, G1) = some (s1, E1, H1) → Q s1 E1 H1 r2 F2 G2) := by
  intro r1 F1 G1 r2 F2 G2 e1 e2 s1 E1 H1 e3
  refine h s1 E1 H1 r2 F2 G2 ?_ e2
  rw [e1]
  exact e3
abbrev jXt : List Nat := [6, 9, 10, 11, 12, 13, 14, 21, 30, 31, 41, 43, 44, 46, 47, 50, 56, 57, 300]
abbrev jXu : List Nat := [6, 9, 10, 11, 12, 13, 14, 21, 30, 31, 43, 44, 46, 47, 50, 56, 57, 300]
abbrev jZt : List Nat := [14, 42, 43, 44, 45, 47, 48, 49, 52, 53, 54, 55, 60, 62, 63, 64, 65, 66, 70, 72]
theorem jsC_4 (l : JLY) : jsC l ≤ 4 * jsW l := by
  induction l with
  | nil => exact Nat.le_refl _
  | cons x l ih =>
    show joC x + jsC l ≤ 4 * (joW x + jsW l)
    have : joC x ≤ 4 * joW x := by
      unfold joC joW
      split
      · omega
      · split
        · omega
        · split
          · omega
          · split
            · omega
            · omega
    omega
section JW9
variable {fu : Nat} {X : JCX} {p : Int32} {N K n q nf t i j c : Nat} {id pl r : Int32} {F Fa Fb Fc Fm F1 F2 F3 F4 : PF} {G Ga Gb Gc Gm G1 G2 G3 G4 : PG}
/-- the class takes room in a frame -/
theorem cp_room (w pl : Int32) (F : PF) (G : PG) : PP (cf_X5_localRoom fu w pl F G) (fun r F1 G1 => r = 4 + F 49 + F 50 ∧ G = G1 ∧ ((F 45 = 0 ∨ (F 50 + w) ≤ 200) → fup F 50 (F 50 + w) = F1) ∧ (¬ F 45 = 0 → ¬ (F 50 + w) ≤ 200 → pl.toInt ≤ 4000 → (F1 43).toInt ≤ 4000)) := by
  have e50 : fup F 50 (F 50 + w) 50 = F 50 + w := fup_s
  have e45 : fup F 50 (F 50 + w) 45 = F 45 := fup_n (by decide)
  unfold cf_X5_localRoom cb_X5_localRoom_0 cf_X5_measure cb_X5_measure_0
  show PP (cb_X5_localRoom_4 fu w pl (4 + F 49 + F 50) F G) _
  unfold cb_X5_localRoom_4 cb_X5_localRoom_15
  rw [e50]
  refine PP.ite (fun z => ?_) (fun z => ?_)
  · unfold cb_X5_localRoom_32
    exact PP.ret ⟨rfl, rfl, fun _ => rfl, fun _ y => absurd z y⟩
  · unfold cb_X5_localRoom_25
    refine PP.bind (cp_note 8 pl (by decide) (by decide) _ G) ?_
    rintro _ F1 G1 ⟨y1, -, y3, y4⟩
    rw [e45] at y3 y4
    dsimp only
    unfold cb_X5_localRoom_32
    refine PP.ret ⟨rfl, y1, fun y => ?_, fun y _ y5 => y4 y y5⟩
    rcases y with y | y
    · exact y3 y
    · exact absurd y z
/-- what the class knows of a name -/
def jKn (K c : Nat) (id pl r : Int32) (F : PF) (G : PG) : Prop := ((F 41).toInt = c ∧ c < 690) ∧ (0 ≤ id.toInt ∧ id.toInt < K) ∧ ¬ F 45 = 0 ∧ jSL K c G ∧ jLa (G 33) c id r ∧ pl.toInt ≤ 4000
theorem jKn.kx {a b : List Nat} (h : jKn K c id pl r F G) (k : KX a b F G F1 G1) (e : (a.contains 41 || a.contains 45) = false) (e1 : (b.contains 33 || b.contains 39 || b.contains 40) = false) : jKn K c id pl r F1 G1 := by
  have e2 : a.contains 41 = false ∧ a.contains 45 = false := by
    cases z : a.contains 41 <;> cases y : a.contains 45 <;> rw [z, y] at e <;> first | exact ⟨rfl, rfl⟩ | cases e
  have e3 : b.contains 33 = false ∧ b.contains 39 = false ∧ b.contains 40 = false := by
    cases z : b.contains 33 <;> cases y : b.contains 39 <;> cases x : b.contains 40 <;> rw [z, y, x] at e1 <;> first | exact ⟨rfl, rfl, rfl⟩ | cases e1
  unfold jKn jSL at h ⊢
  rw [k.1 41 e2.1, k.1 45 e2.2, k.2 33 e3.1, k.2 39 e3.2.1, k.2 40 e3.2.2]
  exact h
theorem jHre.kx {a b : List Nat} {lv : Int32} (h : jHre c lv pl r G) (k : KX a b F G F1 G1) (e1 : (b.contains 34 || b.contains 35 || b.contains 36) = false) : jHre c lv pl r G1 := by
  have e3 : b.contains 34 = false ∧ b.contains 35 = false ∧ b.contains 36 = false := by
    cases z : b.contains 34 <;> cases y : b.contains 35 <;> cases x : b.contains 36 <;> rw [z, y, x] at e1 <;> first | exact ⟨rfl, rfl, rfl⟩ | cases e1
  unfold jHre at h ⊢
  rw [k.2 34 e3.1, k.2 35 e3.2.1, k.2 36 e3.2.2]
  exact h
/-- an int of a function, where the class finds a fault -/
theorem cp_lintN (h : jKn K c id pl r F G) (hb : jHre c (F 42) pl r G ∨ ¬ (F 50 + 1) ≤ 200) : PP (cf_X4_localInt fu id pl F G) (fun _ F1 _ => (F1 43).toInt ≤ 4000) := by
  have h0 := h
  obtain ⟨⟨h1, h2⟩, ⟨h3, h4⟩, h5, h6, h7, h8⟩ := h0
  unfold cf_X4_localInt cb_X4_localInt_0
  refine PP.bind (PP.and (cw_X5_localRoom 1 pl F G) (cp_room 1 pl F G)) ?_
  rintro v F1 G1 ⟨k0, k1, k2, k3, k4⟩
  dsimp only
  by_cases z : (F 50 + 1) ≤ 200
  · rcases hb with hb | hb
    · unfold cb_X4_localInt_9
      refine PP.bind (cw_X1_addPair 72 v F1 G1) ?_
      rintro _ F2 G2 k5
      dsimp only
      unfold cb_X4_localInt_20
      have kn := (h.kx k0 rfl rfl).kx k5 rfl rfl
      have e42 : F2 42 = F 42 := (k5.1 42 rfl).trans (k0.1 42 rfl)
      refine PP.bind (cp_tell (fu := fu) id pl 1 v 0 kn.1.1 (by omega) h3 h4 kn.2.2.1 kn.2.2.2.1 kn.2.2.2.2.1 h8) ?_
      rintro _ F3 G3 ⟨y1, -⟩
      dsimp only
      unfold cb_X4_localInt_32
      refine PP.ret (y1 ?_)
      rw [e42]
      exact (hb.kx k0 rfl).kx k5 rfl
    · exact absurd z hb
  · have w := k4 h5 z h8
    exact PP.mono (kqj_X4_localInt_9 _ _ _ F1 G1 CFS.rf) (fun _ F' _ y => y.2 w)
/-- an int of a function, where it may stand -/
theorem cp_lintG (h : jKn K c id pl r F G) (h1 : ¬ jHre c (F 42) pl r G) (h2 : (F 50 + 1) ≤ 200) (rm : jRm 2 F) : PP (cf_X4_localInt fu id pl F G) (fun _ F1 G1 => ∃ (F2 : PF) (G2 : PG), EMC [72, 4 + F 49 + F 50] (fup F 50 (F 50 + 1)) G F2 G2 ∧ jIns c id pl 1 (4 + F 49 + F 50) 0 F2 G2 F1 G1) := by
  unfold cf_X4_localInt cb_X4_localInt_0
  refine PP.bind (cp_room 1 pl F G) ?_
  rintro v F1 _ ⟨rfl, rfl, k3, -⟩
  dsimp only
  rw [← k3 (.inr h2)]
  have k0 : KX [50] [] F G (fup F 50 (F 50 + 1)) G := KX.f rfl KX.rf
  have rm' : jRm 2 (fup F 50 (F 50 + 1)) := by
    unfold jRm
    rw [k0.1 7 rfl, k0.1 6 rfl]
    exact rm
  unfold cb_X4_localInt_9
  refine PP.bind (cp_wpair 72 (4 + F 49 + F 50) G rm') ?_
  rintro _ F2 G2 k5
  dsimp only
  unfold cb_X4_localInt_20
  have kn := (h.kx k0 rfl rfl).kx k5.1 rfl rfl
  have e42 : F2 42 = F 42 := (k5.1.1 42 rfl).trans (k0.1 42 rfl)
  refine PP.bind (cp_tell (fu := fu) id pl 1 (4 + F 49 + F 50) 0 kn.1.1 (by have := kn.1.2; omega) kn.2.1.1 kn.2.1.2 kn.2.2.1 kn.2.2.2.1 kn.2.2.2.2.1 kn.2.2.2.2.2) ?_
  rintro _ F3 G3 ⟨-, y2⟩
  dsimp only
  unfold cb_X4_localInt_32
  refine PP.ret ⟨F2, G2, k5, y2 (fun y => h1 ?_)⟩
  rw [e42] at y
  have e34 : G2 34 = G 34 := k5.1.2 34 rfl
  have e35 : G2 35 = G 35 := k5.1.2 35 rfl
  have e36 : G2 36 = G 36 := k5.1.2 36 rfl
  unfold jHre at y ⊢
  rw [e34, e35, e36] at y
  exact y
theorem cp_lint0 (h : F 45 = 0) (rm : jRm 2 F) : PP (cf_X4_localInt fu id pl F G) (fun _ F1 G1 => EMC [72, 4 + F 49 + F 50] (fup F 50 (F 50 + 1)) G F1 G1) := by
  unfold cf_X4_localInt cb_X4_localInt_0
  refine PP.bind (cp_room 1 pl F G) ?_
  rintro v F1 _ ⟨rfl, rfl, k3, -⟩
  dsimp only
  rw [← k3 (.inl h)]
  have k0 : KX [50] [] F G (fup F 50 (F 50 + 1)) G := KX.f rfl KX.rf
  have rm' : jRm 2 (fup F 50 (F 50 + 1)) := by
    unfold jRm
    rw [k0.1 7 rfl, k0.1 6 rfl]
    exact rm
  unfold cb_X4_localInt_9
  refine PP.bind (cp_wpair 72 (4 + F 49 + F 50) G rm') ?_
  rintro _ F2 G2 k5
  dsimp only
  unfold cb_X4_localInt_20 cf_X5_tell cb_X5_tell_0
  have e45 : F2 45 = 0 := by rw [k5.1.1 45 rfl, k0.1 45 rfl]; exact h
  rw [if_pos e45]
  unfold cb_X5_tell_7
  show PP (cb_X4_localInt_32 fu F2 G2) _
  unfold cb_X4_localInt_32
  exact PP.ret k5
/-- an array of a function: its words -/
theorem cp_words (k m : Int32) (F : PF) (G : PG) : PP (cf_X4_wordsOf fu k m F G) (fun r F1 G1 => F = F1 ∧ G = G1 ∧ ((k = 2 ∧ r = m) ∨ (¬ k = 2 ∧ r = (m + 3) / 4))) := by
  unfold cf_X4_wordsOf cb_X4_wordsOf_0 cb_X4_wordsOf_5 cb_X4_wordsOf_9 cb_X4_wordsOf_14
  exact PP.ite (fun z => PP.ret ⟨rfl, rfl, .inl ⟨z, rfl⟩⟩) (fun z => PP.ret ⟨rfl, rfl, .inr ⟨z, rfl⟩⟩)
theorem cp_larrN {k m : Int32} (h : jKn K c id pl r F G) (hb : jHre c (F 42) pl r G ∨ ∃ w : Int32, ((k = 2 ∧ w = m) ∨ (¬ k = 2 ∧ w = (m + 3) / 4)) ∧ ¬ (F 50 + w) ≤ 200) : PP (cf_X4_localArray fu id pl k m F G) (fun _ F1 _ => (F1 43).toInt ≤ 4000) := by
  have h0 := h
  obtain ⟨⟨h1, h2⟩, ⟨h3, h4⟩, h5, h6, h7, h8⟩ := h0
  unfold cf_X4_localArray cb_X4_localArray_0
  refine PP.bind (cp_words k m F G) ?_
  rintro w _ _ ⟨rfl, rfl, kw⟩
  dsimp only
  unfold cb_X4_localArray_6
  refine PP.bind (PP.and (cw_X5_localRoom w pl F G) (cp_room w pl F G)) ?_
  rintro v F1 G1 ⟨k0, k1, k2, k3, k4⟩
  dsimp only
  by_cases z : (F 50 + w) ≤ 200
  · rcases hb with hb | ⟨w', hw, hb⟩
    · unfold cb_X4_localArray_18
      refine PP.bind (cw_X1_addPair 73 v F1 G1) ?_
      rintro _ F2 G2 k5
      dsimp only
      unfold cb_X4_localArray_31
      refine PP.bind (cw_X1_add w F2 G2) ?_
      rintro _ F4 G4 k6
      dsimp only
      unfold cb_X4_localArray_40
      have kn := ((h.kx k0 rfl rfl).kx k5 rfl rfl).kx k6 rfl rfl
      have e42 : F4 42 = F 42 := (k6.1 42 rfl).trans ((k5.1 42 rfl).trans (k0.1 42 rfl))
      refine PP.bind (cp_tell (fu := fu) id pl k v m kn.1.1 (by omega) h3 h4 kn.2.2.1 kn.2.2.2.1 kn.2.2.2.2.1 h8) ?_
      rintro _ F3 G3 ⟨y1, -⟩
      dsimp only
      unfold cb_X4_localArray_54
      refine PP.ret (y1 ?_)
      rw [e42]
      exact ((hb.kx k0 rfl).kx k5 rfl).kx k6 rfl
    · have ew : w' = w := by
        rcases hw with ⟨y1, y2⟩ | ⟨y1, y2⟩
        · rcases kw with ⟨x1, x2⟩ | ⟨x1, x2⟩
          · rw [y2, x2]
          · exact absurd y1 x1
        · rcases kw with ⟨x1, x2⟩ | ⟨x1, x2⟩
          · exact absurd x1 y1
          · rw [y2, x2]
      rw [ew] at hb
      exact absurd z hb
  · have w5 := k4 h5 z h8
    exact PP.mono (kqj_X4_localArray_18 _ _ _ _ _ _ F1 G1 CFS.rf) (fun _ F' _ y => y.2 w5)
theorem cp_larrG {k m w : Int32} (h : jKn K c id pl r F G) (h1 : ¬ jHre c (F 42) pl r G) (hw : (k = 2 ∧ w = m) ∨ (¬ k = 2 ∧ w = (m + 3) / 4)) (h2 : (F 50 + w) ≤ 200) (rm : jRm 3 F) : PP (cf_X4_localArray fu id pl k m F G) (fun _ F1 G1 => ∃ (F2 : PF) (G2 : PG), EMC [73, 4 + F 49 + F 50, w] (fup F 50 (F 50 + w)) G F2 G2 ∧ jIns c id pl k (4 + F 49 + F 50) m F2 G2 F1 G1) := by
  unfold cf_X4_localArray cb_X4_localArray_0
  refine PP.bind (cp_words k m F G) ?_
  rintro w' _ _ ⟨rfl, rfl, kw⟩
  dsimp only
  have ew : w' = w := by
    rcases hw with ⟨y1, y2⟩ | ⟨y1, y2⟩
    · rcases kw with ⟨x1, x2⟩ | ⟨x1, x2⟩
      · rw [y2, x2]
      · exact absurd y1 x1
    · rcases kw with ⟨x1, x2⟩ | ⟨x1, x2⟩
      · exact absurd x1 y1
      · rw [y2, x2]
  rw [ew]
  unfold cb_X4_localArray_6
  refine PP.bind (cp_room w pl F G) ?_
  rintro v F1 _ ⟨rfl, rfl, k3, -⟩
  dsimp only
  rw [← k3 (.inr h2)]
  have k0 : KX [50] [] F G (fup F 50 (F 50 + w)) G := KX.f rfl KX.rf
  have k06 : fup F 50 (F 50 + w) 6 = F 6 := k0.1 6 rfl
  have k07 : fup F 50 (F 50 + w) 7 = F 7 := k0.1 7 rfl
  have rm' : jRm 2 (fup F 50 (F 50 + w)) := by
    unfold jRm
    rw [k07, k06]
    rcases rm with y | ⟨y1, y2, y3⟩
    · exact .inl y
    · exact .inr ⟨y1, y2, by omega⟩
  unfold cb_X4_localArray_18
  refine PP.bind (cp_wpair 73 (4 + F 49 + F 50) G rm') ?_
  rintro _ F2 G2 k5
  dsimp only
  have e7 : F2 7 = F 7 := (k5.1.1 7 rfl).trans k07
  have rm2 : jRm 1 F2 := by
    rcases rm with y | ⟨y1, y2, y3⟩
    · exact .inl (e7.trans y)
    · have : (F2 6).toInt = (fup F 50 (F 50 + w) 6).toInt + ((2 : Nat) : Int) := (k5.2.2 (k07.trans y1)).1
      rw [k06] at this
      exact .inr ⟨e7.trans y1, by omega, by omega⟩
  unfold cb_X4_localArray_31
  refine PP.bind (cp_wadd w G2 rm2) ?_
  rintro _ F4 G4 k6
  dsimp only
  unfold cb_X4_localArray_40
  have h06 : 0 ≤ (F 6).toInt ∨ F 7 = 0 := by
    rcases rm with y | ⟨y1, y2, y3⟩
    · exact .inr y
    · exact .inl y2
  have k7 : EMC [73, 4 + F 49 + F 50, w] (fup F 50 (F 50 + w)) G F4 G4 := by
    rcases h06 with y | y
    · exact k5.tr k6 (by rw [k06]; exact y)
    · have a1 := k5.2.1 (k07.trans y)
      have a2 := k6.2.1 (e7.trans y)
      exact ⟨KX.tr k5.1 k6.1 rfl rfl, fun _ => ⟨a2.1.trans a1.1, a2.2.trans a1.2⟩, fun z => by rw [k07, y] at z; exact absurd z (by decide)⟩
  have kn := (h.kx k0 rfl rfl).kx k7.1 rfl rfl
  have e42 : F4 42 = F 42 := (k7.1.1 42 rfl).trans (k0.1 42 rfl)
  refine PP.bind (cp_tell (fu := fu) id pl k (4 + F 49 + F 50) m kn.1.1 (by have := kn.1.2; omega) kn.2.1.1 kn.2.1.2 kn.2.2.1 kn.2.2.2.1 kn.2.2.2.2.1 kn.2.2.2.2.2) ?_
  rintro _ F3 G3 ⟨-, y2⟩
  dsimp only
  unfold cb_X4_localArray_54
  refine PP.ret ⟨F4, G4, k7, y2 (fun y => h1 ?_)⟩
  rw [e42] at y
  have e34 : G4 34 = G 34 := k7.1.2 34 rfl
  have e35 : G4 35 = G 35 := k7.1.2 35 rfl
  have e36 : G4 36 = G 36 := k7.1.2 36 rfl
  unfold jHre at y ⊢
  rw [e34, e35, e36] at y
  exact y
theorem cp_larr0 {k m : Int32} (h : F 45 = 0) (rm : jRm 3 F) (h06 : 0 ≤ (F 6).toInt) : PP (cf_X4_localArray fu id pl k m F G) (fun _ F1 G1 => ∃ w : Int32, EMC [73, 4 + F 49 + F 50, w] (fup F 50 (F 50 + w)) G F1 G1) := by
  unfold cf_X4_localArray cb_X4_localArray_0
  refine PP.bind (cp_words k m F G) ?_
  rintro w _ _ ⟨rfl, rfl, kw⟩
  dsimp only
  unfold cb_X4_localArray_6
  refine PP.bind (cp_room w pl F G) ?_
  rintro v F1 _ ⟨rfl, rfl, k3, -⟩
  dsimp only
  rw [← k3 (.inl h)]
  have k0 : KX [50] [] F G (fup F 50 (F 50 + w)) G := KX.f rfl KX.rf
  have k06 : fup F 50 (F 50 + w) 6 = F 6 := k0.1 6 rfl
  have k07 : fup F 50 (F 50 + w) 7 = F 7 := k0.1 7 rfl
  have rm' : jRm 2 (fup F 50 (F 50 + w)) := by
    unfold jRm
    rw [k07, k06]
    rcases rm with y | ⟨y1, y2, y3⟩
    · exact .inl y
    · exact .inr ⟨y1, y2, by omega⟩
  unfold cb_X4_localArray_18
  refine PP.bind (cp_wpair 73 (4 + F 49 + F 50) G rm') ?_
  rintro _ F2 G2 k5
  dsimp only
  have e7 : F2 7 = F 7 := (k5.1.1 7 rfl).trans k07
  have rm2 : jRm 1 F2 := by
    rcases rm with y | ⟨y1, y2, y3⟩
    · exact .inl (e7.trans y)
    · have : (F2 6).toInt = (fup F 50 (F 50 + w) 6).toInt + ((2 : Nat) : Int) := (k5.2.2 (k07.trans y1)).1
      rw [k06] at this
      exact .inr ⟨e7.trans y1, by omega, by omega⟩
  unfold cb_X4_localArray_31
  refine PP.bind (cp_wadd w G2 rm2) ?_
  rintro _ F4 G4 k6
  dsimp only
  unfold cb_X4_localArray_40 cf_X5_tell cb_X5_tell_0
  have e45 : F4 45 = 0 := by rw [k6.1.1 45 rfl, k5.1.1 45 rfl, k0.1 45 rfl]; exact h
  rw [if_pos e45]
  unfold cb_X5_tell_7
  show PP (cb_X4_localArray_54 fu F4 G4) _
  unfold cb_X4_localArray_54
  exact PP.ret ⟨w, k5.tr k6 (by rw [k06]; exact h06)⟩
theorem jD.mv (D : jD N j F1 G1 F2 G2) (kc : KX [29, 30, 31, 41, 42, 50] [33, 34, 35, 36, 37, 38, 39, 40] F1 G1 F3 G3) (km : KX [14, 15, 51, 52, 53, 63, 64, 65, 66] [16, 17, 18, 19, 20, 21, 22, 23] F2 G2 F4 G4) : jD N j F3 G3 F4 G4 := by
  obtain ⟨D1, ⟨D2, D3, D4⟩, D5, D7, D8, D9⟩ := D
  refine ⟨?_, ⟨?_, ?_, ?_⟩, ?_, ?_, ?_, ?_⟩
  · unfold CU at D1 ⊢
    rw [kc.1 9 rfl, km.1 42 rfl, kc.1 10 rfl, km.1 43 rfl, kc.1 14 rfl, km.1 44 rfl, kc.1 11 rfl, kc.1 12 rfl, kc.1 13 rfl, kc.2 90 rfl, kc.2 91 rfl, kc.2 92 rfl]
    exact D1
  · rw [km.1 47 rfl]; exact D2
  · rw [kc.1 43 rfl]; exact D3
  · rw [kc.1 47 rfl]; exact D4
  · rw [kc.1 21 rfl, km.2 6 rfl]; exact D5
  · rw [kc.1 6 rfl]; exact D7
  · rw [km.1 60 rfl]; exact D8
  · rw [km.1 70 rfl]; exact D9
/-- one more is told in a function: what stands then -/
theorem jV.dcl {x : Nat × Nat} {x1 cid pl ck cv cz mk b3 mc mz b6 : Int32} {n0 i0 : Nat} {F2' : PF} (V : jV X p N K n q nf t i0 Fa Ga Fb Gb) (S : jS X p N K n q nf t Fc Gc Fm Gm) (D : jD N j Fc Gc Fm Gm) (rm : (Fc 6).toInt ≤ 2 * (Gm 6 j).toInt + 100)
    (ins : p = 1 → jIns (q + t) cid pl ck cv cz Fc Gc F1 G1) (ins0 : p = 0 → F1 = Fc ∧ G1 = Gc) (de : p = 1 → jDe t x1 mk b3 mc mz b6 Fm Gm F2' G2) (de0 : p = 0 → F2' = Fm ∧ G2 = Gm) (k53 : KX [53] [] F2' G2 F2 G2)
    (kc : KX jXt jYs Fa Ga F1 G1) (kc0 : p = 0 → KX jXu jYk Fa Ga F1 G1) (km : KX jZt jWs Fb Gb F2 G2) (e46 : F1 46 = 0) (e54 : F2 54 = 0) (xb : jXB F1) (hij : i0 ≤ j)
    (tok : p = 1 → i0 ≤ n0 + 1 ∧ n0 + 1 ≤ j ∧ cid = Gm 5 x1.toNatClampNeg ∧ pl = Gm 6 x1.toNatClampNeg ∧ 0 ≤ cid.toInt ∧ cid.toInt < K ∧ jDc (Gm 4) (Gm 5) n0 ∧ ¬ Gm 5 (n0 + 1) = 22 ∧ jPl N q nf t n0 (Gm 4) (Gm 5)) (nt : p = 1 → ¬ jTw nf t x1 Fm Gm) (en : p = 1 → jEN X.2.1 (X.2.2.1 ++ [x]) ck cv cz (Fm 15) mk mc mz (vp_nar .boolean b3) (vp_nar .boolean b6))
    (own : p = 1 → (F2 53).toInt = jsC (X.2.2.1 ++ [x]) ∧ F1 50 = F2 52 ∧ (F1 49).toInt + (F1 50).toInt = jsW (X.2.2.1 ++ [x]) ∧ 0 ≤ (F2 52).toInt ∧ (F2 52).toInt ≤ 200) : jV (X.1, X.2.1, X.2.2.1 ++ [x], X.2.2.2) p N K n q nf (t + 1) j F1 G1 F2 G2 := by
  obtain ⟨-, ⟨⟨a1, a2, a3⟩, ⟨b1, b2, b3'⟩, ⟨c1, c2, c3⟩, d1, d2⟩⟩ := V
  obtain ⟨h1, h2, h3, h4, h5, h6⟩ := S
  have u : jUp X (X.1, X.2.1, X.2.2.1 ++ [x], X.2.2.2) := ⟨rfl, ⟨[], (List.append_nil _).symm⟩, ⟨[x], rfl⟩, rfl⟩
  have kc1 : KX [41] [33, 34, 35, 36, 37, 38, 39, 40] Fc Gc F1 G1 := by
    rcases h2 with z | z
    · obtain ⟨y1, y2⟩ := ins0 z
      rw [y1, y2]
      exact KX.rf
    · exact (ins z).1
  have km1 : KX [14, 53] [16, 17, 18, 19, 20, 21, 22, 23] Fm Gm F2 G2 := by
    rcases h2 with z | z
    · obtain ⟨y1, y2⟩ := de0 z
      rw [y1, y2] at k53
      rw [y2]
      exact KX.tr KX.rf k53 rfl rfl
    · exact KX.tr (KX.tr KX.rf (de z).1 rfl rfl) k53 rfl rfl
  have D' : jD N j F1 G1 F2 G2 := D.mv (KX.tr KX.rf kc1 rfl rfl) (KX.tr KX.rf km1 rfl rfl)
  have f42 : F1 42 = F2 15 := by rw [kc.1 42 rfl, km.1 15 rfl]; exact c1
  refine ⟨⟨⟨h1.keep (kc1.1 93 rfl) (kc1.2 90 rfl) (kc1.2 91 rfl) (kc1.2 92 rfl) (km1.1 7 rfl) (km1.1 8 rfl) (km1.2 4 rfl) (km1.2 5 rfl) (km1.2 6 rfl), h2, ?_, ?_, .inl e54, fun z => ?_⟩, D', ?_⟩, ⟨⟨a1, e54, xb⟩, ?_, ?_, fun z => ?_, fun z => ?_⟩⟩
  · rw [km1.1 46 rfl, kc1.1 45 rfl, kc1.1 7 rfl]
    exact h3
  · rw [e46, e54]
  · obtain ⟨g1, g2, g3, g4, g5, g6⟩ := h6 z
    obtain ⟨t1, t2, t3, t4, t5, t6, t7, t8, t9⟩ := tok z
    have f15 : Fm 15 = Fb 15 := by rw [← km1.1 15 rfl, km.1 15 rfl]
    have tp := h1.1.2.2
    have tl : ∀ i : Nat, i < N → 1 ≤ tlen (Gm 4 i) (Gm 5 i) := fun i hi => jS.t1 (X := X) (p := p) (K := K) (n := n) (q := q) (nf := nf) (t := t) (Fc := Fc) (Gc := Gc) (Fm := Fm) ⟨h1, h2, h3, h4, h5, h6⟩ hi
    have r6 := (t9.room tp tl (jS.p0t (X := X) (p := p) (K := K) (n := n) (q := q) (nf := nf) (t := t) (Fc := Fc) (Gc := Gc) (Fm := Fm) ⟨h1, h2, h3, h4, h5, h6⟩) (by have := D.1.1; omega) (by rw [h1.2.2.2.2.2.1]; have := h1.1.2.1; omega)).1
    have nw := jNew u g2 g3 g4 g5 (ins z) (de z) t3 t4 t5 t6 (by omega) (nt z) (fun y => by rw [f15] at y; rw [y] at c2; exact absurd c2 (by decide)) (en z)
    obtain ⟨w1, ⟨w2, w3, w4, w5, w6, w7⟩, w8, w9⟩ := nw
    have f24 : F2 24 = F2' 24 := k53.1 24 rfl
    have f14 : F2 14 = F2' 14 := k53.1 14 rfl
    have f15' : F2 15 = F2' 15 := k53.1 15 rfl
    refine ⟨?_, ?_, ⟨by rw [f14]; exact w2, w3, w4, f42, by rw [f15']; exact w6, by rw [f15']; exact w7⟩, w8, w9, ?_⟩
    · show X.1 = true ↔ ¬ F2 54 = 0
      rw [e54, a1]
      exact ⟨fun y => absurd y (by decide), fun y => absurd rfl y⟩
    · unfold jSA at w1 ⊢
      rw [f24]
      exact w1
    · unfold jFT at g6 ⊢
      rw [kc1.1 74 rfl, kc1.2 82 rfl, kc1.2 77 rfl, kc1.2 78 rfl, kc1.2 83 rfl, kc1.2 84 rfl, km1.2 33 rfl, km1.2 26 rfl, km1.2 27 rfl, km1.2 31 rfl, km1.2 34 rfl]
      exact g6
  · rw [kc1.1 6 rfl, km1.2 6 rfl]
    exact rm
  · rw [kc.1 29 rfl, km.1 51 rfl]
    exact ⟨b1, b2, by omega⟩
  · rw [f42, km.1 15 rfl]
    exact ⟨rfl, c2, by omega⟩
  · have k0 := kc0 z
    rw [k0.1 41 rfl, k0.2 34 rfl]
    exact d1 z
  · obtain ⟨y1, y2, y3⟩ := d2 z
    obtain ⟨o1, o2, o3, o4, o5⟩ := own z
    obtain ⟨t1, t2, t3, t4, t5, t6, t7, t8, t9⟩ := tok z
    refine ⟨?_, ⟨o1, o2, o3, ?_, ?_, o4, o5⟩, ?_⟩
    · rw [km.2 33 rfl, km.1 50 rfl, kc.1 48 rfl]
      exact y1
    · rw [kc.1 49 rfl]
      exact y2.2.2.2.1
    · rw [kc.1 49 rfl]
      exact y2.2.2.2.2.1
    · rw [km1.2 4 rfl, km1.2 5 rfl]
      exact t9.new (Nat.le_refl _) t2 t7 t8
end JW9
