section JE4
variable {fu : Nat} {X : JCX} {p : Int32} {N K n q nf t i : Nat} {Fc Fm : PF} {Gc Gm : PG}
/-- the class writes where an element is -/
theorem cp_index34 {rc : RC} (sym pl : Int32) {F : PF} {G : PG} (h0 : 0 ≤ (F 6).toInt) (rm : jRm 5 F) : PP (cb_X3_index_34 fu rc sym pl F G) (fun _ F1 G1 => ∃ a b c d : Int32, EMC [a, b, c, d, pl] F G F1 G1 ∧ ∀ j k : Nat, (F 41).toInt = k → k ≤ 700 → j < k → sym = nI j → a = (if G 38 j = 0 then 76 else if G 34 j = 0 then 74 else 75) ∧ b = G 37 j ∧ c = G 38 j ∧ d = (if G 35 j = 3 then 2 else 0)) := by
  have rm' : ∀ (m m' : Int) (ws : List Int32) (F1 : PF) (G1 : PG), EMC ws F G F1 G1 → (ws.length : Int) + m' ≤ 5 → m = m' → jRm m F1 := by
    intro m m' ws F1 G1 e h1 h2
    have e7 : F1 7 = F 7 := e.1.1 7 rfl
    rcases rm with z | ⟨z, z1, z2⟩
    · exact .inl (e7.trans z)
    · have := (e.2.2 z).1
      exact .inr ⟨e7.trans z, by omega, by omega⟩
  have rm2 : jRm 2 F := rm' 2 2 [] F G ⟨KX.rf, fun _ => ⟨rfl, rfl⟩, fun _ => ⟨by show _ = _ + ((0 : Nat) : Int); omega, fun _ _ => rfl, fun j x hj => by cases hj⟩⟩ (by decide) rfl
  -- from the operation on
  have on : ∀ a : Int32, (∀ j k : Nat, (F 41).toInt = k → k ≤ 700 → j < k → sym = nI j → a = (if G 38 j = 0 then 76 else if G 34 j = 0 then 74 else 75)) → PP (cb_X3_index_82 fu rc sym pl a F G) (fun _ F1 G1 => ∃ a b c d : Int32, EMC [a, b, c, d, pl] F G F1 G1 ∧ ∀ j k : Nat, (F 41).toInt = k → k ≤ 700 → j < k → sym = nI j → a = (if G 38 j = 0 then 76 else if G 34 j = 0 then 74 else 75) ∧ b = G 37 j ∧ c = G 38 j ∧ d = (if G 35 j = 3 then 2 else 0)) := by
    intro a ha
    unfold cb_X3_index_82
    refine PP.bind (cp_value sym F G) ?_
    rintro b _ _ ⟨rfl, rfl, hb⟩
    dsimp only
    unfold cb_X3_index_90
    refine PP.bind (cp_wpair a b G rm2) ?_
    intro _ F1 G1 e1
    dsimp only
    unfold cb_X3_index_93
    refine PP.bind (cp_size sym F1 G1) ?_
    rintro c _ _ ⟨rfl, rfl, hc⟩
    dsimp only
    unfold cb_X3_index_105
    refine PP.bind (cp_wadd c G1 (rm' 1 1 [a, b] F1 G1 e1 (show ((2 : Nat) : Int) + 1 ≤ 5 by decide) rfl)) ?_
    intro _ F2 G2 e2
    have e2 := e1.tr e2 h0
    dsimp only
    unfold cb_X3_index_108
    refine PP.bind (cp_kind sym F2 G2) ?_
    rintro κ _ _ ⟨rfl, rfl, -, hk⟩
    dsimp only
    unfold cb_X3_index_120
    have fin : ∀ d : Int32, (∀ j k : Nat, (F 41).toInt = k → k ≤ 700 → j < k → sym = nI j → d = (if G 35 j = 3 then 2 else 0)) → PP (cb_X3_index_129 fu rc pl d F2 G2) (fun _ F1 G1 => ∃ a b c d : Int32, EMC [a, b, c, d, pl] F G F1 G1 ∧ ∀ j k : Nat, (F 41).toInt = k → k ≤ 700 → j < k → sym = nI j → a = (if G 38 j = 0 then 76 else if G 34 j = 0 then 74 else 75) ∧ b = G 37 j ∧ c = G 38 j ∧ d = (if G 35 j = 3 then 2 else 0)) := by
      intro d hd
      unfold cb_X3_index_129
      refine PP.bind (cp_wadd d G2 (rm' 1 1 [a, b, c] F2 G2 e2 (show ((3 : Nat) : Int) + 1 ≤ 5 by decide) rfl)) ?_
      intro _ F3 G3 e3
      have e3 := e2.tr e3 h0
      dsimp only
      unfold cb_X3_index_132
      refine PP.bind (cp_wadd pl G3 (rm' 1 1 [a, b, c, d] F3 G3 e3 (show ((4 : Nat) : Int) + 1 ≤ 5 by decide) rfl)) ?_
      intro _ F4 G4 e4
      have e4 := e3.tr e4 h0
      dsimp only
      unfold cb_X3_index_140
      refine PP.ret ⟨a, b, c, d, e4, fun j k k1 k2 k3 k4 => ⟨ha j k k1 k2 k3 k4, hb j k k1 k2 k3 k4, ?_, hd j k k1 k2 k3 k4⟩⟩
      rw [hc j k (by rw [e1.1.1 41 rfl]; exact k1) k2 k3 k4, e1.1.2 38 rfl]
    have hk : ∀ j k : Nat, (F 41).toInt = k → k ≤ 700 → j < k → sym = nI j → κ = G 35 j := fun j k k1 k2 k3 k4 => by
      rw [hk j k (by rw [e2.1.1 41 rfl]; exact k1) k2 k3 k4, e2.1.2 35 rfl]
    refine PP.ite (fun w => ?_) (fun w => ?_)
    · unfold cb_X3_index_124
      refine fin 2 (fun j k k1 k2 k3 k4 => ?_)
      rw [if_pos ((hk j k k1 k2 k3 k4).symm.trans w)]
    · unfold cb_X3_index_128
      refine fin 0 (fun j k k1 k2 k3 k4 => ?_)
      rw [if_neg (fun z => w ((hk j k k1 k2 k3 k4).trans z))]
  unfold cb_X3_index_34
  refine PP.bind (cp_size sym F G) ?_
  rintro c _ _ ⟨rfl, rfl, hc⟩
  dsimp only
  unfold cb_X3_index_42
  refine PP.ite (fun w => ?_) (fun w => ?_)
  · unfold cb_X3_index_45 cb_X3_index_50
    rw [if_neg i10n]
    unfold cb_X3_index_59
    refine on 76 (fun j k k1 k2 k3 k4 => ?_)
    rw [if_pos ((hc j k k1 k2 k3 k4).symm.trans w)]
  · unfold cb_X3_index_49 cb_X3_index_50
    rw [if_pos rfl]
    unfold cb_X3_index_64
    refine PP.bind (cp_isGlobal sym F G) ?_
    rintro g _ _ ⟨rfl, rfl, hg⟩
    dsimp only
    unfold cb_X3_index_72
    refine PP.ite (fun w2 => ?_) (fun w2 => ?_)
    · unfold cb_X3_index_80
      refine on 75 (fun j k k1 k2 k3 k4 => ?_)
      rw [if_neg (fun z => w ((hc j k k1 k2 k3 k4).trans z))]
      rcases hg j k k1 k2 k3 k4 with ⟨z, -⟩ | ⟨-, z⟩
      · rw [w2] at z
        exact absurd z (by decide)
      · rw [if_neg z]
    · unfold cb_X3_index_75
      refine on 74 (fun j k k1 k2 k3 k4 => ?_)
      rw [if_neg (fun z => w ((hc j k k1 k2 k3 k4).trans z))]
      rcases hg j k k1 k2 k3 k4 with ⟨-, z⟩ | ⟨z, -⟩
      · rw [if_pos z]
      · exact absurd z w2
/-- an entry that is an array, in both -/
theorem jEN.arr {gl ll : JLY} {kf : Nat → List Nat} {b : Bool} {ck cv cz lv mk mc mz mb ml : Int32} (h : jEN gl ll ck cv cz lv mk mc mz mb ml) (h2 : mk = 2) : ∃ κ g l : Nat, (κ = 1 ∨ κ = 2) ∧ l ≤ 1 ∧ ck = nI (κ + 1) ∧ mb = nI (κ - 1) ∧ ml = nI l ∧ jArr (b, gl, ll, kf) κ mc mz (nI l) g cv cz ∧ jAtg g = (if cz = 0 then 76 else if lv = 0 then 74 else 75) ∧ jPas g = (if cz = 0 then 83 else if lv = 0 then 81 else 82) := by
  have nz : ∀ n : Nat, 1 ≤ n → n ≤ 500 → ¬ nI n = 0 := fun n n1 n2 z => by
    have := congrArg Int32.toInt z
    rw [nI_toInt (by omega)] at this
    have l0 : (0 : Int32).toInt = 0 := rfl
    omega
  rcases h with ⟨-, h, -⟩ | ⟨-, h, -⟩ | ⟨κ, k0, k1, k2, k3, h⟩
  · exact absurd (h.symm.trans h2) (by decide)
  · exact absurd (h.symm.trans h2) (by decide)
  · rcases h with ⟨a1, a2, a3, a4, p, o, a5, a6, a7⟩ | ⟨m, m1, m2, m3, m4, ⟨a1, a2, p, o, a5, a6, a7⟩ | ⟨a1, a2, p, o, a5, a6, a7⟩⟩
    · exact ⟨κ, 0, 1, k0, Nat.le_refl _, k1, k3, a2, .inl ⟨rfl, a3, a4, p, o, a5, a6, a7⟩, by rw [if_pos a4]; rfl, by rw [if_pos a4]; rfl⟩
    · have z : ¬ cz = 0 := by rw [m4]; exact nz m m1 m2
      exact ⟨κ, 1, 0, k0, Nat.zero_le _, k1, k3, a2, .inr (.inr ⟨rfl, rfl, p, o, m, m1, m2, a5, a6, a7, m3, m4⟩), by rw [if_neg z, if_pos a1]; rfl, by rw [if_neg z, if_pos a1]; rfl⟩
    · have z : ¬ cz = 0 := by rw [m4]; exact nz m m1 m2
      exact ⟨κ, 2, 1, k0, Nat.le_refl _, k1, k3, a2, .inr (.inl ⟨rfl, rfl, p, o, m, m1, m2, a5, a6, a7, m3, m4⟩), by rw [if_neg z, if_neg a1]; rfl, by rw [if_neg z, if_neg a1]; rfl⟩
end JE4
