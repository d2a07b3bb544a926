abbrev jXl : List Nat := [9, 10, 11, 12, 13, 14, 41, 43, 44, 47, 49, 85]
abbrev jYl : List Nat := [33, 34, 35, 36, 37, 38, 39, 40, 78, 81, 84]
abbrev jZl : List Nat := [14, 35, 42, 43, 44, 45, 47, 48, 49, 53]
abbrev jWl : List Nat := [16, 17, 18, 19, 20, 21, 22, 23, 34]
/-- the tables of the first pass, k FORMALs of function f read -/
def jFo (f c0 k : Nat) (L : List Nat) (Gs Gt : PG) (F1 : PF) (G1 : PG) (F2 : PF) (G2 : PG) : Prop := ((F1 85).toInt = (c0 : Int) + k ∧ (F2 35).toInt = (c0 : Int) + k) ∧ (G1 78 f = nI k ∧ ∀ y : Nat, y ≠ f → G1 78 y = Gs 78 y) ∧ (∀ y : Nat, y < c0 → G1 84 y = Gs 84 y ∧ G2 34 y = Gt 34 y) ∧ (∀ y : Nat, y < k → ∃ kd : Nat, kd ≤ 2 ∧ G2 34 (c0 + y) = nI kd ∧ G1 84 (c0 + y) = nI (kd + 1) ∧ L[y]? = some kd) ∧ L.length = k
theorem jCm_le (k v : Nat → Int32) (z : Nat) : ∀ m : Nat, jCm k v z m ≤ m := by
  intro m
  induction m with
  | zero => exact Nat.le_refl _
  | succ m ih =>
    show jCm k v z m + _ ≤ m + 1
    split <;> omega
theorem jCm_no {k v : Nat → Int32} {z : Nat} : ∀ (m l : Nat), (∀ y : Nat, m ≤ y → y < m + l → ¬ (k (z + y) = 4 ∧ v (z + y) = 28)) → jCm k v z (m + l) = jCm k v z m := by
  intro m l
  induction l with
  | zero => exact fun _ => rfl
  | succ l ih =>
    intro h
    show jCm k v z (m + l) + (if k (z + (m + l)) = 4 ∧ v (z + (m + l)) = 28 then 1 else 0) = _
    rw [if_neg (h (m + l) (by omega) (by omega)), ih (fun y y1 y2 => h y y1 (by omega)), Nat.add_zero]
section JVC
variable {fu : Nat} {X : JCX} {p : Int32} {N K n q nf t i j : Nat} {F Fa Fb Fc Fm F1 F2 F3 F4 F5 F6 : PF} {G Ga Gb Gc Gm G1 G2 G3 G4 G5 G6 : PG} {a : PR} {g kc : Int32 × PF × PG → PR} {Q : Int32 → PF → PG → Int32 → PF → PG → Prop}
theorem nI_0n {k : Nat} (h : k ≤ 2) : nI k = 0 ↔ k = 0 := by
  rcases (show k = 0 ∨ k = 1 ∨ k = 2 by omega) with z | z | z <;> rw [z] <;> decide
/-- the reference behind a FORMAL -/
theorem mp_f195 {ag : Int32 → Int32 → Int32 → Int32 → PF → PG → PR} {xf x4 x5 r : Int32} (h44 : F 44 = 0) (H0 : F 46 = 0 → ∀ w : Int32, (r = 0 ∧ w = 1) ∨ (¬ r = 0 ∧ w = 2) → JP a ((mb_function_246 fu ag xf x5 w x4 (fup F 35 (F 35 + 1)) (gup G 34 (F 35).toNatClampNeg r)).bind g) Q) (H1 : ¬ F 46 = 0 → ∀ w : Int32, (r = 0 ∧ w = 1) ∨ (¬ r = 0 ∧ w = 2) → JP a ((mb_function_246 fu ag xf x5 w x4 F G).bind g) Q) : JP a ((mb_function_195 fu ag xf x4 x5 r F G).bind g) Q := by
  unfold mb_function_195
  rw [if_pos (show F 44 ≤ 0 by rw [h44]; decide)]
  unfold mb_function_206
  refine JP.iteRR (fun z => ?_) (fun z => ?_)
  · unfold mb_function_213
    refine JP.ixRR (fun _ => ?_)
    unfold mb_function_224 mb_function_234
    refine JP.iteRR (fun y => ?_) (fun y => ?_)
    · exact H0 z 1 (.inl ⟨y, rfl⟩)
    · exact H0 z 2 (.inr ⟨y, rfl⟩)
  · unfold mb_function_234
    refine JP.iteRR (fun y => ?_) (fun y => ?_)
    · exact H1 z 1 (.inl ⟨y, rfl⟩)
    · exact H1 z 2 (.inr ⟨y, rfl⟩)
/-- no comma: the bracket ends the FORMALs -/
theorem jt_fend {xf x4 om : Int32} {w : Int32} {k nc nm : Nat} (hk : k < 4001) (hQ : ∀ (r1 : Int32) (F1 : PF) (G1 : PG) (r2 : Int32) (F2 : PF) (G2 : PG), jEnd F1 F2 → Q r1 F1 G1 r2 F2 G2) (hkc : ∀ (F0 : PF) (r : Int32) (F : PF) (G : PG), CFS F0 F → PP (kc (r, F, G)) (fun _ F' _ => CFS F0 F')) (hg : ∀ (F0 : PF) (r : Int32) (F : PF) (G : PG), MFS F0 F → PP (g (r, F, G)) (fun _ F' _ => MFS F0 F')) (T : TKE N K n F3 G3 F4 G4) (C : CU N j F3 G3 F4 G4) (n25 : ¬ F3 11 = 25) (o1 : 1 ≤ (F3 10).toInt)
    (H : ∀ (F5 : PF) (G5 : PG) (F6 : PF) (G6 : PG), F3 11 = 20 → j < N → jOn N (j + 1) (-1) F3 G3 F4 G4 F5 G5 F6 G6 → JP (kc (0, F5, G5)) ((mb_function_293 fu xf (x4 + w) (nI (k + 1)) F6 G6).bind g) Q) : JP ((cb_X4_formals_50 fu (cl_X4_formals_33 fu nc) om (nI k) F3 G3).bind kc) ((mb_function_246 fu (ml_function_177 fu nm) xf (nI k) w x4 F4 G4).bind g) Q := by
  have sg := C.sg T (w := 28) (a := 25) (b := 28) (by decide) (by decide) (by decide)
  have sg2 := C.sg T (w := 23) (a := 20) (b := 23) (by decide) (by decide) (by decide)
  unfold cb_X4_formals_50 mb_function_246
  rw [if_neg n25, nI_s k (by omega)]
  refine JP.isSS (fun hc => absurd (sg.mpr hc) n25) (fun hc => ?_)
  unfold cb_X4_formals_66 cb_X4_formals_67 cb_X4_formals_79 mb_function_258 mb_function_274 mb_function_275 mb_function_279
  rw [if_pos rfl, if_pos rfl, fup_id, nI_s k (by omega)]
  cases nc with
  | zero => exact JP.noL
  | succ nc =>
    cases nm with
    | zero => exact JP.noR
    | succ nm =>
      have ec : cl_X4_formals_33 fu (nc + 1) om 0 (nI (k + 1)) F3 G3 = cb_X4_formals_85 fu F3 G3 := by
        show cb_X4_formals_33 fu (cl_X4_formals_33 fu nc) om 0 (nI (k + 1)) F3 G3 = _
        unfold cb_X4_formals_33 cb_X4_formals_40
        rw [if_pos (rfl : (0 : Int32) = 0)]
        split <;> rfl
      have em : ml_function_177 fu (nm + 1) xf (x4 + w) (nI (k + 1)) 0 F4 G4 = mb_function_282 fu xf (x4 + w) (nI (k + 1)) F4 G4 := by
        show mb_function_177 fu (ml_function_177 fu nm) xf (x4 + w) (nI (k + 1)) 0 F4 G4 = _
        unfold mb_function_177
        rw [if_pos rfl]
      rw [ec, em]
      unfold cb_X4_formals_85 mb_function_282
      rw [Option.bind_assoc, Option.bind_assoc]
      refine JP.both (jo_close T C o1 (w := 23) (by decide) (by decide) (by decide)) ?_
      rintro r7 F7 G7 r8 F8 G8 (⟨rfl, hy, o⟩ | o)
      · dsimp only
        unfold mb_function_288
        rw [if_neg i10n]
        exact H F7 G7 F8 G8 (sg2.mpr hy) (C.ltS T hy) o
      · dsimp only
        exact JP.fin (PP.bind (kqj_X4_formals_94 F7 G7 CFS.rf) (fun r F G w => hkc F7 r F G w)) (PP.bind (nqj_function_288 xf (x4 + w) (nI (k + 1)) r8 F8 G8 MFS.rf) (fun r F G w => hg F8 r F G w)) (.inr o) hQ
end JVC
