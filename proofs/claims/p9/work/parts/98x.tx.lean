/-- the reader of a whole text -/
def rl_tops (K V : Nat → Int32) (fu : Nat) : Nat → Int32 → OR
  | 0 => fun _ => none
  | n + 1 => fun t => if K t.toNatClampNeg = 0 then ryes t else rb (rtells K V fu t 0) (fun t1 => rl_tops K V fu n t1)
def txQ (K V : Nat → Int32) (fu : Nat) (b : Int32) (R : OR) (r : Int32) (F' : PF) : Prop := (r = 1 ∧ F' 44 = 0 ∧ b = -1 ∧ ∃ t, R = some (some t)) ∨ (r = 0 ∧ 0 < (F' 44).toInt ∧ (R = some none ∨ ¬ b = -1))
theorem mr_tx127 {fu : Nat} {K V : Nat → Int32} {b : Int32} {R : OR} (F : PF) (G : PG) (h8 : F 8 = b) (h : (F 44 = 0 ∧ ∃ t, R = some (some t)) ∨ (0 < (F 44).toInt ∧ R = some none)) : PP (mb_texts_127 fu F G) (fun r F' _ => txQ K V fu b R r F') := by
  unfold mb_texts_127
  rcases h with ⟨h44, ht⟩ | ⟨h44, ht⟩
  · rw [if_pos h44]
    unfold mb_texts_134
    refine PP.ite (fun c => ?_) (fun c => ?_)
    · unfold mb_texts_150 mb_texts_155
      exact PP.bz (fun _ => PP.ret (Or.inl ⟨rfl, h44, h8.symm.trans c, ht⟩))
    · unfold mb_texts_142
      refine PP.bind (mp_fails 1 (by decide) F G) ?_
      rintro r F1 G1 ⟨rfl, hf⟩
      dsimp only
      unfold mb_texts_147
      rw [if_pos rfl]
      unfold mb_texts_154 mb_texts_155
      exact PP.bz (fun _ => PP.ret (Or.inr ⟨rfl, hf.1, Or.inr (fun q => c (h8.trans q))⟩))
  · rw [if_neg (fun q => by rw [q] at h44; exact absurd h44 (by decide))]
    unfold mb_texts_154 mb_texts_155
    exact PP.bz (fun _ => PP.ret (Or.inr ⟨rfl, h44, Or.inl ht⟩))
theorem mr_tx87 {fu : Nat} {K V : Nat → Int32} {b : Int32} {R : OR} : ∀ (n : Nat) (x1 x2 : Int32) (F : PF) (G : PG), G 4 = K → G 5 = V → F 8 = b → ((x2 = 1 ∧ F 44 = 0 ∧ F 43 = 0 ∧ R = rl_tops K V fu n (F 42)) ∨ (x2 = 0 ∧ 0 < (F 44).toInt ∧ R = some none)) → PP (ml_texts_87 fu n x1 x2 F G) (fun r F' _ => txQ K V fu b R r F') := by
  intro n
  induction n with
  | zero => intro x1 x2 F G _ _ _ _; exact PP.no
  | succ n ih =>
    intro x1 x2 F G g4 g5 h8 h
    show PP (mb_texts_87 fu (ml_texts_87 fu n) x1 x2 F G) _
    unfold mb_texts_87
    rcases h with ⟨rfl, h44, h43, hR⟩ | ⟨rfl, h44, hR⟩
    · rw [if_neg (by decide)]
      unfold mb_texts_91
      refine PP.ix (fun _ => PP.ite (fun c => ?_) (fun c => ?_))
      · refine mr_tx127 F G h8 (Or.inl ⟨h44, F 42, ?_⟩)
        rw [hR]
        show (if K (F 42).toNatClampNeg = 0 then ryes (F 42) else _) = _
        rw [if_pos (by rw [← g4]; exact c)]
        rfl
      · have hR1 : R = rb (rtells K V fu (F 42) 0) (fun t1 => rl_tops K V fu n t1) := by
          rw [hR]
          show (if K (F 42).toNatClampNeg = 0 then ryes (F 42) else _) = _
          rw [if_neg (by rw [← g4]; exact c)]
        unfold mb_texts_103
        refine PP.bind (PP.and (mw_tells x1 F G) (mr_tells x1 F G g4 g5 h44)) ?_
        intro r F1 G1 h1
        obtain ⟨hK, h1⟩ := h1
        dsimp only
        have k4 : G1 4 = K := (hK.2 4 rfl).trans g4
        have k5 : G1 5 = V := (hK.2 5 rfl).trans g5
        have k8 : F1 8 = b := (hK.1 8 rfl).trans h8
        have st : (r = 1 ∧ F1 44 = 0 ∧ F1 43 = 0 ∧ R = rl_tops K V fu n (F1 42)) ∨ (r = 0 ∧ 0 < (F1 44).toInt ∧ R = some none) := by
          rcases h1 with ⟨e, a, c1, d⟩ | ⟨e, a, d⟩
          · refine Or.inl ⟨e, a, c1.trans h43, ?_⟩
            rw [h43] at d
            rw [hR1, d, rb_yes]
          · refine Or.inr ⟨e, a, ?_⟩
            rw [h43] at d
            rw [hR1, d, rb_no]
        unfold mb_texts_108
        refine PP.ite (fun _ => ?_) (fun _ => ?_)
        · exact ih _ r F1 G1 k4 k5 k8 st
        · exact ih _ r F1 G1 k4 k5 k8 st
    · rw [if_pos rfl]
      exact mr_tx127 F G h8 (Or.inr ⟨h44, hR⟩)
/-- a pass over the text fares as its reader: whatever the pass -/
theorem mr_texts {fu : Nat} {K V : Nat → Int32} (F : PF) (G : PG) (g4 : G 4 = K) (g5 : G 5 = V) (h44 : F 44 = 0) : PP (mf_texts fu F G) (fun r F' _ => txQ K V fu (F 8) (rl_tops K V fu fu 0) r F') := by
  have h64 : ∀ F1 : PF, F1 44 = 0 → F1 43 = 0 → F1 42 = 0 → F1 8 = F 8 → PP (mb_texts_64 fu F1 G) (fun r F' _ => txQ K V fu (F 8) (rl_tops K V fu fu 0) r F') := by
    intro F1 a44 a43 a42 a8
    unfold mb_texts_64
    refine PP.ite (fun _ => ?_) (fun _ => ?_)
    · exact mr_tx87 fu _ 1 _ G g4 g5 a8 (Or.inl ⟨rfl, a44, a43, by show _ = rl_tops K V fu fu (F1 42); rw [a42]⟩)
    · exact mr_tx87 fu _ 1 _ G g4 g5 a8 (Or.inl ⟨rfl, a44, a43, by show _ = rl_tops K V fu fu (F1 42); rw [a42]⟩)
  unfold mf_texts mb_texts_0 mb_texts_5 mb_texts_10 mb_texts_15 mb_texts_20 mb_texts_25 mb_texts_30 mb_texts_35 mb_texts_40 mb_texts_45
  refine PP.ite (fun _ => ?_) (fun _ => ?_)
  · exact h64 _ h44 rfl rfl rfl
  · exact h64 _ h44 rfl rfl rfl
