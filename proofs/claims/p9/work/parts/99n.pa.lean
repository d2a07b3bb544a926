section HELP2
variable {fu : Nat} {F : PF} {G : PG}
theorem wa_level (v : vp_in (F 42) 4002) : WP (mf_level fu F G) (fun _ _ _ => True) := by
  unfold mf_level mb_level_0
  refine WP.ix v (WP.ite (fun _ => ?_) (fun _ => ?_))
  · unfold mb_level_15 mb_level_208 mb_level_210 mb_level_212 mb_level_214 mb_level_216 mb_level_218 mb_level_220 mb_level_223 mb_level_226 mb_level_229 mb_level_232
    refine WP.ix v ?_
    repeat' first | exact WP.ret trivial | refine WP.ite (fun _ => ?_) (fun _ => ?_)
  · unfold mb_level_13
    exact WP.ret trivial
theorem ws_level (v : vp_in (F 42) 4002) : WP (mf_level fu F G) (fun r F' G' => F = F' ∧ G = G' ∧ r = lvl (G 4) (G 5) (F 42)) := (wa_level v).of (mp_level F G)
theorem wa_meaning (hfu : 8589934592 ≤ fu) (x : Int32) (v : vp_in x 4002) (h14 : 0 ≤ (F 14).toInt ∧ (F 14).toInt ≤ 900) (h24 : 0 ≤ (F 24).toInt ∧ (F 24).toInt ≤ 500) : WP (mf_meaning fu x F G) (fun _ _ _ => True) := by
  have l0 : (0 : Int32).toInt = 0 := rfl
  have lm : (-1 : Int32).toInt = -1 := rfl
  have fin : ∀ (F1 : PF) (y : Int32), (y = -1 ∨ (0 ≤ y.toInt ∧ y.toInt < 900)) → (F1 62 = -1 ∨ (0 ≤ (F1 62).toInt ∧ (F1 62).toInt < 500)) → WP (mb_meaning_118 fu y F1 G) (fun _ _ _ => True) := by
    intro F1 y hy hf
    have f154 : ∀ F2 : PF, WP (mb_meaning_154 fu y F2 G) (fun _ _ _ => True) := by
      intro F2
      unfold mb_meaning_154 mb_meaning_166 mb_meaning_162 mb_meaning_167
      exact WP.ite (fun _ => WP.ret trivial) (fun _ => WP.ret trivial)
    unfold mb_meaning_118
    refine WP.ite (fun _ => f154 _) (fun c => ?_)
    unfold mb_meaning_123
    refine WP.ite (fun _ => f154 _) (fun c1 => ?_)
    rcases hy with q | q
    · exact absurd q c
    · rcases hf with q1 | q1
      · exact absurd q1 c1
      · unfold mb_meaning_131 mb_meaning_149
        exact WP.ix (vp_in_iff.mpr ⟨q1.1, by omega⟩) (WP.ix (vp_in_iff.mpr ⟨q.1, by omega⟩) (WP.ite (fun _ => f154 _) (fun _ => f154 _)))
  have fs : ∀ (m : Nat) (y k : Int32) (F1 : PF), (y = -1 ∨ (0 ≤ y.toInt ∧ y.toInt < 900)) → (F1 62 = -1 ∨ (0 ≤ (F1 62).toInt ∧ (F1 62).toInt < 500)) → -1 ≤ k.toInt → k.toInt < 500 → (k.toInt + 1).toNat < m → WP (ml_meaning_85 fu m x y k F1 G) (fun _ _ _ => True) := by
    intro m
    induction m with
    | zero => intro y k F1 _ _ _ _ q; exact absurd q (Nat.not_lt_zero _)
    | succ m ih =>
      intro y k F1 hy hf k0 k1 km
      show WP (mb_meaning_85 fu (ml_meaning_85 fu m) x y k F1 G) _
      unfold mb_meaning_85
      refine WP.ite (fun _ => fin F1 y hy hf) (fun c => ?_)
      have c := i_ge0 c
      have ek : (k + (-1)).toInt = k.toInt - 1 := i_decn c
      unfold mb_meaning_90
      refine WP.ix (vp_in_iff.mpr ⟨c, by omega⟩) (WP.ix v ?_)
      generalize k + (-1) = k' at ek
      refine WP.ite (fun _ => ?_) (fun _ => ?_)
      · unfold mb_meaning_106 mb_meaning_112
        have e2 : k + (-1) = k' := by
          refine i_eq.mpr ?_
          rw [ek]
          exact i_decn c
        rw [e2]
        exact ih y k' _ hy (Or.inr ⟨c, k1⟩) (by omega) (by omega) (by omega)
      · unfold mb_meaning_112
        have e2 : k + (-1) = k' := by
          refine i_eq.mpr ?_
          rw [ek]
          exact i_decn c
        rw [e2]
        exact ih y k' _ hy hf (by omega) (by omega) (by omega)
  have mid : ∀ (y : Int32) (F1 : PF), F1 24 = F 24 → F1 62 = -1 → (y = -1 ∨ (0 ≤ y.toInt ∧ y.toInt < 900)) → WP (mb_meaning_61 fu x y F1 G) (fun _ _ _ => True) := by
    intro y F1 e24 e62 hy
    have go : WP (mb_meaning_77 fu x y F1 G) (fun _ _ _ => True) := by
      unfold mb_meaning_77
      rw [e24]
      have e := i_dec h24.1
      exact fs fu y (F 24 - 1) F1 hy (Or.inl e62) (by omega) (by omega) (by omega)
    unfold mb_meaning_61
    refine WP.ite (fun _ => go) (fun c => ?_)
    rcases hy with q | q
    · exact absurd q c
    · unfold mb_meaning_66 mb_meaning_75
      exact WP.ix (vp_in_iff.mpr ⟨q.1, by omega⟩) (WP.ite (fun _ => go) (fun _ => WP.ret trivial))
  have ds : ∀ (m : Nat) (k y : Int32) (F1 : PF), F1 24 = F 24 → F1 62 = -1 → (y = -1 ∨ (0 ≤ y.toInt ∧ y.toInt < 900)) → -1 ≤ k.toInt → k.toInt < 900 → (k.toInt + 1).toNat < m → WP (ml_meaning_14 fu m x k y F1 G) (fun _ _ _ => True) := by
    intro m
    induction m with
    | zero => intro k y F1 _ _ _ _ _ q; exact absurd q (Nat.not_lt_zero _)
    | succ m ih =>
      intro k y F1 e24 e62 hy k0 k1 km
      show WP (mb_meaning_14 fu (ml_meaning_14 fu m) x k y F1 G) _
      unfold mb_meaning_14
      refine WP.ite (fun _ => mid y F1 e24 e62 hy) (fun c => ?_)
      have c := i_ge0 c
      have ek : (k + (-1)).toInt = k.toInt - 1 := i_decn c
      have vk : vp_in k 900 := vp_in_iff.mpr ⟨c, by omega⟩
      have nx : ∀ y : Int32, (y = -1 ∨ (0 ≤ y.toInt ∧ y.toInt < 900)) → WP (ml_meaning_14 fu m x (k + (-1)) y F1 G) (fun _ _ _ => True) := by
        intro y hy
        generalize k + (-1) = k' at ek
        exact ih k' y F1 e24 e62 hy (by omega) (by omega) (by omega)
      have go : WP (mb_meaning_38 fu (ml_meaning_14 fu m) x k y F1 G) (fun _ _ _ => True) := by
        unfold mb_meaning_38 mb_meaning_53 mb_meaning_55
        exact WP.ix vk (WP.ix v (WP.ite (fun _ => nx k (Or.inr ⟨c, k1⟩)) (fun _ => nx y hy)))
      unfold mb_meaning_18
      refine WP.ite (fun _ => go) (fun cy => ?_)
      rcases hy with q | q
      · exact absurd q cy
      · unfold mb_meaning_23
        exact WP.ix vk (WP.ix (vp_in_iff.mpr ⟨q.1, by omega⟩) (WP.ite (fun _ => go) (fun _ => mid y F1 e24 e62 (Or.inr q))))
  unfold mf_meaning mb_meaning_0 mb_meaning_5
  have e := i_dec h14.1
  exact ds fu _ (-1) _ rfl rfl (Or.inl rfl) (by show -1 ≤ (F 14 - 1).toInt; omega) (by show (F 14 - 1).toInt < 900; omega) (by show ((F 14 - 1).toInt + 1).toNat < fu; omega)
theorem ws_meaning (hfu : 8589934592 ≤ fu) (x : Int32) (v : vp_in x 4002) (h14 : 0 ≤ (F 14).toInt ∧ (F 14).toInt ≤ 900) (h24 : 0 ≤ (F 24).toInt ∧ (F 24).toInt ≤ 500) : WP (mf_meaning fu x F G) (fun r F' G' => G = G' ∧ KX [62] [] F G F' G' ∧ mnR F r ∧ mnF F F') := (wa_meaning hfu x v h14 h24).of (mp_meaning x F G h14.1 h24.1)
theorem wa_twice (hfu : 8589934592 ≤ fu) (x : Int32) (v : vp_in x 4002) (h14 : 0 ≤ (F 14).toInt ∧ (F 14).toInt ≤ 900) (h24 : 0 ≤ (F 24).toInt ∧ (F 24).toInt ≤ 500) : WP (mf_twice fu x F G) (fun _ _ _ => True) := by
  have fin : ∀ y : Int32, WP (mb_twice_127 fu x y F G) (fun _ _ _ => True) := by
    intro y
    unfold mb_twice_127
    refine WP.ite (fun _ => ?_) (fun _ => ?_)
    · unfold mb_twice_142
      exact WP.ret trivial
    · unfold mb_twice_131
      refine WP.ix v (WP.bind (wa_note 5 _) (fun r F1 G1 _ => ?_))
      dsimp only
      unfold mb_twice_142
      exact WP.ret trivial
  have fs : ∀ (m : Nat) (y k : Int32), 0 ≤ k.toInt → k.toInt ≤ 500 → 500 - k.toInt.toNat < m → WP (ml_twice_66 fu m x y k F G) (fun _ _ _ => True) := by
    intro m
    induction m with
    | zero => intro y k _ _ q; exact absurd q (Nat.not_lt_zero _)
    | succ m ih =>
      intro y k k0 k1 km
      show WP (mb_twice_66 fu (ml_twice_66 fu m) x y k F G) _
      unfold mb_twice_66
      refine WP.ite (fun _ => fin y) (fun c => ?_)
      have c := mt i_le.mpr c
      have vk : vp_in k 500 := vp_in_iff.mpr ⟨k0, by omega⟩
      have ek : (k + 1).toInt = k.toInt + 1 := i_addn k rfl (by omega) (by omega)
      have nx : ∀ y : Int32, WP (mb_twice_120 fu (ml_twice_66 fu m) x k y F G) (fun _ _ _ => True) := by
        intro y
        unfold mb_twice_120
        exact ih y (k + 1) (by omega) (by omega) (by omega)
      unfold mb_twice_74 mb_twice_81 mb_twice_85 mb_twice_100 mb_twice_115 mb_twice_119
      exact WP.ite (fun _ => WP.ite (fun _ => WP.ix vk (WP.ix v (WP.ite (fun _ => WP.ix vk (WP.ix v (WP.ite (fun _ => nx _) (fun _ => nx _)))) (fun _ => nx _)))) (fun _ => nx _)) (fun _ => fin y)
  have ds : ∀ (m : Nat) (y k : Int32), 0 ≤ k.toInt → k.toInt ≤ 900 → 900 - k.toInt.toNat < m → WP (ml_twice_12 fu m x y k F G) (fun _ _ _ => True) := by
    intro m
    induction m with
    | zero => intro y k _ _ q; exact absurd q (Nat.not_lt_zero _)
    | succ m ih =>
      intro y k k0 k1 km
      have z : (0 : Int32).toInt = 0 := rfl
      show WP (mb_twice_12 fu (ml_twice_12 fu m) x y k F G) _
      unfold mb_twice_12
      refine WP.ite (fun _ => ?_) (fun c => ?_)
      · unfold mb_twice_64
        exact fs fu y 0 (by omega) (by omega) (by omega)
      · have c := mt i_le.mpr c
        have vk : vp_in k 900 := vp_in_iff.mpr ⟨k0, by omega⟩
        have ek : (k + 1).toInt = k.toInt + 1 := i_addn k rfl (by omega) (by omega)
        have nx : ∀ y : Int32, WP (mb_twice_57 fu (ml_twice_12 fu m) x k y F G) (fun _ _ _ => True) := by
          intro y
          unfold mb_twice_57
          exact ih y (k + 1) (by omega) (by omega) (by omega)
        unfold mb_twice_20 mb_twice_24 mb_twice_37 mb_twice_52 mb_twice_56
        exact WP.ite (fun _ => WP.ix vk (WP.ite (fun _ => WP.ix vk (WP.ix v (WP.ite (fun _ => nx _) (fun _ => nx _)))) (fun _ => nx _))) (fun _ => nx _)
  unfold mf_twice mb_twice_0
  refine WP.ite (fun _ => ?_) (fun _ => ?_)
  · unfold mb_twice_7
    exact WP.ret trivial
  · unfold mb_twice_8
    have z : (0 : Int32).toInt = 0 := rfl
    exact ds fu 0 0 (by omega) (by omega) (by omega)
theorem ws_twice (hfu : 8589934592 ≤ fu) (x : Int32) (v : vp_in x 4002) (h14 : 0 ≤ (F 14).toInt ∧ (F 14).toInt ≤ 900) (h24 : 0 ≤ (F 24).toInt ∧ (F 24).toInt ≤ 500) : WP (mf_twice fu x F G) (fun _ F' G' => KX [47, 48, 49] [] F G F' G') := (wa_twice hfu x v h14 h24).of (mw_twice x F G)
theorem wa_ends (hfu : 8589934592 ≤ fu) (x : Int32) (h14 : 0 ≤ (F 14).toInt ∧ (F 14).toInt ≤ 900) : WP (mf_ends fu x F G) (fun _ _ _ => True) := by
  have loop : ∀ (m : Nat) (F : PF), 0 ≤ (F 14).toInt → (F 14).toInt ≤ 900 → (F 14).toInt.toNat < m → WP (ml_ends_0 fu m x F G) (fun _ _ _ => True) := by
    intro m
    induction m with
    | zero => intro F _ _ q; exact absurd q (Nat.not_lt_zero _)
    | succ m ih =>
      intro F h0 h1 hm
      show WP (mb_ends_0 fu (ml_ends_0 fu m) x F G) _
      have fin : WP (mb_ends_35 fu x F G) (fun _ _ _ => True) := by
        unfold mb_ends_35 mb_ends_40
        exact WP.ret trivial
      unfold mb_ends_0
      refine WP.ite (fun _ => fin) (fun c => ?_)
      have c := mt i_le.mpr c
      have z : (0 : Int32).toInt = 0 := rfl
      have e := i_dec h0
      unfold mb_ends_7
      refine WP.ix (vp_in_iff.mpr ⟨by omega, by omega⟩) (WP.ite (fun _ => fin) (fun _ => ?_))
      unfold mb_ends_22 mb_ends_32
      exact ih _ (by show 0 ≤ (F 14 - 1).toInt; omega) (by show (F 14 - 1).toInt ≤ 900; omega) (by show (F 14 - 1).toInt.toNat < m; omega)
  unfold mf_ends
  exact loop fu F h14.1 h14.2 (by omega)
theorem wa_begins : WP (mf_begins fu F G) (fun _ _ _ => True) := by
  unfold mf_begins mb_begins_0 mb_begins_10
  exact WP.ret trivial
theorem wa_declare (x1 x2 x3 x4 x5 x6 : Int32) (v : vp_in x1 4002) (h14 : F 46 = 0 ∨ (0 ≤ (F 14).toInt ∧ (F 14).toInt < 900)) : WP (mf_declare fu x1 x2 x3 x4 x5 x6 F G) (fun _ _ _ => True) := by
  unfold mf_declare mb_declare_0
  refine WP.ite (fun _ => ?_) (fun c => ?_)
  · unfold mb_declare_7
    exact WP.ret trivial
  · rcases h14 with q | q
    · exact absurd q c
    · have w : vp_in (F 14) 900 := vp_in_iff.mpr ⟨q.1, by omega⟩
      unfold mb_declare_8 mb_declare_23 mb_declare_33 mb_declare_48 mb_declare_61 mb_declare_71 mb_declare_82 mb_declare_93 mb_declare_104 mb_declare_114
      exact WP.ix v (WP.ix w (WP.ix w (WP.ix v (WP.ix w (WP.ix w (WP.ix w (WP.ix w (WP.ix w (WP.ix w (WP.ret trivial))))))))))
end HELP2
