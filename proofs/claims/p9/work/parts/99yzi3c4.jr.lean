/-- in the second pass the functions' places stay -/
def r26 (F : PF) (G : PG) (_ : Int32) (_ : PF) (G' : PG) : Prop := ¬ F 46 = 0 → G' 26 = G 26
section JR4
variable {fu : Nat} {F F1 : PF} {G G1 : PG} {o : PR} {a b : List Nat}
theorem r26.s (k : KX a b F G F1 G1) (e1 : a.contains 46 = false) (e2 : b.contains 26 = false) (h : PP o (r26 F1 G1)) : PP o (r26 F G) := PP.mono h (fun _ F' G' w n => (w (by rw [k.1 46 e1]; exact n)).trans (k.2 26 e2))
theorem r26.r {r : Int32} : PP (some (r, F, G)) (r26 F G) := PP.ret (fun _ => rfl)
theorem r26.z {z : Int32} : PP (if b01 z = true then some (z, F, G) else none) (r26 F G) := PP.bz (fun _ => r26.r)
theorem g26_function (f x2 x3 : Int32) (F : PF) (G : PG) : PP (mf_function fu f x2 x3 F G) (r26 F G) := by
  unfold mf_function mb_function_0 mb_function_5
  have ka : KX [61] [] F G (fup F 61 1) G := KX.f rfl KX.rf
  refine r26.s ka rfl rfl ?_
  refine PP.bind (mw_twice x2 (fup F 61 1) G) ?_
  intro r Fa Ga Ka
  dsimp only
  refine r26.s Ka rfl rfl ?_
  have m28 : ∀ (F : PF) (G : PG), PP (mb_function_28 fu f x2 x3 F G) (r26 F G) := by
    intro F G
    unfold mb_function_28
    by_cases c : F 46 = 0
    · intro r F' G' _ n
      exact absurd c n
    · rw [if_neg c]
      exact PP.mono (gq_97 f F G) (fun _ F' G' w _ => w.2.1.2.1)
  unfold mb_function_10
  refine PP.ite (fun _ => m28 Fa Ga) (fun _ => ?_)
  unfold mb_function_16
  refine PP.ix (fun _ => ?_)
  refine PP.bind (mw_note 11 _ Fa Ga) ?_
  intro r Fb Gb Kb
  exact r26.s Kb rfl rfl (m28 Fb Gb)
theorem g26_tells (x1 : Int32) (F : PF) (G : PG) : PP (mf_tells fu x1 F G) (r26 F G) := by
  have w285 : ∀ (z : Int32) (F : PF) (G : PG), PP (mb_tells_285 fu z F G) (r26 F G) := fun z F G => by
    unfold mb_tells_285 mb_tells_292 mb_tells_288 mb_tells_293
    exact PP.ite (fun _ => r26.z) (fun _ => r26.z)
  have w269 : ∀ (x3 x4 : Int32) (F : PF) (G : PG), PP (mb_tells_269 fu x3 x4 F G) (r26 F G) := fun x3 x4 F G => by
    unfold mb_tells_269
    refine PP.bind (mw_array x4 x3 F G) (fun r Fa Ga Ka => r26.s Ka rfl rfl ?_)
    show PP (mb_tells_276 fu r Fa Ga) _
    unfold mb_tells_276 mb_tells_292 mb_tells_293
    refine PP.ite (fun _ => r26.z) (fun _ => ?_)
    unfold mb_tells_279
    exact PP.bind (mw_sign 29 Fa Ga) (fun r Fb Gb Kb => r26.s Kb rfl rfl (w285 r Fb Gb))
  have w239 : ∀ (x4 x5 : Int32) (F : PF) (G : PG), PP (mb_tells_239 fu x4 x5 F G) (r26 F G) := fun x4 x5 F G => by
    unfold mb_tells_239 mb_tells_256
    refine PP.ix (fun _ => PP.bind (mw_declare _ _ _ _ _ _ F G) (fun r Fa Ga Ka => r26.s Ka rfl rfl ?_))
    show PP (mb_tells_262 fu Fa Ga) _
    unfold mb_tells_262
    refine PP.bind (mw_sign 29 Fa Ga) (fun r Fb Gb Kb => r26.s Kb rfl rfl ?_)
    show PP (mb_tells_268 fu r Fb Gb) _
    unfold mb_tells_268
    exact r26.z
  have w164 : ∀ (x3 x4 : Int32) (F : PF) (G : PG), PP (mb_tells_164 fu x3 x4 F G) (r26 F G) := fun x3 x4 F G => by
    unfold mb_tells_164
    refine PP.ite (fun _ => ?_) (fun _ => w269 _ _ _ _)
    unfold mb_tells_168
    refine PP.bind (mw_isSign 32 F G) (fun r Fa Ga Ka => r26.s Ka rfl rfl ?_)
    show PP (mb_tells_174 fu x3 x4 r Fa Ga) _
    unfold mb_tells_174
    refine PP.ite (fun _ => w269 _ _ _ _) (fun _ => ?_)
    unfold mb_tells_177
    refine PP.bind (mw_globalAt x4 Fa Ga) (fun z Fb Gb Kb => r26.s Kb rfl rfl ?_)
    show PP (mb_tells_183 fu x4 z Fb Gb) _
    unfold mb_tells_183 mb_tells_195
    have kc : KX [42] [] Fb Gb (fup Fb 42 (Fb 42 + 1)) Gb := KX.f rfl KX.rf
    refine r26.s kc rfl rfl ?_
    refine PP.bind (mw_value _ Gb) (fun y Fd Gd Kd => r26.s Kd rfl rfl ?_)
    show PP (mb_tells_199 fu x4 z y Fd Gd) _
    unfold mb_tells_199 mb_tells_208
    refine PP.ite (fun _ => ?_) (fun _ => r26.r)
    unfold mb_tells_210
    refine PP.ite (fun _ => w239 _ _ _ _) (fun _ => ?_)
    unfold mb_tells_217
    refine PP.ite (fun _ => w239 _ _ _ _) (fun _ => ?_)
    unfold mb_tells_225
    refine PP.ix (fun _ => PP.ix (fun _ => ?_))
    have ke : KX [] [41] Fd Gd Fd (gup Gd 41 (Gd 39 z.toNatClampNeg).toNatClampNeg y) := KX.g rfl KX.rf
    exact r26.s ke rfl rfl (w239 _ _ _ _)
  have w117 : ∀ (x2 x3 x4 : Int32) (F : PF) (G : PG), PP (mb_tells_117 fu x2 x3 x4 F G) (r26 F G) := fun x2 x3 x4 F G => by
    unfold mb_tells_117
    refine PP.ite (fun _ => ?_) (fun _ => ?_)
    · unfold mb_tells_127
      refine PP.ite (fun _ => ?_) (fun _ => w164 _ _ _ _)
      unfold mb_tells_131
      refine PP.bind (mw_isSign 29 F G) (fun r Fa Ga Ka => r26.s Ka rfl rfl ?_)
      show PP (mb_tells_137 fu x3 x4 r Fa Ga) _
      unfold mb_tells_137
      refine PP.ite (fun _ => w164 _ _ _ _) (fun _ => ?_)
      unfold mb_tells_140
      refine PP.bind (mw_globalInt x4 Fa Ga) (fun r Fb Gb Kb => r26.s Kb rfl rfl ?_)
      show PP (mb_tells_146 fu r Fb Gb) _
      unfold mb_tells_146 mb_tells_162 mb_tells_163
      refine PP.ite (fun _ => r26.z) (fun _ => ?_)
      unfold mb_tells_149
      refine PP.bind (mw_sign 29 Fb Gb) (fun r Fd Gd Kd => r26.s Kd rfl rfl ?_)
      show PP (mb_tells_155 fu r Fd Gd) _
      unfold mb_tells_155 mb_tells_162 mb_tells_158 mb_tells_163
      exact PP.ite (fun _ => r26.z) (fun _ => r26.z)
    · unfold mb_tells_121
      refine PP.bind (mw_fails 2 F G) (fun r Fa Ga Ka => r26.s Ka rfl rfl ?_)
      show PP (mb_tells_126 fu r Fa Ga) _
      unfold mb_tells_126
      exact r26.z
  have w70 : ∀ (x2 x3 : Int32) (F : PF) (G : PG), PP (mb_tells_70 fu x1 x2 x3 F G) (r26 F G) := fun x2 x3 F G => by
    unfold mb_tells_70 mb_tells_80
    have ka : KX [42] [] F G (fup F 42 (F 42 + 1)) G := KX.f rfl KX.rf
    refine r26.s ka rfl rfl ?_
    refine PP.bind (mw_name _ G) (fun r Fa Ga Ka => r26.s Ka rfl rfl ?_)
    show PP (mb_tells_84 fu x1 x2 x3 r Fa Ga) _
    unfold mb_tells_84 mb_tells_93
    refine PP.ite (fun _ => ?_) (fun _ => r26.r)
    unfold mb_tells_95
    refine PP.ite (fun _ => ?_) (fun _ => w117 _ _ _ _ _)
    unfold mb_tells_99
    refine PP.bind (mw_isSign 22 Fa Ga) (fun z Fb Gb Kb => r26.s Kb rfl rfl ?_)
    show PP (mb_tells_105 fu x1 x2 x3 r z Fb Gb) _
    unfold mb_tells_105
    refine PP.ite (fun _ => w117 _ _ _ _ _) (fun _ => ?_)
    unfold mb_tells_108
    refine PP.bind (PP.and (g26_function x1 r x2 Fb Gb) (mw_function x1 r x2 Fb Gb)) (fun y Fd Gd Kd => ?_)
    show PP (mb_tells_116 fu y Fd Gd) _
    unfold mb_tells_116
    exact PP.bz (fun _ => PP.ret Kd.1)
  unfold mf_tells mb_tells_0 mb_tells_5
  have ka : KX [61] [] F G (fup F 61 0) G := KX.f rfl KX.rf
  refine r26.s ka rfl rfl ?_
  refine PP.bind (mw_word 3 0 _ G) (fun r Fa Ga Ka => r26.s Ka rfl rfl ?_)
  show PP (mb_tells_11 fu x1 r Fa Ga) _
  unfold mb_tells_11
  refine PP.ite (fun _ => ?_) (fun _ => ?_)
  · unfold mb_tells_36
    refine PP.bind (mw_isWord 2 Fa Ga) (fun z Fb Gb Kb => r26.s Kb rfl rfl ?_)
    show PP (mb_tells_41 fu x1 z Fb Gb) _
    unfold mb_tells_41
    refine PP.bind (mw_isWord 1 Fb Gb) (fun y Fd Gd Kd => r26.s Kd rfl rfl ?_)
    show PP (mb_tells_47 fu x1 z y Fd Gd) _
    unfold mb_tells_47
    refine PP.ite (fun _ => ?_) (fun _ => w70 _ _ _ _)
    unfold mb_tells_52
    refine PP.ite (fun _ => ?_) (fun _ => w70 _ _ _ _)
    unfold mb_tells_56
    refine PP.bind (mw_isWord 0 Fd Gd) (fun u Fe Ge Ke => r26.s Ke rfl rfl ?_)
    show PP (mb_tells_61 fu x1 z y u Fe Ge) _
    unfold mb_tells_61
    refine PP.ite (fun _ => ?_) (fun _ => w70 _ _ _ _)
    unfold mb_tells_64
    refine PP.bind (mw_fails 2 Fe Ge) (fun v Fg Gg Kg => r26.s Kg rfl rfl ?_)
    show PP (mb_tells_69 fu v Fg Gg) _
    unfold mb_tells_69
    exact r26.z
  · unfold mb_tells_14
    refine PP.bind (mw_word 0 1 Fa Ga) (fun z Fb Gb Kb => r26.s Kb rfl rfl ?_)
    show PP (mb_tells_20 fu z Fb Gb) _
    unfold mb_tells_20 mb_tells_34 mb_tells_35
    refine PP.ite (fun _ => r26.z) (fun _ => ?_)
    unfold mb_tells_23
    refine PP.bind (mw_constantTold Fb Gb) (fun y Fd Gd Kd => r26.s Kd rfl rfl ?_)
    show PP (mb_tells_27 fu y Fd Gd) _
    unfold mb_tells_27 mb_tells_34 mb_tells_30 mb_tells_35
    exact PP.ite (fun _ => r26.z) (fun _ => r26.z)
/-- what the second pass leaves to the reference -/
theorem mt_texts1 {M : Nat} {Kk V : Nat → Int32} (hfu : 8589934592 ≤ fu) (P : P1 Kk V fu M F G) (h46 : F 46 = 1) : PP (mf_texts fu F G) (fun r F' G' => r = 1 → F' 44 = 0 ∧ F' 8 = -1 ∧ F' 24 = F 24 ∧ G' 25 = G 25 ∧ G' 26 = G 26 ∧ G' 32 = G 32) := by
  have n46 : ¬ F 46 = 0 := by rw [h46]; decide
  have w := wz_texts1 (fu := fu) (N := M) (K := Kk) (V := V) hfu F G P h46 (I := fun _ F1 G1 => F1 46 = 1 ∧ F1 24 = F 24 ∧ G1 25 = G 25 ∧ G1 26 = G 26 ∧ G1 32 = G 32) (fun n f F1 G1 L hI hk => ?_) (fun Fi ti => ?_)
  · refine PP.mono w.to (fun r F' G' h e => ?_)
    rcases h with ⟨-, h1, h2, n, f, -, h3, -⟩ | ⟨y, -⟩
    · exact ⟨h1, h2, h3.2⟩
    · rw [e] at y
      exact absurd y (by decide)
  · obtain ⟨i46, i24, i25, i26, i32⟩ := hI
    have m46 : ¬ F1 46 = 0 := by rw [i46]; decide
    refine PP.mono (PP.and ((wz_tells hfu (L.yc hk).1).to) (g26_tells f F1 G1)) (fun r F' G' h e => ?_)
    obtain ⟨tq, h26⟩ := h
    rcases tq with ⟨-, ⟨-, tg⟩ | ⟨-, tf⟩⟩ | ⟨y, -⟩
    · have kx := tg.2.2.2.1
      exact ⟨(kx.1 46 rfl).trans i46, (kx.1 24 rfl).trans i24, (kx.2 25 rfl).trans i25, (h26 m46).trans i26, (kx.2 32 rfl).trans i32⟩
    · obtain ⟨-, -, e46, -, -, q⟩ := tf
      obtain ⟨q1, -, -, -, -, q2, q3⟩ := q m46
      exact ⟨e46.trans i46, q1.trans i24, q2.trans i25, (h26 m46).trans i26, q3.trans i32⟩
    · rw [e] at y
      exact absurd y (by decide)
  · exact ⟨(ti.1.1 46 rfl).trans h46, (ti.2.2.2.2.2.2.2.2.2.2 n46).1, rfl, rfl, rfl⟩
/-- what was found stays found -/
theorem mp_mainN : ∀ (m : Nat) (x : Int32) (F : PF) (G : PG), ¬ F 47 = 0 → 0 ≤ (F 47).toInt → F 73 = 0 → PP (ml_read_127 fu m x F G) (fun _ F' _ => F' 73 = 0) := by
  have l0 : (0 : Int32).toInt = 0 := rfl
  intro m
  induction m with
  | zero => intro x F G _ _ _; exact PP.no
  | succ m ih =>
    intro x F G h1 h2 h3
    show PP (mb_read_127 fu (ml_read_127 fu m) x F G) _
    have nt : ∀ (k p : Int32), 0 < k.toInt → ∀ (F : PF) (G : PG), ¬ F 47 = 0 → 0 ≤ (F 47).toInt → F 73 = 0 → PP (mf_note fu k p F G) (fun _ F' _ => ¬ F' 47 = 0 ∧ 0 ≤ (F' 47).toInt ∧ F' 73 = 0) := by
      intro k p hk F G a1 a2 a3
      refine PP.mono (mp_note k p hk F G) (fun _ F' G' w => ?_)
      obtain ⟨k1, -, w1, w2⟩ := w
      by_cases c : F 46 = 0
      · rw [← w2 c]
        exact ⟨a1, a2, a3⟩
      · have := w1 c
        exact ⟨fun y => by rw [y] at this; omega, by omega, (k1.1 73 rfl).trans a3⟩
    have e258 : ∀ (F : PF) (G : PG), ¬ F 47 = 0 → 0 ≤ (F 47).toInt → F 73 = 0 → PP (mb_read_258 fu F G) (fun _ F' _ => F' 73 = 0) := by
      intro F G a1 a2 a3
      unfold mb_read_258
      rw [if_neg (fun y => a1 (i_eq.mpr (by have := i_le.mp y; omega)))]
      exact PP.ret a3
    have e234 : ∀ (F : PF) (G : PG), ¬ F 47 = 0 → 0 ≤ (F 47).toInt → F 73 = 0 → PP (mb_read_234 fu (ml_read_127 fu m) x F G) (fun _ F' _ => F' 73 = 0) := fun F G a1 a2 a3 => ih _ F G a1 a2 a3
    unfold mb_read_127
    refine PP.ite (fun _ => ?_) (fun _ => ?_)
    · unfold mb_read_240
      refine PP.ite (fun _ => ?_) (fun _ => e258 F G h1 h2 h3)
      unfold mb_read_248
      exact PP.bind (nt 12 _ (by decide) F G h1 h2 h3) (fun r F1 G1 w => e258 F1 G1 w.1 w.2.1 w.2.2)
    · unfold mb_read_131
      refine PP.ix (fun _ => PP.ix (fun _ => PP.ix (fun _ => PP.ite (fun _ => ?_) (fun _ => e234 F G h1 h2 h3))))
      have kp : ∀ {F1 : PF} {G1 : PG}, KX [] [] F G F1 G1 → ¬ F1 47 = 0 ∧ 0 ≤ (F1 47).toInt ∧ F1 73 = 0 := fun k => by
        rw [k.1 47 rfl, k.1 73 rfl]
        exact ⟨h1, h2, h3⟩
      unfold mb_read_153
      refine PP.bind (mw_at _ F G) (fun r1 Fa Ga ka => ?_)
      show PP (mb_read_158 fu _ _ _ r1 Fa Ga) _
      unfold mb_read_158
      obtain ⟨a1, a2, a3⟩ := kp ka
      refine PP.ite (fun _ => ?_) (fun _ => e234 Fa Ga a1 a2 a3)
      unfold mb_read_163
      refine PP.bind (mw_at _ Fa Ga) (fun r2 Fb Gb kb => ?_)
      show PP (mb_read_170 fu _ _ _ r2 Fb Gb) _
      unfold mb_read_170
      have kb := KX.tr ka kb rfl rfl
      obtain ⟨a1, a2, a3⟩ := kp kb
      refine PP.ite (fun _ => ?_) (fun _ => e234 Fb Gb a1 a2 a3)
      unfold mb_read_175
      refine PP.bind (mw_at _ Fb Gb) (fun r3 Fd Gd kd => ?_)
      show PP (mb_read_182 fu _ _ _ r3 Fd Gd) _
      unfold mb_read_182
      have kd := KX.tr kb kd rfl rfl
      obtain ⟨a1, a2, a3⟩ := kp kd
      refine PP.ite (fun _ => ?_) (fun _ => e234 Fd Gd a1 a2 a3)
      unfold mb_read_187
      refine PP.bind (mw_at _ Fd Gd) (fun r4 Fe Ge ke => ?_)
      show PP (mb_read_194 fu _ _ r4 Fe Ge) _
      unfold mb_read_194
      have ke := KX.tr kd ke rfl rfl
      obtain ⟨a1, a2, a3⟩ := kp ke
      refine PP.ite (fun _ => ?_) (fun _ => e234 Fe Ge a1 a2 a3)
      unfold mb_read_202 mb_read_207
      have kf : KX [74] [] Fe Ge (fup Fe 74 x) Ge := KX.f rfl KX.rf
      have b1 : ¬ (fup Fe 74 x) 47 = 0 := by rw [kf.1 47 rfl]; exact a1
      have b2 : 0 ≤ ((fup Fe 74 x) 47).toInt := by rw [kf.1 47 rfl]; exact a2
      have b3 : (fup Fe 74 x) 73 = 0 := by rw [kf.1 73 rfl]; exact a3
      refine PP.ix (fun _ => PP.ite (fun _ => e234 _ Ge b1 b2 b3) (fun _ => ?_))
      unfold mb_read_217
      exact PP.ix (fun _ => PP.ix (fun _ => PP.bind (nt 12 _ (by decide) _ Ge b1 b2 b3) (fun r F1 G1 w => e234 F1 G1 w.1 w.2.1 w.2.2)))
end JR4
