/-- between two calls: tapes, programs -/
def jTHr (Fc : PF) (Gc : PG) (Fm : PF) (Gm : PG) : Prop := jTp Fc Gc Fm Gm ∧ jRd Fc Gc Fm Gm
section JR8
variable {fu : Nat} {x x1 x2 x3 x4 x5 r1 r2 : Int32} {Fc Fm F1 F2 : PF} {Gc Gm G1 G2 : PG} {a b c d : List Nat}
theorem jTHr.zero (h88 : Fc 88 = 0) (h73 : Fc 73 = 0) : jTHr Fc Gc (fun _ => 0) (fun _ _ => 0) := by
  refine ⟨⟨h88, fun i hi => ?_⟩, .inl ⟨h73, rfl⟩⟩
  have h0 : ((0 : Int32)).toInt = 0 := rfl
  replace hi : (i : Int) < (0 : Int32).toInt := hi
  omega
theorem jRd.k (h : jRd Fc Gc Fm Gm) (kc : KX a b Fc Gc F1 G1) (km : KX c d Fm Gm F2 G2) (e1 : (a.contains 73 || a.contains 74 || a.contains 75 || b.contains 77 || b.contains 78 || b.contains 79 || b.contains 82 || a.contains 6 || b.contains 5 || b.contains 80 || a.contains 76 || b.contains 83 || b.contains 84 || b.contains 86) = false) (e2 : (c.contains 73 || c.contains 24 || c.contains 36 || d.contains 26 || d.contains 27 || d.contains 28 || d.contains 33 || c.contains 60 || c.contains 37 || d.contains 29 || d.contains 30 || d.any (fun a => decide (56 ≤ a) && decide (a ≤ 59)) || c.contains 74 || d.contains 31 || d.contains 34 || d.contains 41 || d.contains 38 || d.contains 39 || d.contains 40) = false) : jRd F1 G1 F2 G2 := by
  simp only [Bool.or_eq_false_iff] at e1 e2
  obtain ⟨⟨⟨⟨⟨⟨⟨⟨⟨⟨⟨⟨⟨a1, a2⟩, a3⟩, a4⟩, a5⟩, a6⟩, a7⟩, a8⟩, a9⟩, a10⟩, a11⟩, a12⟩, a13⟩, a14⟩ := e1
  obtain ⟨⟨⟨⟨⟨⟨⟨⟨⟨⟨⟨⟨⟨⟨⟨⟨⟨⟨c1, c2⟩, c3⟩, c4⟩, c5⟩, c6⟩, c7⟩, c8⟩, c9⟩, c10⟩, c11⟩, c12⟩, c13⟩, c14⟩, c15⟩, c16⟩, c17⟩, c18⟩, c19⟩ := e2
  rcases h with ⟨h1, h2⟩ | ⟨h1, h2, f, ⟨b1, b2, b3, b4, gl, K, ⟨d1, d2, d3⟩, d4, d5, d6⟩, y, y1, y2, y3⟩
  · exact .inl ⟨by rw [kc.1 73 a1]; exact h1, by rw [km.1 73 c1]; exact h2⟩
  · refine .inr ⟨by rw [kc.1 73 a1]; exact h1, by rw [km.1 73 c1]; exact h2, f, ?_, y, y1, by rw [kc.1 76 a11]; exact y2, by rw [km.1 74 c13]; exact y3⟩
    unfold jTab
    rw [kc.1 74 a2, kc.1 75 a3, kc.2 77 a4, kc.2 78 a5, kc.2 79 a6, kc.2 82 a7, km.1 24 c2, km.1 36 c3, km.2 26 c4, km.2 27 c5, km.2 28 c6, km.2 33 c7, km.1 37 c9]
    refine ⟨b1, b2, b3, b4, gl, K, ⟨d1, d2, d3⟩, fun g hg => ?_, ?_, by rw [kc.2 86 a14, km.2 41 c16, km.2 38 c17, km.2 39 c18, km.2 40 c19]; exact d6⟩
    rotate_left
    · unfold jFT at d5 ⊢
      rw [kc.1 74 a2, kc.2 77 a4, kc.2 78 a5, kc.2 82 a7, kc.2 83 a12, kc.2 84 a13, km.2 26 c4, km.2 27 c5, km.2 31 c14, km.2 33 c7, km.2 34 c15]
      exact d5
    have w := (d4 g hg).ext (ml := []) (jCB.of (km.1 60 c8) (kc.1 6 a8) (kc.2 5 a9) (fun k l u => km.rg c12 k l u)) (by rw [km.2 28 c6]) (by rw [km.2 29 c10]) (by rw [km.2 30 c11]) (by rw [kc.2 80 a10])
    rw [List.append_nil] at w
    exact w
theorem jTHr.keep (h : jTHr Fc Gc Fm Gm) (kc : KX a b Fc Gc F1 G1) (km : KX c d Fm Gm F2 G2) (e1 : (a.contains 73 || a.contains 74 || a.contains 75 || b.contains 77 || b.contains 78 || b.contains 79 || b.contains 82 || a.contains 6 || b.contains 5 || b.contains 80 || a.contains 76 || b.contains 83 || b.contains 84 || b.contains 86) = false) (e2 : (c.contains 73 || c.contains 24 || c.contains 36 || d.contains 26 || d.contains 27 || d.contains 28 || d.contains 33 || c.contains 60 || c.contains 37 || d.contains 29 || d.contains 30 || d.any (fun a => decide (56 ≤ a) && decide (a ≤ 59)) || c.contains 74 || d.contains 31 || d.contains 34 || d.contains 41 || d.contains 38 || d.contains 39 || d.contains 40) = false) (e3 : (a.contains 88 || b.contains 87 || c.contains 2 || d.contains 0) = false) : jTHr F1 G1 F2 G2 := by
  refine ⟨?_, h.2.k kc km e1 e2⟩
  simp only [Bool.or_eq_false_iff] at e3
  obtain ⟨⟨⟨a1, a2⟩, a3⟩, a4⟩ := e3
  have := h.1
  unfold jTp at this ⊢
  rw [kc.1 88 a1, kc.2 87 a2, km.1 2 a3, km.2 0 a4]
  exact this
theorem same_feedT (h : jTHr Fc Gc Fm Gm) (b0 : 0 ≤ (Fm 2).toInt ∧ (Fm 2).toInt ≤ 4000) (h1 : cf_X11_feed fu x1 x2 x3 x4 x5 Fc Gc = some (r1, F1, G1)) (h2 : mf_feed fu x1 x2 x3 x4 x5 Fm Gm = some (r2, F2, G2)) : jTHr F1 G1 F2 G2 := by
  obtain ⟨n, en⟩ : ∃ n : Nat, (Fm 2).toInt = n := ⟨(Fm 2).toInt.toNat, by omega⟩
  obtain ⟨kc, c1, c2⟩ := cp_feed x1 x2 x3 x4 x5 (n := n) (by rw [h.1.1]; exact en) r1 F1 G1 h1
  obtain ⟨km, m1, m2⟩ := mp_feed x1 x2 x3 x4 x5 en (by omega) r2 F2 G2 h2
  refine ⟨?_, h.2.k kc km rfl rfl⟩
  by_cases hn : n ≤ 3980
  · obtain ⟨a1, a2, a3⟩ := c2 hn
    obtain ⟨d1, d2, d3⟩ := m2 hn
    refine ⟨i_eq.mpr (by omega), fun i hi => ?_⟩
    rcases Nat.lt_or_ge i n with y | y
    · rw [a2 i y, d2 i y]
      exact h.1.2 i (by omega)
    · have e : i = n + (i - n) := by omega
      rw [e, a3 (i - n) (by omega), d3 (i - n) (by omega)]
  · obtain ⟨rfl, rfl⟩ := c1 (by omega)
    obtain ⟨rfl, rfl⟩ := m1 (by omega)
    exact h.1
theorem same_endT (h : jTHr Fc Gc Fm Gm) (h1 : cf_X11_end fu x Fc Gc = some (r1, F1, G1)) (h2 : mf_end fu x Fm Gm = some (r2, F2, G2)) : jTHr F1 G1 F2 G2 := by
  have e88 := h.1.1
  have kc := cw_X11_end x Fc Gc r1 F1 G1 h1
  have km := mw_end x Fm Gm r2 F2 G2 h2
  refine ⟨?_, h.2.k kc km rfl rfl⟩
  unfold cf_X11_end cb_X11_end_0 cb_X11_end_15 at h1
  unfold mf_end mb_end_0 mb_end_12 at h2
  by_cases c0 : x < 0
  · rw [if_pos c0] at h1 h2
    obtain ⟨-, rfl, rfl⟩ := ret_el h1
    obtain ⟨-, rfl, rfl⟩ := ret_el h2
    exact h.1
  · rw [if_neg c0] at h1 h2
    unfold cb_X11_end_4 cb_X11_end_17 cb_X11_end_25 cb_X11_end_15 at h1
    unfold mb_end_4 mb_end_14 mb_end_19 mb_end_12 at h2
    rw [e88] at h1
    by_cases c1 : x ≤ Fm 2
    · rw [if_pos c1] at h1 h2
      obtain ⟨-, rfl, rfl⟩ := ret_el h1
      obtain ⟨-, rfl, rfl⟩ := ret_el h2
      refine ⟨by rw [fup_s, fup_s], fun i hi => h.1.2 i ?_⟩
      rw [fup_s] at hi
      have := i_le.mp c1
      omega
    · rw [if_neg c1] at h1 h2
      obtain ⟨-, rfl, rfl⟩ := ret_el h1
      obtain ⟨-, rfl, rfl⟩ := ret_el h2
      exact h.1
theorem same_readT (hfu : 8589934592 ≤ fu) (ci : CI Fc Gc) (rb : RB Fm Gm) (h : jTHr Fc Gc Fm Gm) (h1 : cf_X11_read fu Fc Gc = some (r1, F1, G1)) (h2 : mf_read fu Fm Gm = some (r2, F2, G2)) (e1 : (F1 88).toInt = 0) (e2 : F2 2 = 0) : jTHr F1 G1 F2 G2 := by
  have h0 : ((0 : Int32)).toInt = 0 := rfl
  refine ⟨⟨i_eq.mpr (by rw [e1, e2]; rfl), fun i hi => ?_⟩, same_read hfu ci rb h.1 r1 F1 G1 r2 F2 G2 h1 h2⟩
  rw [e2] at hi
  omega
theorem cp_begin : PP (cf_X11_begin fu x Fc Gc) (fun r _ _ => r = if Fc 73 = 0 then 0 else if x < 4 then 0 else if x ≤ 2000 then 1 else 0) := by
  unfold cf_X11_begin cb_X11_begin_0 cb_X11_begin_22
  by_cases c : Fc 73 = 0
  · rw [if_pos c, if_pos c]
    exact PP.ret rfl
  · rw [if_neg c, if_neg c]
    unfold cb_X11_begin_10 cb_X11_begin_22
    by_cases c4 : x < 4
    · rw [if_pos c4, if_pos c4]
      exact PP.ret rfl
    · rw [if_neg c4, if_neg c4]
      unfold cb_X11_begin_15 cb_X11_begin_22
      by_cases c2 : x ≤ 2000
      · rw [if_pos c2, if_pos c2]
        unfold cb_X11_begin_24
        refine PP.bind PP.tt (fun r F G _ => ?_)
        show PP (cb_X11_begin_31 fu x F G) _
        unfold cb_X11_begin_31
        exact PP.bind PP.tt (fun r F G _ => PP.ret rfl)
      · rw [if_neg c2, if_neg c2]
        exact PP.ret rfl
theorem mp_begin68 : ∀ (m : Nat) (x : Int32) (F : PF) (G : PG), PP (ml_begin_68 fu m x F G) (fun r _ _ => r = 1) := by
  intro m
  induction m with
  | zero => intro x F G; exact PP.no
  | succ m ih =>
    intro x F G
    show PP (mb_begin_68 fu (ml_begin_68 fu m) x F G) _
    unfold mb_begin_68 mb_begin_94 mb_begin_76 mb_begin_88
    exact PP.ite (fun _ => PP.ret rfl) (fun _ => PP.ix (fun _ => PP.ix (fun _ => ih _ _ _)))
theorem mp_begin : PP (mf_begin fu x Fm Gm) (fun r _ _ => r = if Fm 73 = 0 then 0 else if x < 4 then 0 else if x ≤ 2000 then 1 else 0) := by
  unfold mf_begin mb_begin_0 mb_begin_19
  by_cases c : Fm 73 = 0
  · rw [if_pos c, if_pos c]
    exact PP.ret rfl
  · rw [if_neg c, if_neg c]
    unfold mb_begin_7 mb_begin_19
    by_cases c4 : x < 4
    · rw [if_pos c4, if_pos c4]
      exact PP.ret rfl
    · rw [if_neg c4, if_neg c4]
      unfold mb_begin_12 mb_begin_19
      by_cases c2 : x ≤ 2000
      · rw [if_pos c2, if_pos c2]
        unfold mb_begin_21 mb_begin_26 mb_begin_31 mb_begin_36 mb_begin_41 mb_begin_46 mb_begin_51 mb_begin_56 mb_begin_61 mb_begin_66
        exact mp_begin68 fu 0 _ _
      · rw [if_neg c2, if_neg c2]
        exact PP.ret rfl
theorem same_begin (h : jTHr Fc Gc Fm Gm) (h1 : cf_X11_begin fu x Fc Gc = some (r1, F1, G1)) (h2 : mf_begin fu x Fm Gm = some (r2, F2, G2)) : r1 = r2 := by
  have e1 := cp_begin r1 F1 G1 h1
  have e2 := mp_begin r2 F2 G2 h2
  have e : Fc 73 = Fm 73 := by
    rcases h.2 with ⟨y1, y2⟩ | ⟨y1, y2, -⟩
    · rw [y1, y2]
    · rw [y1, y2]
  rw [e1, e2, e]
/-- look, in both -/
theorem same_look (h : jTHr Fc Gc Fm Gm) (h1 : cf_X11_look fu x1 x2 Fc Gc = some (r1, F1, G1)) (h2 : mf_look fu x1 x2 Fm Gm = some (r2, F2, G2)) : r1 = r2 := by
  have l0 : (0 : Int32).toInt = 0 := rfl
  have l1 : (1 : Int32).toInt = 1 := rfl
  have l2 : (2 : Int32).toInt = 2 := rfl
  have l3 : (3 : Int32).toInt = 3 := rfl
  have l4 : (4 : Int32).toInt = 4 := rfl
  have l5 : (5 : Int32).toInt = 5 := rfl
  have key : JP (cf_X11_look fu x1 x2 Fc Gc) (mf_look fu x1 x2 Fm Gm) (fun r1 _ _ r2 _ _ => r1 = r2) := by
    unfold cf_X11_look cb_X11_look_0 cb_X11_look_10 mf_look mb_look_0 mb_look_7
    rcases h.2 with ⟨y1, y2⟩ | ⟨y1, y2, f, ⟨t1, t2, t3, t4, -⟩, -⟩
    · rw [if_pos y1, if_pos y2]
      exact JP.ret rfl
    · rw [if_neg (by rw [y1]; decide), if_neg (by rw [y2]; decide)]
      have e74 : Fc 74 = Fm 24 := i_eq.mpr (by rw [t1, t2])
      unfold cb_X11_look_12 cb_X11_look_16 mb_look_9 mb_look_13
      by_cases c0 : x1 = 0
      · rw [if_pos c0, if_pos c0]
        exact JP.ret e74
      · rw [if_neg c0, if_neg c0]
        unfold cb_X11_look_24 cb_X11_look_29 mb_look_18 mb_look_23
        by_cases c1 : x1 = 1
        · rw [if_pos c1, if_pos c1]
          exact JP.ret t3.symm
        · rw [if_neg c1, if_neg c1]
          unfold cb_X11_look_37 cb_X11_look_52 mb_look_28 mb_look_49
          -- out of range, in both
          have out : ∀ a : PR, PP a (fun r _ _ => r = -1) → (x1.toInt < 2 ∨ 5 < x1.toInt ∨ x2.toInt < 0 ∨ (f : Int) ≤ x2.toInt) → JP a (if x1 < 0 then some (-1, Fm, Gm) else mb_look_32 fu x1 x2 Fm Gm) (fun r1 _ _ r2 _ _ => r1 = r2) := by
            intro a ha ho
            have n0 : ¬ x1.toInt = 0 := fun y => c0 (i_eq.mpr (by omega))
            have n1 : ¬ x1.toInt = 1 := fun y => c1 (i_eq.mpr (by omega))
            have hb : PP (if x1 < 0 then some (-1, Fm, Gm) else mb_look_32 fu x1 x2 Fm Gm) (fun r _ _ => r = -1) := by
              refine PP.ite (fun _ => PP.ret rfl) (fun d0 => ?_)
              unfold mb_look_32 mb_look_49
              refine PP.ite (fun _ => PP.ret rfl) (fun d5 => ?_)
              unfold mb_look_37 mb_look_49
              refine PP.ite (fun _ => PP.ret rfl) (fun d2 => ?_)
              unfold mb_look_41 mb_look_49
              refine PP.ite (fun d3 => ?_) (fun _ => PP.ret rfl)
              exfalso
              have q0 := mt i_lt.mpr d0
              have q5 := mt i_lt.mpr d5
              have q2 := mt i_lt.mpr d2
              have q3 := i_lt.mp d3
              omega
            exact JP.pp ha hb (fun _ _ _ _ _ _ w1 w2 => w1.trans w2.symm)
          by_cases c2 : x2 < 0
          · rw [if_pos c2]
            exact out _ (PP.ret rfl) (.inr (.inr (.inl (by have := i_lt.mp c2; omega))))
          · rw [if_neg c2]
            have q2 := mt i_lt.mpr c2
            unfold cb_X11_look_41 cb_X11_look_52
            by_cases c3 : x2 < Fc 74
            · rw [if_pos c3]
              have q3 := i_lt.mp c3
              have xn : x2.toNatClampNeg < f := by
                show x2.toInt.toNat < f
                omega
              obtain ⟨v1, v2, v3, v4⟩ := t4 x2.toNatClampNeg xn
              unfold cb_X11_look_54 cb_X11_look_131
              by_cases cr : x1.toInt < 2 ∨ 5 < x1.toInt
              · rw [if_pos cr]
                refine out _ (PP.ret rfl) ?_
                rcases cr with y | y
                · exact .inl y
                · exact .inr (.inl y)
              · rw [if_neg cr]
                have r0 : 2 ≤ x1.toInt ∧ x1.toInt ≤ 5 := by omega
                rw [if_neg (show ¬ x1 < 0 from fun y => by have := i_lt.mp y; omega)]
                unfold mb_look_32
                rw [if_neg (show ¬ (5 : Int32) < x1 from fun y => by have := i_lt.mp y; omega)]
                unfold mb_look_37
                rw [if_neg c2]
                unfold mb_look_41
                rw [if_pos (show x2 < Fm 24 by rw [← e74]; exact c3)]
                unfold mb_look_51
                by_cases d2 : x1 = 2
                · rw [if_pos d2, if_pos d2]
                  unfold cb_X11_look_84 mb_look_56 mb_look_107
                  exact JP.ixL (fun _ => JP.ixR (fun _ => JP.ret v2))
                · rw [if_neg d2, if_neg d2]
                  unfold mb_look_65
                  by_cases d3 : x1 = 3
                  · rw [if_pos d3, if_pos d3]
                    unfold cb_X11_look_94 mb_look_70 mb_look_107
                    exact JP.ixL (fun _ => JP.ixR (fun _ => JP.ret v3))
                  · rw [if_neg d3, if_neg d3]
                    unfold mb_look_79
                    by_cases d4 : x1 = 4
                    · rw [if_pos d4, if_pos d4]
                      unfold cb_X11_look_104 mb_look_84 mb_look_107
                      exact JP.ixL (fun _ => JP.ixR (fun _ => JP.ret v4))
                    · rw [if_neg d4, if_neg d4]
                      unfold cb_X11_look_114 mb_look_93 cf_X8_gives cb_X8_gives_0
                      rw [if_neg c2]
                      unfold cb_X8_gives_4
                      rw [if_neg (show ¬ Fc 74 ≤ x2 from fun y => by have := i_le.mp y; omega)]
                      unfold cb_X8_gives_12
                      refine JP.ixR (fun _ => ?_)
                      by_cases ix : ixb x2 450 = true
                      · rw [if_pos ix]
                        rcases v1 with ⟨g1, g2⟩ | ⟨g1, g2⟩
                        · rw [if_pos g2, if_pos g1]
                          exact JP.ret rfl
                        · rw [if_neg (by rw [g2]; decide), if_neg g1]
                          exact JP.ret rfl
                      · rw [if_neg ix]
                        exact JP.noL
            · rw [if_neg c3]
              refine out _ (PP.ret rfl) (.inr (.inr (.inr ?_)))
              have := mt i_lt.mpr c3
              omega
  exact key r1 F1 G1 r2 F2 G2 h1 h2
end JR8
