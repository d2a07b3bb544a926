section JVB
variable {fu : Nat} {X : JCX} {p : Int32} {N K n q nf t i j : Nat} {cid pl x1 x3 r : Int32} {Fa Fb Fc Fm F1 F2 F3 F4 F5 F6 : PF} {Ga Gb Gc Gm G1 G2 G3 G4 G5 G6 : PG}
/-- a FORMAL -/
theorem jt_formal {k : Nat} {x2 : Int32} (hk : k < 4001) (k4 : p = 1 → k ≤ 4) (h49 : p = 1 → (Fc 49).toInt ≤ 2 * (k : Int)) (V : jV X p N K n q nf t i Fc Gc Fm Gm) : JP (cf_X4_formal fu (nI k) x2 Fc Gc) (mf_formalHere fu (nI k) Fm Gm) (fun _ F1 G1 r2 F2 G2 => jQf X p N K n q nf i k x2 Fc Gc Fm Gm r2 F1 G1 F2 G2) := by
  have I := V.1
  have hp := I.1.2.1
  have wd := I.wd (w := 1) (a := 5) (b := 1) (by decide) (by decide) (by decide)
  have wd0 := I.wd (w := 0) (a := 4) (b := 0) (by decide) (by decide) (by decide)
  obtain ⟨pl0, pl1, pl2⟩ := I.2.1.1.place I.1.1
  unfold cf_X4_formal cb_X4_formal_0 mf_formalHere mb_formalHere_0
  refine JP.R (mp_isWord 1 Fm Gm) ?_
  rintro b _ _ ⟨rfl, rfl, hb⟩
  dsimp only
  by_cases hw : Fc 11 = 4 ∨ Fc 11 = 5
  · have hb' : (Fc 11 = 4 ∧ b = 0) ∨ (Fc 11 = 5 ∧ b = 1) := by
      rcases hb with ⟨y1, y2⟩ | ⟨y1, y2⟩
      · exact .inr ⟨wd.mpr y2, y1⟩
      · refine .inl ⟨?_, y1⟩
        rcases hw with z | z
        · exact z
        · rw [wd.mp z] at y2
          cases y2
    have li : i < N := by
      rcases hw with z | z
      · exact I.2.1.1.ltW I.1.1 (wd0.mp z)
      · exact I.2.1.1.ltW I.1.1 (wd.mp z)
    have gw : Gm 4 i = 2 ∧ (Gm 5 i = 0 ∨ Gm 5 i = 1) := by
      rcases hw with z | z
      · have y := of_decide_eq_true (wd0.mp z)
        rw [I.2.1.1.ix I.1.1] at y
        exact ⟨y.1, .inl y.2⟩
      · have y := of_decide_eq_true (wd.mp z)
        rw [I.2.1.1.ix I.1.1] at y
        exact ⟨y.1, .inr y.2⟩
    have ec : (if Fc 11 = 4 then cb_X4_formal_27 fu (nI k) x2 (Fc 11) Fc Gc else cb_X4_formal_13 fu (nI k) x2 (Fc 11) Fc Gc) = cb_X4_formal_27 fu (nI k) x2 (Fc 11) Fc Gc := by
      rcases hw with z | z
      · rw [if_pos z]
      · rw [if_neg (by rw [z]; decide)]
        unfold cb_X4_formal_13
        rw [if_pos z]
    rw [ec]
    have rf : ∀ (a : PR) (Q : Int32 → PF → PG → Int32 → PF → PG → Prop), JP a (mb_formalHere_26 fu (nI k) b Fm Gm) Q → JP a (mb_formalHere_5 fu (nI k) b Fm Gm) Q := by
      intro a Q h
      unfold mb_formalHere_5
      refine JP.iteR (fun z => ?_) (fun _ => h)
      unfold mb_formalHere_10
      refine JP.R (mp_isWord 0 Fm Gm) ?_
      rintro b2 _ _ ⟨rfl, rfl, hb2⟩
      dsimp only
      unfold mb_formalHere_15
      rcases hb2 with ⟨y, -⟩ | ⟨-, y⟩
      · rw [y, if_neg i10n]
        exact h
      · rcases hb' with ⟨w, -⟩ | ⟨-, w⟩
        · rw [wd0.mp w] at y
          cases y
        · rw [w] at z
          exact absurd z (by decide)
    refine rf _ _ ?_
    have main : (p = 1 → x2 = 0) → JP (cb_X4_formal_47 fu (nI k) (Fc 11) Fc Gc) (mb_formalHere_26 fu (nI k) b Fm Gm) (fun _ F1 G1 r2 F2 G2 => jQf X p N K n q nf i k x2 Fc Gc Fm Gm r2 F1 G1 F2 G2) := by
      intro hx2
      unfold cb_X4_formal_47 mb_formalHere_26
      refine JP.L (jo_next I.1.1 I.2.1.1 li) ?_
      rintro r F1 G1 (o | o)
      · dsimp only
        have e0 := jAl.on (X := X) (p := p) (s := []) I.1 I.2.1 li (I.1.t1 li) o
        have I1 := I.next e0 (by omega)
        have f42 : fup Fm 42 (Fm 42 + 1) 42 = nI (i + 1) := I1.2.1.1.2.2.1
        have ko := o.1.2
        generalize fup Fm 42 (Fm 42 + 1) = F2 at e0 I1 f42 ⊢
        obtain ⟨ql0, ql1, ql2⟩ := I1.2.1.1.place I1.1.1
        unfold cb_X4_formal_54 mb_formalHere_36
        refine JP.both (jo_name I1.1.1 I1.2.1.1) ?_
        rintro r3 F3 G3 r4 F4 G4 (⟨rfl, g4, h11, o2⟩ | o2)
        · dsimp only
          have l1 : i + 1 < N := I1.2.1.1.lt I1.1.1 (by rw [g4]; decide)
          have e1 := jAl.on (X := X) (p := p) (s := []) I1.1 I1.2.1 l1 (I1.1.t1 l1) o2
          have I3 := I1.next e1 (by omega)
          obtain ⟨tk, -⟩ := I1.1.1.2.2.2.1 (i + 1) l1
          have ev : F1 12 = Gm 5 (i + 1) := by
            have e12 : F1 12 = G1 91 (i + 1) := I1.2.1.1.2.2.2.2.2.2.2.2.2.1
            rcases tk.2 with ⟨-, -, z⟩ | ⟨z, -⟩ | ⟨z, -⟩ | ⟨z, -⟩
            · rw [e12, z]
            · rw [g4] at z; exact absurd z (by decide)
            · rw [g4] at z; exact absurd z (by decide)
            · rw [g4] at z; exact absurd z (by decide)
          unfold mb_formalHere_40
          rw [if_pos (show F4 44 ≤ 0 by rw [I3.2.1.1.2.2.2.2.2.2.2.1]; decide), f42]
          exact jt_fname hk k4 h49 hx2 ⟨V, (e0.tr e1).ca (by omega) (by omega), ⟨ev, ql2, rfl, l1⟩, gw.1, gw.2, g4⟩ (KX.tr ko o2.1.2 rfl rfl) hb'
        · dsimp only
          exact JP.fin (kqj_X4_formal_80 (nI k) (Fc 11) _ _ F3 G3 CFS.rf) (nqj_formalHere_40 (nI k) b r4 F4 G4 MFS.rf) (.inr o2) (fun _ _ _ _ _ _ w => .inr (.inl w))
      · dsimp only
        exact JP.fin (kqj_X4_formal_54 (nI k) (Fc 11) F1 G1 CFS.rf) (nqj_formalHere_36 (nI k) b _ Gm MFS.rf) (.inr o) (fun _ _ _ _ _ _ w => .inr (.inl w))
    unfold cb_X4_formal_27
    by_cases h2 : x2 = 0
    · rw [if_pos h2]
      exact main (fun _ => h2)
    · rw [if_neg h2]
      unfold cb_X4_formal_31
      rcases hp with z | z
      · refine JP.L (cp_note 9 (Fc 13) (by decide) (by decide) Fc Gc) ?_
        rintro r F1 G1 ⟨rfl, -, w, -⟩
        obtain rfl := w (by rw [I.1.2.2.1.2.1, z])
        exact main (fun y => absurd (z.symm.trans y) (by decide))
      · have c1 : PP ((cf_X5_note fu 9 (Fc 13) Fc Gc).bind (fun q => cb_X4_formal_47 fu (nI k) (Fc 11) q.2.1 q.2.2)) (fun _ F' _ => (F' 43).toInt ≤ 4000) := by
          refine PP.bind (cp_note 9 (Fc 13) (by decide) (by decide) Fc Gc) ?_
          rintro r F1 G1 ⟨-, -, -, w⟩
          have h43 := w (by rw [I.1.2.2.1.2.1, z]; decide) pl1
          exact PP.mono (kqj_X4_formal_47 (nI k) (Fc 11) F1 G1 CFS.rf) (fun _ F' _ y => y.2 h43)
        exact JP.pp (V1 := fun _ _ _ => True) c1 (fun _ _ _ _ => trivial) (fun _ _ _ _ _ _ w1 _ => .inr (.inr (.inl ⟨z, h2, w1⟩)))
  · -- no FORMAL
    have n4 : ¬ Fc 11 = 4 := fun y => hw (.inl y)
    have n5 : ¬ Fc 11 = 5 := fun y => hw (.inr y)
    rw [if_neg n4]
    have c1 : PP (cb_X4_formal_13 fu (nI k) x2 (Fc 11) Fc Gc) (fun _ F' _ => ¬ F' 14 = 0 ∧ F' 11 = -2) := by
      unfold cb_X4_formal_13
      rw [if_neg n5]
      unfold cb_X4_formal_18
      refine PP.bind (cp_fail (by decide) (by decide) pl0 (by omega)) ?_
      rintro r F1 G1 ⟨-, -, w1, w2⟩
      exact PP.ret ⟨w1, w2⟩
    have b0 : b = 0 := by
      rcases hb with ⟨-, y⟩ | ⟨y, -⟩
      · exact absurd (wd.mpr y) n5
      · exact y
    have c2 : PP (mb_formalHere_5 fu (nI k) b Fm Gm) (fun _ F' _ => ¬ F' 44 = 0) := by
      unfold mb_formalHere_5
      rw [if_pos b0]
      unfold mb_formalHere_10
      refine PP.bind (mp_isWord 0 Fm Gm) ?_
      rintro b2 _ _ ⟨rfl, rfl, hb2⟩
      dsimp only
      unfold mb_formalHere_15
      rcases hb2 with ⟨-, y⟩ | ⟨y, -⟩
      · exact absurd (wd0.mpr y) n4
      · rw [if_pos y]
        unfold mb_formalHere_18
        refine PP.bind (mp_fails 2 (by decide) Fm Gm) ?_
        rintro r F1 G1 ⟨-, w⟩
        refine PP.ret (fun e => ?_)
        have := w.1
        rw [show F1 44 = 0 from e] at this
        exact absurd this (by decide)
    exact JP.pp c1 c2 (fun _ _ _ _ _ _ w1 w2 => .inr (.inl (.inr ⟨w1.1, w1.2, .inl w2⟩)))
end JVB
