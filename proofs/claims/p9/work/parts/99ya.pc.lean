/-- one formal, as the tokens say it: its kind, and where it ends -/
def fkA (K V : Nat → Int32) (t : Int32) : Bool := wdn K V t 1 || sgn K V (t + 1 + 1) 24
def fkK (K V : Nat → Int32) (t : Int32) : Nat := if fkA K V t then (if wdn K V t 1 then 2 else 1) else 0
def fkE (K V : Nat → Int32) (t : Int32) : Int32 := if fkA K V t then t + 1 + 1 + 1 + 1 else t + 1 + 1
def fkT (K V : Nat → Int32) : Nat → Int32 → List Nat
  | 0, _ => []
  | n + 1, t => fkK K V t :: (if sgn K V (fkE K V t) 28 then fkT K V n (fkE K V t + 1) else [])
theorem wz_formalHere {fu : Nat} (hfu : 8589934592 ≤ fu) (x1 : Int32) (F : PF) (G : PG) (h0 : YG F G) : WP (mf_formalHere fu x1 F G) (fun r F1 G1 => (F1 44 = 0 ∧ WR F G (-4) 0 1 F1 G1 ∧ r.toInt = (fkK (G 4) (G 5) (F 42) : Int) ∧ F1 42 = fkE (G 4) (G 5) (F 42) ∧ tT F G + 4 ≤ tT F1 G1) ∨ (0 < (F1 44).toInt ∧ WF0 F G F1 G1)) := by
  have q0 := WR.rf h0
  have v0 := (q0.t h0).2.2
  have a2 := h0.2.1
  have a3 := h0.2.2.1
  -- behind the name
  have rest : ∀ (x2 x3 x4 : Int32) (F1 : PF) (G1 : PG), vp_in x3 4002 → WR F G (-4) 0 (-4) F1 G1 → (x2 = b2i (wdn (G 4) (G 5) (F 42) 1)) → (x4 = b2i (fkA (G 4) (G 5) (F 42))) → F1 42 = fkE (G 4) (G 5) (F 42) → tT F G + 4 ≤ tT F1 G1 → WP (mb_formalHere_117 fu x2 x3 x4 F1 G1) (fun r F1 G1 => (F1 44 = 0 ∧ WR F G (-4) 0 1 F1 G1 ∧ r.toInt = (fkK (G 4) (G 5) (F 42) : Int) ∧ F1 42 = fkE (G 4) (G 5) (F 42) ∧ tT F G + 4 ≤ tT F1 G1) ∨ (0 < (F1 44).toInt ∧ WF0 F G F1 G1)) := by
    intro x2 x3 x4 F1 G1 v3 q hx2 hx4 e42 et
    have dc : ∀ a b c e : Int32, WP (mb_formalHere_144 fu x2 x4 a b c e x3 F1 G1) (fun r F1 G1 => (F1 44 = 0 ∧ WR F G (-4) 0 1 F1 G1 ∧ r.toInt = (fkK (G 4) (G 5) (F 42) : Int) ∧ F1 42 = fkE (G 4) (G 5) (F 42) ∧ tT F G + 4 ≤ tT F1 G1) ∨ (0 < (F1 44).toInt ∧ WF0 F G F1 G1)) := by
      intro a b c e
      unfold mb_formalHere_144
      refine WP.bind (WP.pp (q.decl h0 (by decide) x3 e c b a 1 v3) (mw_declare x3 e c b a 1 F1 G1)) ?_
      rintro r F2 G2 ⟨K2, q2⟩
      dsimp only
      have fin : ∀ z0 z1 : Int32, WP (mb_formalHere_163 fu x2 x4 z0 z1 F2 G2) (fun r F1 G1 => (F1 44 = 0 ∧ WR F G (-4) 0 1 F1 G1 ∧ r.toInt = (fkK (G 4) (G 5) (F 42) : Int) ∧ F1 42 = fkE (G 4) (G 5) (F 42) ∧ tT F G + 4 ≤ tT F1 G1) ∨ (0 < (F1 44).toInt ∧ WF0 F G F1 G1)) := by
        intro z0 z1
        unfold mb_formalHere_163
        have K3 : KX [53] [] F2 G2 (fup F2 53 (z1 + z0)) G2 := KX.f rfl KX.rf
        have q3 := q2.kx K3 rfl
        have t3 : tT (fup F2 53 (z1 + z0)) G2 = tT F1 G1 := by
          show (G2 6 (F2 42).toNatClampNeg).toInt = _
          rw [K2.1 42 rfl, K2.2 6 rfl]
          rfl
        have e3 : (fup F2 53 (z1 + z0)) 42 = fkE (G 4) (G 5) (F 42) := (K2.1 42 rfl).trans e42
        have ret : ∀ v : Int32, v.toInt = (fkK (G 4) (G 5) (F 42) : Int) → WP (mb_formalHere_185 fu v (fup F2 53 (z1 + z0)) G2) (fun r F1 G1 => (F1 44 = 0 ∧ WR F G (-4) 0 1 F1 G1 ∧ r.toInt = (fkK (G 4) (G 5) (F 42) : Int) ∧ F1 42 = fkE (G 4) (G 5) (F 42) ∧ tT F G + 4 ≤ tT F1 G1) ∨ (0 < (F1 44).toInt ∧ WF0 F G F1 G1)) := by
          intro v hv
          unfold mb_formalHere_185
          exact WP.ret (Or.inl ⟨q3.2.1.2.1, q3.le (by decide) (by decide), hv, e3, by rw [t3]; exact et⟩)
        unfold mb_formalHere_167 mb_formalHere_172 mb_formalHere_176 mb_formalHere_184 mb_formalHere_180
        refine WP.ite (fun c => ret 0 ?_) (fun c => WP.ite (fun c2 => ret 1 ?_) (fun c2 => ret 2 ?_))
        · rw [hx4] at c
          unfold fkK
          rw [b2i_z c]
          rfl
        · rw [hx4] at c
          rw [hx2] at c2
          unfold fkK
          rw [b2i_ne c, b2i_z c2]
          rfl
        · rw [hx4] at c
          rw [hx2] at c2
          unfold fkK
          rw [b2i_ne c, b2i_ne c2]
          rfl
      unfold mb_formalHere_148 mb_formalHere_162 mb_formalHere_158
      exact WP.ite (fun _ => fin _ _) (fun _ => fin _ _)
    unfold mb_formalHere_117 mb_formalHere_128 mb_formalHere_124 mb_formalHere_129 mb_formalHere_143 mb_formalHere_139
    exact WP.ite (fun _ => WP.ite (fun _ => dc _ _ _ _) (fun _ => dc _ _ _ _)) (fun _ => WP.ite (fun _ => dc _ _ _ _) (fun _ => dc _ _ _ _))
  -- from the word on
  have main : ∀ x2 : Int32, x2 = b2i (wdn (G 4) (G 5) (F 42) 1) → G 4 (F 42).toNatClampNeg = 2 → (G 5 (F 42).toNatClampNeg).toInt ≤ 2 → WP (mb_formalHere_26 fu x1 x2 F G) (fun r F1 G1 => (F1 44 = 0 ∧ WR F G (-4) 0 1 F1 G1 ∧ r.toInt = (fkK (G 4) (G 5) (F 42) : Int) ∧ F1 42 = fkE (G 4) (G 5) (F 42) ∧ tT F G + 4 ≤ tT F1 G1) ∨ (0 < (F1 44).toInt ∧ WF0 F G F1 G1)) := by
    intro x2 hx2 hk hv
    unfold mb_formalHere_26 mb_formalHere_36
    have q1 := q0.adv3 h0 hk hv
    have e1 : (fup F 42 (F 42 + 1)) 42 = F 42 + 1 := rfl
    obtain ⟨w1, w2, w3⟩ := a2.adv a3.1 a3.2 (k_ne hk (by decide))
    have l3 : lnT (G 4 (F 42).toNatClampNeg) (G 5 (F 42).toNatClampNeg) = 3 := by
      unfold lnT
      rw [if_neg (fun q => absurd (hk.symm.trans q.1) (by decide)), if_pos ⟨hk, hv⟩]
    have tF : tT F G = (G 6 (F 42).toNatClampNeg).toInt := rfl
    generalize fup F 42 (F 42 + 1) = F1 at q1 e1
    have v1 := (q1.t h0).2.2
    refine WP.bind (ws_name v1) ?_
    rintro r F2 G2 (⟨rfl, rfl, rfl, k1, -⟩ | ⟨rfl, u⟩)
    · dsimp only
      have q2 := (q1.adv h0 (k_ne k1 (by decide))).le (κ1 := -4) (δ1 := -4) (by decide) (by decide)
      have e2 : (fup F1 42 (F1 42 + 1)) 42 = F 42 + 1 + 1 := by show F1 42 + 1 = _; rw [e1]
      obtain ⟨y1, y2, y3⟩ := a2.adv (t := F 42 + 1) (by omega) (by omega) (by rw [← e1]; exact k_ne k1 (by decide))
      have lp := lnT.pos (G 4 (F 42 + 1).toNatClampNeg) (G 5 (F 42 + 1).toNatClampNeg)
      have t2 : tT (fup F1 42 (F1 42 + 1)) G = (G 6 (F 42 + 1 + 1).toNatClampNeg).toInt := by unfold tT; rw [e2]
      generalize fup F1 42 (F1 42 + 1) = F2 at q2 e2 t2
      unfold mb_formalHere_40
      rw [if_pos (show F2 44 ≤ 0 by rw [q2.2.1.2.1]; decide)]
      have s72 : ∀ (F3 : PF), WR F G (-4) 0 (-4) F3 G → F3 42 = F 42 + 1 + 1 → WP (mb_formalHere_72 fu x2 (F1 42) F3 G) (fun r F1 G1 => (F1 44 = 0 ∧ WR F G (-4) 0 1 F1 G1 ∧ r.toInt = (fkK (G 4) (G 5) (F 42) : Int) ∧ F1 42 = fkE (G 4) (G 5) (F 42) ∧ tT F G + 4 ≤ tT F1 G1) ∨ (0 < (F1 44).toInt ∧ WF0 F G F1 G1)) := by
        intro F3 q3 e3
        have t3 : tT F3 G = (G 6 (F 42 + 1 + 1).toNatClampNeg).toInt := by unfold tT; rw [e3]
        have ar : fkA (G 4) (G 5) (F 42) = true → WP (mb_formalHere_85 fu x2 (F1 42) F3 G) (fun r F1 G1 => (F1 44 = 0 ∧ WR F G (-4) 0 1 F1 G1 ∧ r.toInt = (fkK (G 4) (G 5) (F 42) : Int) ∧ F1 42 = fkE (G 4) (G 5) (F 42) ∧ tT F G + 4 ≤ tT F1 G1) ∨ (0 < (F1 44).toInt ∧ WF0 F G F1 G1)) := by
          intro ha
          unfold mb_formalHere_85 mb_formalHere_90
          rw [if_neg (by decide)]
          unfold mb_formalHere_97
          refine WP.bind (ws_openSign 24 (q3.t h0).2.2) ?_
          rintro r F4 G4 (⟨rfl, rfl, rfl, s, u, -⟩ | ⟨rfl, u, -⟩)
          · dsimp only
            unfold mb_formalHere_103
            rw [if_neg (by decide)]
            have q4 := q3.op h0 (k_ne (sgn_k s).1 (by decide)) u
            have e4 : (fup (fup F3 43 (F3 43 + 1)) 42 (F3 42 + 1)) 42 = F 42 + 1 + 1 + 1 := by show F3 42 + 1 = _; rw [e3]
            generalize fup (fup F3 43 (F3 43 + 1)) 42 (F3 42 + 1) = F4 at q4 e4
            unfold mb_formalHere_106
            refine WP.bind (ws_closeSign 25 (q4.t h0).2.2) ?_
            rintro r F5 G5 (⟨rfl, rfl, rfl, s5, -⟩ | ⟨rfl, u, -⟩)
            · dsimp only
              unfold mb_formalHere_112
              rw [if_neg (by decide)]
              have q5 := (WR.cl (j := 0) q4 h0 (by decide) (k_ne (sgn_k s5).1 (by decide))).le (κ1 := -4) (δ1 := -4) (by decide) (by decide)
              have e5 : (fup (fup F4 42 (F4 42 + 1)) 43 (F4 43 - 1)) 42 = F 42 + 1 + 1 + 1 + 1 := by show F4 42 + 1 = _; rw [e4]
              have b5 := q5.2.2.1
              have m5 := q5.2.2.2.2.2.1.2
              have t5 : tT (fup (fup F4 42 (F4 42 + 1)) 43 (F4 43 - 1)) G = (G 6 (F 42 + 1 + 1 + 1 + 1).toNatClampNeg).toInt := by unfold tT; rw [e5]
              have b4 := q4.2.2.1
              rw [e4] at b4
              have b3 := q3.2.2.1
              rw [e3] at b3
              rw [e5] at b5
              have f7 : (F 7).toInt ≤ 4000 := by have := a2.2.1; have := a2.2.2.2.1; omega
              have i3 : (F 42 + 1 + 1 + 1).toInt = (F 42).toInt + 3 := by
                have := i_addn (F 42 + 1 + 1) (n := 1) (m := 1) rfl (by omega) (by omega)
                omega
              have i4 : (F 42 + 1 + 1 + 1 + 1).toInt = (F 42).toInt + 4 := by
                have := i_addn (F 42 + 1 + 1 + 1) (n := 1) (m := 1) rfl (by omega) (by omega)
                omega
              have mn := a2.mon (t1 := F 42 + 1 + 1) (t2 := F 42 + 1 + 1 + 1 + 1) (by omega) (by omega) b5.2
              refine rest x2 (F1 42) 1 _ _ v1 q5 hx2 (by rw [ha]; rfl) ?_ (by rw [t5]; omega)
              rw [e5]
              unfold fkE
              rw [if_pos ha]
            · dsimp only
              unfold mb_formalHere_112 mb_formalHere_115
              rw [if_pos rfl]
              exact WP.ret (Or.inr ⟨u.1, q4.flt h0 (by decide) u⟩)
          · dsimp only
            unfold mb_formalHere_103 mb_formalHere_115
            rw [if_pos rfl]
            exact WP.ret (Or.inr ⟨u.1, q3.flt h0 (by decide) u⟩)
        unfold mb_formalHere_72
        refine WP.ite (fun cx => ?_) (fun cx => ar ?_)
        · rw [hx2] at cx
          have wb := b2i_z cx
          unfold mb_formalHere_76
          refine WP.bind (ws_isSign 24 (q3.t h0).2.2) ?_
          rintro z _ _ ⟨rfl, rfl, (⟨rfl, s⟩ | ⟨rfl, s⟩)⟩
          · dsimp only
            unfold mb_formalHere_82
            rw [if_neg (by decide)]
            rw [e3] at s
            exact ar (by unfold fkA; rw [s, Bool.or_true])
          · dsimp only
            unfold mb_formalHere_82
            rw [if_pos rfl]
            rw [e3] at s
            have na : fkA (G 4) (G 5) (F 42) = false := by unfold fkA; rw [wb, s]; rfl
            unfold mb_formalHere_89 mb_formalHere_90
            rw [if_pos rfl]
            refine rest x2 (F1 42) 0 _ _ v1 q3 hx2 (by rw [na]; rfl) ?_ (by rw [t3]; omega)
            rw [e3]
            unfold fkE
            rw [na]
            rfl
        · rw [hx2] at cx
          unfold fkA
          rw [b2i_ne cx, Bool.true_or]
      unfold mb_formalHere_50
      refine WP.bind (WP.pp (q2.twice hfu h0 (by decide) (by decide) (F1 42) v1) (mw_twice (F1 42) F2 G)) ?_
      rintro r F3 G3 ⟨K3, q3⟩
      dsimp only
      have eg : G3 = G := funext (fun k => K3.2 k rfl)
      rw [eg] at q3 ⊢
      have e3 : F3 42 = F 42 + 1 + 1 := (K3.1 42 rfl).trans e2
      unfold mb_formalHere_55
      refine WP.ite (fun _ => ?_) (fun _ => s72 F3 q3 e3)
      unfold mb_formalHere_60
      refine WP.ix v1 (WP.bind (q3.note 11 _ (by decide)) ?_)
      rintro r F4 G4 ⟨rfl, e4, q4⟩
      dsimp only
      exact s72 F4 q4 (e4.trans e3)
    · dsimp only
      unfold mb_formalHere_40
      refine WP.ite (fun c => ?_) (fun _ => ?_)
      · have := u.1
        have := i_le.mp c
        have : (0 : Int32).toInt = 0 := rfl
        omega
      · unfold mb_formalHere_48
        exact WP.ret (Or.inr ⟨u.1, q1.flt h0 (by decide) u⟩)
  unfold mf_formalHere mb_formalHere_0
  refine WP.bind (ws_isWord 1 v0) ?_
  rintro z _ _ ⟨rfl, rfl, (⟨rfl, s⟩ | ⟨rfl, s⟩)⟩
  · dsimp only
    unfold mb_formalHere_5
    rw [if_neg (by decide)]
    exact main 1 (by rw [s]; rfl) (wdn_k s).1 (by rw [(wdn_k s).2]; decide)
  · dsimp only
    unfold mb_formalHere_5
    rw [if_pos rfl]
    unfold mb_formalHere_10
    refine WP.bind (ws_isWord 0 v0) ?_
    rintro z _ _ ⟨rfl, rfl, (⟨rfl, s0⟩ | ⟨rfl, -⟩)⟩
    · dsimp only
      unfold mb_formalHere_15
      rw [if_neg (by decide)]
      exact main 0 (by rw [s]; rfl) (wdn_k s0).1 (by rw [(wdn_k s0).2]; decide)
    · dsimp only
      unfold mb_formalHere_15
      rw [if_pos rfl]
      unfold mb_formalHere_18
      refine WP.bind (ws_fails 2 (by decide) v0) ?_
      rintro r F1 G1 ⟨-, u⟩
      dsimp only
      unfold mb_formalHere_23
      exact WP.ret (Or.inr ⟨u.1, q0.flt h0 (by decide) u⟩)
