/-- the telling of a function, as its function fares -/
theorem gt_tells {fu : Nat} {F : PF} {G : PG} {f : Int32} (h0 : YA F G) (hf : isfn (G 4) (G 5) (F 42) = true) {Q : Int32 → PF → PG → Prop} (hQ : ∀ (F1 : PF) (G1 : PG), Q 0 F1 G1) (hfn : ∀ x2 : Int32, GR (fup F 61 0) G 0 (-4) 0 (fup (fup (fup F 61 0) 42 (F 42 + 1)) 42 (F 42 + 1 + 1)) G → vp_in (F 42 + 1) 4002 → sgn (G 4) (G 5) (F 42 + 1 + 1) 22 = true → PP (mf_function fu f (F 42 + 1) x2 (fup (fup (fup F 61 0) 42 (F 42 + 1)) 42 (F 42 + 1 + 1)) G) Q) : PP (mf_tells fu f F G) Q := by
  have h0 : YA (fup F 61 0) G := h0
  have q0 := GR.rf h0
  have ht0 := q0.t h0
  have hf1 := hf
  unfold isfn at hf1
  simp only [Bool.and_eq_true, Bool.not_eq_true'] at hf1
  obtain ⟨⟨w3, w1⟩, s22⟩ := hf1
  have v0 : vp_in ((fup F 61 0) 42) 4002 := ht0.2.2.1
  have t70 : ∀ (x2 x3 : Int32), G 4 (F 42).toNatClampNeg = 2 → (G 5 (F 42).toNatClampNeg).toInt ≤ 2 → x3 = 0 → PP (mb_tells_70 fu f x2 x3 (fup F 61 0) G) Q := by
    intro x2 x3 k0 kv hx3
    have q1 := q0.adv3 h0 k0 kv
    have ht1 := q1.t h0
    unfold mb_tells_70 mb_tells_80
    refine PP.bind (ws_name ht1.2.2.1).p ?_
    rintro r F2 G2 (⟨rfl, rfl, rfl, k1, -⟩ | ⟨rfl, u⟩)
    · dsimp only
      unfold mb_tells_84
      have q2 := q1.adv h0 (k_ne k1 (by decide))
      rw [if_pos (show (fup (fup (fup F 61 0) 42 (fup F 61 0 42 + 1)) 42 (fup (fup F 61 0) 42 (fup F 61 0 42 + 1) 42 + 1)) 44 ≤ 0 by rw [q2.2.1.1]; decide)]
      show PP (mb_tells_95 fu f x2 x3 (F 42 + 1) (fup (fup (fup F 61 0) 42 (F 42 + 1)) 42 (F 42 + 1 + 1)) G) _
      have q2 : GR (fup F 61 0) G 0 (-4) 0 (fup (fup (fup F 61 0) 42 (F 42 + 1)) 42 (F 42 + 1 + 1)) G := q2
      have v4 : vp_in (F 42 + 1) 4002 := ht1.2.2.1
      unfold mb_tells_95
      rw [if_pos hx3]
      unfold mb_tells_99
      refine PP.bind (mp_isSign 22 _ G) ?_
      rintro z F4 G4 ⟨rfl, rfl, hz⟩
      dsimp only
      have s' : sgn (G 4) (G 5) ((fup (fup (fup F 61 0) 42 (F 42 + 1)) 42 (F 42 + 1 + 1)) 42) 22 = true := s22
      have hz1 : ¬ z = 0 := by
        rcases hz with ⟨rfl, -⟩ | ⟨-, s⟩
        · decide
        · rw [s'] at s
          exact absurd s (by decide)
      unfold mb_tells_105
      rw [if_neg hz1]
      unfold mb_tells_108
      refine PP.bind (hfn x2 q2 v4 s22) ?_
      intro r F5 G5 hq
      dsimp only
      unfold mb_tells_116
      exact PP.bz (fun _ => PP.ret hq)
    · dsimp only
      unfold mb_tells_84
      refine PP.ite (fun c => ?_) (fun _ => ?_)
      · have := i_le.mp c
        have : (0 : Int32).toInt = 0 := rfl
        have := u.1
        omega
      · unfold mb_tells_93
        exact PP.ret (hQ _ _)
  unfold mf_tells mb_tells_0 mb_tells_5
  refine PP.bind (mp_word 3 0 _ G q0.2.1.1) ?_
  rintro r F1 G1 (⟨rfl, rfl, rfl, w⟩ | ⟨rfl, w, hm⟩)
  · have w : wdn (G 4) (G 5) (F 42) 3 = true := w
    rw [w3] at w
    exact absurd w (by decide)
  · dsimp only
    rcases hm with ⟨-, rfl, rfl⟩ | ⟨e, -⟩
    · unfold mb_tells_11
      rw [if_pos rfl]
      unfold mb_tells_36
      refine PP.bind (mp_isWord 2 _ G) ?_
      rintro x2 F1 G1 ⟨rfl, rfl, hx2⟩
      dsimp only
      unfold mb_tells_41
      refine PP.bind (mp_isWord 1 _ G) ?_
      rintro x3 F1 G1 ⟨rfl, rfl, hx3⟩
      dsimp only
      have x30 : x3 = 0 := by
        rcases hx3 with ⟨-, e⟩ | ⟨e, -⟩
        · have e : wdn (G 4) (G 5) (F 42) 1 = true := e
          rw [w1] at e
          exact absurd e (by decide)
        · exact e
      have go : ∀ n : Int32, n.toInt ≤ 2 → wdn (G 4) (G 5) (F 42) n = true → PP (mb_tells_70 fu f x2 x3 (fup F 61 0) G) Q := by
        intro n hn wn
        have wk := of_decide_eq_true wn
        exact t70 x2 x3 wk.1 (by rw [wk.2]; exact hn) x30
      unfold mb_tells_47
      refine PP.ite (fun c2 => ?_) (fun c2 => ?_)
      · unfold mb_tells_52
        rw [if_pos x30]
        unfold mb_tells_56
        refine PP.bind (mp_isWord 0 _ G) ?_
        rintro z F1 G1 ⟨rfl, rfl, hz⟩
        dsimp only
        unfold mb_tells_61
        rcases hz with ⟨rfl, e⟩ | ⟨rfl, e⟩
        · rw [if_neg (by decide)]
          exact go 0 (by decide) e
        · rw [if_pos rfl]
          unfold mb_tells_64
          refine PP.bind (mp_fails 2 (by decide) _ G) ?_
          rintro r F2 G2 ⟨rfl, u⟩
          dsimp only
          unfold mb_tells_69
          exact PP.bz (fun _ => PP.ret (hQ _ _))
      · rcases hx2 with ⟨rfl, e⟩ | ⟨rfl, e⟩
        · exact go 2 (by decide) e
        · exact absurd rfl c2
    · exact absurd rfl e
theorem gz_tells {fu : Nat} (hfu : 8589934592 ≤ fu) {F : PF} {G : PG} {f : Int32} (h : YC fu f F G) (h46 : F 46 = 1) (hf : isfn (G 4) (G 5) (F 42) = true) (h27 : (G 27 f.toNatClampNeg).toInt = (flT (G 4) (G 5) fu (F 42 + 1 + 1)).length) (hk : kindsOf G f.toNatClampNeg = flT (G 4) (G 5) fu (F 42 + 1 + 1)) : PP (mf_tells fu f F G) (fun r F1 G1 => FZR (FTb F G ∧ GI F G) f (flT (G 4) (G 5) fu (F 42 + 1 + 1)) F G r F1 G1 ∧ (r = 1 → F1 37 = F 37)) := by
  obtain ⟨h0, hB, h35, hrec⟩ := h
  refine gt_tells h0 hf (fun _ _ => ⟨fun e => absurd e (by decide), fun e => absurd e (by decide)⟩) (fun x2 q v4 s => ?_)
  have h0' : YA (fup F 61 0) G := h0
  have ht := q.t h0'
  obtain ⟨K, hz, hj, h42, h60, hD, hw, hI, hC⟩ := q
  obtain ⟨a1, b, a3, a4, a5, a6, a7, a8⟩ := h0
  have K3 : KX [42, 61] [] F G (fup (fup (fup F 61 0) 42 (F 42 + 1)) 42 (F 42 + 1 + 1)) G := KX.f rfl (KX.f rfl (KX.f rfl KX.rf))
  have e42 : (fup (fup (fup F 61 0) 42 (F 42 + 1)) 42 (F 42 + 1 + 1)) 42 = F 42 + 1 + 1 := rfl
  have ee : tT (fup (fup (fup F 61 0) 42 (F 42 + 1)) 42 (F 42 + 1 + 1)) G = (G 6 (F 42 + 1 + 1).toNatClampNeg).toInt := rfl
  have i0 : tT (fup F 61 0) G = tT F G := rfl
  generalize fup (fup (fup F 61 0) 42 (F 42 + 1)) 42 (F 42 + 1 + 1) = F3 at K hz hj h42 h60 hD hw hI ht K3 e42 ee
  have j60 : F3 60 = F 60 := h60
  have k42 : (F 42).toInt ≤ (F3 42).toInt := h42.2
  have r42 : (fup F 61 0 42).toInt = (F 42).toInt := rfl
  have f7 : (F 7).toInt ≤ 4000 := by have := a1.2.1; have := a1.2.2.2.1; omega
  have i1 : (F 42 + 1).toInt = (F 42).toInt + 1 := i_addn _ rfl (by omega) (by omega)
  have i2 : (F 42 + 1 + 1).toInt = (F 42 + 1).toInt + 1 := i_addn _ rfl (by omega) (by omega)
  have i3 : (F3 42).toInt = (F 42).toInt + 2 := by rw [e42]; omega
  have yh : YH f F3 G := by
    refine ⟨ht.1, ⟨hz.1, hz.2.1, hz.2.2, i_eq.mpr hj.1⟩, by rw [j60]; exact a4.1, by rw [K3.1 7 rfl]; exact h42.1, by rw [j60]; omega, ⟨hD.1, by omega⟩, by rw [K3.1 24 rfl]; exact a6, by rw [K3.1 46 rfl, K3.1 24 rfl]; exact a7, fun z => absurd ((K3.1 46 rfl).symm.trans z) (by rw [h46]; decide), vp_in_iff.mpr ⟨hB.1, by omega⟩⟩
  have gz := gz_function hfu f (F 42 + 1) x2 F3 G yh ((K3.1 46 rfl).trans h46) (by rw [e42]; exact s) (by rw [e42]; exact h27) (by rw [e42]; exact hk)
  rw [e42] at gz
  refine PP.mono (PP.and gz (mw_function f (F 42 + 1) x2 F3 G)) ?_
  rintro r F1 G1 ⟨q, Kf⟩
  refine ⟨fun e => ?_, fun _ => (Kf.1 37 rfl).trans (K3.1 37 rfl)⟩
  obtain ⟨q0, q1, q2, q3, q4⟩ := FZR.kx q K3 rfl rfl rfl rfl rfl rfl rfl rfl e
  exact ⟨q0, q1, q2, q3, fun z b => q4 z ⟨b.1.kx K3 rfl, b.2.kx K3 (M7.kx K3 rfl) rfl⟩⟩
/-- the kinds of a record -/
theorem RCD.kinds {K V : Nat → Int32} {fu g : Nat} {G : PG} {t : Int32} (h : RCD K V fu G g t) : kindsOf G g = flT K V fu (t + 1 + 1) := by
  obtain ⟨h1, h2, h3, -⟩ := h
  refine List.ext_getElem ?_ ?_
  · unfold kindsOf
    rw [List.length_map, List.length_range, h1]
    omega
  · intro i h4 h5
    simp only [kindsOf, List.getElem_map, List.getElem_range, h3 i h5]
    rw [List.getD_eq_getElem?_getD, List.getElem?_eq_getElem h5]
    rfl
/-- kinds and places, in both passes -/
theorem nn_tells {fu : Nat} (hfu : 8589934592 ≤ fu) {F : PF} {G : PG} {f : Int32} (h : YC fu f F G) (h24 : F 46 = 0 → F 24 = f) (hn : NP F G) : PP (mf_tells fu f F G) (fun r F1 G1 => r = 1 → NP F1 G1) := by
  have tF : 0 ≤ tT F G ∧ tT F G ≤ 4000 := h.1.1.rng h.1.2.2.1.1 h.1.2.2.1.2
  have hB := h.2.1
  by_cases c : isfn (G 4) (G 5) (F 42) = true
  · have fn : PP (mf_tells fu f F G) (fun r F1 G1 => r = 1 → (∀ k, k ≠ f.toNatClampNeg → G1 26 k = G 26 k) ∧ (¬ F 46 = 0 → G1 26 = G 26) ∧ (F 46 = 0 → 0 ≤ (G1 26 f.toNatClampNeg).toInt ∧ (G1 26 f.toNatClampNeg).toInt ≤ 4000)) := by
      refine gt_tells h.1 c (fun _ _ e => absurd e (by decide)) (fun x2 q v4 _ => ?_)
      have v := vp_in_iff.mp v4
      have a3 : (F 42 + 1 + 1).toInt ≤ (F 7).toInt := q.2.2.2.1.1.2
      have i1 : (F 42 + 1 + 1).toInt = (F 42 + 1).toInt + 1 := i_addn _ rfl (by omega) (by omega)
      have b6 := h.1.1.rng (t := F 42 + 1) v.1 (by omega)
      refine PP.mono (n6_function f _ x2 _ G) ?_
      intro r F1 G1 q _
      refine ⟨q.1, q.2.1, fun z => ?_⟩
      rw [q.2.2 z]
      exact b6
    refine PP.mono (PP.and (PP.and (nt_tells f F G hn.1) fn) (wz_tells hfu h).p) ?_
    rintro r F1 G1 ⟨⟨n1, n2⟩, q⟩ rfl
    obtain ⟨m1, m2, m3⟩ := n2 rfl
    refine ⟨n1, fun g hg => ?_⟩
    rcases q with ⟨-, ⟨q, -⟩ | ⟨-, -, -, -, -, p0, p1⟩⟩ | ⟨q, -⟩
    · rw [c] at q
      exact absurd q (by decide)
    · by_cases z : F 46 = 0
      · have e1 := (p0 z).1
        have i1 : (f + 1).toInt = f.toInt + 1 := i_addn _ rfl (by omega) (by omega)
        rw [e1, i1] at hg
        have fn : f.toNatClampNeg = f.toInt.toNat := rfl
        by_cases eg : g = f.toNatClampNeg
        · rw [eg]
          exact m3 z
        · rw [m1 g eg]
          exact hn.2 g (by rw [h24 z]; omega)
      · rw [(p1 z).1] at hg
        rw [m2 z]
        exact hn.2 g hg
    · exact absurd q (by decide)
  · refine PP.mono (PP.and (nt_tells f F G hn.1) (wz_tells hfu h).p) ?_
    rintro r F1 G1 ⟨n1, q⟩ rfl
    refine ⟨n1, fun g hg => ?_⟩
    rcases q with ⟨-, ⟨-, q⟩ | ⟨q, -⟩⟩ | ⟨q, -⟩
    · have e24 : F1 24 = F 24 := q.2.2.2.1.1 24 rfl
      rw [e24] at hg
      rw [q.2.2.2.1.2 26 rfl]
      exact hn.2 g hg
    · exact absurd q c
    · exact absurd q (by decide)
