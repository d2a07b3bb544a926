section JQP
variable {fu f nf : Nat} {x : Int32} {gl : JLY} {K : Nat → List Nat} {r1 r2 : Int32} {F F0 : PF} {Fc Fm F1 F2 F3 F4 : PF} {Gc Gm G G0 G1 G2 G3 G4 : PG}
/-- the reference copies its first words -/
theorem mp_copy {n : Nat} (h37 : (F 37).toInt = n) (n8 : n ≤ 8008) : ∀ (m j : Nat) (G1 : PG), j ≤ n → KX [] [90] F G F G1 → (∀ i : Nat, i < j → G1 90 i = G 41 i) → PP (ml_begin_68 fu m (nI j) F G1) (fun r F' G' => r = 1 ∧ F = F' ∧ KX [] [90] F G F' G' ∧ ∀ i : Nat, i < n → G' 90 i = G 41 i) := by
  intro m
  induction m with
  | zero => intro j G1 _ _ _; exact PP.no
  | succ m ih =>
    intro j G1 jn k hc
    show PP (mb_begin_68 fu (ml_begin_68 fu m) (nI j) F G1) _
    have jI : (nI j).toInt = j := nI_toInt (by omega)
    unfold mb_begin_68 mb_begin_94
    refine PP.ite (fun c => ?_) (fun c => ?_)
    · have := i_le.mp c
      exact PP.ret ⟨rfl, rfl, k, fun i hi => hc i (by omega)⟩
    · have c := mt i_le.mpr c
      unfold mb_begin_76
      refine PP.ix (fun _ => PP.ix (fun _ => ?_))
      unfold mb_begin_88
      have ej : nI j + 1 = nI (j + 1) := by
        rw [← nI_add]
        rfl
      rw [ej, nI_c j (by omega)]
      refine ih (j + 1) _ (by omega) (KX.g rfl k) (fun i hi => ?_)
      by_cases e : i = j
      · rw [e, gup_i, k.2 41 rfl]
      · rw [gup_x e]
        exact hc i (by omega)
/-- the memories of a run that begins -/
theorem jGm.of {ce wd : Nat → Int32} (h : jF0 gl wd ce) (hw : jsW gl ≤ 2000) (e1 : ∀ i : Nat, i < 2000 → G1 54 i = wd i) (e2 : ∀ i : Nat, i < jsC gl → G2 90 i = ce i) : jGm gl G1 G2 := by
  refine ⟨fun _ c w x => x.1 ≤ 4 ∧ jAt gl c w x, ⟨fun i j c w d v x y hi hj hx hy => ?_, fun j c w x hj hx => ⟨hx.1, ?_⟩⟩, fun c w x => Iff.rfl⟩
  · rcases hx.2.one hy.2 with ⟨q1, q2, q3⟩ | q
    · exact .inl ⟨by omega, q1, q2, q3⟩
    · exact .inr q
  · have le := hx.2.le
    obtain ⟨h0, h1, h2, h3⟩ := h.1 c w x hx.2
    have q : jC0 (G1 54) (G2 90) c w x := (h.1 c w x hx.2).cg (fun a ha => e2 a (by omega)) (fun a ha => e1 a (by omega))
    obtain ⟨q0, q1, q2, q3⟩ := q
    exact ⟨q1, q2, fun e => (q3 e).1, fun e => by omega, fun e => by omega, fun e => (q3 e).2⟩
theorem gcp_54 {i : Nat} (h : i < 2000) : gcp G 86 54 54 i = G 86 i := by
  unfold gcp
  rw [if_pos rfl]
  unfold va_cpy
  have e0 : (0 : Int32).toNatClampNeg = 0 := rfl
  have e2 : (2000 : Int32).toNatClampNeg = 2000 := rfl
  rw [e0, e2, if_pos ⟨Nat.zero_le _, by omega⟩, Nat.zero_add, Nat.sub_zero]
/-- begin -/
theorem same_beginU (e73 : Fc 73 = Fm 73) (v73 : Fm 73 = 0 ∨ Fm 73 = 1) (h : jU8 Fc Gc Fm Gm) : JP (cf_X11_begin fu x Fc Gc) (mf_begin fu x Fm Gm) (fun _ F1 G1 _ F2 G2 => jU8 F1 G1 F2 G2) := by
  unfold cf_X11_begin cb_X11_begin_0 cb_X11_begin_22 mf_begin mb_begin_0 mb_begin_19
  rw [e73]
  by_cases c0 : Fm 73 = 0
  · rw [if_pos c0, if_pos c0]
    exact JP.ret h
  rw [if_neg c0, if_neg c0]
  unfold cb_X11_begin_10 cb_X11_begin_22 mb_begin_7 mb_begin_19
  by_cases c1 : x < 4
  · rw [if_pos c1, if_pos c1]
    exact JP.ret h
  rw [if_neg c1, if_neg c1]
  unfold cb_X11_begin_15 cb_X11_begin_22 mb_begin_12 mb_begin_19
  by_cases c2 : x ≤ 2000
  · rw [if_pos c2, if_pos c2]
    have h73 : Fm 73 = 1 := v73.resolve_left c0
    obtain ⟨gl, K, nf, hx, b63, ip, -⟩ := h
    have X := hx h73
    obtain ⟨⟨-, ⟨t1, t2⟩, -⟩, f0, -⟩ := id X
    have ec : cb_X11_begin_24 fu x Fc Gc = some (1, fup (fup (fup (fup (fup (fup (fup (fup (fup (fup (fup Fc 72 0) 63 0) 64 0) 65 0) 66 (-1)) 67 0) 56 0) 59 2000) 60 0) 63 1) 67 x, gcp Gc 86 54) := rfl
    rw [ec]
    unfold mb_begin_21 mb_begin_26 mb_begin_31 mb_begin_36 mb_begin_41 mb_begin_46 mb_begin_51 mb_begin_56 mb_begin_61 mb_begin_66
    have kc : KX [56, 59, 60, 63, 64, 65, 66, 67, 72] [54] Fc Gc (fup (fup (fup (fup (fup (fup (fup (fup (fup (fup (fup Fc 72 0) 63 0) 64 0) 65 0) 66 (-1)) 67 0) 56 0) 59 2000) 60 0) 63 1) 67 x) (gcp Gc 86 54) := by
      refine ⟨(KX.f rfl (KX.f rfl (KX.f rfl (KX.f rfl (KX.f rfl (KX.f rfl (KX.f rfl (KX.f rfl (KX.f rfl (KX.f rfl (KX.f rfl KX.rf)))))))))) : KX [56, 59, 60, 63, 64, 65, 66, 67, 72] [54] Fc Gc _ Gc).1, fun k hk => ?_⟩
      have ne : ¬ k = 54 := fun e => by rw [e] at hk; exact absurd hk (by decide)
      exact if_neg ne
    have v56 : (fup (fup (fup (fup (fup (fup (fup (fup (fup (fup (fup Fc 72 0) 63 0) 64 0) 65 0) 66 (-1)) 67 0) 56 0) 59 2000) 60 0) 63 1) 67 x) 56 = 0 := rfl
    have v59 : (fup (fup (fup (fup (fup (fup (fup (fup (fup (fup (fup Fc 72 0) 63 0) 64 0) 65 0) 66 (-1)) 67 0) 56 0) 59 2000) 60 0) 63 1) 67 x) 59 = 2000 := rfl
    have v60 : (fup (fup (fup (fup (fup (fup (fup (fup (fup (fup (fup Fc 72 0) 63 0) 64 0) 65 0) 66 (-1)) 67 0) 56 0) 59 2000) 60 0) 63 1) 67 x) 60 = 0 := rfl
    have v63 : (fup (fup (fup (fup (fup (fup (fup (fup (fup (fup (fup Fc 72 0) 63 0) 64 0) 65 0) 66 (-1)) 67 0) 56 0) 59 2000) 60 0) 63 1) 67 x) 63 = 1 := rfl
    have v64 : (fup (fup (fup (fup (fup (fup (fup (fup (fup (fup (fup Fc 72 0) 63 0) 64 0) 65 0) 66 (-1)) 67 0) 56 0) 59 2000) 60 0) 63 1) 67 x) 64 = 0 := rfl
    have v65 : (fup (fup (fup (fup (fup (fup (fup (fup (fup (fup (fup Fc 72 0) 63 0) 64 0) 65 0) 66 (-1)) 67 0) 56 0) 59 2000) 60 0) 63 1) 67 x) 65 = 0 := rfl
    have v66 : (fup (fup (fup (fup (fup (fup (fup (fup (fup (fup (fup Fc 72 0) 63 0) 64 0) 65 0) 66 (-1)) 67 0) 56 0) 59 2000) 60 0) 63 1) 67 x) 66 = -1 := rfl
    have v67 : (fup (fup (fup (fup (fup (fup (fup (fup (fup (fup (fup Fc 72 0) 63 0) 64 0) 65 0) 66 (-1)) 67 0) 56 0) 59 2000) 60 0) 63 1) 67 x) 67 = x := rfl
    have v72 : (fup (fup (fup (fup (fup (fup (fup (fup (fup (fup (fup Fc 72 0) 63 0) 64 0) 65 0) 66 (-1)) 67 0) 56 0) 59 2000) 60 0) 63 1) 67 x) 72 = 0 := rfl
    have g54 : ∀ i : Nat, i < 2000 → gcp Gc 86 54 54 i = Gc 86 i := fun i hi => gcp_54 hi
    generalize fup (fup (fup (fup (fup (fup (fup (fup (fup (fup (fup Fc 72 0) 63 0) 64 0) 65 0) 66 (-1)) 67 0) 56 0) 59 2000) 60 0) 63 1) 67 x = E1 at kc v56 v59 v60 v63 v64 v65 v66 v67 v72 ⊢
    generalize gcp Gc 86 54 = H1 at kc g54 ⊢
    have km : KX [72, 75, 77, 79, 81, 82, 83, 84, 85] [90] Fm Gm (fup (fup (fup (fup (fup (fup (fup (fup (fup Fm 84 x) 75 1) 85 0) 77 0) 79 0) 81 0) 82 (-1)) 83 0) 72 0) Gm := KX.f rfl (KX.f rfl (KX.f rfl (KX.f rfl (KX.f rfl (KX.f rfl (KX.f rfl (KX.f rfl (KX.f rfl KX.rf))))))))
    have w72 : (fup (fup (fup (fup (fup (fup (fup (fup (fup Fm 84 x) 75 1) 85 0) 77 0) 79 0) 81 0) 82 (-1)) 83 0) 72 0) 72 = 0 := rfl
    have w75 : (fup (fup (fup (fup (fup (fup (fup (fup (fup Fm 84 x) 75 1) 85 0) 77 0) 79 0) 81 0) 82 (-1)) 83 0) 72 0) 75 = 1 := rfl
    have w77 : (fup (fup (fup (fup (fup (fup (fup (fup (fup Fm 84 x) 75 1) 85 0) 77 0) 79 0) 81 0) 82 (-1)) 83 0) 72 0) 77 = 0 := rfl
    have w79 : (fup (fup (fup (fup (fup (fup (fup (fup (fup Fm 84 x) 75 1) 85 0) 77 0) 79 0) 81 0) 82 (-1)) 83 0) 72 0) 79 = 0 := rfl
    have w83 : (fup (fup (fup (fup (fup (fup (fup (fup (fup Fm 84 x) 75 1) 85 0) 77 0) 79 0) 81 0) 82 (-1)) 83 0) 72 0) 83 = 0 := rfl
    have w84 : (fup (fup (fup (fup (fup (fup (fup (fup (fup Fm 84 x) 75 1) 85 0) 77 0) 79 0) 81 0) 82 (-1)) 83 0) 72 0) 84 = x := rfl
    have w85 : (fup (fup (fup (fup (fup (fup (fup (fup (fup Fm 84 x) 75 1) 85 0) 77 0) 79 0) 81 0) 82 (-1)) 83 0) 72 0) 85 = 0 := rfl
    generalize fup (fup (fup (fup (fup (fup (fup (fup (fup Fm 84 x) 75 1) 85 0) 77 0) 79 0) 81 0) 82 (-1)) 83 0) 72 0 = E2 at km w72 w75 w77 w79 w83 w84 w85 ⊢
    have c4 := jsC_4 gl
    have cp := mp_copy (fu := fu) (F := E2) (G := Gm) (n := jsC gl) (by rw [km.1 37 rfl]; exact t1) (by omega) fu 0 Gm (Nat.zero_le _) KX.rf (fun i hi => absurd hi (Nat.not_lt_zero _))
    refine JP.pp (V := fun r F' G' => F' = E1 ∧ G' = H1) (PP.ret ⟨rfl, rfl⟩) cp ?_
    rintro _ _ _ r2 F2 G2 ⟨rfl, rfl⟩ ⟨-, rfl, k2, hc⟩
    have k90 : KX [72, 75, 77, 79, 81, 82, 83, 84, 85] [90] Fm Gm E2 G2 := KX.tr km k2 rfl rfl
    refine ⟨gl, K, nf, fun _ => X.k kc k90 rfl rfl, by rw [v63, w75], ?_, .inr ⟨⟨by rw [v64, w77], by rw [v67, w84]⟩, ⟨by rw [v72, w79], fun i _ hi => ?_⟩, by rw [v59, w83]; rfl, jGm.of f0 t2 g54 hc, ⟨fun z => ?_, fun _ => v66, fun z => ?_, fun _ => v65⟩, fun _ => .inl ⟨v60, w85, w83, w72, v56⟩⟩⟩
    · unfold jIp
      rw [kc.1 70 rfl, k90.1 80 rfl, kc.1 69 rfl, kc.2 68 rfl, k90.2 88 rfl]
      exact ip
    · rw [w79] at hi
      have l0 : (0 : Int32).toInt = 0 := rfl
      omega
    · rw [w75] at z
      rcases z with z | z <;> exact absurd z (by decide)
    · rw [w75] at z
      exact absurd z (by decide)
  · rw [if_neg c2, if_neg c2]
    exact JP.ret h
/-- the class after a read -/
theorem cp_readU (F : PF) (G : PG) : PP (cf_X11_read fu F G) (fun _ F' _ => F' 63 = 0 ∧ F' 69 = 0 ∧ F' 70 = 0 ∧ F' 72 = 0) := by
  unfold cf_X11_read cb_X11_read_0
  have s1 : cf_X6_forget fu F G = some (0, fup (fup (fup (fup (fup (fup (fup (fup F 63 0) 64 0) 65 0) 66 (-1)) 67 0) 56 0) 59 2000) 60 0, G) := rfl
  rw [s1]
  have v63 : (fup (fup (fup (fup (fup (fup (fup (fup F 63 0) 64 0) 65 0) 66 (-1)) 67 0) 56 0) 59 2000) 60 0) 63 = 0 := rfl
  generalize fup (fup (fup (fup (fup (fup (fup (fup F 63 0) 64 0) 65 0) 66 (-1)) 67 0) 56 0) 59 2000) 60 0 = F1 at v63 ⊢
  show PP (cb_X11_read_7 fu F1 G) _
  unfold cb_X11_read_7
  have s2 : cf_X7_forgetInput fu F1 G = some (0, fup (fup F1 69 0) 70 0, G) := rfl
  rw [s2]
  have q : (fup (fup F1 69 0) 70 0) 63 = 0 ∧ (fup (fup F1 69 0) 70 0) 69 = 0 ∧ (fup (fup F1 69 0) 70 0) 70 = 0 := ⟨v63, rfl, rfl⟩
  generalize fup (fup F1 69 0) 70 0 = F2 at q ⊢
  show PP (cb_X11_read_14 fu F2 G) _
  have kp : ∀ {a b : List Nat} {F3 F4 : PF} {G3 G4 : PG}, (F3 63 = 0 ∧ F3 69 = 0 ∧ F3 70 = 0 ∧ F3 72 = 0) → KX a b F3 G3 F4 G4 → a.contains 63 = false → a.contains 69 = false → a.contains 70 = false → a.contains 72 = false → F4 63 = 0 ∧ F4 69 = 0 ∧ F4 70 = 0 ∧ F4 72 = 0 := by
    intro a b F3 F4 G3 G4 h k e1 e2 e3 e4
    rw [k.1 63 e1, k.1 69 e2, k.1 70 e3, k.1 72 e4]
    exact h
  unfold cb_X11_read_14
  have s3 : cf_X7_forgetOutput fu F2 G = some (0, fup F2 72 0, G) := rfl
  rw [s3]
  have q : fup F2 72 0 63 = 0 ∧ fup F2 72 0 69 = 0 ∧ fup F2 72 0 70 = 0 ∧ fup F2 72 0 72 = 0 := ⟨q.1, q.2.1, q.2.2, rfl⟩
  generalize fup F2 72 0 = F3 at q ⊢
  show PP (cb_X11_read_21 fu F3 G) _
  unfold cb_X11_read_21
  refine PP.bind (cw_X10_scan F3 G) (fun r4 F4 G4 k4 => ?_)
  have q := kp q k4 rfl rfl rfl rfl
  dsimp only
  unfold cb_X11_read_28
  refine PP.bind (cw_X10_mainId F4 G4) (fun r5 F5 G5 k5 => ?_)
  have q := kp q k5 rfl rfl rfl rfl
  dsimp only
  unfold cb_X11_read_39
  refine PP.bind (cw_X4_clear r5 F5 G5) (fun r6 F6 G6 k6 => ?_)
  have q := kp q k6 rfl rfl rfl rfl
  dsimp only
  unfold cb_X11_read_42
  have w64 : ∀ (z : Int32) (F : PF) (G : PG), (F 63 = 0 ∧ F 69 = 0 ∧ F 70 = 0 ∧ F 72 = 0) → PP (cb_X11_read_64 fu z F G) (fun _ F' _ => F' 63 = 0 ∧ F' 69 = 0 ∧ F' 70 = 0 ∧ F' 72 = 0) := fun z F G q => PP.mono (cp_64 z F G) (fun _ F' G' w => kp q w.1 rfl rfl rfl rfl)
  refine PP.bind (cw_X4_walk 0 F6 G6) (fun r7 F7 G7 k7 => ?_)
  have q := kp q k7 rfl rfl rfl rfl
  dsimp only
  unfold cb_X11_read_50
  refine PP.ite (fun _ => ?_) (fun _ => w64 r7 F7 G7 q)
  unfold cb_X11_read_55
  refine PP.bind (cw_X4_walk 1 F7 G7) (fun r8 F8 G8 k8 => ?_)
  exact w64 r8 F8 G8 (kp q k8 rfl rfl rfl rfl)
/-- read -/
theorem jU8.read (hfu : 8589934592 ≤ fu) (rb : RB Fm Gm) (h1 : cf_X11_read fu Fc Gc = some (r1, F1, G1)) (h2 : mf_read fu Fm Gm = some (r2, F2, G2)) (rd : jRd F1 G1 F2 G2) : jU8 F1 G1 F2 G2 := by
  obtain ⟨a1, a2, a3, a4⟩ := cp_readU Fc Gc _ _ _ h1
  obtain ⟨-, ⟨b1, b2, b3, -⟩, -⟩ := (wz_read hfu Fm Gm rb).to _ _ _ h2
  have bt : ∀ (gl : JLY) (K : Nat → List Nat) (nf : Nat), jBt gl K nf F1 G1 F2 G2 := fun gl K nf => ⟨by rw [a1, b1], ⟨0, 0, a3, b2, a2, by decide, by decide, fun i hi => absurd hi (Nat.not_lt_zero _)⟩, .inl ⟨b1, a4, b3⟩⟩
  rcases rd with ⟨-, q⟩ | ⟨-, -, f, tab, hy⟩
  · exact ⟨[], fun _ => [], 0, fun z => absurd (q.symm.trans z) (by decide), bt _ _ _⟩
  · obtain ⟨gl, K, X⟩ := jXz.of tab (kw_read Fc Gc _ _ _ h1) hy
    exact ⟨gl, K, f, fun _ => X, bt _ _ _⟩
/-- run -/
theorem jU8.run (hfu : 8589934592 ≤ fu) (ci : CI Fc Gc) (ri : RI Fm Gm) (h : jU8 Fc Gc Fm Gm) (h1 : cf_X11_run fu x Fc Gc = some (r1, F1, G1)) (h2 : mf_run fu x Fm Gm = some (r2, F2, G2)) : r1 = r2 ∧ jU8 F1 G1 F2 G2 := by
  obtain ⟨gl, K, nf, hx, bt⟩ := h
  obtain ⟨q1, ⟨q2, q3⟩, q4⟩ := same_run hfu x ci ri (fun z => (hx z).1) bt _ _ _ _ _ _ h1 h2
  exact ⟨q1, gl, K, nf, fun z => (hx (by rw [q3.1 73 rfl] at z; exact z)).k q2 q3 rfl rfl, q4⟩
theorem jU8.zero (h63 : Fc 63 = 0) (h69 : Fc 69 = 0) (h70 : Fc 70 = 0) (h72 : Fc 72 = 0) : jU8 Fc Gc (fun _ => 0) (fun _ _ => 0) :=
  ⟨[], fun _ => [], 0, fun z => absurd z (by decide), h63, ⟨0, 0, h70, rfl, h69, by decide, by decide, fun i hi => absurd hi (Nat.not_lt_zero _)⟩, .inl ⟨rfl, h72, rfl⟩⟩
/-- both flags -/
theorem jTHr.e73 (h : jTHr Fc Gc Fm Gm) : Fc 73 = Fm 73 ∧ (Fm 73 = 0 ∨ Fm 73 = 1) := by
  rcases h.2 with ⟨a, b⟩ | ⟨a, b, -⟩
  · exact ⟨a.trans b.symm, .inl b⟩
  · exact ⟨a.trans b.symm, .inr b⟩
theorem jU8.ou (h : jU8 Fc Gc Fm Gm) : jOu Fc Gc Fm Gm := by
  obtain ⟨gl, K, nf, -, -, -, ⟨-, a, b⟩ | br⟩ := h
  · refine ⟨a.trans b.symm, fun i _ hi => ?_⟩
    rw [b] at hi
    have l0 : (0 : Int32).toInt = 0 := rfl
    omega
  · exact br.2.1
/-- output -/
theorem same_output (h : jU8 Fc Gc Fm Gm) : JP (cf_X11_output fu x Fc Gc) (mf_output fu x Fm Gm) (fun r1 _ _ r2 _ _ => r1 = r2) := by
  obtain ⟨e, o⟩ := h.ou
  have l0 : (0 : Int32).toInt = 0 := rfl
  have l2 : (2000 : Int32).toInt = 2000 := rfl
  have c1 : PP (cf_X11_output fu x Fc Gc) (fun r _ _ => r = if 0 ≤ x.toInt ∧ x.toInt < 2000 ∧ x.toInt < (Fm 79).toInt then Gc 71 x.toInt.toNat else 0) := by
    unfold cf_X11_output cb_X11_output_0 cf_X7_shown cb_X7_shown_0 cb_X7_shown_19 cb_X7_shown_29 cb_X7_shown_4 cb_X7_shown_19 cb_X7_shown_29 cb_X7_shown_11 cb_X7_shown_19 cb_X7_shown_29 cb_X7_shown_23 cb_X7_shown_29 cb_X11_output_8
    rw [e]
    refine PP.bind (Q1 := fun r _ _ => r = if 0 ≤ x.toInt ∧ x.toInt < 2000 ∧ x.toInt < (Fm 79).toInt then Gc 71 x.toInt.toNat else 0) ?_ (fun r F G h => PP.ret h)
    refine PP.ite (fun c => PP.ret ?_) (fun c => PP.ite (fun d => PP.ret ?_) (fun d => PP.ite (fun q => PP.ix (fun _ => PP.ret ?_)) (fun q => PP.ret ?_)))
    · have c := i_lt.mp c
      rw [if_neg (by omega)]
    · have d := i_le.mp d
      rw [if_neg (by omega)]
    · have c := mt i_lt.mpr c
      have d := mt i_le.mpr d
      have q := i_lt.mp q
      rw [if_pos (by omega)]
      rfl
    · have q := mt i_lt.mpr q
      rw [if_neg (by omega)]
  have c2 : PP (mf_output fu x Fm Gm) (fun r _ _ => r = if 0 ≤ x.toInt ∧ x.toInt < 2000 ∧ x.toInt < (Fm 79).toInt then Gm 89 x.toInt.toNat else 0) := by
    unfold mf_output mb_output_0 mb_output_19 mb_output_29 mb_output_4 mb_output_19 mb_output_29 mb_output_12 mb_output_19 mb_output_29 mb_output_23 mb_output_29
    refine PP.ite (fun c => PP.ret ?_) (fun c => PP.ite (fun d => PP.ret ?_) (fun d => PP.ite (fun q => PP.ix (fun _ => PP.ret ?_)) (fun q => PP.ret ?_)))
    · have c := i_lt.mp c
      rw [if_neg (by omega)]
    · have d := i_le.mp d
      rw [if_neg (by omega)]
    · have c := mt i_lt.mpr c
      have d := mt i_le.mpr d
      have q := i_lt.mp q
      rw [if_pos (by omega)]
      rfl
    · have q := mt i_lt.mpr q
      rw [if_neg (by omega)]
  refine JP.pp c1 c2 ?_
  rintro r1 _ _ r2 _ _ rfl rfl
  by_cases c : 0 ≤ x.toInt ∧ x.toInt < 2000 ∧ x.toInt < (Fm 79).toInt
  · rw [if_pos c, if_pos c]
    exact o _ (by omega) (by omega)
  · rw [if_neg c, if_neg c]
end JQP
