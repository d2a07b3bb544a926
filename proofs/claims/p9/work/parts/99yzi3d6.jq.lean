section JQ6
variable {fu m y n : Nat} {F F1 Fa : PF} {G G1 Ga : PG} {Q : Int32 → PF → PG → Prop} {f : Int32 × PF × PG → PR} {wd : Nat → Int32}
theorem cq_pg (P : jCp m y 3 F) (c0 : G 5 m = 81) : PP (cf_X6_step fu F G) (fun _ F1 G1 => jCe (m + 3) y 0 [G 5 (m + 1), G 5 (m + 2)] (G 54) F G F1 G1) := by
  obtain ⟨h57, h56, hx, hm, m8, y8⟩ := P
  refine jCe.st h57 h56 hx (by omega) (by omega) (fun Fb hb => ?_)
  rw [c0, cs_9r (by decide) (by decide)]
  unfold cb_X6_step_102 cf_X6_reach cb_X6_reach_0
  rw [if_pos (by decide)]
  unfold cb_X6_reach_200
  rw [Option.bind_assoc]
  refine hb.nx (by omega) (by omega) (fun Fc hc => ?_)
  dsimp only
  unfold cb_X6_reach_206
  rw [Option.bind_assoc]
  refine hc.nx (by omega) (by omega) (fun Fd hd => ?_)
  dsimp only
  unfold cb_X6_reach_210 cf_X6_pass cb_X6_pass_0
  rw [if_neg (by decide)]
  unfold cb_X6_pass_39
  rw [if_pos rfl]
  unfold cb_X6_pass_46 cb_X6_pass_56
  rw [Option.bind_assoc, Option.bind_assoc]
  refine hd.pu _ (by omega) (by show y + 0 < 500000; omega) (fun r Fe Ge he => ?_)
  dsimp only
  unfold cb_X6_pass_59
  rw [Option.bind_assoc]
  refine he.pu _ (by omega) (by show y + 1 < 500000; omega) (fun r Fg Gg hg => ?_)
  show PP (some (0, Fg, Gg)) _
  exact PP.ret hg
theorem cq_plo {w a : Nat} (P : jCp m y 3 F) (c0 : G 5 m = 82) (c1 : G 5 (m + 1) = nI a) (e58 : F 58 = nI w) (ha : w + a < 4000) : PP (cf_X6_step fu F G) (fun _ F1 G1 => jCe (m + 3) y 0 [nI (w + a), G 5 (m + 2)] (G 54) F G F1 G1) := by
  obtain ⟨h57, h56, hx, hm, m8, y8⟩ := P
  refine jCe.st h57 h56 hx (by omega) (by omega) (fun Fb hb => ?_)
  rw [c0, cs_9r (by decide) (by decide)]
  unfold cb_X6_step_102 cf_X6_reach cb_X6_reach_0
  rw [if_pos (by decide)]
  unfold cb_X6_reach_200
  rw [Option.bind_assoc]
  refine hb.nx (by omega) (by omega) (fun Fc hc => ?_)
  dsimp only
  unfold cb_X6_reach_206
  rw [Option.bind_assoc]
  refine hc.nx (by omega) (by omega) (fun Fd hd => ?_)
  dsimp only
  unfold cb_X6_reach_210 cf_X6_pass cb_X6_pass_0
  rw [if_neg (by decide)]
  unfold cb_X6_pass_39
  rw [if_neg (by decide)]
  unfold cb_X6_pass_50 cb_X6_pass_56
  rw [hd.1.1 58 rfl, e58, c1, nI_ad (by omega), Option.bind_assoc, Option.bind_assoc]
  refine hd.pu _ (by omega) (by show y + 0 < 500000; omega) (fun r Fe Ge he => ?_)
  dsimp only
  unfold cb_X6_pass_59
  rw [Option.bind_assoc]
  refine he.pu _ (by omega) (by show y + 1 < 500000; omega) (fun r Fg Gg hg => ?_)
  show PP (some (0, Fg, Gg)) _
  exact PP.ret hg
theorem cq_pp {w a : Nat} (P : jCp m y 3 F) (c0 : G 5 m = 83) (c1 : G 5 (m + 1) = nI a) (e58 : F 58 = nI w) (ha : w + a + 1 < 4000) : PP (cf_X6_step fu F G) (fun _ F1 G1 => jCe (m + 3) y 0 [G 54 (w + a), G 54 (w + a + 1)] (G 54) F G F1 G1) := by
  obtain ⟨h57, h56, hx, hm, m8, y8⟩ := P
  refine jCe.st h57 h56 hx (by omega) (by omega) (fun Fb hb => ?_)
  rw [c0, cs_9r (by decide) (by decide)]
  unfold cb_X6_step_102 cf_X6_reach cb_X6_reach_0
  rw [if_pos (by decide)]
  unfold cb_X6_reach_200
  rw [Option.bind_assoc]
  refine hb.nx (by omega) (by omega) (fun Fc hc => ?_)
  dsimp only
  unfold cb_X6_reach_206
  rw [Option.bind_assoc]
  refine hc.nx (by omega) (by omega) (fun Fd hd => ?_)
  dsimp only
  unfold cb_X6_reach_210 cf_X6_pass cb_X6_pass_0
  rw [if_pos rfl]
  unfold cb_X6_pass_6
  rw [hd.1.1 58 rfl, e58, c1, nI_ad (by omega), Option.bind_assoc, Option.bind_assoc]
  refine hd.he (by omega) ?_
  dsimp only
  unfold cb_X6_pass_17
  rw [Option.bind_assoc]
  refine hd.pu _ (by omega) (by show y + 0 < 500000; omega) (fun r Fe Ge he => ?_)
  dsimp only
  unfold cb_X6_pass_20
  rw [he.1.1 58 rfl, e58, nI_ad (by omega), nI_t _ (by omega), Option.bind_assoc]
  refine he.he (by omega) ?_
  dsimp only
  unfold cb_X6_pass_33
  rw [Option.bind_assoc]
  refine he.pu _ (by omega) (by show y + 1 < 500000; omega) (fun r Fg Gg hg => ?_)
  show PP (some (0, Fg, Gg)) _
  exact PP.ret hg
theorem cq_go {t : Nat} (P : jCp m y 2 F) (c0 : G 5 m = 84) (c1 : G 5 (m + 1) = nI t) : PP (cf_X6_step fu F G) (fun _ F1 G1 => jCe t y 0 [] (G 54) F G F1 G1) := by
  obtain ⟨h57, h56, hx, hm, m8, y8⟩ := P
  refine jCe.st h57 h56 hx (by omega) (by omega) (fun Fb hb => ?_)
  rw [c0, cs_9u (by decide) (by decide)]
  unfold cb_X6_step_122
  refine hb.nx (by omega) (by omega) (fun Fc hc => ?_)
  dsimp only
  unfold cb_X6_step_128
  rw [c1]
  refine PP.bind (cp_jgo (nI t) Fc G) ?_
  rintro r _ _ ⟨rfl, rfl⟩
  show PP (some (0, fup Fc 57 (nI t), G)) _
  obtain ⟨k1, e57, hx, sk, e54⟩ := hc
  exact PP.ret ⟨KX.f rfl k1, fup_s, hx.f (by decide) (by decide), ⟨by rw [fup_n (by decide)]; exact sk.1, sk.2⟩, e54⟩
/-- a jump on a truth -/
theorem cq_if {t : Nat} {v : Int32} (P : jCp m y 2 F) (hy : 1 ≤ y) (c0 : G 5 m = v) (hv : v = 85 ∨ v = 86 ∨ v = 87 ∨ v = 88) (c1 : G 5 (m + 1) = nI t) : PP (cf_X6_step fu F G) (fun _ F1 G1 => ((((v = 85 ∨ v = 87) ∧ G 55 (y - 1) = 0) ∨ ((v = 86 ∨ v = 88) ∧ ¬ G 55 (y - 1) = 0)) ∧ jCe (m + 2) y 1 [] (G 54) F G F1 G1) ∨ (((v = 85 ∧ ¬ G 55 (y - 1) = 0) ∨ (v = 86 ∧ G 55 (y - 1) = 0)) ∧ jCe t y 1 [] (G 54) F G F1 G1) ∨ ∃ b : Int32, ((v = 87 ∧ ¬ G 55 (y - 1) = 0 ∧ b = 1) ∨ (v = 88 ∧ G 55 (y - 1) = 0 ∧ b = 0)) ∧ jCe t y 1 [b] (G 54) F G F1 G1) := by
  obtain ⟨h57, h56, hx, hm, m8, y8⟩ := P
  refine jCe.st h57 h56 hx (by omega) (by omega) (fun Fb hb => ?_)
  rw [c0, cs_9u (by rcases hv with z | z | z | z <;> rw [z] <;> decide) (by rcases hv with z | z | z | z <;> rw [z] <;> decide)]
  unfold cb_X6_step_122
  refine hb.nx (by omega) (by omega) (fun Fc hc => ?_)
  dsimp only
  unfold cb_X6_step_128
  rw [c1]
  obtain ⟨k1, e57, hx1, ⟨s1, s2, s3⟩, e54⟩ := hc
  have e : (Fc 56).toInt = y := by rw [s1]; show (nI (y - 0 + 0)).toInt = _; rw [nI_toInt (by omega)]; omega
  have ey : (Fc 56).toInt.toNat - 1 = y - 1 := by omega
  obtain ⟨p1, p2⟩ := hx1.pop (by omega)
  have pk : jCe (m + 2) y 1 [] (G 54) F G (fup Fc 56 (Fc 56 - 1)) G := by
    refine ⟨KX.f rfl k1, by rw [fup_n (by decide)]; exact e57, p1, ⟨?_, fun i hi => s2 i (by omega), fun i x q => by simp at q⟩, e54⟩
    refine i_eq2 ?_
    rw [p2]
    show (Fc 56).toInt - 1 = (nI (y - 1 + 0)).toInt
    rw [nI_toInt (by omega)]
    omega
  have jm : ∀ (xs : List Int32) (Fg : PF) (Gg : PG), jCe (m + 2) y 1 xs (G 54) F G Fg Gg → jCe t y 1 xs (G 54) F G (fup Fg 57 (nI t)) Gg := by
    rintro xs Fg Gg ⟨q1, q2, q3, q4, q5⟩
    exact ⟨KX.f rfl q1, fup_s, q3.f (by decide) (by decide), ⟨by rw [fup_n (by decide)]; exact q4.1, q4.2⟩, q5⟩
  refine PP.bind (cp_jif v (nI t) hv hx1 (by omega) (by omega)) ?_
  rw [ey]
  rintro r F' G' (⟨w1, rfl, rfl⟩ | ⟨w1, rfl, rfl⟩ | ⟨b, F2, w1, w2, rfl⟩)
  · show PP (some (0, fup Fc 56 (Fc 56 - 1), G)) _
    exact PP.ret (.inl ⟨w1, pk⟩)
  · show PP (some (0, fup (fup Fc 56 (Fc 56 - 1)) 57 (nI t), G)) _
    exact PP.ret (.inr (.inl ⟨w1, jm _ _ _ pk⟩))
  · show PP (some (0, fup F2 57 (nI t), G')) _
    refine PP.ret (.inr (.inr ⟨b, w1, jm _ _ _ ?_⟩))
    obtain ⟨u1, u2, u3, u4, u5⟩ := w2
    have e2 : (fup Fc 56 (Fc 56 - 1) 56).toInt = (y - 1 : Nat) := by rw [p2]; omega
    obtain ⟨q1, q2, q3, q4, q5⟩ := pk
    refine ⟨KX.tr q1 u1 rfl rfl, by rw [u1.1 57 rfl]; exact q2, u3, ⟨?_, fun i hi => ?_, fun i z q => ?_⟩, by rw [u1.2 54 rfl]⟩
    · refine i_eq2 ?_
      rw [u2, e2]
      show _ = (nI (y - 1 + 1)).toInt
      rw [nI_toInt (by omega)]
      omega
    · exact u4 i (by omega)
    · have ei : i = 0 := by
        rcases Nat.eq_zero_or_pos i with w | w
        · exact w
        · rw [List.getElem?_eq_none (by show 1 ≤ i; omega)] at q
          cases q
      rw [ei] at q ⊢
      have q : b = z := Option.some.inj q
      rw [show y - 1 + 0 = (fup Fc 56 (Fc 56 - 1) 56).toInt.toNat by omega, u5]
      exact q
theorem cq_jo {v : Int32} (P : jCp m y 1 F) (hy : 2 ≤ y) (c0 : G 5 m = v) (h1 : 45 ≤ v.toInt) (h2 : v.toInt ≤ 61) : PP (cf_X6_step fu F G) (fun _ F1 G1 => ∃ (r : Int32) (Fx : PF), cf_X11_joined fu v (G 55 (y - 2)) (G 55 (y - 1)) Fx G = some (r, Fx, G) ∧ jCe (m + 1) y 2 [r] (G 54) F G F1 G1) := by
  obtain ⟨h57, h56, hx, hm, m8, y8⟩ := P
  refine jCe.st h57 h56 hx (by omega) (by omega) (fun Fb hb => ?_)
  rw [c0, cs_9j h1 h2]
  unfold cb_X6_step_22
  refine hb.po (by omega) (by omega) (fun Fc hc => ?_)
  dsimp only
  unfold cb_X6_step_26
  refine hc.po (by omega) (by omega) (fun Fd hd => ?_)
  dsimp only
  unfold cb_X6_step_33
  refine PP.bind (Q1 := fun r F' G' => (Fd = F' ∧ G = G') ∧ cf_X11_joined fu v (G 55 (y - 2)) (G 55 (y - 1)) Fd G = some (r, F', G')) ?_ ?_
  · intro r F' G' e
    have k := cw_X11_joined v (G 55 (y - (0 + 1 + 1))) (G 55 (y - (0 + 1))) Fd G r F' G' e
    exact ⟨⟨(funext (fun q => k.1 q rfl)).symm, (funext (fun q => k.2 q rfl)).symm⟩, e⟩
  · rintro r _ _ ⟨⟨rfl, rfl⟩, ev⟩
    dsimp only
    unfold cb_X6_step_37
    refine hd.pu _ (by omega) (by show y + 0 < 500000; omega) (fun r1 Fe Ge he => ?_)
    show PP (some (0, Fe, Ge)) _
    exact PP.ret ⟨r, Fd, ev, he⟩
theorem cq_ch {v : Int32} (P : jCp m y 1 F) (hy : 1 ≤ y) (c0 : G 5 m = v) (h1 : 62 ≤ v.toInt) (h2 : v.toInt ≤ 65) : PP (cf_X6_step fu F G) (fun _ F1 G1 => ∃ (r : Int32) (Fx : PF), cf_X6_changed fu v (G 55 (y - 1)) Fx G = some (r, Fx, G) ∧ jCe (m + 1) y 1 [r] (G 54) F G F1 G1) := by
  obtain ⟨h57, h56, hx, hm, m8, y8⟩ := P
  refine jCe.st h57 h56 hx (by omega) (by omega) (fun Fb hb => ?_)
  rw [c0, cs_9c h1 h2]
  unfold cb_X6_step_55
  refine hb.po (by omega) (by omega) (fun Fc hc => ?_)
  dsimp only
  unfold cb_X6_step_61
  refine PP.bind (Q1 := fun r F' G' => (Fc = F' ∧ G = G') ∧ cf_X6_changed fu v (G 55 (y - 1)) Fc G = some (r, F', G')) ?_ ?_
  · intro r F' G' e
    have k := cw_X6_changed v (G 55 (y - (0 + 1))) Fc G r F' G' e
    exact ⟨⟨(funext (fun q => k.1 q rfl)).symm, (funext (fun q => k.2 q rfl)).symm⟩, e⟩
  · rintro r _ _ ⟨⟨rfl, rfl⟩, ev⟩
    dsimp only
    unfold cb_X6_step_64
    refine hc.pu _ (by omega) (by show y + 0 < 500000; omega) (fun r1 Fe Ge he => ?_)
    show PP (some (0, Fe, Ge)) _
    exact PP.ret ⟨r, Fc, ev, he⟩
end JQ6
