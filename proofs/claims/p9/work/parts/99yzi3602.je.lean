section JE2
variable {fu : Nat} {X : JCX} {p : Int32} {N K n q nf t i j l : Nat} {d d1 κ κ1 : Int} {s s1 s2 : SH} {hs hs1 l1 l2 : List JHO} {Fc Fm F1 F2 F3 F4 : PF} {Gc Gm G1 G2 G3 G4 : PG}
/-- both write a jump whose aim waits -/
theorem jAl.jm {w c ym yc b : Int32} {ty : Nat} {sx : SH} (h7 : Fc 7 = 0 ∨ Fc 7 = 1) (hp : p = 1 → Fc 7 = 1) (D : jD N i Fc Gc Fm Gm) (e : EMC [c, yc] Fc Gc F1 G1) (m : EMM w ym b Fm Gm F2 G2) (ho : (ty = 0 ∧ w = 12 ∧ c = 84 ∧ s = sx) ∨ (s = 0 :: s1 ∧ ((ty = 1 ∧ w = 13 ∧ c = 86 ∧ sx = s1) ∨ (ty = 2 ∧ w = 14 ∧ c = 87 ∧ sx = 0 :: s1) ∨ (ty = 3 ∧ w = 13 ∧ c = 88 ∧ sx = 0 :: s1)))) : jAl X p N i i 0 2 s s1 [(sN Fm, wN Fc + 1, sx, ty, ym, yc)] Fc Gc Fm Gm F1 G1 F2 G2 := by
  obtain ⟨D1, ⟨D2, D3, D4⟩, ⟨D5, D6⟩, D7, D8, D9⟩ := D
  obtain ⟨x1, x2, x3⟩ := id e
  obtain ⟨y1, y2, y3, y4, y5, y6⟩ := id m
  have c6 : 0 ≤ (F1 6).toInt ∧ (F1 6).toInt ≤ (Fc 6).toInt + 2 := by
    rcases h7 with z | z
    · rw [(x2 z).1]
      omega
    · have : (F1 6).toInt = (Fc 6).toInt + ((2 : Nat) : Int) := (x3 z).1
      omega
  refine ⟨⟨KX.tr KX.rf x1 rfl rfl, KX.tr KX.rf y1 rfl rfl⟩, ⟨?_, ⟨?_, ?_, ?_⟩, ⟨?_, ?_⟩, c6.1, by omega, ?_⟩, ⟨Nat.le_refl _, Int.le_refl _⟩, ?_, ⟨x1.1 21 rfl, fun _ _ => by rw [x1.2 20 rfl]⟩, ⟨y1.1 70 rfl, fun _ _ => ⟨by rw [y1.2 67 rfl], by rw [y1.2 68 rfl], by rw [y1.2 69 rfl]⟩⟩, by omega, fun q => ⟨y1.1 55 rfl, fun mu A h1 h2 => ?_⟩⟩
  · unfold CU at D1 ⊢
    rw [x1.1 9 rfl, y1.1 42 rfl, x1.1 10 rfl, y1.1 43 rfl, x1.1 14 rfl, y1.1 44 rfl, x1.1 11 rfl, x1.1 12 rfl, x1.1 13 rfl, x1.2 90 rfl, x1.2 91 rfl, x1.2 92 rfl]
    exact D1
  · rw [y1.1 47 rfl]; exact D2
  · rw [x1.1 43 rfl]; exact D3
  · rw [x1.1 47 rfl]; exact D4
  · rw [x1.1 21 rfl]; exact D5
  · rw [x1.1 21 rfl, y1.2 6 rfl]; exact D6
  · rw [y1.1 70 rfl]; exact D9
  · rw [x1.1 10 rfl]; omega
  · have z := hp q
    have w0 : G1 5 (wN Fc) = c := (x3 z).2.2 0 c rfl
    have w1 : G1 5 (wN Fc + 1) = yc := (x3 z).2.2 1 yc rfl
    refine (JX.rf h1 h2).jmp (m.sn D8) (e.wn z D7) (fun k hk => y3 k (Nat.ne_of_lt hk)) (x3 z).2.1 y5 w1 ?_
    rw [y4, w0]
    exact ho
/-- what is known of a jump that waits -/
theorem jAl.hole {x : JHO} (h : jAl X p N i j d κ s s1 hs Fc Gc Fm Gm F1 G1 F2 G2) (hp : p = 1) (hx : x ∈ hs) : (sN Fm ≤ x.1 ∧ x.1 < sN F2) ∧ x.2.1 < wN F1 ∧ G1 5 x.2.1 = x.2.2.2.2.2 := by
  obtain ⟨mu, A, l0, e0, ⟨a0, a1, a2, a3, az⟩, a4, ⟨a5, a6⟩, ⟨a7, a8⟩, a9, a10, aZ, a11⟩ := (h.2.2.2.2.2.2.2 hp).2 (fun _ => wN Fc) (fun _ => (s, some X.2.2.1)) rfl rfl
  obtain ⟨b1, b2, b3, b4, b5, b6, b7⟩ := a9 x hx
  have := a3 (x.1 + 1) (sN F2) (by omega) (by omega) (Nat.le_refl _)
  exact ⟨⟨b1, b2⟩, by omega, b6⟩
/-- the class gives a waiting jump its aim -/
theorem jp_aim {x : JHO} {r : Int32} (hp : p = 0 ∨ p = 1) (h : jAl X p N i j d κ s s1 hs Fc Gc Fm Gm F1 G1 F2 G2) (hx : x ∈ hs) (h6 : (F1 6).toInt ≤ 8400) (r0 : p = 0 → r = -1) (r1 : p = 1 → r = nI x.2.1) (hy : x.2.2.2.2.2 = -1) : PP (cf_X1_aim fu r (F1 6) F1 G1) (fun _ F3 G3 => F1 = F3 ∧ (p = 0 → G1 = G3) ∧ (p = 1 → G3 = gup G1 5 x.2.1 (F1 6))) := by
  rcases hp with z | z
  · rw [r0 z]
    refine PP.mono (cp_aim0 (-1) _ (by decide) F1 G1) (fun _ F3 G3 q => ⟨q.1, fun _ => q.2, fun y => ?_⟩)
    rw [z] at y
    exact absurd y (by decide)
  · obtain ⟨-, k2, k3⟩ := h.hole z hx
    have k4 : wN F1 = (F1 6).toInt.toNat := rfl
    refine PP.mono (cp_aim1 x.2.1 r _ F1 G1 (r1 z) (by omega) (by omega) (k3.trans hy)) (fun _ F3 G3 q => ⟨q.1, fun y => ?_, fun _ => q.2⟩)
    rw [z] at y
    exact absurd y (by decide)
/-- both give it -/
theorem jAl.pt {x : JHO} {k : Nat} (hp : p = 0 ∨ p = 1) (h : jAl X p N i j d κ s s1 (l1 ++ x :: l2) Fc Gc Fm Gm F1 G1 F2 G2) (h0 : 0 ≤ (F2 60).toInt) (ht : x.2.2.2.1 ≤ 1 ∧ x.2.2.1 = s1) (hk : k = x.1) (g0 : p = 0 → G1 = G3) (g1 : p = 1 → G3 = gup G1 5 x.2.1 (F1 6)) : jAl X p N i j d κ s s1 (l1 ++ l2) Fc Gc Fm Gm F1 G3 F2 (gup G2 57 k (F2 60)) := by
  obtain ⟨⟨a1, a2⟩, ⟨D1, D2, D3, D4, D5, D6⟩, a4, a5, ⟨a6, a6'⟩, ⟨a7, a7'⟩, a8, a9⟩ := h
  have kc : KX [] [5] F1 G1 F1 G3 := by
    rcases hp with z | z
    · rw [← g0 z]
      exact KX.rf
    · rw [g1 z]
      exact KX.g rfl KX.rf
  have e6 : gup G2 57 k (F2 60) 6 = G2 6 := gup_o (by decide)
  refine ⟨⟨KX.tr a1 kc rfl rfl, KX.g rfl a2⟩, ⟨?_, D2, ?_, D4, D5, D6⟩, a4, a5, ⟨a6, fun k hk => by rw [kc.2 20 rfl]; exact a6' k hk⟩, ⟨a7, fun k hk => by rw [gup_o (by decide), gup_o (by decide), gup_o (by decide)]; exact a7' k hk⟩, a8, fun q => ⟨(a9 q).1, fun mu A h1 h2 => ?_⟩⟩
  · unfold CU at D1 ⊢
    rw [kc.2 90 rfl, kc.2 91 rfl, kc.2 92 rfl]
    exact D1
  · rw [e6]
    exact D3
  · refine JX.patch (x := x) (t := sN F2) (w := wN F1) ((a9 q).2 mu A h1 h2) (.inl ⟨ht.1, .inl ⟨by rw [ht.2], jBg.of h1⟩, fun _ => ?_⟩) rfl rfl (fun m hm => ⟨rfl, ?_, rfl, rfl⟩) rfl ?_ (fun m hm => ?_) ?_
    · obtain ⟨mu1, A1, l0, -, -, -, -, -, b9, -⟩ := (a9 q).2 mu A h1 h2
      exact (b9 x (List.mem_append_right _ (List.mem_cons_self ..))).2.1
    · exact gup_x (by rw [hk]; exact hm)
    · rw [hk, gup_i]
      exact (jnI h0).symm
    · rw [g1 q]
      exact gup_x hm
    · rw [g1 q, gup_i]
      exact (jnI D4).symm
/-- what a method of expressions begins with -/
def jIn (X : JCX) (p : Int32) (N K n q nf t i : Nat) (Fc : PF) (Gc : PG) (Fm : PF) (Gm : PG) : Prop := jS X p N K n q nf t Fc Gc Fm Gm ∧ jD N i Fc Gc Fm Gm ∧ (Fc 6).toInt ≤ 2 * (Gm 6 i).toInt + 100
theorem jIn.next (I : jIn X p N K n q nf t i Fc Gc Fm Gm) (h : jAl X p N i j d κ s s1 hs Fc Gc Fm Gm F1 G1 F2 G2) (hk : κ ≤ 0) : jIn X p N K n q nf t j F1 G1 F2 G2 := by
  obtain ⟨I1, I2, I3⟩ := I
  have e6 : G2 6 = Gm 6 := h.1.2.2 6 rfl
  refine ⟨I1.keep h.1.1 h.1.2, h.2.1, ?_⟩
  have := h.2.2.2.2.2.2.1
  rw [e6]
  omega
theorem jIn.sg (I : jIn X p N K n q nf t i Fc Gc Fm Gm) {w : Nat} (hw : w < 45) {a b : Int32} (ha : a = kS w) (hb : b = nI w) : Fc 11 = a ↔ sgn (Gm 4) (Gm 5) (Fm 42) b = true := I.2.1.1.sg I.1.1 hw ha hb
theorem jIn.wd (I : jIn X p N K n q nf t i Fc Gc Fm Gm) {w : Nat} (hw : w < 15) {a b : Int32} (ha : a = nI (4 + w)) (hb : b = nI w) : Fc 11 = a ↔ wdn (Gm 4) (Gm 5) (Fm 42) b = true := I.2.1.1.wd I.1.1 hw ha hb
theorem jIn.h7 (I : jIn X p N K n q nf t i Fc Gc Fm Gm) : (Fc 7 = 0 ∨ Fc 7 = 1) ∧ (p = 1 → Fc 7 = 1) := by
  have e := I.1.2.2.1.2.2
  rw [e]
  exact ⟨I.1.2.1, id⟩
theorem tlen_s {Gm : PG} {Fm : PF} {i : Nat} {b : Int32} (h : sgn (Gm 4) (Gm 5) (Fm 42) b = true) (hi : (Fm 42).toNatClampNeg = i) : tlen (Gm 4 i) (Gm 5 i) = sgl b.toInt.toNat := by
  have q := of_decide_eq_true h
  rw [hi] at q
  unfold tlen
  rw [q.1, q.2, if_pos rfl]
theorem stW_1 : ∀ m : Nat, m < 15 → 1 ≤ stW (m + 1) - 1 - stW m := by decide +kernel
/-- every token is as long as one byte -/
theorem jS.t1 (S : jS X p N K n q nf t Fc Gc Fm Gm) (hi : i < N) : 1 ≤ tlen (Gm 4 i) (Gm 5 i) := by
  have z := (S.1.2.2.2.1 i hi).1
  unfold tlen
  rcases z.2 with ⟨m, -⟩ | ⟨m, w, w0, w1, -⟩ | ⟨m, -⟩ | ⟨m, w, w0, w1, -⟩
  · rw [m, if_neg (by decide), if_neg (by decide)]
    exact Nat.le_refl _
  · rw [m, if_neg (by decide), if_pos rfl, w1, nI_toInt (by omega), Int.toNat_natCast]
    exact stW_1 w w0
  · rw [m, if_neg (by decide), if_neg (by decide)]
    exact Nat.le_refl _
  · rw [m, if_pos rfl, w1, nI_toInt (by omega), Int.toNat_natCast]
    exact (sgl_4 w w0).1
end JE2
