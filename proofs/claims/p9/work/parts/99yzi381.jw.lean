/-- all places of a list get one value -/
def jPa (a : Nat) (v : Int32) : List Nat → PG → PG
  | [], G => G
  | k :: l, G => jPa a v l (gup G a k v)
theorem jPa_o {a b : Nat} {v : Int32} (h : b ≠ a) : ∀ (l : List Nat) (G : PG), jPa a v l G b = G b := by
  intro l
  induction l with
  | nil => intro G; rfl
  | cons k l ih => intro G; exact (ih (gup G a k v)).trans (gup_o h)
theorem jPa_x {a k : Nat} {v : Int32} : ∀ (l : List Nat) (G : PG), k ∉ l → jPa a v l G a k = G a k := by
  intro l
  induction l with
  | nil => intro G _; rfl
  | cons p l ih =>
    intro G h
    have h1 : k ≠ p := fun q => h (by rw [q]; exact List.mem_cons_self ..)
    exact (ih (gup G a p v) (fun q => h (List.mem_cons_of_mem _ q))).trans (gup_x h1)
theorem jPa_i {a k : Nat} {v : Int32} : ∀ (l : List Nat) (G : PG), k ∈ l → jPa a v l G a k = v := by
  intro l
  induction l with
  | nil => intro G h; exact nomatch h
  | cons p l ih =>
    intro G h
    show jPa a v l (gup G a p v) a k = v
    by_cases c : k ∈ l
    · exact ih (gup G a p v) c
    · have e : k = p := by
        rcases List.mem_cons.mp h with q | q
        · exact q
        · exact absurd q c
      rw [jPa_x l (gup G a p v) c, e]
      exact gup_i
theorem jPa_k5 {v : Int32} {F : PF} (l : List Nat) (G : PG) : KX [] [5] F G F (jPa 5 v l G) := ⟨fun _ _ => rfl, fun k hk => jPa_o (fun q => by rw [q] at hk; cases hk) l G⟩
theorem jPa_k57 {v : Int32} {F : PF} (l : List Nat) (G : PG) : KX [] [57] F G F (jPa 57 v l G) := ⟨fun _ _ => rfl, fun k hk => jPa_o (fun q => by rw [q] at hk; cases hk) l G⟩
/-- a chain of waiting jumps, the last made first: their places fall; what stands below it -/
def jLk : List JHO → Nat → Nat → Int32 → Int32 → Int32 → Int32 → Prop
  | [], _, _, hm, hc, bm, bc => hm = bm ∧ hc = bc
  | x :: l, lo, hi, hm, hc, bm, bc => hm = nI x.1 ∧ hc = nI x.2.1 ∧ (lo ≤ x.2.1 ∧ x.2.1 < hi) ∧ (x.2.2.1 = [] ∧ x.2.2.2.1 = 0) ∧ jLk l lo x.2.1 x.2.2.2.2.1 x.2.2.2.2.2 bm bc
theorem jLk.mem : ∀ (l : List JHO) (lo hi : Nat) (hm hc bm bc : Int32), jLk l lo hi hm hc bm bc → ∀ y ∈ l, lo ≤ y.2.1 ∧ y.2.1 < hi ∧ y.2.2.1 = [] ∧ y.2.2.2.1 = 0 := by
  intro l
  induction l with
  | nil => intro lo hi hm hc bm bc h y hy; exact nomatch hy
  | cons x l ih =>
    intro lo hi hm hc bm bc h y hy
    obtain ⟨-, -, ⟨b1, b2⟩, ⟨b3, b4⟩, hl⟩ := h
    rcases List.mem_cons.mp hy with q | q
    · rw [q]
      exact ⟨b1, b2, b3, b4⟩
    · obtain ⟨c1, c2, c3, c4⟩ := ih _ _ _ _ _ _ hl y q
      exact ⟨c1, by omega, c3, c4⟩
theorem jLk.app : ∀ (l m : List JHO) (lo lo1 hi hi1 : Nat) (hm hc bm bc em ec : Int32), jLk l lo1 hi hm hc bm bc → jLk m lo hi1 bm bc em ec → lo ≤ lo1 → hi1 ≤ lo1 → lo1 ≤ hi → jLk (l ++ m) lo hi hm hc em ec := by
  intro l
  induction l with
  | nil =>
    intro m lo lo1 hi hi1 hm hc bm bc em ec h k a b c
    have e1 : hm = bm := h.1
    have e2 : hc = bc := h.2
    rw [e1, e2]
    show jLk m lo hi bm bc em ec
    cases m with
    | nil => exact k
    | cons x m =>
      obtain ⟨k1, k2, ⟨k3, k4⟩, k5⟩ := k
      exact ⟨k1, k2, ⟨k3, by omega⟩, k5⟩
  | cons x l ih =>
    intro m lo lo1 hi hi1 hm hc bm bc em ec h k a b c
    obtain ⟨h1, h2, ⟨h3, h4⟩, h5, h6⟩ := h
    exact ⟨h1, h2, ⟨by omega, h4⟩, h5, ih m lo lo1 _ hi1 _ _ _ _ _ _ h6 k a b h3⟩
theorem jLk.wd : ∀ (l : List JHO) (lo lo1 hi hi1 : Nat) (hm hc bm bc : Int32), jLk l lo1 hi1 hm hc bm bc → lo ≤ lo1 → hi1 ≤ hi → jLk l lo hi hm hc bm bc := by
  intro l
  induction l with
  | nil => intro lo lo1 hi hi1 hm hc bm bc h a b; exact h
  | cons x l ih =>
    intro lo lo1 hi hi1 hm hc bm bc h a b
    obtain ⟨h1, h2, ⟨h3, h4⟩, h5, h6⟩ := h
    exact ⟨h1, h2, ⟨by omega, by omega⟩, h5, ih _ _ _ _ _ _ _ _ h6 a (Nat.le_refl _)⟩
theorem jLk.ch {Gm : PG} : ∀ (l : List JHO) (lo hi : Nat) (hm hc bm bc : Int32), jLk l lo hi hm hc bm bc → (∀ x ∈ l, x.1 < 9000 ∧ Gm 57 x.1 = x.2.2.2.2.1) → chn (Gm 57) (l.map (fun x => x.1)) hm bm := by
  intro l
  induction l with
  | nil => intro lo hi hm hc bm bc h k; exact h.1
  | cons x l ih =>
    intro lo hi hm hc bm bc h k
    obtain ⟨h1, h2, -, -, h6⟩ := h
    obtain ⟨k1, k2⟩ := k x (List.mem_cons_self ..)
    have e : hm.toInt = x.1 := by rw [h1, nI_toInt (by omega)]
    show 0 ≤ hm.toInt ∧ hm.toInt < 9000 ∧ hm.toNatClampNeg = x.1 ∧ chn (Gm 57) (l.map (fun x => x.1)) (Gm 57 x.1) bm
    refine ⟨by omega, by omega, ?_, ?_⟩
    · show hm.toInt.toNat = x.1
      omega
    · rw [k2]
      exact ih _ _ _ _ _ _ h6 (fun y hy => k y (List.mem_cons_of_mem _ hy))
section JW1
variable {fu : Nat}
/-- the class aims all jumps of a chain -/
theorem cp_aim5 {t : Int32} {F : PF} : ∀ (L : List JHO) (lo hi m k : Nat) (hm hc bm : Int32) (G : PG), jLk L lo hi hm hc bm (-1) → (hi : Int) ≤ (F 6).toInt → (∀ x ∈ L, G 5 x.2.1 = x.2.2.2.2.2) → k + hi ≤ 8400 → PP (cl_X1_aim_5 fu m t hc (nI k) F G) (fun _ F1 G1 => F = F1 ∧ G1 = jPa 5 t (L.map (fun x => x.2.1)) G) := by
  have l0 : (0 : Int32).toInt = 0 := rfl
  have l1 : (8400 : Int32).toInt = 8400 := rfl
  intro L
  induction L with
  | nil =>
    intro lo hi m k hm hc bm G h h1 h2 h3
    cases m with
    | zero => exact PP.no
    | succ m =>
      show PP (cb_X1_aim_5 fu (cl_X1_aim_5 fu m) t hc (nI k) F G) _
      have e : hc = -1 := h.2
      rw [e]
      unfold cb_X1_aim_5 cb_X1_aim_13 cb_X1_aim_49
      exact PP.ite (fun _ => PP.ret ⟨rfl, rfl⟩) (fun _ => PP.ite (fun _ => PP.ret ⟨rfl, rfl⟩) (fun q => absurd (show (-1 : Int32) < 0 by decide) q))
  | cons x l ih =>
    intro lo hi m k hm hc bm G h h1 h2 h3
    obtain ⟨e1, e2, ⟨b1, b2⟩, -, hl⟩ := h
    cases m with
    | zero => exact PP.no
    | succ m =>
      show PP (cb_X1_aim_5 fu (cl_X1_aim_5 fu m) t hc (nI k) F G) _
      have ex : hc.toInt = x.2.1 := by rw [e2, nI_toInt (by omega)]
      have en : hc.toNatClampNeg = x.2.1 := by
        show hc.toInt.toNat = x.2.1
        omega
      have ek : (nI k).toInt = k := nI_toInt (by omega)
      unfold cb_X1_aim_5 cb_X1_aim_13 cb_X1_aim_17 cb_X1_aim_25 cb_X1_aim_40
      refine PP.ite (fun q => absurd (i_le.mp q) (by omega)) (fun _ => PP.ite (fun q => absurd (i_lt.mp q) (by omega)) (fun _ => PP.ite (fun q => absurd (i_le.mp q) (by omega)) (fun _ => PP.ix (fun _ => PP.ix (fun _ => ?_)))))
      rw [en, h2 x (List.mem_cons_self ..), nI_t k (by omega)]
      refine ih lo x.2.1 m (k + 1) _ _ bm (gup G 5 x.2.1 t) hl (by omega) (fun y hy => ?_) (by omega)
      rw [gup_x (Nat.ne_of_lt (jLk.mem l _ _ _ _ _ _ hl y hy).2.1)]
      exact h2 y (List.mem_cons_of_mem _ hy)
theorem cp_aimL {L : List JHO} {lo : Nat} {t hm hc bm : Int32} {F : PF} {G : PG} (h : jLk L lo (wN F) hm hc bm (-1)) (h0 : 0 ≤ (F 6).toInt) (h1 : (F 6).toInt ≤ 8400) (h2 : ∀ x ∈ L, G 5 x.2.1 = x.2.2.2.2.2) : PP (cf_X1_aim fu hc t F G) (fun _ F1 G1 => F = F1 ∧ G1 = jPa 5 t (L.map (fun x => x.2.1)) G) := by
  have e : wN F = (F 6).toInt.toNat := rfl
  unfold cf_X1_aim cb_X1_aim_0
  exact cp_aim5 L lo (wN F) fu 0 hm hc bm G h (by omega) h2 (by omega)
/-- the reference aims all jumps of a chain -/
theorem mp_set2 {v : Int32} {F : PF} : ∀ (l : List Nat) (n : Nat) (x : Int32) (G : PG), chn (G 57) l x (-1) → l.Nodup → PP (ml_settle_2 fu n v x F G) (fun _ F1 G1 => F = F1 ∧ G1 = jPa 57 v l G) := by
  intro l
  induction l with
  | nil =>
    intro n x G h _
    cases n with
    | zero => exact PP.no
    | succ n =>
      show PP (mb_settle_2 fu (ml_settle_2 fu n) v x F G) _
      unfold mb_settle_2 mb_settle_28
      rw [if_pos (show x = -1 from h)]
      exact PP.ret ⟨rfl, rfl⟩
  | cons p l ih =>
    intro n x G h hn
    obtain ⟨h0, h1, h2, h3⟩ := h
    obtain ⟨n1, n2⟩ := List.nodup_cons.mp hn
    cases n with
    | zero => exact PP.no
    | succ n =>
      show PP (mb_settle_2 fu (ml_settle_2 fu n) v x F G) _
      unfold mb_settle_2
      rw [if_neg (show ¬ x = -1 from fun z => by rw [z] at h0; exact absurd h0 (by decide))]
      unfold mb_settle_7 mb_settle_22
      refine PP.ix (fun _ => PP.ix (fun _ => ?_))
      rw [h2]
      exact ih n (G 57 p) (gup G 57 p v) (chn.ext l _ _ (fun q hq => gup_x (fun z => n1 (by rw [← z]; exact hq))) h3) n2
theorem mp_setL {v x : Int32} {F : PF} {G : PG} {l : List Nat} (h : chn (G 57) l x (-1)) (hn : l.Nodup) : PP (mf_settle fu x v F G) (fun _ F1 G1 => F = F1 ∧ G1 = jPa 57 v l G) := by
  unfold mf_settle mb_settle_0
  exact mp_set2 l fu x G h hn
end JW1
/-- jumps of a chain get their aim -/
theorem JX.pts {X : JCX} {Fc0 Fm0 Fc Fm : PF} {Gc0 Gm0 : PG} {mu0 : Nat → Nat} {A0 : JAN} {s sT : SH} {ls : List (Nat × Nat × SH)} {t w : Nat} (hX : X.1 = false) : ∀ (L l1 l2 : List JHO) (Gc Gm : PG) (ht : ((t, w, sT) = (sN Fm, wN Fc, s) ∧ jBg A0 (sN Fm0) X.2.2.1) ∨ ((t, w, sT) ∈ ls ∧ ∀ x ∈ L, t ≤ x.1)), JX X Fc0 Gc0 Fm0 Gm0 mu0 A0 Fc Gc Fm Gm s (l1 ++ (L ++ l2)) ls → (∀ x ∈ L, x.2.2.1 = sT ∧ x.2.2.2.1 ≤ 1) → JX X Fc0 Gc0 Fm0 Gm0 mu0 A0 Fc (jPa 5 (nI w) (L.map (fun x => x.2.1)) Gc) Fm (jPa 57 (nI t) (L.map (fun x => x.1)) Gm) s (l1 ++ l2) ls := by
  intro L
  induction L with
  | nil => intro l1 l2 Gc Gm _ h _; exact h
  | cons x L ih =>
    intro l1 l2 Gc Gm ht h k
    obtain ⟨k1, k2⟩ := k x (List.mem_cons_self ..)
    have p := JX.patch (l1 := l1) (l2 := L ++ l2) (x := x) (t := t) (w := w) (F1 := Fc) (F2 := Fm) (G1 := gup Gc 5 x.2.1 (nI w)) (G2 := gup Gm 57 x.1 (nI t)) h (.inl ⟨k2, ht.imp (fun q => ⟨by rw [k1]; exact q.1, q.2⟩) (fun q => ⟨by rw [k1]; exact q.1, q.2 x (List.mem_cons_self ..)⟩), fun z => absurd (hX.symm.trans z) (by decide)⟩) rfl rfl (fun j hj => ⟨rfl, gup_x hj, rfl, rfl⟩) rfl gup_i (fun j hj => gup_x hj) gup_i
    exact ih l1 l2 _ _ (ht.imp id (fun q => ⟨q.1, fun y hy => q.2 y (List.mem_cons_of_mem _ hy)⟩)) p (fun y hy => k y (List.mem_cons_of_mem _ hy))
/-- the order of what waits is free -/
theorem JX.pm {X : JCX} {Fc0 Fm0 Fc Fm : PF} {Gc0 Gm0 Gc Gm : PG} {mu0 : Nat → Nat} {A0 : JAN} {s : SH} {hs hs1 : List JHO} {ls : List (Nat × Nat × SH)} (h : JX X Fc0 Gc0 Fm0 Gm0 mu0 A0 Fc Gc Fm Gm s hs ls) (p : hs.Perm hs1) : JX X Fc0 Gc0 Fm0 Gm0 mu0 A0 Fc Gc Fm Gm s hs1 ls := by
  obtain ⟨mu, A, l0, e0, ⟨a0, a1⟩, a4, a5, a7, a9, a10, aZ, a11⟩ := h
  refine ⟨mu, A, l0, e0, ⟨(p.map (fun x : JHO => x.1)).nodup_iff.mp a0, a1⟩, a4, a5, a7, fun x hx => a9 x (p.mem_iff.mpr hx), a10, aZ, fun k k1 k2 => ?_⟩
  rcases a11 k k1 k2 with q | ⟨x, q, q1⟩
  · exact .inl q
  · exact .inr ⟨x, p.mem_iff.mp q, q1⟩
/-- what is known of jumps that wait -/
theorem JX.hol {X : JCX} {Fc0 Fm0 Fc Fm : PF} {Gc0 Gm0 Gc Gm : PG} {mu0 : Nat → Nat} {A0 : JAN} {s : SH} {hs : List JHO} {ls : List (Nat × Nat × SH)} (h : JX X Fc0 Gc0 Fm0 Gm0 mu0 A0 Fc Gc Fm Gm s hs ls) : jND hs ∧ ∀ x ∈ hs, (sN Fm0 ≤ x.1 ∧ x.1 < sN Fm) ∧ (wN Fc0 < x.2.1 ∧ x.2.1 < wN Fc) ∧ Gm 57 x.1 = x.2.2.2.2.1 ∧ Gc 5 x.2.1 = x.2.2.2.2.2 := by
  obtain ⟨mu, A, l0, e0, ⟨a0, a1, a2, a3, az⟩, a4, ⟨a5, a6⟩, a7, a9, a10, aZ, a11⟩ := h
  refine ⟨a0, fun x hx => ?_⟩
  obtain ⟨b1, b2, b3, b4, b5, b6, b7⟩ := a9 x hx
  have c1 := a3 (x.1 + 1) (sN Fm) (by omega) (by omega) (Nat.le_refl _)
  have c2 := a3 (sN Fm0) x.1 (Nat.le_refl _) b1 (by omega)
  exact ⟨⟨b1, b2⟩, ⟨by omega, by omega⟩, b5, b6⟩
