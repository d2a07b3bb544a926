/-- what a for keeps, up to its end -/
def jKp (Fc Fm F1 F2 : PF) : Prop := (F2 15 = Fm 15 ∧ F2 51 = Fm 51) ∧ (F2 63 = Fm 63 ∧ F2 64 = Fm 64) ∧ F1 30 = Fc 30 ∧ F1 31 = Fc 31
/-- the jump that leaves a for, if it has one -/
def jEx (p : Int32) (l0 : List JHO) (x5 x3 : Int32) : Prop := (l0 = [] ∧ x5 = -1 ∧ x3 = -1) ∨ ∃ x0 : JHO, l0 = [x0] ∧ (x0.2.2.1 = [] ∧ x0.2.2.2.1 ≤ 1 ∧ x0.2.2.2.2.2 = -1) ∧ (p = 0 → x5 = -1) ∧ (p = 1 → x5 = nI x0.2.1) ∧ ¬ x3 = -1 ∧ x3.toNatClampNeg = x0.1
section JW9J
variable {fu : Nat} {X Y : JCX} {p : Int32} {N K n q nf t t1 i j k tt ww tq wq : Nat} {d κ : Int} {s s1 : SH} {hs l0 : List JHO} {ls : List (Nat × Nat × SH)} {Fc Fm F1 F2 F3 F4 F5 F6 F9 Fy : PF} {Gc Gm G1 G2 G3 G4 G5 G6 G9 Gy : PG} {x1 x2 x3 x4 x5 x6 x7 y4 y5 a b : Int32} {xe : JHO}
theorem jKp.al (h : jKp Fc Fm F1 F2) (e : jAl Y p N i j d κ s s1 hs F1 G1 F2 G2 F3 G3 F4 G4) : jKp Fc Fm F3 F4 := by
  unfold jKp at h ⊢
  rw [e.1.2.1 15 rfl, e.1.2.1 51 rfl, e.1.2.1 63 rfl, e.1.2.1 64 rfl, e.1.1.1 30 rfl, e.1.1.1 31 rfl]
  exact h
theorem jV.alr (V : jV X p N K n q nf t i Fc Gc Fm Gm) (h : jAl X p N i j d κ s s1 hs Fc Gc Fm Gm F1 G1 F2 G2) (rm : (F1 6).toInt ≤ 2 * (Gm 6 j).toInt + 100) : jV X p N K n q nf t j F1 G1 F2 G2 := by
  refine V.mv (KX.tr KX.rf h.1.1 rfl rfl) (KX.tr KX.rf h.1.2 rfl rfl) ?_ ?_ (V.2.1.2.2.kx h.1.1 rfl) h.2.1 rm h.2.2.1.1
  · rw [h.1.1.1 46 rfl]; exact V.x0
  · rw [h.1.2.1 54 rfl]; exact V.2.1.2.1
/-- room, from where the statement began -/
theorem jW.rm (V0 : jV X p N K n q nf t i Fc Gc Fm Gm) (W : jW X Y p N i j d κ s s1 hs ls Fc Gc Fm Gm F1 G1 F2 G2) (h : κ ≤ 0) : (F1 6).toInt ≤ 2 * (Gm 6 j).toInt + 100 := by
  have y1 := W.2.2.2.2.1
  have y2 := V0.1.2.2
  omega
theorem jW.rmS (sl : (Fc 6).toInt + 7 ≤ 2 * (Gm 6 i).toInt + 100) (W : jW X Y p N i j d κ s s1 hs ls Fc Gc Fm Gm F1 G1 F2 G2) (h : κ ≤ 7) : (F1 6).toInt ≤ 2 * (Gm 6 j).toInt + 100 := by
  have y1 := W.2.2.2.2.1
  omega
theorem jOn.c15 {v : Int32} (o : jOn N j d F1 G1 F2 G2 F3 G3 F4 G4) : jOn N j d F1 G1 (fup F2 15 v) G2 F3 G3 (fup F4 15 v) G4 := by
  obtain ⟨a1, ⟨a2, a3⟩, a4, a5⟩ := o
  refine ⟨a1, ⟨a2, fun z hz => ?_, a3.2⟩, ?_, a5⟩
  · by_cases e : z = 15
    · rw [e, fup_s, fup_s]
    · rw [fup_n e, fup_n e]
      exact a3.1 z hz
  · unfold CU at a4 ⊢
    rw [fup_n (by decide), fup_n (by decide), fup_n (by decide)]
    exact a4
/-- the end of a for -/
theorem jf_end {rc rd : RC} (V0 : jV X p N K n q nf t i Fc Gc Fm Gm) (hi : (Fm 15).toInt ≤ 4 * (i : Int)) (V9 : jV Y p N K n q nf t1 k F9 G9 Fy Gy) (W9 : jW X Y p N i k 1 κ [] [] [] [] Fc Gc Fm Gm F9 G9 Fy Gy) (hκ : κ ≤ 0) (hik : i < k) (h15 : Fy 15 = Fm 15 + 1) (h51 : Fy 51 = Fm 51) (h63 : Fy 63 = Fm 63) (h64 : Fy 64 = Fm 64) (hx : x1 = Fm 15) (ha : a = Fc 30) (hb : b = Fc 31) (hn : p = 1 → ∀ k : Nat, (Fm 14).toInt ≤ (k : Int) → (k : Int) < (Fy 14).toInt → (Fm 15).toInt < (Gy 19 k).toInt) : JP (cb_X4_forStatement_279 fu rc a b F9 G9) (mb_counted_236 fu rd x1 Fy Gy) (fun _ F1 G1 r2 F2 G2 => jOs X p N K n q nf i 0 Fc Gc Fm Gm r2 F1 G1 F2 G2) := by
  obtain ⟨c1, c2, c3⟩ := V0.2.2.2.1
  have i4 : (i : Int) ≤ 4000 := by
    have := V0.1.2.1.1.1
    have := V0.1.1.1.1
    omega
  have o0 := V0.1.2.1.1.2.2.2.2.1
  have ea : (Fm 15 + 1).toInt = (Fm 15).toInt + 1 := i_addn _ rfl (by omega) (by omega)
  unfold cb_X4_forStatement_279 mb_counted_236
  refine JP.both (jl_out V0 hi hx V9 h15 W9.1 (fun z => W9.2.2.2.2.2.2.1 z) hn) ?_
  rintro r1 F3 G3 r2 F4 G4 ⟨t2, Z, V2, cl, ⟨k1, k2⟩, ⟨k3, k4⟩, pe⟩
  dsimp only
  have W2 : jW X Z p N i k 1 κ [] [] [] [] Fc Gc Fm Gm F3 G3 F4 G4 := by
    obtain ⟨a0, ⟨a1, a2⟩, a4, a5, a6, a7, -, a8⟩ := W9
    exact ⟨cl.uq a0, ⟨KX.tr a1 k1 rfl rfl, KX.tr a2 k3 rfl rfl⟩, a4, by rw [k1.1 10 rfl]; exact a5, by rw [k1.1 6 rfl]; exact a6, fun z => KX.tr (a7 z) (k2 z) rfl rfl, pe, fun z mu A h1 h2 => JX.col (V9.sz z) cl h1 ((a8 z mu A h1 h2).st (Fm1 := F4) (Gm1 := G4) (k3.1 60 rfl) (fun k _ _ => k3.2 k rfl) (k1.1 6 rfl) (k1.2 5 rfl))⟩
  have kf : KX [30, 31] [] F3 G3 (fup (fup F3 30 a) 31 b) G3 := KX.f rfl (KX.f rfl KX.rf)
  have V10 := V2.fl kf (KX.rf (F := F4) (G := G4))
  have W10 := W2.st (KX.tr KX.rf kf rfl rfl) KX.rf (kf.1 10 rfl) (kf.1 6 rfl) rfl rfl (fun _ _ _ => rfl) (fun _ => jPe.of (z := []) (w := []) kf KX.rf rfl rfl)
  unfold cb_X4_forStatement_286 cb_X4_forStatement_291 cb_X4_forStatement_296 mb_counted_241
  refine JP.L (jo_closes (Fm := F4) (Gm := G4) V10.1.2.1.1 (by have := W10.2.2.2.1; omega)) ?_
  rintro r9 Fe Ge oe
  dsimp only
  have e9 := jAl.cl (X := Z) (p := p) (s := []) V10.1.2.1 oe
  unfold cb_X4_forStatement_303 mb_counted_251
  have w30 : Fe 30 = Fc 30 := by rw [e9.1.1.1 30 rfl, fup_n (by decide), fup_s]; exact ha
  have w31 : Fe 31 = Fc 31 := by rw [e9.1.1.1 31 rfl, fup_s]; exact hb
  refine JP.ret (jOs.ac (LB := []) (LC := []) (V10.al e9 (Int.le_refl _)) ⟨((W10.fo.tr (jW.al e9)).pm (List.Perm.refl _)).ca (by omega) (by omega), ⟨?_, ?_⟩, fun _ => ⟨⟨?_, w30⟩, ?_, w31⟩, fun _ _ => ⟨rfl, rfl⟩⟩ (by omega))
  · rw [fup_n (by decide), k4, hx]
  · rw [fup_n (by decide), k3.1 51 rfl, h51]
  · rw [fup_n (by decide), k3.1 63 rfl, h63]
  · rw [fup_n (by decide), k3.1 64 rfl, h64]
/-- the statement of a for, and what comes behind it -/
theorem jf_loop {dm dc : Nat} {Q : Int32 → PF → PG → Int32 → PF → PG → Prop} (ih : jPbd fu p N K n q nf dm) (hQ : ∀ (r1 : Int32) (F1 : PF) (G1 : PG) (r2 : Int32) (F2 : PF) (G2 : PG), jEnd F1 F2 → Q r1 F1 G1 r2 F2 G2) (V0 : jV X p N K n q nf t i Fc Gc Fm Gm) (sl : (Fc 6).toInt + 7 ≤ 2 * (Gm 6 i).toInt + 100) (h10 : 2 ≤ (Fc 10).toInt) (he : (Fm 15).toInt + 2 ≤ 4 * (i : Int) + 1) (le : jLe Y.2.2.1 X.2.2.1) (V3 : jV Y p N K n q nf t1 k F5 G5 F6 G6) (W3 : jW X Y p N i k (-1) κ [] [] l0 ls Fc Gc Fm Gm F5 G5 F6 G6) (hκ : κ ≤ 4) (hik : i < k) (kp : jKp Fc Fm F5 F6) (hl : (tt, ww, []) ∈ ls) (ew : p = 1 → x7 = nI ww) (et : p = 1 → y5 = nI tt) (ny : ¬ y5 = -1) (hl0 : jEx p l0 x5 x3) (E : ∀ (Z : JCX) (t2 m : Nat) (κ1 : Int) (F9 : PF) (G9 : PG) (Fy : PF) (Gy : PG), jV Z p N K n q nf t2 m F9 G9 Fy Gy → jW X Z p N i m (-1) κ1 [] [] [] [] Fc Gc Fm Gm F9 G9 Fy Gy → κ1 ≤ 7 → i < m → (Fy 15 = Fm 15 ∧ Fy 51 = Fm 51 ∧ Fy 63 = Fm 63 ∧ Fy 64 = Fm 64) → JP (cb_X4_forStatement_279 fu (cS2 fu dc) a b F9 G9) (mb_counted_236 fu (mS2 fu dm) x1 Fy Gy) Q) : JP (cb_X4_forStatement_217 fu (cS2 fu dc) a b x5 x7 F5 G5) (mb_counted_184 fu (mS2 fu dm) x1 x3 y5 F6 G6) Q := by
  obtain ⟨⟨p1, p2⟩, ⟨p3, p4⟩, p5, p6⟩ := kp
  unfold cb_X4_forStatement_217 mb_counted_184
  refine JP.both (ih dc t1 k y5 Y F5 G5 F6 G6 V3 ?_ ?_ ?_) ?_
  · rw [p1]
    omega
  · have := V0.2.2.1.2.2
    rw [p2]
    omega
  · have y1 := W3.2.2.2.2.1
    rw [W3.2.1.2.2 6 rfl]
    omega
  · rintro r7 F7 G7 r8 F8 G8 (⟨rfl, Z, t2, m, LB, LC, Fd, Gd, V4, W4, ⟨b1, b2, b3⟩, b4, ⟨kd, d65, d63, d64⟩, -, g8, bL⟩ | h)
    · dsimp only
      have W : jW X Z p N i m (-1) (κ + 1) [] [] (LB ++ (LC ++ l0)) ls Fc Gc Fm Gm F7 G7 Fd Gd := ((W3.tr W4).pm (List.Perm.of_eq (by simp))).ca (by omega) (by omega)
      unfold mb_counted_190
      rw [if_neg i10n]
      unfold cb_X4_forStatement_221 cb_X4_forStatement_232 cb_X4_forStatement_245 cb_X4_forStatement_261 mb_counted_195
      refine jb_lend (kc := fun F G => cb_X4_forStatement_279 fu (cS2 fu dc) a b F G) (km := fun F G => mb_counted_236 fu (mS2 fu dm) x1 F G) (Rx := fun F G => mb_counted_210 fu (mS2 fu dm) x1 x3 (F8 65) 0 F G) (chv := F8 65) (lo := wN F5) (ls := ls) (tt := tt) (ww := ww) V0 V4 W (by omega) (by omega) (bL.tr le) (fun z y hy => Nat.le_trans (W3.lab z hl) ((W4.hol z).2 y (List.mem_append_right _ hy)).1.1) hl ew et b4 kd (g8 ny) d65 ?_ ?_ ?_
      · rcases hl0 with ⟨y1, y2, -⟩ | ⟨x0, y1, y2, y3, y4, -⟩
        · exact .inl ⟨y1, y2⟩
        · exact .inr ⟨x0, y1, y2, y3, y4⟩
      · intro a' F G h
        unfold mb_counted_210
        rcases hl0 with ⟨y1, -, y2⟩ | ⟨x0, y1, -, -, -, y2, y3⟩
        · subst y1
          rw [if_pos y2]
          unfold mb_counted_226
          exact h
        · subst y1
          rw [if_neg y2]
          unfold mb_counted_216 mb_counted_226
          refine JP.ixR (fun _ => ?_)
          rw [y3]
          exact h
      · intro F9 G9 Fy Gy V9 W9 k9 ky
        refine E Z t2 m (κ + 1 + 2) F9 G9 Fy Gy V9 W9.fo (by omega) (by omega) ⟨?_, ?_, ?_, ?_⟩
        · rw [ky.1 15 rfl, kd.1 15 rfl, b1, p1]
        · rw [ky.1 51 rfl, kd.1 51 rfl, b2, p2]
        · rw [ky.1 63 rfl, d63, p3]
        · rw [ky.1 64 rfl, d64, p4]
    · dsimp only
      exact JP.fin (kqj_X4_forStatement_221 _ (kqS2 dc) _ _ _ _ F7 G7 CFS.rf) (nqj_counted_190 _ (nqS2 dm) _ _ _ _ F8 G8 MFS.rf) h hQ
/-- the end of a for's head -/
theorem jf_close {dm dc : Nat} {Q : Int32 → PF → PG → Int32 → PF → PG → Prop} (ih : jPbd fu p N K n q nf dm) (hQ : ∀ (r1 : Int32) (F1 : PF) (G1 : PG) (r2 : Int32) (F2 : PF) (G2 : PG), jEnd F1 F2 → Q r1 F1 G1 r2 F2 G2) (V0 : jV X p N K n q nf t i Fc Gc Fm Gm) (sl : (Fc 6).toInt + 7 ≤ 2 * (Gm 6 i).toInt + 100) (h10 : 2 ≤ (Fc 10).toInt) (he : (Fm 15).toInt + 2 ≤ 4 * (i : Int) + 1) (le : jLe Y.2.2.1 X.2.2.1) (V : jV Y p N K n q nf t1 k F5 G5 F6 G6) (W : jW X Y p N i k 0 κ [] [] (xe :: l0) ls Fc Gc Fm Gm F5 G5 F6 G6) (hκ : κ ≤ 4) (hik : i < k) (kp : jKp Fc Fm F5 F6) (hl : (tt, ww, []) ∈ ls) (hq : (tq, wq, []) ∈ ls) (ew : p = 1 → x7 = nI ww) (et : p = 1 → y5 = nI tt) (ny : ¬ y5 = -1) (eq : p = 1 → x4 = nI wq) (er : p = 1 → x2 = nI tq) (he1 : xe.2.2.1 = [] ∧ xe.2.2.2.1 ≤ 1 ∧ xe.2.2.2.2.2 = -1) (he2 : p = 0 → x6 = -1) (he3 : p = 1 → x6 = nI xe.2.1) (he4 : y4.toNatClampNeg = xe.1) (hl0 : jEx p l0 x5 x3) (E : ∀ (Z : JCX) (t2 m : Nat) (κ1 : Int) (F9 : PF) (G9 : PG) (Fy : PF) (Gy : PG), jV Z p N K n q nf t2 m F9 G9 Fy Gy → jW X Z p N i m (-1) κ1 [] [] [] [] Fc Gc Fm Gm F9 G9 Fy Gy → κ1 ≤ 7 → i < m → (Fy 15 = Fm 15 ∧ Fy 51 = Fm 51 ∧ Fy 63 = Fm 63 ∧ Fy 64 = Fm 64) → JP (cb_X4_forStatement_279 fu (cS2 fu dc) a b F9 G9) (mb_counted_236 fu (mS2 fu dm) x1 Fy Gy) Q) : JP (cb_X4_forStatement_181 fu (cS2 fu dc) a b x4 x5 x6 x7 F5 G5) (mb_counted_153 fu (mS2 fu dm) x1 x2 x3 y4 y5 F6 G6) Q := by
  have D := V.1.2.1
  have hY := V.2.1.1
  have hp := V.1.1.2.1
  unfold cb_X4_forStatement_181 mb_counted_153
  refine JP.L (cp_wpair 84 x4 G5 (W.room V0 D (by omega))) ?_
  rintro ra Fa Ga c1
  dsimp only
  unfold cb_X4_forStatement_192
  have T1 : TKE N K n Fa Ga F6 G6 := V.1.1.1.keep (c1.1.1 93 rfl) (c1.1.2 90 rfl) (c1.1.2 91 rfl) (c1.1.2 92 rfl) rfl rfl rfl rfl rfl
  have C1 : CU N k Fa Ga F6 G6 := D.1.kx c1.1 rfl rfl
  refine JP.both (jo_close T1 C1 (by have := W.2.2.2.1; rw [c1.1.1 10 rfl]; omega) (w := 23) (by decide) (by decide) (by decide)) ?_
  rintro r5 Fb Gb r6 Fe Ge (⟨rfl, hy, o⟩ | o)
  · dsimp only
    have lk : k < N := D.1.ltS V.1.1.1 hy
    unfold mb_counted_159
    rw [if_neg i10n]
    unfold cb_X4_forStatement_201 mb_counted_164
    refine JP.R (mp_em 12 x2 0 Fe Ge) ?_
    rintro rb Fh Gh ⟨-, -, m2, -⟩
    dsimp only
    obtain ⟨Wb, Db⟩ := W.wo (l := 1) (s2 := []) (hs1 := xe :: l0) (ls1 := ls) V.1.1 D lk (V.1.1.t1 lk) c1 o m2 (fun z z7 mu A J => by
      obtain ⟨w1, w2, w3, w4, w5, w6⟩ := wo_f c1 o m2 z7 D.2.2.2.1 D.2.2.2.2.1
      exact JX.goL hY J hq w1 w2 w3 w4 w5.1 (w5.2.1.trans (er z)) (w6 0 84 rfl) ((w6 1 _ rfl).trans (eq z)))
    have Wb' : jW X Y p N i (k + 1) (-1) κ [] [] (xe :: l0) ls Fc Gc Fm Gm Fb Gb Fh Gh := Wb.ca (by omega) (by show κ + ((2 : Nat) : Int) - 2 * ((1 : Nat) : Int) ≤ κ; omega)
    obtain ⟨-, -, kc, km, -⟩ := D.wo V.1.1 lk c1 o m2
    have Vb : jV Y p N K n q nf t1 (k + 1) Fb Gb Fh Gh := by
      refine V.mv (KX.tr KX.rf kc rfl rfl) (KX.tr KX.rf km rfl rfl) ?_ ?_ (V.2.1.2.2.kx kc rfl) Db ?_ (Nat.le_succ _)
      · rw [kc.1 46 rfl]; exact V.x0
      · rw [km.1 54 rfl]; exact V.2.1.2.1
      · rw [W.2.1.2.2 6 rfl]
        exact Wb'.rmS sl (by omega)
    have kp' : jKp Fc Fm Fb Fh := by
      unfold jKp at kp ⊢
      rw [km.1 15 rfl, km.1 51 rfl, km.1 63 rfl, km.1 64 rfl, kc.1 30 rfl, kc.1 31 rfl]
      exact kp
    refine JP.L (jw_aim hp Wb' (x := xe) (by simp) ⟨Db.2.2.2.1, Wb'.cap V0 Db (by omega)⟩ he2 he3 he1.2.2) ?_
    rintro re Fi Gi ⟨rfl, g0, g1⟩
    dsimp only
    unfold mb_counted_172
    refine JP.ixR (fun _ => ?_)
    rw [he4]
    have W7 := jW.pt1 (l1 := []) (l2 := l0) (x := xe) (k := xe.1) le hY hp Wb' Db ⟨he1.2.1, he1.1⟩ rfl g0 g1
    have V7 := Vb.gg (g5z (F := Fb) hp g0 g1) (g57 (k := xe.1) (v := Fh 60))
    exact jf_loop ih hQ V0 sl h10 he le V7 W7 hκ (by omega) kp' hl ew et ny hl0 E
  · dsimp only
    exact JP.fin (kqj_X4_forStatement_201 _ (kqS2 dc) _ _ _ _ _ Fb Gb CFS.rf) (nqj_counted_159 _ (nqS2 dm) _ _ _ _ _ _ Fe Ge MFS.rf) (.inr o) hQ
/-- from a for's second ; -/
theorem jf_more {dm dc : Nat} {Q : Int32 → PF → PG → Int32 → PF → PG → Prop} (ih : jPbd fu p N K n q nf dm) (hQ : ∀ (r1 : Int32) (F1 : PF) (G1 : PG) (r2 : Int32) (F2 : PF) (G2 : PG), jEnd F1 F2 → Q r1 F1 G1 r2 F2 G2) (V0 : jV X p N K n q nf t i Fc Gc Fm Gm) (sl : (Fc 6).toInt + 7 ≤ 2 * (Gm 6 i).toInt + 100) (h10 : 2 ≤ (Fc 10).toInt) (he : (Fm 15).toInt + 2 ≤ 4 * (i : Int) + 1) (le : jLe Y.2.2.1 X.2.2.1) (V : jV Y p N K n q nf t1 k F5 G5 F6 G6) (W : jW X Y p N i k 0 κ [] [] l0 ls Fc Gc Fm Gm F5 G5 F6 G6) (hκ : κ ≤ 3) (hik : i < k) (kp : jKp Fc Fm F5 F6) (hq : (tq, wq, []) ∈ ls) (eq : p = 1 → x4 = nI wq) (er : p = 1 → x2 = nI tq) (hl0 : jEx p l0 x5 x3) (E : ∀ (Z : JCX) (t2 m : Nat) (κ1 : Int) (F9 : PF) (G9 : PG) (Fy : PF) (Gy : PG), jV Z p N K n q nf t2 m F9 G9 Fy Gy → jW X Z p N i m (-1) κ1 [] [] [] [] Fc Gc Fm Gm F9 G9 Fy Gy → κ1 ≤ 7 → i < m → (Fy 15 = Fm 15 ∧ Fy 51 = Fm 51 ∧ Fy 63 = Fm 63 ∧ Fy 64 = Fm 64) → JP (cb_X4_forStatement_279 fu (cS2 fu dc) a b F9 G9) (mb_counted_236 fu (mS2 fu dm) x1 Fy Gy) Q) : JP (cb_X4_forStatement_135 fu (cS2 fu dc) a b x4 x5 F5 G5) (mb_counted_108 fu (mS2 fu dm) x1 x2 x3 F6 G6) Q := by
  have D := V.1.2.1
  have hY := V.2.1.1
  unfold cb_X4_forStatement_135 mb_counted_108
  refine JP.both (jo_sign V.1.1.1 D.1 (w := 29) (by decide) (by decide) (by decide)) ?_
  rintro r1 Fa Ga r2 Fb Gb (⟨rfl, hz, o⟩ | o)
  · dsimp only
    have lk := D.1.ltS V.1.1.1 hz
    have e5 := jAl.on (X := Y) (p := p) (s := []) V.1.1 D lk (V.1.1.t1 lk) o
    have V5 := V.al e5 (by omega)
    have W5 := W.tr (jW.al e5)
    unfold mb_counted_114
    rw [if_neg i10n]
    unfold cb_X4_forStatement_144 mb_counted_119
    refine JP.L (cp_wjump 84 (-1) Ga (W5.room V0 V5.1.2.1 (by omega))) ?_
    rintro rc Fe Ge ⟨c4, c5, c6⟩
    dsimp only
    refine JP.R (mp_em 12 0 0 Fb Gb) ?_
    rintro rd Fh Gh ⟨m4, m5, m6, m7⟩
    dsimp only
    have e6 : jAl Y p N (k + 1) (k + 1) 0 2 [] [] [(sN Fb, wN Fa + 1, [], 0, 0, -1)] Fa Ga Fb Gb Fe Ge Fh Gh := jAl.jm V5.1.h7.1 V5.1.h7.2 V5.1.2.1 c4 m6 (.inl ⟨rfl, rfl, rfl, rfl⟩)
    have V6 := V.al (e5.tr e6) (by omega)
    have D6 := V6.1.2.1
    generalize hxe : ((sN Fb, wN Fa + 1, [], 0, 0, -1) : JHO) = xe at e6
    have xe1 : xe.1 = sN Fb := by rw [← hxe]
    have xe2 : xe.2.1 = wN Fa + 1 := by rw [← hxe]
    have xe3 : xe.2.2.1 = [] ∧ xe.2.2.2.1 ≤ 1 ∧ xe.2.2.2.2.2 = -1 := by rw [← hxe]; exact ⟨rfl, Nat.zero_le _, rfl⟩
    have W6 : jW X Y p N i (k + 1) 0 κ [] [] (xe :: l0) ((sN Fh, wN Fe, []) :: ls) Fc Gc Fm Gm Fe Ge Fh Gh := (((W5.tr (jW.al e6)).la).pm (List.Perm.refl _)).ca (by omega) (by omega)
    have kp6 := kp.al (e5.tr e6)
    have t6 : Fe 6 = nI (wN Fe) := (jnI D6.2.2.2.1).symm
    have t60 : Fh 60 = nI (sN Fh) := (jnI D6.2.2.2.2.1).symm
    have ny : ¬ Fh 60 = -1 := by rw [t60]; exact nI_n1 (sN_lt Fh)
    have q0 : p = 0 → rc = -1 := fun z => c5 (by rw [V5.1.1.2.2.1.2.2, z])
    have q1 : p = 1 → rc = nI xe.2.1 := fun z => by rw [xe2]; exact c6 (by rw [V5.1.1.2.2.1.2.2, z])
    have rn : rd.toNatClampNeg = xe.1 := by rw [m4, xe1]
    have sg := V6.1.sg (w := 23) (a := 20) (b := 23) (by decide) (by decide) (by decide)
    unfold cb_X4_forStatement_154 mb_counted_127
    refine JP.isS (fun h => ?_) (fun h => ?_)
    · rw [if_pos (sg.mpr h)]
      dsimp only
      unfold mb_counted_141
      rw [if_neg i10n]
      exact jf_close ih hQ V0 sl h10 he le V6 W6 (by omega) (by omega) kp6 (List.mem_cons_self ..) (List.mem_cons_of_mem _ hq) (fun _ => t6) (fun _ => t60) ny eq er xe3 q0 q1 rn hl0 E
    · rw [if_neg (fun z => by rw [sg.mp z] at h; cases h)]
      dsimp only
      unfold mb_counted_141
      rw [if_pos rfl]
      unfold cb_X4_forStatement_177 mb_counted_144
      refine JP.both (js_simple V6) ?_
      rintro r7 F7 G7 r8 F8 G8 (⟨rfl, m, h1⟩ | h1)
      · dsimp only
        have W7 : jW X Y p N i m 0 (κ + 1) [] [] (xe :: l0) ((sN Fh, wN Fe, []) :: ls) Fc Gc Fm Gm F7 G7 F8 G8 := ((W6.tr (jW.al h1)).pm (List.Perm.refl _)).ca (by omega) (by omega)
        have V7 := V6.alr h1 (by rw [W6.2.1.2.2 6 rfl]; exact W7.rmS sl (by omega))
        have km : k + 1 ≤ m := h1.2.2.1.1
        unfold mb_counted_148
        rw [if_neg i10n]
        exact jf_close ih hQ V0 sl h10 he le V7 W7 (by omega) (by omega) (kp6.al h1) (List.mem_cons_self ..) (List.mem_cons_of_mem _ hq) (fun _ => t6) (fun _ => t60) ny eq er xe3 q0 q1 rn hl0 E
      · dsimp only
        exact JP.fin (kqj_X4_forStatement_181 _ (kqS2 dc) _ _ _ _ _ _ F7 G7 CFS.rf) (nqj_counted_148 _ (nqS2 dm) _ _ _ _ _ _ F8 G8 MFS.rf) h1 hQ
  · dsimp only
    exact JP.fin (kqj_X4_forStatement_144 _ (kqS2 dc) _ _ _ _ Fa Ga CFS.rf) (nqj_counted_114 _ (nqS2 dm) _ _ _ _ Fb Gb MFS.rf) (.inr o) hQ
/-- from a for's first ; -/
theorem jf_test {dm dc : Nat} {Q : Int32 → PF → PG → Int32 → PF → PG → Prop} (ih : jPbd fu p N K n q nf dm) (hQ : ∀ (r1 : Int32) (F1 : PF) (G1 : PG) (r2 : Int32) (F2 : PF) (G2 : PG), jEnd F1 F2 → Q r1 F1 G1 r2 F2 G2) (V0 : jV X p N K n q nf t i Fc Gc Fm Gm) (sl : (Fc 6).toInt + 7 ≤ 2 * (Gm 6 i).toInt + 100) (h10 : 2 ≤ (Fc 10).toInt) (he : (Fm 15).toInt + 2 ≤ 4 * (i : Int) + 1) (le : jLe Y.2.2.1 X.2.2.1) (V : jV Y p N K n q nf t1 k F1 G1 F2 G2) (W : jW X Y p N i k 0 κ [] [] [] [] Fc Gc Fm Gm F1 G1 F2 G2) (hκ : κ ≤ 3) (hik : i ≤ k) (kp : jKp Fc Fm F1 F2) (E : ∀ (Z : JCX) (t2 m : Nat) (κ1 : Int) (F9 : PF) (G9 : PG) (Fy : PF) (Gy : PG), jV Z p N K n q nf t2 m F9 G9 Fy Gy → jW X Z p N i m (-1) κ1 [] [] [] [] Fc Gc Fm Gm F9 G9 Fy Gy → κ1 ≤ 7 → i < m → (Fy 15 = Fm 15 ∧ Fy 51 = Fm 51 ∧ Fy 63 = Fm 63 ∧ Fy 64 = Fm 64) → JP (cb_X4_forStatement_279 fu (cS2 fu dc) a b F9 G9) (mb_counted_236 fu (mS2 fu dm) x1 Fy Gy) Q) : JP (cb_X4_forStatement_83 fu (cS2 fu dc) a b F1 G1) (mb_counted_63 fu (mS2 fu dm) x1 F2 G2) Q := by
  unfold cb_X4_forStatement_83 mb_counted_63
  refine JP.both (jo_sign V.1.1.1 V.1.2.1.1 (w := 29) (by decide) (by decide) (by decide)) ?_
  rintro r1 F5 G5 r2 F6 G6 (⟨rfl, hz, o⟩ | o)
  · dsimp only
    have lk := V.1.2.1.1.ltS V.1.1.1 hz
    have e5 := jAl.on (X := Y) (p := p) (s := []) V.1.1 V.1.2.1 lk (V.1.1.t1 lk) o
    have V5 := V.al e5 (by omega)
    have D5 := V5.1.2.1
    have W5 : jW X Y p N i (k + 1) 0 (κ - 2) [] [] [] [(sN F6, wN F5, [])] Fc Gc Fm Gm F5 G5 F6 G6 := (((W.tr (jW.al e5)).la).pm (List.Perm.refl _)).ca (by omega) (by omega)
    have kp5 := kp.al e5
    have t6 : F5 6 = nI (wN F5) := (jnI D5.2.2.2.1).symm
    have t60 : F6 60 = nI (sN F6) := (jnI D5.2.2.2.2.1).symm
    have sg := V5.1.sg (w := 29) (a := 26) (b := 29) (by decide) (by decide) (by decide)
    unfold mb_counted_69
    rw [if_neg i10n]
    unfold cb_X4_forStatement_92 mb_counted_74
    refine JP.isS (fun h => ?_) (fun h => ?_)
    · rw [if_pos (sg.mpr h)]
      dsimp only
      unfold mb_counted_87
      rw [if_neg i10n]
      exact jf_more ih hQ V0 sl h10 he le V5 W5 (by omega) (by omega) kp5 (List.mem_cons_self ..) (fun _ => t6) (fun _ => t60) (.inl ⟨rfl, rfl, rfl⟩) E
    · rw [if_neg (fun z => by rw [sg.mp z] at h; cases h)]
      dsimp only
      unfold mb_counted_87
      rw [if_pos rfl]
      unfold cb_X4_forStatement_116 mb_counted_90 cf_X3_expression mf_expression
      refine JP.both (jPx_all 300 300 (k + 1) [] F5 G5 F6 G6 V5.1) ?_
      rintro r3 F3 G3 r4 F4 G4 (⟨rfl, j, h1⟩ | h1)
      · dsimp only
        have V6 := V5.al h1 (Int.le_refl _)
        have kj : k + 1 ≤ j := h1.2.2.1.1
        have W6 := W5.tr (jW.al h1)
        unfold mb_counted_94
        rw [if_neg i10n]
        unfold cb_X4_forStatement_123 mb_counted_99
        refine JP.L (cp_wjump 86 (-1) G3 (W6.room V0 V6.1.2.1 (by omega))) ?_
        rintro ra Fa Ga ⟨c1, c2, c3⟩
        dsimp only
        refine JP.R (mp_em 13 0 0 F4 G4) ?_
        rintro rb Fb Gb ⟨m0, m1, m2, m3⟩
        dsimp only
        have e1 : jAl Y p N j j 0 2 [0] [] [(sN F4, wN F3 + 1, [], 1, 0, -1)] F3 G3 F4 G4 Fa Ga Fb Gb := jAl.jm V6.1.h7.1 V6.1.h7.2 V6.1.2.1 c1 m2 (.inr ⟨rfl, .inl ⟨rfl, rfl, rfl, rfl⟩⟩)
        generalize hx0 : ((sN F4, wN F3 + 1, [], 1, 0, -1) : JHO) = x0 at e1
        have x01 : x0.1 = sN F4 := by rw [← hx0]
        have x02 : x0.2.1 = wN F3 + 1 := by rw [← hx0]
        have x03 : x0.2.2.1 = [] ∧ x0.2.2.2.1 ≤ 1 ∧ x0.2.2.2.2.2 = -1 := by rw [← hx0]; exact ⟨rfl, Nat.le_refl _, rfl⟩
        have W7 : jW X Y p N i j 0 κ [] [] [x0] [(sN F6, wN F5, [])] Fc Gc Fm Gm Fa Ga Fb Gb := ((W6.tr (jW.al e1)).pm (List.Perm.refl _)).ca (by omega) (by omega)
        have V7 := V6.alr e1 (by rw [W6.2.1.2.2 6 rfl]; exact W7.rmS sl (by omega))
        unfold cb_X4_forStatement_133 mb_counted_107
        refine jf_more ih hQ V0 sl h10 he le V7 W7 (by omega) (by omega) ((kp5.al h1).al e1) (List.mem_cons_self ..) (fun _ => t6) (fun _ => t60) (.inr ⟨x0, rfl, x03, fun z => c2 (by rw [V6.1.1.2.2.1.2.2, z]), fun z => by rw [x02]; exact c3 (by rw [V6.1.1.2.2.1.2.2, z]), ?_, by rw [m0, x01]⟩) E
        intro z
        rw [m0] at z
        have := m1.2
        rw [z] at this
        exact absurd this (by decide)
      · dsimp only
        exact JP.fin (kqj_X4_forStatement_123 _ (kqS2 dc) _ _ _ F3 G3 CFS.rf) (nqj_counted_94 _ (nqS2 dm) _ _ _ F4 G4 MFS.rf) h1 hQ
  · dsimp only
    exact JP.fin (kqj_X4_forStatement_92 _ (kqS2 dc) _ _ F5 G5 CFS.rf) (nqj_counted_69 _ (nqS2 dm) _ _ F6 G6 MFS.rf) (.inr o) hQ
end JW9J
