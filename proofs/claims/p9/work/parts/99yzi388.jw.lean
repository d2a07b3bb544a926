/-- what is set: the class's symbol, the reference's cell, byte and own -/
def jTg (p : Int32) (q t : Nat) (sym x4 x6 x7 x8 : Int32) (kk : Nat) (Gc Gm : PG) : Prop := (x4 = 0 ∨ x4 = 1) ∧ (kk = 1 ∨ kk = 2) ∧ (p = 1 → ∃ e : Nat, e < t ∧ sym = nI (q + e) ∧ ((x4 = 0 ∧ Gm 17 e = 1 ∧ x8 = Gm 20 e ∧ ((x7 = 0 ∧ Gm 23 e = 0) ∨ (¬ x7 = 0 ∧ ¬ Gm 23 e = 0))) ∨ (x4 = 1 ∧ Gm 17 e = 2 ∧ Gc 35 (q + e) = nI (kk + 1) ∧ ((kk = 1 ∧ x6 = 0) ∨ (kk = 2 ∧ ¬ x6 = 0)))))
theorem jTg.kx {p : Int32} {q t : Nat} {sym x4 x6 x7 x8 : Int32} {kk : Nat} {Gc Gm G1 G2 : PG} (h : jTg p q t sym x4 x6 x7 x8 kk Gc Gm) (e1 : G1 35 = Gc 35) (e2 : G2 17 = Gm 17) (e3 : G2 20 = Gm 20) (e4 : G2 23 = Gm 23) : jTg p q t sym x4 x6 x7 x8 kk G1 G2 := by
  unfold jTg
  rw [e1, e2, e3, e4]
  exact h
def jsT (x4 : Int32) (kk : Nat) : SH := if x4 = 0 then [] else [kk]
section JW8
variable {fu : Nat} {X : JCX} {p : Int32} {N K n q nf t i j kk : Nat} {sym x4 x6 x7 x8 : Int32} {Fc Fm : PF} {Gc Gm : PG}
theorem jO.sv {e : Nat} {s : SH} {a b wd mg : Int32} {c : Nat → Int32} (hX : X.1 = false) (n2 : Gc 34 (q + e) = Gm 19 e) (n6 : jEN X.2.1 X.2.2.1 (Gc 35 (q + e)) (Gc 37 (q + e)) (Gc 38 (q + e)) (Gm 19 e) (Gm 17 e) (Gm 20 e) (Gm 21 e) (Gm 22 e) (Gm 23 e)) (n17 : Gm 17 e = 1) (u1 : a = (if Gc 34 (q + e) = 0 then 71 else 72)) (u2 : b = Gc 37 (q + e)) (hw : (Gm 23 e = 0 ∧ wd = 4) ∨ (¬ Gm 23 e = 0 ∧ wd = 2)) (c0 : c 0 = a) (c1 : c 1 = b) : jO X wd (Gm 20 e) 0 mg c (0 :: s) s 2 := by
  rcases n6 with ⟨v1, v2, v3, -⟩ | ⟨v1, v2, v3, v4⟩ | ⟨κ, -, -, v2, -⟩
  · rw [n17] at v2
    exact absurd v2 (by decide)
  · rw [n2] at u1
    refine .inr (.inr (.inr (.inr ⟨hX, ?_⟩)))
    rcases v4 with ⟨y1, y2, pp, o, y3, y4, y5⟩ | ⟨y1, y2, pp, o, y3, y4, y5⟩
    · rw [if_pos y1] at u1
      rcases hw with ⟨w1, w2⟩ | ⟨w1, -⟩
      · exact .inr (.inr (.inr (.inl ⟨w2, rfl, rfl, c0.trans u1, pp, o, y3, y4, c1.trans (u2.trans y5)⟩)))
      · exact absurd y2 w1
    · rw [if_neg y1] at u1
      rcases hw with ⟨w1, -⟩ | ⟨w1, w2⟩
      · rw [y2] at w1
        exact absurd w1 (by decide)
      · exact .inr (.inl ⟨w2, rfl, rfl, c0.trans u1, pp, o, y3, y4, c1.trans (u2.trans y5)⟩)
  · rw [n17] at v2
    exact absurd v2 (by decide)
/-- the value goes to its place -/
theorem js_put (S : jS X p N K n q nf t Fc Gc Fm Gm) (D : jD N i Fc Gc Fm Gm) (hX : X.1 = false) (tg : jTg p q t sym x4 x6 x7 x8 kk Gc Gm) (rm : jRm 2 Fc) : JP (cb_X4_simple_229 fu sym x4 Fc Gc) (mb_simple_584 fu x4 x6 x7 x8 Fm Gm) (fun _ F1 G1 r2 F2 G2 => r2 = 1 ∧ jAl X p N i i 0 (if x4 = 0 then 2 else 1) (0 :: jsT x4 kk) [] [] Fc Gc Fm Gm F1 G1 F2 G2) := by
  have h7 : (Fc 7 = 0 ∨ Fc 7 = 1) ∧ (p = 1 → Fc 7 = 1) := by
    rw [S.2.2.1.2.2]
    exact ⟨S.2.1, id⟩
  have rm1 : jRm 1 Fc := by
    rcases rm with h | ⟨h1, h2, h3⟩
    · exact .inl h
    · exact .inr ⟨h1, h2, by omega⟩
  obtain ⟨t0, tk, t1⟩ := id tg
  unfold cb_X4_simple_229 mb_simple_584
  rcases t0 with z | z
  · rw [if_pos z, if_pos z]
    have es : jsT x4 kk = [] := if_pos z
    rw [es]
    unfold cb_X4_simple_245
    refine JP.L (cp_store sym rm) ?_
    rintro r F1 G1 ⟨a, b, c1, cx⟩
    dsimp only
    unfold cb_X4_simple_253
    have fin : ∀ wd : Int32, (p = 1 → ∃ e : Nat, e < t ∧ sym = nI (q + e) ∧ Gm 17 e = 1 ∧ x8 = Gm 20 e ∧ ((Gm 23 e = 0 ∧ wd = 4) ∨ (¬ Gm 23 e = 0 ∧ wd = 2))) → JP (some (0, F1, G1)) (mb_simple_621 fu x8 wd Fm Gm) (fun _ F1 G1 r2 F2 G2 => r2 = 1 ∧ jAl X p N i i 0 (if x4 = 0 then 2 else 1) [0] [] [] Fc Gc Fm Gm F1 G1 F2 G2) := by
      intro wd hw
      unfold mb_simple_621
      refine JP.R (mp_em wd x8 0 Fm Gm) ?_
      rintro r6 F6 G6 ⟨-, -, m2, -⟩
      dsimp only
      unfold mb_simple_627 mb_simple_628
      rw [if_pos z]
      refine JP.ret ⟨rfl, jAl.em (ws := [a, b]) h7.1 h7.2 D c1 m2 (fun z1 => ?_)⟩
      obtain ⟨e, e1, e2, e3, e4, e5⟩ := hw z1
      obtain ⟨-, g2, g3, -⟩ := S.2.2.2.2.2 z1
      obtain ⟨h1, h2, h3, h4, h5, h6⟩ := g3.2.2.2.2.2 e e1
      obtain ⟨u1, u2⟩ := cx (q + e) (q + t) (by have := g3.2.1; omega) (by have := g3.2.2.1; omega) (by omega) e2
      rw [e4]
      exact jO.sv hX h2 h6 e3 u1 u2 e5 ((c1.2.2 (h7.2 z1)).2.2 0 a rfl) ((c1.2.2 (h7.2 z1)).2.2 1 b rfl)
    have sel : ∀ wd : Int32, ((x7 = 0 ∧ wd = 4) ∨ (¬ x7 = 0 ∧ wd = 2)) → (p = 1 → ∃ e : Nat, e < t ∧ sym = nI (q + e) ∧ Gm 17 e = 1 ∧ x8 = Gm 20 e ∧ ((Gm 23 e = 0 ∧ wd = 4) ∨ (¬ Gm 23 e = 0 ∧ wd = 2))) := by
      intro wd hw z1
      obtain ⟨e, e1, e2, e3⟩ := t1 z1
      rcases e3 with ⟨-, e4, e5, e6⟩ | ⟨e4, -⟩
      · refine ⟨e, e1, e2, e4, e5, ?_⟩
        rcases e6 with ⟨y1, y2⟩ | ⟨y1, y2⟩
        · rcases hw with ⟨-, w⟩ | ⟨w, -⟩
          · exact .inl ⟨y2, w⟩
          · exact absurd y1 w
        · rcases hw with ⟨w, -⟩ | ⟨-, w⟩
          · exact absurd w y1
          · exact .inr ⟨y2, w⟩
      · rw [z] at e4
        exact absurd e4 (by decide)
    unfold mb_simple_610 mb_simple_620 mb_simple_616
    exact JP.iteR (fun y => fin 4 (sel 4 (.inl ⟨y, rfl⟩))) (fun y => fin 2 (sel 2 (.inr ⟨y, rfl⟩)))
  · have z0 : ¬ x4 = 0 := by rw [z]; decide
    rw [if_neg z0, if_neg z0]
    have es : jsT x4 kk = [kk] := if_neg z0
    rw [es]
    unfold cb_X4_simple_234
    refine JP.L (cp_keep sym rm1) ?_
    rintro r F1 G1 ⟨a, c1, cx⟩
    dsimp only
    unfold cb_X4_simple_242 cb_X4_simple_253
    have fin : ∀ wd : Int32, ((x6 = 0 ∧ wd = 0) ∨ (¬ x6 = 0 ∧ wd = 1)) → JP (some (0, F1, G1)) (mb_simple_602 fu wd 8 Fm Gm) (fun _ F1 G1 r2 F2 G2 => r2 = 1 ∧ jAl X p N i i 0 (if x4 = 0 then 2 else 1) [0, kk] [] [] Fc Gc Fm Gm F1 G1 F2 G2) := by
      intro wd hw
      unfold mb_simple_602
      refine JP.R (mp_em 8 wd 0 Fm Gm) ?_
      rintro r6 F6 G6 ⟨-, -, m2, -⟩
      dsimp only
      unfold mb_simple_606 mb_simple_628
      rw [if_neg z0]
      refine JP.ret ⟨rfl, jAl.em (ws := [a]) h7.1 h7.2 D c1 m2 (fun z1 => ?_)⟩
      obtain ⟨e, e1, e2, e3⟩ := t1 z1
      obtain ⟨-, g2, g3, -⟩ := S.2.2.2.2.2 z1
      have u1 := cx (q + e) (q + t) (by have := g3.2.1; omega) (by have := g3.2.2.1; omega) (by omega) e2
      rcases e3 with ⟨e4, -⟩ | ⟨-, -, e4, e5⟩
      · exact absurd e4 z0
      · have c0 : G1 5 (wN Fc + 0) = a := (c1.2.2 (h7.2 z1)).2.2 0 a rfl
        refine .inr (.inr (.inr (.inr ⟨hX, .inr (.inr (.inr (.inr (.inr (.inr (.inr (.inl ⟨rfl, rfl, kk, tk, rfl, ?_, ?_⟩)))))))⟩)))
        · rcases e5 with ⟨y1, y2⟩ | ⟨y1, y2⟩
          · rcases hw with ⟨-, w⟩ | ⟨w, -⟩
            · rw [w, y1]
              rfl
            · exact absurd y2 w
          · rcases hw with ⟨w, -⟩ | ⟨-, w⟩
            · exact absurd w y2
            · rw [w, y1]
              rfl
        · show G1 5 (wN Fc + 0) = _
          rw [c0, u1, e4]
          rcases tk with y | y
          · rw [y]
            rfl
          · rw [y]
            rfl
    unfold mb_simple_589 mb_simple_601 mb_simple_597
    exact JP.iteR (fun y => fin 0 (.inl ⟨y, rfl⟩)) (fun y => fin 1 (.inr ⟨y, rfl⟩))
/-- what is there, ahead of an operator -/
theorem js_old {x9 : Int32} {f : Int32 × PF × PG → PR} {Q : Int32 → PF → PG → Int32 → PF → PG → Prop} (I : jIn X p N K n q nf t i Fc Gc Fm Gm) (hX : X.1 = false) (tg : jTg p q t sym x4 x6 x7 x8 kk Gc Gm) (rm : jRm 2 Fc) (H : ∀ (r : Int32) (F1 : PF) (G1 : PG) (F2 : PF) (G2 : PG), jAl X p N i i 0 2 (jsT x4 kk) (0 :: jsT x4 kk) [] Fc Gc Fm Gm F1 G1 F2 G2 → JP (f (r, F1, G1)) (mb_simple_404 fu x4 x6 x7 x8 x9 F2 G2) Q) : JP ((cf_X4_oldValue fu sym x4 Fc Gc).bind f) (mb_simple_360 fu x4 x6 x7 x8 x9 Fm Gm) Q := by
  have rm1 : jRm 1 Fc := by
    rcases rm with h | ⟨h1, h2, h3⟩
    · exact .inl h
    · exact .inr ⟨h1, h2, by omega⟩
  obtain ⟨t0, tk, t1⟩ := id tg
  unfold cf_X4_oldValue cb_X4_oldValue_0 mb_simple_360
  rcases t0 with z | z
  · rw [if_pos z, if_pos z]
    have es : jsT x4 kk = [] := if_pos z
    rw [es] at H
    unfold cb_X4_oldValue_24
    rw [Option.bind_assoc]
    refine JP.L (cp_load sym rm) ?_
    rintro r F1 G1 ⟨a, b, c1, cx⟩
    dsimp only
    have fin : ∀ wd : Int32, ((x7 = 0 ∧ wd = 3) ∨ (¬ x7 = 0 ∧ wd = 1)) → JP ((cb_X4_oldValue_32 fu F1 G1).bind f) (mb_simple_397 fu x4 x6 x7 x8 x9 wd Fm Gm) Q := by
      intro wd hw
      unfold mb_simple_397
      refine JP.R (mp_em wd x8 0 Fm Gm) ?_
      rintro r6 F6 G6 ⟨-, -, m2, -⟩
      dsimp only
      unfold mb_simple_403 cb_X4_oldValue_32
      refine H 0 F1 G1 F6 G6 (jAl.em (ws := [a, b]) I.h7.1 I.h7.2 I.2.1 c1 m2 (fun z1 => ?_))
      obtain ⟨e, e1, e2, e3⟩ := t1 z1
      obtain ⟨-, g2, g3, -⟩ := I.1.2.2.2.2.2 z1
      obtain ⟨h1, h2, h3, h4, h5, h6⟩ := g3.2.2.2.2.2 e e1
      obtain ⟨u1, u2⟩ := cx (q + e) (q + t) (by have := g3.2.1; omega) (by have := g3.2.2.1; omega) (by omega) e2
      rcases e3 with ⟨-, e4, e5, e6⟩ | ⟨e4, -⟩
      · rw [e5]
        refine jO.ld rfl rfl h2 h6 (by rw [e4]; decide) (fun y => absurd (hX.symm.trans y) (by decide)) u1 u2 (.inr ⟨by rw [e4]; decide, ?_⟩) ((c1.2.2 (I.h7.2 z1)).2.2 0 a rfl) ((c1.2.2 (I.h7.2 z1)).2.2 1 b rfl)
        rcases e6 with ⟨y1, y2⟩ | ⟨y1, y2⟩
        · rcases hw with ⟨-, w⟩ | ⟨w, -⟩
          · exact .inl ⟨y2, w⟩
          · exact absurd y1 w
        · rcases hw with ⟨w, -⟩ | ⟨-, w⟩
          · exact absurd w y1
          · exact .inr ⟨y2, w⟩
      · rw [z] at e4
        exact absurd e4 (by decide)
    unfold mb_simple_386 mb_simple_396 mb_simple_392
    exact JP.iteR (fun y => fin 3 (.inl ⟨y, rfl⟩)) (fun y => fin 1 (.inr ⟨y, rfl⟩))
  · have z0 : ¬ x4 = 0 := by rw [z]; decide
    rw [if_neg z0, if_neg z0]
    have es : jsT x4 kk = [kk] := if_neg z0
    rw [es] at H
    unfold cb_X4_oldValue_4 mb_simple_365
    rw [Option.bind_assoc]
    refine JP.L (cp_wadd 67 Gc rm1) ?_
    rintro r F1 G1 c1
    dsimp only
    refine JP.R (mp_em 9 0 0 Fm Gm) ?_
    rintro r6 F6 G6 ⟨-, -, m2, -⟩
    dsimp only
    have a1 : jAl X p N i i 0 1 [kk] [kk, kk] [] Fc Gc Fm Gm F1 G1 F6 G6 := jAl.em (ws := [67]) I.h7.1 I.h7.2 I.2.1 c1 m2 (fun z1 => .inr (.inr (.inr (.inr ⟨hX, .inr (.inr (.inr (.inr (.inr (.inr (.inr (.inr (.inl ⟨rfl, rfl, (c1.2.2 (I.h7.2 z1)).2.2 0 67 rfl, kk, [], tk, rfl, rfl⟩))))))))⟩))))
    have S1 := I.1.keep a1.1.1 a1.1.2
    have h7 : F1 7 = Fc 7 := a1.1.1.1 7 rfl
    have rm2 : jRm 1 F1 := by
      rcases rm with h | ⟨h1, h2, h3⟩
      · exact .inl (h7.trans h)
      · have : (F1 6).toInt = (Fc 6).toInt + ((1 : Nat) : Int) := (c1.2.2 h1).1
        exact .inr ⟨h7.trans h1, by omega, by omega⟩
    unfold cb_X4_oldValue_13 mb_simple_373
    rw [Option.bind_assoc]
    refine JP.L (cp_fetch sym rm2) ?_
    rintro r3 F3 G3 ⟨a, c2, cx⟩
    dsimp only
    refine JP.R (mp_em 7 0 0 F6 G6) ?_
    rintro r8 F8 G8 ⟨-, -, m4, -⟩
    dsimp only
    have a2 : jAl X p N i i 0 1 [kk, kk] [0, kk] [] F1 G1 F6 G6 F3 G3 F8 G8 := by
      refine jAl.em (ws := [a]) (by rw [h7]; exact I.h7.1) (fun z1 => by rw [h7]; exact I.h7.2 z1) a1.2.1 c2 m4 (fun z1 => ?_)
      obtain ⟨e, e1, e2, e3⟩ := (tg.kx (G1 := G1) (G2 := G6) (a1.1.1.2 35 rfl) (a1.1.2.2 17 rfl) (a1.1.2.2 20 rfl) (a1.1.2.2 23 rfl)).2.2 z1
      obtain ⟨-, g2, g3, -⟩ := S1.2.2.2.2.2 z1
      have u1 := cx (q + e) (q + t) (by have := g3.2.1; omega) (by have := g3.2.2.1; omega) (by omega) e2
      rcases e3 with ⟨e4, -⟩ | ⟨-, -, e4, e5⟩
      · exact absurd e4 z0
      · have c0 : G3 5 (wN F1 + 0) = a := (c2.2.2 (by rw [h7]; exact I.h7.2 z1)).2.2 0 a rfl
        refine .inr (.inr (.inr (.inr ⟨hX, .inr (.inr (.inr (.inr (.inr (.inr (.inl ⟨rfl, rfl, kk, [kk], tk, rfl, rfl, ?_⟩))))))⟩)))
        show G3 5 (wN F1 + 0) = _
        rw [c0, u1, e4]
        rcases tk with y | y
        · rw [y]
          rfl
        · rw [y]
          rfl
    unfold cb_X4_oldValue_21 cb_X4_oldValue_32 mb_simple_382
    exact H 0 F3 G3 F8 G8 ((a1.tr a2).ca (by omega) (by omega))
/-- from the sign that sets a place on -/
theorem js_tail (I : jIn X p N K n q nf t i Fc Gc Fm Gm) (hX : X.1 = false) (tg : jTg p q t sym x4 x6 x7 x8 kk Gc Gm) : JP (cb_X4_simple_126 fu sym x4 Fc Gc) (mb_simple_246 fu x4 x6 x7 x8 Fm Gm) (fun _ F1 G1 r2 F2 G2 => (r2 = 1 ∧ ∃ j : Nat, jAl X p N i j 0 (if x4 = 0 then 3 else 2) (jsT x4 kk) [] [] Fc Gc Fm Gm F1 G1 F2 G2) ∨ jEnd F1 F2) := by
  have T := I.1.1
  have C := I.2.1.1
  have l29 : (29 : Int32).toInt = 29 := rfl
  have l42 : (42 : Int32).toInt = 42 := rfl
  have l41 : (41 : Int32).toInt = 41 := rfl
  have x4i : (if x4 = 0 then (2 : Int) else 1) + 1 = (if x4 = 0 then (3 : Int) else 2) := by
    split <;> rfl
  obtain ⟨pl0, pl1, pl2⟩ := C.place T
  -- both fail
  have bad : (Fc 11 < 29 ∨ ¬ Fc 11 ≤ 42) → JP (cb_X4_simple_126 fu sym x4 Fc Gc) (mb_simple_337 fu Fm Gm) (fun _ F1 G1 r2 F2 G2 => (r2 = 1 ∧ ∃ j : Nat, jAl X p N i j 0 (if x4 = 0 then 3 else 2) (jsT x4 kk) [] [] Fc Gc Fm Gm F1 G1 F2 G2) ∨ jEnd F1 F2) := by
    intro h
    have b149 : JP (cb_X4_simple_149 fu Fc Gc) (mb_simple_337 fu Fm Gm) (fun _ F1 G1 r2 F2 G2 => (r2 = 1 ∧ ∃ j : Nat, jAl X p N i j 0 (if x4 = 0 then 3 else 2) (jsT x4 kk) [] [] Fc Gc Fm Gm F1 G1 F2 G2) ∨ jEnd F1 F2) := by
      unfold cb_X4_simple_149 mb_simple_337
      refine JP.L (cp_fail (k := 2) (by decide) (by decide) pl0 (by omega)) ?_
      rintro r F1 G1 ⟨-, -, f1, f2⟩
      dsimp only
      refine JP.R (mp_fails 2 (by decide) Fm Gm) ?_
      rintro r2 F2 G2 ⟨-, f3⟩
      dsimp only
      exact JP.fin (kqj_X4_simple_157 F1 G1 CFS.rf) (nqj_simple_342 _ F2 G2 MFS.rf) (.inr (CU.dead f1 f2 f3.1)) (fun _ _ _ _ _ _ w => .inr w)
    unfold cb_X4_simple_126
    by_cases c : Fc 11 < 29
    · rw [if_pos c]
      exact b149
    · rw [if_neg c]
      unfold cb_X4_simple_142
      rcases h with h | h
      · exact absurd h c
      · rw [if_neg h]
        exact b149
  unfold mb_simple_246
  refine JP.ixR (fun _ => ?_)
  rw [C.ix T]
  by_cases k4 : Gm 4 i = 4
  · rw [if_pos k4]
    unfold mb_simple_259
    refine JP.ixR (fun _ => ?_)
    rw [C.ix T]
    -- the sign
    obtain ⟨w, w45, ew, ec⟩ : ∃ w : Nat, w < 45 ∧ Gm 5 i = nI w ∧ Fc 11 = kS w := by
      rcases C.tk T with ⟨-, h⟩ | ⟨-, h, -⟩
      · rcases h with ⟨h, -⟩ | ⟨h, -⟩ | ⟨h, -⟩ | ⟨h, w, h1, h2, h3⟩
        · rw [k4] at h
          exact absurd h (by decide)
        · rw [k4] at h
          exact absurd h (by decide)
        · rw [k4] at h
          exact absurd h (by decide)
        · exact ⟨w, h1, h2, h3⟩
      · rw [k4] at h
        exact absurd h (by decide)
    have li : i < N := C.lt T (by rw [k4]; decide)
    rw [ew]
    obtain ⟨cl1, cl2⟩ := si_cls w w45
    by_cases sel : jSel w
    · obtain ⟨s1, s2⟩ := cl1 sel
      obtain ⟨o1, o2, o3, o4, o5⟩ := si_one w w45 sel
      rw [si_sel sel]
      unfold cb_X4_simple_126 cb_X4_simple_142 cb_X4_simple_158 mb_simple_343
      rw [if_neg (show ¬ Fc 11 < 29 from fun z => by have := i_lt.mp z; rw [ec] at this; omega), if_pos (show Fc 11 ≤ 42 from i_le.mpr (by rw [ec]; omega))]
      refine JP.L (jo_next T C li) ?_
      rintro r F1 G1 (o | o)
      · dsimp only
        generalize eF : fup Fm 42 (Fm 42 + 1) = F2 at o ⊢
        have t1 := I.1.t1 li
        have e0 : jAl X p N i (i + 1) 0 (if w = 32 then -2 else -4) (jsT x4 kk) (jsT x4 kk) [] Fc Gc Fm Gm F1 G1 F2 Gm := by
          by_cases c : w = 32
          · rw [if_pos c]
            exact (jAl.on (w := 1) I.1 I.2.1 li t1 o).ca rfl (by omega)
          · rw [if_neg c]
            have t2 : 2 ≤ tlen (Gm 4 i) (Gm 5 i) := by
              unfold tlen
              rw [k4, if_pos rfl, ew, nI_toInt (by omega), Int.toNat_natCast]
              exact si_len w w45 sel c
            exact (jAl.on (w := 2) I.1 I.2.1 li t2 o).ca rfl (by omega)
        -- behind the value: the operator, and the place
        have fin : ∀ (j : Nat) (κ : Int) (F3 : PF) (G3 : PG) (F4 : PF) (G4 : PG), jAl X p N i j 0 κ (jsT x4 kk) (if w = 32 then 0 :: jsT x4 kk else 0 :: 0 :: jsT x4 kk) [] Fc Gc Fm Gm F3 G3 F4 G4 → (w = 32 → κ ≤ -2) → (¬ w = 32 → κ ≤ 0) → JP (cb_X4_simple_206 fu sym x4 (Fc 11) F3 G3) (mb_simple_438 fu x4 x6 x7 x8 (nI w) F4 G4) (fun _ F1 G1 r2 F2 G2 => (r2 = 1 ∧ ∃ j : Nat, jAl X p N i j 0 (if x4 = 0 then 3 else 2) (jsT x4 kk) [] [] Fc Gc Fm Gm F1 G1 F2 G2) ∨ jEnd F1 F2) := by
          intro j κ F3 G3 F4 G4 h hκ1 hκ2
          have put : ∀ (κ : Int) (F3 : PF) (G3 : PG) (F4 : PF) (G4 : PG), jAl X p N i j 0 κ (jsT x4 kk) (0 :: jsT x4 kk) [] Fc Gc Fm Gm F3 G3 F4 G4 → κ ≤ 1 → JP (cb_X4_simple_229 fu sym x4 F3 G3) (mb_simple_584 fu x4 x6 x7 x8 F4 G4) (fun _ F1 G1 r2 F2 G2 => (r2 = 1 ∧ ∃ j : Nat, jAl X p N i j 0 (if x4 = 0 then 3 else 2) (jsT x4 kk) [] [] Fc Gc Fm Gm F1 G1 F2 G2) ∨ jEnd F1 F2) := by
            intro κ F3 G3 F4 G4 h hκ
            have rm := h.room (m := 2) I.1 I.2.2 (by omega)
            have P := js_put (fu := fu) (x6 := x6) (x7 := x7) (x8 := x8) (kk := kk) (sym := sym) (x4 := x4) (I.1.keep h.1.1 h.1.2) h.2.1 hX (tg.kx (h.1.1.2 35 rfl) (h.1.2.2 17 rfl) (h.1.2.2 20 rfl) (h.1.2.2 23 rfl)) rm
            refine JP.mono P ?_
            rintro r1 F5 G5 r2 F6 G6 ⟨rfl, a⟩
            exact .inl ⟨rfl, j, (h.tr a).ca (by omega) (by rw [← x4i]; omega)⟩
          unfold cb_X4_simple_206 mb_simple_438
          by_cases c : w = 32
          · rw [if_pos c] at h
            rw [if_pos (show Fc 11 = 29 by rw [ec]; exact o2.mp c), if_pos (show nI w = 32 from o5.mpr c)]
            exact put κ F3 G3 F4 G4 h (by have := hκ1 c; omega)
          · rw [if_neg c] at h
            rw [if_neg (show ¬ Fc 11 = 29 from fun z => c (o2.mpr (ec.symm.trans z))), if_neg (show ¬ nI w = 32 from fun z => c (o5.mp z))]
            obtain ⟨op, b1, ⟨b2, b3, b4⟩, b5⟩ := si_op (fu := fu) (x4 := x4) (x6 := x6) (x7 := x7) (x8 := x8) (F := F4) (G := G4) sel c
            rw [b5]
            unfold cb_X4_simple_213 mb_simple_579
            rw [ec, b2]
            have h0 := hκ2 c
            refine JP.ixL (fun _ => JP.L (cp_wadd (kS op) G3 (h.room (m := 1) I.1 I.2.2 (by omega))) ?_)
            rintro r5 F5 G5 c1
            dsimp only
            refine JP.R (mp_em 10 (nI op) 0 F4 G4) ?_
            rintro r6 F6 G6 ⟨-, -, m2, -⟩
            dsimp only
            have I3 := I.next h h0
            have a := jAl.em (X := X) (p := p) (s := 0 :: 0 :: jsT x4 kk) (s1 := 0 :: jsT x4 kk) (ws := [kS op]) I3.h7.1 I3.h7.2 I3.2.1 c1 m2 (fun z1 => .inr (.inl ⟨rfl, rfl, ⟨op, b1, rfl, (c1.2.2 (I3.h7.2 z1)).2.2 0 (kS op) rfl⟩, jsT x4 kk, rfl, rfl⟩))
            unfold mb_simple_583
            exact put _ F5 G5 F6 G6 ((h.tr a).ca (by omega) (Int.le_refl _)) (by show κ + ((1 : Nat) : Int) ≤ 1; omega)
        -- the value
        have val : ∀ (κ : Int) (F3 : PF) (G3 : PG) (F4 : PF) (G4 : PG), jAl X p N i (i + 1) 0 κ (jsT x4 kk) (if w = 32 then jsT x4 kk else 0 :: jsT x4 kk) [] Fc Gc Fm Gm F3 G3 F4 G4 → (w = 32 → κ ≤ -2) → (¬ w = 32 → κ ≤ -2) → JP (cb_X4_simple_179 fu sym x4 (Fc 11) F3 G3) (mb_simple_404 fu x4 x6 x7 x8 (nI w) F4 G4) (fun _ F1 G1 r2 F2 G2 => (r2 = 1 ∧ ∃ j : Nat, jAl X p N i j 0 (if x4 = 0 then 3 else 2) (jsT x4 kk) [] [] Fc Gc Fm Gm F1 G1 F2 G2) ∨ jEnd F1 F2) := by
          intro κ F3 G3 F4 G4 h hκ1 hκ2
          have hκ : κ ≤ -2 := by
            by_cases c : w = 32
            · exact hκ1 c
            · exact hκ2 c
          have I3 := I.next h (by omega)
          have es : (0 : Nat) :: (if w = 32 then jsT x4 kk else 0 :: jsT x4 kk) = (if w = 32 then 0 :: jsT x4 kk else 0 :: 0 :: jsT x4 kk) := by
            split <;> rfl
          have one : (w = 12 ∨ w = 13) → JP (cb_X4_simple_196 fu sym x4 (Fc 11) F3 G3) (mb_simple_418 fu x4 x6 x7 x8 (nI w) F4 G4) (fun _ F1 G1 r2 F2 G2 => (r2 = 1 ∧ ∃ j : Nat, jAl X p N i j 0 (if x4 = 0 then 3 else 2) (jsT x4 kk) [] [] Fc Gc Fm Gm F1 G1 F2 G2) ∨ jEnd F1 F2) := by
            intro hw
            unfold cb_X4_simple_196 mb_simple_418
            refine JP.L (cp_wpair 66 1 G3 (h.room (m := 2) I.1 I.2.2 (by omega))) ?_
            rintro r5 F5 G5 c1
            dsimp only
            refine JP.R (mp_em 0 1 0 F4 G4) ?_
            rintro r6 F6 G6 ⟨-, -, m2, -⟩
            dsimp only
            have a := jAl.em (X := X) (p := p) (s := (if w = 32 then jsT x4 kk else 0 :: jsT x4 kk)) (s1 := 0 :: (if w = 32 then jsT x4 kk else 0 :: jsT x4 kk)) (ws := [66, 1]) I3.h7.1 I3.h7.2 I3.2.1 c1 m2 (fun z1 => .inl ⟨rfl, rfl, (c1.2.2 (I3.h7.2 z1)).2.2 0 66 rfl, (c1.2.2 (I3.h7.2 z1)).2.2 1 1 rfl, rfl⟩)
            rw [es] at a
            unfold mb_simple_425
            refine fin (i + 1) _ F5 G5 F6 G6 ((h.tr a).ca (by omega) (Int.le_refl _)) (fun z => ?_) (fun z => ?_)
            · rcases hw with y | y
              · omega
              · omega
            · show κ + ((2 : Nat) : Int) ≤ 0
              omega
          have exp : ¬ (w = 12 ∨ w = 13) → JP (cb_X4_simple_186 fu sym x4 (Fc 11) F3 G3) (mb_simple_429 fu x4 x6 x7 x8 (nI w) F4 G4) (fun _ F1 G1 r2 F2 G2 => (r2 = 1 ∧ ∃ j : Nat, jAl X p N i j 0 (if x4 = 0 then 3 else 2) (jsT x4 kk) [] [] Fc Gc Fm Gm F1 G1 F2 G2) ∨ jEnd F1 F2) := by
            intro hw
            unfold cb_X4_simple_186 mb_simple_429 cf_X3_expression mf_expression
            refine JP.both (jPx_all 300 300 (i + 1) (if w = 32 then jsT x4 kk else 0 :: jsT x4 kk) F3 G3 F4 G4 I3) ?_
            rintro r5 F5 G5 r6 F6 G6 (⟨rfl, j, h2⟩ | h2)
            · dsimp only
              rw [es] at h2
              unfold cb_X4_simple_193 mb_simple_433
              rw [if_neg i10n]
              exact fin j _ F5 G5 F6 G6 ((h.tr h2).ca (by omega) (Int.le_refl _)) (fun _ => by omega) (fun _ => by omega)
            · dsimp only
              exact JP.fin (kqj_X4_simple_193 _ _ _ F5 G5 CFS.rf) (nqj_simple_433 _ _ _ _ _ _ F6 G6 MFS.rf) h2 (fun _ _ _ _ _ _ w => .inr w)
          unfold cb_X4_simple_179 mb_simple_404 mb_simple_411
          by_cases c12 : w = 12
          · rw [if_pos (show (41 : Int32) ≤ Fc 11 from i_le.mpr (by rw [ec, l41]; exact o1.mp (.inl c12))), if_pos (show nI w = 12 from o3.mpr c12)]
            exact one (.inl c12)
          · rw [if_neg (show ¬ nI w = 12 from fun z => c12 (o3.mp z))]
            by_cases c13 : w = 13
            · rw [if_pos (show (41 : Int32) ≤ Fc 11 from i_le.mpr (by rw [ec, l41]; exact o1.mp (.inr c13))), if_pos (show nI w = 13 from o4.mpr c13)]
              exact one (.inr c13)
            · rw [if_neg (show ¬ nI w = 13 from fun z => c13 (o4.mp z))]
              have no : ¬ (w = 12 ∨ w = 13) := fun z => by
                rcases z with z | z
                · exact c12 z
                · exact c13 z
              rw [if_neg (show ¬ (41 : Int32) ≤ Fc 11 from fun z => no (o1.mpr (by have := i_le.mp z; rw [ec] at this; omega)))]
              exact exp no
        unfold cb_X4_simple_165 mb_simple_353
        by_cases c : w = 32
        · rw [if_pos (show Fc 11 = 29 by rw [ec]; exact o2.mp c), if_pos (show nI w = 32 from o5.mpr c)]
          rw [if_pos c] at e0
          exact val _ F1 G1 F2 Gm (by rw [if_pos c]; exact e0) (fun _ => Int.le_refl _) (fun z => absurd c z)
        · rw [if_neg (show ¬ Fc 11 = 29 from fun z => c (o2.mpr (ec.symm.trans z))), if_neg (show ¬ nI w = 32 from fun z => c (o5.mp z))]
          rw [if_neg c] at e0
          unfold cb_X4_simple_172
          have I1 := I.next e0 (by omega)
          refine js_old (kk := kk) I1 hX (tg.kx (e0.1.1.2 35 rfl) (e0.1.2.2 17 rfl) (e0.1.2.2 20 rfl) (e0.1.2.2 23 rfl)) (e0.room (m := 2) I.1 I.2.2 (by omega)) (fun r3 F3 G3 F4 G4 a => ?_)
          dsimp only
          exact val _ F3 G3 F4 G4 (by rw [if_neg c]; exact (e0.tr a).ca (by omega) (Int.le_refl _)) (fun z => absurd z c) (fun _ => by omega)
      · dsimp only
        exact JP.fin (kqj_X4_simple_165 _ _ _ F1 G1 CFS.rf) (nqj_simple_353 _ _ _ _ _ _ Gm MFS.rf) (.inr o) (fun _ _ _ _ _ _ w => .inr w)
    · rw [si_not sel w45]
      refine bad ?_
      rcases cl2 sel with z | z
      · exact .inl (i_lt.mpr (by rw [ec]; omega))
      · exact .inr (fun y => by have := i_le.mp y; rw [ec] at this; omega)
  · rw [if_neg k4]
    unfold mb_simple_271
    rw [si_none]
    refine bad (.inl (i_lt.mpr ?_))
    rcases C.tk T with ⟨-, h⟩ | ⟨h, -⟩
    · rcases h with ⟨-, h, -⟩ | ⟨-, w, h1, -, h2⟩ | ⟨-, h, -⟩ | ⟨h, -⟩
      · rw [h]
        decide
      · rw [h2, nI_toInt (by omega)]
        omega
      · rw [h]
        decide
      · exact absurd h k4
    · rw [h]
      decide
end JW8
