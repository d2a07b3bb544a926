section JW7
variable {fu : Nat} {X Y Z : JCX} {p : Int32} {N K n q nf t i j l : Nat} {d d1 κ κ1 : Int} {s s1 s2 : SH} {hs hs1 : List JHO} {ls ls1 : List (Nat × Nat × SH)} {Fc Fm F1 F2 F3 F4 F5 F6 F8 : PF} {Gc Gm G1 G2 G3 G4 G5 G6 G8 : PG} {ws : List Int32} {w a b : Int32}
/-- what is written: the class writes and goes on, the reference goes on and writes -/
theorem wo_f (c : EMC ws F1 G1 F3 G3) (o : jOn N l d F3 G3 F2 G2 F5 G5 F6 G6) (m : EMM w a b F6 G6 F8 G8) (z : F1 7 = 1) (h6 : 0 ≤ (F1 6).toInt) (h60 : 0 ≤ (F2 60).toInt) : sN F8 = sN F2 + 1 ∧ wN F5 = wN F1 + ws.length ∧ (∀ k : Nat, k < sN F2 → cEq G2 G8 k) ∧ (∀ l : Nat, l < wN F1 → G5 5 l = G1 5 l) ∧ (G8 56 (sN F2) = w ∧ G8 57 (sN F2) = a ∧ G8 58 (sN F2) = b) ∧ ∀ (k : Nat) (x : Int32), ws[k]? = some x → G5 5 (wN F1 + k) = x := by
  obtain ⟨⟨rfl, o1⟩, ⟨rfl, o2⟩, -, -⟩ := o
  have e60 : F6 60 = F2 60 := o2.1 60 rfl
  have es : sN F6 = sN F2 := by show (F6 60).toNatClampNeg = _; rw [e60]
  have ew : wN F5 = wN F3 := by show (F5 6).toNatClampNeg = _; rw [o1.1 6 rfl]
  have s8 := m.sn (by rw [e60]; exact h60)
  obtain ⟨-, -, m3, m4, m5, m6⟩ := m
  rw [es] at s8 m3 m4 m5 m6
  have wn := c.wn z h6
  obtain ⟨-, -, c3⟩ := c
  obtain ⟨-, c5, c6⟩ := c3 z
  exact ⟨s8, ew.trans wn, fun k hk => m3 k (Nat.ne_of_lt hk), c5, ⟨m4, m5, m6⟩, c6⟩
theorem jD.wo (S : jS X p N K n q nf t F1 G1 F2 G2) (D : jD N j F1 G1 F2 G2) (hj : j < N) (c : EMC ws F1 G1 F3 G3) (o : jOn N (j + 1) d F3 G3 F2 G2 F5 G5 F6 G6) (m : EMM w a b F6 G6 F8 G8) : jD N (j + 1) F5 G5 F8 G8 ∧ (F5 6).toInt ≤ (F1 6).toInt + ws.length ∧ KX [6, 9, 10, 11, 12, 13, 14] [5] F1 G1 F5 G5 ∧ KX [42, 43, 44, 45, 60] [56, 57, 58, 59] F2 G2 F8 G8 ∧ (F5 10).toInt = (F1 10).toInt + d := by
  obtain ⟨D1, ⟨D2, D3, D4⟩, ⟨D5, D6⟩, D7, D8, D9⟩ := D
  obtain ⟨x1, x2, x3⟩ := c
  obtain ⟨⟨rfl, o1⟩, ⟨rfl, o2⟩, o3, o4⟩ := o
  obtain ⟨y1, y2, -⟩ := m
  have e7 := S.2.2.1.2.2
  have kc : KX [6, 9, 10, 11, 12, 13, 14] [5] F1 G1 F5 G3 := KX.tr (KX.tr KX.rf x1 rfl rfl) o1 rfl rfl
  have km : KX [42, 43, 44, 45, 60] [56, 57, 58, 59] F2 G2 F8 G8 := KX.tr (KX.tr KX.rf o2 rfl rfl) y1 rfl rfl
  have e6 : F5 6 = F3 6 := o1.1 6 rfl
  have e60 : F6 60 = F2 60 := o2.1 60 rfl
  have c6 : 0 ≤ (F3 6).toInt ∧ (F3 6).toInt ≤ (F1 6).toInt + ws.length := by
    rcases S.2.1 with z | z
    · rw [(x2 (e7.trans z)).1]
      omega
    · have := (x3 (e7.trans z)).1
      omega
  have tp := (S.1.1.2.2 j hj).1
  have g6 : G8 6 = G2 6 := km.2 6 rfl
  rw [e60] at y2
  refine ⟨⟨?_, ⟨?_, ?_, ?_⟩, ⟨?_, ?_⟩, by rw [e6]; exact c6.1, by omega, ?_⟩, by rw [e6]; exact c6.2, kc, km, ?_⟩
  · unfold CU at o3 ⊢
    rw [y1.1 42 rfl, y1.1 43 rfl, y1.1 44 rfl]
    exact o3
  · rw [km.1 47 rfl]; exact D2
  · rw [kc.1 43 rfl]; exact D3
  · rw [kc.1 47 rfl]; exact D4
  · rw [kc.1 21 rfl]; exact D5
  · rw [kc.1 21 rfl, g6]; omega
  · rw [km.1 70 rfl]; exact D9
  · rw [o4, x1.1 10 rfl]
theorem jAl.wo {l : Nat} (S : jS X p N K n q nf t F1 G1 F2 G2) (D : jD N j F1 G1 F2 G2) (hj : j < N) (hl : l ≤ tlen (G2 4 j) (G2 5 j)) (c : EMC ws F1 G1 F3 G3) (o : jOn N (j + 1) d F3 G3 F2 G2 F5 G5 F6 G6) (m : EMM w a b F6 G6 F8 G8) (f : p = 1 → F1 7 = 1 → ∀ (mu : Nat → Nat) (A : JAN), A (sN F2) = (s, some X.2.2.1) → mu (sN F2) = wN F1 → JX X F1 G1 F2 G2 mu A F5 G5 F8 G8 s1 hs []) : jAl X p N j (j + 1) d ((ws.length : Int) - 2 * l) s s1 hs F1 G1 F2 G2 F5 G5 F8 G8 := by
  obtain ⟨D8, r6, kc, km, e10⟩ := jD.wo S D hj c o m
  have tp := (S.1.1.2.2 j hj).1
  exact ⟨⟨KX.tr KX.rf kc rfl rfl, KX.tr KX.rf km rfl rfl⟩, D8, ⟨by omega, by omega⟩, e10, ⟨kc.1 21 rfl, fun _ _ => by rw [kc.2 20 rfl]⟩, ⟨km.1 70 rfl, fun _ _ => ⟨by rw [km.2 67 rfl], by rw [km.2 68 rfl], by rw [km.2 69 rfl]⟩⟩, by omega, fun z => ⟨km.1 55 rfl, fun mu A h1 h2 => f z (by rw [S.2.2.1.2.2, z]) mu A h1 h2⟩⟩
/-- the same behind other code -/
theorem jW.wo {l : Nat} (S : jS Y p N K n q nf t F1 G1 F2 G2) (h : jW X Y p N i j d κ s s1 hs ls Fc Gc Fm Gm F1 G1 F2 G2) (D : jD N j F1 G1 F2 G2) (hj : j < N) (hl : l ≤ tlen (G2 4 j) (G2 5 j)) (c : EMC ws F1 G1 F3 G3) (o : jOn N (j + 1) d1 F3 G3 F2 G2 F5 G5 F6 G6) (m : EMM w a b F6 G6 F8 G8) (f : p = 1 → F1 7 = 1 → ∀ (mu : Nat → Nat) (A : JAN), JX Y Fc Gc Fm Gm mu A F1 G1 F2 G2 s1 hs ls → JX Y Fc Gc Fm Gm mu A F5 G5 F8 G8 s2 hs1 ls1) : jW X Y p N i (j + 1) (d + d1) (κ + ws.length - 2 * l) s s2 hs1 ls1 Fc Gc Fm Gm F5 G5 F8 G8 ∧ jD N (j + 1) F5 G5 F8 G8 := by
  obtain ⟨D8, r6, kc, km, e10⟩ := jD.wo S D hj c o m
  obtain ⟨a0, ⟨a1, a2⟩, ⟨a4, a4'⟩, a5, a6, a7, pe, a8⟩ := h
  have tp := (S.1.1.2.2 j hj).1
  have e6 : G2 6 = Gm 6 := a2.2 6 rfl
  have e4 : G2 4 = Gm 4 := a2.2 4 rfl
  have e5 : G2 5 = Gm 5 := a2.2 5 rfl
  rw [e6] at tp
  exact ⟨⟨a0, ⟨KX.tr a1 kc rfl rfl, KX.tr a2 km rfl rfl⟩, ⟨by omega, by omega⟩, by omega, by omega, fun z => KX.tr (a7 z) kc rfl rfl, fun z => (pe z).tr (jPe.of kc km rfl rfl), fun z mu A h1 h2 => f z (by rw [S.2.2.1.2.2, z]) mu A (a8 z mu A h1 h2)⟩, D8⟩
/-- both write behind other code -/
theorem jW.em (S : jS Y p N K n q nf t F1 G1 F2 G2) (h : jW X Y p N i j d κ s s1 hs ls Fc Gc Fm Gm F1 G1 F2 G2) (D : jD N j F1 G1 F2 G2) (c : EMC ws F1 G1 F3 G3) (m : EMM w a b F2 G2 F4 G4) (f : p = 1 → F1 7 = 1 → ∀ (mu : Nat → Nat) (A : JAN), JX Y Fc Gc Fm Gm mu A F1 G1 F2 G2 s1 hs ls → JX Y Fc Gc Fm Gm mu A F3 G3 F4 G4 s2 hs1 ls1) : jW X Y p N i j d (κ + ws.length) s s2 hs1 ls1 Fc Gc Fm Gm F3 G3 F4 G4 ∧ jD N j F3 G3 F4 G4 := by
  obtain ⟨D1, ⟨D2, D3, D4⟩, ⟨D5, D6⟩, D7, D8, D9⟩ := D
  obtain ⟨a0, ⟨a1, a2⟩, a4, a5, a6, a7, pe, a8⟩ := h
  obtain ⟨x1, x2, x3⟩ := c
  obtain ⟨y1, y2, -⟩ := m
  have e7 := S.2.2.1.2.2
  have c6 : 0 ≤ (F3 6).toInt ∧ (F3 6).toInt ≤ (F1 6).toInt + ws.length := by
    rcases S.2.1 with z | z
    · rw [(x2 (e7.trans z)).1]
      omega
    · have := (x3 (e7.trans z)).1
      omega
  refine ⟨⟨a0, ⟨KX.tr a1 x1 rfl rfl, KX.tr a2 y1 rfl rfl⟩, a4, by rw [x1.1 10 rfl]; exact a5, by omega, fun z => KX.tr (a7 z) x1 rfl rfl, fun z => (pe z).tr (jPe.of x1 y1 rfl rfl), fun z mu A h1 h2 => f z (by rw [e7, z]) mu A (a8 z mu A h1 h2)⟩, ?_, ⟨?_, ?_, ?_⟩, ⟨?_, ?_⟩, c6.1, by omega, ?_⟩
  · unfold CU at D1 ⊢
    rw [x1.1 9 rfl, y1.1 42 rfl, x1.1 10 rfl, y1.1 43 rfl, x1.1 14 rfl, y1.1 44 rfl, x1.1 11 rfl, x1.1 12 rfl, x1.1 13 rfl, x1.2 90 rfl, x1.2 91 rfl, x1.2 92 rfl]
    exact D1
  · rw [y1.1 47 rfl]; exact D2
  · rw [x1.1 43 rfl]; exact D3
  · rw [x1.1 47 rfl]; exact D4
  · rw [x1.1 21 rfl]; exact D5
  · rw [x1.1 21 rfl, y1.2 6 rfl]; exact D6
  · rw [y1.1 70 rfl]; exact D9
/-- both write, and more stands behind it -/
theorem jW.emD {Z : JCX} (u : jUq Y Z) (S : jS Y p N K n q nf t F1 G1 F2 G2) (h : jW X Y p N i j d κ s s1 hs ls Fc Gc Fm Gm F1 G1 F2 G2) (D : jD N j F1 G1 F2 G2) (c : EMC ws F1 G1 F3 G3) (m : EMM w a b F2 G2 F4 G4) (f : p = 1 → F1 7 = 1 → ∀ (mu : Nat → Nat) (A : JAN), JX Y Fc Gc Fm Gm mu A F1 G1 F2 G2 s1 hs ls → JX Z Fc Gc Fm Gm mu A F3 G3 F4 G4 s2 hs1 ls1) : jW X Z p N i j d (κ + ws.length) s s2 hs1 ls1 Fc Gc Fm Gm F3 G3 F4 G4 ∧ jD N j F3 G3 F4 G4 := by
  obtain ⟨D1, ⟨D2, D3, D4⟩, ⟨D5, D6⟩, D7, D8, D9⟩ := D
  obtain ⟨a0, ⟨a1, a2⟩, a4, a5, a6, a7, pe, a8⟩ := h
  obtain ⟨x1, x2, x3⟩ := c
  obtain ⟨y1, y2, -⟩ := m
  have e7 := S.2.2.1.2.2
  have c6 : 0 ≤ (F3 6).toInt ∧ (F3 6).toInt ≤ (F1 6).toInt + ws.length := by
    rcases S.2.1 with z | z
    · rw [(x2 (e7.trans z)).1]
      omega
    · have := (x3 (e7.trans z)).1
      omega
  refine ⟨⟨a0.tr u, ⟨KX.tr a1 x1 rfl rfl, KX.tr a2 y1 rfl rfl⟩, a4, by rw [x1.1 10 rfl]; exact a5, by omega, fun z => KX.tr (a7 z) x1 rfl rfl, fun z => (pe z).tr (jPe.of x1 y1 rfl rfl), fun z mu A h1 h2 => f z (by rw [e7, z]) mu A (a8 z mu A h1 h2)⟩, ?_, ⟨?_, ?_, ?_⟩, ⟨?_, ?_⟩, c6.1, by omega, ?_⟩
  · unfold CU at D1 ⊢
    rw [x1.1 9 rfl, y1.1 42 rfl, x1.1 10 rfl, y1.1 43 rfl, x1.1 14 rfl, y1.1 44 rfl, x1.1 11 rfl, x1.1 12 rfl, x1.1 13 rfl, x1.2 90 rfl, x1.2 91 rfl, x1.2 92 rfl]
    exact D1
  · rw [y1.1 47 rfl]; exact D2
  · rw [x1.1 43 rfl]; exact D3
  · rw [x1.1 47 rfl]; exact D4
  · rw [x1.1 21 rfl]; exact D5
  · rw [x1.1 21 rfl, y1.2 6 rfl]; exact D6
  · rw [y1.1 70 rfl]; exact D9
/-- from the first state to a later one where nothing more is told -/
theorem jV.w0 (V : jV X p N K n q nf t i Fc Gc Fm Gm) (h : jW X X p N i j d κ s s1 hs ls Fc Gc Fm Gm F1 G1 F2 G2) (hκ : κ ≤ 0) (D : jD N j F1 G1 F2 G2) (kc : KX jXd jYk Fc Gc F1 G1) (km : KX jZd jWk Fm Gm F2 G2) (e46 : F1 46 = 0) (e54 : F2 54 = 0) (xb : jXB F1) : jV X p N K n q nf t j F1 G1 F2 G2 := by
  obtain ⟨a0, a1, ⟨a4, a4'⟩, a5, a6, a7, a8⟩ := h
  refine V.mv kc km e46 e54 xb D ?_ a4
  have := V.1.2.2
  omega
/-- break and continue -/
theorem jc_leap (V : jV X p N K n q nf t i Fc Gc Fm Gm) (hk : Fc 11 = 13 ∨ Fc 11 = 14) : JP (cf_X4_leap fu Fc Gc) (mf_leaves fu Fm Gm) (fun _ F1 G1 r2 F2 G2 => jOs X p N K n q nf i 0 Fc Gc Fm Gm r2 F1 G1 F2 G2) := by
  have I := V.1
  have hX := V.2.1.1
  have hp := I.1.2.1
  have l0 : (0 : Int32).toInt = 0 := rfl
  obtain ⟨n1, n2, n3⟩ := V.2.2.1
  have wd := I.wd (w := 9) (a := 13) (b := 9) (by decide) (by decide) (by decide)
  have wd2 := I.wd (w := 10) (a := 14) (b := 10) (by decide) (by decide) (by decide)
  have li : i < N := by
    rcases hk with z | z
    · exact I.2.1.1.ltW I.1.1 (wd.mp z)
    · exact I.2.1.1.ltW I.1.1 (wd2.mp z)
  obtain ⟨pl0, pl1, pl2⟩ := I.2.1.1.place I.1.1
  have h7 := I.h7
  -- behind the note, or where none is due
  have key : ∀ x1 : Int32, (p = 1 → ¬ Fm 51 = 0) → ((x1 = 1 ∧ Fc 11 = 13) ∨ (x1 = 0 ∧ Fc 11 = 14)) → JP (cb_X4_leap_23 fu Fc Gc) (mb_leaves_29 fu x1 Fm Gm) (fun _ F1 G1 r2 F2 G2 => jOs X p N K n q nf i 0 Fc Gc Fm Gm r2 F1 G1 F2 G2) := by
    intro x1 hl hx
    -- fb: the class's field of the chain, fm: the reference's
    have main : ∀ (fb fm : Nat), ((fb = 30 ∧ fm = 63 ∧ x1 = 1) ∨ (fb = 31 ∧ fm = 64 ∧ x1 = 0)) → JP ((cf_X1_addJump fu 84 (Fc fb) Fc Gc).bind (fun q => cb_X4_leap_72 fu (fup q.2.1 fb q.1) q.2.2)) (mb_leaves_29 fu x1 Fm Gm) (fun _ F1 G1 r2 F2 G2 => jOs X p N K n q nf i 0 Fc Gc Fm Gm r2 F1 G1 F2 G2) := by
      intro fb fm hf
      refine JP.L (cp_wjump 84 (Fc fb) Gc (jAl.room (m := 2) (κ := 0) I.1 (jAl.rf (X := X) (p := p) (s := []) I.2.1) I.2.2 (by omega))) ?_
      rintro r F1 G1 ⟨c1, c2, c3⟩
      dsimp only
      unfold cb_X4_leap_72 mb_leaves_29
      have kf : KX [30, 31] [] F1 G1 (fup F1 fb r) G1 := by
        rcases hf with ⟨z, -⟩ | ⟨z, -⟩
        · rw [z]
          exact KX.f rfl KX.rf
        · rw [z]
          exact KX.f rfl KX.rf
      have T1 : TKE N K n (fup F1 fb r) G1 Fm Gm := by
        refine I.1.1.keep ?_ (c1.1.2 90 rfl) (c1.1.2 91 rfl) (c1.1.2 92 rfl) rfl rfl rfl rfl rfl
        rw [kf.1 93 rfl, c1.1.1 93 rfl]
      have C1 : CU N i (fup F1 fb r) G1 Fm Gm := (I.2.1.1.kx c1.1 rfl rfl).kx kf rfl rfl
      refine JP.L (jo_next T1 C1 li) ?_
      rintro r3 F3 G3 (o | o)
      · dsimp only
        unfold mb_leaves_39
        refine JP.R (mp_em 12 0 0 _ Gm) ?_
        rintro r4 F4 G4 ⟨m0, m1, m2, m3⟩
        dsimp only
        -- the class's state with its chain set back, for the code
        obtain ⟨⟨rfl, o1⟩, ⟨-, o2⟩, o3, o4⟩ := o
        have f60 : fup Fm 42 (Fm 42 + 1) 60 = Fm 60 := fup_n (by decide)
        have fs : sN (fup Fm 42 (Fm 42 + 1)) = sN Fm := by
          show (fup Fm 42 (Fm 42 + 1) 60).toNatClampNeg = _
          rw [f60]
        rw [f60] at m0 m1
        obtain ⟨y1, y2, y3, y4, y5, y6⟩ := m2
        rw [f60] at y2
        rw [fs] at y3 y4 y5 y6
        obtain ⟨x1', x2, x3⟩ := id c1
        have kc : KX [6, 9, 10, 11, 12, 13, 14, 30, 31] [5] Fc Gc F3 G1 := KX.tr (KX.tr (KX.tr KX.rf x1' rfl rfl) kf rfl rfl) o1 rfl rfl
        have km : KX [42, 60] [56, 57, 58, 59] Fm Gm F4 G4 := KX.tr (KX.f rfl KX.rf) y1 rfl rfl
        have e6 : F3 6 = F1 6 := (o1.1 6 rfl).trans (kf.1 6 rfl)
        obtain ⟨D1, ⟨D2, D3, D4⟩, ⟨D5, D6⟩, D7, D8, D9⟩ := id I.2.1
        have c6 : 0 ≤ (F1 6).toInt ∧ (F1 6).toInt ≤ (Fc 6).toInt + 2 := by
          rcases h7.1 with z | z
          · rw [(x2 z).1]
            omega
          · have : (F1 6).toInt = (Fc 6).toInt + ((2 : Nat) : Int) := (x3 z).1
            omega
        have tp := (I.1.1.1.2.2 i li).1
        have t1 := I.1.t1 li
        have f51 : F4 51 = Fm 51 := km.1 51 rfl
        have rn : r4.toNatClampNeg = sN Fm := by rw [m0]
        -- the reference's chain
        have ends : ∀ (F6 : PF) (G6 : PG), KX [42, 60, 63, 64] [56, 57, 58, 59] Fm Gm F6 G6 → F6 42 = F4 42 → F6 60 = F4 60 → (p = 1 → (∀ k : Nat, k ≠ sN Fm → cEq Gm G6 k) ∧ G6 56 (sN Fm) = 12 ∧ G6 57 (sN Fm) = Fm fm ∧ F6 fm = r4 ∧ F6 (if fm = 63 then 64 else 63) = Fm (if fm = 63 then 64 else 63)) → JP (cb_X4_leap_79 fu F3 G1) (mb_leaves_93 fu F6 G6) (fun _ F1 G1 r2 F2 G2 => jOs X p N K n q nf i 0 Fc Gc Fm Gm r2 F1 G1 F2 G2) := by
          intro F6 G6 k6 e42 e60 hch
          have D3' : jD N (i + 1) F3 G1 F6 G6 := by
            refine ⟨?_, ⟨?_, ?_, ?_⟩, ⟨?_, ?_⟩, by rw [e6]; exact c6.1, by rw [e60]; omega, ?_⟩
            · unfold CU at o3 ⊢
              rw [e42, k6.1 43 rfl, k6.1 44 rfl, y1.1 42 rfl]
              rw [show fup Fm 42 (Fm 42 + 1) 43 = Fm 43 from fup_n (by decide), show fup Fm 42 (Fm 42 + 1) 44 = Fm 44 from fup_n (by decide)] at o3
              exact o3
            · rw [k6.1 47 rfl]; exact D2
            · rw [kc.1 43 rfl]; exact D3
            · rw [kc.1 47 rfl]; exact D4
            · rw [kc.1 21 rfl]; exact D5
            · rw [kc.1 21 rfl, k6.2 6 rfl]; omega
            · rw [k6.1 70 rfl]; exact D9
          have W : jW X X p N i (i + 1) 0 0 [] [] [(sN Fm, wN Fc + 1, [], 0, Fm fm, Fc fb)] [] Fc Gc Fm Gm F3 G1 F6 G6 := by
            refine ⟨jUq.rf, ⟨KX.tr KX.rf kc rfl rfl, KX.tr KX.rf k6 rfl rfl⟩, ⟨by omega, by omega⟩, ?_, by rw [e6]; omega, fun _ => KX.tr KX.rf kc rfl rfl, fun _ => jPe.of kc k6 rfl rfl, fun z mu A h1 h2 => ?_⟩
            · rw [o4, kf.1 10 rfl, x1'.1 10 rfl]
            · obtain ⟨g1, g2, g3, g4, g5⟩ := hch z
              have z7 := h7.2 z
              refine (JX.rf h1 h2).jmp (ty := 0) (sx := []) ?_ ?_ (fun k hk => g1 k (Nat.ne_of_lt hk)) (x3 z7).2.1 g3 ((x3 z7).2.2 1 (Fc fb) rfl) (.inl ⟨rfl, g2, (x3 z7).2.2 0 84 rfl, rfl⟩)
              · show (F6 60).toInt.toNat = (Fm 60).toInt.toNat + 1
                rw [e60]
                omega
              · show (F3 6).toInt.toNat = (Fc 6).toInt.toNat + 2
                rw [e6]
                have : (F1 6).toInt = (Fc 6).toInt + ((2 : Nat) : Int) := (x3 z7).1
                omega
          have V3 : jV X p N K n q nf t (i + 1) F3 G1 F6 G6 := V.w0 W (Int.le_refl _) D3' (KX.tr KX.rf kc rfl rfl) (KX.tr KX.rf k6 rfl rfl) (by rw [kc.1 46 rfl]; exact V.x0) (by rw [k6.1 54 rfl]; exact V.2.1.2.1) (V.2.1.2.2.kx kc rfl)
          unfold cb_X4_leap_79 mb_leaves_93
          refine JP.both (jo_sign V3.1.1.1 V3.1.2.1.1 (w := 29) (by decide) (by decide) (by decide)) ?_
          rintro rb Fb Gb rd Fd Gd (⟨rfl, hy, o5⟩ | o5)
          · dsimp only
            have lk := V3.1.2.1.1.ltS V3.1.1.1 hy
            have e5 := jAl.on (X := X) (p := p) (s := []) V3.1.1 V3.1.2.1 lk (V3.1.1.t1 lk) o5
            unfold cb_X4_leap_88 mb_leaves_99
            rw [if_pos (show b01 1 = true from rfl)]
            have W2 := W.tr (jW.al e5)
            have bk : ∀ k : Nat, (k = 30 ∨ k = 31) → Fb k = F3 k := fun k hk => by
              rcases hk with z | z
              · rw [z]; exact e5.1.1.1 30 rfl
              · rw [z]; exact e5.1.1.1 31 rfl
            have bm : ∀ k : Nat, (k = 63 ∨ k = 64) → Fd k = F6 k := fun k hk => by
              rcases hk with z | z
              · rw [z]; exact e5.1.2.1 63 rfl
              · rw [z]; exact e5.1.2.1 64 rfl
            have fr : ∀ k : Nat, (k = 30 ∨ k = 31) → F3 k = fup F1 fb r k := fun k hk => by
              rcases hk with z | z
              · rw [z]; exact o1.1 30 rfl
              · rw [z]; exact o1.1 31 rfl
            have wB : wN Fb = wN F3 := by
              show (Fb 6).toNatClampNeg = _
              rw [show Fb 6 = F3 6 by obtain ⟨⟨rfl, o6⟩, -⟩ := o5; exact o6.1 6 rfl]
            refine JP.ret ?_
            rcases hf with ⟨z1, z2, z3⟩ | ⟨z1, z2, z3⟩
            · refine .inl ⟨rfl, X, t, i + 1 + 1, [(sN Fm, wN Fc + 1, [], 0, Fm fm, Fc fb)], [], V3.al e5 (by omega), (W2.pm (by rw [List.append_nil]; exact List.Perm.refl _)).ca (by omega) (by omega), ⟨?_, ?_, by omega⟩, fun z => ?_, fun z => absurd z (by decide), fun z y => absurd y (hl z)⟩
              · rw [e5.1.2.1 15 rfl]; exact k6.1 15 rfl
              · rw [e5.1.2.1 51 rfl]; exact k6.1 51 rfl
              · obtain ⟨g1, g2, g3, g4, g5⟩ := hch z
                have z7 := h7.2 z
                rw [z2] at g3 g4 g5
                have w3 : wN F3 = wN Fc + 2 := by
                  show (F3 6).toInt.toNat = (Fc 6).toInt.toNat + 2
                  rw [e6]
                  have : (F1 6).toInt = (Fc 6).toInt + ((2 : Nat) : Int) := (x3 z7).1
                  omega
                refine ⟨⟨?_, ?_, ⟨Nat.le_succ _, by rw [wB, w3]; exact Nat.lt_succ_self _⟩, ⟨rfl, rfl⟩, ?_⟩, ?_⟩
                · rw [bm 63 (.inl rfl), g4, m0]
                  exact (jnI D8).symm
                · rw [bk 30 (.inl rfl), fr 30 (.inl rfl), z1, fup_s]
                  exact c3 z7
                · show Fm fm = Fm 63 ∧ Fc fb = Fc 30
                  rw [z2, z1]
                  exact ⟨rfl, rfl⟩
                · refine ⟨?_, ?_⟩
                  · rw [bm 64 (.inr rfl)]
                    exact g5
                  · rw [bk 31 (.inr rfl), fr 31 (.inr rfl), z1, fup_n (by decide)]
                    exact x1'.1 31 rfl
            · refine .inl ⟨rfl, X, t, i + 1 + 1, [], [(sN Fm, wN Fc + 1, [], 0, Fm fm, Fc fb)], V3.al e5 (by omega), W2.ca (by omega) (by omega), ⟨?_, ?_, by omega⟩, fun z => ?_, fun z => absurd z (by decide), fun z y => absurd y (hl z)⟩
              · rw [e5.1.2.1 15 rfl]; exact k6.1 15 rfl
              · rw [e5.1.2.1 51 rfl]; exact k6.1 51 rfl
              · obtain ⟨g1, g2, g3, g4, g5⟩ := hch z
                have z7 := h7.2 z
                rw [z2] at g3 g4 g5
                have w3 : wN F3 = wN Fc + 2 := by
                  show (F3 6).toInt.toNat = (Fc 6).toInt.toNat + 2
                  rw [e6]
                  have : (F1 6).toInt = (Fc 6).toInt + ((2 : Nat) : Int) := (x3 z7).1
                  omega
                refine ⟨?_, ⟨?_, ?_, ⟨Nat.le_succ _, by rw [wB, w3]; exact Nat.lt_succ_self _⟩, ⟨rfl, rfl⟩, ?_⟩⟩
                · refine ⟨?_, ?_⟩
                  · rw [bm 63 (.inl rfl)]
                    exact g5
                  · rw [bk 30 (.inl rfl), fr 30 (.inl rfl), z1, fup_n (by decide)]
                    exact x1'.1 30 rfl
                · rw [bm 64 (.inr rfl), g4, m0]
                  exact (jnI D8).symm
                · rw [bk 31 (.inr rfl), fr 31 (.inr rfl), z1, fup_s]
                  exact c3 z7
                · show Fm fm = Fm 64 ∧ Fc fb = Fc 31
                  rw [z2, z1]
                  exact ⟨rfl, rfl⟩
          · dsimp only
            exact JP.fin (kqj_X4_leap_88 Fb Gb CFS.rf) (nqj_leaves_99 _ Fd Gd MFS.rf) (.inr o5) (fun _ _ _ _ _ _ w => .inr w)
        unfold mb_leaves_47
        rw [f51]
        refine JP.iteR (fun c => ?_) (fun c => ?_)
        · refine ends F4 G4 (KX.tr KX.rf km rfl rfl) rfl rfl (fun z => ?_)
          have := i_le.mp c
          exact absurd (i_eq.mpr (by omega)) (hl z)
        · unfold mb_leaves_55 mb_leaves_71 mb_leaves_64 mb_leaves_75 mb_leaves_76 mb_leaves_88 mb_leaves_80 mb_leaves_85
          rcases hf with ⟨z1, z2, z3⟩ | ⟨z1, z2, z3⟩
          · rw [z3, if_neg i10n]
            refine JP.ixR (fun _ => ?_)
            rw [if_neg i10n, rn]
            refine ends _ _ (KX.f rfl (KX.g rfl (KX.tr KX.rf km rfl rfl))) (fup_n (by decide)) (fup_n (by decide)) (fun z => ⟨fun k hk => ?_, ?_, ?_, ?_, ?_⟩)
            · have y := y3 k hk
              exact ⟨y.1, by rw [gup_x hk]; exact y.2.1, y.2.2.1, y.2.2.2⟩
            · exact y4
            · rw [z2, gup_i]
              exact km.1 63 rfl
            · rw [z2, fup_s]
            · rw [z2]
              show fup F4 63 r4 64 = Fm 64
              rw [fup_n (by decide)]
              exact km.1 64 rfl
          · rw [z3, if_pos rfl]
            refine JP.ixR (fun _ => ?_)
            rw [if_pos rfl, rn]
            refine ends _ _ (KX.f rfl (KX.g rfl (KX.tr KX.rf km rfl rfl))) (fup_n (by decide)) (fup_n (by decide)) (fun z => ⟨fun k hk => ?_, ?_, ?_, ?_, ?_⟩)
            · have y := y3 k hk
              exact ⟨y.1, by rw [gup_x hk]; exact y.2.1, y.2.2.1, y.2.2.2⟩
            · exact y4
            · rw [z2, gup_i]
              exact km.1 64 rfl
            · rw [z2, fup_s]
            · rw [z2]
              show fup F4 64 r4 63 = Fm 63
              rw [fup_n (by decide)]
              exact km.1 63 rfl
      · dsimp only
        exact JP.fin (kqj_X4_leap_79 F3 G3 CFS.rf) (nqj_leaves_39 _ _ Gm MFS.rf) (.inr o) (fun _ _ _ _ _ _ w => .inr w)
    unfold cb_X4_leap_23
    rcases hx with ⟨z1, z2⟩ | ⟨z1, z2⟩
    · rw [if_pos z2]
      unfold cb_X4_leap_35 cb_X4_leap_49 cb_X4_leap_52
      exact main 30 63 (.inl ⟨rfl, rfl, z1⟩)
    · rw [if_neg (show ¬ Fc 11 = 13 by rw [z2]; decide)]
      unfold cb_X4_leap_55 cb_X4_leap_69
      exact main 31 64 (.inr ⟨rfl, rfl, z1⟩)
  unfold cf_X4_leap cb_X4_leap_0 mf_leaves mb_leaves_0
  refine JP.R (mp_isWord 9 Fm Gm) ?_
  rintro x1 _ _ ⟨rfl, rfl, hz⟩
  dsimp only
  have hx : (x1 = 1 ∧ Fc 11 = 13) ∨ (x1 = 0 ∧ Fc 11 = 14) := by
    rcases hz with ⟨a1, a2⟩ | ⟨a1, a2⟩
    · exact .inl ⟨a1, wd.mpr a2⟩
    · refine .inr ⟨a1, ?_⟩
      rcases hk with y | y
      · rw [wd.mp y] at a2
        cases a2
      · exact y
  unfold mb_leaves_6
  by_cases c : Fm 51 = 0
  · rw [if_pos (show Fc 29 = 0 from n1.trans c), if_pos c]
    rcases hp with hp0 | hp1
    · unfold cb_X4_leap_7 mb_leaves_14
      refine JP.L (cp_note 6 (Fc 13) (by decide) (by decide) Fc Gc) ?_
      rintro _ F5 _ ⟨rfl, -, w, -⟩
      dsimp only
      rw [← w (by rw [I.1.2.2.1.2.1, hp0])]
      refine JP.ixR (fun _ => JP.R (mp_n0 (by rw [I.1.2.2.1.1, hp0]) (by decide)) ?_)
      rintro _ _ _ ⟨rfl, rfl⟩
      exact key x1 (fun z => absurd (hp0.symm.trans z) (by decide)) hx
    · refine JP.pp (V := fun _ F' _ => (F' 43).toInt ≤ 4000) (V1 := fun _ F' _ => ¬ F' 47 = 0) ?_ ?_ (fun r1 F5 G5 r2 F6 G6 z1 z2 => .inr (.inl ⟨z1, z2⟩))
      · unfold cb_X4_leap_7
        refine PP.bind (cp_note 6 (Fc 13) (by decide) (by decide) Fc Gc) ?_
        rintro _ F5 G5 ⟨-, -, -, w⟩
        dsimp only
        exact PP.mono (kqj_X4_leap_23 F5 G5 CFS.rf) (fun _ F' _ y => y.2 (w (by rw [I.1.2.2.1.2.1, hp1]; decide) pl1))
      · unfold mb_leaves_14
        exact PP.ix (fun _ => mp_nt (A := fun F' G' => mb_leaves_29 fu x1 F' G') (by rw [I.1.2.2.1.1, hp1]; decide) (by decide) (fun F' G' => nqj_leaves_29 _ F' G' MFS.rf))
  · rw [if_neg (show ¬ Fc 29 = 0 from fun z => c (n1.symm.trans z)), if_neg c]
    exact key x1 (fun _ => c) hx
end JW7
