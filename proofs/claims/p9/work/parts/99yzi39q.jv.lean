theorem WP.to {a : PR} {Q : Int32 → PF → PG → Prop} (h : WP a Q) : PP a Q := by
  intro r F G e
  obtain ⟨r', F', G', e', k⟩ := h
  rw [e] at e'
  obtain ⟨rfl, rfl, rfl⟩ := ret_el e'
  exact k
/-- an answer that is known to be so -/
noncomputable def jIj (P : Int32 → PF → PG → Prop) (g : Int32 × PF × PG → PR) (q : Int32 × PF × PG) : PR := @ite PR (P q.1 q.2.1 q.2.2) (Classical.propDecidable _) (g q) none
theorem jIj.pp {P Q : Int32 → PF → PG → Prop} {g : Int32 × PF × PG → PR} {q : Int32 × PF × PG} (h : PP (g q) Q) : PP (jIj P g q) Q := by
  unfold jIj
  split
  · exact h
  · exact PP.no
theorem JP.ij {a : PR} {P : Int32 → PF → PG → Prop} {g : Int32 × PF × PG → PR} {Q : Int32 → PF → PG → Int32 → PF → PG → Prop} {r : Int32} {F : PF} {G : PG} (k : P r F G → JP a (g (r, F, G)) Q) : JP a (jIj P g (r, F, G)) Q := by
  unfold jIj
  split
  · rename_i h
    exact k h
  · exact JP.noR
/-- what is known of the reference's answer -/
theorem JP.inj {a b : PR} {g : Int32 × PF × PG → PR} {Q : Int32 → PF → PG → Int32 → PF → PG → Prop} {P : Int32 → PF → PG → Prop} (h : PP b P) (k : JP a (b.bind (jIj P g)) Q) : JP a (b.bind g) Q := by
  intro r1 F1 G1 r2 F2 G2 e1 e2
  refine k r1 F1 G1 r2 F2 G2 e1 ?_
  obtain ⟨⟨r, F, G⟩, e3, e4⟩ := bind_elim e2
  rw [e3]
  show jIj P g (r, F, G) = _
  unfold jIj
  rw [if_pos (h r F G e3)]
  exact e4
/-- where the functions of the first L TOLDs stand -/
def jWp (Kk V : Nat → Int32) (fu L f : Nat) (φ : Nat → Nat) : Prop := ∀ m' : Nat, m' < L → ∀ (y : Int32) (g : Nat), pth Kk V fu m' = some (y, g) → isfn Kk V y = true → g < f ∧ φ g = y.toInt.toNat + 1
/-- between two TOLDs, m of them behind -/
def jLI (fu : Nat) (p : Int32) (N K n M nf0 : Nat) (Kk V : Nat → Int32) (c27 c76 : Int32) (T25 T32 : Nat → Int32) (X : JCX) (m i q nf t f : Nat) (φ : Nat → Nat) (Fa : PF) (Ga : PG) (Fb : PF) (Gb : PG) : Prop :=
  jGs X p N K n q nf t i f φ Fa Ga Fb Gb ∧ LPt Kk V fu M m (nI f) Fb Gb ∧ Fa 27 = c27 ∧ (p = 0 → jMa f Fa Gb ∧ jWp Kk V fu m f φ) ∧ (p = 1 → jWd X Fa Ga Fb Gb ∧ jWp Kk V fu M nf φ ∧ Fa 76 = c76 ∧ Gb 25 = T25 ∧ Gb 32 = T32 ∧ nf = nf0 ∧ ∀ y : Nat, y < f → T25 y = c27 → T32 y = -1)
section JVQ
variable {fu : Nat} {p : Int32} {N K n M nf0 : Nat} {Kk V : Nat → Int32} {c27 c76 x1 : Int32} {T25 T32 : Nat → Int32} {F0 F : PF} {G : PG} {Q : Int32 → PF → PG → Int32 → PF → PG → Prop}
theorem kw_278 (h : CFS F0 F) : PP (cb_X4_walk_278 fu x1 F G) (fun _ F' _ => CFS F0 F') := by
  unfold cb_X4_walk_278
  refine PP.ite (fun _ => PP.ret h) (fun _ => ?_)
  unfold cb_X4_walk_282
  refine PP.bind (cw_X5_fault F G) (fun r F1 G1 k => ?_)
  have c : CFS F F1 := ⟨fun w => by rw [k.1 14 rfl, k.1 11 rfl]; exact w, fun w => by rw [k.1 43 rfl]; exact w⟩
  exact PP.ret (CFS.tr h c)
theorem kw_251 (h : CFS F0 F) : PP (cb_X4_walk_251 fu x1 F G) (fun _ F' _ => CFS F0 F') := by
  unfold cb_X4_walk_251
  refine PP.ite (fun _ => ?_) (fun _ => kw_278 h)
  exact PP.bind (kq_X5_note 9 (F 13) F G) (fun r F1 G1 k => kw_278 (CFS.tr h k))
theorem kw_7 : ∀ (m : Nat) (F0 : PF) (y z : Int32) (F : PF) (G : PG), CFS F0 F → PP (cl_X4_walk_7 fu m y z F G) (fun _ F' _ => CFS F0 F') := by
  intro m
  induction m with
  | zero => intro F0 y z F G _; exact PP.no
  | succ m ih =>
    intro F0 y z F G h
    show PP (cb_X4_walk_7 fu (cl_X4_walk_7 fu m) y z F G) _
    have w65 : ∀ (x3 : Int32) (F : PF) (G : PG), CFS F0 F → PP (cb_X4_walk_65 fu (cl_X4_walk_7 fu m) y z x3 F G) (fun _ F' _ => CFS F0 F') := fun x3 F G h => kw_65 (fun F0 y z F G h => ih F0 y z F G h) h
    unfold cb_X4_walk_7
    refine PP.ite (fun _ => kw_251 h) (fun _ => ?_)
    unfold cb_X4_walk_14
    refine PP.ite (fun _ => kw_251 h) (fun _ => ?_)
    unfold cb_X4_walk_24
    refine PP.ite (fun _ => kw_251 h) (fun _ => ?_)
    unfold cb_X4_walk_36
    refine PP.ite (fun _ => ?_) (fun _ => ?_)
    · unfold cb_X4_walk_48 cb_X4_walk_53
      rw [if_neg i10n]
      exact PP.bind (kq_X2_next F G) (fun r F1 G1 k => w65 1 F1 G1 (CFS.tr h k))
    · unfold cb_X4_walk_52 cb_X4_walk_53
      rw [if_pos rfl]
      exact w65 0 F G h
/-- TOLDs -/
theorem jt_loop (hfu : 8589934592 ≤ fu) (hQ : ∀ (r1 : Int32) (F1 : PF) (G1 : PG) (r2 : Int32) (F2 : PF) (G2 : PG), jEnd F1 F2 → Q r1 F1 G1 r2 F2 G2) (hN : ∀ (r1 : Int32) (F1 : PF) (G1 : PG) (r2 : Int32) (F2 : PF) (G2 : PG), p = 1 → (∃ y : Nat, y < nf0 ∧ T25 y = c27 ∧ ¬ T32 y = -1) → (F1 43).toInt ≤ 4000 → Q r1 F1 G1 r2 F2 G2)
    (Hend : ∀ (X : JCX) (m q nf t f : Nat) (φ : Nat → Nat) (Fa : PF) (Ga : PG) (Fb : PF) (Gb : PG), jLI fu p N K n M nf0 Kk V c27 c76 T25 T32 X m N q nf t f φ Fa Ga Fb Gb → JP (cb_X4_walk_251 fu p Fa Ga) (mb_texts_127 fu Fb Gb) Q) :
    ∀ (nc nm k : Nat) (X : JCX) (m i q nf t f : Nat) (φ : Nat → Nat) (Fa : PF) (Ga : PG) (Fb : PF) (Gb : PG), jLI fu p N K n M nf0 Kk V c27 c76 T25 T32 X m i q nf t f φ Fa Ga Fb Gb → k ≤ i → JP (cl_X4_walk_7 fu nc p (nI k) Fa Ga) (ml_texts_87 fu nm (nI f) 1 Fb Gb) Q := by
  intro nc
  induction nc with
  | zero => intro nm k X m i q nf t f φ Fa Ga Fb Gb _ _; exact JP.noL
  | succ nc ih =>
    intro nm k X m i q nf t f φ Fa Ga Fb Gb inv hk
    cases nm with
    | zero => exact JP.noR
    | succ nm =>
      have inv' := inv
      obtain ⟨T, L, e27, w0, w1⟩ := inv
      have I := T.1
      have C := I.2.1.1
      have S := I.1.1
      have hp := I.1.2.1
      have iN : i ≤ N := C.1
      have n4 := S.1
      have l4 : (4001 : Int32).toInt = 4001 := rfl
      have fz42 : Fb 42 = nI i := C.2.2.1
      have h44 : Fb 44 = 0 := C.2.2.2.2.2.2.2.1
      have ix := C.ix S
      have g4 := L.1.1
      have g5 := L.1.2
      have f43 : Fb 43 = 0 := L.2.1.2.1.2.2.2
      have fb : f ≤ 449 := by
        have c2 := T.2.2.2.1.2
        rcases hp with z | z
        · have y1 := (T.2.2.2.2.2.1 z).2.2.2.2.1.2.1
          exact y1
        · have := (I.1.2.2.2.2.2 z).2.2.2.2.2.2.1
          omega
      have fI : (nI f).toInt.toNat = f := nI_c _ (by omega)
      have iI : (nI i).toInt.toNat = i := nI_c _ (by omega)
      have hpth : pth Kk V fu m = some (nI i, f) := by
        have := L.2.2.2.1
        rw [fI, fz42] at this
        exact this
      show JP (cb_X4_walk_7 fu (cl_X4_walk_7 fu nc) p (nI k) Fa Ga) (mb_texts_87 fu (ml_texts_87 fu nm) (nI f) 1 Fb Gb) Q
      unfold cb_X4_walk_7 mb_texts_87
      rw [if_neg (fun z => by have := i_le.mp z; rw [nI_toInt (by omega)] at this; omega), if_neg i10n]
      unfold cb_X4_walk_14 mb_texts_91
      refine JP.ixR (fun _ => ?_)
      rw [ix]
      by_cases hiN : i < N
      · have tk := (S.2.2.2.1 i hiN).1
        obtain ⟨p1, -, p3, -⟩ := tk.pos
        have e11 : Fa 11 = Ga 90 i := C.2.2.2.2.2.2.2.2.1
        have z0 : (0 : Int32).toInt = 0 := rfl
        have zm : (-2 : Int32).toInt = -2 := rfl
        rw [← e11] at p1
        have k0 : ¬ Gb 4 i = 0 := fun y => by rw [y] at p3; omega
        rw [if_neg (fun y => by rw [y] at p1; omega), if_neg k0]
        unfold cb_X4_walk_24
        rw [if_neg (fun y => by rw [y] at p1; omega)]
        unfold mb_texts_103
        have hk0 : ¬ Kk (Fb 42).toNatClampNeg = 0 := by
          rw [ix, ← g4]
          exact k0
        have yc := L.yc hk0
        refine JP.inj (P := fun r F2 G2 => TQ1 fu (nI f) Fb Gb r F2 G2 ∧ ROK (rtells Kk V fu (Fb 42) (Fb 43)) Fb r F2 ∧ G2 4 = Gb 4 ∧ G2 5 = Gb 5) (fun r F2 G2 e => ⟨(wz_tells hfu yc.1).to r F2 G2 e, mr_tells (K := Kk) (V := V) (nI f) Fb Gb g4 g5 h44 r F2 G2 e, (mw_tells (nI f) Fb Gb r F2 G2 e).2 4 rfl, (mw_tells (nI f) Fb Gb r F2 G2 e).2 5 rfl⟩) ?_
        -- a step of the trace
        have stp : ∀ (F2 : PF) (G2 : PG), (TQ1 fu (nI f) Fb Gb 1 F2 G2 ∧ ROK (rtells Kk V fu (Fb 42) (Fb 43)) Fb 1 F2 ∧ G2 4 = Gb 4 ∧ G2 5 = Gb 5) → LPt Kk V fu M (m + 1) (if F2 61 = 0 then nI f + 0 else nI f + 1) F2 G2 ∧ ((isfn (Gb 4) (Gb 5) (nI i) = false ∧ F2 61 = 0) ∨ (isfn (Gb 4) (Gb 5) (nI i) = true ∧ F2 61 = 1)) := by
          rintro F2 G2 ⟨tq, ro, q4, q5⟩
          have hr : rtells Kk V fu (Fb 42) 0 = some (some (F2 42)) := by
            rcases ro with ⟨-, -, -, e⟩ | ⟨e, -⟩
            · rw [f43] at e
              exact e
            · exact absurd e (by decide)
          rcases tq with ⟨-, hq⟩ | ⟨e, -⟩
          · refine ⟨(L.st hk0 ⟨q4, q5⟩ hr hq).1, ?_⟩
            rw [fz42] at hq
            rcases hq with ⟨y1, y2⟩ | ⟨y1, y2⟩
            · exact .inl ⟨y1, y2.1⟩
            · exact .inr ⟨y1, y2.1⟩
          · exact absurd e (by decide)
        have wps : ∀ (f' : Nat) (φ' : Nat → Nat), jWp Kk V fu m f φ → f ≤ f' → (∀ y : Nat, y < f → φ' y = φ y) → (isfn (Gb 4) (Gb 5) (nI i) = true → f < f' ∧ φ' f = i + 1) → jWp Kk V fu (m + 1) f' φ' := by
          intro f' φ' w hf hφ hnew m' hm' y g hy hfn
          by_cases e : m' = m
          · rw [e, hpth] at hy
            have := Option.some.inj hy
            rw [Prod.mk.injEq] at this
            obtain ⟨e1, e2⟩ := this
            subst e1 e2
            rw [← g4, ← g5] at hfn
            obtain ⟨v1, v2⟩ := hnew hfn
            rw [iI]
            exact ⟨v1, v2⟩
          · obtain ⟨v1, v2⟩ := w m' (by omega) y g hy hfn
            exact ⟨by omega, by rw [hφ g v1]; exact v2⟩
        refine jt_turn hQ (fun F0 y z F G h => kw_7 nc F0 y z F G h) (fun F0 r F G h => jIj.pp (nqj_texts_108 (ml_texts_87 fu nm) (fun x1 x2 F G hM => nqz_texts_87 nm x1 x2 F G hM) (nI f) r F G h)) (fun r1 F1 G1 r2 F2 G2 z hf h25 h32 h43 => hN r1 F1 G1 r2 F2 G2 z ⟨f, ?_, ?_, ?_⟩ h43) T hiN (fun z => (w1 z).1) (fun z is => ?_) (fun z => (w0 z).1) (fun Y t1 j F1 G1 F2 G2 isf T1 wd nj e10 ⟨a27, a76, a25, a32, a24, aX⟩ => JP.ij (fun hP => ?_)) (fun Y t1 j F1 G1 F2 G2 z isf T1 wd nj e10 ⟨a27, a76, a25, a32, a24, aX⟩ hm => JP.ij (fun hP => ?_)) (fun Y q' t1 j φ' F1 G1 F2 G2 z isf T1 hφ nj e10 ma a27 => JP.ij (fun hP => ?_))
        · have := (w1 z).2.2.2.2.2.1
          omega
        · rw [← (w1 z).2.2.2.1, h25]; exact e27
        · rw [← (w1 z).2.2.2.2.1]; exact h32
        · have mM := yc.2 (by rw [I.1.2.2.1.1]; exact z)
          have := (w1 z).2.1 m mM (nI i) f hpth (by rw [← g4, ← g5]; exact is)
          rw [iI] at this
          exact this
        · obtain ⟨l1, ⟨-, c61⟩ | ⟨y, -⟩⟩ := stp F2 G2 hP
          · rw [if_pos c61, Int32.add_zero] at l1
            show JP (cb_X4_walk_245 fu (cl_X4_walk_7 fu nc) p (nI k) F1 G1) (mb_texts_108 fu (ml_texts_87 fu nm) (nI f) 1 F2 G2) Q
            unfold mb_texts_108
            rw [if_pos c61]
            unfold mb_texts_121 mb_texts_122 cb_X4_walk_245
            rw [Int32.add_zero, nI_s k (by omega)]
            refine ih nm (k + 1) Y (m + 1) j q nf t1 f φ F1 G1 F2 G2 ⟨T1, l1, a27.trans e27, fun z => ⟨?_, ?_⟩, fun z => ⟨wd z, (w1 z).2.1, a76.trans (w1 z).2.2.1, a25.trans (w1 z).2.2.2.1, a32.trans (w1 z).2.2.2.2.1, (w1 z).2.2.2.2.2⟩⟩ (by omega)
            · have := (w0 z).1
              unfold jMa at this ⊢
              rw [a27, a76, a25]
              exact this
            · exact wps f φ (w0 z).2 (Nat.le_refl _) (fun _ _ => rfl) (fun y => by rw [isf] at y; cases y)
          · rw [isf] at y
            cases y
        · obtain ⟨l1, ⟨y, -⟩ | ⟨-, c61⟩⟩ := stp F2 G2 hP
          · rw [isf] at y
            cases y
          · have n61 : ¬ F2 61 = 0 := by rw [c61]; decide
            rw [if_neg n61, nI_s f (by omega)] at l1
            subst z
            show JP (cb_X4_walk_245 fu (cl_X4_walk_7 fu nc) 1 (nI k) F1 G1) (mb_texts_108 fu (ml_texts_87 fu nm) (nI f) 1 F2 G2) Q
            unfold mb_texts_108
            rw [if_neg n61]
            unfold mb_texts_117 mb_texts_122 cb_X4_walk_245
            rw [nI_s f (by omega), nI_s k (by omega)]
            refine ih nm (k + 1) Y (m + 1) j q nf t1 (f + 1) φ F1 G1 F2 G2 ⟨T1, l1, a27.trans e27, fun z => absurd z (by decide), fun z => ⟨wd, (w1 z).2.1, a76.trans (w1 z).2.2.1, a25.trans (w1 z).2.2.2.1, a32.trans (w1 z).2.2.2.2.1, (w1 z).2.2.2.2.2.1, fun y hy h25 => ?_⟩⟩ (by omega)
            by_cases ey : y = f
            · rw [ey, ← (w1 z).2.2.2.2.1]
              rw [ey, ← (w1 z).2.2.2.1, ← e27] at h25
              exact hm h25
            · exact (w1 z).2.2.2.2.2.2 y (by omega) h25
        · obtain ⟨l1, ⟨y, -⟩ | ⟨-, c61⟩⟩ := stp F2 G2 hP
          · rw [isf] at y
            cases y
          · have n61 : ¬ F2 61 = 0 := by rw [c61]; decide
            rw [if_neg n61, nI_s f (by omega)] at l1
            subst z
            show JP (cb_X4_walk_245 fu (cl_X4_walk_7 fu nc) 0 (nI k) F1 G1) (mb_texts_108 fu (ml_texts_87 fu nm) (nI f) 1 F2 G2) Q
            unfold mb_texts_108
            rw [if_neg n61]
            unfold mb_texts_117 mb_texts_122 cb_X4_walk_245
            rw [nI_s f (by omega), nI_s k (by omega)]
            refine ih nm (k + 1) Y (m + 1) j q' (f + 1) t1 (f + 1) φ' F1 G1 F2 G2 ⟨T1, l1, a27.trans e27, fun _ => ⟨ma, ?_⟩, fun z => absurd z (by decide)⟩ (by omega)
            exact wps (f + 1) φ' (w0 rfl).2 (by omega) hφ.1 (fun _ => ⟨by omega, hφ.2⟩)
      · have e : i = N := by omega
        subst e
        have c0 : Fa 11 = 0 := by
          rw [C.2.2.2.2.2.2.2.2.1]
          exact C.2.2.2.2.2.2.2.2.2.2.2 rfl
        rw [if_pos c0, if_pos S.2.2.2.2.1]
        exact Hend X m q nf t f φ Fa Ga Fb Gb inv'
end JVQ
