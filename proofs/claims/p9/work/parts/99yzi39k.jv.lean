section JVK
variable {fu : Nat} {X : JCX} {N K n q nf t f n0 : Nat} {φ : Nat → Nat} {cid pl gv xv x1 x2 : Int32} {Fa Fb : PF} {Ga Gb : PG} {ag : Int32 → Int32 → PF → PG → PR} {g : Int32 × PF × PG → PR} {Q : Int32 → PF → PG → Int32 → PF → PG → Prop}
/-- a function, in the second pass -/
theorem jt_fun1 (hQ : ∀ (r1 : Int32) (F1 : PF) (G1 : PG) (r2 : Int32) (F2 : PF) (G2 : PG), jEnd F1 F2 → Q r1 F1 G1 r2 F2 G2) (hkk : ∀ (F0 F : PF) (G : PG), CFS F0 F → PP (cb_X4_walk_176 fu ag x1 x2 F G) (fun _ F' _ => CFS F0 F')) (hg : ∀ (F0 : PF) (r : Int32) (F : PF) (G : PG), MFS F0 F → PP (g (r, F, G)) (fun _ F' _ => MFS F0 F')) (hN : ∀ (r1 : Int32) (F1 : PF) (G1 : PG) (r2 : Int32) (F2 : PF) (G2 : PG), cid = Fa 27 → ¬ (Gb 4 (n0 + 2) = 4 ∧ Gb 5 (n0 + 2) = 23) → (F1 43).toInt ≤ 4000 → Q r1 F1 G1 r2 F2 G2) (T : jGs X 1 N K n q nf t (n0 + 1) f φ Fa Ga Fb Gb) (hw : jWd X Fa Ga Fb Gb) (hc : cid = Gb 5 n0) (hpl : pl = Gb 6 n0) (hf : f < nf) (hφ : φ f = n0) (hgv : (Gb 5 (n0 - 1) = 0 ∧ gv = 1) ∨ (Gb 5 (n0 - 1) = 2 ∧ gv = 0))
    (H : ∀ (Y : JCX) (t1 j' : Nat) (F3 : PF) (G3 : PG) (F4 : PF) (G4 : PG), jGs Y 1 N K n q nf t1 j' (f + 1) φ F3 G3 F4 G4 → (Y.2.1 = X.2.1 ∧ Y.2.2.2 = X.2.2.2) → n0 < j' → (F3 10).toInt = (Fa 10).toInt → jWd Y F3 G3 F4 G4 → (F3 27 = Fa 27 ∧ F3 76 = Fa 76 ∧ G4 25 = Gb 25 ∧ G4 32 = Gb 32 ∧ F4 24 = Fb 24) → (cid = Fa 27 → Gb 4 (n0 + 2) = 4 ∧ Gb 5 (n0 + 2) = 23) → JP (cb_X4_walk_176 fu ag x1 x2 F3 G3) (g (1, F4, G4)) Q) : JP (cb_X4_walk_147 fu ag x1 x2 cid gv pl cid Fa Ga) ((mf_function fu (nI f) (nI n0) xv Fb Gb).bind g) Q := by
  have S := T.1.1
  have n4 := S.1.1
  have nfl := (S.2.2.2.2.2 rfl).2.2.2.2.2.2.1
  have wB : ∀ (F0 : PF) (r : Int32) (F : PF) (G : PG), CFS F0 F → PP ((cf_X4_block fu F G).bind (fun q => (cf_X4_endFunction fu q.2.1 q.2.2).bind (fun q => cb_X4_walk_176 fu ag x1 x2 q.2.1 q.2.2))) (fun _ F' _ => CFS F0 F') := fun F0 r F G h => PP.bind (kq_X4_block F G) (fun r1 F1 G1 h1 => PP.bind (kq_X4_endF F0 F1 G1 (CFS.tr h h1)) (fun r2 F2 G2 h2 => hkk F0 F2 G2 h2))
  have w165 : ∀ (F0 : PF) (z : Int32) (F : PF) (G : PG), CFS F0 F → PP (cb_X4_walk_165 fu ag x1 x2 z F G) (fun _ F' _ => CFS F0 F') := fun F0 z F G h => PP.bind (kq_X4_formals z F G) (fun r1 F1 G1 h1 => wB F0 r1 F1 G1 (CFS.tr h h1))
  unfold cb_X4_walk_147
  refine jt_fhead1 (kc := fun q => cb_X4_walk_150 fu ag x1 x2 cid q.2.1 q.2.2) hQ (fun F0 r F G h => ?_) hg T hc hpl hf hφ hgv (fun F3 G3 F4 V3 ⟨e15, e49, e51⟩ e80 k3 k4 => ?_)
  · show PP (cb_X4_walk_150 fu ag x1 x2 cid F G) _
    unfold cb_X4_walk_150
    exact PP.ite (fun _ => w165 F0 1 F G h) (fun _ => w165 F0 0 F G h)
  dsimp only
  obtain ⟨om, hom, hom2, e150⟩ : ∃ om : Int32, (¬ om = 0 → cid = Fa 27) ∧ (cid = Fa 27 → ¬ om = 0) ∧ cb_X4_walk_150 fu ag x1 x2 cid F3 G3 = (cf_X4_formals fu om F3 G3).bind (fun q => (cf_X4_block fu q.2.1 q.2.2).bind (fun q => (cf_X4_endFunction fu q.2.1 q.2.2).bind (fun q => cb_X4_walk_176 fu ag x1 x2 q.2.1 q.2.2))) := by
    unfold cb_X4_walk_150
    by_cases c : cid = F3 27
    · rw [if_pos c]
      exact ⟨1, fun _ => by rw [k3.1 27 rfl] at c; exact c, fun _ => by decide, rfl⟩
    · rw [if_neg c]
      exact ⟨0, fun y => absurd rfl y, fun y => absurd (by rw [k3.1 27 rfl]; exact y) c, rfl⟩
  rw [e150]
  refine jt_fls1 hQ wB hg (fun r1 F1 G1 r2 F2 G2 h1 h2 h3 => hN r1 F1 G1 r2 F2 G2 (hom h1) h2 h3) V3 e49 (fun Y t1 j' c x4 F5 G5 F6 G6 V5 nfm jj e10 k5 k6 ⟨c4, co, ex, uq, L, nl, ll⟩ => ?_)
  dsimp only
  have g6 : G6 6 = Gb 6 := k6.2 6 rfl
  have jN : j' ≤ N := V5.1.2.1.1.1
  have po := T.2.2.2.2.1.1 f hf
  obtain ⟨-, -, -, -, c', q27, nf', nl'⟩ := po
  rw [hφ] at nf' nl'
  have cc : c' = c := nf'.one nfm
  rw [cc] at q27
  refine jt_fbody (kk := fun q => cb_X4_walk_176 fu ag x1 x2 q.2.1 q.2.2) hQ (fun F0 r F G h => hkk F0 F G h) hg V5 (by rw [k6.1 15 rfl]; exact e15) ?_ ?_ (by omega) (fun _ => hf) (fun _ => ex) (fun _ => by rw [k6.2 27 rfl]; exact q27) (fun _ => by rw [k6.1 51 rfl]; exact e51) (fun Z t2 j2 F7 G7 F8 G8 I7 ⟨uz, z1⟩ jl ⟨a42, a15, a28, a29, a54, axb, a10⟩ ⟨kx, ky⟩ _ ⟨e27, e27'⟩ hm bd => ?_)
  · have y1 := T.1.2.2
    have y2 := S.inc (a := n0 + 1) (b := n0 + 2) (by omega) (by omega)
    have y3 := S.inc (a := n0 + 2) (b := j') (by omega) jN
    rw [k5.1 6 rfl, k3.1 6 rfl, g6]
    omega
  · rw [k5.1 28 rfl, k3.1 28 rfl]; exact T.2.2.2.1.1
  · obtain ⟨⟨m1, m2⟩, P⟩ := hm rfl
    have h27 : G8 27 = Gb 27 := by
      funext y
      by_cases cy : y = f
      · rw [cy, e27, q27]
      · rw [e27' y cy, k6.2 27 rfl]
    have uu := uq.tr uz
    refine H (Z.1, Z.2.1, [], Z.2.2.2) t2 j2 F7 G7 F8 G8 ⟨I7, ⟨z1, rfl, a54, axb⟩, ⟨?_, a42, a15⟩, ⟨a28, by omega⟩, ?_, fun z => absurd z (by decide), fun _ => ⟨?_, fun y hy => ?_, fun y hy => ?_⟩⟩ ⟨uu.2, uu.1.2.2.2⟩ (by omega) ?_ ?_ ⟨?_, ?_, ?_, ?_, ?_⟩ (fun y => ?_)
    · rw [a29, k6.1 51 rfl]; exact e51
    · have PO := T.2.2.2.2.1
      unfold jPO at PO ⊢
      rw [h27, ky.2 4 rfl, ky.2 5 rfl, ky.2 6 rfl, ky.2 25 rfl, ky.2 26 rfl, ky.2 32 rfl, ky.2 33 rfl, k6.2 4 rfl, k6.2 5 rfl, k6.2 6 rfl, k6.2 25 rfl, k6.2 26 rfl, k6.2 32 rfl, k6.2 33 rfl]
      refine ⟨fun g hg => ?_, PO.2⟩
      have a := ((I7.1.2.2.2.2.2 rfl).2.2.2.2.2.2.2 g hg).2.2.2.2.2.2.2.2
      have b := ((S.2.2.2.2.2 rfl).2.2.2.2.2.2.2 g hg).2.2.2.2.2.2.2.2
      have e : jKf G8 g = jKf Gb g := (a.symm.trans (congrFun uu.1.2.2.2 g)).trans b
      rw [e]
      exact PO.1 g hg
    · rw [ky.2 4 rfl, ky.2 5 rfl]; exact P
    · by_cases cy : y = f
      · rw [cy]; exact m1
      · rw [(m2 y cy).1, (m2 y cy).2, k5.2 79 rfl, k3.2 79 rfl, k6.2 28 rfl]
        exact (T.2.2.2.2.2.2 rfl).2.1 y (by omega)
    · have e6 : F5 6 = Fa 6 := (k5.1 6 rfl).trans (k3.1 6 rfl)
      have e60 : F6 60 = Fb 60 := (k6.1 60 rfl).trans (k4.1 60 rfl)
      have c0 : jCB Fa Ga Fb Gb F5 G5 F6 G6 := jCB.of e60 e6 ((k5.2 5 rfl).trans (k3.2 5 rfl)) (KX.c k6 rfl rfl rfl rfl)
      have g80 : ∀ y : Nat, G7 80 y = G3 80 y := fun y => by rw [kx.2 80 rfl, k5.2 80 rfl]
      obtain ⟨d1, d2, d3, mu, A, le, d4, d5, d6, d7, d8, d9, d10, d11⟩ := bd rfl
      show jFC Z.2.1 Z.2.2.2 y (sN F8) (wN F7) G7 G8
      by_cases cy : y = f
      · rw [cy]
        have eL : Y.2.2.1 = jFl (Z.2.2.2 f) := by
          obtain ⟨-, -, -, -, -, -, -, -, kk⟩ := (S.2.2.2.2.2 rfl).2.2.2.2.2.2.2 f hf
          have e1 : X.2.2.2 f = jKf Gb f := kk
          rw [ll, T.2.1.2.1, uu.1.2.2.2, e1, ← nl'.one nl]
          rfl
        rw [eL] at d8
        refine ⟨sN F6, sN F8, mu, A, le, ⟨d3.trans (jnI V5.1.2.1.2.2.2.2.1).symm, d4, Nat.le_refl _⟩, ⟨?_, Nat.le_of_eq d6, d7⟩, d8, d9, d10, ?_⟩
        · rw [g80, e80.1, d5, ← e6]
          exact (jnI V5.1.2.1.2.2.2.1).symm
        · rw [uz.2, uz.1.2.2.2]
          exact d11
      · have w := ((T.2.2.2.2.2.2 rfl).2.2 y (by omega)).ext (ml := []) (c0.tr d1) (by rw [(m2 y cy).2, k6.2 28 rfl]) (by rw [(d2 y cy).1, k6.2 29 rfl]) (by rw [(d2 y cy).2, k6.2 30 rfl]) (by rw [g80, e80.2 y cy])
        rw [List.append_nil] at w
        rw [uu.2, uu.1.2.2.2]
        exact w
    · have := k3.1 10 rfl
      rw [a10, e10, this]
    · unfold jWd at hw ⊢
      show F8 36 = F7 75 ∧ (F7 75).toInt = ((jsW Z.2.1 : Nat) : Int) ∧ (F8 37).toInt = ((jsC Z.2.1 : Nat) : Int) ∧ jsW Z.2.1 ≤ 2000 ∧ jF0 Z.2.1 (G7 86) (G8 41) ∧ jL0 Z.2.1 (G8 38) (G8 39) (G8 40)
      rw [uu.2, ky.1 36 rfl, ky.1 37 rfl, kx.1 75 rfl, k6.1 36 rfl, k6.1 37 rfl, k5.1 75 rfl, k4.1 36 rfl, k4.1 37 rfl, k3.1 75 rfl, kx.2 86 rfl, ky.2 41 rfl, k5.2 86 rfl, k6.2 41 rfl, k3.2 86 rfl, k4.2 41 rfl, ky.2 38 rfl, ky.2 39 rfl, ky.2 40 rfl, k6.2 38 rfl, k6.2 39 rfl, k6.2 40 rfl, k4.2 38 rfl, k4.2 39 rfl, k4.2 40 rfl]
      exact hw
    · rw [kx.1 27 rfl, k5.1 27 rfl, k3.1 27 rfl]
    · rw [kx.1 76 rfl, k5.1 76 rfl, k3.1 76 rfl]
    · rw [ky.2 25 rfl, k6.2 25 rfl]
    · rw [ky.2 32 rfl, k6.2 32 rfl]
    · rw [ky.1 24 rfl, k6.1 24 rfl, k4.1 24 rfl]
    · have c0 : c = 0 := by
        rcases co with z | z
        · exact z
        · exact absurd z (hom2 y)
      obtain ⟨m, -, q2, ⟨q3, -⟩ | ⟨-, q3⟩⟩ := nfm
      · rw [q3] at q2
        exact q2
      · omega
end JVK
