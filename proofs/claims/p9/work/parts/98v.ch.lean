theorem WP.toPP {o : PR} {Q : Int32 → PF → PG → Prop} (h : WP o Q) : PP o Q := by
  obtain ⟨r, F, G, e, h⟩ := h
  intro r1 F1 G1 e1
  rw [e] at e1
  have e1 := Option.some.inj e1
  cases e1
  exact h
/-- jumps that wait, each with the next in its aim -/
def chn (a : Nat → Int32) : List Nat → Int32 → Int32 → Prop
  | [], x, y => x = y
  | p :: l, x, y => 0 ≤ x.toInt ∧ x.toInt < 9000 ∧ x.toNatClampNeg = p ∧ chn a l (a p) y
theorem chn.ext {a a1 : Nat → Int32} : ∀ (l : List Nat) (x y : Int32), (∀ p ∈ l, a1 p = a p) → chn a l x y → chn a1 l x y := by
  intro l
  induction l with
  | nil => intro x y _ h; exact h
  | cons p l ih =>
    intro x y he h
    obtain ⟨h0, h1, h2, h3⟩ := h
    refine ⟨h0, h1, h2, ?_⟩
    rw [he p (List.mem_cons_self ..)]
    exact ih _ _ (fun q hq => he q (List.mem_cons_of_mem _ hq)) h3
theorem chn.app {a : Nat → Int32} : ∀ (l m : List Nat) (x y z : Int32), chn a l x y → chn a m y z → chn a (l ++ m) x z := by
  intro l
  induction l with
  | nil => intro m x y z h h1; rw [show x = y from h]; exact h1
  | cons p l ih =>
    intro m x y z h h1
    obtain ⟨h0, h2, h3, h4⟩ := h
    exact ⟨h0, h2, h3, ih m _ y z h4 h1⟩
/-- all of them get the aim v -/
def pall (G : PG) (v : Int32) : List Nat → PG
  | [] => G
  | p :: l => pall (gup G 57 p v) v l
theorem pall_o {v : Int32} {k : Nat} (hk : k ≠ 57) : ∀ (l : List Nat) (G : PG), pall G v l k = G k := by
  intro l
  induction l with
  | nil => intro G; rfl
  | cons p l ih =>
    intro G
    exact (ih (gup G 57 p v)).trans (gup_o hk)
theorem pall_x {v : Int32} {k : Nat} : ∀ (l : List Nat) (G : PG), k ∉ l → pall G v l 57 k = G 57 k := by
  intro l
  induction l with
  | nil => intro G _; rfl
  | cons p l ih =>
    intro G h
    have h1 : k ≠ p := fun q => h (by rw [q]; exact List.mem_cons_self ..)
    exact (ih (gup G 57 p v) (fun q => h (List.mem_cons_of_mem _ q))).trans (gup_x h1)
theorem pall_kx {v : Int32} {F : PF} : ∀ (l : List Nat) (G : PG), KX [] [57] F G F (pall G v l) := by
  intro l G
  refine ⟨fun _ _ => rfl, fun k hk => ?_⟩
  refine pall_o (fun q => ?_) l G
  rw [q] at hk
  cases hk
theorem ms_settle {fu : Nat} (hfu : 8589934592 ≤ fu) (x v : Int32) (F : PF) (G : PG) (l : List Nat) (hc : chn (G 57) l x (-1)) (hn : l.Nodup) (hl : l.length ≤ 9000) : WP (mf_settle fu x v F G) (fun _ F1 G1 => F = F1 ∧ pall G v l = G1) := by
  have loop : ∀ (n : Nat) (l : List Nat) (x : Int32) (G : PG), chn (G 57) l x (-1) → l.Nodup → l.length < n → WP (ml_settle_2 fu n v x F G) (fun _ F1 G1 => F = F1 ∧ pall G v l = G1) := by
    intro n
    induction n with
    | zero => intro l x G _ _ h; exact absurd h (Nat.not_lt_zero _)
    | succ n ih =>
      intro l x G hc hn hl
      show WP (mb_settle_2 fu (ml_settle_2 fu n) v x F G) _
      unfold mb_settle_2
      cases l with
      | nil =>
        have : x = -1 := hc
        refine WP.ite (fun _ => ?_) (fun c => absurd this c)
        exact WP.ret ⟨rfl, rfl⟩
      | cons p l =>
        obtain ⟨h0, h1, h2, h3⟩ := hc
        have hne : ¬ x = -1 := fun q => by rw [q] at h0; exact absurd h0 (by decide)
        refine WP.ite (fun c => absurd c hne) (fun _ => ?_)
        obtain ⟨n1, n2⟩ := List.nodup_cons.mp hn
        unfold mb_settle_7
        refine WP.ix (vp_in_iff.mpr ⟨h0, by omega⟩) (WP.ix (vp_in_iff.mpr ⟨h0, by omega⟩) ?_)
        rw [h2]
        unfold mb_settle_22
        have hl1 : l.length < n := by
          have : (p :: l).length = l.length + 1 := rfl
          omega
        have hcc : chn ((gup G 57 p v) 57) l (G 57 p) (-1) := chn.ext l _ _ (fun q hq => gup_x (fun e => n1 (by rw [← e]; exact hq))) h3
        exact ih l (G 57 p) (gup G 57 p v) hcc n2 hl1
  unfold mf_settle mb_settle_0
  exact loop fu l x G hc hn (by omega)
def lpH (s : SH) (d : Nat) (l : List Nat) : List (Nat × SH × Nat) := l.map (fun p => (p, s, d))
section PAT
variable {X : TX} {F0 F : PF} {G0 G : PG} {A0 : AN} {s : SH} {d : Nat} {hs ls : List (Nat × SH × Nat)}
theorem EX.patches (h60 : 0 ≤ (F 60).toInt) : ∀ (l : List Nat) (G : PG), EX X F0 G0 A0 F G s d (lpH s d l ++ hs) → EX X F0 G0 A0 F (pall G (F 60) l) s d hs := by
  intro l
  induction l with
  | nil => intro G h; exact h
  | cons p l ih =>
    intro G h
    exact ih _ (EX.patch (l1 := []) (l2 := lpH s d l ++ hs) h h60)
theorem EY.patches (h60 : 0 ≤ (F 60).toInt) : ∀ (l : List Nat) (G : PG), EY X F0 G0 A0 F G s d (lpH s d l ++ hs) ls → EY X F0 G0 A0 F (pall G (F 60) l) s d hs ls := by
  intro l
  induction l with
  | nil => intro G h; exact h
  | cons p l ih =>
    intro G h
    exact ih _ (EY.patch (l1 := []) (l2 := lpH s d l ++ hs) h h60)
theorem EX.patchesB {q : Nat} {v : Int32} {sq : SH} {dq : Nat} (hv : 0 ≤ v.toInt) (hq : v.toInt.toNat = q) (hqn : q ≤ sN F0) (hA : A0 q = (sq, dq, false)) (hd : dq < (A0 (sN F0)).2.1) (hm : X.1 = false) : ∀ (l : List Nat) (G : PG) (l1 : List (Nat × SH × Nat)), EX X F0 G0 A0 F G s d (l1 ++ (lpH sq dq l ++ hs)) → EX X F0 G0 A0 F (pall G v l) s d (l1 ++ hs) := by
  intro l
  induction l with
  | nil => intro G l1 h; exact h
  | cons p l ih =>
    intro G l1 h
    exact ih _ l1 (EX.patchB (l1 := l1) (l2 := lpH sq dq l ++ hs) h hv hq hqn hA hd hm)
end PAT
