abbrev BA : Type := Int32 × Int32 × Int32 × Option (Nat × Int32) × Int32
def bk (g : Nat → Int32) (d v : Int32) : Nat → Int32 := if d ≤ (0 : Int32) then g else upd g d.toNatClampNeg v
def bm (m : Nat → Int32) (q : Option (Nat × Int32)) : Nat → Int32 := match q with | none => m | some q => upd m q.1 q.2
def okw (r : Int32) : Prop := r = 0 ∨ r = 6 ∨ r = 7
def aN (why pc : Int32) : BA := (why, 0, 0, none, pc)
def aD (pc d v : Int32) : BA := (0, d, v, none, pc + (4 : Int32))
def aT (pc x : Int32) : BA := if (x &&& (3 : Int32)) = (0 : Int32) then (0, 0, 0, none, x) else aN 3 pc
def aJ (pc d x : Int32) : BA := if (x &&& (3 : Int32)) = (0 : Int32) then (0, d, pc + (4 : Int32), none, x) else aN 3 pc
def aH (pc f z x : Int32) : BA := if (f &&& (1 : Int32)) = (1 : Int32) then (if z = (1 : Int32) then aD pc 0 0 else aT pc x) else (if z = (0 : Int32) then aD pc 0 0 else aT pc x)
def hz (f a b : Int32) : Int32 := if (2 : Int32) ≤ f then (if (6 : Int32) ≤ f then (if b + (-2147483648 : Int32) ≤ a + (-2147483648 : Int32) then 0 else 1) else (if b ≤ a then 0 else 1)) else (if a = b then 1 else 0)
def aB (pc f a b x : Int32) : BA := if f = (2 : Int32) then aN 2 pc else if f = (3 : Int32) then aN 2 pc else aH pc f (hz f a b) x
def plv (f q a b : Int32) : Int32 := if f.toInt < 0 ∨ 6 < f.toInt then a &&& b else if f = 0 then (if q = (0 : Int32) then a + b else a - b) else if f = 1 then a <<< (b &&& 31) else if f = 2 then (if b ≤ a then 0 else 1) else if f = 3 then (if b + (-2147483648 : Int32) ≤ a + (-2147483648 : Int32) then 0 else 1) else if f = 4 then a ^^^ b else if f = 5 then (if q = (0 : Int32) then ((a.toUInt32 >>> (b.toUInt32 &&& Int32.toUInt32 31)).toInt32) else a >>> (b &&& 31)) else a ||| b
def pv (f a b : Int32) : Int32 := if f.toInt < 0 ∨ 6 < f.toInt then (if b = (0 : Int32) then a else (((a.toInt64) &&& (4294967295 : Int64)) - ((a.toInt64) &&& (4294967295 : Int64)) / ((b.toInt64) &&& (4294967295 : Int64)) * ((b.toInt64) &&& (4294967295 : Int64))).toInt32) else if f = 0 then a * b else if f = 1 then (((a.toInt64) * (b.toInt64)) >>> ((32 : Int32).toInt64 &&& 63)).toInt32 else if f = 2 then (((a.toInt64) * ((b.toInt64) &&& (4294967295 : Int64))) >>> ((32 : Int32).toInt64 &&& 63)).toInt32 else if f = 3 then (((((a.toInt64) &&& (4294967295 : Int64)) * ((b.toInt64) &&& (4294967295 : Int64))).toUInt64 >>> ((32 : Int32).toInt64.toUInt64 &&& Int64.toUInt64 63)).toInt64).toInt32 else if f = 4 then (if b = (0 : Int32) then -1 else if b = (-1 : Int32) then -a else a / b) else if f = 5 then (if b = (0 : Int32) then -1 else (((a.toInt64) &&& (4294967295 : Int64)) / ((b.toInt64) &&& (4294967295 : Int64))).toInt32) else (if b = (0 : Int32) then a else if b = (-1 : Int32) then 0 else a - a / b * b)
def iq (f g : Int32) : Int32 := if f = (5 : Int32) then (if g = (32 : Int32) then 1 else 0) else 0
def aI3 (pc f g d a i : Int32) : BA := aD pc d (plv f (iq f g) a i)
def aI2 (pc f g d a i : Int32) : BA := if f = (5 : Int32) then (if g = (0 : Int32) then aI3 pc f g d a i else if g = (32 : Int32) then aI3 pc f g d a i else aN 2 pc) else aI3 pc f g d a i
def aI (pc f g d a i : Int32) : BA := if f = (1 : Int32) then (if g = (0 : Int32) then aI2 pc f g d a i else aN 2 pc) else aI2 pc f g d a i
def aR3 (pc f g d a b : Int32) : BA := aD pc d (plv f (if g = (32 : Int32) then 1 else 0) a b)
def aR (pc f g d a b : Int32) : BA := if g = (1 : Int32) then aD pc d (pv f a b) else if g = (0 : Int32) then aR3 pc f g d a b else if g = (32 : Int32) then (if f = (0 : Int32) then aR3 pc f g d a b else if f = (5 : Int32) then aR3 pc f g d a b else aN 2 pc) else aN 2 pc
def ln (f : Int32) : Int32 := (1 : Int32) <<< ((f &&& (3 : Int32)) &&& 31)
def lv0 (n m ad : Int32) : Int32 := ((m.toUInt32 >>> (((ad &&& (3 : Int32)) * (8 : Int32)).toUInt32 &&& Int32.toUInt32 31)).toInt32) <<< (((32 : Int32) - (n * (8 : Int32))) &&& 31)
def lv (f n m ad : Int32) : Int32 := if (4 : Int32) ≤ f then (((lv0 n m ad).toUInt32 >>> (((32 : Int32) - (n * (8 : Int32))).toUInt32 &&& Int32.toUInt32 31)).toInt32) else (lv0 n m ad) >>> (((32 : Int32) - (n * (8 : Int32))) &&& 31)
def ix2 (ad : Int32) : Nat := (ad >>> ((2 : Int32) &&& 31)).toNatClampNeg
def aL (mm : Nat → Int32) (pc f d ad : Int32) : BA := if f = (3 : Int32) then aN 2 pc else if f ≤ (5 : Int32) then (if (ad &&& (ln f - (1 : Int32))) = (0 : Int32) then (if ad < (0 : Int32) then aN 5 pc else if ad ≤ (16383 : Int32) then aD pc d (lv f (ln f) (mm (ix2 ad)) ad) else aN 5 pc) else aN 4 pc) else aN 2 pc
def sk (n ad : Int32) : Int32 := (((-1 : Int32).toUInt32 >>> (((32 : Int32) - (n * (8 : Int32))).toUInt32 &&& Int32.toUInt32 31)).toInt32) <<< (((ad &&& (3 : Int32)) * (8 : Int32)) &&& 31)
def sv (n m v ad : Int32) : Int32 := (m &&& (sk n ad ^^^ (-1 : Int32))) ||| ((v <<< (((ad &&& (3 : Int32)) * (8 : Int32)) &&& 31)) &&& sk n ad)
def sn (f : Int32) : Int32 := (1 : Int32) <<< (f &&& 31)
def aS (mm : Nat → Int32) (pc f ad v : Int32) : BA := if f ≤ (2 : Int32) then (if (ad &&& (sn f - (1 : Int32))) = (0 : Int32) then (if ad < (0 : Int32) then aN 5 pc else if ad ≤ (16383 : Int32) then (0, 0, 0, some (ix2 ad, sv (sn f) (mm (ix2 ad)) v ad), pc + (4 : Int32)) else aN 5 pc) else aN 4 pc) else aN 2 pc
def act (rg mm : Nat → Int32) (pc w : Int32) : BA :=
  if (w &&& (127 : Int32)) = 3 then aL mm pc (((w.toUInt32 >>> ((12 : Int32).toUInt32 &&& Int32.toUInt32 31)).toInt32) &&& (7 : Int32)) (((w.toUInt32 >>> ((7 : Int32).toUInt32 &&& Int32.toUInt32 31)).toInt32) &&& (31 : Int32)) (rg (((w.toUInt32 >>> ((15 : Int32).toUInt32 &&& Int32.toUInt32 31)).toInt32) &&& (31 : Int32)).toNatClampNeg + (w >>> ((20 : Int32) &&& 31)))
  else if (w &&& (127 : Int32)) = 15 then (if (((w.toUInt32 >>> ((12 : Int32).toUInt32 &&& Int32.toUInt32 31)).toInt32) &&& (7 : Int32)) = (0 : Int32) then aD pc 0 0 else aN 2 pc)
  else if (w &&& (127 : Int32)) = 19 then aI pc (((w.toUInt32 >>> ((12 : Int32).toUInt32 &&& Int32.toUInt32 31)).toInt32) &&& (7 : Int32)) ((w.toUInt32 >>> ((25 : Int32).toUInt32 &&& Int32.toUInt32 31)).toInt32) (((w.toUInt32 >>> ((7 : Int32).toUInt32 &&& Int32.toUInt32 31)).toInt32) &&& (31 : Int32)) (rg (((w.toUInt32 >>> ((15 : Int32).toUInt32 &&& Int32.toUInt32 31)).toInt32) &&& (31 : Int32)).toNatClampNeg) (w >>> ((20 : Int32) &&& 31))
  else if (w &&& (127 : Int32)) = 23 then aD pc (((w.toUInt32 >>> ((7 : Int32).toUInt32 &&& Int32.toUInt32 31)).toInt32) &&& (31 : Int32)) (pc + (w &&& (-4096 : Int32)))
  else if (w &&& (127 : Int32)) = 35 then aS mm pc (((w.toUInt32 >>> ((12 : Int32).toUInt32 &&& Int32.toUInt32 31)).toInt32) &&& (7 : Int32)) (rg (((w.toUInt32 >>> ((15 : Int32).toUInt32 &&& Int32.toUInt32 31)).toInt32) &&& (31 : Int32)).toNatClampNeg + (((w >>> ((25 : Int32) &&& 31)) <<< ((5 : Int32) &&& 31)) ||| (((w.toUInt32 >>> ((7 : Int32).toUInt32 &&& Int32.toUInt32 31)).toInt32) &&& (31 : Int32)))) (rg (((w.toUInt32 >>> ((20 : Int32).toUInt32 &&& Int32.toUInt32 31)).toInt32) &&& (31 : Int32)).toNatClampNeg)
  else if (w &&& (127 : Int32)) = 51 then aR pc (((w.toUInt32 >>> ((12 : Int32).toUInt32 &&& Int32.toUInt32 31)).toInt32) &&& (7 : Int32)) ((w.toUInt32 >>> ((25 : Int32).toUInt32 &&& Int32.toUInt32 31)).toInt32) (((w.toUInt32 >>> ((7 : Int32).toUInt32 &&& Int32.toUInt32 31)).toInt32) &&& (31 : Int32)) (rg (((w.toUInt32 >>> ((15 : Int32).toUInt32 &&& Int32.toUInt32 31)).toInt32) &&& (31 : Int32)).toNatClampNeg) (rg (((w.toUInt32 >>> ((20 : Int32).toUInt32 &&& Int32.toUInt32 31)).toInt32) &&& (31 : Int32)).toNatClampNeg)
  else if (w &&& (127 : Int32)) = 55 then aD pc (((w.toUInt32 >>> ((7 : Int32).toUInt32 &&& Int32.toUInt32 31)).toInt32) &&& (31 : Int32)) (w &&& (-4096 : Int32))
  else if (w &&& (127 : Int32)) = 99 then aB pc (((w.toUInt32 >>> ((12 : Int32).toUInt32 &&& Int32.toUInt32 31)).toInt32) &&& (7 : Int32)) (rg (((w.toUInt32 >>> ((15 : Int32).toUInt32 &&& Int32.toUInt32 31)).toInt32) &&& (31 : Int32)).toNatClampNeg) (rg (((w.toUInt32 >>> ((20 : Int32).toUInt32 &&& Int32.toUInt32 31)).toInt32) &&& (31 : Int32)).toNatClampNeg) (pc + (((((w >>> ((31 : Int32) &&& 31)) <<< ((12 : Int32) &&& 31)) ||| ((((w.toUInt32 >>> ((7 : Int32).toUInt32 &&& Int32.toUInt32 31)).toInt32) &&& (1 : Int32)) <<< ((11 : Int32) &&& 31))) ||| ((((w.toUInt32 >>> ((25 : Int32).toUInt32 &&& Int32.toUInt32 31)).toInt32) &&& (63 : Int32)) <<< ((5 : Int32) &&& 31))) ||| ((((w.toUInt32 >>> ((8 : Int32).toUInt32 &&& Int32.toUInt32 31)).toInt32) &&& (15 : Int32)) <<< ((1 : Int32) &&& 31))))
  else if (w &&& (127 : Int32)) = 103 then (if (((w.toUInt32 >>> ((12 : Int32).toUInt32 &&& Int32.toUInt32 31)).toInt32) &&& (7 : Int32)) = (0 : Int32) then aJ pc (((w.toUInt32 >>> ((7 : Int32).toUInt32 &&& Int32.toUInt32 31)).toInt32) &&& (31 : Int32)) ((rg (((w.toUInt32 >>> ((15 : Int32).toUInt32 &&& Int32.toUInt32 31)).toInt32) &&& (31 : Int32)).toNatClampNeg + (w >>> ((20 : Int32) &&& 31))) &&& (-2 : Int32)) else aN 2 pc)
  else if (w &&& (127 : Int32)) = 111 then aJ pc (((w.toUInt32 >>> ((7 : Int32).toUInt32 &&& Int32.toUInt32 31)).toInt32) &&& (31 : Int32)) (pc + (((((w >>> ((31 : Int32) &&& 31)) <<< ((20 : Int32) &&& 31)) ||| (w &&& (1044480 : Int32))) ||| ((((w.toUInt32 >>> ((20 : Int32).toUInt32 &&& Int32.toUInt32 31)).toInt32) &&& (1 : Int32)) <<< ((11 : Int32) &&& 31))) ||| ((((w.toUInt32 >>> ((21 : Int32).toUInt32 &&& Int32.toUInt32 31)).toInt32) &&& (1023 : Int32)) <<< ((1 : Int32) &&& 31))))
  else if w = (115 : Int32) then (6, 0, 0, none, pc + (4 : Int32)) else if w = (1048691 : Int32) then (7, 0, 0, none, pc + (4 : Int32)) else aN 2 pc
/-- what the class's word did -/
def CA (F : PF) (G : PG) (a : BA) (r : Int32) (F1 : PF) (G1 : PG) : Prop := r = a.1 ∧ G1 0 = bm (G 0) a.2.2.2.1 ∧ F1 2 = F 2 ∧ F1 3 = F 3 ∧ ((okw a.1 ∧ G1 1 = bk (G 1) a.2.1 a.2.2.1 ∧ F1 4 = a.2.2.2.2) ∨ (¬ okw a.1 ∧ G1 1 = G 1))
/-- what the reference's word did -/
def MA (F : PF) (G : PG) (a : BA) (r : Int32) (F1 : PF) (G1 : PG) : Prop := r = a.1 ∧ G1 94 = bm (G 94) a.2.2.2.1 ∧ ((okw a.1 ∧ G1 95 = upd (bk (G 95) a.2.1 a.2.2.1) 32 a.2.2.2.2 ∧ F1 96 = F 96 + 1) ∨ (¬ okw a.1 ∧ G1 95 = G 95 ∧ F1 96 = F 96))
theorem nok2 : ¬ okw 2 := by unfold okw; decide
theorem nok3 : ¬ okw 3 := by unfold okw; decide
theorem nok4 : ¬ okw 4 := by unfold okw; decide
theorem nok5 : ¬ okw 5 := by unfold okw; decide
theorem bk_0 {g : Nat → Int32} {v : Int32} : bk g 0 v = g := if_pos (by decide)
theorem ca_no {F : PF} {G : PG} {why pc : Int32} (h : ¬ okw why) : CA F G (aN why pc) why F G := ⟨rfl, rfl, rfl, rfl, .inr ⟨h, rfl⟩⟩
theorem ca_ok {F F1 : PF} {G G1 : PG} {why d v nx : Int32} {q : Option (Nat × Int32)} (hw : okw why) (h1 : G1 1 = bk (G 1) d v) (h0 : G1 0 = bm (G 0) q) (h2 : F1 2 = F 2) (h3 : F1 3 = F 3) (h4 : F1 4 = nx) : CA F G (why, d, v, q, nx) why F1 G1 := ⟨rfl, h0, h2, h3, .inl ⟨hw, h1, h4⟩⟩
theorem ma_no {F : PF} {G : PG} {why pc : Int32} (h : ¬ okw why) : MA F G (aN why pc) why F G := ⟨rfl, rfl, .inr ⟨h, rfl, rfl⟩⟩
theorem ma_ok {F : PF} {G G1 : PG} {why d v nx : Int32} {q : Option (Nat × Int32)} (hw : okw why) (h1 : G1 95 = bk (G 95) d v) (h0 : G1 94 = bm (G 94) q) : MA F G (why, d, v, q, nx) why (fup F 96 (F 96 + 1)) (gup G1 95 32 nx) :=
  ⟨rfl, (gup_o (by decide)).trans h0, .inl ⟨hw, by rw [gup_u, h1], fup_s⟩⟩
theorem PP.ifg {β : Type} {c : Prop} [Decidable c] {X Y : PR} {p q : β} {R : β → Int32 → PF → PG → Prop} (h1 : c → PP X (R p)) (h2 : ¬ c → PP Y (R q)) : PP (if c then X else Y) (R (if c then p else q)) := by
  by_cases h : c
  · rw [if_pos h, if_pos h]
    exact h1 h
  · rw [if_neg h, if_neg h]
    exact h2 h
theorem pq_keep {fu : Nat} {d v : Int32} {F : PF} {G : PG} {f : Int32 × PF × PG → PR} {Q : Int32 → PF → PG → Prop} (hd : d.toInt < 32) (h : ∀ G' : PG, G' 1 = bk (G 1) d v → G' 0 = G 0 → PP (f (0, F, G')) Q) : PP ((cf_X0_keep fu d v F G).bind f) Q := by
  refine PP.bind (Q1 := fun r F' G' => r = 0 ∧ F = F' ∧ G' 1 = bk (G 1) d v ∧ G' 0 = G 0) ?_ ?_
  · unfold cf_X0_keep cb_X0_keep_0 cb_X0_keep_4 cb_X0_keep_10 cb_X0_keep_17
    refine PP.ite (fun c => PP.ret ⟨rfl, rfl, (if_pos c).symm, rfl⟩) (fun c => PP.ite (fun e => ?_) (fun e => PP.ix (fun _ => PP.ret ⟨rfl, rfl, ?_, gup_o (by decide)⟩)))
    · have e0 : (32 : Int32).toInt = 32 := rfl
      have := i_le.mp e
      omega
    · unfold bk
      rw [if_neg c, gup_u]
  · intro r F' G' q
    obtain ⟨rfl, rfl, h1, h0⟩ := q
    exact h G' h1 h0
theorem pq_gives {fu : Nat} {d v : Int32} {F : PF} {G : PG} {f : Int32 × PF × PG → PR} {Q : Int32 → PF → PG → Prop} (h : ∀ G' : PG, G' 95 = bk (G 95) d v → G' 94 = G 94 → PP (f (0, F, G')) Q) : PP ((mf_gives fu d v F G).bind f) Q := by
  refine PP.bind (Q1 := fun r F' G' => r = 0 ∧ F = F' ∧ G' 95 = bk (G 95) d v ∧ G' 94 = G 94) ?_ ?_
  · unfold mf_gives mb_gives_0 mb_gives_4 mb_gives_11
    refine PP.ite (fun c => PP.ret ⟨rfl, rfl, (if_pos c).symm, rfl⟩) (fun c => PP.ix (fun _ => PP.ret ⟨rfl, rfl, ?_, gup_o (by decide)⟩))
    unfold bk
    rw [if_neg c, gup_u]
  · intro r F' G' q
    obtain ⟨rfl, rfl, h1, h0⟩ := q
    exact h G' h1 h0
theorem pq_goes {fu : Nat} {x : Int32} {F : PF} {G : PG} {f : Int32 × PF × PG → PR} {Q : Int32 → PF → PG → Prop} (h : PP (f (0, fup F 96 (F 96 + 1), gup G 95 32 x)) Q) : PP ((mf_goesOn fu x F G).bind f) Q := by
  unfold mf_goesOn mb_goesOn_0 mb_goesOn_8 mb_goesOn_18
  rw [if_pos (show ixb (32 : Int32) 33 = true by decide), show (32 : Int32).toNatClampNeg = 32 by decide]
  exact h
theorem pq_part {fu : Nat} {w k n m : Int32} {F : PF} {G : PG} {f : Int32 × PF × PG → PR} {Q : Int32 → PF → PG → Prop} (hm : ((1 : Int32) <<< (n &&& 31)) - (1 : Int32) = m) (h : PP (f (((w.toUInt32 >>> (k.toUInt32 &&& Int32.toUInt32 31)).toInt32) &&& m, F, G)) Q) : PP ((mf_part fu w k n F G).bind f) Q := by
  unfold mf_part mb_part_0
  rw [hm]
  exact h
/-- give a register a number, go on -/
theorem mp_gg {fu : Nat} {d v x : Int32} {F : PF} {G : PG} : PP ((mf_gives fu d v F G).bind (fun q => (mf_goesOn fu x q.2.1 q.2.2).bind (fun q => some (q.1, q.2.1, q.2.2)))) (MA F G (0, d, v, none, x)) := by
  refine pq_gives (fun G' h1 h0 => ?_)
  refine pq_goes ?_
  exact PP.ret (ma_ok (.inl rfl) h1 h0)
theorem mp_g {fu : Nat} {x : Int32} {F : PF} {G : PG} : PP ((mf_goesOn fu x F G).bind (fun q => some (q.1, q.2.1, q.2.2))) (MA F G (0, 0, 0, none, x)) := by
  refine pq_goes ?_
  exact PP.ret (ma_ok (.inl rfl) bk_0.symm rfl)
theorem mp_jumps {fu : Nat} (d x pc : Int32) (F : PF) (G : PG) : PP (mf_jumps fu d x pc F G) (MA F G (aJ pc d x)) := by
  unfold mf_jumps mb_jumps_0 mb_jumps_8 mb_jumps_16 mb_jumps_21 mb_jumps_6 aJ
  exact PP.ifg (R := MA F G) (fun _ => mp_gg) (fun _ => PP.ret (ma_no nok3))
theorem cp_link {fu : Nat} (d x : Int32) (F : PF) (G : PG) (hd : d.toInt < 32) : PP (cf_X0_link fu d x F G) (CA F G (aJ (F 2) d x)) := by
  unfold cf_X0_link cb_X0_link_0 cb_X0_link_8 cb_X0_link_13 cb_X0_link_24 cb_X0_link_6 aJ
  refine PP.ifg (R := CA F G) (fun _ => ?_) (fun _ => PP.ret (ca_no nok3))
  refine pq_keep hd (fun G' h1 h0 => ?_)
  rw [fup_n (by decide)] at h1
  show PP (some (0, fup F 4 x, G')) _
  exact PP.ret (ca_ok (.inl rfl) h1 h0 (fup_n (by decide)) (fup_n (by decide)) fup_s)
theorem br_2 (x : Int32) : (x &&& (1 : Int32)) = 0 ∨ (x &&& (1 : Int32)) = 1 := by
  have h := i_and x (m := 1) 1 (by decide) (by decide)
  generalize (x &&& (1 : Int32)) = y at h ⊢
  rcases (show y.toInt = 0 ∨ y.toInt = 1 by omega) with e | e
  · exact .inl (i_eq.mpr e)
  · exact .inr (i_eq.mpr e)
theorem mp_114 {fu : Nat} (x pc : Int32) (F : PF) (G : PG) : PP (mb_branches_114 fu x F G) (MA F G (aT pc x)) := by
  unfold mb_branches_114 mb_branches_125 mb_branches_121 mb_branches_131 aT
  exact PP.ifg (R := MA F G) (fun _ => mp_g) (fun _ => PP.ret (ma_no nok3))
theorem mp_105 {fu : Nat} (pc : Int32) (F : PF) (G : PG) : PP (mb_branches_105 fu pc F G) (MA F G (aD pc 0 0)) := by
  unfold mb_branches_105 mb_branches_113
  exact mp_g
theorem mp_75 {fu : Nat} (f x pc z : Int32) (hz : z = 0 ∨ z = 1) (F : PF) (G : PG) : PP (mb_branches_75 fu f x pc z F G) (MA F G (aH pc f z x)) := by
  unfold mb_branches_75 mb_branches_83 mb_branches_88 mb_branches_93 mb_branches_97 mb_branches_98 aH
  rcases br_2 f with e | e
  · rw [if_pos e, if_neg (show ¬ (f &&& (1 : Int32)) = 1 by rw [e]; decide)]
    exact PP.ifg (R := MA F G) (fun _ => mp_105 pc F G) (fun _ => mp_114 x pc F G)
  · rw [if_neg (show ¬ (f &&& (1 : Int32)) = 0 by rw [e]; decide), if_pos e]
    rcases hz with rfl | rfl
    · rw [if_pos rfl, if_neg (by decide), if_neg (by decide)]
      exact mp_114 x pc F G
    · rw [if_neg (by decide), if_pos rfl, if_pos rfl]
      exact mp_105 pc F G
theorem mp_branches {fu : Nat} (f a b x pc : Int32) (F : PF) (G : PG) : PP (mf_branches fu f a b x pc F G) (MA F G (aB pc f a b x)) := by
  unfold mf_branches mb_branches_0 mb_branches_5 mb_branches_10 mb_branches_12 aB hz
  refine PP.ifg (R := MA F G) (fun _ => PP.ret (ma_no nok2)) (fun _ => PP.ifg (R := MA F G) (fun _ => PP.ret (ma_no nok2)) (fun _ => ?_))
  refine PP.ifg (R := fun z => MA F G (aH pc f z x)) (fun _ => ?_) (fun _ => ?_)
  · unfold mb_branches_44
    refine PP.ifg (R := fun z => MA F G (aH pc f z x)) (fun _ => ?_) (fun _ => ?_)
    · unfold mb_branches_63 mb_branches_74 mb_branches_70
      exact PP.ifg (R := fun z => MA F G (aH pc f z x)) (fun _ => mp_75 f x pc 0 (.inl rfl) F G) (fun _ => mp_75 f x pc 1 (.inr rfl) F G)
    · unfold mb_branches_50 mb_branches_59 mb_branches_55
      exact PP.ifg (R := fun z => MA F G (aH pc f z x)) (fun _ => mp_75 f x pc 0 (.inl rfl) F G) (fun _ => mp_75 f x pc 1 (.inr rfl) F G)
  · unfold mb_branches_31 mb_branches_36 mb_branches_40
    exact PP.ifg (R := fun z => MA F G (aH pc f z x)) (fun _ => mp_75 f x pc 1 (.inr rfl) F G) (fun _ => mp_75 f x pc 0 (.inl rfl) F G)
theorem pq_bel {fu : Nat} {a b z : Int32} {F : PF} {G : PG} {f : Int32 × PF × PG → PR} {Q : Int32 → PF → PG → Prop} (hz : (if b + (-2147483648 : Int32) ≤ a + (-2147483648 : Int32) then (0 : Int32) else 1) = z) (h : PP (f (z, F, G)) Q) : PP ((cf_X0_isBelow fu a b F G).bind f) Q := by
  unfold cf_X0_isBelow cb_X0_isBelow_0 cb_X0_isBelow_20 cb_X0_isBelow_16 cb_X0_isBelow_21
  by_cases c : b + (-2147483648 : Int32) ≤ a + (-2147483648 : Int32)
  · rw [if_pos ((br_bel a b).mpr c), if_pos (show b01 0 = true by decide)]
    rw [if_pos c] at hz
    rw [← hz] at h
    exact h
  · rw [if_neg (fun q => c ((br_bel a b).mp q)), if_pos (show b01 1 = true by decide)]
    rw [if_neg c] at hz
    rw [← hz] at h
    exact h
theorem cp_115 {fu : Nat} (F : PF) (G : PG) (h4 : F 4 = F 2 + 4) : PP (cb_X0_branch_115 fu F G) (CA F G (aD (F 2) 0 0)) := by
  unfold cb_X0_branch_115
  exact PP.ret (ca_ok (.inl rfl) bk_0.symm rfl rfl rfl h4)
theorem cp_117 {fu : Nat} (w : Int32) (F : PF) (G : PG) : PP (cb_X0_branch_117 fu w F G) (CA F G (aT (F 2) (F 2 + (((((w >>> ((31 : Int32) &&& 31)) <<< ((12 : Int32) &&& 31)) ||| ((((w.toUInt32 >>> ((7 : Int32).toUInt32 &&& Int32.toUInt32 31)).toInt32) &&& (1 : Int32)) <<< ((11 : Int32) &&& 31))) ||| ((((w.toUInt32 >>> ((25 : Int32).toUInt32 &&& Int32.toUInt32 31)).toInt32) &&& (63 : Int32)) <<< ((5 : Int32) &&& 31))) ||| ((((w.toUInt32 >>> ((8 : Int32).toUInt32 &&& Int32.toUInt32 31)).toInt32) &&& (15 : Int32)) <<< ((1 : Int32) &&& 31)))))) := by
  unfold cb_X0_branch_117 cf_X0_offsetB cb_X0_offsetB_0
  show PP (cb_X0_branch_125 fu _ (F 2) F G) _
  unfold cb_X0_branch_125 cb_X0_branch_137 cb_X0_branch_135 cb_X0_branch_143 aT
  exact PP.ifg (R := CA F G) (fun _ => PP.ret (ca_ok (.inl rfl) bk_0.symm rfl (fup_n (by decide)) (fup_n (by decide)) fup_s)) (fun _ => PP.ret (ca_no nok3))
theorem cp_98 {fu : Nat} (w f z : Int32) (F : PF) (G : PG) (h4 : F 4 = F 2 + 4) : PP (cb_X0_branch_98 fu w f z F G) (CA F G (aH (F 2) f z (F 2 + (((((w >>> ((31 : Int32) &&& 31)) <<< ((12 : Int32) &&& 31)) ||| ((((w.toUInt32 >>> ((7 : Int32).toUInt32 &&& Int32.toUInt32 31)).toInt32) &&& (1 : Int32)) <<< ((11 : Int32) &&& 31))) ||| ((((w.toUInt32 >>> ((25 : Int32).toUInt32 &&& Int32.toUInt32 31)).toInt32) &&& (63 : Int32)) <<< ((5 : Int32) &&& 31))) ||| ((((w.toUInt32 >>> ((8 : Int32).toUInt32 &&& Int32.toUInt32 31)).toInt32) &&& (15 : Int32)) <<< ((1 : Int32) &&& 31)))))) := by
  unfold cb_X0_branch_98 cb_X0_branch_107 cb_X0_branch_111 cb_X0_branch_112 aH
  exact PP.ifg (R := CA F G) (fun _ => PP.ifg (R := CA F G) (fun _ => cp_115 F G h4) (fun _ => cp_117 w F G)) (fun _ => PP.ifg (R := CA F G) (fun _ => cp_115 F G h4) (fun _ => cp_117 w F G))
theorem cp_branch {fu : Nat} (w : Int32) (F : PF) (G : PG) (h4 : F 4 = F 2 + 4) : PP (cf_X0_branch fu w F G) (CA F G (aB (F 2) (((w.toUInt32 >>> ((12 : Int32).toUInt32 &&& Int32.toUInt32 31)).toInt32) &&& (7 : Int32)) (G 1 (((w.toUInt32 >>> ((15 : Int32).toUInt32 &&& Int32.toUInt32 31)).toInt32) &&& (31 : Int32)).toNatClampNeg) (G 1 (((w.toUInt32 >>> ((20 : Int32).toUInt32 &&& Int32.toUInt32 31)).toInt32) &&& (31 : Int32)).toNatClampNeg) (F 2 + (((((w >>> ((31 : Int32) &&& 31)) <<< ((12 : Int32) &&& 31)) ||| ((((w.toUInt32 >>> ((7 : Int32).toUInt32 &&& Int32.toUInt32 31)).toInt32) &&& (1 : Int32)) <<< ((11 : Int32) &&& 31))) ||| ((((w.toUInt32 >>> ((25 : Int32).toUInt32 &&& Int32.toUInt32 31)).toInt32) &&& (63 : Int32)) <<< ((5 : Int32) &&& 31))) ||| ((((w.toUInt32 >>> ((8 : Int32).toUInt32 &&& Int32.toUInt32 31)).toInt32) &&& (15 : Int32)) <<< ((1 : Int32) &&& 31)))))) := by
  unfold cf_X0_branch cb_X0_branch_0
  refine PP.ix (fun _ => PP.ix (fun _ => ?_))
  generalize G 1 (((w.toUInt32 >>> ((15 : Int32).toUInt32 &&& Int32.toUInt32 31)).toInt32) &&& (31 : Int32)).toNatClampNeg = a
  generalize G 1 (((w.toUInt32 >>> ((20 : Int32).toUInt32 &&& Int32.toUInt32 31)).toInt32) &&& (31 : Int32)).toNatClampNeg = b
  generalize (((w.toUInt32 >>> ((12 : Int32).toUInt32 &&& Int32.toUInt32 31)).toInt32) &&& (7 : Int32)) = f
  unfold cb_X0_branch_40 cb_X0_branch_45 cb_X0_branch_47 aB hz
  refine PP.ifg (R := CA F G) (fun _ => PP.ret (ca_no nok2)) (fun _ => PP.ifg (R := CA F G) (fun _ => PP.ret (ca_no nok2)) (fun _ => ?_))
  refine PP.ifg (R := fun z => CA F G (aH (F 2) f z (F 2 + (((((w >>> ((31 : Int32) &&& 31)) <<< ((12 : Int32) &&& 31)) ||| ((((w.toUInt32 >>> ((7 : Int32).toUInt32 &&& Int32.toUInt32 31)).toInt32) &&& (1 : Int32)) <<< ((11 : Int32) &&& 31))) ||| ((((w.toUInt32 >>> ((25 : Int32).toUInt32 &&& Int32.toUInt32 31)).toInt32) &&& (63 : Int32)) <<< ((5 : Int32) &&& 31))) ||| ((((w.toUInt32 >>> ((8 : Int32).toUInt32 &&& Int32.toUInt32 31)).toInt32) &&& (15 : Int32)) <<< ((1 : Int32) &&& 31)))))) (fun _ => ?_) (fun _ => ?_)
  · unfold cb_X0_branch_68
    refine PP.ifg (R := fun z => CA F G (aH (F 2) f z (F 2 + (((((w >>> ((31 : Int32) &&& 31)) <<< ((12 : Int32) &&& 31)) ||| ((((w.toUInt32 >>> ((7 : Int32).toUInt32 &&& Int32.toUInt32 31)).toInt32) &&& (1 : Int32)) <<< ((11 : Int32) &&& 31))) ||| ((((w.toUInt32 >>> ((25 : Int32).toUInt32 &&& Int32.toUInt32 31)).toInt32) &&& (63 : Int32)) <<< ((5 : Int32) &&& 31))) ||| ((((w.toUInt32 >>> ((8 : Int32).toUInt32 &&& Int32.toUInt32 31)).toInt32) &&& (15 : Int32)) <<< ((1 : Int32) &&& 31)))))) (fun _ => ?_) (fun _ => ?_)
    · unfold cb_X0_branch_90 cb_X0_branch_96
      generalize hz : (if b + (-2147483648 : Int32) ≤ a + (-2147483648 : Int32) then (0 : Int32) else 1) = z
      exact pq_bel hz (cp_98 w f z F G h4)
    · unfold cb_X0_branch_74 cb_X0_branch_84 cb_X0_branch_80 cb_X0_branch_85
      exact PP.ifg (R := fun z => CA F G (aH (F 2) f z (F 2 + (((((w >>> ((31 : Int32) &&& 31)) <<< ((12 : Int32) &&& 31)) ||| ((((w.toUInt32 >>> ((7 : Int32).toUInt32 &&& Int32.toUInt32 31)).toInt32) &&& (1 : Int32)) <<< ((11 : Int32) &&& 31))) ||| ((((w.toUInt32 >>> ((25 : Int32).toUInt32 &&& Int32.toUInt32 31)).toInt32) &&& (63 : Int32)) <<< ((5 : Int32) &&& 31))) ||| ((((w.toUInt32 >>> ((8 : Int32).toUInt32 &&& Int32.toUInt32 31)).toInt32) &&& (15 : Int32)) <<< ((1 : Int32) &&& 31)))))) (fun _ => cp_98 w f 0 F G h4) (fun _ => cp_98 w f 1 F G h4)
  · unfold cb_X0_branch_52 cb_X0_branch_58 cb_X0_branch_62 cb_X0_branch_63
    exact PP.ifg (R := fun z => CA F G (aH (F 2) f z (F 2 + (((((w >>> ((31 : Int32) &&& 31)) <<< ((12 : Int32) &&& 31)) ||| ((((w.toUInt32 >>> ((7 : Int32).toUInt32 &&& Int32.toUInt32 31)).toInt32) &&& (1 : Int32)) <<< ((11 : Int32) &&& 31))) ||| ((((w.toUInt32 >>> ((25 : Int32).toUInt32 &&& Int32.toUInt32 31)).toInt32) &&& (63 : Int32)) <<< ((5 : Int32) &&& 31))) ||| ((((w.toUInt32 >>> ((8 : Int32).toUInt32 &&& Int32.toUInt32 31)).toInt32) &&& (15 : Int32)) <<< ((1 : Int32) &&& 31)))))) (fun _ => cp_98 w f 1 F G h4) (fun _ => cp_98 w f 0 F G h4)
