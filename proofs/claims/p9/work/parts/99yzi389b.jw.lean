section JW9B
variable {fu : Nat} {X : JCX} {p : Int32} {N K n q nf t i j : Nat} {κ : Int} {cid pl x3 x2 b : Int32} {Fa Fb Fc Fm : PF} {Ga Gb Gc Gm : PG}
theorem jEnd.ab {k : Int32 × PF × PG → PR} {F1 F2 : PF} {G1 : PG} {r1 : Int32} (h : jEnd F1 F2) (hk : PP (k (r1, F1, G1)) (fun _ F' _ => CFS F1 F')) : ∀ (s1 : Int32) (E1 : PF) (H1 : PG), k (r1, F1, G1) = some (s1, E1, H1) → jEnd E1 F2 := fun s1 E1 H1 e => h.st (hk s1 E1 H1 e) MFS.rf
/-- an array of a function, from behind its name -/
theorem jd_arr (M : jNm X p N K n q nf t i cid pl x3 Fc Gc Fm Gm Fa Ga Fb Gb) (hk : ∃ kk : Nat, (kk = 1 ∧ x2 = 4 ∧ b = 0) ∨ (kk = 2 ∧ x2 = 5 ∧ b = 1)) : JP (cb_X4_localTold_84 fu x2 cid pl Fa Ga) (mb_tellHere_47 fu b x3 Fb Gb) (fun _ F1 G1 r2 F2 G2 => jOd X p N K n q nf i Fc Gc Fm Gm r2 F1 G1 F2 G2) := by
  have VA := M.va
  have x3n := M.x3n
  have KN := M.kn
  obtain ⟨V, a, ⟨e1, e2, e3, e4⟩, g1, g2, g3⟩ := M
  obtain ⟨kk, hk⟩ := hk
  have hX := V.2.1.1
  have hp := V.1.1.2.1
  have I := VA.1
  have hkk : kk = 1 ∨ kk = 2 := by
    rcases hk with ⟨z, -⟩ | ⟨z, -⟩
    · exact .inl z
    · exact .inr z
  -- where the name may be told
  have main : (p = 1 → ¬ jTw nf t x3 Fb Gb) → JP (cb_X4_localTold_84 fu x2 cid pl Fa Ga) (mb_tellHere_52 fu b x3 Fb Gb) (fun _ F1 G1 r2 F2 G2 => jOd X p N K n q nf i Fc Gc Fm Gm r2 F1 G1 F2 G2) := by
    intro nt
    unfold cb_X4_localTold_84 cf_X3_arraySize cb_X3_arraySize_0 mb_tellHere_52
    rw [Option.bind_assoc]
    refine JP.both (jo_open I.1.1 I.2.1.1 (w := 24) (by decide) (by decide) (by decide)) ?_
    rintro r1 F1 G1 r2 F2 G2 (⟨rfl, rfl, hz, o⟩ | o)
    · dsimp only
      have li := I.2.1.1.ltS I.1.1 hz
      have sg := of_decide_eq_true hz
      rw [I.2.1.1.ix I.1.1] at sg
      have e5 := jAl.on (X := X) (p := p) (s := []) I.1 I.2.1 li (I.1.t1 li) o
      have V1 := VA.al e5 (by omega)
      unfold cb_X3_arraySize_9 mb_tellHere_58
      rw [if_neg i10n, if_neg i10n]
      unfold mb_tellHere_63
      refine JP.abL (jk_size (b := fun q => mb_tellHere_67 fu b x3 q.1 q.2.1 q.2.2) V1.1 V1.2.1.2.1 V1.2.1.2.2 (fun r3 F3 G3 r4 F4 G4 h s E H e => .inr (h.st (kqj_X4_localTold_91 x2 cid pl r3 F3 G3 CFS.rf s E H e) MFS.rf)) (fun F0 r F G y => nqj_tellHere_67 _ _ _ F G y) ?_)
      intro r3 j F3 G3 r4 F4 G4 ha hr0 hr1
      refine JP.unL (k := fun q => cb_X4_localTold_91 fu x2 cid pl q.1 q.2.1 q.2.2) (Q := fun _ F1 G1 r2 F2 G2 => jOd X p N K n q nf i Fc Gc Fm Gm r2 F1 G1 F2 G2) ?_
      dsimp only
      have V2 := V1.ak ha
      unfold cb_X3_arraySize_80 mb_tellHere_67
      rw [Option.bind_assoc]
      have d10 : 1 ≤ (F3 10).toInt := by
        have y1 := ha.2.2.2.1
        have y2 := e5.2.2.2.1
        have y3 := VA.1.2.1.1.2.2.2.2.1
        omega
      refine JP.both (jo_close V2.1.1.1 V2.1.2.1.1 d10 (w := 25) (by decide) (by decide) (by decide)) ?_
      rintro r5 F5 G5 r6 F6 G6 (⟨rfl, hy, o2⟩ | o2)
      · dsimp only
        have lj := V2.1.2.1.1.ltS V2.1.1.1 hy
        have e6 := jAl.on (X := X) (p := p) (s := []) V2.1.1 V2.1.2.1 lj (V2.1.1.t1 lj) o2
        have V3 := V2.al e6 (by omega)
        have W3 := (((jW.al a).tr (jW.al e5)).tr (jW.ak (X := X) (s := []) ha)).tr (jW.al e6)
        unfold cb_X3_arraySize_89 mb_tellHere_75
        rw [if_neg i10n]
        show JP (cb_X4_localTold_91 fu x2 cid pl r3 F5 G5) _ _
        -- the class's kind
        obtain ⟨ck, hck, cls⟩ : ∃ ck : Int32, (ck = nI (kk + 1)) ∧ cb_X4_localTold_91 fu x2 cid pl r3 F5 G5 = (cf_X4_localArray fu cid pl ck r3 F5 G5).bind (fun q => cb_X4_localTold_112 fu q.2.1 q.2.2) := by
          rcases hk with ⟨z1, z2, -⟩ | ⟨z1, z2, -⟩
          · refine ⟨2, by rw [z1]; decide, ?_⟩
            unfold cb_X4_localTold_91 cb_X4_localTold_102 cb_X4_localTold_107
            rw [if_pos z2]
          · refine ⟨3, by rw [z1]; decide, ?_⟩
            unfold cb_X4_localTold_91 cb_X4_localTold_106 cb_X4_localTold_107
            rw [if_neg (show ¬ x2 = 4 by rw [z2]; decide)]
        rw [cls]
        -- the words
        obtain ⟨w, hwc, hwm⟩ : ∃ w : Int32, ((ck = 2 ∧ w = r4) ∨ (¬ ck = 2 ∧ w = (r4 + 3) / 4)) ∧ (∀ (F : PF) (G : PG), ¬ r4 = -1 → mb_tellHere_80 fu b x3 r4 F G = mb_tellHere_114 fu b x3 r4 (fup F 52 (F 52 + w)) G) := by
          rcases hk with ⟨z1, -, z3⟩ | ⟨z1, -, z3⟩
          · refine ⟨r4, .inl ⟨by rw [hck, z1]; decide, rfl⟩, fun F G y => ?_⟩
            unfold mb_tellHere_80 mb_tellHere_95 mb_tellHere_108 mb_tellHere_110
            rw [if_neg y, if_pos z3]
          · refine ⟨(r4 + 3) / 4, .inr ⟨by rw [hck, z1]; decide, rfl⟩, fun F G y => ?_⟩
            unfold mb_tellHere_80 mb_tellHere_95 mb_tellHere_99 mb_tellHere_110
            rw [if_neg y, if_neg (show ¬ b = 0 by rw [z3]; decide)]
        have n4 : ¬ r4 = -1 := by
          rcases hp with z | z
          · rw [(hr0 z).2]
            decide
          · obtain ⟨y1, y2, -⟩ := hr1 z
            intro y
            rw [← y1] at y
            rw [y] at y2
            exact absurd y2 (by decide)
        rw [hwm F6 G6 n4]
        have kf : KX [52] [] F6 G6 (fup F6 52 (F6 52 + w)) G6 := KX.f rfl KX.rf
        have f52 : fup F6 52 (F6 52 + w) 52 = F6 52 + w := fup_s
        have f53 : fup F6 52 (F6 52 + w) 53 = F6 53 := fup_n (by decide)
        generalize fup F6 52 (F6 52 + w) = F7 at kf f52 f53 ⊢
        have W4 := W3.st KX.rf (KX.tr KX.rf kf rfl rfl) rfl rfl rfl (kf.1 60 rfl) (fun _ _ _ => rfl) (fun _ => jPe.of (x := []) (y := []) KX.rf kf rfl rfl)
        have S5 : jS X p N K n q nf t F5 G5 F7 G6 := V3.1.1.keepV KX.rf (KX.tr KX.rf kf rfl rfl) rfl (kf.1 54 rfl)
        have D5 : jD N (j + 1) F5 G5 F7 G6 := V3.1.2.1.mv KX.rf (KX.tr KX.rf kf rfl rfl)
        have rm : jRm 3 F5 := W3.room (m := 3) V V3.1.2.1 (by omega)
        have kc5 : KX jXd jYk Fa Ga F5 G5 := KX.tr (KX.tr (KX.tr KX.rf e5.1.1 rfl rfl) ha.1.1 rfl rfl) e6.1.1 rfl rfl
        have kx5 : KX [6, 9, 10, 11, 12, 13, 14, 21, 43, 44, 46, 47, 56, 57, 300] [5, 20, 55] Fa Ga F5 G5 := KX.tr (KX.tr (KX.tr KX.rf e5.1.1 rfl rfl) ha.1.1 rfl rfl) e6.1.1 rfl rfl
        have km6 : KX [42, 43, 44, 45, 47, 48, 49, 54, 55, 60, 62, 70, 72] [56, 57, 58, 59, 67, 68, 69, 71] Fb Gb F6 G6 := KX.tr (KX.tr (KX.tr KX.rf e5.1.2 rfl rfl) ha.1.2 rfl rfl) e6.1.2 rfl rfl
        have km5 : KX jZt jWk Fb Gb F7 G6 := KX.tr (KX.tr KX.rf km6 rfl rfl) kf rfl rfl
        have e46 : F5 46 = 0 := V3.x0
        have e54 : F7 54 = 0 := (kf.1 54 rfl).trans V3.2.1.2.1
        have xb : jXB F5 := V3.2.1.2.2
        have ij : i + 2 ≤ j + 1 := by
          have y1 := e5.2.2.1.1
          have y2 := ha.2.2.1.1
          omega
        have ch : F7 63 = Fm 63 ∧ F5 30 = Fc 30 ∧ F7 64 = Fm 64 ∧ F5 31 = Fc 31 ∧ F7 15 = Fm 15 ∧ F7 51 = Fm 51 := by
          refine ⟨?_, ?_, ?_, ?_, ?_, ?_⟩
          · rw [kf.1 63 rfl, km6.1 63 rfl]; exact a.1.2.1 63 rfl
          · rw [kx5.1 30 rfl]; exact a.1.1.1 30 rfl
          · rw [kf.1 64 rfl, km6.1 64 rfl]; exact a.1.2.1 64 rfl
          · rw [kx5.1 31 rfl]; exact a.1.1.1 31 rfl
          · rw [kf.1 15 rfl, km6.1 15 rfl]; exact a.1.2.1 15 rfl
          · rw [kf.1 51 rfl, km6.1 51 rfl]; exact a.1.2.1 51 rfl
        rcases hp with hp0 | hp1
        · have no : p = 1 → False := fun z => by rw [hp0] at z; exact absurd z (by decide)
          have m46 : F7 46 = 0 := by rw [S5.2.2.1.1, hp0]
          -- the reference's end
          have fin : ∀ z0 : Int32, JP ((cf_X4_localArray fu cid pl ck r3 F5 G5).bind (fun q => cb_X4_localTold_112 fu q.2.1 q.2.2)) (mb_tellHere_158 fu b x3 r4 z0 F7 G6) (fun _ F1 G1 r2 F2 G2 => jOd X p N K n q nf i Fc Gc Fm Gm r2 F1 G1 F2 G2) := by
            intro z0
            refine JP.L (cp_larr0 (by rw [S5.2.2.1.2.1, hp0]) rm D5.2.2.2.1) ?_
            rintro r8 F8 G8 ⟨w8, c8⟩
            dsimp only
            unfold cb_X4_localTold_112 cb_X4_localTold_168 mb_tellHere_158
            refine JP.R (mp_em 22 (F7 53) z0 F7 G6) ?_
            rintro r9 F9 G9 ⟨-, -, m9, -⟩
            dsimp only
            unfold mb_tellHere_172
            rw [if_neg n4]
            unfold mb_tellHere_191 mb_tellHere_193
            refine JP.R (mp_decl0 x3 2 b (F9 53) r4 1 (by rw [m9.1.1 46 rfl]; exact m46)) ?_
            rintro _ _ _ ⟨rfl, rfl⟩
            dsimp only
            unfold mb_tellHere_197 mb_tellHere_208
            exact JP.ret (jd_asm (x := (0, 1)) (ws := [73, 4 + F5 49 + F5 50, w8]) (sw := 22) (sa := F7 53) (sb := z0) (w := w8) (ck := 1) (cv := 0) (cz := 0) (mk := 1) (b3 := 0) (mc := 0) (mz := 1) (b6 := 1) (cid := cid) (pl := pl) (x1 := x3) (F2' := F9) V VA W4 S5 D5 kc5 km5 e46 e54 xb (by show _ + ((3 : Nat) : Int) ≤ 0; omega) ij ij ch c8 m9 (fun z => (no z).elim) (fun z => (no z).elim) (fun _ => ⟨rfl, rfl⟩) (fun z => (no z).elim) (fun _ => ⟨rfl, rfl⟩) (KX.f rfl KX.rf) (fun z => (no z).elim) (fun z => (no z).elim) (fun z => (no z).elim) (fun z => (no z).elim))
          have k136 : JP ((cf_X4_localArray fu cid pl ck r3 F5 G5).bind (fun q => cb_X4_localTold_112 fu q.2.1 q.2.2)) (mb_tellHere_136 fu b x3 r4 F7 G6) (fun _ F1 G1 r2 F2 G2 => jOd X p N K n q nf i Fc Gc Fm Gm r2 F1 G1 F2 G2) := by
            unfold mb_tellHere_136
            rw [if_neg n4]
            unfold mb_tellHere_142 mb_tellHere_156 mb_tellHere_152
            exact JP.iteR (fun _ => fin r4) (fun _ => fin 0)
          unfold mb_tellHere_114
          refine JP.iteR (fun _ => k136) (fun _ => ?_)
          unfold mb_tellHere_124
          refine JP.ixR (fun _ => JP.R (mp_n0 m46 (by decide)) ?_)
          rintro _ _ _ ⟨rfl, rfl⟩
          exact k136
        · obtain ⟨r, kn, th⟩ := KN hp1
          obtain ⟨e34, q1, q5⟩ := hr1 hp1
          rw [← e34] at n4 hwc ⊢
          obtain ⟨-, ⟨o1, o2', o3, o4, o5, o6, o7⟩, -⟩ := VA.2.2.2.2.2 hp1
          obtain ⟨-, SA, SE, SU, SL, FT⟩ := S5.2.2.2.2.2 hp1
          have m46 : ¬ F7 46 = 0 := by rw [S5.2.2.1.1, hp1]; decide
          have f50 : F5 50 = Fa 50 := kx5.1 50 rfl
          have f49 : F5 49 = Fa 49 := kx5.1 49 rfl
          have f42 : F5 42 = Fa 42 := kx5.1 42 rfl
          have b52 : F6 52 = Fb 52 := km6.1 52 rfl
          have b53 : F6 53 = Fb 53 := km6.1 53 rfl
          have kn5 := kn.kx kx5 rfl rfl
          have nh : ¬ jHre (q + t) (F5 42) pl r G5 := fun y => by
            refine nt hp1 (th.mpr ?_)
            unfold jHre at y ⊢
            rw [f42, kx5.2 34 rfl, kx5.2 35 rfl, kx5.2 36 rfl] at y
            exact y
          have e5052 : F5 50 + w = F7 52 := by rw [f50, o2', f52, b52]
          unfold mb_tellHere_114
          by_cases c200 : F7 52 ≤ 200
          · rw [if_pos c200]
            unfold mb_tellHere_136
            rw [if_neg n4]
            unfold mb_tellHere_142
            rw [if_pos c200]
            unfold mb_tellHere_156 mb_tellHere_158
            refine JP.L (cp_larrG kn5 nh hwc (by rw [e5052]; exact c200) rm) ?_
            rintro r8 F1' G1' ⟨F8, G8, c8, ins⟩
            dsimp only
            unfold cb_X4_localTold_112 cb_X4_localTold_168
            refine JP.R (mp_em 22 (F7 53) r3 F7 G6) ?_
            rintro r9 F9 G9 ⟨-, -, m9, -⟩
            dsimp only
            unfold mb_tellHere_172
            rw [if_neg n4]
            unfold mb_tellHere_191 mb_tellHere_193
            have t9 := SE.2.2.1
            refine JP.R (mp_decl (t := t) x3 2 b (F9 53) r3 1 (by rw [m9.1.1 14 rfl]; exact SE.1) (by omega) (by rw [m9.1.1 46 rfl]; exact m46)) ?_
            rintro _ F2' G2' de
            dsimp only
            unfold mb_tellHere_197 mb_tellHere_208
            -- numbers
            have c4 := jsC_4 X.2.2.1
            have o2 : (Fa 50).toInt = (Fb 52).toInt := by rw [o2']
            have l4 : (4 : Int32).toInt = 4 := rfl
            have l200 : (200 : Int32).toInt = 200 := rfl
            have er : r3 = nI r3.toInt.toNat := (jnI (by omega)).symm
            generalize em : r3.toInt.toNat = m at er
            have m1 : 1 ≤ m := by omega
            have m5 : m ≤ 500 := by omega
            have rm' : r3.toInt = m := by omega
            have ew : w = nI (joW (kk, m)) ∧ (w.toInt = joW (kk, m)) ∧ joC (kk, m) = m ∧ joW (kk, m) ≤ 500 := by
              rcases hk with ⟨z1, -, -⟩ | ⟨z1, -, -⟩
              · have hw : w = r3 := by
                  rcases hwc with ⟨-, y⟩ | ⟨y, -⟩
                  · exact y
                  · rw [hck, z1] at y
                    exact absurd (by decide) y
                rw [z1]
                show w = nI m ∧ w.toInt = (m : Int) ∧ m = m ∧ m ≤ 500
                rw [hw]
                exact ⟨er, rm', rfl, m5⟩
              · have hw : w = (r3 + 3) / 4 := by
                  rcases hwc with ⟨y, -⟩ | ⟨-, y⟩
                  · rw [hck, z1] at y
                    exact absurd y (by decide)
                  · exact y
                have hq : w.toInt = (((m + 3) / 4 : Nat) : Int) := by
                  rw [hw, quart (by omega) (by omega), rm']
                  omega
                rw [z1]
                show w = nI ((m + 3) / 4) ∧ w.toInt = (((m + 3) / 4 : Nat) : Int) ∧ m = m ∧ (m + 3) / 4 ≤ 500
                exact ⟨i_eq.mpr (by rw [hq, nI_toInt (by omega)]), hq, rfl, by omega⟩
            obtain ⟨ew1, ew2, ew3, ew4⟩ := ew
            have v1 : (4 + F5 49).toInt = 4 + (Fa 49).toInt := by
              rw [f49]
              have := i_addn (4 : Int32) (n := Fa 49) (m := (Fa 49).toInt) rfl (by omega) (by omega)
              omega
            have v2 : (4 + F5 49 + F5 50).toInt = 4 + (jsW X.2.2.1 : Int) := by
              have := i_addn (4 + F5 49) (n := F5 50) (m := (F5 50).toInt) rfl (by rw [f50]; omega) (by rw [f50]; omega)
              rw [this, v1, f50]
              omega
            have ev : 4 + F5 49 + F5 50 = nI (4 + jsW X.2.2.1) := i_eq.mpr (by rw [v2, nI_toInt (by omega)]; omega)
            have g53 : F7 53 = Fb 53 := f53.trans b53
            have ex : F7 53 = nI (jsC X.2.2.1) := i_eq.mpr (by rw [g53, nI_toInt (by omega)]; exact o1)
            have h53 : F9 53 = Fb 53 := (m9.1.1 53 rfl).trans g53
            have n15 : ¬ Fb 15 = 0 := fun y => by
              have := VA.2.2.2.1.2.1
              rw [y] at this
              exact absurd this (by decide)
            have jc : jsC (X.2.2.1 ++ [(kk, m)]) = jsC X.2.2.1 + m := by
              rw [jsC_app]
              show jsC X.2.2.1 + (joC (kk, m) + 0) = _
              rw [ew3]
              rfl
            have jw : jsW (X.2.2.1 ++ [(kk, m)]) = jsW X.2.2.1 + joW (kk, m) := jsW_app _ _
            have q52 : (Fb 52 + w).toInt = (Fb 52).toInt + w.toInt := i_addn _ rfl (by omega) (by omega)
            have q53 : (Fb 53 + r3).toInt = (Fb 53).toInt + r3.toInt := i_addn _ rfl (by omega) (by omega)
            have b200 := i_le.mp c200
            rw [f52, b52, q52] at b200
            have f1 : F1' 50 = Fa 50 + w := by
              rw [ins.1.1 50 rfl, c8.1.1 50 rfl, fup_s, f50]
            have f2 : F1' 49 = Fa 49 := by
              rw [ins.1.1 49 rfl, c8.1.1 49 rfl, fup_n (by decide), f49]
            have f3 : fup F2' 53 (F2' 53 + r3) 52 = Fb 52 + w := by
              rw [fup_n (by decide), de.1.1 52 rfl, m9.1.1 52 rfl, f52, b52]
            have f4 : fup F2' 53 (F2' 53 + r3) 53 = Fb 53 + r3 := by
              rw [fup_s, de.1.1 53 rfl, h53]
            have z7 : fup F5 50 (F5 50 + w) 7 = 1 := by rw [fup_n (by decide), S5.2.2.1.2.2, hp1]
            have id0 := kn.2.1
            refine JP.ret (jd_asm (x := (kk, m)) (ws := [73, 4 + F5 49 + F5 50, w]) (sw := 22) (sa := F7 53) (sb := r3) (w := w) (F2' := F2') V VA W4 S5 D5 kc5 km5 e46 e54 xb (by show _ + ((3 : Nat) : Int) ≤ 0; omega) ij ij ch c8 m9 (fun _ => ?_) (fun _ => ins) (fun z => ?_) (fun _ => de) (fun z => ?_) (KX.f rfl KX.rf) (fun _ => ?_) nt (fun _ => ?_) (fun _ => ?_))
            · exact ⟨ex, ((c8.2.2 z7).2.2 1 _ rfl).trans ev, .inr ⟨hkk, rfl, er, (c8.2.2 z7).2.2 0 73 rfl, ((c8.2.2 z7).2.2 2 _ rfl).trans ew1, rfl, rfl⟩⟩
            · rw [hp1] at z
              exact absurd z (by decide)
            · rw [hp1] at z
              exact absurd z (by decide)
            · have y4 : Gb 4 = Gm 4 := a.1.2.2 4 rfl
              have y5 : Gb 5 = Gm 5 := a.1.2.2 5 rfl
              rw [y4, y5] at sg
              rw [x3n]
              exact ⟨rfl, e1, e2, id0.1, id0.2, ⟨by omega, g1, g2.elim .inl (fun y => .inr (.inl y)), g3, sg.1⟩, by rw [sg.2]; decide⟩
            · refine .inr (.inr ⟨kk, hkk, hck, rfl, ?_, .inr ⟨m, m1, m5, er, er, .inr ⟨n15, by decide, jsC X.2.2.1, jsW X.2.2.1, jAt.new _ _, ?_, ev⟩⟩⟩)
              · rcases hk with ⟨z1, -, z3⟩ | ⟨z1, -, z3⟩
                · rw [z1, z3]; decide
                · rw [z1, z3]; decide
              · rw [h53, ← g53]; exact ex
            · rw [f1, f2, f3, f4, jc, jw, o2']
              exact ⟨by omega, rfl, by rw [q52]; omega, by omega, by omega⟩
          · rw [if_neg c200]
            refine JP.pp (V := fun _ F' _ => (F' 43).toInt ≤ 4000) (V1 := fun _ F' _ => ¬ F' 47 = 0) ?_ ?_ (fun r1 F5 G5 r2 F6 G6 z1 z2 => .inr (.inl ⟨z1, z2⟩))
            · refine PP.bind (cp_larrN (k := ck) (m := r3) kn5 (.inr ⟨w, hwc, by rw [e5052]; exact c200⟩)) ?_
              rintro _ F8 G8 y
              dsimp only
              exact PP.mono (kqj_X4_localTold_112 F8 G8 CFS.rf) (fun _ F' _ z => z.2 y)
            · unfold mb_tellHere_124
              exact PP.ix (fun _ => mp_nt (A := fun F' G' => mb_tellHere_136 fu b x3 r3 F' G') m46 (by decide) (fun F' G' => nqj_tellHere_136 _ _ _ F' G' MFS.rf))
      · dsimp only
        exact JP.fin (PP.bind (kqj_X3_arraySize_89 _ F5 G5 CFS.rf) (fun r F G y => kqj_X4_localTold_91 _ _ _ _ F G y)) (nqj_tellHere_75 _ _ _ _ F6 G6 MFS.rf) (.inr o2) (fun _ _ _ _ _ _ w => .inr w)
    · dsimp only
      exact JP.fin (PP.bind (kqj_X3_arraySize_9 _ F1 G1 CFS.rf) (fun r F G y => kqj_X4_localTold_91 _ _ _ _ F G y)) (nqj_tellHere_58 _ _ _ F2 G2 MFS.rf) (.inr o) (fun _ _ _ _ _ _ w => .inr w)
  unfold mb_tellHere_47
  rcases hp with hp0 | hp1
  · refine JP.R (mp_twice0 (by rw [VA.1.1.2.2.1.1, hp0])) ?_
    rintro _ _ _ ⟨rfl, rfl⟩
    dsimp only
    exact main (fun z => absurd (hp0.symm.trans z) (by decide))
  · obtain ⟨-, SA, SE, SU, SL, FT⟩ := VA.1.1.2.2.2.2.2 hp1
    have t9 := SE.2.2.1
    have f4 := FT.2.1
    have tw := mp_twice (fu := fu) (x1 := x3) (nf := nf) (t := t) (F := Fb) (G := Gb) SE.1 (by omega) SA.1 (by omega) (by rw [VA.1.1.2.2.1.1, hp1]; decide)
    by_cases T : jTw nf t x3 Fb Gb
    · obtain ⟨r, kn, th⟩ := KN hp1
      refine JP.pp (V := fun _ F' _ => (F' 43).toInt ≤ 4000) (V1 := fun _ F' _ => ¬ F' 47 = 0) ?_ ?_ (fun r1 F5 G5 r2 F6 G6 z1 z2 => .inr (.inl ⟨z1, z2⟩))
      · unfold cb_X4_localTold_84
        refine PP.bind (cw_X3_arraySize Fa Ga) ?_
        rintro m F3 G3 k
        dsimp only
        have la : ∀ ck : Int32, PP (cf_X4_localArray fu cid pl ck m F3 G3) (fun _ F' _ => (F' 43).toInt ≤ 4000) := fun ck => by
          refine cp_larrN (kn.kx k rfl rfl) (.inl ?_)
          rw [k.1 42 rfl]
          exact (th.mp T).kx k rfl
        unfold cb_X4_localTold_91 cb_X4_localTold_102 cb_X4_localTold_106 cb_X4_localTold_107
        refine PP.ite (fun _ => ?_) (fun _ => ?_)
        · refine PP.bind (la 2) ?_
          rintro _ F8 G8 y
          dsimp only
          exact PP.mono (kqj_X4_localTold_112 F8 G8 CFS.rf) (fun _ F' _ z => z.2 y)
        · refine PP.bind (la 3) ?_
          rintro _ F8 G8 y
          dsimp only
          exact PP.mono (kqj_X4_localTold_112 F8 G8 CFS.rf) (fun _ F' _ z => z.2 y)
      · refine PP.bind tw ?_
        rintro _ F8 G8 ⟨-, y, -⟩
        dsimp only
        have y' := y T
        exact PP.mono (nqj_tellHere_52 _ _ F8 G8 MFS.rf) (fun _ F' _ z v => y' (z.2.1 v))
    · refine JP.R tw ?_
      rintro _ F8 _ ⟨rfl, -, y⟩
      dsimp only
      rw [← y T]
      exact main (fun _ => T)
end JW9B
