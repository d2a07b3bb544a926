section G2U
variable {fu : Nat} {rc : RC} {d : Nat}
theorem zg_body (hfu : 8589934592 ≤ fu) (hr : ZG rc d) (hG : mGI [] rc) (x : Int32) (F : PF) (G : PG) (h0 : YG F G) (h51 : (F 51).toInt < (F 43).toInt) (h60 : (F 60).toInt + 1 ≤ 2 * tT F G + 600) (hd : 4 * (40 - (F 43).toInt) + eS 1 ≤ d + 1) : WP (mh_body fu rc x F G) (fun r F1 G1 => VZ 0 0 F G r F1 G1) := by
  have e1 : eS 1 = 4 := rfl
  have e5 : eS 5 = 3 := rfl
  obtain ⟨⟨g1, g2, g3, g4, g5, g6, g7, g8⟩, a2, a3, a4, a5, a6, a7, a8⟩ := id h0
  have t0 := (WR.rf h0).t h0
  have e51 : (F 51 + 1).toInt = (F 51).toInt + 1 := i_addn _ rfl (by omega) (by omega)
  unfold mh_body mb_body_0 mb_body_15 mb_body_20 mb_body_30
  have Kb : KX [51, 63, 64] [] F G (fup (fup (fup F 63 (-1)) 64 (-1)) 51 (F 51 + 1)) G := KX.f rfl (KX.f rfl (KX.f rfl KX.rf))
  have gb : GP (fup (fup (fup F 63 (-1)) 64 (-1)) 51 (F 51 + 1)) := ⟨g1, g2, g3, g4, g5, g6, by show 0 ≤ (F 51 + 1).toInt; omega, by show (F 51 + 1).toInt ≤ (F 43).toInt; omega⟩
  have b63 : (fup (fup (fup F 63 (-1)) 64 (-1)) 51 (F 51 + 1)) 63 = -1 := rfl
  have b64 : (fup (fup (fup F 63 (-1)) 64 (-1)) 51 (F 51 + 1)) 64 = -1 := rfl
  have b51 : (fup (fup (fup F 63 (-1)) 64 (-1)) 51 (F 51 + 1)) 51 = F 51 + 1 := rfl
  show WP ((mf_step fu 15 0 0 (fup (fup (fup F 63 (-1)) 64 (-1)) 51 (F 51 + 1)) G).bind (fun q => mb_body_38 fu rc x (F 63) (F 64) q.1 q.2.1 q.2.2)) _
  generalize fup (fup (fup F 63 (-1)) 64 (-1)) 51 (F 51 + 1) = Fb at Kb gb b63 b64 b51
  have tb : tT Fb G = tT F G := by unfold tT; rw [Kb.1 42 rfl]
  have v60 : vp_in (Fb 60) 9000 := by rw [Kb.1 60 rfl]; exact vp_in_iff.mpr ⟨g1, by omega⟩
  refine WP.bind (ws_step 15 0 0 v60) ?_
  rintro _ Fc Gc ⟨K, rfl, e60, eg, hn⟩
  dsimp only
  have i60 : (Fc 60).toInt = (F 60).toInt + 1 := by
    rw [e60, Kb.1 60 rfl]
    exact i_addn _ rfl (by omega) (by omega)
  have Kc : KX [51, 60, 63, 64] [56, 57, 58] F G Fc Gc := KX.tr (KX.tr KX.rf Kb rfl rfl) K rfl rfl
  have tc : tT Fc Gc = tT F G := by unfold tT; rw [Kc.1 42 rfl, Kc.2 6 rfl]
  have gc : GP Fc := by
    obtain ⟨c1, c2, c3, c4, c5, c6, c7, c8⟩ := gb
    unfold GP
    rw [K.1 44 rfl, K.1 70 rfl, K.1 54 rfl, K.1 43 rfl, K.1 51 rfl]
    exact ⟨by omega, c2, c3, c4, c5, c6, c7, c8⟩
  have yc : YG Fc Gc := by
    refine ⟨gc, a2.kx Kc rfl rfl rfl rfl rfl, by rw [Kc.1 42 rfl, Kc.1 7 rfl]; exact a3, by rw [tc]; omega, by rw [Kc.1 14 rfl, tc]; exact a5, by rw [Kc.1 24 rfl]; exact a6, ?_, by rw [Kc.1 50 rfl]; exact a8⟩
    rw [Kc.1 46 rfl, Kc.1 24 rfl, Kc.2 27 rfl, Kc.2 31 rfl]
    exact a7
  have c43 : Fc 43 = F 43 := Kc.1 43 rfl
  have c51 : Fc 51 = F 51 + 1 := (K.1 51 rfl).trans b51
  unfold mb_body_38
  refine WP.bind (WP.pp (hr 5 0 0 Fc Gc (by decide) yc (fun z => absurd z (by decide)) (fun z => absurd z (by decide)) (by rw [c43]; omega)) (hG 5 0 0 Fc Gc gc (fun z => absurd z (by decide)))) ?_
  rintro r Fd Gd ⟨hq, hz⟩
  dsimp only
  rw [if_neg (by decide)] at hq
  obtain ⟨-, LB, LC, ⟨-, k2, -, k4, -⟩, -⟩ := hq
  rw [K.1 64 rfl, b64] at k2
  have nC := (List.nodup_append.mp k4).2.1
  -- how it ends, whatever is written of 51, 63 .. 66
  have fin : ∀ (F1 : PF) (G1 : PG), KX [51, 63, 64, 65, 66] [57] Fd Gd F1 G1 → F1 51 = Fd 51 - 1 → VZ 0 0 F G r F1 G1 := by
    intro F1 G1 K1 f51
    have KF : KX [14, 15, 42, 43, 44, 45, 47, 48, 49, 51, 52, 53, 54, 55, 60, 62, 63, 64, 65, 66, 70, 72] [16, 17, 18, 19, 20, 21, 22, 23, 56, 57, 58, 59, 67, 68, 69, 71] F G F1 G1 := by
      have Kd : KX [14, 15, 42, 43, 44, 45, 47, 48, 49, 51, 52, 53, 54, 55, 60, 62, 63, 64, 65, 66, 70, 72] [16, 17, 18, 19, 20, 21, 22, 23, 56, 57, 58, 59, 67, 68, 69, 71] Fc Gc Fd Gd := by
        rcases hz with ⟨-, z⟩ | ⟨-, z⟩
        · exact z.1
        · exact z.1
      exact KX.tr (KX.tr (KX.tr KX.rf Kc rfl rfl) Kd rfl rfl) K1 rfl rfl
    rcases hz with ⟨rfl, z1, ⟨b1, b2, b3, b4, b5, b6, b7, b8⟩, z3, z4, z5, z6, z7⟩ | ⟨rfl, z1, z2, z3⟩
    · have k5 : κG 5 = -1 := rfl
      rw [k5] at z6
      have t1 : tT F1 G1 = tT Fd Gd := by unfold tT; rw [K1.1 42 rfl, K1.2 6 rfl]
      have h51' : F1 51 = F 51 := by
        rw [f51, z5, c51]
        exact i_as _
      rw [Kc.1 7 rfl] at z3
      refine Or.inl ⟨rfl, KF, ?_, by rw [K1.1 42 rfl]; exact z3, by rw [K1.1 43 rfl, z4, c43], h51', ?_, by rw [K1.1 14 rfl, t1]; exact z7⟩
      · unfold GP
        rw [K1.1 60 rfl, K1.1 44 rfl, K1.1 70 rfl, K1.1 54 rfl, K1.1 43 rfl, h51']
        refine ⟨b1, b2, b3, b4, b5, b6, g7, ?_⟩
        rw [c43] at z4
        omega
      · rw [K1.1 60 rfl, K1.1 42 rfl, t1]
        rw [tc, Kc.1 42 rfl] at z6
        omega
    · exact Or.inr ⟨rfl, KF, by rw [K1.1 44 rfl]; exact z2, by rw [K1.1 14 rfl]; exact z3⟩
  have hb : r = 0 ∨ r = 1 := VZ.b hz
  unfold mb_body_43 mb_body_55
  refine WP.ite (fun c => ?_) (fun c => ?_)
  · unfold mb_body_77 mb_body_85 mb_body_90 mb_body_98 mb_body_103
    exact WP.bz hb (WP.ret (fin _ _ (KX.f rfl (KX.f rfl (KX.f rfl (KX.f rfl (KX.f rfl KX.rf))))) rfl))
  · unfold mb_body_60
    refine WP.bind (ms_settle hfu (Fd 64) x (fup Fd 51 (Fd 51 - 1)) Gd LC k2 nC (nd_len 9000 LC nC (chn_lt LC _ _ k2))) ?_
    rintro _ Fe Ge ⟨rfl, rfl⟩
    dsimp only
    unfold mb_body_69 mb_body_74 mb_body_90 mb_body_98 mb_body_103
    exact WP.bz hb (WP.ret (fin _ _ (KX.f rfl (KX.f rfl (KX.f rfl (KX.tr (KX.f (a := [51, 63, 64, 65, 66]) (b := [57]) rfl KX.rf) (pall_kx LC Gd) rfl rfl)))) rfl))
theorem zg_statement (hfu : 8589934592 ≤ fu) (hr : ZG rc d) (F : PF) (G : PG) (h0 : YG F G) (hd : 4 * (40 - (F 43).toInt) + eS 6 ≤ d + 1) : WP (mh_statement fu rc F G) (fun r F1 G1 => VZ (-1) 0 F G r F1 G1) := by
  have e6 : eS 6 = 2 := rfl
  have e0 : eS 0 = 1 := rfl
  have q0 := WR.rf h0
  have v0 := (q0.t h0).2.2
  have semi : ∀ (F1 : PF) (G1 : PG), WR F G 0 0 1 F1 G1 → WP (mf_sign fu 29 F1 G1) (fun r F2 G2 => VZ (-1) 0 F G r F2 G2) := by
    intro F1 G1 q
    exact WP.mono (wz_semi q h0) (fun _ _ _ z => z.le (by decide) (by decide))
  have sub : ∀ i, i = 2 ∨ i = 3 ∨ i = 4 ∨ i = 7 → ¬ G 4 (F 42).toNatClampNeg = 0 → WP (rc i 0 0 F G) (fun r F1 G1 => VZ (-1) 0 F G r F1 G1) := by
    intro i hi hk
    have ei : eS i = 1 := by
      rcases hi with rfl | rfl | rfl | rfl <;> rfl
    have ki : κG i = -1 := by
      rcases hi with rfl | rfl | rfl | rfl <;> rfl
    have q := hr i 0 0 F G (by omega) h0 (fun z => by omega) (fun _ => hk) (by omega)
    rw [ki] at q
    exact q
  have no : WP (mb_statement_306 fu rc F G) (fun r F1 G1 => VZ (-1) 0 F G r F1 G1) := by
    unfold mb_statement_306
    refine WP.bind (ws_fails 2 (by decide) v0) ?_
    rintro r F1 G1 ⟨rfl, u⟩
    dsimp only
    unfold mb_statement_311
    exact WP.bz (Or.inl rfl) (WP.ret (Or.inr ⟨rfl, q0.flt h0 (by decide) u⟩))
  have tell : G 4 (F 42).toNatClampNeg = 2 → (G 5 (F 42).toNatClampNeg).toInt ≤ 2 → WP (mb_statement_184 fu rc F G) (fun r F1 G1 => VZ (-1) 0 F G r F1 G1) := by
    intro hk hv
    unfold mb_statement_184
    refine WP.bind (wz_tellHere hfu 1 F G h0 hk hv) ?_
    rintro r F1 G1 (⟨rfl, q⟩ | ⟨rfl, q⟩)
    · dsimp only
      unfold mb_statement_189
      rw [if_neg (by decide)]
      unfold mb_statement_192
      refine WP.bind (semi F1 G1 q) (fun r F2 G2 q2 => ?_)
      dsimp only
      unfold mb_statement_198 mb_statement_205 mb_statement_201 mb_statement_206
      rcases q2.b with rfl | rfl
      · rw [if_pos rfl]
        exact WP.bz (Or.inl rfl) (WP.ret q2)
      · rw [if_neg (by decide)]
        exact WP.bz (Or.inr rfl) (WP.ret q2)
    · dsimp only
      unfold mb_statement_189 mb_statement_205 mb_statement_206
      rw [if_pos rfl]
      exact WP.bz (Or.inl rfl) (WP.ret (Or.inr ⟨rfl, q⟩))
  have put : ¬ G 4 (F 42).toNatClampNeg = 0 → WP (mb_statement_237 fu rc F G) (fun r F1 G1 => VZ (-1) 0 F G r F1 G1) := by
    intro hk
    have all : ∀ x1 : Int32, WP (mb_statement_253 fu rc x1 F G) (fun r F1 G1 => VZ (-1) 0 F G r F1 G1) := by
      intro x1
      unfold mb_statement_253
      have q1 := q0.adv h0 hk
      generalize fup F 42 (F 42 + 1) = F1 at q1
      unfold mb_statement_264
      refine WP.bind (ws_openSign 22 (q1.t h0).2.2) ?_
      rintro r F2 G2 (⟨rfl, rfl, rfl, s, u, -⟩ | ⟨rfl, u, -⟩)
      · dsimp only
        unfold mb_statement_270
        rw [if_neg (by decide)]
        unfold mb_statement_273
        have q2 := q1.op h0 (k_ne (sgn_k s).1 (by decide)) u
        refine WP.bind (q2.expr hfu h0 (by decide) (by decide) 4 0 0 (by decide) ⟨fun z => absurd z (by decide), fun z => absurd z (by decide)⟩) ?_
        rintro r F3 G3 ⟨-, -, (⟨rfl, q3⟩ | ⟨rfl, q3⟩)⟩
        · dsimp only
          unfold mb_statement_277
          rw [if_neg (by decide)]
          unfold mb_statement_280
          refine WP.bind (ws_closeSign 23 (q3.t h0).2.2) ?_
          rintro r F4 G4 (⟨rfl, rfl, rfl, s, -⟩ | ⟨rfl, u, -⟩)
          · dsimp only
            unfold mb_statement_286
            rw [if_neg (by decide)]
            have q4 := WR.cl (j := 0) q3 h0 (by decide) (k_ne (sgn_k s).1 (by decide))
            unfold mb_statement_291
            refine WP.bind (q4.step h0 (by decide) x1 0 0) ?_
            rintro r F5 G5 ⟨-, -, -, -, q5⟩
            dsimp only
            unfold mb_statement_298
            refine WP.bind (semi F5 G5 (q5.le (by decide) (by decide))) (fun r F6 G6 q6 => ?_)
            dsimp only
            unfold mb_statement_305
            exact WP.bz q6.b (WP.ret q6)
          · dsimp only
            unfold mb_statement_286 mb_statement_289
            rw [if_pos rfl]
            exact WP.ret (Or.inr ⟨rfl, q3.flt h0 (by decide) u⟩)
        · dsimp only
          unfold mb_statement_277 mb_statement_289
          rw [if_pos rfl]
          exact WP.ret (Or.inr ⟨rfl, q3⟩)
      · dsimp only
        unfold mb_statement_270 mb_statement_289
        rw [if_pos rfl]
        exact WP.ret (Or.inr ⟨rfl, q1.flt h0 (by decide) u⟩)
    unfold mb_statement_237
    refine WP.bind (ws_isWord 12 v0) ?_
    rintro z _ _ ⟨rfl, rfl, -⟩
    dsimp only
    unfold mb_statement_243 mb_statement_251 mb_statement_246
    exact WP.ite (fun _ => all 20) (fun _ => all 19)
  have s207 : ¬ G 4 (F 42).toNatClampNeg = 0 → WP (mb_statement_207 fu rc F G) (fun r F1 G1 => VZ (-1) 0 F G r F1 G1) := by
    intro hk
    unfold mb_statement_207
    refine WP.bind (sub 2 (by decide) hk) (fun r F1 G1 q => ?_)
    dsimp only
    unfold mb_statement_211
    exact WP.bz q.b (WP.ret q)
  have s212 : ¬ G 4 (F 42).toNatClampNeg = 0 → WP (mb_statement_212 fu rc F G) (fun r F1 G1 => VZ (-1) 0 F G r F1 G1) := by
    intro hk
    unfold mb_statement_212
    refine WP.bind (sub 4 (by decide) hk) (fun r F1 G1 q => ?_)
    dsimp only
    unfold mb_statement_216
    exact WP.bz q.b (WP.ret q)
  have s217 : ¬ G 4 (F 42).toNatClampNeg = 0 → WP (mb_statement_217 fu rc F G) (fun r F1 G1 => VZ (-1) 0 F G r F1 G1) := by
    intro hk
    unfold mb_statement_217
    refine WP.bind (sub 7 (by decide) hk) (fun r F1 G1 q => ?_)
    dsimp only
    unfold mb_statement_221
    exact WP.bz q.b (WP.ret q)
  have s222 : ¬ G 4 (F 42).toNatClampNeg = 0 → WP (mb_statement_222 fu rc F G) (fun r F1 G1 => VZ (-1) 0 F G r F1 G1) := by
    intro hk
    unfold mb_statement_222
    refine WP.bind (sub 3 (by decide) hk) (fun r F1 G1 q => ?_)
    dsimp only
    unfold mb_statement_226
    exact WP.bz q.b (WP.ret q)
  have s227 : ¬ G 4 (F 42).toNatClampNeg = 0 → WP (mb_statement_227 fu rc F G) (fun r F1 G1 => VZ (-1) 0 F G r F1 G1) := by
    intro hk
    unfold mb_statement_227
    refine WP.bind (wz_leaves F G h0 hk) (fun r F1 G1 q => ?_)
    dsimp only
    unfold mb_statement_231
    exact WP.bz q.b (WP.ret q)
  have s232 : ¬ G 4 (F 42).toNatClampNeg = 0 → WP (mb_statement_232 fu rc F G) (fun r F1 G1 => VZ (-1) 0 F G r F1 G1) := by
    intro hk
    unfold mb_statement_232
    refine WP.bind (wz_returns hfu F G h0 hk) (fun r F1 G1 q => ?_)
    dsimp only
    unfold mb_statement_236
    exact WP.bz q.b (WP.ret q)
  unfold mh_statement mb_statement_0
  refine WP.bind (ws_isSign 26 v0) ?_
  rintro z _ _ ⟨rfl, rfl, -⟩
  dsimp only
  unfold mb_statement_6
  refine WP.ite (fun _ => ?_) (fun _ => ?_)
  · unfold mb_statement_30
    refine WP.bind (ws_isSign 29 v0) ?_
    rintro z _ _ ⟨rfl, rfl, -⟩
    dsimp only
    unfold mb_statement_36
    refine WP.ite (fun _ => ?_) (fun _ => ?_)
    · unfold mb_statement_46
      refine WP.ix v0 (WP.ite (fun _ => ?_) (fun _ => ?_))
      · unfold mb_statement_59
        refine WP.bind (wz_simple hfu F G h0) ?_
        rintro r F1 G1 (⟨rfl, q⟩ | ⟨rfl, q⟩)
        · dsimp only
          unfold mb_statement_63
          rw [if_neg (by decide)]
          unfold mb_statement_66
          refine WP.bind (semi F1 G1 (q.le (by decide) (by decide))) (fun r F2 G2 q2 => ?_)
          dsimp only
          unfold mb_statement_72 mb_statement_79 mb_statement_75 mb_statement_80
          rcases q2.b with rfl | rfl
          · rw [if_pos rfl]
            exact WP.bz (Or.inl rfl) (WP.ret q2)
          · rw [if_neg (by decide)]
            exact WP.bz (Or.inr rfl) (WP.ret q2)
        · dsimp only
          unfold mb_statement_63 mb_statement_79 mb_statement_80
          rw [if_pos rfl]
          exact WP.bz (Or.inl rfl) (WP.ret (Or.inr ⟨rfl, q⟩))
      · unfold mb_statement_81
        refine WP.ix v0 (WP.ite (fun c2 => ?_) (fun _ => ?_))
        · have kn := k_ne c2 (show ¬ (2 : Int32) = 0 by decide)
          unfold mb_statement_100
          refine WP.ix v0 (WP.ite (fun _ => no) (fun _ => ?_))
          refine WP.ite (fun c => tell c2 (by rw [c]; decide)) (fun _ => WP.ite (fun c => tell c2 (by rw [c]; decide)) (fun _ => ?_))
          repeat' first | exact no | exact put kn | exact s207 kn | exact s212 kn | exact s217 kn | exact s222 kn | exact s227 kn | exact s232 kn | refine WP.ite (fun _ => ?_) (fun _ => ?_)
        · unfold mb_statement_94
          refine WP.bind (ws_fails 2 (by decide) v0) ?_
          rintro r F1 G1 ⟨rfl, u⟩
          dsimp only
          unfold mb_statement_99
          exact WP.bz (Or.inl rfl) (WP.ret (Or.inr ⟨rfl, q0.flt h0 (by decide) u⟩))
    · unfold mb_statement_39
      refine WP.bind (semi F G (q0.le (by decide) (by decide))) (fun r F2 G2 q2 => ?_)
      dsimp only
      unfold mb_statement_45
      exact WP.bz q2.b (WP.ret q2)
  · unfold mb_statement_9
    refine WP.bind (wa_begins.of (mw_begins F G)) ?_
    intro r F1 G1 K1
    dsimp only
    have q1 := q0.kx K1 rfl
    unfold mb_statement_18
    refine WP.bind (hr 0 0 0 F1 G1 (by decide) (q1.yg h0 (by decide)) (fun z => absurd z (by decide)) (fun z => absurd z (by decide)) (by rw [K1.1 43 rfl]; omega)) ?_
    rintro r F2 G2 (⟨rfl, q2⟩ | ⟨rfl, q2⟩)
    · dsimp only
      unfold mb_statement_22
      refine WP.bind ((q1.tr q2).ends hfu h0 (by decide) (F 15)) (fun r F3 G3 q3 => ?_)
      dsimp only
      unfold mb_statement_28
      exact WP.bz (Or.inr rfl) (WP.ret (Or.inl ⟨rfl, q3.le (by decide) (by decide)⟩))
    · dsimp only
      unfold mb_statement_22
      refine WP.bind ((WF0.tr q1 q2).ends hfu (F 15)) (fun r F3 G3 q3 => ?_)
      dsimp only
      unfold mb_statement_28
      exact WP.bz (Or.inl rfl) (WP.ret (Or.inr ⟨rfl, q3⟩))
end G2U
/-- the statements end, in their room -/
theorem mzS2 {fu : Nat} (hfu : 8589934592 ≤ fu) : ∀ d : Nat, ZG (mS2 fu d) d := by
  intro d
  induction d with
  | zero =>
    intro i x y F G hi h0 _ _ hd
    have := h0.1.2.2.2.2.2.1
    have : 1 ≤ eS i := by
      unfold eS
      repeat' split
      all_goals decide
    omega
  | succ d ih =>
    intro i x y F G hi h0 h1 h2 hd
    have hd : 4 * (40 - (F 43).toInt) + eS i ≤ (d : Int) + 1 := by omega
    have hG : mGI [] (mS2 fu d) := mgS2 hfu d
    have : i = 0 ∨ i = 1 ∨ i = 2 ∨ i = 3 ∨ i = 4 ∨ i = 5 ∨ i = 6 ∨ i = 7 := by omega
    rcases this with rfl | rfl | rfl | rfl | rfl | rfl | rfl | rfl
    · exact zg_block hfu ih F G h0 hd
    · exact zg_body hfu ih hG x F G h0 (h1 rfl).1 (h1 rfl).2 hd
    · exact zg_choice hfu ih F G h0 (h2 (by decide)) hd
    · exact zg_counted hfu ih hG F G h0 (h2 (by decide)) hd
    · exact zg_loop hfu ih hG F G h0 (h2 (by decide)) hd
    · exact zg_scoped hfu ih F G h0 hd
    · exact zg_statement hfu ih F G h0 hd
    · exact zg_turnLoop hfu ih hG F G h0 (h2 (by decide)) hd
