section JQL
variable {fu : Nat} {gl : JLY} {K : Nat → List Nat} {nf B WB : Nat} {Fc Fm F1 F2 F3 F4 : PF} {Gc Gm G1 G2 G3 G4 : PG}
/-- both loops end -/
theorem jq_fin {S : JST} {x2 : Int32} (h : jStx S gl Fc Gc Fm Gm F3 G3 F4 G4) (h0 : 0 ≤ x2.toInt) (h1 : x2.toInt < 100000000) (d m : Nat) : JP (cl_X6_goOn_45 fu d x2 F3 G3) (ml_run_77 fu m 0 F4 G4) (fun _ F5 G5 r F6 G6 => r = F6 75 ∧ jStx S gl Fc Gc Fm Gm F5 G5 F6 G6) := by
  cases d with
  | zero => exact JP.noL
  | succ d =>
    cases m with
    | zero => exact JP.noR
    | succ m =>
      show JP (cb_X6_goOn_45 fu (cl_X6_goOn_45 fu d) x2 F3 G3) (mb_run_77 fu (ml_run_77 fu m) 0 F4 G4) _
      unfold cb_X6_goOn_45 mb_run_77
      rw [if_neg (fun z => by have := i_le.mp z; have l : (100000000 : Int32).toInt = 100000000 := rfl; omega), if_pos rfl]
      unfold cb_X6_goOn_51
      rw [if_pos h.2.1]
      unfold cb_X6_goOn_68 mb_run_97
      exact JP.ret ⟨rfl, h⟩
/-- both loops -/
theorem jq_loop (hfu : 8589934592 ≤ fu) (X : jFx gl K nf B WB Fc Gc Fm Gm) : ∀ (m d φ : Nat) (x2 : Int32) (F1 : PF) (G1 : PG) (F2 : PF) (G2 : PG), jInv (jSS gl K nf B WB Gc Gm) gl Fc Gc Fm Gm F1 G1 F2 G2 → CUR Fm Gm F2 G2 φ → 0 ≤ x2.toInt → x2.toInt + φ ≤ 90000000 → JP (cl_X6_goOn_45 fu d x2 F1 G1) (ml_run_77 fu m 1 F2 G2) (fun _ F3 G3 r F4 G4 => r = F4 75 ∧ jStx (jSS gl K nf B WB Gc Gm) gl Fc Gc Fm Gm F3 G3 F4 G4) := by
  intro m
  induction m using Nat.strongRecOn with
  | _ m ih =>
    intro d φ x2 F1 G1 F2 G2 I cu h0 hb
    have hP := X.2.2.2.1
    have h84 := X.2.2.2.2
    have l8 : (100000000 : Int32).toInt = 100000000 := rfl
    have i75 : F2 75 = 1 := I.2.2.2.2.2.1
    have i61 : F1 61 = 1 := I.2.2.2.1
    have n1 : (x2 + 1).toInt = x2.toInt + 1 := i_addn _ rfl (by omega) (by omega)
    cases m with
    | zero => exact JP.noR
    | succ m =>
      show JP _ (mb_run_77 fu (ml_run_77 fu m) 1 F2 G2) _
      unfold mb_run_77
      rw [if_neg (by decide)]
      unfold mb_run_81
      rw [if_pos i75]
      unfold mb_run_89
      have W := (wk_works hfu hP h84 cu i75).toPP
      rcases jq_any (fu := fu) X I cu with q | q
      · refine JP.R (PP.and q W) ?_
        rintro r F4 G4 ⟨⟨rr, I4⟩, w⟩
        dsimp only
        unfold mb_run_93
        rcases w with ⟨-, -, ψ, hψ, c4⟩ | ⟨r0, -⟩
        · rw [rr]
          exact ih m (by omega) d ψ x2 F1 G1 F4 G4 I4 c4 h0 (by omega)
        · rw [r0] at rr
          exact absurd rr (by decide)
      · cases d with
        | zero => exact JP.noL
        | succ d =>
          show JP (cb_X6_goOn_45 fu (cl_X6_goOn_45 fu d) x2 F1 G1) _ _
          unfold cb_X6_goOn_45
          rw [if_neg (fun z => by have := i_le.mp z; omega)]
          unfold cb_X6_goOn_51
          rw [if_neg (by rw [i61]; decide)]
          unfold cb_X6_goOn_58
          refine JP.both (JP.wR q W) ?_
          rintro r1 F3 G3 r F4 G4 ⟨h, w⟩
          dsimp only
          unfold cb_X6_goOn_62 mb_run_93
          rcases h with ⟨rr, I4⟩ | ⟨rr, st⟩ | ⟨rr, h75, pp⟩
          · rcases w with ⟨-, -, ψ, hψ, c4⟩ | ⟨r0, -⟩
            · rw [rr]
              exact ih m (by omega) d ψ (x2 + 1) F3 G3 F4 G4 I4 c4 (by omega) (by omega)
            · rw [r0] at rr
              exact absurd rr (by decide)
          · rw [rr]
            exact jq_fin st (by omega) (by omega) d m
          · rcases w with ⟨-, -, ψ, hψ, c4⟩ | ⟨r0, -⟩
            · rw [rr]
              cases m with
              | zero => exact JP.noR
              | succ m =>
                show JP _ (mb_run_77 fu (ml_run_77 fu m) 1 F4 G4) _
                unfold mb_run_77
                rw [if_neg (by decide)]
                unfold mb_run_81
                rw [if_pos h75]
                unfold mb_run_89
                refine JP.R (PP.and pp (wk_works hfu hP h84 c4 h75).toPP) ?_
                rintro r5 F5 G5 ⟨h5, w5⟩
                dsimp only
                unfold mb_run_93
                rcases h5 with ⟨rr5, I5⟩ | ⟨rr5, st⟩
                · rcases w5 with ⟨-, -, ψ5, hψ5, c5⟩ | ⟨r0, -⟩
                  · rw [rr5]
                    exact ih m (by omega) d ψ5 (x2 + 1) F3 G3 F5 G5 I5 c5 (by omega) (by omega)
                  · rw [r0] at rr5
                    exact absurd rr5 (by decide)
                · rw [rr5]
                  exact jq_fin st (by omega) (by omega) d m
            · rw [r0] at rr
              exact absurd rr (by decide)
/-- what p2 knows when main begins -/
theorem cur_main {F E : PF} {G : PG} (hfu : 8589934592 ≤ fu) (hP : PRG F G) (h84 : (F 84).toInt ≤ 2000) (KE : KX wkA wkB F G E G) (q85 : E 85 = 0) (q83 : E 83 = 0) (q72 : E 72 = 0) (cn : CNR E) (pl : Int32) : PP (mf_calls fu (F 74) pl 0 E G) (fun r F2 G2 => r = 1 → F2 75 = E 75 ∧ ∃ φ, CUR F G F2 G2 φ) := by
  have kn := hP.2.2.2.2.2.2.2.2.1
  have clp : CLP F G 0 (F 37).toInt 0 0 (F 74) 0 E G := by
    refine ⟨KE, by rw [q85]; rfl, ⟨hP.2.2.2.2.2.2.1, hP.2.2.2.2.2.2.2.1⟩, ⟨rfl, rfl, rfl⟩, by rw [q83]; rfl, by decide, fun _ => rfl, fun n => absurd q85 n, ?_, fun p hp => ?_, cn⟩
    · rw [q72, kn]
      rfl
    · rw [kn] at hp
      exact absurd hp id
  refine PP.mono (wk_calls hfu hP h84 (F 74) pl 0 clp).toPP ?_
  rintro r F2 G2 (⟨rfl, g75, g78, g76, g72, g91, A, m, cw⟩ | ⟨rfl, g75, K2, cn2⟩) hr
  · refine ⟨g75, PHI A m 0 (G 30 (F 74).toNatClampNeg).toInt.toNat (F2 78).toInt, 0, _, _, 0, A, m, cw, ?_, ?_, ?_, by rw [g76]⟩
    · have ty := cw.2.2.2.2.2.2.1
      rw [g91] at ty
      obtain ⟨y1, y2, y3, -⟩ := ty
      have fnt := hP.2.2.2.2.2.1 (F 74).toNatClampNeg (by rw [nN_of hP.2.2.2.2.2.2.1]; exact hP.2.2.2.2.2.2.2.1)
      rw [g76, g91]
      exact ⟨fnt.1, Nat.le_refl _, y1⟩
    · have ty := cw.2.2.2.2.2.2.1
      rw [g91] at ty
      obtain ⟨y1, y2, y3, -⟩ := ty
      rw [g76, y3, g72]
      rfl
    · have ty := cw.2.2.2.2.2.2.1
      rw [g91] at ty
      obtain ⟨y1, y2, y3, -⟩ := ty
      rw [g76, y3]
      exact trivial
  · exact absurd hr (by decide)
end JQL
