abbrev PF : Type := Nat → Int32
abbrev PG : Type := Nat → Nat → Int32
abbrev PR : Type := Option (Int32 × PF × PG)
abbrev RC : Type := Nat → Int32 → Int32 → PF → PG → PR
def fup (F : PF) (k : Nat) (v : Int32) : PF := fun j => if j = k then v else F j
def gup (G : PG) (k : Nat) (i : Nat) (v : Int32) : PG := fun j => if j = k then upd (G j) i v else G j
def ixb (i : Int32) (n : Nat) : Bool := decide (¬ (i < 0 ∨ n ≤ i.toNatClampNeg))
theorem ix_elim {α : Type} {i : Int32} {n : Nat} {A : Option α} {res : α} (h : (if ixb i n = true then A else none) = some res) : vp_in i n ∧ A = some res := by
  by_cases hc : ixb i n = true
  · exact ⟨of_decide_eq_true (p := ¬ (i < 0 ∨ n ≤ i.toNatClampNeg)) hc, (if_pos hc).symm.trans h⟩
  · rw [if_neg hc] at h
    cases h
theorem bind_elim {α β : Type} {o : Option α} {f : α → Option β} {res : β} (h : o.bind f = some res) : ∃ q, o = some q ∧ f q = some res := by
  cases o with
  | none => cases h
  | some q => exact ⟨q, rfl, h⟩
def b01 (v : Int32) : Bool := decide (v = 0 ∨ v = 1)
theorem b01_elim {α : Type} {v : Int32} {A : Option α} {res : α} (h : (if b01 v = true then A else none) = some res) : (v = 0 ∨ v = 1) ∧ A = some res := by
  by_cases hc : b01 v = true
  · exact ⟨of_decide_eq_true (p := v = 0 ∨ v = 1) hc, (if_pos hc).symm.trans h⟩
  · rw [if_neg hc] at h
    cases h
theorem nz_elim {α β : Type} [DecidableEq β] {v w : β} {A : Option α} {res : α} (h : (if v = w then none else A) = some res) : ¬ v = w ∧ A = some res := by
  by_cases hc : v = w
  · rw [if_pos hc] at h
    cases h
  · exact ⟨hc, (if_neg hc).symm.trans h⟩
theorem b01_nar {v : Int32} (h : v = 0 ∨ v = 1) : narrow .boolean (.int v) = .int v := by
  rcases h with rfl | rfl <;> rfl
theorem b01_fit {v : Int32} (h : v = 0 ∨ v = 1) : fits .boolean (.int v) = true := by
  rcases h with rfl | rfl <;> rfl
def ch16 (v : Int32) : Bool := decide (narrow .char (.int v) = .int v)
theorem ch16_elim {α : Type} {v : Int32} {A : Option α} {res : α} (h : (if ch16 v = true then A else none) = some res) : narrow .char (.int v) = .int v ∧ A = some res := by
  by_cases hc : ch16 v = true
  · exact ⟨of_decide_eq_true (p := narrow .char (.int v) = .int v) hc, (if_pos hc).symm.trans h⟩
  · rw [if_neg hc] at h
    cases h
theorem lt_elim {α : Type} {i n : Nat} {A : Option α} {res : α} (h : (if i < n then A else none) = some res) : i < n ∧ A = some res := by
  by_cases hc : i < n
  · exact ⟨hc, (if_pos hc).symm.trans h⟩
  · rw [if_neg hc] at h
    cases h
theorem no_elim {α : Type} {res : α} {C : Prop} (h : (none : Option α) = some res) : C := by cases h
def lenS : List Nat := [118, 77, 120, 23]
def bytS : List (List Int32) := [[32, 62, 62, 62, 61, 32, 62, 62, 62, 32, 60, 60, 61, 32, 62, 62, 61, 32, 43, 61, 32, 45, 61, 32, 42, 61, 32, 47, 61, 32, 37, 61, 32, 38, 61, 32, 124, 61, 32, 94, 61, 32, 43, 43, 32, 45, 45, 32, 124, 124, 32, 38, 38, 32, 61, 61, 32, 33, 61, 32, 60, 61, 32, 62, 61, 32, 60, 60, 32, 62, 62, 32, 40, 32, 41, 32, 91, 32, 93, 32, 123, 32, 125, 32, 44, 32, 59, 32, 63, 32, 58, 32, 61, 32, 124, 32, 94, 32, 38, 32, 60, 32, 62, 32, 43, 32, 45, 32, 42, 32, 47, 32, 37, 32, 126, 32, 33, 32], [32, 105, 110, 116, 32, 98, 121, 116, 101, 32, 118, 111, 105, 100, 32, 99, 111, 110, 115, 116, 32, 105, 102, 32, 101, 108, 115, 101, 32, 119, 104, 105, 108, 101, 32, 100, 111, 32, 102, 111, 114, 32, 98, 114, 101, 97, 107, 32, 99, 111, 110, 116, 105, 110, 117, 101, 32, 114, 101, 116, 117, 114, 110, 32, 112, 117, 116, 32, 103, 101, 116, 32, 104, 97, 108, 116, 32], [105, 110, 116, 32, 32, 32, 32, 32, 98, 121, 116, 101, 32, 32, 32, 32, 118, 111, 105, 100, 32, 32, 32, 32, 99, 111, 110, 115, 116, 32, 32, 32, 105, 102, 32, 32, 32, 32, 32, 32, 101, 108, 115, 101, 32, 32, 32, 32, 119, 104, 105, 108, 101, 32, 32, 32, 100, 111, 32, 32, 32, 32, 32, 32, 102, 111, 114, 32, 32, 32, 32, 32, 98, 114, 101, 97, 107, 32, 32, 32, 99, 111, 110, 116, 105, 110, 117, 101, 114, 101, 116, 117, 114, 110, 32, 32, 112, 117, 116, 32, 32, 32, 32, 32, 103, 101, 116, 32, 32, 32, 32, 32, 104, 97, 108, 116, 32, 32, 32, 32], [40, 41, 91, 93, 123, 125, 44, 59, 63, 58, 61, 43, 45, 42, 47, 37, 38, 124, 94, 60, 62, 126, 33]]
theorem lenS_lt {i : Nat} (h : i < 4) : lenS.getD i 0 < 2 ^ 31 := by
  match i, h with
  | 0, _ => exact by decide
  | 1, _ => exact by decide
  | 2, _ => exact by decide
  | 3, _ => exact by decide
  | n + 4, h => exact absurd h (by omega)
theorem my_last {x : Int32} {l h : Int} {k : Nat} {y : Int32} (c : ¬ (x.toInt < l ∨ h < x.toInt)) (hh : h = l + k) (hn : ∀ j : Nat, j < k → ¬ x.toInt = l + j) (hy : y.toInt = l + k) : x = y := by
  refine Int32.toInt_inj.mp ?_
  rw [hy]
  by_cases e : x.toInt = l + k
  · exact e
  · exact absurd (show x.toInt = l + ((x.toInt - l).toNat : Nat) by omega) (hn _ (by omega))
abbrev EV : Type := (Nat → ClassId) × (Nat → Nat → Nat) × ClassId × ClassId × ClassId × (Nat → Nat) × (Nat → Nat)
abbrev eD (v : EV) : va_G := (v.1, v.2.1)
abbrev eY (v : EV) : List (ClassId × FieldType) := ty3 v.2.2.1 v.2.2.2.1 v.2.2.2.2.1
abbrev eI (v : EV) : ClassId := v.2.2.1
abbrev eB (v : EV) : ClassId := v.2.2.2.1
abbrev eZ (v : EV) : ClassId := v.2.2.2.2.1
abbrev eK (v : EV) : Nat → Nat := v.2.2.2.2.2.1
abbrev eV (v : EV) : Nat → Nat := v.2.2.2.2.2.2
/-- what both sides need of the tables: the texts -/
def sX (v : EV) (A : Nat → Prop) (U : State) : Prop := va_Z "java/lang/String" "COMPACT_STRINGS" "Z" (.int 1) A U U.heap ∧ va_Zq "jdk/internal/util/Preconditions" "SIOOBE_FORMATTER" "Ljava/util/function/BiFunction;" A U U.heap ∧ vk_S 4 lenS bytS (eK v) (eV v) A U U.heap ∧ vk_R RX12 202 " >>>= >>> <<= >>= += -= *= /= %= &= |= ^= ++ -- || && == != <= >= << >> ( ) [ ] { } , ; ? : = | ^ & < > + - * / % ~ ! " (eK v 0) U ∧ vk_R RX12 215 " int byte void const if else while do for break continue return put get halt " (eK v 1) U ∧ vk_R RX10 99 "int     byte    void    const   if      else    while   do      for     break   continuereturn  put     get     halt    " (eK v 2) U ∧ vk_R RX10 116 "()[]{},;?:=+-*/%&|^<>~!" (eK v 3) U
theorem sX.pass {v : EV} {A B : Nat → Prop} {s U : State} {H : Heap} {locs : List Loc} (h : sX v A s) (hS : va_S A s.heap H locs) (hF : ∀ q, B q → A q) (hU : U.heap = H) (hW : s.WarmedH U.vm) : sX v B U := by
  obtain ⟨h1, h2, h3, h4, h5, h6, h7⟩ := h
  refine ⟨?_, ?_, ?_, vk_R.warm hW h4, vk_R.warm hW h5, vk_R.warm hW h6, vk_R.warm hW h7⟩
  · rw [hU]
    exact va_Z.moved hW.alike ((h1.kept (fun a ha hn => hS.2.1 a ha hn)).narrow hF)
  · rw [hU]
    exact va_Zq.moved hW.alike ((h2.kept (fun a ha hn => hS.2.1 a ha hn)).narrow hF)
  · rw [hU]
    exact vk_S.moved hW.alike ((h3.kept (fun a ha hn => hS.2.1 a ha hn)).narrow hF)
theorem sX.calling {v : EV} {B : Nat → Prop} {U V : State} (h : sX v B U) (hh : V.heap = U.heap) (hv : U.vm = V.vm) : sX v B V := by
  obtain ⟨h1, h2, h3, h4, h5, h6, h7⟩ := h
  have ha : U.vm.Alike V.vm := by rw [← hv]; exact Vm.Alike.refl U.vm
  refine ⟨?_, ?_, ?_, vk_R.same hv.symm h4, vk_R.same hv.symm h5, vk_R.same hv.symm h6, vk_R.same hv.symm h7⟩
  · rw [hh]
    exact va_Z.moved ha h1
  · rw [hh]
    exact va_Zq.moved ha h2
  · rw [hh]
    exact vk_S.moved ha h3
