theorem my_eq {a b : Int32} : (a = b) = (a.toInt = b.toInt) := propext Int32.toInt_inj.symm
theorem eq_end (p0 : Int32) : sp_kX11_end p0 = sp_kX12_end p0 := rfl
theorem eq_run (p0 : Int32) : sp_kX11_run p0 = sp_kX12_run p0 := rfl
theorem eq_world (p0 : Int32) : sp_kX11_world p0 = sp_kX12_world p0 := rfl
theorem eq_output (p0 : Int32) : sp_kX11_output p0 = sp_kX12_output p0 := by
  unfold sp_kX11_output sp_kX7_shown sp_kX12_output
  (repeat' split) <;> rfl
theorem eq_set (p0 p1 : Int32) : sp_kX11_set p0 p1 = sp_kX12_set p0 p1 := by
  unfold sp_kX11_set sp_kX0_change sp_kX12_set
  (repeat' split) <;> first | rfl | contradiction
theorem eq_go (p0 : Int32) : sp_kX11_go p0 = sp_kX12_go p0 := by
  unfold sp_kX11_go sp_kX0_doWords sp_kX12_go
  (repeat' split) <;> first | rfl | contradiction
theorem eq_board (p0 : Int32) : sp_kX11_board p0 = sp_kX12_board p0 := by
  unfold sp_kX11_board sp_kX0_shown sp_kX12_board
  (repeat' split) <;> first | rfl | contradiction | (exfalso; simp only [my_lt, my_le, my_eq, show (0 : Int32).toInt = 0 by decide, show (32 : Int32).toInt = 32 by decide, show (33 : Int32).toInt = 33 by decide, show (100 : Int32).toInt = 100 by decide, show (4196 : Int32).toInt = 4196 by decide] at *; omega)
theorem eq_put1 {x : Int32} (h0 : ¬ x < 0) (h1 : ¬ (16384 : Int32) ≤ x) (h3 : (x &&& 3) = 0) : x ≤ 16380 := by
  rcases pk_ix x (n := 16384) (by decide) with h | h | ⟨j, hj, rfl⟩
  · exact absurd h h0
  · exact absurd h h1
  · rw [pk_andN (by omega) 2 (by decide), show (0 : Int32) = nI 0 by decide, nI_eq (by omega) (by decide)] at h3
    rw [show (16380 : Int32) = nI 16380 by decide]
    exact nI_le (by omega) (by decide)
theorem eq_put (p0 p1 : Int32) : sp_kX11_put p0 p1 = sp_kX12_put p0 p1 := by
  unfold sp_kX11_put sp_kX0_hold sp_kX12_put
  by_cases h0 : p0 < 0 <;> by_cases h3 : (p0 &&& 3) = 0 <;> by_cases h1 : (16384 : Int32) ≤ p0 <;> by_cases h4 : p0 ≤ 16380 <;> first | (simp only [if_pos h0, if_pos h1, if_pos h3, if_pos h4]; done) | (simp [h0, h1, h3, h4]; done) | exact absurd (eq_put1 h0 h1 h3) h4 | exact absurd h1 (my_put h4)
