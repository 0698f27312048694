/-! .. index off, directories that go -/
theorem zE_off {M : s_M} {x : Int32} (h : s_inB x 0 2 = true) : z_E (g_n M + 1) (g_E M) (of_E M x) := by
  have h2 : of_lo x < of_hi x + 1 ∧ of_hi x + 1 < 2 ^ 60 := by
    rcases s_in3 h with rfl | rfl | rfl <;> decide +kernel
  exact zE_trans (zE_clr _ h2.1 h2.2) (zE_put _ _ _ _)
theorem rm_lh {d : s_D} (h : d.2.2.2 ≤ 9) : rm_lo d < rm_hi d + 1 ∧ rm_hi d + 1 < 2 ^ 60 := by
  unfold rm_lo rm_hi
  generalize d.2.2.2 = k at h
  have hc : k = 0 ∨ k = 1 ∨ k = 2 ∨ k = 3 ∨ k = 4 ∨ k = 5 ∨ k = 6 ∨ k = 7 ∨ k = 8 ∨ k = 9 := by omega
  rcases hc with rfl | rfl | rfl | rfl | rfl | rfl | rfl | rfl | rfl | rfl <;> decide +kernel
