/-! THE STATE BEHIND EACH CALL, IN FEW KINDS OF STEPS -/
def z_rd (M M' : s_M) : Prop := M' = M ∨ ∃ t r, t < 4 ∧ (g_X M t).1.1 = true ∧ M' = g_rdg M t r ∧ r.length ≤ (g_X M t).2.2.length + 1
theorem z_t4 {x : Int32} (h : s_inB x 0 3 = true) : t_of x < 4 := by
  obtain ⟨e, hle⟩ := s_inN (m := 3) (by decide) h
  exact Nat.lt_succ_of_le hle
theorem z_get {M : s_M} {x a b c : Int32} {counts : Bool} : z_rd M (F_get M x a b c counts).1 := by
  unfold F_get
  by_cases h1 : s_inB x 0 3 = false
  · rw [if_pos h1]; exact Or.inl rfl
  · rw [if_neg h1]
    split
    · exact Or.inl rfl
    · split
      · exact Or.inl rfl
      · rename_i h3
        split
        · exact Or.inl rfl
        · refine Or.inr ⟨t_of x, _, z_t4 (by simpa using h1), by simpa using h3, rfl, ?_⟩
          unfold s_rdk
          split
          · rw [List.length_append]; exact Nat.le_refl _
          · exact Nat.le_succ _
theorem z_range {M : s_M} {x a b : Int32} {counts : Bool} : z_rd M (F_range M x a b counts).1 := by
  unfold F_range
  by_cases h1 : s_inB x 0 3 = false
  · rw [if_pos h1]; exact Or.inl rfl
  · rw [if_neg h1]
    split
    · exact Or.inl rfl
    · split
      · exact Or.inl rfl
      · rename_i h3
        by_cases hc : counts = true
        · refine Or.inr ⟨t_of x, _, z_t4 (by simpa using h1), by simpa using h3, if_pos hc, ?_⟩
          rw [List.length_append]; exact Nat.le_refl _
        · exact Or.inl (if_neg hc)
theorem z_rangeAt {M : s_M} {x a b p w : Int32} : z_rd M (F_rangeAt M x a b p w).1 := by
  unfold F_rangeAt
  by_cases h1 : (s_inB x 0 3 && decide (¬ p < 0)) = false
  · rw [if_pos h1]; exact Or.inl rfl
  · rw [if_neg h1]
    have h0 : s_inB x 0 3 = true := by
      cases e : s_inB x 0 3 with
      | true => rfl
      | false => rw [e] at h1; exact absurd rfl h1
    split
    · exact Or.inl rfl
    · split
      · exact Or.inl rfl
      · rename_i h3
        refine Or.inr ⟨t_of x, _, z_t4 h0, by simpa using h3, rfl, ?_⟩
        rw [List.length_append]; exact Nat.le_refl _
