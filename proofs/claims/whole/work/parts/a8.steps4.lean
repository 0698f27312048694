/-! .. and the rest of the calls -/
theorem z_idx {x : Int32} {k : Nat} (hk : k < 2 ^ 20) (h : s_inB x 0 (nI k - 1) = true) : t_of x < k := by
  rw [inB_k hk] at h
  simp only [Bool.and_eq_true, decide_eq_true_eq] at h
  have h1 : ¬ x.toInt < (0 : Int32).toInt := fun z => h.1 (Int32.lt_iff_toInt_lt.mpr z)
  have h2 := Int32.lt_iff_toInt_lt.mp h.2
  rw [nI_toInt (by omega)] at h2
  have h3 : (0 : Int32).toInt = 0 := rfl
  unfold t_of
  omega
theorem z_bringBack {M : s_M} {x : Int32} (hl : (g_MK M).length < 2 ^ 20) : (F_bringBack M x).1 = M ∨ ∃ v ∈ g_MK M, 0 < (bb_list M v).length ∧ (F_bringBack M x).1 = g_cm M (bb_E M v) := by
  unfold F_bringBack
  by_cases h : s_inB x 0 (nI (g_MK M).length - 1) = false
  · rw [if_pos h]; exact Or.inl rfl
  · rw [if_neg h]
    have hi := z_idx hl (by simpa using h)
    by_cases h2 : 0 < (bb_list M ((g_MK M).getD (t_of x) 0)).length
    · refine Or.inr ⟨(g_MK M).getD (t_of x) 0, ?_, h2, if_pos h2⟩
      rw [List.getD_eq_getElem?_getD, List.getElem?_eq_getElem hi]
      exact List.getElem_mem hi
    · exact Or.inl (if_neg h2)
theorem z_directory {M : s_M} {p nm : Int32} : (F_directory M p nm).1 = M ∨ (d_is (g_DS M) p = true ∧ s_inB nm 0 9 = true ∧ d_nm (g_DS M).1 p nm = -2147483648 ∧ ¬ d_many (g_DS M).1 = 9 ∧ (F_directory M p nm).1 = g_dset M ((g_DS M).1 ++ [((g_DS M).2, some (t_of p), t_of nm, d_free (g_DS M).1 12 1)], (g_DS M).2 + 1)) := by
  unfold F_directory
  by_cases h : d_is (g_DS M) p = false
  · rw [if_pos h]; exact Or.inl rfl
  · rw [if_neg h]
    by_cases h2 : s_inB nm 0 9 = false
    · rw [if_pos h2]; exact Or.inl rfl
    · rw [if_neg h2]
      by_cases h3 : ¬ d_nm (g_DS M).1 p nm = -2147483648 ∨ d_many (g_DS M).1 = 9
      · rw [if_pos h3]; exact Or.inl rfl
      · rw [if_neg h3]
        refine Or.inr ⟨by simpa using h, by simpa using h2, ?_, fun z => h3 (Or.inr z), rfl⟩
        exact Classical.byContradiction fun z => h3 (Or.inl z)
theorem z_move {M : s_M} {d p nm : Int32} : (F_move M d p nm).1 = M ∨ (mv_can (g_DS M) d p nm = true ∧ (F_move M d p nm).1 = g_dset M (d_mv (g_DS M).1 (t_of d) (t_of p) (t_of nm), (g_DS M).2)) := by
  unfold F_move
  split
  · exact Or.inl rfl
  · split
    · exact Or.inl rfl
    · split
      · rename_i h
        rw [Bool.and_eq_true] at h
        exact Or.inr ⟨h.1, rfl⟩
      · exact Or.inl rfl
theorem z_remove {M : s_M} {x : Int32} : (F_remove M x).1 = M ∨ (d_is (g_DS M) x = true ∧ ¬ x = 0 ∧ (F_remove M x).1 = g_dset (if 0 < rm_many M (t_of x) then g_cm M (rm_E M (t_of x)) else M) (rm_D M (t_of x))) := by
  unfold F_remove
  by_cases h : d_is (g_DS M) x = false
  · rw [if_pos h]; exact Or.inl rfl
  · rw [if_neg h]
    by_cases h2 : x = 0
    · rw [if_pos h2]; exact Or.inl rfl
    · rw [if_neg h2]; exact Or.inr ⟨by simpa using h, h2, rfl⟩
theorem z_part {M : s_M} {x w : Int32} : (F_part M x w).1 = M := by
  unfold F_part
  repeat' split
  all_goals rfl
theorem z_saved {M : s_M} {x n : Int32} {saves : Bool} {field : Int32} : (F_saved M x n saves field).1 = M ∨ ∃ t, t < 4 ∧ s_inB n 0 99 = true ∧ (saves = true → s_inB field 0 99 = true) ∧ (g_X M t).1.1 = true ∧ (g_X M t).2.1.length < 12 ∧ sv_st M t n = false ∧ (F_saved M x n saves field).1 = (sv_w M t n saves field).1 := by
  unfold F_saved
  by_cases h : s_inB x 0 3 = false
  · rw [if_pos h]; exact Or.inl rfl
  · rw [if_neg h]
    by_cases h2 : (s_inB n 0 99 && (!saves || s_inB field 0 99)) = false
    · rw [if_pos h2]; exact Or.inl rfl
    · rw [if_neg h2]
      by_cases h3 : (g_shut M (t_of x) || sv_st M (t_of x) n) = true
      · rw [if_pos h3]; exact Or.inl rfl
      · rw [if_neg h3]
        have h2' : (s_inB n 0 99 && (!saves || s_inB field 0 99)) = true := by simpa only [Bool.not_eq_false] using h2
        rw [Bool.and_eq_true] at h2'
        rw [Bool.or_eq_true, not_or] at h3
        obtain ⟨s1, s2⟩ := z_shut h3.1
        refine Or.inr ⟨t_of x, z_t4 (by simpa using h), h2'.1, fun z => ?_, s1, s2, by simpa using h3.2, rfl⟩
        have := h2'.2
        rw [z] at this
        simpa using this
