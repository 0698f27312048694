/-! THE INVARIANT, 3: what is kept lies where keys lie, and single keys are named -/
theorem zE_rm {M : s_M} {d : Nat} (w : d_wf (g_DS M)) : z_E (g_n M + 1) (g_E M) (rm_E M d) := by
  refine zE_fold _ _ (fun F x hx => ?_) _
  have h := rm_lh (w.2.2.2.2 x (List.mem_filter.mp hx).1).2
  exact zE_clr F h.1 h.2
def i_y (E : e_S) (y : k_CH) : Prop := y.2.2.2.1 < 2 ^ 60 ∧ (y.2.1 = 1 ∨ y.2.1 = 6 ∨ (y.2.2.2.1 = y.2.2.1 + 1 ∧ ∃ k, (y.2.2.1, k) ∈ E.1))
def i_3 (M : s_M) : Prop := ∀ t, t < 4 → ∀ y ∈ (g_X M t).2.1, i_y (g_E M) y
theorem i3_nm {M : s_M} (I : i_3 M) : g_nm M := fun t ht y hy => (I t ht y hy).2
theorem i3_tx {M : s_M} {t : Nat} {x : s_X} (I : i_3 M) (hx : ∀ y ∈ x.2.1, y ∈ (g_X M t).2.1) (ht : t < 4) : i_3 (g_tx M t x) := by
  intro u hu y hy
  have hy' : y ∈ (if u = t then x else g_X M u).2.1 := hy
  by_cases e : u = t
  · rw [if_pos e] at hy'
    exact I t ht y (hx y hy')
  · rw [if_neg e] at hy'
    exact I u hu y hy'
theorem i3_cm {M : s_M} {E : e_S} (I : i_3 M) (z : z_E (g_n M + 1) (g_E M) E) : i_3 (g_cm M E) := by
  intro u hu y hy
  obtain ⟨h1, h2⟩ := I u hu y hy
  refine ⟨h1, ?_⟩
  rcases h2 with h | h | ⟨h, k, hk⟩
  · exact Or.inl h
  · exact Or.inr (Or.inl h)
  · exact Or.inr (Or.inr ⟨h, k, zE_keys z hk⟩)
theorem i3_kp1 {M : s_M} {t : Nat} {y : k_CH} (I : i_3 M) (ht : t < 4) (hb : y.2.2.2.1 < 2 ^ 60) (hy : y.2.1 = 1 ∨ y.2.1 = 6 ∨ (y.2.2.2.1 = y.2.2.1 + 1 ∧ m_ck y < 6)) : i_3 (g_kp M t y) := by
  have kk : ∀ x, i_y (g_E M) x → i_y (g_E (g_kp M t y)) x := by
    rintro x ⟨h1, h2⟩
    refine ⟨h1, ?_⟩
    rcases h2 with h | h | ⟨h, k, hk⟩
    · exact Or.inl h
    · exact Or.inr (Or.inl h)
    · refine Or.inr (Or.inr ⟨h, k, ?_⟩)
      show (x.2.2.1, k) ∈ (if m_ck y < 6 then m_ins y.2.2.1 (g_E M).1 else (g_E M).1)
      split
      · exact m_ins_iff.mpr (Or.inl hk)
      · exact hk
  have ky : i_y (g_E (g_kp M t y)) y := by
    refine ⟨hb, ?_⟩
    rcases hy with h | h | ⟨h, hc⟩
    · exact Or.inl h
    · exact Or.inr (Or.inl h)
    · refine Or.inr (Or.inr ⟨h, ?_⟩)
      show ∃ k, (y.2.2.1, k) ∈ (if m_ck y < 6 then m_ins y.2.2.1 (g_E M).1 else (g_E M).1)
      rw [if_pos hc]
      cases e : r_at y.2.2.1 (g_E M).1 with
      | none => exact ⟨0, m_ins_iff.mpr (Or.inr ⟨e, rfl⟩)⟩
      | some k => exact ⟨k, m_ins_iff.mpr (Or.inl (r_at_some e))⟩
  intro u hu x hx
  have hx' : x ∈ (if u = t then ((g_X M t).1, (g_X M t).2.1 ++ [y], (g_X M t).2.2) else g_X M u).2.1 := hx
  by_cases e : u = t
  · rw [if_pos e] at hx'
    rcases List.mem_append.mp hx' with h | h
    · exact kk x (I t ht x h)
    · have : x = y := by simpa using h
      rw [this]
      exact ky
  · rw [if_neg e] at hx'
    exact kk x (I u hu x hx')
