/-! .. the calls that change the store -/
theorem z_td {M : s_M} {t : Nat} : (f_td M t).1 = M ∨ ∃ w, (f_td M t).1 = g_sw M w := by
  unfold f_td
  split
  · exact Or.inl rfl
  · split
    · exact Or.inl rfl
    · split
      · exact Or.inl rfl
      · split
        · exact Or.inr ⟨_, rfl⟩
        · exact Or.inl rfl
/-- the ways of a commit of t -/
def z_ct (M M' : s_M) (t : Nat) : Prop := (∃ M1, (M1 = M ∨ ∃ w, M1 = g_sw M w) ∧ M' = g_tx M1 t (g_ov (g_X M1 t))) ∨
  (g_goes M t = true ∧ ((g_los M = 2 ∧ M' = g_sl M 0) ∨ (g_los M = 1 ∧ M' = g_did M t) ∨ (¬ g_los M = 2 ∧ ¬ g_los M = 1 ∧ M' = g_tx (g_did M t) t (g_ov (g_X (g_did M t) t)))))
theorem z_commit {M : s_M} {x : Int32} (hn : g_n M < 2 ^ 20) (hra : ∀ t, t < 4 → (g_X M t).1.2.2.1 ≤ g_n M ∧ (g_X M t).1.2.2.2.2 ≤ g_n M) : (F_commit M x).1 = M ∨ ∃ t, t < 4 ∧ (g_X M t).1.1 = true ∧ z_ct M (F_commit M x).1 t := by
  unfold F_commit
  by_cases h1 : s_inB x 0 3 = false
  · rw [if_pos h1]; exact Or.inl rfl
  · rw [if_neg h1]
    have ht := z_t4 (x := x) (by simpa using h1)
    by_cases h2 : (g_X M (t_of x)).1.1 = false
    · rw [if_pos h2]; exact Or.inl rfl
    · rw [if_neg h2]
      refine Or.inr ⟨t_of x, ht, by simpa using h2, ?_⟩
      show z_ct M (f_commit M (t_of x)).1 (t_of x)
      rcases td_cm hn (hra _ ht).1 (hra _ ht).2 with ⟨-, e⟩ | ⟨-, g, e⟩
      · rw [e]
        exact Or.inl ⟨(f_td M (t_of x)).1, z_td, rfl⟩
      · refine Or.inr ⟨g, ?_⟩
        rw [e]
        by_cases e2 : g_los M = 2
        · rw [if_pos e2]; exact Or.inl ⟨e2, rfl⟩
        · rw [if_neg e2]
          by_cases e1 : g_los M = 1
          · rw [if_pos e1]; exact Or.inr (Or.inl ⟨e1, rfl⟩)
          · rw [if_neg e1]; exact Or.inr (Or.inr ⟨e2, e1, rfl⟩)
theorem z_off {M : s_M} {x : Int32} : (F_off M x).1 = M ∨ (s_inB x 0 2 = true ∧ (F_off M x).1 = g_cm M (of_E M x)) := by
  unfold F_off
  by_cases h : s_inB x 0 2 = false
  · rw [if_pos h]; exact Or.inl rfl
  · rw [if_neg h]; exact Or.inr ⟨by simpa using h, rfl⟩
theorem z_build {M : s_M} {x most : Int32} : (F_build M x most).1 = M ∨ (s_inB x 0 2 = true ∧ s_inB most 1 20 = true ∧ (F_build M x most).1 = g_cm M (bl_E M x most)) := by
  unfold F_build
  by_cases h : s_inB x 0 2 = false
  · rw [if_pos h]; exact Or.inl rfl
  · rw [if_neg h]
    by_cases h2 : s_inB most 1 20 = false
    · rw [if_pos h2]; exact Or.inl rfl
    · rw [if_neg h2]
      split
      · exact Or.inl rfl
      · exact Or.inr ⟨by simpa using h, by simpa using h2, rfl⟩
theorem z_take {M : s_M} {w : Int32} : (F_take M w).1 = M ∨ (s_inB w 0 2 = true ∧ ∃ y, (wk_list M (-2147483648)).head? = some y ∧ (F_take M w).1 = g_cm M (wk_tE M w y.1)) := by
  unfold F_take
  by_cases h : s_inB w 0 2 = false
  · rw [if_pos h]; exact Or.inl rfl
  · rw [if_neg h]
    cases e : (wk_list M (-2147483648)).head? with
    | none => exact Or.inl rfl
    | some y => exact Or.inr ⟨by simpa using h, y, rfl, rfl⟩
theorem z_finish {M : s_M} {w : Int32} : (F_finish M w).1 = M ∨ (s_inB w 0 2 = true ∧ ∃ y, (wk_list M w).head? = some y ∧ (F_finish M w).1 = g_cm M (wk_fE M y.1)) := by
  unfold F_finish
  by_cases h : s_inB w 0 2 = false
  · rw [if_pos h]; exact Or.inl rfl
  · rw [if_neg h]
    cases e : (wk_list M w).head? with
    | none => exact Or.inl rfl
    | some y => exact Or.inr ⟨by simpa using h, y, rfl, rfl⟩
