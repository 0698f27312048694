/-! .. the keeping calls -/
/-- what a call keeps: a change of one key, of a key's stamp, or a range that is cleared -/
def z_y (M : s_M) (y : k_CH) : Prop := y.1 = g_ser M + 1 ∧ ((y.2.1 = 1 ∧ ∃ a b, s_rngB a b = true ∧ (a = 10000 ∨ s_inB a (-7) (-1) = true → False) ∧ y.2.2.1 = s_lo a b ∧ y.2.2.2.1 = s_la a b + 1) ∨
  (∃ a b c, s_keyB a b c = true ∧ s_inB a (-7) (-1) = false ∧ s_inB y.2.1 0 6 = true ∧ y.2.2.1 = s_cd a b c ∧ y.2.2.2.1 = s_cd a b c + 1) ∨
  (y.2.1 = 6 ∧ y.2.2.1 = s_cd (-5) 0 10000 ∧ y.2.2.2.1 = s_cd (-5) 0 10000 + 1))
def z_kp (M M' : s_M) : Prop := M' = M ∨ ∃ t y, t < 4 ∧ (g_X M t).1.1 = true ∧ (g_X M t).2.1.length < 12 ∧ M' = g_kp M t y ∧ z_y M y
theorem z_shut {M : s_M} {t : Nat} (h : ¬ g_shut M t = true) : (g_X M t).1.1 = true ∧ (g_X M t).2.1.length < 12 := by
  unfold g_shut at h
  simp only [Bool.or_eq_true, Bool.not_eq_true', decide_eq_true_eq, not_or] at h
  exact ⟨by simpa using h.1, by omega⟩
theorem z_change {M : s_M} {x k a b c v : Int32} : z_kp M (F_change M x k a b c v).1 := by
  unfold F_change
  by_cases h1 : s_inB x 0 3 = false
  · rw [if_pos h1]; exact Or.inl rfl
  · rw [if_neg h1]
    by_cases h2 : (s_inB k 0 6 && (decide (k = 1) || decide (k = 5) || s_inB v (-1000000) 1000000) && s_keyB a b c && !s_inB a (-7) (-1)) = false
    · rw [if_pos h2]; exact Or.inl rfl
    · rw [if_neg h2]
      have h2' : (s_inB k 0 6 && (decide (k = 1) || decide (k = 5) || s_inB v (-1000000) 1000000) && s_keyB a b c && !s_inB a (-7) (-1)) = true := by simpa only [Bool.not_eq_false] using h2
      rw [Bool.and_eq_true, Bool.and_eq_true, Bool.and_eq_true] at h2'
      by_cases h3 : g_shut M (t_of x) = true
      · rw [if_pos h3]; exact Or.inl rfl
      · rw [if_neg h3]
        obtain ⟨s1, s2⟩ := z_shut h3
        refine Or.inr ⟨t_of x, _, z_t4 (by simpa using h1), s1, s2, rfl, rfl, Or.inr (Or.inl ⟨a, b, c, h2'.1.2, by simpa using h2'.2, h2'.1.1.1, rfl, rfl⟩)⟩
theorem z_clear {M : s_M} {x a b : Int32} : z_kp M (F_clear M x a b).1 := by
  unfold F_clear
  by_cases h1 : s_inB x 0 3 = false
  · rw [if_pos h1]; exact Or.inl rfl
  · rw [if_neg h1]
    by_cases h2 : (s_rngB a b && !(decide (a = 10000)) && !s_inB a (-7) (-1)) = false
    · rw [if_pos h2]; exact Or.inl rfl
    · rw [if_neg h2]
      have h2' : (s_rngB a b && !(decide (a = 10000)) && !s_inB a (-7) (-1)) = true := by simpa only [Bool.not_eq_false] using h2
      rw [Bool.and_eq_true, Bool.and_eq_true] at h2'
      by_cases h3 : g_shut M (t_of x) = true
      · rw [if_pos h3]; exact Or.inl rfl
      · rw [if_neg h3]
        obtain ⟨s1, s2⟩ := z_shut h3
        refine Or.inr ⟨t_of x, _, z_t4 (by simpa using h1), s1, s2, rfl, rfl, Or.inl ⟨rfl, a, b, h2'.1.1, ?_, rfl, rfl⟩⟩
        rintro (e | e)
        · have := h2'.1.2; rw [e] at this; exact absurd this (by decide)
        · have := h2'.2; rw [e] at this; exact absurd this (by decide)
theorem z_offer {M : s_M} {x v : Int32} : z_kp M (F_offer M x v).1 := by
  unfold F_offer
  by_cases h1 : s_inB x 0 3 = false
  · rw [if_pos h1]; exact Or.inl rfl
  · rw [if_neg h1]
    split
    · exact Or.inl rfl
    · by_cases h3 : g_shut M (t_of x) = true
      · rw [if_pos h3]; exact Or.inl rfl
      · rw [if_neg h3]
        obtain ⟨s1, s2⟩ := z_shut h3
        exact Or.inr ⟨t_of x, _, z_t4 (by simpa using h1), s1, s2, rfl, rfl, Or.inr (Or.inr ⟨rfl, rfl, rfl⟩)⟩
/-! .. the calls that change nothing, or one part of the state -/
def z_0 (M M' : s_M) : Prop := M' = M
theorem z_begin {M : s_M} {x : Int32} {once : Bool} : (F_begin M x once).1 = M ∨ ∃ t, t < 4 ∧ (F_begin M x once).1 = g_tx M t ((true, once, g_n M, g_gen M, 0), [], []) := by
  unfold F_begin
  by_cases h1 : s_inB x 0 3 = false
  · rw [if_pos h1]; exact Or.inl rfl
  · rw [if_neg h1]; exact Or.inr ⟨t_of x, z_t4 (by simpa using h1), rfl⟩
theorem z_pass {M : s_M} {x : Int32} : (F_pass M x).1 = M ∨ ∃ k, k ≤ 10 ∧ (F_pass M x).1 = g_adv M k (g_gen M) := by
  unfold F_pass
  by_cases h1 : s_inB x 1 10 = false
  · rw [if_pos h1]; exact Or.inl rfl
  · rw [if_neg h1]
    refine Or.inr ⟨x.toInt.toNat, ?_, rfl⟩
    have h2 : s_inB x 1 10 = true := by simpa using h1
    unfold s_inB at h2
    simp only [Bool.and_eq_true, decide_eq_true_eq] at h2
    have h3 : ¬ (10 : Int32).toInt < x.toInt := fun z => h2.2 (Int32.lt_iff_toInt_lt.mpr z)
    have h4 : (10 : Int32).toInt = 10 := rfl
    omega
theorem z_value {M : s_M} {v a b c : Int32} : (F_value M v a b c).1 = M := by unfold F_value; split <;> rfl
theorem z_packed {M : s_M} {a b c p : Int32} : (F_packed M a b c p).1 = M := by
  unfold F_packed
  repeat' split
  all_goals rfl
theorem z_shortName {M : s_M} {x : Int32} : (F_shortName M x).1 = M := by unfold F_shortName; split <;> rfl
theorem z_named {M : s_M} {p nm : Int32} : (F_named M p nm).1 = M := by
  unfold F_named
  repeat' split
  all_goals rfl
theorem z_ranked {M : s_M} {f : Int32} {z : Bool} : (F_ranked M f z).1 = M := by unfold F_ranked; split <;> rfl
theorem z_fired {M : s_M} {x : Int32} : (F_fired M x).1 = M := by unfold F_fired; split <;> rfl
theorem z_watch {M : s_M} {a b c : Int32} : (F_watch M a b c).1 = M ∨ (¬ (g_WT M).length = 20 ∧ (F_watch M a b c).1 = g_wts M (g_WT M ++ [(s_cd a b c, -2147483648)])) := by
  unfold F_watch
  split
  · exact Or.inl rfl
  · split
    · exact Or.inl rfl
    · rename_i h
      exact Or.inr ⟨h, rfl⟩
theorem z_mark {M : s_M} : (F_mark M).1 = M ∨ (¬ (g_MK M).length = 10 ∧ (F_mark M).1 = g_mks M (g_MK M ++ [g_n M])) := by
  unfold F_mark
  split
  · exact Or.inl rfl
  · rename_i h
    exact Or.inr ⟨h, rfl⟩
