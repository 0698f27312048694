section
/-! THE STATE BEHIND EACH CALL, IN FEW KINDS OF STEPS -/
def z_rd (M M' : s_M) : Prop := M' = M ∨ ∃ t r, t < 4 ∧ (g_X M t).1.1 = true ∧ M' = g_rdg M t r ∧ r.length ≤ (g_X M t).2.2.length + 1
theorem z_t4 {x : Int32} (h : s_inB x 0 3 = true) : t_of x < 4 := by
  obtain ⟨e, hle⟩ := s_inN (m := 3) (by decide) h
  exact Nat.lt_succ_of_le hle
theorem z_get {M : s_M} {x a b c : Int32} {counts : Bool} : z_rd M (F_get M x a b c counts).1 := by
  unfold F_get
  by_cases h1 : s_inB x 0 3 = false
  · rw [if_pos h1]; exact Or.inl rfl
  · rw [if_neg h1]
    split
    · exact Or.inl rfl
    · split
      · exact Or.inl rfl
      · rename_i h3
        split
        · exact Or.inl rfl
        · refine Or.inr ⟨t_of x, _, z_t4 (by simpa using h1), by simpa using h3, rfl, ?_⟩
          unfold s_rdk
          split
          · rw [List.length_append]; exact Nat.le_refl _
          · exact Nat.le_succ _
theorem z_range {M : s_M} {x a b : Int32} {counts : Bool} : z_rd M (F_range M x a b counts).1 := by
  unfold F_range
  by_cases h1 : s_inB x 0 3 = false
  · rw [if_pos h1]; exact Or.inl rfl
  · rw [if_neg h1]
    split
    · exact Or.inl rfl
    · split
      · exact Or.inl rfl
      · rename_i h3
        by_cases hc : counts = true
        · refine Or.inr ⟨t_of x, _, z_t4 (by simpa using h1), by simpa using h3, if_pos hc, ?_⟩
          rw [List.length_append]; exact Nat.le_refl _
        · exact Or.inl (if_neg hc)
theorem z_rangeAt {M : s_M} {x a b p w : Int32} : z_rd M (F_rangeAt M x a b p w).1 := by
  unfold F_rangeAt
  by_cases h1 : (s_inB x 0 3 && decide (¬ p < 0)) = false
  · rw [if_pos h1]; exact Or.inl rfl
  · rw [if_neg h1]
    have h0 : s_inB x 0 3 = true := by
      cases e : s_inB x 0 3 with
      | true => rfl
      | false => rw [e] at h1; exact absurd rfl h1
    split
    · exact Or.inl rfl
    · split
      · exact Or.inl rfl
      · rename_i h3
        refine Or.inr ⟨t_of x, _, z_t4 h0, by simpa using h3, rfl, ?_⟩
        rw [List.length_append]; exact Nat.le_refl _
end
section
/-! .. the keeping calls -/
/-- what a call keeps: a change of one key, of a key's stamp, or a range that is cleared -/
def z_y (M : s_M) (y : k_CH) : Prop := y.1 = g_ser M + 1 ∧ ((y.2.1 = 1 ∧ ∃ a b, s_rngB a b = true ∧ (a = 10000 ∨ s_inB a (-7) (-1) = true → False) ∧ y.2.2.1 = s_lo a b ∧ y.2.2.2.1 = s_la a b + 1) ∨
  (∃ a b c, s_keyB a b c = true ∧ s_inB a (-7) (-1) = false ∧ s_inB y.2.1 0 6 = true ∧ y.2.2.1 = s_cd a b c ∧ y.2.2.2.1 = s_cd a b c + 1) ∨
  (y.2.1 = 6 ∧ y.2.2.1 = s_cd (-5) 0 10000 ∧ y.2.2.2.1 = s_cd (-5) 0 10000 + 1))
def z_kp (M M' : s_M) : Prop := M' = M ∨ ∃ t y, t < 4 ∧ (g_X M t).1.1 = true ∧ (g_X M t).2.1.length < 12 ∧ M' = g_kp M t y ∧ z_y M y
theorem z_shut {M : s_M} {t : Nat} (h : ¬ g_shut M t = true) : (g_X M t).1.1 = true ∧ (g_X M t).2.1.length < 12 := by
  unfold g_shut at h
  simp only [Bool.or_eq_true, Bool.not_eq_true', decide_eq_true_eq, not_or] at h
  exact ⟨by simpa using h.1, by omega⟩
theorem z_change {M : s_M} {x k a b c v : Int32} : z_kp M (F_change M x k a b c v).1 := by
  unfold F_change
  by_cases h1 : s_inB x 0 3 = false
  · rw [if_pos h1]; exact Or.inl rfl
  · rw [if_neg h1]
    by_cases h2 : (s_inB k 0 6 && (decide (k = 1) || decide (k = 5) || s_inB v (-1000000) 1000000) && s_keyB a b c && !s_inB a (-7) (-1)) = false
    · rw [if_pos h2]; exact Or.inl rfl
    · rw [if_neg h2]
      have h2' : (s_inB k 0 6 && (decide (k = 1) || decide (k = 5) || s_inB v (-1000000) 1000000) && s_keyB a b c && !s_inB a (-7) (-1)) = true := by simpa only [Bool.not_eq_false] using h2
      rw [Bool.and_eq_true, Bool.and_eq_true, Bool.and_eq_true] at h2'
      by_cases h3 : g_shut M (t_of x) = true
      · rw [if_pos h3]; exact Or.inl rfl
      · rw [if_neg h3]
        obtain ⟨s1, s2⟩ := z_shut h3
        refine Or.inr ⟨t_of x, _, z_t4 (by simpa using h1), s1, s2, rfl, rfl, Or.inr (Or.inl ⟨a, b, c, h2'.1.2, by simpa using h2'.2, h2'.1.1.1, rfl, rfl⟩)⟩
theorem z_clear {M : s_M} {x a b : Int32} : z_kp M (F_clear M x a b).1 := by
  unfold F_clear
  by_cases h1 : s_inB x 0 3 = false
  · rw [if_pos h1]; exact Or.inl rfl
  · rw [if_neg h1]
    by_cases h2 : (s_rngB a b && !(decide (a = 10000)) && !s_inB a (-7) (-1)) = false
    · rw [if_pos h2]; exact Or.inl rfl
    · rw [if_neg h2]
      have h2' : (s_rngB a b && !(decide (a = 10000)) && !s_inB a (-7) (-1)) = true := by simpa only [Bool.not_eq_false] using h2
      rw [Bool.and_eq_true, Bool.and_eq_true] at h2'
      by_cases h3 : g_shut M (t_of x) = true
      · rw [if_pos h3]; exact Or.inl rfl
      · rw [if_neg h3]
        obtain ⟨s1, s2⟩ := z_shut h3
        refine Or.inr ⟨t_of x, _, z_t4 (by simpa using h1), s1, s2, rfl, rfl, Or.inl ⟨rfl, a, b, h2'.1.1, ?_, rfl, rfl⟩⟩
        rintro (e | e)
        · have := h2'.1.2; rw [e] at this; exact absurd this (by decide)
        · have := h2'.2; rw [e] at this; exact absurd this (by decide)
theorem z_offer {M : s_M} {x v : Int32} : z_kp M (F_offer M x v).1 := by
  unfold F_offer
  by_cases h1 : s_inB x 0 3 = false
  · rw [if_pos h1]; exact Or.inl rfl
  · rw [if_neg h1]
    split
    · exact Or.inl rfl
    · by_cases h3 : g_shut M (t_of x) = true
      · rw [if_pos h3]; exact Or.inl rfl
      · rw [if_neg h3]
        obtain ⟨s1, s2⟩ := z_shut h3
        exact Or.inr ⟨t_of x, _, z_t4 (by simpa using h1), s1, s2, rfl, rfl, Or.inr (Or.inr ⟨rfl, rfl, rfl⟩)⟩
/-! .. the calls that change nothing, or one part of the state -/
def z_0 (M M' : s_M) : Prop := M' = M
theorem z_begin {M : s_M} {x : Int32} {once : Bool} : (F_begin M x once).1 = M ∨ ∃ t, t < 4 ∧ (F_begin M x once).1 = g_tx M t ((true, once, g_n M, g_gen M, 0), [], []) := by
  unfold F_begin
  by_cases h1 : s_inB x 0 3 = false
  · rw [if_pos h1]; exact Or.inl rfl
  · rw [if_neg h1]; exact Or.inr ⟨t_of x, z_t4 (by simpa using h1), rfl⟩
theorem z_pass {M : s_M} {x : Int32} : (F_pass M x).1 = M ∨ ∃ k, k ≤ 10 ∧ (F_pass M x).1 = g_adv M k (g_gen M) := by
  unfold F_pass
  by_cases h1 : s_inB x 1 10 = false
  · rw [if_pos h1]; exact Or.inl rfl
  · rw [if_neg h1]
    refine Or.inr ⟨x.toInt.toNat, ?_, rfl⟩
    have h2 : s_inB x 1 10 = true := by simpa using h1
    unfold s_inB at h2
    simp only [Bool.and_eq_true, decide_eq_true_eq] at h2
    have h3 : ¬ (10 : Int32).toInt < x.toInt := fun z => h2.2 (Int32.lt_iff_toInt_lt.mpr z)
    have h4 : (10 : Int32).toInt = 10 := rfl
    omega
theorem z_value {M : s_M} {v a b c : Int32} : (F_value M v a b c).1 = M := by unfold F_value; split <;> rfl
theorem z_packed {M : s_M} {a b c p : Int32} : (F_packed M a b c p).1 = M := by
  unfold F_packed
  repeat' split
  all_goals rfl
theorem z_shortName {M : s_M} {x : Int32} : (F_shortName M x).1 = M := by unfold F_shortName; split <;> rfl
theorem z_named {M : s_M} {p nm : Int32} : (F_named M p nm).1 = M := by
  unfold F_named
  repeat' split
  all_goals rfl
theorem z_ranked {M : s_M} {f : Int32} {z : Bool} : (F_ranked M f z).1 = M := by unfold F_ranked; split <;> rfl
theorem z_fired {M : s_M} {x : Int32} : (F_fired M x).1 = M := by unfold F_fired; split <;> rfl
theorem z_watch {M : s_M} {a b c : Int32} : (F_watch M a b c).1 = M ∨ (¬ (g_WT M).length = 20 ∧ (F_watch M a b c).1 = g_wts M (g_WT M ++ [(s_cd a b c, -2147483648)])) := by
  unfold F_watch
  split
  · exact Or.inl rfl
  · split
    · exact Or.inl rfl
    · rename_i h
      exact Or.inr ⟨h, rfl⟩
theorem z_mark {M : s_M} : (F_mark M).1 = M ∨ (¬ (g_MK M).length = 10 ∧ (F_mark M).1 = g_mks M (g_MK M ++ [g_n M])) := by
  unfold F_mark
  split
  · exact Or.inl rfl
  · rename_i h
    exact Or.inr ⟨h, rfl⟩
end
section
/-! .. the calls that change the store -/
theorem z_td {M : s_M} {t : Nat} : (f_td M t).1 = M ∨ ∃ w, (f_td M t).1 = g_sw M w := by
  unfold f_td
  split
  · exact Or.inl rfl
  · split
    · exact Or.inl rfl
    · split
      · exact Or.inl rfl
      · split
        · exact Or.inr ⟨_, rfl⟩
        · exact Or.inl rfl
/-- the ways of a commit of t -/
def z_ct (M M' : s_M) (t : Nat) : Prop := (∃ M1, (M1 = M ∨ ∃ w, M1 = g_sw M w) ∧ M' = g_tx M1 t (g_ov (g_X M1 t))) ∨
  (g_goes M t = true ∧ ((g_los M = 2 ∧ M' = g_sl M 0) ∨ (g_los M = 1 ∧ M' = g_did M t) ∨ (¬ g_los M = 2 ∧ ¬ g_los M = 1 ∧ M' = g_tx (g_did M t) t (g_ov (g_X (g_did M t) t)))))
theorem z_commit {M : s_M} {x : Int32} (hn : g_n M < 2 ^ 20) (hra : ∀ t, t < 4 → (g_X M t).1.2.2.1 ≤ g_n M ∧ (g_X M t).1.2.2.2.2 ≤ g_n M) : (F_commit M x).1 = M ∨ ∃ t, t < 4 ∧ (g_X M t).1.1 = true ∧ z_ct M (F_commit M x).1 t := by
  unfold F_commit
  by_cases h1 : s_inB x 0 3 = false
  · rw [if_pos h1]; exact Or.inl rfl
  · rw [if_neg h1]
    have ht := z_t4 (x := x) (by simpa using h1)
    by_cases h2 : (g_X M (t_of x)).1.1 = false
    · rw [if_pos h2]; exact Or.inl rfl
    · rw [if_neg h2]
      refine Or.inr ⟨t_of x, ht, by simpa using h2, ?_⟩
      show z_ct M (f_commit M (t_of x)).1 (t_of x)
      rcases td_cm hn (hra _ ht).1 (hra _ ht).2 with ⟨-, e⟩ | ⟨-, g, e⟩
      · rw [e]
        exact Or.inl ⟨(f_td M (t_of x)).1, z_td, rfl⟩
      · refine Or.inr ⟨g, ?_⟩
        rw [e]
        by_cases e2 : g_los M = 2
        · rw [if_pos e2]; exact Or.inl ⟨e2, rfl⟩
        · rw [if_neg e2]
          by_cases e1 : g_los M = 1
          · rw [if_pos e1]; exact Or.inr (Or.inl ⟨e1, rfl⟩)
          · rw [if_neg e1]; exact Or.inr (Or.inr ⟨e2, e1, rfl⟩)
theorem z_off {M : s_M} {x : Int32} : (F_off M x).1 = M ∨ (s_inB x 0 2 = true ∧ (F_off M x).1 = g_cm M (of_E M x)) := by
  unfold F_off
  by_cases h : s_inB x 0 2 = false
  · rw [if_pos h]; exact Or.inl rfl
  · rw [if_neg h]; exact Or.inr ⟨by simpa using h, rfl⟩
theorem z_build {M : s_M} {x most : Int32} : (F_build M x most).1 = M ∨ (s_inB x 0 2 = true ∧ s_inB most 1 20 = true ∧ (F_build M x most).1 = g_cm M (bl_E M x most)) := by
  unfold F_build
  by_cases h : s_inB x 0 2 = false
  · rw [if_pos h]; exact Or.inl rfl
  · rw [if_neg h]
    by_cases h2 : s_inB most 1 20 = false
    · rw [if_pos h2]; exact Or.inl rfl
    · rw [if_neg h2]
      split
      · exact Or.inl rfl
      · exact Or.inr ⟨by simpa using h, by simpa using h2, rfl⟩
theorem z_take {M : s_M} {w : Int32} : (F_take M w).1 = M ∨ (s_inB w 0 2 = true ∧ ∃ y, (wk_list M (-2147483648)).head? = some y ∧ (F_take M w).1 = g_cm M (wk_tE M w y.1)) := by
  unfold F_take
  by_cases h : s_inB w 0 2 = false
  · rw [if_pos h]; exact Or.inl rfl
  · rw [if_neg h]
    cases e : (wk_list M (-2147483648)).head? with
    | none => exact Or.inl rfl
    | some y => exact Or.inr ⟨by simpa using h, y, rfl, rfl⟩
theorem z_finish {M : s_M} {w : Int32} : (F_finish M w).1 = M ∨ (s_inB w 0 2 = true ∧ ∃ y, (wk_list M w).head? = some y ∧ (F_finish M w).1 = g_cm M (wk_fE M y.1)) := by
  unfold F_finish
  by_cases h : s_inB w 0 2 = false
  · rw [if_pos h]; exact Or.inl rfl
  · rw [if_neg h]
    cases e : (wk_list M w).head? with
    | none => exact Or.inl rfl
    | some y => exact Or.inr ⟨by simpa using h, y, rfl, rfl⟩
end
section
/-! .. and the rest of the calls -/
theorem z_idx {x : Int32} {k : Nat} (hk : k < 2 ^ 20) (h : s_inB x 0 (nI k - 1) = true) : t_of x < k := by
  rw [inB_k hk] at h
  simp only [Bool.and_eq_true, decide_eq_true_eq] at h
  have h1 : ¬ x.toInt < (0 : Int32).toInt := fun z => h.1 (Int32.lt_iff_toInt_lt.mpr z)
  have h2 := Int32.lt_iff_toInt_lt.mp h.2
  rw [nI_toInt (by omega)] at h2
  have h3 : (0 : Int32).toInt = 0 := rfl
  unfold t_of
  omega
theorem z_bringBack {M : s_M} {x : Int32} (hl : (g_MK M).length < 2 ^ 20) : (F_bringBack M x).1 = M ∨ ∃ v ∈ g_MK M, 0 < (bb_list M v).length ∧ (F_bringBack M x).1 = g_cm M (bb_E M v) := by
  unfold F_bringBack
  by_cases h : s_inB x 0 (nI (g_MK M).length - 1) = false
  · rw [if_pos h]; exact Or.inl rfl
  · rw [if_neg h]
    have hi := z_idx hl (by simpa using h)
    by_cases h2 : 0 < (bb_list M ((g_MK M).getD (t_of x) 0)).length
    · refine Or.inr ⟨(g_MK M).getD (t_of x) 0, ?_, h2, if_pos h2⟩
      rw [List.getD_eq_getElem?_getD, List.getElem?_eq_getElem hi]
      exact List.getElem_mem hi
    · exact Or.inl (if_neg h2)
theorem z_directory {M : s_M} {p nm : Int32} : (F_directory M p nm).1 = M ∨ (d_is (g_DS M) p = true ∧ s_inB nm 0 9 = true ∧ d_nm (g_DS M).1 p nm = -2147483648 ∧ ¬ d_many (g_DS M).1 = 9 ∧ (F_directory M p nm).1 = g_dset M ((g_DS M).1 ++ [((g_DS M).2, some (t_of p), t_of nm, d_free (g_DS M).1 12 1)], (g_DS M).2 + 1)) := by
  unfold F_directory
  by_cases h : d_is (g_DS M) p = false
  · rw [if_pos h]; exact Or.inl rfl
  · rw [if_neg h]
    by_cases h2 : s_inB nm 0 9 = false
    · rw [if_pos h2]; exact Or.inl rfl
    · rw [if_neg h2]
      by_cases h3 : ¬ d_nm (g_DS M).1 p nm = -2147483648 ∨ d_many (g_DS M).1 = 9
      · rw [if_pos h3]; exact Or.inl rfl
      · rw [if_neg h3]
        refine Or.inr ⟨by simpa using h, by simpa using h2, ?_, fun z => h3 (Or.inr z), rfl⟩
        exact Classical.byContradiction fun z => h3 (Or.inl z)
theorem z_move {M : s_M} {d p nm : Int32} : (F_move M d p nm).1 = M ∨ (mv_can (g_DS M) d p nm = true ∧ (F_move M d p nm).1 = g_dset M (d_mv (g_DS M).1 (t_of d) (t_of p) (t_of nm), (g_DS M).2)) := by
  unfold F_move
  split
  · exact Or.inl rfl
  · split
    · exact Or.inl rfl
    · split
      · rename_i h
        rw [Bool.and_eq_true] at h
        exact Or.inr ⟨h.1, rfl⟩
      · exact Or.inl rfl
theorem z_remove {M : s_M} {x : Int32} : (F_remove M x).1 = M ∨ (d_is (g_DS M) x = true ∧ ¬ x = 0 ∧ (F_remove M x).1 = g_dset (if 0 < rm_many M (t_of x) then g_cm M (rm_E M (t_of x)) else M) (rm_D M (t_of x))) := by
  unfold F_remove
  by_cases h : d_is (g_DS M) x = false
  · rw [if_pos h]; exact Or.inl rfl
  · rw [if_neg h]
    by_cases h2 : x = 0
    · rw [if_pos h2]; exact Or.inl rfl
    · rw [if_neg h2]; exact Or.inr ⟨by simpa using h, h2, rfl⟩
theorem z_part {M : s_M} {x w : Int32} : (F_part M x w).1 = M := by
  unfold F_part
  repeat' split
  all_goals rfl
theorem z_saved {M : s_M} {x n : Int32} {saves : Bool} {field : Int32} : (F_saved M x n saves field).1 = M ∨ ∃ t, t < 4 ∧ s_inB n 0 99 = true ∧ (saves = true → s_inB field 0 99 = true) ∧ (g_X M t).1.1 = true ∧ (g_X M t).2.1.length < 12 ∧ sv_st M t n = false ∧ (F_saved M x n saves field).1 = (sv_w M t n saves field).1 := by
  unfold F_saved
  by_cases h : s_inB x 0 3 = false
  · rw [if_pos h]; exact Or.inl rfl
  · rw [if_neg h]
    by_cases h2 : (s_inB n 0 99 && (!saves || s_inB field 0 99)) = false
    · rw [if_pos h2]; exact Or.inl rfl
    · rw [if_neg h2]
      by_cases h3 : (g_shut M (t_of x) || sv_st M (t_of x) n) = true
      · rw [if_pos h3]; exact Or.inl rfl
      · rw [if_neg h3]
        have h2' : (s_inB n 0 99 && (!saves || s_inB field 0 99)) = true := by simpa only [Bool.not_eq_false] using h2
        rw [Bool.and_eq_true] at h2'
        rw [Bool.or_eq_true, not_or] at h3
        obtain ⟨s1, s2⟩ := z_shut h3.1
        refine Or.inr ⟨t_of x, z_t4 (by simpa using h), h2'.1, fun z => ?_, s1, s2, by simpa using h3.2, rfl⟩
        have := h2'.2
        rw [z] at this
        simpa using this
end
section
/-! THE INVARIANT, 1: counters, transactions' numbers, marks, watches -/
def i_1 (n g : Nat) (M : s_M) : Prop := g_n M ≤ n ∧ g_gen M ≤ g ∧ g_los M ≤ 2 ∧ (∀ t, t < 4 → (g_X M t).1.2.2.1 ≤ g_n M ∧ (g_X M t).1.2.2.2.1 ≤ g_gen M ∧ (g_X M t).1.2.2.2.2 ≤ g_n M) ∧ (∀ v ∈ g_MK M, v ≤ g_n M) ∧ (g_MK M).length ≤ 10 ∧ (g_WT M).length ≤ 20
theorem i1_mono {n g n' g' : Nat} {M : s_M} (I : i_1 n g M) (hn : n ≤ n') (hg : g ≤ g') : i_1 n' g' M := ⟨Nat.le_trans I.1 hn, Nat.le_trans I.2.1 hg, I.2.2⟩
theorem i1_tx {n g t : Nat} {M : s_M} {x : s_X} (I : i_1 n g M) (hx : x.1.2.2.1 ≤ g_n M ∧ x.1.2.2.2.1 ≤ g_gen M ∧ x.1.2.2.2.2 ≤ g_n M) : i_1 n g (g_tx M t x) := by
  refine ⟨I.1, I.2.1, I.2.2.1, fun u hu => ?_, I.2.2.2.2⟩
  show (if u = t then x else g_X M u).1.2.2.1 ≤ g_n M ∧ (if u = t then x else g_X M u).1.2.2.2.1 ≤ g_gen M ∧ (if u = t then x else g_X M u).1.2.2.2.2 ≤ g_n M
  by_cases e : u = t
  · rw [if_pos e]; exact hx
  · rw [if_neg e]; exact I.2.2.2.1 u hu
theorem i1_rd {n g : Nat} {M M' : s_M} (I : i_1 n g M) (z : z_rd M M') : i_1 n g M' := by
  rcases z with rfl | ⟨t, r, ht, -, rfl, -⟩
  · exact I
  · exact i1_tx I (I.2.2.2.1 t ht)
theorem i1_kp1 {n g t : Nat} {M : s_M} {y : k_CH} (I : i_1 n g M) (ht : t < 4) : i_1 n g (g_kp M t y) := by
  refine ⟨I.1, I.2.1, I.2.2.1, fun u hu => ?_, I.2.2.2.2⟩
  have e := I.2.2.2.1 u hu
  have e2 := I.2.2.2.1 t ht
  unfold g_kp
  dsimp only [g_X, g_n, g_gen]
  by_cases z : u = t
  · rw [if_pos z]; exact e2
  · rw [if_neg z]; exact e
theorem i1_kp {n g : Nat} {M M' : s_M} (I : i_1 n g M) (z : z_kp M M') : i_1 n g M' := by
  rcases z with rfl | ⟨t, y, ht, -, -, rfl, -⟩
  · exact I
  · exact i1_kp1 I ht
theorem i1_adv {n g k gen : Nat} {M : s_M} (I : i_1 n g M) (h1 : g_gen M ≤ gen) (h2 : gen ≤ g_gen M + 1) : i_1 (n + k) (g + 1) (g_adv M k gen) := by
  obtain ⟨a1, a2, a3, a4, a5, a6⟩ := I
  refine ⟨Nat.add_le_add_right a1 k, ?_, a3, fun u hu => ?_, fun v hv => ?_, a6⟩
  · show gen ≤ g + 1
    omega
  · obtain ⟨b1, b2, b3⟩ := a4 u hu
    exact ⟨Nat.le_trans b1 (Nat.le_add_right _ _), Nat.le_trans b2 h1, Nat.le_trans b3 (Nat.le_add_right _ _)⟩
  · exact Nat.le_trans (a5 v hv) (Nat.le_add_right _ _)
theorem i1_sl {n g los : Nat} {M : s_M} (I : i_1 n g M) (h : los ≤ 2) : i_1 n g (g_sl M los) := ⟨I.1, I.2.1, h, I.2.2.2⟩
theorem i1_sw {n g : Nat} {M : s_M} {w : Int32} (I : i_1 n g M) : i_1 n g (g_sw M w) := I
theorem i1_ds {n g : Nat} {M : s_M} {D : List s_D × Nat} (I : i_1 n g M) : i_1 n g (g_dset M D) := I
theorem i1_ov {n g t : Nat} {M : s_M} (I : i_1 n g M) (ht : t < 4) : i_1 n g (g_tx M t (g_ov (g_X M t))) := i1_tx I (I.2.2.2.1 t ht)
theorem i1_cm {n g : Nat} {M : s_M} {E : e_S} (I : i_1 n g M) : i_1 (n + 1) g (g_cm M E) := by
  obtain ⟨a1, a2, a3, a4, a5, a6, a7⟩ := I
  refine ⟨Nat.add_le_add_right a1 1, a2, a3, fun u hu => ?_, fun v hv => ?_, a6, ?_⟩
  · obtain ⟨b1, b2, b3⟩ := a4 u hu
    exact ⟨Nat.le_succ_of_le b1, b2, Nat.le_succ_of_le b3⟩
  · exact Nat.le_succ_of_le (a5 v hv)
  · show ((g_WT M).map _).length ≤ 20
    rw [List.length_map]
    exact a7
theorem i1_did {n g t : Nat} {M : s_M} (I : i_1 n g M) (ht : t < 4) : i_1 (n + 1) g (g_did M t) := by
  have I2 : i_1 (n + 1) g (g_cm (g_sl M 0) (e_all (g_n M + 1) (g_X M t).2.1 (g_E M))) := i1_cm (i1_sl I (by decide))
  obtain ⟨b1, b2, b3⟩ := I.2.2.2.1 t ht
  exact i1_tx I2 ⟨Nat.le_succ_of_le b1, b2, Nat.le_refl _⟩
theorem i1_ct {n g t : Nat} {M M' : s_M} (I : i_1 n g M) (ht : t < 4) (z : z_ct M M' t) : i_1 (n + 1) g M' := by
  rcases z with ⟨M1, h1, rfl⟩ | ⟨-, ⟨-, rfl⟩ | ⟨-, rfl⟩ | ⟨-, -, rfl⟩⟩
  · have I1 : i_1 n g M1 := by
      rcases h1 with rfl | ⟨w, rfl⟩
      · exact I
      · exact i1_sw I
    exact i1_mono (i1_ov I1 ht) (Nat.le_succ _) (Nat.le_refl _)
  · exact i1_mono (i1_sl I (by decide)) (Nat.le_succ _) (Nat.le_refl _)
  · exact i1_did I ht
  · exact i1_ov (i1_did I ht) ht
theorem i1_wts {n g : Nat} {M : s_M} {x : Nat × Int32} (I : i_1 n g M) (h : ¬ (g_WT M).length = 20) : i_1 n g (g_wts M (g_WT M ++ [x])) := by
  obtain ⟨a1, a2, a3, a4, a5, a6, a7⟩ := I
  refine ⟨a1, a2, a3, a4, a5, a6, ?_⟩
  show (g_WT M ++ [x]).length ≤ 20
  rw [List.length_append]
  show (g_WT M).length + 1 ≤ 20
  omega
theorem i1_mks {n g : Nat} {M : s_M} (I : i_1 n g M) (h : ¬ (g_MK M).length = 10) : i_1 n g (g_mks M (g_MK M ++ [g_n M])) := by
  obtain ⟨a1, a2, a3, a4, a5, a6, a7⟩ := I
  refine ⟨a1, a2, a3, a4, fun v hv => ?_, ?_, a7⟩
  · have hv' : v ∈ g_MK M ++ [g_n M] := hv
    rcases List.mem_append.mp hv' with z | z
    · exact a5 v z
    · have : v = g_n M := by simpa using z
      rw [this]
      exact Nat.le_refl _
  · show (g_MK M ++ [g_n M]).length ≤ 10
    rw [List.length_append]
    show (g_MK M).length + 1 ≤ 10
    omega
theorem i1_0 : i_1 0 0 g_0 := by
  refine ⟨Nat.le_refl _, Nat.le_refl _, by decide, fun t ht => ⟨Nat.le_refl _, Nat.le_refl _, Nat.le_refl _⟩, fun v hv => (by cases hv), by decide, by decide⟩
end
section
/-! what a save does, as a chain of single steps: what these keep, it keeps -/
theorem sv_ind {P : s_M → Prop} {t : Nat} (hkc : ∀ M k c v p, P M → P (g_kc M t k c v p)) (hrk : ∀ M c, P M → P (g_rk M t c)) (hsd : ∀ M n, P M → P (g_sdr M t n)) {M : s_M} {n : Int32} {saves : Bool} {field : Int32} (h : P M) : P (sv_w M t n saves field).1 := by
  have h1 : ∀ (c : Bool) (k : Int32) (cd : Nat) (v p : Int32) (M : s_M), P M → P (sv_1 c t k cd v p M) := by
    intro c k cd v p M h
    unfold sv_1
    split
    · exact hkc _ _ _ _ _ h
    · exact h
  have hcls : ∀ (X : List k_K2) (M : s_M), P M → P (g_cls t X M) := by
    intro X
    unfold g_cls
    induction X with
    | nil => intro M h; exact h
    | cons x X ih => intro M h; exact ih _ (hkc _ _ _ _ _ h)
  have hq : ∀ (c : Bool) (M : s_M), P M → P (sv_q c t n M) := by
    intro c M h
    unfold sv_q
    split
    · exact hcls _ _ (hsd _ _ h)
    · exact h
  have h4 : P (sv_r4 M t n) := hrk _ _ (hrk _ _ (hrk _ _ (hrk _ _ h)))
  unfold sv_w
  split
  · exact h4
  · unfold sv_all sv_p sv_f
    exact hkc _ _ _ _ _ (h1 _ _ _ _ _ _ (hq _ _ (h1 _ _ _ _ _ _ (h1 _ _ _ _ _ _ (h1 _ _ _ _ _ _ (h1 _ _ _ _ _ _ h4))))))
theorem i1_save {n g t : Nat} {M : s_M} {x : Int32} {saves : Bool} {field : Int32} (I : i_1 n g M) (ht : t < 4) : i_1 n g (sv_w M t x saves field).1 :=
  sv_ind (P := fun M => i_1 n g M) (fun M k c v p h => i1_kp1 h ht) (fun M c h => i1_tx h (h.2.2.2.1 t ht)) (fun M n h => i1_tx h (h.2.2.2.1 t ht)) I
end
section
/-! THE STORE BEHIND EACH CALL: puts and clears at one version -/
def z_E (n : Nat) (E E' : e_S) : Prop := ∀ P : e_S → Prop, (∀ F c o, P F → P (e_put n c o F)) → (∀ F lo hi, lo < hi → hi < 2 ^ 60 → P F → P (e_clr n lo hi F)) → P E → P E'
theorem zE_refl (n : Nat) (E : e_S) : z_E n E E := fun _ _ _ h => h
theorem zE_trans {n : Nat} {E F K : e_S} (a : z_E n E F) (b : z_E n F K) : z_E n E K := fun P h1 h2 h => b P h1 h2 (a P h1 h2 h)
theorem zE_put (n c : Nat) (o : Option Int32) (E : e_S) : z_E n E (e_put n c o E) := fun _ h1 _ h => h1 _ _ _ h
theorem zE_clr {n lo hi : Nat} (E : e_S) (h1 : lo < hi) (h2 : hi < 2 ^ 60) : z_E n E (e_clr n lo hi E) := fun _ _ h3 h => h3 _ _ _ h1 h2 h
theorem zE_fold {n : Nat} {A : Type} (f : e_S → A → e_S) : ∀ (X : List A), (∀ E, ∀ x ∈ X, z_E n E (f E x)) → ∀ E, z_E n E (X.foldl f E) := by
  intro X
  induction X with
  | nil => intro _ E; exact zE_refl n E
  | cons x X ih =>
    intro hf E
    exact zE_trans (hf E x List.mem_cons_self) (ih (fun F y hy => hf F y (List.mem_cons_of_mem _ hy)) _)
theorem zE_all {n : Nat} {MC : List k_CH} {E : e_S} (hb : ∀ x ∈ MC, x.2.2.2.1 < 2 ^ 60) : z_E n E (e_all n MC E) := by
  refine zE_trans (zE_fold _ MC (fun F x hx => ?_) E) (zE_fold _ MC (fun F x hx => ?_) _)
  · unfold e_do
    split
    · split
      · rename_i h
        exact zE_clr F (by omega) (hb x hx)
      · exact zE_put _ _ _ _
    · exact zE_refl _ _
  · unfold e_st
    split
    · exact zE_put _ _ _ _
    · exact zE_refl _ _
theorem zE_take {M : s_M} {w : Int32} {c : Nat} : z_E (g_n M + 1) (g_E M) (wk_tE M w c) := zE_put _ _ _ _
theorem zE_finish {M : s_M} {c : Nat} : z_E (g_n M + 1) (g_E M) (wk_fE M c) := zE_trans (zE_put _ _ _ _) (zE_put _ _ _ _)
theorem zE_back {M : s_M} {v : Nat} : z_E (g_n M + 1) (g_E M) (bb_E M v) := zE_fold _ _ (fun F x _ => zE_put _ _ _ _) _
/-- what follows: keys stay, wipes are by version, the log is by version -/
theorem zE_keys {n : Nat} {E E' : e_S} (z : z_E n E E') {c k : Nat} (h : (c, k) ∈ E.1) : (c, k) ∈ E'.1 :=
  z (fun F => (c, k) ∈ F.1) (fun F d o h => m_ins_iff.mpr (Or.inl h)) (fun F lo hi _ _ h => h) h
def i_2 (n : Nat) (E : e_S) : Prop := E.2.1.Pairwise (fun x y => y.2.2.1 ≤ x.2.2.1) ∧ (∀ x ∈ E.2.1, x.2.2.1 ≤ n) ∧ (∀ w ∈ E.2.2, w.1 < w.2.1 ∧ w.2.1 < 2 ^ 60 ∧ w.2.2 ≤ n) ∧ E.2.2.Pairwise (fun x y => x.2.2 ≤ y.2.2)
theorem i2_mono {n m : Nat} {E : e_S} (I : i_2 n E) (h : n ≤ m) : i_2 m E := ⟨I.1, fun x hx => Nat.le_trans (I.2.1 x hx) h, fun w hw => ⟨(I.2.2.1 w hw).1, (I.2.2.1 w hw).2.1, Nat.le_trans (I.2.2.1 w hw).2.2 h⟩, I.2.2.2⟩
theorem i2_put {n c : Nat} {o : Option Int32} {E : e_S} (I : i_2 n E) : i_2 n (e_put n c o E) := by
  refine ⟨List.Pairwise.cons (fun y hy => I.2.1 y hy) I.1, fun x hx => ?_, I.2.2⟩
  rcases List.mem_cons.mp hx with rfl | hx
  · exact Nat.le_refl _
  · exact I.2.1 x hx
theorem i2_pus {n : Nat} : ∀ (X : List (Nat × Option Int32)) (L : List k_E4), (L.Pairwise (fun x y => y.2.2.1 ≤ x.2.2.1) ∧ ∀ x ∈ L, x.2.2.1 ≤ n) → ((r_pus n X L).Pairwise (fun x y => y.2.2.1 ≤ x.2.2.1) ∧ ∀ x ∈ r_pus n X L, x.2.2.1 ≤ n) := by
  intro X
  induction X with
  | nil => intro L h; exact h
  | cons q X ih =>
    intro L h
    refine ih _ ⟨List.Pairwise.cons (fun y hy => h.2 y hy) h.1, fun x hx => ?_⟩
    rcases List.mem_cons.mp hx with rfl | hx
    · exact Nat.le_refl _
    · exact h.2 x hx
theorem i2_clr {n lo hi : Nat} {E : e_S} (I : i_2 n E) (h1 : lo < hi) (h2 : hi < 2 ^ 60) : i_2 n (e_clr n lo hi E) := by
  obtain ⟨p1, p2⟩ := i2_pus (n := n) _ E.2.1 ⟨I.1, I.2.1⟩
  refine ⟨p1, p2, fun w hw => ?_, ?_⟩
  · have hw' : w ∈ E.2.2 ++ [(lo, hi, n)] := hw
    rcases List.mem_append.mp hw' with z | z
    · exact I.2.2.1 w z
    · have : w = (lo, hi, n) := by simpa using z
      rw [this]
      exact ⟨h1, h2, Nat.le_refl _⟩
  · show (E.2.2 ++ [(lo, hi, n)]).Pairwise _
    refine List.pairwise_append.mpr ⟨I.2.2.2, List.pairwise_singleton _ _, fun x hx y hy => ?_⟩
    have : y = (lo, hi, n) := by simpa using hy
    rw [this]
    exact (I.2.2.1 x hx).2.2
theorem zE_i2 {n : Nat} {E E' : e_S} (z : z_E n E E') (I : i_2 n E) : i_2 n E' := z (fun F => i_2 n F) (fun _ _ _ h => i2_put h) (fun _ _ _ h1 h2 h => i2_clr h h1 h2) I
end
section
/-! .. the builder -/
theorem zE_one {n : Nat} {x : Int32} {k : Nat} {f : Int32} {E : e_S} : z_E n E (bl_one n x k f E) := by
  unfold bl_one
  split
  · exact zE_put _ _ _ _
  · split
    · exact zE_put _ _ _ _
    · exact zE_put _ _ _ _
theorem zE_bl {n : Nat} {x st most : Int32} : ∀ (K : List Nat) (A : b_S), z_E n A.1 (K.foldl (bl_step n x st most) A).1 := by
  intro K
  induction K with
  | nil => intro A; exact zE_refl _ _
  | cons k K ih =>
    intro A
    refine zE_trans ?_ (ih _)
    unfold bl_step
    split
    · split
      · exact zE_refl _ _
      · exact zE_one
    · exact zE_refl _ _
theorem zE_build {M : s_M} {x most : Int32} : z_E (g_n M + 1) (g_E M) (bl_E M x most) := zE_trans (zE_bl _ (g_E M, 0, bl_st M x, 0)) (zE_put _ _ _ _)
end
section
/-! .. index off, directories that go -/
theorem zE_off {M : s_M} {x : Int32} (h : s_inB x 0 2 = true) : z_E (g_n M + 1) (g_E M) (of_E M x) := by
  have h2 : of_lo x < of_hi x + 1 ∧ of_hi x + 1 < 2 ^ 60 := by
    rcases s_in3 h with rfl | rfl | rfl <;> decide +kernel
  exact zE_trans (zE_clr _ h2.1 h2.2) (zE_put _ _ _ _)
theorem rm_lh {d : s_D} (h : d.2.2.2 ≤ 9) : rm_lo d < rm_hi d + 1 ∧ rm_hi d + 1 < 2 ^ 60 := by
  unfold rm_lo rm_hi
  generalize d.2.2.2 = k at h
  have hc : k = 0 ∨ k = 1 ∨ k = 2 ∨ k = 3 ∨ k = 4 ∨ k = 5 ∨ k = 6 ∨ k = 7 ∨ k = 8 ∨ k = 9 := by omega
  rcases hc with rfl | rfl | rfl | rfl | rfl | rfl | rfl | rfl | rfl | rfl <;> decide +kernel
end
section
/-! THE INVARIANT, 3: what is kept lies where keys lie, and single keys are named -/
theorem zE_rm {M : s_M} {d : Nat} (w : d_wf (g_DS M)) : z_E (g_n M + 1) (g_E M) (rm_E M d) := by
  refine zE_fold _ _ (fun F x hx => ?_) _
  have h := rm_lh (w.2.2.2.2 x (List.mem_filter.mp hx).1).2
  exact zE_clr F h.1 h.2
def i_y (E : e_S) (y : k_CH) : Prop := y.2.2.2.1 < 2 ^ 60 ∧ (y.2.1 = 1 ∨ y.2.1 = 6 ∨ (y.2.2.2.1 = y.2.2.1 + 1 ∧ ∃ k, (y.2.2.1, k) ∈ E.1))
def i_3 (M : s_M) : Prop := ∀ t, t < 4 → ∀ y ∈ (g_X M t).2.1, i_y (g_E M) y
theorem i3_nm {M : s_M} (I : i_3 M) : g_nm M := fun t ht y hy => (I t ht y hy).2
theorem i3_tx {M : s_M} {t : Nat} {x : s_X} (I : i_3 M) (hx : ∀ y ∈ x.2.1, y ∈ (g_X M t).2.1) (ht : t < 4) : i_3 (g_tx M t x) := by
  intro u hu y hy
  have hy' : y ∈ (if u = t then x else g_X M u).2.1 := hy
  by_cases e : u = t
  · rw [if_pos e] at hy'
    exact I t ht y (hx y hy')
  · rw [if_neg e] at hy'
    exact I u hu y hy'
theorem i3_cm {M : s_M} {E : e_S} (I : i_3 M) (z : z_E (g_n M + 1) (g_E M) E) : i_3 (g_cm M E) := by
  intro u hu y hy
  obtain ⟨h1, h2⟩ := I u hu y hy
  refine ⟨h1, ?_⟩
  rcases h2 with h | h | ⟨h, k, hk⟩
  · exact Or.inl h
  · exact Or.inr (Or.inl h)
  · exact Or.inr (Or.inr ⟨h, k, zE_keys z hk⟩)
theorem i3_kp1 {M : s_M} {t : Nat} {y : k_CH} (I : i_3 M) (ht : t < 4) (hb : y.2.2.2.1 < 2 ^ 60) (hy : y.2.1 = 1 ∨ y.2.1 = 6 ∨ (y.2.2.2.1 = y.2.2.1 + 1 ∧ m_ck y < 6)) : i_3 (g_kp M t y) := by
  have kk : ∀ x, i_y (g_E M) x → i_y (g_E (g_kp M t y)) x := by
    rintro x ⟨h1, h2⟩
    refine ⟨h1, ?_⟩
    rcases h2 with h | h | ⟨h, k, hk⟩
    · exact Or.inl h
    · exact Or.inr (Or.inl h)
    · refine Or.inr (Or.inr ⟨h, k, ?_⟩)
      show (x.2.2.1, k) ∈ (if m_ck y < 6 then m_ins y.2.2.1 (g_E M).1 else (g_E M).1)
      split
      · exact m_ins_iff.mpr (Or.inl hk)
      · exact hk
  have ky : i_y (g_E (g_kp M t y)) y := by
    refine ⟨hb, ?_⟩
    rcases hy with h | h | ⟨h, hc⟩
    · exact Or.inl h
    · exact Or.inr (Or.inl h)
    · refine Or.inr (Or.inr ⟨h, ?_⟩)
      show ∃ k, (y.2.2.1, k) ∈ (if m_ck y < 6 then m_ins y.2.2.1 (g_E M).1 else (g_E M).1)
      rw [if_pos hc]
      cases e : r_at y.2.2.1 (g_E M).1 with
      | none => exact ⟨0, m_ins_iff.mpr (Or.inr ⟨e, rfl⟩)⟩
      | some k => exact ⟨k, m_ins_iff.mpr (Or.inl (r_at_some e))⟩
  intro u hu x hx
  have hx' : x ∈ (if u = t then ((g_X M t).1, (g_X M t).2.1 ++ [y], (g_X M t).2.2) else g_X M u).2.1 := hx
  by_cases e : u = t
  · rw [if_pos e] at hx'
    rcases List.mem_append.mp hx' with h | h
    · exact kk x (I t ht x h)
    · have : x = y := by simpa using h
      rw [this]
      exact ky
  · rw [if_neg e] at hx'
    exact kk x (I u hu x hx')
end
section
theorem la_lt {a b : Int32} (ha : s_na a) (hb : s_na b) : s_la a b + 1 < 2 ^ 60 := by
  unfold s_la s_hi
  have := s_cd_lt ha hb (Or.inl rfl)
  by_cases e : a = 10000
  · simp only [if_pos e]; omega
  · simp only [if_neg e]
    by_cases e2 : b = 10000
    · simp only [if_pos e2]; omega
    · simp only [if_neg e2]; omega
theorem i3_kp {M M' : s_M} (I : i_3 M) (z : z_kp M M') : i_3 M' := by
  rcases z with rfl | ⟨t, y, ht, -, -, rfl, -, ⟨h1, a, b, hr, -, -, h2⟩ | ⟨a, b, c, hk, -, hi, h1, h2⟩ | ⟨h1, -, h2⟩⟩
  · exact I
  · obtain ⟨ha, hb⟩ := s_rngB_na hr
    exact i3_kp1 I ht (by rw [h2]; exact la_lt ha hb) (Or.inl h1)
  · obtain ⟨ha, hb, hc⟩ := s_keyB_na hk
    have hl := s_cd_lt ha hb hc
    refine i3_kp1 I ht (by rw [h2]; omega) ?_
    by_cases e1 : y.2.1 = 1
    · exact Or.inl e1
    · by_cases e6 : y.2.1 = 6
      · exact Or.inr (Or.inl e6)
      · refine Or.inr (Or.inr ⟨by rw [h2, h1], ?_⟩)
        unfold m_ck
        rw [if_neg (fun z => e1 z.1), if_neg (fun z => e6 z.1)]
        rcases s_in6 hi with h | h | h | h | h | h | h
        · rw [h]; decide
        · exact absurd h e1
        · rw [h]; decide
        · rw [h]; decide
        · rw [h]; decide
        · rw [h]; decide
        · exact absurd h e6
  · refine i3_kp1 I ht (by rw [h2]; decide +kernel) (Or.inr (Or.inl h1))
end
section
theorem i3_rd {M M' : s_M} (I : i_3 M) (z : z_rd M M') : i_3 M' := by
  rcases z with rfl | ⟨t, r, ht, -, rfl, -⟩
  · exact I
  · exact i3_tx I (fun y hy => hy) ht
theorem i3_0x {M : s_M} {t : Nat} {x : s_X} (I : i_3 M) (hx : x.2.1 = []) (ht : t < 4) : i_3 (g_tx M t x) := i3_tx I (fun y hy => by rw [hx] at hy; cases hy) ht
theorem i3_did {M : s_M} {t : Nat} (I : i_3 M) (ht : t < 4) : i_3 (g_did M t) := by
  have I2 : i_3 (g_cm (g_sl M 0) (e_all (g_n M + 1) (g_X M t).2.1 (g_E M))) := i3_cm (M := g_sl M 0) I (zE_all (fun x hx => (I t ht x hx).1))
  exact i3_tx I2 (fun y hy => hy) ht
theorem i3_ct {M M' : s_M} {t : Nat} (I : i_3 M) (ht : t < 4) (z : z_ct M M' t) : i_3 M' := by
  rcases z with ⟨M1, h1, rfl⟩ | ⟨-, ⟨-, rfl⟩ | ⟨-, rfl⟩ | ⟨-, -, rfl⟩⟩
  · have I1 : i_3 M1 := by
      rcases h1 with rfl | ⟨w, rfl⟩
      · exact I
      · exact I
    exact i3_0x I1 rfl ht
  · exact I
  · exact i3_did I ht
  · exact i3_0x (i3_did I ht) rfl ht
theorem i3_0 : i_3 g_0 := fun t ht y hy => by cases hy
/-- the store of a state, version by version -/
def i_2M (M : s_M) : Prop := i_2 (g_n M) (g_E M)
theorem i2_cm {M : s_M} {E : e_S} (I : i_2M M) (z : z_E (g_n M + 1) (g_E M) E) : i_2M (g_cm M E) := zE_i2 z (i2_mono I (Nat.le_succ _))
theorem i2_did {M : s_M} {t : Nat} (I : i_2M M) (I3 : i_3 M) (ht : t < 4) : i_2M (g_did M t) := i2_cm (M := g_sl M 0) I (zE_all (fun x hx => (I3 t ht x hx).1))
theorem i2_ct {M M' : s_M} {t : Nat} (I : i_2M M) (I3 : i_3 M) (ht : t < 4) (z : z_ct M M' t) : i_2M M' := by
  rcases z with ⟨M1, h1, rfl⟩ | ⟨-, ⟨-, rfl⟩ | ⟨-, rfl⟩ | ⟨-, -, rfl⟩⟩
  · rcases h1 with rfl | ⟨w, rfl⟩
    · exact I
    · exact I
  · exact I
  · exact i2_did I I3 ht
  · exact i2_did I I3 ht
theorem i2_kp1 {M : s_M} {t : Nat} {y : k_CH} (I : i_2M M) : i_2M (g_kp M t y) := I
theorem i2_adv {M : s_M} {k g : Nat} (I : i_2M M) : i_2M (g_adv M k g) := i2_mono I (Nat.le_add_right _ _)
theorem i2_wk {M : s_M} (I : i_2M M) (h : g_n M < 2 ^ 20) : g_wk M := ⟨I.1, fun w hw => ⟨(I.2.2.1 w hw).1, (I.2.2.1 w hw).2.1, Nat.lt_of_le_of_lt (I.2.2.1 w hw).2.2 h⟩⟩
theorem i2_ws {M : s_M} (I : i_2M M) : g_ws M := I.2.2.2
theorem i2_0 : i_2M g_0 := ⟨List.Pairwise.nil, fun x hx => (by cases hx), fun w hw => (by cases hw), List.Pairwise.nil⟩
end
section
/-! .. and saves -/
theorem sv_ind2 {P : s_M → Prop} {t : Nat} {n : Int32} {saves : Bool} {field old : Int32} (hkc : ∀ M k c v p, (k = 6 ∨ k = 0 ∨ k = 1 ∨ k = 2) → c + 1 < 2 ^ 60 → P M → P (g_kc M t k c v p)) (hrk : ∀ M c, P M → P (g_rk M t c)) (hsd : ∀ M n, P M → P (g_sdr M t n)) {M : s_M} (hs : ∀ M, P M → ∀ x ∈ sv_seen M t n, x.1 + 1 < 2 ^ 60)
    (hc : s_cd (-3) field 10000 + 1 < 2 ^ 60 ∧ s_cd (-2) field n + 1 < 2 ^ 60 ∧ s_cd (-4) 0 n + 1 < 2 ^ 60 ∧ sv_re n + 1 < 2 ^ 60) (ho : o_told (g_see M t (sv_re n)).1 = old) (hold : s_cd (-3) old 10000 + 1 < 2 ^ 60 ∧ s_cd (-2) old n + 1 < 2 ^ 60) (h : P M) : P (sv_w M t n saves field).1 := by
  have h1 : ∀ (c : Bool) (k : Int32) (cd : Nat) (v p : Int32) (M : s_M), (k = 6 ∨ k = 0 ∨ k = 1 ∨ k = 2) → cd + 1 < 2 ^ 60 → P M → P (sv_1 c t k cd v p M) := by
    intro c k cd v p M hk hcd h
    unfold sv_1
    split
    · exact hkc _ _ _ _ _ hk hcd h
    · exact h
  have hcls : ∀ (X : List k_K2) (M : s_M), (∀ x ∈ X, x.1 + 1 < 2 ^ 60) → P M → P (g_cls t X M) := by
    intro X
    unfold g_cls
    induction X with
    | nil => intro M _ h; exact h
    | cons x X ih => intro M hX h; exact ih _ (fun y hy => hX y (List.mem_cons_of_mem _ hy)) (hkc _ _ _ _ _ (Or.inr (Or.inr (Or.inl rfl))) (hX x List.mem_cons_self) h)
  have hq : ∀ (c : Bool) (M : s_M), P M → P (sv_q c t n M) := by
    intro c M h
    unfold sv_q
    split
    · exact hcls _ _ (hs _ (hsd _ _ h)) (hsd _ _ h)
    · exact h
  have h4 : P (sv_r4 M t n) := hrk _ _ (hrk _ _ (hrk _ _ (hrk _ _ h)))
  obtain ⟨c1, c2, c3, c4⟩ := hc
  obtain ⟨d1, d2⟩ := hold
  unfold sv_w
  split
  · exact h4
  · unfold sv_all sv_p sv_f
    rw [ho]
    refine hkc _ _ _ _ _ ?_ c4 (h1 _ _ _ _ _ _ (Or.inl rfl) c3 (hq _ _ (h1 _ _ _ _ _ _ (Or.inr (Or.inr (Or.inr rfl))) c1 (h1 _ _ _ _ _ _ (Or.inr (Or.inr (Or.inr rfl))) d1 (h1 _ _ _ _ _ _ (Or.inr (Or.inl rfl)) c2 (h1 _ _ _ _ _ _ (Or.inr (Or.inr (Or.inl rfl))) d2 h4))))))
    cases saves
    · exact Or.inr (Or.inr (Or.inl rfl))
    · exact Or.inr (Or.inl rfl)
end
section
/-! COUNTS OF KEYS: how a put and a clear change them -/
def z_b (b : Bool) : Nat := if b = true then 1 else 0
def z_n (P : Nat → Bool) (K : List k_K2) : Nat := K.countP (fun x => P x.1)
theorem cp_ins {α : Type} (p : α → Bool) (x : α) : ∀ (i : Nat) (l : List α), i ≤ l.length → (l.insertIdx i x).countP p = l.countP p + (if p x = true then 1 else 0) := by
  intro i
  induction i with
  | zero => intro l _; rw [List.insertIdx_zero, List.countP_cons]
  | succ i ih =>
    intro l h
    cases l with
    | nil => exact absurd h (Nat.not_succ_le_zero _)
    | cons y l =>
      rw [List.insertIdx_succ_cons, List.countP_cons, List.countP_cons, ih l (Nat.le_of_succ_le_succ h)]
      omega
theorem zn_ins (P : Nat → Bool) {c : Nat} {K : List k_K2} (h : r_at c K = none) : z_n P (m_ins c K) = z_n P K + z_b (P c) := by
  unfold z_n m_ins
  rw [if_neg (by rw [h]; decide), cp_ins _ _ _ _ (r_pl_le c K)]
  rfl
theorem zn_out {P Q : Nat → Bool} {d : Nat} (hq : ∀ c, ¬ c = d → P c = Q c) : ∀ {K : List k_K2}, (∀ x ∈ K, ¬ x.1 = d) → z_n Q K = z_n P K := by
  intro K
  unfold z_n
  induction K with
  | nil => intro _; rfl
  | cons x K ih =>
    intro h
    rw [List.countP_cons, List.countP_cons, ih (fun y hy => h y (List.mem_cons_of_mem _ hy)), hq x.1 (h x List.mem_cons_self)]
theorem zn_in {P Q : Nat → Bool} {d : Nat} (hq : ∀ c, ¬ c = d → P c = Q c) : ∀ {K : List k_K2}, K.Pairwise (fun x y => x.1 < y.1) → (∃ k, (d, k) ∈ K) → z_n Q K + z_b (P d) = z_n P K + z_b (Q d) := by
  intro K
  induction K with
  | nil => rintro - ⟨k, hk⟩; cases hk
  | cons x K ih =>
    intro s h
    obtain ⟨s1, s2⟩ := List.pairwise_cons.mp s
    have e : ∀ R : Nat → Bool, z_n R (x :: K) = z_n R K + z_b (R x.1) := fun R => by unfold z_n z_b; rw [List.countP_cons]
    rw [e, e]
    by_cases hx : x.1 = d
    · have := zn_out hq (K := K) (fun y hy z => by have := s1 y hy; omega)
      rw [this, hx]
      omega
    · obtain ⟨k, hk⟩ := h
      have : ∃ k, (d, k) ∈ K := by
        rcases List.mem_cons.mp hk with z | z
        · exact absurd (by rw [← z]) hx
        · exact ⟨k, z⟩
      have := ih s2 this
      rw [hq x.1 hx]
      omega
/-- a put of d: the keys of which P holds, and those of which it holds behind it -/
theorem zn_put {P Q : Nat → Bool} {d : Nat} {K : List k_K2} (s : K.Pairwise (fun x y => x.1 < y.1)) (hq : ∀ c, ¬ c = d → P c = Q c) (hd : P d = true → ∃ k, (d, k) ∈ K) : z_n Q (m_ins d K) + z_b (P d) = z_n P K + z_b (Q d) := by
  cases e : r_at d K with
  | some k =>
    have hm := r_at_some e
    rw [m_ins_in s hm]
    exact zn_in hq s ⟨k, hm⟩
  | none =>
    have hno : ∀ x ∈ K, ¬ x.1 = d := by
      intro x hx z
      have := r_at_mem s (c := d) (a := x.2) (by rw [← z]; exact hx)
      rw [e] at this
      cases this
    have hp : P d = false := by
      cases h : P d with
      | false => rfl
      | true => obtain ⟨k, hk⟩ := hd h; exact absurd rfl (hno _ hk)
    rw [zn_ins Q e, zn_out hq hno, hp]
    rfl
def z_l (n : Nat) (E : e_S) (c : Nat) : Bool := (r_val c n E.2.1).isSome
theorem V_len (K : List k_K2) (n : Nat) (L : List k_E4) : (m_V K n L).length = z_n (fun c => (r_val c n L).isSome) K := by
  unfold m_V z_n
  rw [List.length_map, List.countP_eq_length_filter]
theorem V_lt (e : Nat) (K : List k_K2) (n : Nat) (L : List k_E4) : p_lt e (m_V K n L) = z_n (fun c => decide (c < e) && (r_val c n L).isSome) K := by
  unfold m_V z_n p_lt
  rw [List.filter_map, List.length_map, List.filter_filter, List.countP_eq_length_filter]
  rfl
theorem put_val (n c m d : Nat) (o : Option Int32) (E : e_S) : r_val c m (e_put n d o E).2.1 = if d = c ∧ n ≤ m then o else r_val c m E.2.1 := r_val_cons c m _ _
/-- what holds of a store's keys -/
def i_K (E : e_S) : Prop := E.1.Pairwise (fun x y => x.1 < y.1) ∧ r_in E.1 E.2.1 ∧ ∀ x ∈ E.1, x.1 < 1331000000000
theorem val_in {E : e_S} (I : r_in E.1 E.2.1) {c n : Nat} (h : (r_val c n E.2.1).isSome = true) : ∃ k, (c, k) ∈ E.1 := by
  unfold r_val at h
  cases e : r_get c n E.2.1 with
  | none => rw [e] at h; cases h
  | some x =>
    have h1 := List.mem_of_find?_eq_some e
    have h2 := List.find?_some e
    rw [Bool.and_eq_true] at h2
    obtain ⟨k, hk⟩ := I x h1
    have e2 : x.2.1 = c := by simpa using h2.1
    exact ⟨k, by rw [← e2]; exact hk⟩
theorem val_mem {L : List k_E4} {c n : Nat} {v : Int32} (h : r_val c n L = some v) : ∃ x ∈ L, x.2.1 = c ∧ x.2.2.1 ≤ n ∧ x.2.2.2 = some v := by
  unfold r_val at h
  cases e : r_get c n L with
  | none => rw [e] at h; cases h
  | some x =>
    rw [e] at h
    have h1 := List.mem_of_find?_eq_some e
    have h2 := List.find?_some e
    rw [Bool.and_eq_true] at h2
    exact ⟨x, h1, by simpa using h2.1, by simpa using h2.2, h⟩
theorem iK_put {n c : Nat} {o : Option Int32} {E : e_S} (I : i_K E) (hc : c < 1331000000000) : i_K (e_put n c o E) := by
  obtain ⟨s, hin, hb⟩ := I
  refine ⟨m_ins_srt s, fun x hx => ?_, fun x hx => ?_⟩
  · rcases List.mem_cons.mp hx with rfl | hx
    · exact m_ins_has c
    · obtain ⟨k, hk⟩ := hin x hx
      exact ⟨k, m_ins_mem hk⟩
  · rcases m_ins_of hx with e | h
    · rw [e]; exact hc
    · exact hb x h
/-- how many entries, and keys with a value -/
def z_T (n : Nat) (E : e_S) : Nat := E.2.1.length + (m_V E.1 n E.2.1).length
theorem V_put {n c : Nat} {o : Option Int32} {E : e_S} (I : i_K E) : (m_V (e_put n c o E).1 n (e_put n c o E).2.1).length + z_b (z_l n E c) = (m_V E.1 n E.2.1).length + z_b o.isSome := by
  rw [V_len, V_len]
  have h := zn_put (P := z_l n E) (Q := fun d => (r_val d n (e_put n c o E).2.1).isSome) (d := c) I.1 (fun d hd => by rw [put_val, if_neg (fun z => hd z.1.symm)]; rfl) (fun h => val_in I.2.1 h)
  rw [show r_val c n (e_put n c o E).2.1 = o by rw [put_val, if_pos ⟨rfl, Nat.le_refl _⟩]] at h
  exact h
theorem Vlt_put {n c : Nat} {o : Option Int32} {E : e_S} (I : i_K E) (e : Nat) : p_lt e (m_V (e_put n c o E).1 n (e_put n c o E).2.1) + z_b (decide (c < e) && z_l n E c) = p_lt e (m_V E.1 n E.2.1) + z_b (decide (c < e) && o.isSome) := by
  rw [V_lt, V_lt]
  have h := zn_put (P := fun d => decide (d < e) && z_l n E d) (Q := fun d => decide (d < e) && (r_val d n (e_put n c o E).2.1).isSome) (d := c) I.1 (fun d hd => by rw [put_val, if_neg (fun z => hd z.1.symm)]; rfl) (fun h => val_in I.2.1 (by rw [Bool.and_eq_true] at h; exact h.2))
  rw [show r_val c n (e_put n c o E).2.1 = o by rw [put_val, if_pos ⟨rfl, Nat.le_refl _⟩]] at h
  exact h
end
section
/-! WHAT PARTS HOLD ABOVE FOUR: each split costs four of it, each new key gives one -/
def p_ps (V : List Nat) : List p_T → Nat
  | [] => 0
  | p :: r => (p_end V r - p_lt p.1 V - 4) + p_ps V r
/-- V' has d more, or less, than V -/
def z_d (d : Nat) (b0 b1 : Nat) (V V' : List Nat) : Prop := (∀ e, p_lt e V' + (if d < e then b0 else 0) = p_lt e V + (if d < e then b1 else 0)) ∧ V'.length + b0 = V.length + b1
theorem zd_end {d b0 b1 : Nat} {V V' : List Nat} (h : z_d d b0 b1 V V') (r : List p_T) (hr : ∀ q ∈ r, d < q.1) : p_end V' r + b0 = p_end V r + b1 := by
  cases r with
  | nil => exact h.2
  | cons q r =>
    have h1 := h.1 q.1
    rw [if_pos (hr q List.mem_cons_self), if_pos (hr q List.mem_cons_self)] at h1
    exact h1
theorem ps_hi {d b0 b1 : Nat} {V V' : List Nat} (h : z_d d b0 b1 V V') : ∀ PT : List p_T, (∀ q ∈ PT, d < q.1) → p_ps V' PT = p_ps V PT := by
  intro PT
  induction PT with
  | nil => intro _; rfl
  | cons p r ih =>
    intro hp
    have h1 := h.1 p.1
    rw [if_pos (hp p List.mem_cons_self), if_pos (hp p List.mem_cons_self)] at h1
    have h2 := zd_end h r (fun q hq => hp q (List.mem_cons_of_mem _ hq))
    show (p_end V' r - p_lt p.1 V' - 4) + p_ps V' r = (p_end V r - p_lt p.1 V - 4) + p_ps V r
    rw [ih (fun q hq => hp q (List.mem_cons_of_mem _ hq))]
    omega
theorem ps_put {d b0 b1 : Nat} {V V' : List Nat} (h : z_d d b0 b1 V V') : ∀ PT : List p_T, PT.Pairwise (fun x y => x.1 < y.1) → p_ps V' PT ≤ p_ps V PT + b1 := by
  intro PT
  induction PT with
  | nil => intro _; exact Nat.zero_le _
  | cons p r ih =>
    intro hs
    obtain ⟨s1, s2⟩ := List.pairwise_cons.mp hs
    have h1 := h.1 p.1
    show (p_end V' r - p_lt p.1 V' - 4) + p_ps V' r ≤ (p_end V r - p_lt p.1 V - 4) + p_ps V r + b1
    cases r with
    | nil =>
      have h2 : V'.length + b0 = V.length + b1 := h.2
      show (V'.length - p_lt p.1 V' - 4) + 0 ≤ (V.length - p_lt p.1 V - 4) + 0 + b1
      by_cases c1 : d < p.1
      · rw [if_pos c1, if_pos c1] at h1; omega
      · rw [if_neg c1, if_neg c1] at h1; omega
    | cons q r =>
      have h2 := h.1 q.1
      have hpq := s1 q List.mem_cons_self
      by_cases c2 : d < q.1
      · have e := ps_hi h (q :: r) (fun x hx => by
          rcases List.mem_cons.mp hx with rfl | hx
          · exact c2
          · exact Nat.lt_trans c2 ((List.pairwise_cons.mp s2).1 x hx))
        rw [e]
        rw [if_pos c2, if_pos c2] at h2
        show (p_lt q.1 V' - p_lt p.1 V' - 4) + p_ps V (q :: r) ≤ (p_lt q.1 V - p_lt p.1 V - 4) + p_ps V (q :: r) + b1
        by_cases c1 : d < p.1
        · rw [if_pos c1, if_pos c1] at h1; omega
        · rw [if_neg c1, if_neg c1] at h1; omega
      · have e := ih s2
        rw [if_neg c2, if_neg c2] at h2
        rw [if_neg (by omega), if_neg (by omega)] at h1
        show (p_lt q.1 V' - p_lt p.1 V' - 4) + p_ps V' (q :: r) ≤ (p_lt q.1 V - p_lt p.1 V - 4) + p_ps V (q :: r) + b1
        omega
/-! .. a split -/
theorem ps_app {V : List Nat} {p : p_T} {r r' : List p_T} {k : Nat} (h : p_ps V (p :: r') + k ≤ p_ps V (p :: r)) : ∀ pre : List p_T, p_ps V (pre ++ p :: r') + k ≤ p_ps V (pre ++ p :: r) := by
  intro pre
  induction pre with
  | nil => exact h
  | cons x pre ih =>
    show (p_end V (pre ++ p :: r') - p_lt x.1 V - 4) + p_ps V (pre ++ p :: r') + k ≤ (p_end V (pre ++ p :: r) - p_lt x.1 V - 4) + p_ps V (pre ++ p :: r)
    have e : p_end V (pre ++ p :: r') = p_end V (pre ++ p :: r) := by cases pre <;> rfl
    rw [e]
    omega
theorem p_new {V : List Nat} (hV : V.Pairwise (fun x y => x < y)) {p : p_T} {rest : List p_T} (h8 : 8 < p_end V rest - p_lt p.1 V) :
    p_lt (V.getD (p_lt p.1 V + 4) 0) V = p_lt p.1 V + 4 ∧ V.getD (p_lt p.1 V + 4) 0 ∈ V ∧ p.1 < V.getD (p_lt p.1 V + 4) 0 ∧ ∀ q ∈ rest.head?, V.getD (p_lt p.1 V + 4) 0 < q.1 := by
  have hle := p_end_le V rest
  have hi : p_lt p.1 V + 4 < V.length := by omega
  have hg : V[p_lt p.1 V + 4]? = some (V.getD (p_lt p.1 V + 4) 0) := by
    rw [List.getD_eq_getElem?_getD, List.getElem?_eq_getElem hi]
    rfl
  have e := p_lt_at hV hg
  refine ⟨e, List.mem_of_getElem? hg, ?_, fun q hq => ?_⟩
  · have := (p_lt_iff hV hg (c := p.1))
    have hne : ¬ V.getD (p_lt p.1 V + 4) 0 < p.1 := fun z => by have := this.mp z; omega
    have hne2 : ¬ V.getD (p_lt p.1 V + 4) 0 = p.1 := fun z => by rw [z] at e; omega
    omega
  · cases rest with
    | nil => cases hq
    | cons q' r =>
      have : q' = q := by simpa using hq
      subst this
      have h8' : 8 < p_lt q'.1 V - p_lt p.1 V := h8
      exact (p_lt_iff hV hg (c := q'.1)).mpr (by omega)
theorem ps_split {V : List Nat} (hV : V.Pairwise (fun x y => x < y)) : ∀ (k : Nat) (pre todo : List p_T), 4 * (p_split V k pre todo).length + p_ps V (p_split V k pre todo) ≤ 4 * (pre ++ todo).length + p_ps V (pre ++ todo) := by
  intro k
  induction k with
  | zero => intro pre todo; exact Nat.le_refl _
  | succ k ih =>
    intro pre todo
    cases todo with
    | nil =>
      show 4 * pre.length + p_ps V pre ≤ 4 * (pre ++ []).length + p_ps V (pre ++ [])
      rw [List.append_nil]
      exact Nat.le_refl _
    | cons p rest =>
      unfold p_split
      by_cases h8 : 8 < p_end V rest - p_lt p.1 V
      · rw [if_pos h8]
        refine Nat.le_trans (ih _ _) ?_
        obtain ⟨e, -, -, -⟩ := p_new hV h8
        rw [List.append_assoc]
        have := ps_app (V := V) (p := p) (r := rest) (r' := (V.getD (p_lt p.1 V + 4) 0, p_idle (pre ++ p :: rest)) :: rest) (k := 4) (by
          show (p_lt (V.getD (p_lt p.1 V + 4) 0) V - p_lt p.1 V - 4) + ((p_end V rest - p_lt (V.getD (p_lt p.1 V + 4) 0) V - 4) + p_ps V rest) + 4 ≤ (p_end V rest - p_lt p.1 V - 4) + p_ps V rest
          rw [e]
          omega) pre
        have hl : (pre ++ ([p] ++ (V.getD (p_lt p.1 V + 4) 0, p_idle (pre ++ p :: rest)) :: rest)).length = (pre ++ p :: rest).length + 1 := by simp; omega
        rw [hl]
        have this' : p_ps V (pre ++ ([p] ++ (V.getD (p_lt p.1 V + 4) 0, p_idle (pre ++ p :: rest)) :: rest)) + 4 ≤ p_ps V (pre ++ p :: rest) := this
        omega
      · rw [if_neg h8]
        have := ih (pre ++ [p]) rest
        rw [List.append_assoc] at this
        exact this
theorem p_split_ge (V : List Nat) : ∀ (k : Nat) (pre todo : List p_T), (pre ++ todo).length ≤ (p_split V k pre todo).length := by
  intro k
  induction k with
  | zero => intro pre todo; exact Nat.le_refl _
  | succ k ih =>
    intro pre todo
    cases todo with
    | nil => rw [List.append_nil]; exact Nat.le_refl _
    | cons p rest =>
      unfold p_split
      split
      · refine Nat.le_trans ?_ (ih _ _)
        simp
      · refine Nat.le_trans ?_ (ih _ _)
        simp
/-- what is so of each list of parts that is in order, from 0 on, with lows below c -/
def p_gd (PT : List p_T) : Prop := PT.Pairwise (fun x y => x.1 < y.1) ∧ (∀ p ∈ PT.head?, p.1 = 0) ∧ (∀ p ∈ PT, p.1 < 1331000000000)
theorem gd_split {V : List Nat} (hV : V.Pairwise (fun x y => x < y)) (hb : ∀ x ∈ V, x < 1331000000000) : ∀ (k : Nat) (pre todo : List p_T), p_gd (pre ++ todo) → p_gd (p_split V k pre todo) := by
  intro k
  induction k with
  | zero => intro pre todo h; exact h
  | succ k ih =>
    intro pre todo h
    cases todo with
    | nil => rw [List.append_nil] at h; exact h
    | cons p rest =>
      unfold p_split
      by_cases h8 : 8 < p_end V rest - p_lt p.1 V
      · rw [if_pos h8]
        obtain ⟨e, m, l1, l2⟩ := p_new hV h8
        generalize V.getD (p_lt p.1 V + 4) 0 = c at e m l1 l2
        refine ih _ _ ?_
        rw [List.append_assoc]
        show p_gd (pre ++ p :: (c, p_idle (pre ++ p :: rest)) :: rest)
        generalize p_idle (pre ++ p :: rest) = sv
        obtain ⟨s, z, b⟩ := h
        obtain ⟨s1, s2, s3⟩ := List.pairwise_append.mp s
        obtain ⟨s4, s5⟩ := List.pairwise_cons.mp s2
        have lr : ∀ q ∈ rest, c < q.1 := by
          intro q hq
          cases rest with
          | nil => cases hq
          | cons q' r =>
            have h1 := l2 q' rfl
            rcases List.mem_cons.mp hq with rfl | hq
            · exact h1
            · exact Nat.lt_trans h1 ((List.pairwise_cons.mp s5).1 q hq)
        refine ⟨List.pairwise_append.mpr ⟨s1, List.pairwise_cons.mpr ⟨fun y hy => ?_, List.pairwise_cons.mpr ⟨fun y hy => lr y hy, s5⟩⟩, fun x hx y hy => ?_⟩, fun q hq => ?_, fun q hq => ?_⟩
        · rcases List.mem_cons.mp hy with rfl | hy
          · exact l1
          · exact s4 y hy
        · rcases List.mem_cons.mp hy with rfl | hy
          · exact s3 x hx _ List.mem_cons_self
          · rcases List.mem_cons.mp hy with rfl | hy
            · exact Nat.lt_trans (s3 x hx p List.mem_cons_self) l1
            · exact s3 x hx y (List.mem_cons_of_mem _ hy)
        · refine z q ?_
          cases pre with
          | nil => exact hq
          | cons x pre => exact hq
        · rcases List.mem_append.mp hq with hq | hq
          · exact b q (List.mem_append.mpr (Or.inl hq))
          · rcases List.mem_cons.mp hq with rfl | hq
            · exact b q (List.mem_append.mpr (Or.inr List.mem_cons_self))
            · rcases List.mem_cons.mp hq with rfl | hq
              · exact hb c m
              · exact b q (List.mem_append.mpr (Or.inr (List.mem_cons_of_mem _ hq)))
      · rw [if_neg h8]
        refine ih _ _ ?_
        rw [List.append_assoc]
        exact h
/-! .. joins -/
theorem p_join_hd (V : List Nat) : ∀ (r : List p_T) (p : p_T), ∃ t, p_join V p r = p :: t ∧ ∀ x ∈ t, x ∈ r := by
  intro r
  induction r with
  | nil => intro p; exact ⟨[], rfl, fun x hx => hx⟩
  | cons q r ih =>
    intro p
    unfold p_join
    split
    · obtain ⟨t, e, h⟩ := ih p
      exact ⟨t, e, fun x hx => List.mem_cons_of_mem _ (h x hx)⟩
    · obtain ⟨t, e, h⟩ := ih q
      refine ⟨p_join V q r, rfl, fun x hx => ?_⟩
      rw [e] at hx
      rcases List.mem_cons.mp hx with rfl | hx
      · exact List.mem_cons_self
      · exact List.mem_cons_of_mem _ (h x hx)
theorem ps_join (V : List Nat) : ∀ (r : List p_T) (p : p_T), p_ps V (p_join V p r) ≤ p_ps V (p :: r) := by
  intro r
  induction r with
  | nil => intro p; exact Nat.le_refl _
  | cons q r ih =>
    intro p
    unfold p_join
    split
    · rename_i h4
      refine Nat.le_trans (ih p) ?_
      show (p_end V r - p_lt p.1 V - 4) + p_ps V r ≤ (p_lt q.1 V - p_lt p.1 V - 4) + ((p_end V r - p_lt q.1 V - 4) + p_ps V r)
      omega
    · obtain ⟨t, e, -⟩ := p_join_hd V r q
      have h := ih q
      show (p_end V (p_join V q r) - p_lt p.1 V - 4) + p_ps V (p_join V q r) ≤ (p_lt q.1 V - p_lt p.1 V - 4) + p_ps V (q :: r)
      rw [e] at h ⊢
      show (p_lt q.1 V - p_lt p.1 V - 4) + p_ps V (q :: t) ≤ (p_lt q.1 V - p_lt p.1 V - 4) + p_ps V (q :: r)
      omega
theorem srt_join (V : List Nat) : ∀ (r : List p_T) (p : p_T), (p :: r).Pairwise (fun x y => x.1 < y.1) → (p_join V p r).Pairwise (fun x y => x.1 < y.1) := by
  intro r
  induction r with
  | nil => intro p h; exact h
  | cons q r ih =>
    intro p h
    obtain ⟨h1, h2⟩ := List.pairwise_cons.mp h
    unfold p_join
    split
    · exact ih p (List.pairwise_cons.mpr ⟨fun y hy => h1 y (List.mem_cons_of_mem _ hy), (List.pairwise_cons.mp h2).2⟩)
    · obtain ⟨t, e, ht⟩ := p_join_hd V r q
      refine List.pairwise_cons.mpr ⟨fun y hy => ?_, ih q h2⟩
      rw [e] at hy
      rcases List.mem_cons.mp hy with rfl | hy
      · exact h1 y List.mem_cons_self
      · exact h1 y (List.mem_cons_of_mem _ (ht y hy))
/-- two parts that are neighbours hold four together -/
def p_ad (V : List Nat) : List p_T → Prop
  | [] => True
  | p :: r => (match r with | [] => True | _ :: r2 => 4 ≤ p_end V r2 - p_lt p.1 V) ∧ p_ad V r
theorem end_join (V : List Nat) : ∀ (r : List p_T) (p : p_T) (t : List p_T), (p :: r).Pairwise (fun x y => x.1 < y.1) → p_join V p r = p :: t → p_end V r ≤ p_end V t := by
  intro r
  induction r with
  | nil =>
    intro p t _ e
    have : p_join V p [] = [p] := rfl
    rw [this] at e
    injection e with _ e
    rw [← e]
    exact Nat.le_refl _
  | cons q r ih =>
    intro p t hs e
    obtain ⟨h1, h2⟩ := List.pairwise_cons.mp hs
    unfold p_join at e
    split at e
    · have := ih p t (List.pairwise_cons.mpr ⟨fun y hy => h1 y (List.mem_cons_of_mem _ hy), (List.pairwise_cons.mp h2).2⟩) e
      refine Nat.le_trans ?_ this
      show p_lt q.1 V ≤ p_end V r
      cases r with
      | nil => exact p_lt_le _ _
      | cons q2 r => exact p_lt_mono (Nat.le_of_lt ((List.pairwise_cons.mp h2).1 q2 List.mem_cons_self)) V
    · injection e with _ e
      obtain ⟨t2, e2, -⟩ := p_join_hd V r q
      rw [← e, e2]
      exact Nat.le_refl _
theorem ad_join (V : List Nat) : ∀ (r : List p_T) (p : p_T), (p :: r).Pairwise (fun x y => x.1 < y.1) → p_ad V (p_join V p r) := by
  intro r
  induction r with
  | nil => intro p _; exact ⟨True.intro, True.intro⟩
  | cons q r ih =>
    intro p hs
    obtain ⟨h1, h2⟩ := List.pairwise_cons.mp hs
    unfold p_join
    split
    · exact ih p (List.pairwise_cons.mpr ⟨fun y hy => h1 y (List.mem_cons_of_mem _ hy), (List.pairwise_cons.mp h2).2⟩)
    · rename_i h4
      have i := ih q h2
      obtain ⟨t, e, -⟩ := p_join_hd V r q
      have he := end_join V r q t h2 e
      rw [e] at i ⊢
      refine ⟨?_, i⟩
      show 4 ≤ p_end V t - p_lt p.1 V
      omega
theorem ad_len (V : List Nat) : ∀ (k : Nat) (p : p_T) (r : List p_T), r.length ≤ k → (p :: r).Pairwise (fun x y => x.1 < y.1) → p_ad V (p :: r) → 2 * (r.length + 1) + p_lt p.1 V ≤ V.length + 2 ∨ (r = []) := by
  intro k
  induction k using Nat.strongRecOn with
  | ind k ih =>
    intro p r hk hs ha
    cases r with
    | nil => exact Or.inr rfl
    | cons q r =>
      left
      have h4 : 4 ≤ p_end V r - p_lt p.1 V := ha.1
      cases r with
      | nil =>
        have : 4 ≤ V.length - p_lt p.1 V := h4
        show 2 * (0 + 1 + 1) + p_lt p.1 V ≤ V.length + 2
        omega
      | cons q2 r =>
        have h5 : 4 ≤ p_lt q2.1 V - p_lt p.1 V := h4
        have hl : r.length + 1 + 1 ≤ k := hk
        have hle := p_lt_le q2.1 V
        show 2 * (r.length + 1 + 1 + 1) + p_lt p.1 V ≤ V.length + 2
        rcases ih r.length (by omega) q2 r (Nat.le_refl _) (List.pairwise_cons.mp (List.pairwise_cons.mp hs).2).2 ha.2.2 with h | h
        · omega
        · rw [h]
          show 2 * (0 + 1 + 1 + 1) + p_lt p.1 V ≤ V.length + 2
          omega
/-! .. all of it -/
theorem arr_gd {V : List Nat} (hV : V.Pairwise (fun x y => x < y)) (hb : ∀ x ∈ V, x < 1331000000000) {PT : List p_T} (h : p_gd PT) (hne : PT ≠ []) :
    p_gd (p_arr V PT) ∧ p_arr V PT ≠ [] ∧ 2 * (p_arr V PT).length ≤ V.length + 2 ∧ 4 * ((p_split V (PT.length + V.length) [] PT).length - PT.length) + p_ps V (p_arr V PT) ≤ p_ps V PT := by
  have g := gd_split hV hb (PT.length + V.length) [] PT h
  have hp := ps_split hV (PT.length + V.length) [] PT
  have hn := p_split_ne V (PT.length + V.length) [] PT (Or.inr hne)
  have hge := p_split_ge V (PT.length + V.length) [] PT
  rw [List.nil_append] at hp hge
  unfold p_arr
  generalize p_split V (PT.length + V.length) [] PT = S at g hp hn hge
  cases S with
  | nil => exact absurd rfl hn
  | cons p r =>
    show p_gd (p_join V p r) ∧ p_join V p r ≠ [] ∧ 2 * (p_join V p r).length ≤ V.length + 2 ∧ _
    obtain ⟨g1, g2, g3⟩ := g
    obtain ⟨t, e, ht⟩ := p_join_hd V r p
    have s := srt_join V r p g1
    have a := ad_join V r p g1
    have pj := ps_join V r p
    rw [e] at s a pj ⊢
    refine ⟨⟨s, fun q hq => g2 q (by simpa using hq), fun q hq => ?_⟩, by simp, ?_, ?_⟩
    · rcases List.mem_cons.mp hq with rfl | hq
      · exact g3 q List.mem_cons_self
      · exact g3 q (List.mem_cons_of_mem _ (ht q hq))
    · rcases ad_len V t.length p t (Nat.le_refl _) s a with h | h
      · show 2 * (t.length + 1) ≤ _
        omega
      · rw [h]
        show 2 * (0 + 1) ≤ _
        omega
    · have hp' : 4 * (r.length + 1) + p_ps V (p :: r) ≤ 4 * PT.length + p_ps V PT := hp
      show 4 * (r.length + 1 - PT.length) + p_ps V (p_join V p r) ≤ p_ps V PT
      rw [e]
      have hge' : PT.length ≤ r.length + 1 := hge
      omega
end
section
/-! PUTS AT ONE VERSION, COUNTED: k what they cost, m the ranges, f the keys that are new -/
def z_nm (c : Nat) (K : List k_K2) : Prop := ∃ a, (c, a) ∈ K
def y_K (c : Nat) : Prop := c / 121000000 = 995 → c = s_cd (-5) (s_no c 1) 10000
/-- what a key that is new, and gets no value, is -/
def y_F (c : Nat) : Prop := y_K c ∧ ¬ c / 121000000 = 996
def z_P (n : Nat) (A : Nat → Int32 → Prop) (B : Nat → Prop) (E E' : e_S) (k m f : Nat) : Prop := ∀ P : e_S → Nat → Nat → Nat → Prop,
  (∀ F k m f c v, P F k m f → A c v → z_nm c F.1 → P (e_put n c (some v) F) (k + 2) m f) →
  (∀ F k m f c v, P F k m f → A c v → P (e_put n c (some v) F) (k + 2) m (f + 1)) →
  (∀ F k m f c, P F k m f → B c → z_nm c F.1 → P (e_put n c none F) (k + 1) m f) →
  (∀ F k m f c, P F k m f → B c → y_F c → P (e_put n c none F) (k + 1) m (f + 1)) →
  (∀ F k m f c, P F k m f → B c → z_nm c F.1 → z_l n F c = true → P (e_put n c none F) k m f) →
  (∀ F k m f lo hi, P F k m f → lo < hi → hi < 2 ^ 60 → P (F.1, F.2.1, F.2.2 ++ [(lo, hi, n)]) k (m + 1) f) →
  (∀ F k m f k' m' f', P F k m f → k ≤ k' → m ≤ m' → f ≤ f' → P F k' m' f') →
  P E 0 0 0 → P E' k m f
theorem zP_refl {n : Nat} {A : Nat → Int32 → Prop} {B : Nat → Prop} {E : e_S} : z_P n A B E E 0 0 0 := fun _ _ _ _ _ _ _ _ h => h
theorem zP_mono {n k m f k' m' f' : Nat} {A : Nat → Int32 → Prop} {B : Nat → Prop} {E E' : e_S} (z : z_P n A B E E' k m f) (h1 : k ≤ k') (h2 : m ≤ m') (h3 : f ≤ f') : z_P n A B E E' k' m' f' :=
  fun P r1 r2 r3 r4 r5 r6 rm h => rm _ _ _ _ _ _ _ (z P r1 r2 r3 r4 r5 r6 rm h) h1 h2 h3
theorem zP_trans {n k m f k' m' f' : Nat} {A : Nat → Int32 → Prop} {B : Nat → Prop} {E F G : e_S} (a : z_P n A B E F k m f) (b : z_P n A B F G k' m' f') : z_P n A B E G (k + k') (m + m') (f + f') :=
  fun P r1 r2 r3 r4 r5 r6 rm h => b (fun X k2 m2 f2 => P X (k + k2) (m + m2) (f + f2)) (fun F a b c d v h z1 z2 => r1 F _ _ _ d v h z1 z2) (fun F a b c d v h z1 => r2 F _ _ _ d v h z1) (fun F a b c d h z1 z2 => r3 F _ _ _ d h z1 z2) (fun F a b c d h z1 z2 => r4 F _ _ _ d h z1 z2) (fun F a b c d h z1 z2 z3 => r5 F _ _ _ d h z1 z2 z3) (fun F a b c lo hi h z1 z2 => r6 F _ _ _ lo hi h z1 z2)
    (fun F a b c a' b' c' h z1 z2 z3 => rm F _ _ _ _ _ _ h (Nat.add_le_add_left z1 _) (Nat.add_le_add_left z2 _) (Nat.add_le_add_left z3 _)) (a P r1 r2 r3 r4 r5 r6 rm h)
theorem zP_imp {n k m f : Nat} {A A' : Nat → Int32 → Prop} {B B' : Nat → Prop} {E E' : e_S} (z : z_P n A B E E' k m f) (ha : ∀ c v, A c v → A' c v) (hb : ∀ c, B c → B' c) : z_P n A' B' E E' k m f :=
  fun P r1 r2 r3 r4 r5 r6 rm h => z P (fun F a b c d v h z1 z2 => r1 F a b c d v h (ha _ _ z1) z2) (fun F a b c d v h z1 => r2 F a b c d v h (ha _ _ z1)) (fun F a b c d h z1 z2 => r3 F a b c d h (hb _ z1) z2) (fun F a b c d h z1 z2 => r4 F a b c d h (hb _ z1) z2) (fun F a b c d h z1 z2 z3 => r5 F a b c d h (hb _ z1) z2 z3) r6 rm h
section ZP
variable {n k m f : Nat} {A : Nat → Int32 → Prop} {B : Nat → Prop} {E E' : e_S}
theorem zP_s {c : Nat} {v : Int32} (h : A c v) (hn : z_nm c E.1) : z_P n A B E (e_put n c (some v) E) 2 0 0 := fun _ r1 _ _ _ _ _ _ z => r1 _ _ _ _ _ _ z h hn
theorem zP_sf {c : Nat} {v : Int32} (h : A c v) : z_P n A B E (e_put n c (some v) E) 2 0 1 := fun _ _ r2 _ _ _ _ _ z => r2 _ _ _ _ _ _ z h
theorem zP_n {c : Nat} (h : B c) (hn : z_nm c E.1) : z_P n A B E (e_put n c none E) 1 0 0 := fun _ _ _ r3 _ _ _ _ z => r3 _ _ _ _ _ z h hn
theorem zP_nf {c : Nat} (h : B c) (hf : y_F c) : z_P n A B E (e_put n c none E) 1 0 1 := fun _ _ _ _ r4 _ _ _ z => r4 _ _ _ _ _ z h hf
theorem zP_nl {c : Nat} (h : B c) (hn : z_nm c E.1) (hl : z_l n E c = true) : z_P n A B E (e_put n c none E) 0 0 0 := fun _ _ _ _ _ r5 _ _ z => r5 _ _ _ _ _ z h hn hl
theorem zP_w {lo hi : Nat} (h1 : lo < hi) (h2 : hi < 2 ^ 60) : z_P n A B E (E.1, E.2.1, E.2.2 ++ [(lo, hi, n)]) 0 1 0 := fun _ _ _ _ _ _ r6 _ z => r6 _ _ _ _ _ _ z h1 h2
/-- a property that each put and each range keeps -/
theorem zP_ind (z : z_P n A B E E' k m f) (P : e_S → Prop) (hp : ∀ F c o, P F → (∀ v, o = some v → A c v) → (o = none → B c ∧ (z_nm c F.1 ∨ y_F c)) → P (e_put n c o F)) (hw : ∀ F lo hi, P F → lo < hi → hi < 2 ^ 60 → P (F.1, F.2.1, F.2.2 ++ [(lo, hi, n)])) (h : P E) : P E' :=
  z (fun F _ _ _ => P F) (fun F _ _ _ c v h z1 _ => hp F c _ h (fun v' e => by injection e with e; rw [← e]; exact z1) (fun e => by cases e)) (fun F _ _ _ c v h z1 => hp F c _ h (fun v' e => by injection e with e; rw [← e]; exact z1) (fun e => by cases e))
    (fun F _ _ _ c h z1 z2 => hp F c _ h (fun v' e => by cases e) (fun _ => ⟨z1, Or.inl z2⟩)) (fun F _ _ _ c h z1 z2 => hp F c _ h (fun v' e => by cases e) (fun _ => ⟨z1, Or.inr z2⟩)) (fun F _ _ _ c h z1 z2 _ => hp F c _ h (fun v' e => by cases e) (fun _ => ⟨z1, Or.inl z2⟩)) (fun F _ _ _ lo hi h a b => hw F lo hi h a b) (fun _ _ _ _ _ _ _ h _ _ _ => h) h
theorem zP_keys (z : z_P n A B E E' k m f) {c : Nat} (h : z_nm c E.1) : z_nm c E'.1 :=
  zP_ind z (fun F => z_nm c F.1) (fun F d o h _ _ => by obtain ⟨a, h⟩ := h; exact ⟨a, m_ins_mem h⟩) (fun F lo hi h _ _ => h) h
/-- codes are codes -/
def z_cd (A : Nat → Int32 → Prop) (B : Nat → Prop) : Prop := (∀ c v, A c v → c < 1331000000000) ∧ ∀ c, B c → c < 1331000000000
theorem zP_iK (z : z_P n A B E E' k m f) (hc : z_cd A B) (I : i_K E) : i_K E' :=
  zP_ind z i_K (fun F d o h h1 h2 => iK_put h (by
    cases o with
    | none => exact hc.2 d (h2 rfl).1
    | some v => exact hc.1 d v (h1 v rfl))) (fun F lo hi h _ _ => h) I
theorem zP_ext (z : z_P n A B E E' k m f) {c v : Nat} (hv : v < n) : r_val c v E'.2.1 = r_val c v E.2.1 :=
  zP_ind z (fun F => r_val c v F.2.1 = r_val c v E.2.1) (fun F d o h _ _ => by rw [put_val, if_neg (fun z => by omega)]; exact h) (fun F lo hi h _ _ => h) rfl
/-- what isn't put stays -/
theorem zP_out (z : z_P n A B E E' k m f) {c : Nat} (h1 : ∀ v, ¬ A c v) (h2 : ¬ B c) (v : Nat) : r_val c v E'.2.1 = r_val c v E.2.1 :=
  zP_ind z (fun F => r_val c v F.2.1 = r_val c v E.2.1) (fun F d o h a b => by
    rw [put_val]
    by_cases e : d = c
    · subst e
      cases o with
      | none => exact absurd (b rfl).1 h2
      | some w => exact absurd (a w rfl) (h1 w)
    · rw [if_neg (fun z => e z.1)]; exact h) (fun F lo hi h _ _ => h) rfl
/-- what has a value behind it had it ahead, or it was put -/
theorem zP_live (z : z_P n A B E E' k m f) {c v : Nat} (h : (r_val c v E'.2.1).isSome = true) : (r_val c v E.2.1).isSome = true ∨ (n ≤ v ∧ ∃ w, A c w) := by
  refine zP_ind z (fun F => (r_val c v F.2.1).isSome = true → (r_val c v E.2.1).isSome = true ∨ (n ≤ v ∧ ∃ w, A c w)) (fun F d o ih a b hs => ?_) (fun F lo hi h _ _ => h) (fun h => Or.inl h) h
  rw [put_val] at hs
  by_cases e : d = c ∧ n ≤ v
  · rw [if_pos e] at hs
    cases o with
    | none => cases hs
    | some w => exact Or.inr ⟨e.2, w, by rw [← e.1]; exact a w rfl⟩
  · rw [if_neg e] at hs
    exact ih hs
theorem zP_key (z : z_P n A B E E' k m f) {c : Nat} (h : z_nm c E'.1) : z_nm c E.1 ∨ (∃ w, A c w) ∨ y_F c := by
  refine zP_ind z (fun F => z_nm c F.1 → z_nm c E.1 ∨ (∃ w, A c w) ∨ y_F c) (fun F d o ih a b hs => ?_) (fun F lo hi h _ _ => h) (fun h => Or.inl h) h
  obtain ⟨q, hq⟩ := hs
  rcases m_ins_of hq with e | hq
  · have e : c = d := e
    subst e
    cases o with
    | none =>
      rcases (b rfl).2 with g | g
      · exact ih g
      · exact Or.inr (Or.inr g)
    | some w => exact Or.inr (Or.inl ⟨w, a w rfl⟩)
  · exact ih ⟨q, hq⟩
/-- each entry behind it was there ahead, or is a put -/
theorem zP_log (z : z_P n A B E E' k m f) (Q : Nat → Option Int32 → Prop) (ha : ∀ c v, A c v → Q c (some v)) (hb : ∀ c, Q c none) (h : ∀ x ∈ E.2.1, Q x.2.1 x.2.2.2) : ∀ x ∈ E'.2.1, Q x.2.1 x.2.2.2 :=
  zP_ind z (fun F => ∀ x ∈ F.2.1, Q x.2.1 x.2.2.2) (fun F d o ih a b x hx => by
    rcases List.mem_cons.mp hx with rfl | hx
    · cases o with
      | none => exact hb d
      | some w => exact ha d w (a w rfl)
    · exact ih x hx) (fun F lo hi h _ _ => h) h
/-- what it costs -/
theorem zP_num (z : z_P n A B E E' k m f) (hc : z_cd A B) (I : i_K E) {PT : List p_T} (hp : PT.Pairwise (fun x y => x.1 < y.1)) :
    z_T n E' ≤ z_T n E + k ∧ E'.2.2.length ≤ E.2.2.length + m ∧ E'.1.length ≤ E.1.length + f ∧ E.2.1.length ≤ E'.2.1.length ∧ 2 * p_ps (m_V E'.1 n E'.2.1) PT + z_T n E ≤ 2 * p_ps (m_V E.1 n E.2.1) PT + z_T n E' := by
  have put : ∀ (F : e_S) (c : Nat) (o : Option Int32), i_K F → z_T n (e_put n c o F) + z_b (z_l n F c) = z_T n F + 1 + z_b o.isSome ∧ p_ps (m_V (e_put n c o F).1 n (e_put n c o F).2.1) PT ≤ p_ps (m_V F.1 n F.2.1) PT + (z_b o.isSome - z_b (z_l n F c)) := by
    intro F c o J
    have h1 := V_put (n := n) (c := c) (o := o) J
    refine ⟨?_, ?_⟩
    · unfold z_T
      have : (e_put n c o F).2.1.length = F.2.1.length + 1 := rfl
      omega
    · have h2 := Vlt_put (n := n) (c := c) (o := o) J
      cases a : z_l n F c with
      | true =>
        cases b : o.isSome with
        | true =>
          refine ps_put (d := c) (b0 := 0) ⟨fun e => ?_, ?_⟩ PT hp
          · have := h2 e; rw [a, b] at this; simp only [Bool.and_true] at this; simp; omega
          · rw [a, b] at h1; omega
        | false =>
          refine ps_put (d := c) (b0 := 1) ⟨fun e => ?_, ?_⟩ PT hp
          · have := h2 e; rw [a, b] at this; simp only [Bool.and_true, Bool.and_false] at this
            by_cases hce : c < e
            · simp [hce, z_b] at this ⊢; omega
            · simp [hce, z_b] at this ⊢; omega
          · rw [a, b] at h1; simp [z_b] at h1 ⊢; omega
      | false =>
        cases b : o.isSome with
        | true =>
          refine ps_put (d := c) (b0 := 0) ⟨fun e => ?_, ?_⟩ PT hp
          · have := h2 e; rw [a, b] at this; simp only [Bool.and_true, Bool.and_false] at this
            by_cases hce : c < e
            · simp [hce, z_b] at this ⊢; omega
            · simp [hce, z_b] at this ⊢; omega
          · rw [a, b] at h1; simp [z_b] at h1 ⊢; omega
        | false =>
          refine ps_put (d := c) (b0 := 0) ⟨fun e => ?_, ?_⟩ PT hp
          · have := h2 e; rw [a, b] at this; simp only [Bool.and_false] at this; simp; omega
          · rw [a, b] at h1; omega
  have kl : ∀ (F : e_S) (c : Nat), F.1.length ≤ (m_ins c F.1).length ∧ (m_ins c F.1).length ≤ F.1.length + 1 := fun F c => ⟨m_ins_le _ _, m_ins_len _ _⟩
  have kn : ∀ (F : e_S) (c : Nat), i_K F → z_nm c F.1 → (m_ins c F.1).length = F.1.length := fun F c J h => by obtain ⟨a, h⟩ := h; rw [m_ins_in J.1 h]
  refine (z (fun F k m f => i_K F ∧ (z_T n F ≤ z_T n E + k ∧ F.2.2.length ≤ E.2.2.length + m ∧ F.1.length ≤ E.1.length + f ∧ E.2.1.length ≤ F.2.1.length ∧ 2 * p_ps (m_V F.1 n F.2.1) PT + z_T n E ≤ 2 * p_ps (m_V E.1 n E.2.1) PT + z_T n F)) ?_ ?_ ?_ ?_ ?_ ?_ ?_ ⟨I, by omega, by omega, by omega, by omega, by omega⟩).2
  · rintro F k m f c v ⟨J, g1, g2, g3, g4, g5⟩ ha hn
    obtain ⟨p1, p2⟩ := put F c (some v) J
    have e := kn F c J hn
    refine ⟨iK_put J (hc.1 c v ha), ?_, g2, ?_, Nat.le_succ_of_le g4, ?_⟩
    · simp only [Option.isSome_some] at p1; unfold z_b at p1; split at p1 <;> simp at p1 <;> omega
    · show (m_ins c F.1).length ≤ _; omega
    · simp only [Option.isSome_some] at p1 p2; unfold z_b at p1 p2; split at p1 <;> rename_i q <;> simp [q] at p1 p2 <;> omega
  · rintro F k m f c v ⟨J, g1, g2, g3, g4, g5⟩ ha
    obtain ⟨p1, p2⟩ := put F c (some v) J
    have e := kl F c
    refine ⟨iK_put J (hc.1 c v ha), ?_, g2, ?_, Nat.le_succ_of_le g4, ?_⟩
    · simp only [Option.isSome_some] at p1; unfold z_b at p1; split at p1 <;> simp at p1 <;> omega
    · show (m_ins c F.1).length ≤ _; omega
    · simp only [Option.isSome_some] at p1 p2; unfold z_b at p1 p2; split at p1 <;> rename_i q <;> simp [q] at p1 p2 <;> omega
  · rintro F k m f c ⟨J, g1, g2, g3, g4, g5⟩ hb hn
    obtain ⟨p1, p2⟩ := put F c none J
    have e := kn F c J hn
    refine ⟨iK_put J (hc.2 c hb), ?_, g2, ?_, Nat.le_succ_of_le g4, ?_⟩
    · simp only [Option.isSome_none] at p1; unfold z_b at p1; split at p1 <;> simp at p1 <;> omega
    · show (m_ins c F.1).length ≤ _; omega
    · simp only [Option.isSome_none] at p1 p2; unfold z_b at p1 p2; split at p1 <;> rename_i q <;> simp [q] at p1 p2 <;> omega
  · rintro F k m f c ⟨J, g1, g2, g3, g4, g5⟩ hb -
    obtain ⟨p1, p2⟩ := put F c none J
    have e := kl F c
    refine ⟨iK_put J (hc.2 c hb), ?_, g2, ?_, Nat.le_succ_of_le g4, ?_⟩
    · simp only [Option.isSome_none] at p1; unfold z_b at p1; split at p1 <;> simp at p1 <;> omega
    · show (m_ins c F.1).length ≤ _; omega
    · simp only [Option.isSome_none] at p1 p2; unfold z_b at p1 p2; split at p1 <;> rename_i q <;> simp [q] at p1 p2 <;> omega
  · rintro F k m f c ⟨J, g1, g2, g3, g4, g5⟩ hb hn hl
    obtain ⟨p1, p2⟩ := put F c none J
    have e := kn F c J hn
    refine ⟨iK_put J (hc.2 c hb), ?_, g2, ?_, Nat.le_succ_of_le g4, ?_⟩
    · rw [hl] at p1; simp [z_b] at p1; omega
    · show (m_ins c F.1).length ≤ _; omega
    · rw [hl] at p1 p2; simp [z_b] at p1 p2; omega
  · rintro F k m f lo hi ⟨J, g1, g2, g3, g4, g5⟩ h1 h2
    refine ⟨J, g1, ?_, g3, g4, g5⟩
    show (F.2.2 ++ [(lo, hi, n)]).length ≤ _
    rw [List.length_append]
    show F.2.2.length + 1 ≤ _
    omega
  · rintro F k m f k' m' f' ⟨J, g1, g2, g3, g4, g5⟩ h1 h2 h3
    exact ⟨J, by omega, by omega, by omega, g4, g5⟩
end ZP
end
section
/-! CLEARS AND COMMITS AS PUTS -/
section ZC
variable {n : Nat} {A : Nat → Int32 → Prop} {B : Nat → Prop}
theorem zP_pus {K : List k_K2} {W : List (Nat × Nat × Nat)} (s : K.Pairwise (fun x y => x.1 < y.1)) : ∀ (X : List k_K2) (L : List k_E4), X.Pairwise (fun x y => x.1 < y.1) → (∀ x ∈ X, z_nm x.1 K ∧ (r_val x.1 n L).isSome = true ∧ B x.1) → z_P n A B (K, L, W) (K, r_pus n (X.map (fun x => (x.1, none))) L, W) 0 0 0 := by
  intro X
  induction X with
  | nil => intro L _ _; exact zP_refl
  | cons x X ih =>
    intro L hs h
    obtain ⟨h1, h2⟩ := List.pairwise_cons.mp hs
    obtain ⟨⟨a, ha⟩, hl, hb⟩ := h x List.mem_cons_self
    have z1 : z_P n A B (K, L, W) (e_put n x.1 none (K, L, W)) 0 0 0 := zP_nl hb ⟨a, ha⟩ hl
    have e : e_put n x.1 none (K, L, W) = (K, r_pu n L (x.1, none), W) := by
      show (m_ins x.1 K, (L.length, x.1, n, none) :: L, W) = _
      rw [m_ins_in s ha]
      rfl
    rw [e] at z1
    have z2 := ih (r_pu n L (x.1, none)) h2 (fun y hy => by
      obtain ⟨g1, g2, g3⟩ := h y (List.mem_cons_of_mem _ hy)
      refine ⟨g1, ?_, g3⟩
      rw [r_val_pu_ne (fun z => by have := h1 y hy; have z' : x.1 = y.1 := z; omega)]
      exact g2)
    exact zP_trans z1 z2
theorem zP_clr {E : e_S} (I : i_K E) {lo hi : Nat} (h1 : lo < hi) (h2 : hi < 2 ^ 60) (hb : ∀ c, lo ≤ c → c < hi → B c) : z_P n A B E (e_clr n lo hi E) 0 1 0 := by
  obtain ⟨K, L, W⟩ := E
  have z1 := zP_pus (n := n) (A := A) (B := B) (K := K) (W := W) I.1 (r_flt lo hi (fun c => (r_val c n L).isSome) K) L (List.Pairwise.sublist List.filter_sublist I.1) (fun x hx => by
    obtain ⟨m1, m2⟩ := List.mem_filter.mp hx
    simp only [Bool.and_eq_true, decide_eq_true_eq] at m2
    exact ⟨⟨x.2, m1⟩, m2.2, hb x.1 m2.1.1 m2.1.2⟩)
  exact zP_trans z1 (zP_w h1 h2)
def z_c1 (y : k_CH) : Nat := if s_ord y.2.1 = true then (if 1 < y.2.2.2.1 - y.2.2.1 then 0 else if y.2.1 = 1 then 1 else 2) else 0
def z_c2 (y : k_CH) : Nat := if y.2.1 = 6 then 2 else 0
def z_w1 (y : k_CH) : Nat := if s_ord y.2.1 = true ∧ 1 < y.2.2.2.1 - y.2.2.1 then 1 else 0
def z_s6 (y : k_CH) : Nat := if y.2.1 = 6 then 1 else 0
def z_sum (f : k_CH → Nat) (l : List k_CH) : Nat := (l.map f).sum
theorem zs_cons (f : k_CH → Nat) (x : k_CH) (l : List k_CH) : z_sum f (x :: l) = f x + z_sum f l := by unfold z_sum; rw [List.map_cons, List.sum_cons]
theorem zs_app (f : k_CH → Nat) (l l' : List k_CH) : z_sum f (l ++ l') = z_sum f l + z_sum f l' := by unfold z_sum; rw [List.map_append, List.sum_append]
theorem zs_le (f : k_CH → Nat) {b : Nat} (l : List k_CH) (h : ∀ x ∈ l, f x ≤ b) : z_sum f l ≤ b * l.length := by
  induction l with
  | nil => exact Nat.zero_le _
  | cons x l ih =>
    rw [zs_cons, List.length_cons, Nat.mul_add, Nat.mul_one]
    have := h x List.mem_cons_self
    have := ih (fun y hy => h y (List.mem_cons_of_mem _ hy))
    omega
theorem zs_flt (f : k_CH → Nat) (p : k_CH → Bool) (l : List k_CH) : z_sum f (l.filter p) ≤ z_sum f l := by
  induction l with
  | nil => exact Nat.le_refl _
  | cons x l ih =>
    rw [List.filter_cons, zs_cons]
    split
    · rw [zs_cons]; omega
    · omega
def z_ok (n : Nat) (A : Nat → Int32 → Prop) (B : Nat → Prop) (E : e_S) (y : k_CH) : Prop :=
  (s_ord y.2.1 = true → (1 < y.2.2.2.1 - y.2.2.1 → y.2.2.2.1 < 2 ^ 60 ∧ ∀ c, y.2.2.1 ≤ c → c < y.2.2.2.1 → B c) ∧ (¬ 1 < y.2.2.2.1 - y.2.2.1 → (y.2.1 = 1 → B y.2.2.1) ∧ (¬ y.2.1 = 1 → ∀ v, (y.2.1 = 0 → v = y.2.2.2.2.1) → A y.2.2.1 v) ∧ z_nm y.2.2.1 E.1)) ∧ (y.2.1 = 6 → A (e_sc y n) y.2.2.2.2.1)
theorem apO_0 {g s : Int32} {o : Option Int32} : s_apO 0 g s o = some g := by
  unfold s_apO ap_v
  rw [if_neg (by decide), if_neg (by decide), if_neg (by decide), if_neg (by decide), if_neg (by decide), if_neg (by decide)]
theorem zP_do (hc : z_cd A B) : ∀ (MC : List k_CH) (E : e_S), i_K E → (∀ y ∈ MC, z_ok n A B E y) → z_P n A B E (MC.foldl (e_do n) E) (z_sum z_c1 MC) (z_sum z_w1 MC) 0 := by
  intro MC
  induction MC with
  | nil => intro E _ _; exact zP_refl
  | cons y MC ih =>
    intro E I h
    rw [zs_cons, zs_cons]
    have z1 : z_P n A B E (e_do n E y) (z_c1 y) (z_w1 y) 0 := by
      have hy := (h y List.mem_cons_self).1
      unfold e_do z_c1 z_w1
      by_cases ho : s_ord y.2.1 = true
      · obtain ⟨g1, g2⟩ := hy ho
        rw [if_pos ho, if_pos ho]
        by_cases hr : 1 < y.2.2.2.1 - y.2.2.1
        · rw [if_pos hr, if_pos hr, if_pos ⟨ho, hr⟩]
          obtain ⟨q1, q2⟩ := g1 hr
          exact zP_clr I (by omega) q1 q2
        · rw [if_neg hr, if_neg hr, if_neg (show ¬ (s_ord y.2.1 = true ∧ 1 < y.2.2.2.1 - y.2.2.1) from fun z => hr z.2)]
          obtain ⟨q1, q2, q3⟩ := g2 hr
          by_cases e1 : y.2.1 = 1
          · rw [if_pos e1]
            unfold s_apO
            rw [if_pos e1]
            exact zP_n (q1 e1) q3
          · rw [if_neg e1]
            by_cases e0 : y.2.1 = 0
            · rw [e0, apO_0]
              exact zP_s (q2 e1 _ (fun _ => rfl)) q3
            · unfold s_apO
              rw [if_neg e1]
              exact zP_s (q2 e1 _ (fun z => absurd z e0)) q3
      · rw [if_neg ho, if_neg ho, if_neg (fun z => ho z.1)]
        exact zP_refl
    have z2 := ih (e_do n E y) (zP_iK z1 hc I) (fun x hx => by
      obtain ⟨g1, g2⟩ := h x (List.mem_cons_of_mem _ hx)
      refine ⟨fun ho => ⟨(g1 ho).1, fun hr => ?_⟩, g2⟩
      obtain ⟨q1, q2, q3⟩ := (g1 ho).2 hr
      exact ⟨q1, q2, zP_keys z1 q3⟩)
    exact zP_trans z1 z2
theorem zP_st : ∀ (MC : List k_CH) (E : e_S), (∀ y ∈ MC, y.2.1 = 6 → A (e_sc y n) y.2.2.2.2.1) → z_P n A B E (MC.foldl (e_st n) E) (z_sum z_c2 MC) 0 (z_sum z_s6 MC) := by
  intro MC
  induction MC with
  | nil => intro E _; exact zP_refl
  | cons y MC ih =>
    intro E h
    rw [zs_cons, zs_cons]
    have z1 : z_P n A B E (e_st n E y) (z_c2 y) 0 (z_s6 y) := by
      unfold e_st z_c2 z_s6
      by_cases e : y.2.1 = 6
      · rw [if_pos e, if_pos e, if_pos e]
        exact zP_sf (h y List.mem_cons_self e)
      · rw [if_neg e, if_neg e, if_neg e]
        exact zP_refl
    exact zP_trans z1 (ih _ (fun x hx => h x (List.mem_cons_of_mem _ hx)))
theorem zP_all (hc : z_cd A B) {MC : List k_CH} {E : e_S} (I : i_K E) (h : ∀ y ∈ MC, z_ok n A B E y) : z_P n A B E (e_all n MC E) (z_sum z_c1 MC + z_sum z_c2 MC) (z_sum z_w1 MC) (z_sum z_s6 MC) := by
  have z1 := zP_do hc MC E I h
  have z2 := zP_st (n := n) (A := A) (B := B) MC (MC.foldl (e_do n) E) (fun y hy => (h y hy).2)
  refine zP_mono (zP_trans z1 z2) (Nat.le_refl _) (Nat.le_refl _) (by omega)
/-- .. one fold after another -/
theorem zP_fold {α : Type} {g : e_S → α → e_S} {k m f : Nat} (hc : z_cd A B) : ∀ (X : List α) (E : e_S), i_K E → (∀ x ∈ X, ∀ F, i_K F → (∀ c, z_nm c E.1 → z_nm c F.1) → z_P n A B F (g F x) k m f) → z_P n A B E (X.foldl g E) (k * X.length) (m * X.length) (f * X.length) := by
  intro X
  induction X with
  | nil => intro E _ _; exact zP_refl
  | cons x X ih =>
    intro E I h
    have z1 := h x List.mem_cons_self E I (fun c h => h)
    have z2 := ih (g E x) (zP_iK z1 hc I) (fun y hy F J hk => h y (List.mem_cons_of_mem _ hy) F J (fun c hn => hk c (zP_keys z1 hn)))
    rw [List.length_cons, Nat.mul_add, Nat.mul_add, Nat.mul_add, Nat.mul_one, Nat.mul_one, Nat.mul_one]
    exact zP_mono (zP_trans z1 z2) (by omega) (by omega) (by omega)
end ZC
section ZI
variable {M : s_M}
theorem of_cl {x : Int32} (h : s_inB x 0 2 = true) : of_lo x < of_hi x + 1 ∧ of_hi x + 1 ≤ 1331000000000 ∧ of_lo x / 121000000 = 998 - x.toInt.toNat ∧ of_hi x / 121000000 = 998 - x.toInt.toNat ∧ x.toInt.toNat ≤ 2 ∧ sv_co x = 120274000000 + 11000 * x.toInt.toNat + 11000 * 1000 := by
  rcases s_in3 h with rfl | rfl | rfl <;> decide +kernel
end ZI
end
section
/-! WHAT LIES IN WHICH LAYER -/
theorem dg_nI {n : Nat} (h : n < 9000) : s_dg (nI n) = n + 1000 := by
  have h1 : s_nm (nI n) := s_nm_of (by rw [nI_toInt (by omega)]; omega) (by rw [nI_toInt (by omega)]; omega)
  have h2 := s_dg_num h1
  rw [nI_toInt (by omega)] at h2
  omega
theorem no_dg (n k : Nat) : s_dg (s_no n k) = s_dig n k := (s_un_na (s_dig_lt n k)).2
theorem cd_d1 {a b c : Int32} (hb : s_na b) (hc : s_na c) : s_dig (s_cd a b c) 1 = s_dg b := by
  unfold s_dig s_cd
  rw [if_neg (by decide), if_pos rfl]
  have := s_dg_lt hb
  have := s_dg_lt hc
  omega
theorem cd_d2 {a b c : Int32} (hc : s_na c) : s_dig (s_cd a b c) 2 = s_dg c := by
  unfold s_dig s_cd
  rw [if_neg (by decide), if_neg (by decide)]
  have := s_dg_lt hc
  omega
theorem dig_0 {n : Nat} (h : n < 1331000000000) : s_dig n 0 = n / 121000000 := by
  unfold s_dig
  rw [if_pos rfl]
  omega
theorem dig_eq {a b : Nat} (ha : a < 1331000000000) (hb : b < 1331000000000) (h0 : a / 121000000 = b / 121000000) (h1 : s_dig a 1 = s_dig b 1) (h2 : s_dig a 2 = s_dig b 2) : a = b := by
  have e1 := s_cd_dig ha
  have e2 := s_cd_dig hb
  rw [← e1, ← e2, dig_0 ha, dig_0 hb, h0, h1, h2]
theorem with_ly {lo k n : Nat} (hlo : lo < 1331000000000) (hn : n < 9000) : s_with lo k (nI n) / 121000000 = if k = 0 then n + 1000 else lo / 121000000 := by
  have na := e_n_na hn
  unfold s_with
  rw [s_cd_div (by split; exact na; exact s_no_na _ _) (by split; exact na; exact s_no_na _ _)]
  by_cases h : k = 0
  · rw [if_pos h, if_pos h, dg_nI hn]
  · rw [if_neg h, if_neg h, no_dg, dig_0 hlo]
theorem with_d1 {lo k n : Nat} (hn : n < 9000) : s_dig (s_with lo k (nI n)) 1 = if k = 1 then n + 1000 else s_dig lo 1 := by
  have na := e_n_na hn
  unfold s_with
  rw [cd_d1 (by split; exact na; exact s_no_na _ _) (by split; exact na; exact s_no_na _ _)]
  by_cases h : k = 1
  · rw [if_pos h, if_pos h, dg_nI hn]
  · rw [if_neg h, if_neg h, no_dg]
theorem with_lt {lo k n : Nat} (hn : n < 9000) : s_with lo k (nI n) < 1331000000000 := by
  have na := e_n_na hn
  unfold s_with
  exact s_cd_lt (by split; exact na; exact s_no_na _ _) (by split; exact na; exact s_no_na _ _) (by split; exact na; exact s_no_na _ _)
/-- the codes ahead of the layers, and behind them -/
def y_o (lo hi : Nat) : Prop := hi ≤ 120153000000 ∨ 121000000000 ≤ lo
def y_rec (W R : List Nat) (k j : Nat) : Prop := k < 100 ∧ j < 100 ∧ s_cd (-2) (nI j) (nI k) ∈ W ∧ s_cd (-3) (nI j) 10000 ∈ W ∧ sv_re (nI k) ∈ W ∧ k ∈ R
def y_E (W R : List Nat) (c : Nat) (o : Option Int32) : Prop := ∀ f, o = some f → (c / 121000000 = 999 → ∃ k j, y_rec W R k j ∧ c = sv_re (nI k) ∧ f = nI j) ∧ (c / 121000000 = 994 → f = 1000 ∨ f = -1000 ∨ ∃ j, j < 100 ∧ f = nI j) ∧ (c / 121000000 = 993 → ¬ f < 0)
def y_y (K : List k_K2) (W R : List Nat) (y : k_CH) : Prop := y.2.2.1 < 1331000000000 ∧ y.2.2.2.1 ≤ 1331000000000 ∧
  ((y.2.1 = 1 ∧ 1 < y.2.2.2.1 - y.2.2.1 ∧ y_o y.2.2.1 y.2.2.2.1) ∨
   (y.2.1 = 1 ∧ y.2.2.2.1 = y.2.2.1 + 1 ∧ z_nm y.2.2.1 K ∧ ¬ (993 ≤ y.2.2.1 / 121000000 ∧ y.2.2.1 / 121000000 ≤ 995)) ∨
   ((y.2.1 = 0 ∨ y.2.1 = 2 ∨ y.2.1 = 3 ∨ y.2.1 = 4 ∨ y.2.1 = 5) ∧ y.2.2.2.1 = y.2.2.1 + 1 ∧ z_nm y.2.2.1 K ∧ y.2.2.1 ∈ W ∧
      (y_o y.2.2.1 (y.2.2.1 + 1) ∨ (¬ y.2.1 = 5 ∧ (y.2.2.1 / 121000000 = 998 ∨ y.2.2.1 / 121000000 = 997)) ∨ (y.2.1 = 0 ∧ ∃ k j, y_rec W R k j ∧ y.2.2.1 = sv_re (nI k) ∧ y.2.2.2.2.1 = nI j))) ∨
   (y.2.1 = 6 ∧ y.2.2.2.1 = y.2.2.1 + 1 ∧ (y_o y.2.2.1 (y.2.2.1 + 1) ∨ y.2.2.1 = s_cd (-5) 0 10000 ∨ ∃ k, k < 100 ∧ y.2.2.1 = s_cd (-4) 0 (nI k))))
theorem yrec_mono {W R W' R' : List Nat} (hW : ∀ c ∈ W, c ∈ W') (hR : ∀ c ∈ R, c ∈ R') {k j : Nat} (h : y_rec W R k j) : y_rec W' R' k j := ⟨h.1, h.2.1, hW _ h.2.2.1, hW _ h.2.2.2.1, hW _ h.2.2.2.2.1, hR _ h.2.2.2.2.2⟩
theorem yE_mono {W R W' R' : List Nat} (hW : ∀ c ∈ W, c ∈ W') (hR : ∀ c ∈ R, c ∈ R') {c : Nat} {o : Option Int32} (h : y_E W R c o) : y_E W' R' c o := fun f hf =>
  ⟨fun e => by obtain ⟨k, j, h1, h2⟩ := (h f hf).1 e; exact ⟨k, j, yrec_mono hW hR h1, h2⟩, (h f hf).2⟩
theorem yy_mono {K K' : List k_K2} {W R W' R' : List Nat} (hK : ∀ c, z_nm c K → z_nm c K') (hW : ∀ c ∈ W, c ∈ W') (hR : ∀ c ∈ R, c ∈ R') {y : k_CH} (h : y_y K W R y) : y_y K' W' R' y := by
  obtain ⟨h1, h2, h⟩ := h
  refine ⟨h1, h2, ?_⟩
  rcases h with h | ⟨a, b, c, d⟩ | ⟨a, b, c, d, e⟩ | h
  · exact Or.inl h
  · exact Or.inr (Or.inl ⟨a, b, hK _ c, d⟩)
  · refine Or.inr (Or.inr (Or.inl ⟨a, b, hK _ c, hW _ d, ?_⟩))
    rcases e with e | e | ⟨e, k, j, g, g2⟩
    · exact Or.inl e
    · exact Or.inr (Or.inl e)
    · exact Or.inr (Or.inr ⟨e, k, j, yrec_mono hW hR g, g2⟩)
  · exact Or.inr (Or.inr (Or.inr h))
/-! .. a commit's puts -/
def cA (MC : List k_CH) (n c : Nat) (v : Int32) : Prop := ∃ y ∈ MC, ((y.2.1 = 0 ∨ y.2.1 = 2 ∨ y.2.1 = 3 ∨ y.2.1 = 4 ∨ y.2.1 = 5) ∧ y.2.2.2.1 = y.2.2.1 + 1 ∧ c = y.2.2.1 ∧ (y.2.1 = 0 → v = y.2.2.2.2.1)) ∨ (y.2.1 = 6 ∧ c = e_sc y n ∧ v = y.2.2.2.2.1)
def cB (MC : List k_CH) (c : Nat) : Prop := ∃ y ∈ MC, y.2.1 = 1 ∧ y.2.2.1 ≤ c ∧ c < y.2.2.2.1
def z_st (MC : List k_CH) (n : Nat) : List Nat := (MC.filter (fun y => decide (y.2.1 = 6))).map (fun y => e_sc y n)
theorem st_len (MC : List k_CH) (n : Nat) : (z_st MC n).length = z_sum z_s6 MC := by
  unfold z_st
  rw [List.length_map]
  induction MC with
  | nil => rfl
  | cons y MC ih =>
    rw [List.filter_cons, zs_cons, ← ih]
    unfold z_s6
    by_cases e : y.2.1 = 6
    · rw [if_pos (decide_eq_true e), if_pos e, List.length_cons]; omega
    · rw [if_neg (by rw [decide_eq_false e]; decide), if_neg e]; omega
section CF
variable {E : e_S} {W R : List Nat} {MC : List k_CH} {n : Nat}
theorem c_ok (h : ∀ y ∈ MC, y_y E.1 W R y) : ∀ y ∈ MC, z_ok n (cA MC n) (cB MC) E y := by
  intro y hy
  obtain ⟨h1, h2, h3⟩ := h y hy
  refine ⟨fun ho => ⟨fun hr => ?_, fun hr => ?_⟩, fun e6 => ⟨y, hy, Or.inr ⟨e6, rfl, rfl⟩⟩⟩
  · rcases h3 with ⟨a, b, c⟩ | ⟨a, b, c, d⟩ | ⟨a, b, c, d, e⟩ | ⟨a, b, c⟩
    · exact ⟨by omega, fun c g1 g2 => ⟨y, hy, a, g1, g2⟩⟩
    · omega
    · omega
    · omega
  · rcases h3 with ⟨a, b, c⟩ | ⟨a, b, c, d⟩ | ⟨a, b, c, d, e⟩ | ⟨a, b, c⟩
    · exact absurd b hr
    · exact ⟨fun _ => ⟨y, hy, a, Nat.le_refl _, by omega⟩, fun z => absurd a z, c⟩
    · exact ⟨fun z => by rw [z] at a; exact absurd a (by decide), fun _ v hv => ⟨y, hy, Or.inl ⟨a, b, rfl, hv⟩⟩, c⟩
    · rw [a] at ho; exact absurd ho (by decide)
theorem sc_at {y : k_CH} (hn : n < 8999) (h1 : y.2.2.1 < 1331000000000) (a : y.2.1 = 6) (c : y_o y.2.2.1 (y.2.2.1 + 1) ∨ y.2.2.1 = s_cd (-5) 0 10000 ∨ ∃ k, k < 100 ∧ y.2.2.1 = s_cd (-4) 0 (nI k)) :
    e_sc y (n + 1) < 1331000000000 ∧ y_K (e_sc y (n + 1)) ∧ ¬ e_sc y (n + 1) / 121000000 = 999 ∧ ¬ e_sc y (n + 1) / 121000000 = 994 ∧ ¬ e_sc y (n + 1) / 121000000 = 993 ∧ (e_sc y (n + 1) / 121000000 = 996 → s_dig (e_sc y (n + 1)) 1 = n + 1 + 1000) := by
  have hl := with_ly (lo := y.2.2.1) (k := s_stp (m_ck y) y.2.2.1) (n := n + 1) h1 (by omega)
  have hd := with_d1 (lo := y.2.2.1) (k := s_stp (m_ck y) y.2.2.1) (n := n + 1) (by omega)
  have ht := with_lt (lo := y.2.2.1) (k := s_stp (m_ck y) y.2.2.1) (n := n + 1) (by omega)
  unfold e_sc
  generalize hg : s_with y.2.2.1 (s_stp (m_ck y) y.2.2.1) (nI (n + 1)) = g at hl hd ht ⊢
  refine ⟨ht, ?_⟩
  rcases c with c | c | ⟨k, hk, c⟩
  · have o : y.2.2.1 / 121000000 < 993 ∨ 999 < y.2.2.1 / 121000000 := by
      rcases c with c | c
      · left; omega
      · right; omega
    unfold y_K
    by_cases e : s_stp (m_ck y) y.2.2.1 = 0
    · rw [if_pos e] at hl
      exact ⟨fun z => by omega, by omega, by omega, by omega, fun z => by omega⟩
    · rw [if_neg e] at hl
      exact ⟨fun z => by omega, by omega, by omega, by omega, fun z => by omega⟩
  · have e : s_stp (m_ck y) y.2.2.1 = 1 := by
      have h6 : m_ck y = 6 := by
        unfold m_ck
        rw [if_neg (fun z => by rw [a] at z; exact absurd z.1 (by decide)), if_neg (fun z => by rw [c] at z; exact absurd z.2 (by decide +kernel)), a]
      rw [h6, c]
      decide +kernel
    rw [e] at hg hl hd
    rw [c] at hg hl
    have hl2 : g / 121000000 = 995 := by rw [hl, if_neg (by decide)]; decide +kernel
    have na : s_na (nI (n + 1)) := e_n_na (by omega)
    have eg : g = s_cd (-5) (nI (n + 1)) 10000 := by
      rw [← hg]
      unfold s_with
      rw [if_neg (by decide), if_pos rfl, if_neg (by decide)]
      rw [s_no_0 na_m6.2.2.1 (Or.inr (s_nmB_iff.mp (by decide))) (Or.inl rfl), s_no_2 na_m6.2.2.1 (Or.inr (s_nmB_iff.mp (by decide))) (Or.inl rfl)]
    refine ⟨fun _ => ?_, by omega, by omega, by omega, fun z => by omega⟩
    rw [eg, s_no_1 na_m6.2.2.1 na (Or.inl rfl)]
  · have e : s_stp (m_ck y) y.2.2.1 = 1 := by
      have h6 : m_ck y = 8 := by
        unfold m_ck
        rw [if_neg (fun z => by rw [a] at z; exact absurd z.1 (by decide)), if_pos ⟨a, by rw [c, s_cd_div (Or.inr (s_nmB_iff.mp (by decide))) (na_100 (by omega))]; rfl⟩]
      rw [h6]
      rfl
    rw [e] at hg hl hd
    rw [if_neg (by decide), c, s_cd_div (Or.inr (s_nmB_iff.mp (by decide))) (na_100 (by omega))] at hl
    rw [if_pos rfl] at hd
    have hl2 : g / 121000000 = 996 := hl
    exact ⟨fun z => by omega, by omega, by omega, by omega, fun _ => hd⟩
theorem cA_at (hn : n < 8999) (h : ∀ y ∈ MC, y_y E.1 W R y) {c : Nat} {v : Int32} (a : cA MC (n + 1) c v) :
    c < 1331000000000 ∧ y_K c ∧ y_E W R c (some v) ∧ (c ∈ W ∨ c ∈ z_st MC (n + 1)) ∧ (c / 121000000 = 996 → s_dig c 1 = n + 1 + 1000) ∧ ¬ c / 121000000 = 994 := by
  obtain ⟨y, hy, a⟩ := a
  obtain ⟨h1, h2, h3⟩ := h y hy
  rcases a with ⟨a1, a2, rfl, a4⟩ | ⟨a1, rfl, rfl⟩
  · have h4 : y.2.2.1 ∈ W ∧ (y_o y.2.2.1 (y.2.2.1 + 1) ∨ (¬ y.2.1 = 5 ∧ (y.2.2.1 / 121000000 = 998 ∨ y.2.2.1 / 121000000 = 997)) ∨ (y.2.1 = 0 ∧ ∃ k j, y_rec W R k j ∧ y.2.2.1 = sv_re (nI k) ∧ y.2.2.2.2.1 = nI j)) := by
      rcases h3 with ⟨z, -⟩ | ⟨z, -⟩ | ⟨-, -, -, z1, z2⟩ | ⟨z, -⟩
      · rw [z] at a1; exact absurd a1 (by decide)
      · rw [z] at a1; exact absurd a1 (by decide)
      · exact ⟨z1, z2⟩
      · rw [z] at a1; exact absurd a1 (by decide)
    obtain ⟨h4, h5⟩ := h4
    rcases h5 with h5 | ⟨-, h5⟩ | ⟨h5, k, j, g1, g2, g3⟩
    · have o : y.2.2.1 / 121000000 < 993 ∨ 999 < y.2.2.1 / 121000000 := by
        rcases h5 with c | c
        · left; omega
        · right; omega
      exact ⟨h1, fun z => by omega, fun f _ => ⟨fun z => by omega, fun z => by omega, fun z => by omega⟩, Or.inl h4, fun z => by omega, by omega⟩
    · exact ⟨h1, fun z => by omega, fun f _ => ⟨fun z => by omega, fun z => by omega, fun z => by omega⟩, Or.inl h4, fun z => by omega, by omega⟩
    · have e : y.2.2.1 / 121000000 = 999 := by
        rw [g2]
        unfold sv_re
        rw [s_cd_div (na_100 (by have := g1.1; omega)) (Or.inl rfl)]
        rfl
      refine ⟨h1, fun z => by omega, fun f hf => ⟨fun _ => ⟨k, j, g1, g2, ?_⟩, fun z => by omega, fun z => by omega⟩, Or.inl h4, fun z => by omega, by omega⟩
      injection hf with hf
      rw [← hf, a4 h5, g3]
  · have h4 : y_o y.2.2.1 (y.2.2.1 + 1) ∨ y.2.2.1 = s_cd (-5) 0 10000 ∨ ∃ k, k < 100 ∧ y.2.2.1 = s_cd (-4) 0 (nI k) := by
      rcases h3 with ⟨z, -⟩ | ⟨z, -⟩ | ⟨z, -⟩ | ⟨-, -, z⟩
      · rw [z] at a1; exact absurd a1 (by decide)
      · rw [z] at a1; exact absurd a1 (by decide)
      · rw [a1] at z; exact absurd z (by decide)
      · exact z
    obtain ⟨g1, g2, g3, g4, g5, g6⟩ := sc_at hn h1 a1 h4
    refine ⟨g1, g2, fun f _ => ⟨fun z => absurd z g3, fun z => absurd z g4, fun z => absurd z g5⟩, Or.inr ?_, g6, g4⟩
    exact List.mem_map.mpr ⟨y, List.mem_filter.mpr ⟨hy, decide_eq_true a1⟩, rfl⟩
theorem cB_at (h : ∀ y ∈ MC, y_y E.1 W R y) {c : Nat} (b : cB MC c) : c < 1331000000000 ∧ ¬ c / 121000000 = 994 := by
  obtain ⟨y, hy, a, b1, b2⟩ := b
  obtain ⟨h1, h2, h3⟩ := h y hy
  rcases h3 with ⟨-, -, z⟩ | ⟨-, z1, -, z2⟩ | ⟨z, -⟩ | ⟨z, -⟩
  · rcases z with z | z
    · exact ⟨by omega, by omega⟩
    · exact ⟨by omega, by omega⟩
  · have : c = y.2.2.1 := by omega
    subst this
    exact ⟨h1, by omega⟩
  · rw [a] at z; exact absurd z (by decide)
  · rw [a] at z; exact absurd z (by decide)
theorem c_cd (hn : n < 8999) (h : ∀ y ∈ MC, y_y E.1 W R y) : z_cd (cA MC (n + 1)) (cB MC) := ⟨fun c v a => (cA_at hn h a).1, fun c b => (cB_at h b).1⟩
end CF
end
