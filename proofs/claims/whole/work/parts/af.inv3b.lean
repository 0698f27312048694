theorem la_lt {a b : Int32} (ha : s_na a) (hb : s_na b) : s_la a b + 1 < 2 ^ 60 := by
  unfold s_la s_hi
  have := s_cd_lt ha hb (Or.inl rfl)
  by_cases e : a = 10000
  · simp only [if_pos e]; omega
  · simp only [if_neg e]
    by_cases e2 : b = 10000
    · simp only [if_pos e2]; omega
    · simp only [if_neg e2]; omega
theorem i3_kp {M M' : s_M} (I : i_3 M) (z : z_kp M M') : i_3 M' := by
  rcases z with rfl | ⟨t, y, ht, -, -, rfl, -, ⟨h1, a, b, hr, -, -, h2⟩ | ⟨a, b, c, hk, -, hi, h1, h2⟩ | ⟨h1, -, h2⟩⟩
  · exact I
  · obtain ⟨ha, hb⟩ := s_rngB_na hr
    exact i3_kp1 I ht (by rw [h2]; exact la_lt ha hb) (Or.inl h1)
  · obtain ⟨ha, hb, hc⟩ := s_keyB_na hk
    have hl := s_cd_lt ha hb hc
    refine i3_kp1 I ht (by rw [h2]; omega) ?_
    by_cases e1 : y.2.1 = 1
    · exact Or.inl e1
    · by_cases e6 : y.2.1 = 6
      · exact Or.inr (Or.inl e6)
      · refine Or.inr (Or.inr ⟨by rw [h2, h1], ?_⟩)
        unfold m_ck
        rw [if_neg (fun z => e1 z.1), if_neg (fun z => e6 z.1)]
        rcases s_in6 hi with h | h | h | h | h | h | h
        · rw [h]; decide
        · exact absurd h e1
        · rw [h]; decide
        · rw [h]; decide
        · rw [h]; decide
        · rw [h]; decide
        · exact absurd h e6
  · refine i3_kp1 I ht (by rw [h2]; decide +kernel) (Or.inr (Or.inl h1))
