/-! WHAT CALLS KEEP -/
theorem lay_out {a : Int32} (ha : s_nm a) (h : s_inB a (-7) (-1) = false) : s_dg a < 993 ∨ 999 < s_dg a := by
  have h1 := s_dg_num ha
  unfold s_inB at h
  by_cases c1 : a < -7
  · have := Int32.lt_iff_toInt_lt.mp c1
    have e : (-7 : Int32).toInt = -7 := by decide
    omega
  · by_cases c2 : (-1 : Int32) < a
    · have := Int32.lt_iff_toInt_lt.mp c2
      have e : (-1 : Int32).toInt = -1 := by decide
      omega
    · rw [decide_eq_true c1, decide_eq_true c2] at h
      cases h
theorem key_nm {a b c : Int32} (h : s_keyB a b c = true) : s_nm a := by
  unfold s_keyB at h
  rw [Bool.and_eq_true] at h
  exact s_nmB_iff.mp h.1
theorem key_o {a b c : Int32} (h : s_keyB a b c = true) (h2 : s_inB a (-7) (-1) = false) : y_o (s_cd a b c) (s_cd a b c + 1) := by
  obtain ⟨ha, hb, hc⟩ := s_keyB_na h
  have e := s_cd_div (a := a) hb hc
  unfold y_o
  rcases lay_out (key_nm h) h2 with g | g
  · left; omega
  · right; omega
theorem rng_o {a b : Int32} (h : s_rngB a b = true) (h2 : a = 10000 ∨ s_inB a (-7) (-1) = true → False) : y_o (s_lo a b) (s_la a b + 1) ∧ s_la a b + 1 ≤ 1331000000000 ∧ s_lo a b < 1331000000000 ∧ 1 < s_la a b + 1 - s_lo a b := by
  obtain ⟨ha, hb⟩ := s_rngB_na h
  have na : ¬ a = 10000 := fun z => h2 (Or.inl z)
  have hi : s_inB a (-7) (-1) = false := by
    cases e : s_inB a (-7) (-1) with
    | false => rfl
    | true => exact absurd (h2 (Or.inr e)) id
  have nm : s_nm a := by
    rcases ha with e | e
    · exact absurd e na
    · exact e
  have d1 := s_dg_lt ha
  have d2 := s_dg_lt hb
  have e1 : s_cd a b 10000 = (s_dg a * 11000 + s_dg b) * 11000 := by unfold s_cd; rw [s_dg_none, Nat.add_zero]
  have e2 : b = 10000 → s_dg b = 0 := fun z => by rw [z]; rfl
  unfold s_lo s_la s_hi y_o
  rw [if_neg na, if_neg na, if_neg na]
  by_cases eb : b = 10000
  · have e3 := e2 eb
    rw [if_pos eb]
    rcases lay_out nm hi with g | g
    · exact ⟨Or.inl (by omega), by omega, by omega, by omega⟩
    · exact ⟨Or.inr (by omega), by omega, by omega, by omega⟩
  · rw [if_neg eb]
    rcases lay_out nm hi with g | g
    · exact ⟨Or.inl (by omega), by omega, by omega, by omega⟩
    · exact ⟨Or.inr (by omega), by omega, by omega, by omega⟩
def kp_W (W : List Nat) (y : k_CH) : List Nat := if y.2.1 = 6 then W else y.2.2.1 :: W
theorem kp_at {M : s_M} {y : k_CH} (K : i_K (g_E M)) (h : z_y M y) (W R : List Nat) : y_y (if m_ck y < 6 then m_ins y.2.2.1 (g_E M).1 else (g_E M).1) (kp_W W y) R y ∧ (m_ck y < 6 → y_o y.2.2.1 (y.2.2.1 + 1) ∧ y.2.2.1 < 1331000000000) := by
  obtain ⟨-, ⟨h1, a, b, hr, h2, h3, h4⟩ | ⟨a, b, c, hk, hi, h6, h3, h4⟩ | ⟨h1, h3, h4⟩⟩ := h
  · obtain ⟨o1, o2, o3, o4⟩ := rng_o hr h2
    rw [← h3, ← h4] at o1 o4
    rw [← h4] at o2
    rw [← h3] at o3
    have e : m_ck y = 7 := by unfold m_ck; rw [if_pos ⟨h1, o4⟩]
    exact ⟨⟨o3, o2, Or.inl ⟨h1, o4, o1⟩⟩, fun z => by rw [e] at z; exact absurd z (by decide)⟩
  · obtain ⟨ha, hb, hc⟩ := s_keyB_na hk
    have o := key_o hk hi
    have hl := s_cd_lt ha hb hc
    rw [← h3] at o hl
    rw [← h3] at h4
    have hly : y.2.2.1 / 121000000 < 993 ∨ 999 < y.2.2.1 / 121000000 := by
      rcases o with o | o
      · left; omega
      · right; omega
    refine ⟨⟨hl, by omega, ?_⟩, fun _ => ⟨o, hl⟩⟩
    have ck : ¬ y.2.1 = 6 → m_ck y = y.2.1 := fun e6 => by
      unfold m_ck
      rw [if_neg (fun z => by omega), if_neg (fun z => e6 z.1)]
    have nm : y.2.1 < 6 → z_nm y.2.2.1 (if m_ck y < 6 then m_ins y.2.2.1 (g_E M).1 else (g_E M).1) := fun e => by
      rw [ck (fun z => by rw [z] at e; exact absurd e (by decide)), if_pos e]
      exact m_ins_has _
    have kw : ¬ y.2.1 = 6 → y.2.2.1 ∈ kp_W W y := fun e => by
      unfold kp_W
      rw [if_neg e]
      exact List.mem_cons_self
    rcases s_in6 h6 with e | e | e | e | e | e | e
    · exact Or.inr (Or.inr (Or.inl ⟨Or.inl e, h4, nm (by rw [e]; decide), kw (by rw [e]; decide), Or.inl o⟩))
    · exact Or.inr (Or.inl ⟨e, h4, nm (by rw [e]; decide), by omega⟩)
    · exact Or.inr (Or.inr (Or.inl ⟨Or.inr (Or.inl e), h4, nm (by rw [e]; decide), kw (by rw [e]; decide), Or.inl o⟩))
    · exact Or.inr (Or.inr (Or.inl ⟨Or.inr (Or.inr (Or.inl e)), h4, nm (by rw [e]; decide), kw (by rw [e]; decide), Or.inl o⟩))
    · exact Or.inr (Or.inr (Or.inl ⟨Or.inr (Or.inr (Or.inr (Or.inl e))), h4, nm (by rw [e]; decide), kw (by rw [e]; decide), Or.inl o⟩))
    · exact Or.inr (Or.inr (Or.inl ⟨Or.inr (Or.inr (Or.inr (Or.inr e))), h4, nm (by rw [e]; decide), kw (by rw [e]; decide), Or.inl o⟩))
    · exact Or.inr (Or.inr (Or.inr ⟨e, h4, Or.inl o⟩))
  · have e : m_ck y = 6 := by
      unfold m_ck
      rw [if_neg (fun z => by rw [h1] at z; exact absurd z.1 (by decide)), if_neg (fun z => by rw [h3] at z; exact absurd z.2 (by decide +kernel)), h1]
    have hl : s_cd (-5) 0 10000 < 1331000000000 - 1 := by decide +kernel
    exact ⟨⟨by rw [h3]; omega, by rw [h4]; omega, Or.inr (Or.inr (Or.inr ⟨h1, by rw [h4, h3], Or.inr (Or.inl h3)⟩))⟩, fun z => by rw [e] at z; exact absurd z (by decide)⟩
theorem iK_ins {E : e_S} {c : Nat} (I : i_K E) (hc : c < 1331000000000) : i_K (m_ins c E.1, E.2) := by
  refine ⟨m_ins_srt I.1, fun x hx => ?_, fun x hx => ?_⟩
  · obtain ⟨a, h⟩ := I.2.1 x hx
    exact ⟨a, m_ins_mem h⟩
  · rcases m_ins_of hx with e | h
    · rw [e]; exact hc
    · exact I.2.2 x h
theorem I_kp {i N w N' : Nat} {M M' : s_M} (I : i_I i M N w) (z : z_kp M M') (hN : N' ≤ N + 12) : i_I (i + 1) M' N' w := by
  rcases z with rfl | ⟨t, y, ht, hb, hlen, rfl, hy⟩
  · exact I_0 I hN
  · obtain ⟨W, S, R, V, Vs, a, s, b, p, C, D, X, Y, Np, ⟨⟨g1, g2, g3⟩, hS, gX, gC, gN, g4, g5, g6⟩⟩ := I
    have K := hS.1.2
    obtain ⟨y1, y2⟩ := kp_at K hy W R
    have hE : g_E (g_kp M t y) = ((if m_ck y < 6 then m_ins y.2.2.1 (g_E M).1 else (g_E M).1), (g_E M).2) := rfl
    have hK' : i_K (g_E (g_kp M t y)) := by
      rw [hE]
      split
      · rename_i h; exact iK_ins K (y2 h).2
      · exact K
    have hkm : ∀ c, z_nm c (g_E M).1 → z_nm c (g_E (g_kp M t y)).1 := fun c h => by
      rw [hE]
      show z_nm c (if m_ck y < 6 then m_ins y.2.2.1 (g_E M).1 else (g_E M).1)
      split
      · obtain ⟨q, h⟩ := h; exact ⟨q, m_ins_mem h⟩
      · exact h
    have hk2 : ∀ x ∈ (g_E (g_kp M t y)).1, z_nm x.1 (g_E M).1 ∨ (y_K x.1 ∧ ¬ x.1 / 121000000 = 996) := fun x hx => by
      rw [hE] at hx
      have hx : x ∈ (if m_ck y < 6 then m_ins y.2.2.1 (g_E M).1 else (g_E M).1) := hx
      split at hx
      · rename_i h
        rcases m_ins_of hx with e | e
        · right
          rw [e]
          rcases (y2 h).1 with o | o
          · exact ⟨fun z => by omega, by omega⟩
          · exact ⟨fun z => by omega, by omega⟩
        · exact Or.inl ⟨x.2, e⟩
      · exact Or.inl ⟨x.2, hx⟩
    have hkl : (g_E (g_kp M t y)).1.length ≤ 22 * (i + 1) := by
      have h0 := hS.2.2.2.2.1.1
      rw [hE]
      show (if m_ck y < 6 then m_ins y.2.2.1 (g_E M).1 else (g_E M).1).length ≤ _
      split
      · have := m_ins_len y.2.2.1 (g_E M).1; omega
      · omega
    have hW : ∀ c ∈ W, c ∈ kp_W W y := fun c h => by
      unfold kp_W
      split
      · exact h
      · exact List.mem_cons_of_mem _ h
    have hWl : W.length ≤ (kp_W W y).length := by
      unfold kp_W
      split
      · exact Nat.le_refl _
      · exact Nat.le_succ _
    have ev : g_V (g_kp M t y) = g_V M := V_kp K.1 K.2.1
    obtain ⟨x1, x2, x3, x4, x5, x6⟩ := gX t ht
    refine ⟨kp_W W y, S, R, V, Vs, a + 1, s, b, p + 1, C, D, X, Y, Np, ⟨⟨i1_mono (i1_kp1 g1 ht) (by omega) (Nat.le_succ _), ⟨g2.1, g2.2.1, by have := g2.2.2.1; exact Nat.le_succ_of_le this, g2.2.2.2⟩, ?_⟩, ?_, ?_, ?_, iN_p gN ?_, by omega, Y_p g5, by omega⟩⟩
    · show g_ser M + 1 ≤ _
      omega
    · exact S_same hS (Nat.le_succ _) hW (fun _ h => h) hS.2.2.1.2.2.1.2 hWl (Nat.le_refl _) rfl rfl rfl rfl hK' hk2 hkl ev
    · refine iX_tx gX (x := ((g_X M t).1, (g_X M t).2.1 ++ [y], (g_X M t).2.2)) rfl ?_ hkm hW (fun _ h => h) (Nat.le_succ _) (Nat.le_refl _)
      have l1 : ((g_X M t).2.1 ++ [y]).length ≤ 12 := by rw [List.length_append]; show _ + 1 ≤ 12; omega
      have l2 := cy_le ((g_X M t).2.1 ++ [y])
      have l3 := w1_le ((g_X M t).2.1 ++ [y])
      have l4 := s6_le ((g_X M t).2.1 ++ [y])
      refine ⟨fun x hx => ?_, ?_, ?_, ?_, ?_, ?_⟩
      · rcases List.mem_append.mp hx with h | h
        · exact yy_mono hkm hW (fun _ h => h) (x1 x h)
        · have : x = y := by simpa using h
          rw [this]
          exact y1
      · show (g_X M t).2.2.length ≤ _; omega
      · show ((g_X M t).2.1 ++ [y]).length ≤ _; omega
      · show z_cy ((g_X M t).2.1 ++ [y]) ≤ _; omega
      · show z_sum z_w1 ((g_X M t).2.1 ++ [y]) ≤ _; omega
      · show z_sum z_s6 ((g_X M t).2.1 ++ [y]) ≤ _; omega
    · have kc := zcr_kp (n := g_n M) (x := g_X M t) (x' := ((g_X M t).1, (g_X M t).2.1 ++ [y], (g_X M t).2.2)) hlen rfl rfl
      have e : z_C (g_kp M t y) = z_C (g_tx M t ((g_X M t).1, (g_X M t).2.1 ++ [y], (g_X M t).2.2)) := rfl
      by_cases e6 : y.2.1 = 6
      · have h := zC_tx (M := M) ht kc.1
        have ew : kp_W W y = W := if_pos e6
        rw [ew]
        exact ⟨by have := gC.1; omega, by have := gC.2.1; omega, gC.2.2⟩
      · have h := zC_tx (M := M) (k := 0) ht (kc.2 e6)
        have ew : (kp_W W y).length = W.length + 1 := by unfold kp_W; rw [if_neg e6]; rfl
        exact ⟨by have := gC.1; omega, by have := gC.2.1; omega, gC.2.2⟩
    · have := z4_up (f := fun u => z_b (g_X M u).1.1) (g := fun u => z_b (g_X (g_kp M t y) u).1.1) ht (fun u hu => by show z_b (if u = t then _ else g_X M u).1.1 = _; rw [if_neg hu])
      have e2 : z_b (g_X (g_kp M t y) t).1.1 ≤ 1 := zb_le _
      show (if g_los M = 0 then 0 else 1) + z_4 (fun u => z_b (g_X (g_kp M t y) u).1.1) ≤ _
      omega
