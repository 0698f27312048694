/-! WHAT LIES IN WHICH LAYER -/
theorem dg_nI {n : Nat} (h : n < 9000) : s_dg (nI n) = n + 1000 := by
  have h1 : s_nm (nI n) := s_nm_of (by rw [nI_toInt (by omega)]; omega) (by rw [nI_toInt (by omega)]; omega)
  have h2 := s_dg_num h1
  rw [nI_toInt (by omega)] at h2
  omega
theorem no_dg (n k : Nat) : s_dg (s_no n k) = s_dig n k := (s_un_na (s_dig_lt n k)).2
theorem cd_d1 {a b c : Int32} (hb : s_na b) (hc : s_na c) : s_dig (s_cd a b c) 1 = s_dg b := by
  unfold s_dig s_cd
  rw [if_neg (by decide), if_pos rfl]
  have := s_dg_lt hb
  have := s_dg_lt hc
  omega
theorem cd_d2 {a b c : Int32} (hc : s_na c) : s_dig (s_cd a b c) 2 = s_dg c := by
  unfold s_dig s_cd
  rw [if_neg (by decide), if_neg (by decide)]
  have := s_dg_lt hc
  omega
theorem dig_0 {n : Nat} (h : n < 1331000000000) : s_dig n 0 = n / 121000000 := by
  unfold s_dig
  rw [if_pos rfl]
  omega
theorem dig_eq {a b : Nat} (ha : a < 1331000000000) (hb : b < 1331000000000) (h0 : a / 121000000 = b / 121000000) (h1 : s_dig a 1 = s_dig b 1) (h2 : s_dig a 2 = s_dig b 2) : a = b := by
  have e1 := s_cd_dig ha
  have e2 := s_cd_dig hb
  rw [← e1, ← e2, dig_0 ha, dig_0 hb, h0, h1, h2]
theorem with_ly {lo k n : Nat} (hlo : lo < 1331000000000) (hn : n < 9000) : s_with lo k (nI n) / 121000000 = if k = 0 then n + 1000 else lo / 121000000 := by
  have na := e_n_na hn
  unfold s_with
  rw [s_cd_div (by split; exact na; exact s_no_na _ _) (by split; exact na; exact s_no_na _ _)]
  by_cases h : k = 0
  · rw [if_pos h, if_pos h, dg_nI hn]
  · rw [if_neg h, if_neg h, no_dg, dig_0 hlo]
theorem with_d1 {lo k n : Nat} (hn : n < 9000) : s_dig (s_with lo k (nI n)) 1 = if k = 1 then n + 1000 else s_dig lo 1 := by
  have na := e_n_na hn
  unfold s_with
  rw [cd_d1 (by split; exact na; exact s_no_na _ _) (by split; exact na; exact s_no_na _ _)]
  by_cases h : k = 1
  · rw [if_pos h, if_pos h, dg_nI hn]
  · rw [if_neg h, if_neg h, no_dg]
theorem with_lt {lo k n : Nat} (hn : n < 9000) : s_with lo k (nI n) < 1331000000000 := by
  have na := e_n_na hn
  unfold s_with
  exact s_cd_lt (by split; exact na; exact s_no_na _ _) (by split; exact na; exact s_no_na _ _) (by split; exact na; exact s_no_na _ _)
/-- the codes ahead of the layers, and behind them -/
def y_o (lo hi : Nat) : Prop := hi ≤ 120153000000 ∨ 121000000000 ≤ lo
def y_rec (W R : List Nat) (k j : Nat) : Prop := k < 100 ∧ j < 100 ∧ s_cd (-2) (nI j) (nI k) ∈ W ∧ s_cd (-3) (nI j) 10000 ∈ W ∧ sv_re (nI k) ∈ W ∧ k ∈ R
def y_E (W R : List Nat) (c : Nat) (o : Option Int32) : Prop := ∀ f, o = some f → (c / 121000000 = 999 → ∃ k j, y_rec W R k j ∧ c = sv_re (nI k) ∧ f = nI j) ∧ (c / 121000000 = 994 → f = 1000 ∨ f = -1000 ∨ ∃ j, j < 100 ∧ f = nI j) ∧ (c / 121000000 = 993 → ¬ f < 0)
def y_y (K : List k_K2) (W R : List Nat) (y : k_CH) : Prop := y.2.2.1 < 1331000000000 ∧ y.2.2.2.1 ≤ 1331000000000 ∧
  ((y.2.1 = 1 ∧ 1 < y.2.2.2.1 - y.2.2.1 ∧ y_o y.2.2.1 y.2.2.2.1) ∨
   (y.2.1 = 1 ∧ y.2.2.2.1 = y.2.2.1 + 1 ∧ z_nm y.2.2.1 K ∧ ¬ (993 ≤ y.2.2.1 / 121000000 ∧ y.2.2.1 / 121000000 ≤ 995)) ∨
   ((y.2.1 = 0 ∨ y.2.1 = 2 ∨ y.2.1 = 3 ∨ y.2.1 = 4 ∨ y.2.1 = 5) ∧ y.2.2.2.1 = y.2.2.1 + 1 ∧ z_nm y.2.2.1 K ∧ y.2.2.1 ∈ W ∧
      (y_o y.2.2.1 (y.2.2.1 + 1) ∨ (¬ y.2.1 = 5 ∧ (y.2.2.1 / 121000000 = 998 ∨ y.2.2.1 / 121000000 = 997)) ∨ (y.2.1 = 0 ∧ ∃ k j, y_rec W R k j ∧ y.2.2.1 = sv_re (nI k) ∧ y.2.2.2.2.1 = nI j))) ∨
   (y.2.1 = 6 ∧ y.2.2.2.1 = y.2.2.1 + 1 ∧ (y_o y.2.2.1 (y.2.2.1 + 1) ∨ y.2.2.1 = s_cd (-5) 0 10000 ∨ ∃ k, k < 100 ∧ y.2.2.1 = s_cd (-4) 0 (nI k))))
theorem yrec_mono {W R W' R' : List Nat} (hW : ∀ c ∈ W, c ∈ W') (hR : ∀ c ∈ R, c ∈ R') {k j : Nat} (h : y_rec W R k j) : y_rec W' R' k j := ⟨h.1, h.2.1, hW _ h.2.2.1, hW _ h.2.2.2.1, hW _ h.2.2.2.2.1, hR _ h.2.2.2.2.2⟩
theorem yE_mono {W R W' R' : List Nat} (hW : ∀ c ∈ W, c ∈ W') (hR : ∀ c ∈ R, c ∈ R') {c : Nat} {o : Option Int32} (h : y_E W R c o) : y_E W' R' c o := fun f hf =>
  ⟨fun e => by obtain ⟨k, j, h1, h2⟩ := (h f hf).1 e; exact ⟨k, j, yrec_mono hW hR h1, h2⟩, (h f hf).2⟩
theorem yy_mono {K K' : List k_K2} {W R W' R' : List Nat} (hK : ∀ c, z_nm c K → z_nm c K') (hW : ∀ c ∈ W, c ∈ W') (hR : ∀ c ∈ R, c ∈ R') {y : k_CH} (h : y_y K W R y) : y_y K' W' R' y := by
  obtain ⟨h1, h2, h⟩ := h
  refine ⟨h1, h2, ?_⟩
  rcases h with h | ⟨a, b, c, d⟩ | ⟨a, b, c, d, e⟩ | h
  · exact Or.inl h
  · exact Or.inr (Or.inl ⟨a, b, hK _ c, d⟩)
  · refine Or.inr (Or.inr (Or.inl ⟨a, b, hK _ c, hW _ d, ?_⟩))
    rcases e with e | e | ⟨e, k, j, g, g2⟩
    · exact Or.inl e
    · exact Or.inr (Or.inl e)
    · exact Or.inr (Or.inr ⟨e, k, j, yrec_mono hW hR g, g2⟩)
  · exact Or.inr (Or.inr (Or.inr h))
/-! .. a commit's puts -/
def cA (MC : List k_CH) (n c : Nat) (v : Int32) : Prop := ∃ y ∈ MC, ((y.2.1 = 0 ∨ y.2.1 = 2 ∨ y.2.1 = 3 ∨ y.2.1 = 4 ∨ y.2.1 = 5) ∧ y.2.2.2.1 = y.2.2.1 + 1 ∧ c = y.2.2.1 ∧ (y.2.1 = 0 → v = y.2.2.2.2.1)) ∨ (y.2.1 = 6 ∧ c = e_sc y n ∧ v = y.2.2.2.2.1)
def cB (MC : List k_CH) (c : Nat) : Prop := ∃ y ∈ MC, y.2.1 = 1 ∧ y.2.2.1 ≤ c ∧ c < y.2.2.2.1
def z_st (MC : List k_CH) (n : Nat) : List Nat := (MC.filter (fun y => decide (y.2.1 = 6))).map (fun y => e_sc y n)
theorem st_len (MC : List k_CH) (n : Nat) : (z_st MC n).length = z_sum z_s6 MC := by
  unfold z_st
  rw [List.length_map]
  induction MC with
  | nil => rfl
  | cons y MC ih =>
    rw [List.filter_cons, zs_cons, ← ih]
    unfold z_s6
    by_cases e : y.2.1 = 6
    · rw [if_pos (decide_eq_true e), if_pos e, List.length_cons]; omega
    · rw [if_neg (by rw [decide_eq_false e]; decide), if_neg e]; omega
section CF
variable {E : e_S} {W R : List Nat} {MC : List k_CH} {n : Nat}
theorem c_ok (h : ∀ y ∈ MC, y_y E.1 W R y) : ∀ y ∈ MC, z_ok n (cA MC n) (cB MC) E y := by
  intro y hy
  obtain ⟨h1, h2, h3⟩ := h y hy
  refine ⟨fun ho => ⟨fun hr => ?_, fun hr => ?_⟩, fun e6 => ⟨y, hy, Or.inr ⟨e6, rfl, rfl⟩⟩⟩
  · rcases h3 with ⟨a, b, c⟩ | ⟨a, b, c, d⟩ | ⟨a, b, c, d, e⟩ | ⟨a, b, c⟩
    · exact ⟨by omega, fun c g1 g2 => ⟨y, hy, a, g1, g2⟩⟩
    · omega
    · omega
    · omega
  · rcases h3 with ⟨a, b, c⟩ | ⟨a, b, c, d⟩ | ⟨a, b, c, d, e⟩ | ⟨a, b, c⟩
    · exact absurd b hr
    · exact ⟨fun _ => ⟨y, hy, a, Nat.le_refl _, by omega⟩, fun z => absurd a z, c⟩
    · exact ⟨fun z => by rw [z] at a; exact absurd a (by decide), fun _ v hv => ⟨y, hy, Or.inl ⟨a, b, rfl, hv⟩⟩, c⟩
    · rw [a] at ho; exact absurd ho (by decide)
theorem sc_at {y : k_CH} (hn : n < 8999) (h1 : y.2.2.1 < 1331000000000) (a : y.2.1 = 6) (c : y_o y.2.2.1 (y.2.2.1 + 1) ∨ y.2.2.1 = s_cd (-5) 0 10000 ∨ ∃ k, k < 100 ∧ y.2.2.1 = s_cd (-4) 0 (nI k)) :
    e_sc y (n + 1) < 1331000000000 ∧ y_K (e_sc y (n + 1)) ∧ ¬ e_sc y (n + 1) / 121000000 = 999 ∧ ¬ e_sc y (n + 1) / 121000000 = 994 ∧ ¬ e_sc y (n + 1) / 121000000 = 993 ∧ (e_sc y (n + 1) / 121000000 = 996 → s_dig (e_sc y (n + 1)) 1 = n + 1 + 1000) := by
  have hl := with_ly (lo := y.2.2.1) (k := s_stp (m_ck y) y.2.2.1) (n := n + 1) h1 (by omega)
  have hd := with_d1 (lo := y.2.2.1) (k := s_stp (m_ck y) y.2.2.1) (n := n + 1) (by omega)
  have ht := with_lt (lo := y.2.2.1) (k := s_stp (m_ck y) y.2.2.1) (n := n + 1) (by omega)
  unfold e_sc
  generalize hg : s_with y.2.2.1 (s_stp (m_ck y) y.2.2.1) (nI (n + 1)) = g at hl hd ht ⊢
  refine ⟨ht, ?_⟩
  rcases c with c | c | ⟨k, hk, c⟩
  · have o : y.2.2.1 / 121000000 < 993 ∨ 999 < y.2.2.1 / 121000000 := by
      rcases c with c | c
      · left; omega
      · right; omega
    unfold y_K
    by_cases e : s_stp (m_ck y) y.2.2.1 = 0
    · rw [if_pos e] at hl
      exact ⟨fun z => by omega, by omega, by omega, by omega, fun z => by omega⟩
    · rw [if_neg e] at hl
      exact ⟨fun z => by omega, by omega, by omega, by omega, fun z => by omega⟩
  · have e : s_stp (m_ck y) y.2.2.1 = 1 := by
      have h6 : m_ck y = 6 := by
        unfold m_ck
        rw [if_neg (fun z => by rw [a] at z; exact absurd z.1 (by decide)), if_neg (fun z => by rw [c] at z; exact absurd z.2 (by decide +kernel)), a]
      rw [h6, c]
      decide +kernel
    rw [e] at hg hl hd
    rw [c] at hg hl
    have hl2 : g / 121000000 = 995 := by rw [hl, if_neg (by decide)]; decide +kernel
    have na : s_na (nI (n + 1)) := e_n_na (by omega)
    have eg : g = s_cd (-5) (nI (n + 1)) 10000 := by
      rw [← hg]
      unfold s_with
      rw [if_neg (by decide), if_pos rfl, if_neg (by decide)]
      rw [s_no_0 na_m6.2.2.1 (Or.inr (s_nmB_iff.mp (by decide))) (Or.inl rfl), s_no_2 na_m6.2.2.1 (Or.inr (s_nmB_iff.mp (by decide))) (Or.inl rfl)]
    refine ⟨fun _ => ?_, by omega, by omega, by omega, fun z => by omega⟩
    rw [eg, s_no_1 na_m6.2.2.1 na (Or.inl rfl)]
  · have e : s_stp (m_ck y) y.2.2.1 = 1 := by
      have h6 : m_ck y = 8 := by
        unfold m_ck
        rw [if_neg (fun z => by rw [a] at z; exact absurd z.1 (by decide)), if_pos ⟨a, by rw [c, s_cd_div (Or.inr (s_nmB_iff.mp (by decide))) (na_100 (by omega))]; rfl⟩]
      rw [h6]
      rfl
    rw [e] at hg hl hd
    rw [if_neg (by decide), c, s_cd_div (Or.inr (s_nmB_iff.mp (by decide))) (na_100 (by omega))] at hl
    rw [if_pos rfl] at hd
    have hl2 : g / 121000000 = 996 := hl
    exact ⟨fun z => by omega, by omega, by omega, by omega, fun _ => hd⟩
theorem cA_at (hn : n < 8999) (h : ∀ y ∈ MC, y_y E.1 W R y) {c : Nat} {v : Int32} (a : cA MC (n + 1) c v) :
    c < 1331000000000 ∧ y_K c ∧ y_E W R c (some v) ∧ (c ∈ W ∨ c ∈ z_st MC (n + 1)) ∧ (c / 121000000 = 996 → s_dig c 1 = n + 1 + 1000) ∧ ¬ c / 121000000 = 994 := by
  obtain ⟨y, hy, a⟩ := a
  obtain ⟨h1, h2, h3⟩ := h y hy
  rcases a with ⟨a1, a2, rfl, a4⟩ | ⟨a1, rfl, rfl⟩
  · have h4 : y.2.2.1 ∈ W ∧ (y_o y.2.2.1 (y.2.2.1 + 1) ∨ (¬ y.2.1 = 5 ∧ (y.2.2.1 / 121000000 = 998 ∨ y.2.2.1 / 121000000 = 997)) ∨ (y.2.1 = 0 ∧ ∃ k j, y_rec W R k j ∧ y.2.2.1 = sv_re (nI k) ∧ y.2.2.2.2.1 = nI j)) := by
      rcases h3 with ⟨z, -⟩ | ⟨z, -⟩ | ⟨-, -, -, z1, z2⟩ | ⟨z, -⟩
      · rw [z] at a1; exact absurd a1 (by decide)
      · rw [z] at a1; exact absurd a1 (by decide)
      · exact ⟨z1, z2⟩
      · rw [z] at a1; exact absurd a1 (by decide)
    obtain ⟨h4, h5⟩ := h4
    rcases h5 with h5 | ⟨-, h5⟩ | ⟨h5, k, j, g1, g2, g3⟩
    · have o : y.2.2.1 / 121000000 < 993 ∨ 999 < y.2.2.1 / 121000000 := by
        rcases h5 with c | c
        · left; omega
        · right; omega
      exact ⟨h1, fun z => by omega, fun f _ => ⟨fun z => by omega, fun z => by omega, fun z => by omega⟩, Or.inl h4, fun z => by omega, by omega⟩
    · exact ⟨h1, fun z => by omega, fun f _ => ⟨fun z => by omega, fun z => by omega, fun z => by omega⟩, Or.inl h4, fun z => by omega, by omega⟩
    · have e : y.2.2.1 / 121000000 = 999 := by
        rw [g2]
        unfold sv_re
        rw [s_cd_div (na_100 (by have := g1.1; omega)) (Or.inl rfl)]
        rfl
      refine ⟨h1, fun z => by omega, fun f hf => ⟨fun _ => ⟨k, j, g1, g2, ?_⟩, fun z => by omega, fun z => by omega⟩, Or.inl h4, fun z => by omega, by omega⟩
      injection hf with hf
      rw [← hf, a4 h5, g3]
  · have h4 : y_o y.2.2.1 (y.2.2.1 + 1) ∨ y.2.2.1 = s_cd (-5) 0 10000 ∨ ∃ k, k < 100 ∧ y.2.2.1 = s_cd (-4) 0 (nI k) := by
      rcases h3 with ⟨z, -⟩ | ⟨z, -⟩ | ⟨z, -⟩ | ⟨-, -, z⟩
      · rw [z] at a1; exact absurd a1 (by decide)
      · rw [z] at a1; exact absurd a1 (by decide)
      · rw [a1] at z; exact absurd z (by decide)
      · exact z
    obtain ⟨g1, g2, g3, g4, g5, g6⟩ := sc_at hn h1 a1 h4
    refine ⟨g1, g2, fun f _ => ⟨fun z => absurd z g3, fun z => absurd z g4, fun z => absurd z g5⟩, Or.inr ?_, g6, g4⟩
    exact List.mem_map.mpr ⟨y, List.mem_filter.mpr ⟨hy, decide_eq_true a1⟩, rfl⟩
theorem cB_at (h : ∀ y ∈ MC, y_y E.1 W R y) {c : Nat} (b : cB MC c) : c < 1331000000000 ∧ ¬ c / 121000000 = 994 := by
  obtain ⟨y, hy, a, b1, b2⟩ := b
  obtain ⟨h1, h2, h3⟩ := h y hy
  rcases h3 with ⟨-, -, z⟩ | ⟨-, z1, -, z2⟩ | ⟨z, -⟩ | ⟨z, -⟩
  · rcases z with z | z
    · exact ⟨by omega, by omega⟩
    · exact ⟨by omega, by omega⟩
  · have : c = y.2.2.1 := by omega
    subst this
    exact ⟨h1, by omega⟩
  · rw [a] at z; exact absurd z (by decide)
  · rw [a] at z; exact absurd z (by decide)
theorem c_cd (hn : n < 8999) (h : ∀ y ∈ MC, y_y E.1 W R y) : z_cd (cA MC (n + 1)) (cB MC) := ⟨fun c v a => (cA_at hn h a).1, fun c b => (cB_at h b).1⟩
end CF
