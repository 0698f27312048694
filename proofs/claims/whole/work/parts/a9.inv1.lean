/-! THE INVARIANT, 1: counters, transactions' numbers, marks, watches -/
def i_1 (n g : Nat) (M : s_M) : Prop := g_n M ≤ n ∧ g_gen M ≤ g ∧ g_los M ≤ 2 ∧ (∀ t, t < 4 → (g_X M t).1.2.2.1 ≤ g_n M ∧ (g_X M t).1.2.2.2.1 ≤ g_gen M ∧ (g_X M t).1.2.2.2.2 ≤ g_n M) ∧ (∀ v ∈ g_MK M, v ≤ g_n M) ∧ (g_MK M).length ≤ 10 ∧ (g_WT M).length ≤ 20
theorem i1_mono {n g n' g' : Nat} {M : s_M} (I : i_1 n g M) (hn : n ≤ n') (hg : g ≤ g') : i_1 n' g' M := ⟨Nat.le_trans I.1 hn, Nat.le_trans I.2.1 hg, I.2.2⟩
theorem i1_tx {n g t : Nat} {M : s_M} {x : s_X} (I : i_1 n g M) (hx : x.1.2.2.1 ≤ g_n M ∧ x.1.2.2.2.1 ≤ g_gen M ∧ x.1.2.2.2.2 ≤ g_n M) : i_1 n g (g_tx M t x) := by
  refine ⟨I.1, I.2.1, I.2.2.1, fun u hu => ?_, I.2.2.2.2⟩
  show (if u = t then x else g_X M u).1.2.2.1 ≤ g_n M ∧ (if u = t then x else g_X M u).1.2.2.2.1 ≤ g_gen M ∧ (if u = t then x else g_X M u).1.2.2.2.2 ≤ g_n M
  by_cases e : u = t
  · rw [if_pos e]; exact hx
  · rw [if_neg e]; exact I.2.2.2.1 u hu
theorem i1_rd {n g : Nat} {M M' : s_M} (I : i_1 n g M) (z : z_rd M M') : i_1 n g M' := by
  rcases z with rfl | ⟨t, r, ht, -, rfl, -⟩
  · exact I
  · exact i1_tx I (I.2.2.2.1 t ht)
theorem i1_kp1 {n g t : Nat} {M : s_M} {y : k_CH} (I : i_1 n g M) (ht : t < 4) : i_1 n g (g_kp M t y) := by
  refine ⟨I.1, I.2.1, I.2.2.1, fun u hu => ?_, I.2.2.2.2⟩
  have e := I.2.2.2.1 u hu
  have e2 := I.2.2.2.1 t ht
  unfold g_kp
  dsimp only [g_X, g_n, g_gen]
  by_cases z : u = t
  · rw [if_pos z]; exact e2
  · rw [if_neg z]; exact e
theorem i1_kp {n g : Nat} {M M' : s_M} (I : i_1 n g M) (z : z_kp M M') : i_1 n g M' := by
  rcases z with rfl | ⟨t, y, ht, -, -, rfl, -⟩
  · exact I
  · exact i1_kp1 I ht
theorem i1_adv {n g k gen : Nat} {M : s_M} (I : i_1 n g M) (h1 : g_gen M ≤ gen) (h2 : gen ≤ g_gen M + 1) : i_1 (n + k) (g + 1) (g_adv M k gen) := by
  obtain ⟨a1, a2, a3, a4, a5, a6⟩ := I
  refine ⟨Nat.add_le_add_right a1 k, ?_, a3, fun u hu => ?_, fun v hv => ?_, a6⟩
  · show gen ≤ g + 1
    omega
  · obtain ⟨b1, b2, b3⟩ := a4 u hu
    exact ⟨Nat.le_trans b1 (Nat.le_add_right _ _), Nat.le_trans b2 h1, Nat.le_trans b3 (Nat.le_add_right _ _)⟩
  · exact Nat.le_trans (a5 v hv) (Nat.le_add_right _ _)
theorem i1_sl {n g los : Nat} {M : s_M} (I : i_1 n g M) (h : los ≤ 2) : i_1 n g (g_sl M los) := ⟨I.1, I.2.1, h, I.2.2.2⟩
theorem i1_sw {n g : Nat} {M : s_M} {w : Int32} (I : i_1 n g M) : i_1 n g (g_sw M w) := I
theorem i1_ds {n g : Nat} {M : s_M} {D : List s_D × Nat} (I : i_1 n g M) : i_1 n g (g_dset M D) := I
theorem i1_ov {n g t : Nat} {M : s_M} (I : i_1 n g M) (ht : t < 4) : i_1 n g (g_tx M t (g_ov (g_X M t))) := i1_tx I (I.2.2.2.1 t ht)
theorem i1_cm {n g : Nat} {M : s_M} {E : e_S} (I : i_1 n g M) : i_1 (n + 1) g (g_cm M E) := by
  obtain ⟨a1, a2, a3, a4, a5, a6, a7⟩ := I
  refine ⟨Nat.add_le_add_right a1 1, a2, a3, fun u hu => ?_, fun v hv => ?_, a6, ?_⟩
  · obtain ⟨b1, b2, b3⟩ := a4 u hu
    exact ⟨Nat.le_succ_of_le b1, b2, Nat.le_succ_of_le b3⟩
  · exact Nat.le_succ_of_le (a5 v hv)
  · show ((g_WT M).map _).length ≤ 20
    rw [List.length_map]
    exact a7
theorem i1_did {n g t : Nat} {M : s_M} (I : i_1 n g M) (ht : t < 4) : i_1 (n + 1) g (g_did M t) := by
  have I2 : i_1 (n + 1) g (g_cm (g_sl M 0) (e_all (g_n M + 1) (g_X M t).2.1 (g_E M))) := i1_cm (i1_sl I (by decide))
  obtain ⟨b1, b2, b3⟩ := I.2.2.2.1 t ht
  exact i1_tx I2 ⟨Nat.le_succ_of_le b1, b2, Nat.le_refl _⟩
theorem i1_ct {n g t : Nat} {M M' : s_M} (I : i_1 n g M) (ht : t < 4) (z : z_ct M M' t) : i_1 (n + 1) g M' := by
  rcases z with ⟨M1, h1, rfl⟩ | ⟨-, ⟨-, rfl⟩ | ⟨-, rfl⟩ | ⟨-, -, rfl⟩⟩
  · have I1 : i_1 n g M1 := by
      rcases h1 with rfl | ⟨w, rfl⟩
      · exact I
      · exact i1_sw I
    exact i1_mono (i1_ov I1 ht) (Nat.le_succ _) (Nat.le_refl _)
  · exact i1_mono (i1_sl I (by decide)) (Nat.le_succ _) (Nat.le_refl _)
  · exact i1_did I ht
  · exact i1_ov (i1_did I ht) ht
theorem i1_wts {n g : Nat} {M : s_M} {x : Nat × Int32} (I : i_1 n g M) (h : ¬ (g_WT M).length = 20) : i_1 n g (g_wts M (g_WT M ++ [x])) := by
  obtain ⟨a1, a2, a3, a4, a5, a6, a7⟩ := I
  refine ⟨a1, a2, a3, a4, a5, a6, ?_⟩
  show (g_WT M ++ [x]).length ≤ 20
  rw [List.length_append]
  show (g_WT M).length + 1 ≤ 20
  omega
theorem i1_mks {n g : Nat} {M : s_M} (I : i_1 n g M) (h : ¬ (g_MK M).length = 10) : i_1 n g (g_mks M (g_MK M ++ [g_n M])) := by
  obtain ⟨a1, a2, a3, a4, a5, a6, a7⟩ := I
  refine ⟨a1, a2, a3, a4, fun v hv => ?_, ?_, a7⟩
  · have hv' : v ∈ g_MK M ++ [g_n M] := hv
    rcases List.mem_append.mp hv' with z | z
    · exact a5 v z
    · have : v = g_n M := by simpa using z
      rw [this]
      exact Nat.le_refl _
  · show (g_MK M ++ [g_n M]).length ≤ 10
    rw [List.length_append]
    show (g_MK M).length + 1 ≤ 10
    omega
theorem i1_0 : i_1 0 0 g_0 := by
  refine ⟨Nat.le_refl _, Nat.le_refl _, by decide, fun t ht => ⟨Nat.le_refl _, Nat.le_refl _, Nat.le_refl _⟩, fun v hv => (by cases hv), by decide, by decide⟩
