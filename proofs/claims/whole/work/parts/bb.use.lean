/-! WHAT THE INVARIANT GIVES; ITS START -/
theorem I_g0 : i_I 0 g_0 0 0 := by
  refine ⟨[], [], [], [], [], 0, 0, 0, 0, 0, 0, 0, 0, 0, ⟨⟨i1_0, ?_, Nat.le_refl _⟩, ?_, fun t ht => ix_nil rfl rfl, ⟨Nat.le_refl _, Nat.le_refl _, fun _ => rfl⟩, ⟨Nat.le_refl _, Nat.le_refl _, Nat.le_refl _, Nat.le_refl _, Nat.le_refl _, Nat.le_refl _, Nat.le_refl _, Nat.le_refl _⟩, Nat.le_refl _, Nat.le_refl _, Nat.le_refl _⟩⟩
  · refine ⟨⟨⟨List.pairwise_singleton _ _, List.mem_singleton.mpr rfl, fun d hd h0 => ?_, ⟨fun _ => 0, fun d hd p hp => ?_⟩, fun d hd => ?_⟩, by decide, fun d hd => ?_, by decide⟩, by decide, by decide, by decide⟩
    · have : d = (0, none, 0, 0) := List.mem_singleton.mp hd
      rw [this] at h0; exact absurd rfl h0
    · have : d = (0, none, 0, 0) := List.mem_singleton.mp hd
      rw [this] at hp; cases hp
    · have : d = (0, none, 0, 0) := List.mem_singleton.mp hd
      rw [this]; exact ⟨Nat.zero_le _, Nat.zero_le _⟩
    · have : d = (0, none, 0, 0) := List.mem_singleton.mp hd
      rw [this]; exact Nat.zero_lt_one
  · refine ⟨⟨i2_0, List.Pairwise.nil, fun x hx => (by cases hx), fun x hx => (by cases hx)⟩, ⟨fun x hx => (by cases hx), fun x hx => (by cases hx), fun x hx => (by cases hx), fun x hx => (by cases hx), Nat.le_refl _⟩, ⟨fun c hc => (by cases hc), fun v hv => (by cases hv), ⟨fun v hv => (by cases hv), fun v hv => (by cases hv)⟩, fun k hk v hv => (by cases hv), fun v hv => (by cases hv)⟩, ⟨⟨List.pairwise_singleton _ _, fun p hp => ?_, fun p hp => ?_⟩, by decide, by decide, Nat.le_refl _⟩, ⟨Nat.le_refl _, Nat.le_refl _⟩, Or.inl ⟨rfl, Nat.le_refl _⟩⟩
    · have : ((0, 0) : p_T) = p := Option.some.inj hp
      rw [← this]
    · have : p = (0, 0) := List.mem_singleton.mp hp
      rw [this]; exact Nat.zero_lt_succ _
theorem I_use {i N w : Nat} {M : s_M} (I : i_I i M N w) (hi : i ≤ 512) :
    (e_lim (g_E M) ∧ g_nm M ∧ g_pk M ∧ g_p0 M ∧ g_wk M ∧ g_ws M) ∧ (g_n M ≤ 10 * i ∧ g_gen M ≤ i ∧ g_los M ≤ 2 ∧ g_ser M ≤ 1000 * i ∧ w ≤ 12 * i) ∧ (∀ t, t < 4 → ((g_X M t).1.2.2.1 ≤ g_n M ∧ (g_X M t).1.2.2.2.1 ≤ g_gen M ∧ (g_X M t).1.2.2.2.2 ≤ g_n M) ∧ (g_X M t).2.1.length ≤ 17 + i ∧ (g_X M t).2.2.length ≤ 4 * i) ∧
    ((∀ v ∈ g_MK M, v ≤ g_n M) ∧ (g_MK M).length ≤ 10 ∧ (g_WT M).length ≤ 20) ∧ i_D i M ∧ ((g_PT M).length ≤ 1409 ∧ ∀ p ∈ g_PT M, p.1 < 1331000000000) ∧ (g_E M).1.length ≤ 22 * i ∧ ∃ W R, (∀ x ∈ (g_E M).2.1, y_E W R x.2.1 x.2.2.2) ∧ (∀ x ∈ (g_E M).1, y_K x.1) ∧ i_K (g_E M) := by
  obtain ⟨W, S, R, V, Vs, a, s, b, p, C, D, X, Y, Np, I⟩ := I
  have l := A_lim I hi
  obtain ⟨⟨g1, g2, g3⟩, hS, gX, gC, gN, g4, g5, g6⟩ := I
  obtain ⟨a1, a2, a3, a4, a5, a6, a7⟩ := g1
  have hCi := gN.2.2.2.2.2.2.2
  refine ⟨⟨l.1, fun u hu y hy => ?_, ⟨hS.2.2.2.1.1.1, hS.2.2.2.1.2.1⟩, hS.2.2.2.1.1.2.1, i2_wk hS.1.1 (by omega), i2_ws hS.1.1⟩, ⟨a1, a2, a3, g3, g6⟩, fun t ht => ⟨a4 t ht, ?_, ?_⟩, ⟨a5, a6, a7⟩, g2, ⟨l.2.2.1, hS.2.2.2.1.1.2.2⟩, hS.2.2.2.2.1.1, W, R, hS.2.1.1, hS.2.1.2.1, hS.1.2⟩
  · rcases ((gX u hu).1 y hy).2.2 with g | g | g | g
    · exact Or.inl g.1
    · exact Or.inl g.1
    · exact Or.inr (Or.inr ⟨g.2.1, g.2.2.1⟩)
    · exact Or.inr (Or.inl g.1)
  · have := (gX t ht).2.2.1; omega
  · exact (gX t ht).2.1
theorem pC_dec : ∀ c : Fin 513, (512 - c.val) * c.val ≤ 65536 := by decide +kernel
theorem I_size {i N w : Nat} {M : s_M} (I : i_I i M N w) (hi : i ≤ 512) : (g_E M).1.length + (g_E M).2.1.length + (g_E M).2.2.length + N ≤ 563000 := by
  obtain ⟨W, S, R, V, Vs, a, s, b, p, C, D, X, Y, Np, I⟩ := I
  obtain ⟨⟨l1, l2, l3⟩, l4, l5, l6⟩ := A_lim I hi
  obtain ⟨⟨g1, g2, g3⟩, hS, gX, gC, gN, g4, g5, g6⟩ := I
  obtain ⟨n1, n2, n3, n4, n5, n6, n7, n8⟩ := gN
  obtain ⟨k1, k2⟩ := hS.2.2.2.2.1
  have hp : p ≤ 512 - C := by omega
  have := Nat.mul_le_mul_right C hp
  have h2 := pC_dec ⟨C, by omega⟩
  dsimp only at h2
  generalize p * C = u1 at *
  generalize (512 - C) * C = u2 at *
  omega
/-! .. and the room -/
theorem sum_le {f g : Nat → Nat} : ∀ l : List Nat, (∀ i ∈ l, f i ≤ g i) → (l.map f).sum ≤ (l.map g).sum := by
  intro l
  induction l with
  | nil => intro _; exact Nat.le_refl _
  | cons x l ih =>
    intro h
    rw [List.map_cons, List.map_cons, List.sum_cons, List.sum_cons]
    have := h x List.mem_cons_self
    have := ih (fun i hi => h i (List.mem_cons_of_mem _ hi))
    omega
theorem kg1_mono {a b : Nat} (h : a ≤ b) : kg1 a ≤ kg1 b := by
  unfold kg1
  split
  · split <;> omega
  · rw [if_neg (by omega)]
    omega
theorem bd_1 : ((List.range 31).map (fun i => kg1 (k_bd i))).sum ≤ 5000 := by decide +kernel
theorem bd_2 : ((List.range 31).map (fun i => kg2 (k_bd i))).sum ≤ 900000 := by decide +kernel
theorem sl_36 : m_sl 36 ≤ 1900000 := by decide +kernel
theorem W_room {a i N w : Nat} {h : k_H} {M : s_M} (W : c_W a (l_B a) h M N w) (I : i_I i M N w) (hi : i ≤ 512) : h.2.1 ≤ a + 601024 ∧ h.2.2 ≤ 7293033 := by
  have sz := I_size I hi
  obtain ⟨Q, S, PS, ⟨KS, L, WS, z, -, ⟨⟨-, -, r1⟩, ⟨-, r2⟩, r3, -⟩, ⟨-, r4⟩, rS⟩, -, -, c1, c2, c3⟩ := W
  have r5 : WS.length = (g_E M).2.2.length := by rw [← r3, List.length_map]
  have t1 : kT kg1 a h ≤ 5000 := Nat.le_trans (sum_le _ (fun j hj => kg1_mono (c3 j (List.mem_range.mp hj)))) bd_1
  have t2 : kT kg2 a h ≤ 900000 := Nat.le_trans (sum_le _ (fun j hj => Nat.mul_le_mul_left 5 (c3 j (List.mem_range.mp hj)))) bd_2
  have sl := sl_36
  have b1 : (l_B a).1 = a + 69 := rfl
  have b2 : (l_B a).2 = 13 + 141 + (53 + m_sl 36 + 1) := rfl
  rw [b1] at c1
  rw [b2] at c2
  omega
