theorem i3_rd {M M' : s_M} (I : i_3 M) (z : z_rd M M') : i_3 M' := by
  rcases z with rfl | ⟨t, r, ht, -, rfl, -⟩
  · exact I
  · exact i3_tx I (fun y hy => hy) ht
theorem i3_0x {M : s_M} {t : Nat} {x : s_X} (I : i_3 M) (hx : x.2.1 = []) (ht : t < 4) : i_3 (g_tx M t x) := i3_tx I (fun y hy => by rw [hx] at hy; cases hy) ht
theorem i3_did {M : s_M} {t : Nat} (I : i_3 M) (ht : t < 4) : i_3 (g_did M t) := by
  have I2 : i_3 (g_cm (g_sl M 0) (e_all (g_n M + 1) (g_X M t).2.1 (g_E M))) := i3_cm (M := g_sl M 0) I (zE_all (fun x hx => (I t ht x hx).1))
  exact i3_tx I2 (fun y hy => hy) ht
theorem i3_ct {M M' : s_M} {t : Nat} (I : i_3 M) (ht : t < 4) (z : z_ct M M' t) : i_3 M' := by
  rcases z with ⟨M1, h1, rfl⟩ | ⟨-, ⟨-, rfl⟩ | ⟨-, rfl⟩ | ⟨-, -, rfl⟩⟩
  · have I1 : i_3 M1 := by
      rcases h1 with rfl | ⟨w, rfl⟩
      · exact I
      · exact I
    exact i3_0x I1 rfl ht
  · exact I
  · exact i3_did I ht
  · exact i3_0x (i3_did I ht) rfl ht
theorem i3_0 : i_3 g_0 := fun t ht y hy => by cases hy
/-- the store of a state, version by version -/
def i_2M (M : s_M) : Prop := i_2 (g_n M) (g_E M)
theorem i2_cm {M : s_M} {E : e_S} (I : i_2M M) (z : z_E (g_n M + 1) (g_E M) E) : i_2M (g_cm M E) := zE_i2 z (i2_mono I (Nat.le_succ _))
theorem i2_did {M : s_M} {t : Nat} (I : i_2M M) (I3 : i_3 M) (ht : t < 4) : i_2M (g_did M t) := i2_cm (M := g_sl M 0) I (zE_all (fun x hx => (I3 t ht x hx).1))
theorem i2_ct {M M' : s_M} {t : Nat} (I : i_2M M) (I3 : i_3 M) (ht : t < 4) (z : z_ct M M' t) : i_2M M' := by
  rcases z with ⟨M1, h1, rfl⟩ | ⟨-, ⟨-, rfl⟩ | ⟨-, rfl⟩ | ⟨-, -, rfl⟩⟩
  · rcases h1 with rfl | ⟨w, rfl⟩
    · exact I
    · exact I
  · exact I
  · exact i2_did I I3 ht
  · exact i2_did I I3 ht
theorem i2_kp1 {M : s_M} {t : Nat} {y : k_CH} (I : i_2M M) : i_2M (g_kp M t y) := I
theorem i2_adv {M : s_M} {k g : Nat} (I : i_2M M) : i_2M (g_adv M k g) := i2_mono I (Nat.le_add_right _ _)
theorem i2_wk {M : s_M} (I : i_2M M) (h : g_n M < 2 ^ 20) : g_wk M := ⟨I.1, fun w hw => ⟨(I.2.2.1 w hw).1, (I.2.2.1 w hw).2.1, Nat.lt_of_le_of_lt (I.2.2.1 w hw).2.2 h⟩⟩
theorem i2_ws {M : s_M} (I : i_2M M) : g_ws M := I.2.2.2
theorem i2_0 : i_2M g_0 := ⟨List.Pairwise.nil, fun x hx => (by cases hx), fun w hw => (by cases hw), List.Pairwise.nil⟩
