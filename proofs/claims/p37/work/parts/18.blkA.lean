section BA
variable {G : k_G} {l : Launch}

theorem eX0_init {G : k_G} {l : Launch} (hfl : l.flags = flags0) {h : k_H} {Q : k_H → k_R → Prop} {x0 : Nat} (K : k_X (jX0_init G l h) h 0 [(0, vR (some x0))] [] Q) : k_ct (tX0_init G l) [vR (some x0)] h Q := by
  obtain ⟨h', r, K, q⟩ := K
  exact ⟨h', r, k_CtOf (by decide +kernel) (Nat.le_of_ble_eq_true rfl) K hfl, q⟩

theorem bX0_init_0 {h0 h : k_H} {Q : k_H → k_R → Prop} {x0 : Nat} {fs1 : List k_V} (o1 : h.1 x0 = some (k_o 3 fs1)) (z1 : fs1.length = 3) (K : k_X (jX0_init G l h0) (k_up h x0 (k_o 3 (fs1.set 0 (vI 0)))) 9 [(0, vR (some x0))] [] Q) : k_X (jX0_init G l h0) h 0 [(0, vR (some x0))] [] Q := by
  obtain ⟨h', r, K, q⟩ := K
  exact ⟨h', r, j_aload_n dX0_init_0 rfl rfl <| j_objInit dX0_init_1 ko_X0_3 ko_inst ko_code (by decide) (Nat.le_of_ble_eq_true rfl) <| j_aload_n dX0_init_4 rfl rfl <| j_iconst (v := 0) dX0_init_5 (by decide) <| j_putf dX0_init_6 kp_X0_9 o1 (k_ln z1 (by decide)) (k_fit_z (by decide)) rfl <| K, q⟩
theorem bX0_init_9 {h0 h : k_H} {Q : k_H → k_R → Prop} {x0 : Nat} {fs1 : List k_V} (o1 : h.1 x0 = some (k_o 3 fs1)) (z1 : fs1.length = 3) (K : k_X (jX0_init G l h0) (k_up h x0 (k_o 3 (fs1.set 1 (vI 0)))) 14 [(0, vR (some x0))] [] Q) : k_X (jX0_init G l h0) h 9 [(0, vR (some x0))] [] Q := by
  obtain ⟨h', r, K, q⟩ := K
  exact ⟨h', r, j_aload_n dX0_init_9 rfl rfl <| j_iconst (v := 0) dX0_init_10 (by decide) <| j_putf dX0_init_11 kp_X0_15 o1 (k_ln z1 (by decide)) (k_fit_z (by decide)) rfl <| K, q⟩
theorem bX0_init_14 {h0 h : k_H} {Q : k_H → k_R → Prop} {x0 : Nat} {fs1 : List k_V} (o1 : h.1 x0 = some (k_o 3 fs1)) (z1 : fs1.length = 3) (K : k_X (jX0_init G l h0) (k_up h x0 (k_o 3 (fs1.set 2 (vI 0)))) 19 [] [] Q) : k_X (jX0_init G l h0) h 14 [(0, vR (some x0))] [] Q := by
  obtain ⟨h', r, K, q⟩ := K
  exact ⟨h', r, j_aload_n dX0_init_14 rfl rfl <| j_iconst (v := 0) dX0_init_15 (by decide) <| j_putf dX0_init_16 kp_X0_18 o1 (k_ln z1 (by decide)) (k_fit_i _) rfl <| (j_pick [] rfl K), q⟩
theorem bX0_init_19 {h0 h : k_H} {Q : k_H → k_R → Prop} (q : Q h (.inl none)) : k_X (jX0_init G l h0) h 19 [] [] Q := by
  exact ⟨_, _, j_vret dX0_init_19 rfl, q⟩
theorem eX0_load {G : k_G} {l : Launch} (hfl : l.flags = flags0) {h : k_H} {Q : k_H → k_R → Prop} {x0 : Nat} {x1 : Option Nat} (K : k_X (jX0_load G l h) h 0 [(0, vR (some x0)), (1, vR x1)] [] Q) : k_ct (tX0_load G l) [vR (some x0), vR x1] h Q := by
  obtain ⟨h', r, K, q⟩ := K
  exact ⟨h', r, k_CtOf (by decide +kernel) (Nat.le_of_ble_eq_true rfl) K hfl, q⟩

theorem bX0_load_0 {h0 h : k_H} {Q : k_H → k_R → Prop} {x0 : Nat} {x1 : Option Nat} (K1 : x1 = none → k_X (jX0_load G l h0) h 16 [(0, vR (some x0)), (1, vR x1)] [vR (some x0)] Q) (K2 : ∀ a, x1 = some a → k_X (jX0_load G l h0) h 5 [(0, vR (some x0)), (1, vR x1)] [vR (some x0)] Q) : k_X (jX0_load G l h0) h 0 [(0, vR (some x0)), (1, vR x1)] [] Q := by
  rcases e9 : x1 with _ | a
  · obtain ⟨h', r, K, q⟩ := K1 e9
    subst e9
    exact ⟨h', r, j_aload_n dX0_load_0 rfl rfl <| j_aload_n dX0_load_1 rfl rfl <| j_ifnull_t (tgt := 16) dX0_load_2 (by decide) K, q⟩
  · obtain ⟨h', r, K, q⟩ := K2 a e9
    subst e9
    exact ⟨h', r, j_aload_n dX0_load_0 rfl rfl <| j_aload_n dX0_load_1 rfl rfl <| j_ifnull_f dX0_load_2 K, q⟩
theorem bX0_load_5 {h0 h : k_H} {Q : k_H → k_R → Prop} {x0 x1 : Nat} {s0 : Option Nat} {f1_4 : Int32} {fs1 : List k_V} (o1 : h.1 x1 = some (k_o 6 fs1)) (g1_4 : fs1[4]? = some (vI f1_4)) (K1 : f1_4 = 0 → k_X (jX0_load G l h0) h 16 [(0, vR (some x0)), (1, vR (some x1))] [vR s0] Q) (K2 : ¬ (f1_4 = 0) → k_X (jX0_load G l h0) h 12 [(0, vR (some x0)), (1, vR (some x1))] [vR s0] Q) : k_X (jX0_load G l h0) h 5 [(0, vR (some x0)), (1, vR (some x1))] [vR s0] Q := by
  by_cases hc : f1_4 = 0
  · skip
    obtain ⟨h', r, K, q⟩ := K1 hc
    exact ⟨h', r, j_aload_n dX0_load_5 rfl rfl <| j_getf dX0_load_6 kf_X0_22 o1 g1_4 <| j_if_eq_t (tgt := 16) dX0_load_9 (by decide) hc K, q⟩
  · skip
    obtain ⟨h', r, K, q⟩ := K2 hc
    exact ⟨h', r, j_aload_n dX0_load_5 rfl rfl <| j_getf dX0_load_6 kf_X0_22 o1 g1_4 <| j_if_eq_f dX0_load_9 16 (by decide) hc K, q⟩
theorem bX0_load_12 {h0 h : k_H} {Q : k_H → k_R → Prop} {x0 : Nat} {x1 s0 : Option Nat} (K : k_X (jX0_load G l h0) h 17 [(0, vR (some x0)), (1, vR x1)] [vI 1, vR s0] Q) : k_X (jX0_load G l h0) h 12 [(0, vR (some x0)), (1, vR x1)] [vR s0] Q := by
  obtain ⟨h', r, K, q⟩ := K
  exact ⟨h', r, j_iconst (v := 1) dX0_load_12 (by decide) <| j_goto (tgt := 17) dX0_load_13 (by decide) <| K, q⟩
theorem bX0_load_16 {h0 h : k_H} {Q : k_H → k_R → Prop} {x0 : Nat} {x1 s0 : Option Nat} (K : k_X (jX0_load G l h0) h 17 [(0, vR (some x0)), (1, vR x1)] [vI 0, vR s0] Q) : k_X (jX0_load G l h0) h 16 [(0, vR (some x0)), (1, vR x1)] [vR s0] Q := by
  obtain ⟨h', r, K, q⟩ := K
  exact ⟨h', r, j_iconst (v := 0) dX0_load_16 (by decide) <| K, q⟩
theorem bX0_load_17 {h0 h : k_H} {Q : k_H → k_R → Prop} {x0 s0 : Nat} {x1 : Option Nat} {s1 : Int32} {fs1 : List k_V} (o1 : h.1 s0 = some (k_o 3 fs1)) (y2 : k_bl s1) (z1 : fs1.length = 3) (K : k_X (jX0_load G l h0) (k_up h s0 (k_o 3 (fs1.set 0 (vI s1)))) 20 [(0, vR (some x0)), (1, vR x1)] [] Q) : k_X (jX0_load G l h0) h 17 [(0, vR (some x0)), (1, vR x1)] [vI s1, vR (some s0)] Q := by
  obtain ⟨h', r, K, q⟩ := K
  exact ⟨h', r, j_putf dX0_load_17 kp_X0_9 o1 (k_ln z1 (by decide)) (k_fit_z y2) rfl <| K, q⟩
theorem bX0_load_20 {h0 h : k_H} {Q : k_H → k_R → Prop} {x0 : Nat} {x1 : Option Nat} (K1 : x1 = none → k_X (jX0_load G l h0) h 39 [(0, vR (some x0))] [vR (some x0)] Q) (K2 : ∀ a, x1 = some a → k_X (jX0_load G l h0) h 25 [(0, vR (some x0)), (1, vR x1)] [vR (some x0)] Q) : k_X (jX0_load G l h0) h 20 [(0, vR (some x0)), (1, vR x1)] [] Q := by
  rcases e9 : x1 with _ | a
  · obtain ⟨h', r, K, q⟩ := K1 e9
    subst e9
    exact ⟨h', r, j_aload_n dX0_load_20 rfl rfl <| j_aload_n dX0_load_21 rfl rfl <| j_ifnull_t (tgt := 39) dX0_load_22 (by decide) (j_pick [0] rfl K), q⟩
  · obtain ⟨h', r, K, q⟩ := K2 a e9
    subst e9
    exact ⟨h', r, j_aload_n dX0_load_20 rfl rfl <| j_aload_n dX0_load_21 rfl rfl <| j_ifnull_f dX0_load_22 K, q⟩
theorem bX0_load_25 {h0 h : k_H} {Q : k_H → k_R → Prop} {x0 x1 : Nat} {s0 : Option Nat} {f1_4 : Int32} {fs1 : List k_V} (o1 : h.1 x1 = some (k_o 6 fs1)) (g1_4 : fs1[4]? = some (vI f1_4)) (K1 : f1_4 = 0 → k_X (jX0_load G l h0) h 39 [(0, vR (some x0))] [vR s0] Q) (K2 : ¬ (f1_4 = 0) → k_X (jX0_load G l h0) h 32 [(0, vR (some x0)), (1, vR (some x1))] [vR s0] Q) : k_X (jX0_load G l h0) h 25 [(0, vR (some x0)), (1, vR (some x1))] [vR s0] Q := by
  by_cases hc : f1_4 = 0
  · skip
    obtain ⟨h', r, K, q⟩ := K1 hc
    exact ⟨h', r, j_aload_n dX0_load_25 rfl rfl <| j_getf dX0_load_26 kf_X0_22 o1 g1_4 <| j_if_eq_t (tgt := 39) dX0_load_29 (by decide) hc (j_pick [0] rfl K), q⟩
  · skip
    obtain ⟨h', r, K, q⟩ := K2 hc
    exact ⟨h', r, j_aload_n dX0_load_25 rfl rfl <| j_getf dX0_load_26 kf_X0_22 o1 g1_4 <| j_if_eq_f dX0_load_29 39 (by decide) hc K, q⟩
theorem bX0_load_32 {h0 h : k_H} {Q : k_H → k_R → Prop} {x0 x1 : Nat} {s0 : Option Nat} {f1_5 : Int32} {fs1 : List k_V} (o1 : h.1 x1 = some (k_o 6 fs1)) (g1_5 : fs1[5]? = some (vI f1_5)) (K : k_X (jX0_load G l h0) h 40 [(0, vR (some x0))] [vI f1_5, vR s0] Q) : k_X (jX0_load G l h0) h 32 [(0, vR (some x0)), (1, vR (some x1))] [vR s0] Q := by
  obtain ⟨h', r, K, q⟩ := K
  exact ⟨h', r, j_aload_n dX0_load_32 rfl rfl <| j_getf dX0_load_33 kf_X0_25 o1 g1_5 <| j_goto (tgt := 40) dX0_load_36 (by decide) <| (j_pick [0] rfl K), q⟩
theorem bX0_load_39 {h0 h : k_H} {Q : k_H → k_R → Prop} {x0 : Nat} {s0 : Option Nat} (K : k_X (jX0_load G l h0) h 40 [(0, vR (some x0))] [vI 0, vR s0] Q) : k_X (jX0_load G l h0) h 39 [(0, vR (some x0))] [vR s0] Q := by
  obtain ⟨h', r, K, q⟩ := K
  exact ⟨h', r, j_iconst (v := 0) dX0_load_39 (by decide) <| K, q⟩
theorem bX0_load_40 {h0 h : k_H} {Q : k_H → k_R → Prop} {x0 s0 : Nat} {s1 : Int32} {fs1 : List k_V} (o1 : h.1 s0 = some (k_o 3 fs1)) (z1 : fs1.length = 3) (K : k_X (jX0_load G l h0) (k_up h s0 (k_o 3 (fs1.set 2 (vI s1)))) 43 [(0, vR (some x0))] [] Q) : k_X (jX0_load G l h0) h 40 [(0, vR (some x0))] [vI s1, vR (some s0)] Q := by
  obtain ⟨h', r, K, q⟩ := K
  exact ⟨h', r, j_putf dX0_load_40 kp_X0_18 o1 (k_ln z1 (by decide)) (k_fit_i _) rfl <| K, q⟩
theorem bX0_load_43 {h0 h : k_H} {Q : k_H → k_R → Prop} {x0 : Nat} {fs1 : List k_V} (o1 : h.1 x0 = some (k_o 3 fs1)) (z1 : fs1.length = 3) (K : k_X (jX0_load G l h0) (k_up h x0 (k_o 3 (fs1.set 1 (vI 0)))) 48 [] [] Q) : k_X (jX0_load G l h0) h 43 [(0, vR (some x0))] [] Q := by
  obtain ⟨h', r, K, q⟩ := K
  exact ⟨h', r, j_aload_n dX0_load_43 rfl rfl <| j_iconst (v := 0) dX0_load_44 (by decide) <| j_putf dX0_load_45 kp_X0_15 o1 (k_ln z1 (by decide)) (k_fit_z (by decide)) rfl <| (j_pick [] rfl K), q⟩
theorem bX0_load_48 {h0 h : k_H} {Q : k_H → k_R → Prop} (q : Q h (.inl none)) : k_X (jX0_load G l h0) h 48 [] [] Q := by
  exact ⟨_, _, j_vret dX0_load_48 rfl, q⟩
theorem eX0_apply {G : k_G} {l : Launch} (hfl : l.flags = flags0) {h : k_H} {Q : k_H → k_R → Prop} {x0 : Nat} {x1 : Int32} {x2 : Int32} {x3 : Int32} (K : k_X (jX0_apply G l h) h 0 [(0, vR (some x0)), (1, vI x1), (2, vI x2), (3, vI x3)] [] Q) : k_ct (tX0_apply G l) [vR (some x0), vI x1, vI x2, vI x3] h Q := by
  obtain ⟨h', r, K, q⟩ := K
  exact ⟨h', r, k_CtOf (by decide +kernel) (Nat.le_of_ble_eq_true rfl) K hfl, q⟩

theorem bX0_apply_0 {h0 h : k_H} {Q : k_H → k_R → Prop} {x0 : Nat} {x1 x2 x3 : Int32} (K1 : x1 = 1 → k_X (jX0_apply G l h0) h 36 [(0, vR (some x0)), (1, vI x1)] [] Q) (K2 : x1 = 2 → k_X (jX0_apply G l h0) h 44 [(0, vR (some x0)), (1, vI x1), (2, vI x2)] [] Q) (K3 : x1 = 3 → k_X (jX0_apply G l h0) h 68 [(0, vR (some x0)), (1, vI x1), (2, vI x2)] [] Q) (K4 : x1 = 4 → k_X (jX0_apply G l h0) h 94 [(0, vR (some x0)), (1, vI x1), (2, vI x2)] [] Q) (K5 : x1 = 5 → k_X (jX0_apply G l h0) h 120 [(0, vR (some x0)), (1, vI x1), (3, vI x3)] [] Q) (KD : (x1.toInt < 1 ∨ 5 < x1.toInt) → k_X (jX0_apply G l h0) h 128 [(0, vR (some x0)), (1, vI x1), (2, vI x2)] [] Q) : k_X (jX0_apply G l h0) h 0 [(0, vR (some x0)), (1, vI x1), (2, vI x2), (3, vI x3)] [] Q := by
  by_cases hc0 : x1 = 1
  · obtain ⟨h', r, K, q⟩ := K1 hc0
    exact ⟨h', r, j_iload_n dX0_apply_0 rfl rfl <| j_tableIn (off := 35) (tgt := 36) dX0_apply_1 (by rw [hc0]; decide) (by rw [hc0]; decide) (by rw [hc0]; rfl) (by decide) (j_pick [0, 1] rfl K), q⟩
  by_cases hc1 : x1 = 2
  · obtain ⟨h', r, K, q⟩ := K2 hc1
    exact ⟨h', r, j_iload_n dX0_apply_0 rfl rfl <| j_tableIn (off := 43) (tgt := 44) dX0_apply_1 (by rw [hc1]; decide) (by rw [hc1]; decide) (by rw [hc1]; rfl) (by decide) (j_pick [0, 1, 2] rfl K), q⟩
  by_cases hc2 : x1 = 3
  · obtain ⟨h', r, K, q⟩ := K3 hc2
    exact ⟨h', r, j_iload_n dX0_apply_0 rfl rfl <| j_tableIn (off := 67) (tgt := 68) dX0_apply_1 (by rw [hc2]; decide) (by rw [hc2]; decide) (by rw [hc2]; rfl) (by decide) (j_pick [0, 1, 2] rfl K), q⟩
  by_cases hc3 : x1 = 4
  · obtain ⟨h', r, K, q⟩ := K4 hc3
    exact ⟨h', r, j_iload_n dX0_apply_0 rfl rfl <| j_tableIn (off := 93) (tgt := 94) dX0_apply_1 (by rw [hc3]; decide) (by rw [hc3]; decide) (by rw [hc3]; rfl) (by decide) (j_pick [0, 1, 2] rfl K), q⟩
  by_cases hc4 : x1 = 5
  · obtain ⟨h', r, K, q⟩ := K5 hc4
    exact ⟨h', r, j_iload_n dX0_apply_0 rfl rfl <| j_tableIn (off := 119) (tgt := 120) dX0_apply_1 (by rw [hc4]; decide) (by rw [hc4]; decide) (by rw [hc4]; rfl) (by decide) (j_pick [0, 1, 3] rfl K), q⟩
  have hD : x1.toInt < 1 ∨ 5 < x1.toInt := by
    refine Classical.byContradiction fun hn => ?_
    have e0 : x1.toInt ≠ 1 := fun e => hc0 (Int32.toInt_inj.mp (e.trans (by decide)))
    have e1 : x1.toInt ≠ 2 := fun e => hc1 (Int32.toInt_inj.mp (e.trans (by decide)))
    have e2 : x1.toInt ≠ 3 := fun e => hc2 (Int32.toInt_inj.mp (e.trans (by decide)))
    have e3 : x1.toInt ≠ 4 := fun e => hc3 (Int32.toInt_inj.mp (e.trans (by decide)))
    have e4 : x1.toInt ≠ 5 := fun e => hc4 (Int32.toInt_inj.mp (e.trans (by decide)))
    omega
  obtain ⟨h', r, K, q⟩ := KD hD
  exact ⟨h', r, j_iload_n dX0_apply_0 rfl rfl <| j_tableOut (tgt := 128) dX0_apply_1 hD (by decide) (j_pick [0, 1, 2] rfl K), q⟩
theorem bX0_apply_36 {h0 h : k_H} {Q : k_H → k_R → Prop} {x0 : Nat} {x1 : Int32} {fs1 : List k_V} (o1 : h.1 x0 = some (k_o 3 fs1)) (z1 : fs1.length = 3) (K : k_X (jX0_apply G l h0) (k_up h x0 (k_o 3 (fs1.set 2 (vI 0)))) 41 [(0, vR (some x0)), (1, vI x1)] [] Q) : k_X (jX0_apply G l h0) h 36 [(0, vR (some x0)), (1, vI x1)] [] Q := by
  obtain ⟨h', r, K, q⟩ := K
  exact ⟨h', r, j_aload_n dX0_apply_36 rfl rfl <| j_iconst (v := 0) dX0_apply_37 (by decide) <| j_putf dX0_apply_38 kp_X0_18 o1 (k_ln z1 (by decide)) (k_fit_i _) rfl <| K, q⟩
theorem bX0_apply_41 {h0 h : k_H} {Q : k_H → k_R → Prop} {x0 : Nat} {x1 : Int32} (K : k_X (jX0_apply G l h0) h 133 [(0, vR (some x0)), (1, vI x1)] [] Q) : k_X (jX0_apply G l h0) h 41 [(0, vR (some x0)), (1, vI x1)] [] Q := by
  obtain ⟨h', r, K, q⟩ := K
  exact ⟨h', r, j_goto (tgt := 133) dX0_apply_41 (by decide) <| K, q⟩
theorem bX0_apply_44 {h0 h : k_H} {Q : k_H → k_R → Prop} {x0 : Nat} {x1 x2 f1_0 : Int32} {fs1 : List k_V} (o1 : h.1 x0 = some (k_o 3 fs1)) (g1_0 : fs1[0]? = some (vI f1_0)) (K1 : f1_0 = 0 → k_X (jX0_apply G l h0) h 61 [(0, vR (some x0)), (1, vI x1), (2, vI x2)] [vR (some x0)] Q) (K2 : ¬ (f1_0 = 0) → k_X (jX0_apply G l h0) h 52 [(0, vR (some x0)), (1, vI x1), (2, vI x2)] [vR (some x0)] Q) : k_X (jX0_apply G l h0) h 44 [(0, vR (some x0)), (1, vI x1), (2, vI x2)] [] Q := by
  by_cases hc : f1_0 = 0
  · skip
    obtain ⟨h', r, K, q⟩ := K1 hc
    exact ⟨h', r, j_aload_n dX0_apply_44 rfl rfl <| j_aload_n dX0_apply_45 rfl rfl <| j_getf dX0_apply_46 kf_X0_9 o1 g1_0 <| j_if_eq_t (tgt := 61) dX0_apply_49 (by decide) hc K, q⟩
  · skip
    obtain ⟨h', r, K, q⟩ := K2 hc
    exact ⟨h', r, j_aload_n dX0_apply_44 rfl rfl <| j_aload_n dX0_apply_45 rfl rfl <| j_getf dX0_apply_46 kf_X0_9 o1 g1_0 <| j_if_eq_f dX0_apply_49 61 (by decide) hc K, q⟩
theorem bX0_apply_52 {h0 h : k_H} {Q : k_H → k_R → Prop} {x0 : Nat} {x1 x2 f1_2 : Int32} {s0 : Option Nat} {fs1 : List k_V} (o1 : h.1 x0 = some (k_o 3 fs1)) (g1_2 : fs1[2]? = some (vI f1_2)) (K : k_X (jX0_apply G l h0) h 62 [(0, vR (some x0)), (1, vI x1)] [vI (f1_2 + x2), vR s0] Q) : k_X (jX0_apply G l h0) h 52 [(0, vR (some x0)), (1, vI x1), (2, vI x2)] [vR s0] Q := by
  obtain ⟨h', r, K, q⟩ := K
  exact ⟨h', r, j_aload_n dX0_apply_52 rfl rfl <| j_getf dX0_apply_53 kf_X0_18 o1 g1_2 <| j_iload_n dX0_apply_56 rfl rfl <| j_iadd dX0_apply_57 <| j_goto (tgt := 62) dX0_apply_58 (by decide) <| (j_pick [0, 1] rfl K), q⟩
theorem bX0_apply_61 {h0 h : k_H} {Q : k_H → k_R → Prop} {x0 : Nat} {x1 x2 : Int32} {s0 : Option Nat} (K : k_X (jX0_apply G l h0) h 62 [(0, vR (some x0)), (1, vI x1)] [vI x2, vR s0] Q) : k_X (jX0_apply G l h0) h 61 [(0, vR (some x0)), (1, vI x1), (2, vI x2)] [vR s0] Q := by
  obtain ⟨h', r, K, q⟩ := K
  exact ⟨h', r, j_iload_n dX0_apply_61 rfl rfl <| (j_pick [0, 1] rfl K), q⟩
theorem bX0_apply_62 {h0 h : k_H} {Q : k_H → k_R → Prop} {x0 s0 : Nat} {x1 s1 : Int32} {fs1 : List k_V} (o1 : h.1 s0 = some (k_o 3 fs1)) (z1 : fs1.length = 3) (K : k_X (jX0_apply G l h0) (k_up h s0 (k_o 3 (fs1.set 2 (vI s1)))) 65 [(0, vR (some x0)), (1, vI x1)] [] Q) : k_X (jX0_apply G l h0) h 62 [(0, vR (some x0)), (1, vI x1)] [vI s1, vR (some s0)] Q := by
  obtain ⟨h', r, K, q⟩ := K
  exact ⟨h', r, j_putf dX0_apply_62 kp_X0_18 o1 (k_ln z1 (by decide)) (k_fit_i _) rfl <| K, q⟩
theorem bX0_apply_65 {h0 h : k_H} {Q : k_H → k_R → Prop} {x0 : Nat} {x1 : Int32} (K : k_X (jX0_apply G l h0) h 133 [(0, vR (some x0)), (1, vI x1)] [] Q) : k_X (jX0_apply G l h0) h 65 [(0, vR (some x0)), (1, vI x1)] [] Q := by
  obtain ⟨h', r, K, q⟩ := K
  exact ⟨h', r, j_goto (tgt := 133) dX0_apply_65 (by decide) <| K, q⟩
theorem bX0_apply_68 {h0 h : k_H} {Q : k_H → k_R → Prop} {x0 : Nat} {x1 x2 f1_0 : Int32} {fs1 : List k_V} (o1 : h.1 x0 = some (k_o 3 fs1)) (g1_0 : fs1[0]? = some (vI f1_0)) (K1 : f1_0 = 0 → k_X (jX0_apply G l h0) h 87 [(0, vR (some x0)), (1, vI x1), (2, vI x2)] [vR (some x0)] Q) (K2 : ¬ (f1_0 = 0) → k_X (jX0_apply G l h0) h 76 [(0, vR (some x0)), (1, vI x1), (2, vI x2)] [vR (some x0)] Q) : k_X (jX0_apply G l h0) h 68 [(0, vR (some x0)), (1, vI x1), (2, vI x2)] [] Q := by
  by_cases hc : f1_0 = 0
  · skip
    obtain ⟨h', r, K, q⟩ := K1 hc
    exact ⟨h', r, j_aload_n dX0_apply_68 rfl rfl <| j_aload_n dX0_apply_69 rfl rfl <| j_getf dX0_apply_70 kf_X0_9 o1 g1_0 <| j_if_eq_t (tgt := 87) dX0_apply_73 (by decide) hc K, q⟩
  · skip
    obtain ⟨h', r, K, q⟩ := K2 hc
    exact ⟨h', r, j_aload_n dX0_apply_68 rfl rfl <| j_aload_n dX0_apply_69 rfl rfl <| j_getf dX0_apply_70 kf_X0_9 o1 g1_0 <| j_if_eq_f dX0_apply_73 87 (by decide) hc K, q⟩
theorem bX0_apply_76 {h0 h : k_H} {Q : k_H → k_R → Prop} {x0 : Nat} {x1 x2 f1_2 : Int32} {s0 : Option Nat} {fs1 : List k_V} (o1 : h.1 x0 = some (k_o 3 fs1)) (g1_2 : fs1[2]? = some (vI f1_2)) (K : k_X (jX0_apply G l h0) h 88 [(0, vR (some x0)), (1, vI x1)] [vI (if f1_2 < x2 then x2 else f1_2), vR s0] Q) : k_X (jX0_apply G l h0) h 76 [(0, vR (some x0)), (1, vI x1), (2, vI x2)] [vR s0] Q := by
  obtain ⟨h', r, K, q⟩ := K
  exact ⟨h', r, j_aload_n dX0_apply_76 rfl rfl <| j_getf dX0_apply_77 kf_X0_18 o1 g1_2 <| j_iload_n dX0_apply_80 rfl rfl <| j_mmax dX0_apply_81 km_X0_26 km_st_max km_init km_co_max (by decide) (Nat.le_of_ble_eq_true rfl) <| j_goto (tgt := 88) dX0_apply_84 (by decide) <| (j_pick [0, 1] rfl K), q⟩
theorem bX0_apply_87 {h0 h : k_H} {Q : k_H → k_R → Prop} {x0 : Nat} {x1 x2 : Int32} {s0 : Option Nat} (K : k_X (jX0_apply G l h0) h 88 [(0, vR (some x0)), (1, vI x1)] [vI x2, vR s0] Q) : k_X (jX0_apply G l h0) h 87 [(0, vR (some x0)), (1, vI x1), (2, vI x2)] [vR s0] Q := by
  obtain ⟨h', r, K, q⟩ := K
  exact ⟨h', r, j_iload_n dX0_apply_87 rfl rfl <| (j_pick [0, 1] rfl K), q⟩
theorem bX0_apply_88 {h0 h : k_H} {Q : k_H → k_R → Prop} {x0 s0 : Nat} {x1 s1 : Int32} {fs1 : List k_V} (o1 : h.1 s0 = some (k_o 3 fs1)) (z1 : fs1.length = 3) (K : k_X (jX0_apply G l h0) (k_up h s0 (k_o 3 (fs1.set 2 (vI s1)))) 91 [(0, vR (some x0)), (1, vI x1)] [] Q) : k_X (jX0_apply G l h0) h 88 [(0, vR (some x0)), (1, vI x1)] [vI s1, vR (some s0)] Q := by
  obtain ⟨h', r, K, q⟩ := K
  exact ⟨h', r, j_putf dX0_apply_88 kp_X0_18 o1 (k_ln z1 (by decide)) (k_fit_i _) rfl <| K, q⟩
theorem bX0_apply_91 {h0 h : k_H} {Q : k_H → k_R → Prop} {x0 : Nat} {x1 : Int32} (K : k_X (jX0_apply G l h0) h 133 [(0, vR (some x0)), (1, vI x1)] [] Q) : k_X (jX0_apply G l h0) h 91 [(0, vR (some x0)), (1, vI x1)] [] Q := by
  obtain ⟨h', r, K, q⟩ := K
  exact ⟨h', r, j_goto (tgt := 133) dX0_apply_91 (by decide) <| K, q⟩
theorem bX0_apply_94 {h0 h : k_H} {Q : k_H → k_R → Prop} {x0 : Nat} {x1 x2 f1_0 : Int32} {fs1 : List k_V} (o1 : h.1 x0 = some (k_o 3 fs1)) (g1_0 : fs1[0]? = some (vI f1_0)) (K1 : f1_0 = 0 → k_X (jX0_apply G l h0) h 113 [(0, vR (some x0)), (1, vI x1), (2, vI x2)] [vR (some x0)] Q) (K2 : ¬ (f1_0 = 0) → k_X (jX0_apply G l h0) h 102 [(0, vR (some x0)), (1, vI x1), (2, vI x2)] [vR (some x0)] Q) : k_X (jX0_apply G l h0) h 94 [(0, vR (some x0)), (1, vI x1), (2, vI x2)] [] Q := by
  by_cases hc : f1_0 = 0
  · skip
    obtain ⟨h', r, K, q⟩ := K1 hc
    exact ⟨h', r, j_aload_n dX0_apply_94 rfl rfl <| j_aload_n dX0_apply_95 rfl rfl <| j_getf dX0_apply_96 kf_X0_9 o1 g1_0 <| j_if_eq_t (tgt := 113) dX0_apply_99 (by decide) hc K, q⟩
  · skip
    obtain ⟨h', r, K, q⟩ := K2 hc
    exact ⟨h', r, j_aload_n dX0_apply_94 rfl rfl <| j_aload_n dX0_apply_95 rfl rfl <| j_getf dX0_apply_96 kf_X0_9 o1 g1_0 <| j_if_eq_f dX0_apply_99 113 (by decide) hc K, q⟩
theorem bX0_apply_102 {h0 h : k_H} {Q : k_H → k_R → Prop} {x0 : Nat} {x1 x2 f1_2 : Int32} {s0 : Option Nat} {fs1 : List k_V} (o1 : h.1 x0 = some (k_o 3 fs1)) (g1_2 : fs1[2]? = some (vI f1_2)) (K : k_X (jX0_apply G l h0) h 114 [(0, vR (some x0)), (1, vI x1)] [vI (if x2 < f1_2 then x2 else f1_2), vR s0] Q) : k_X (jX0_apply G l h0) h 102 [(0, vR (some x0)), (1, vI x1), (2, vI x2)] [vR s0] Q := by
  obtain ⟨h', r, K, q⟩ := K
  exact ⟨h', r, j_aload_n dX0_apply_102 rfl rfl <| j_getf dX0_apply_103 kf_X0_18 o1 g1_2 <| j_iload_n dX0_apply_106 rfl rfl <| j_mmin dX0_apply_107 km_X0_32 km_st_min km_init km_co_min (by decide) (Nat.le_of_ble_eq_true rfl) <| j_goto (tgt := 114) dX0_apply_110 (by decide) <| (j_pick [0, 1] rfl K), q⟩
theorem bX0_apply_113 {h0 h : k_H} {Q : k_H → k_R → Prop} {x0 : Nat} {x1 x2 : Int32} {s0 : Option Nat} (K : k_X (jX0_apply G l h0) h 114 [(0, vR (some x0)), (1, vI x1)] [vI x2, vR s0] Q) : k_X (jX0_apply G l h0) h 113 [(0, vR (some x0)), (1, vI x1), (2, vI x2)] [vR s0] Q := by
  obtain ⟨h', r, K, q⟩ := K
  exact ⟨h', r, j_iload_n dX0_apply_113 rfl rfl <| (j_pick [0, 1] rfl K), q⟩
theorem bX0_apply_114 {h0 h : k_H} {Q : k_H → k_R → Prop} {x0 s0 : Nat} {x1 s1 : Int32} {fs1 : List k_V} (o1 : h.1 s0 = some (k_o 3 fs1)) (z1 : fs1.length = 3) (K : k_X (jX0_apply G l h0) (k_up h s0 (k_o 3 (fs1.set 2 (vI s1)))) 117 [(0, vR (some x0)), (1, vI x1)] [] Q) : k_X (jX0_apply G l h0) h 114 [(0, vR (some x0)), (1, vI x1)] [vI s1, vR (some s0)] Q := by
  obtain ⟨h', r, K, q⟩ := K
  exact ⟨h', r, j_putf dX0_apply_114 kp_X0_18 o1 (k_ln z1 (by decide)) (k_fit_i _) rfl <| K, q⟩
theorem bX0_apply_117 {h0 h : k_H} {Q : k_H → k_R → Prop} {x0 : Nat} {x1 : Int32} (K : k_X (jX0_apply G l h0) h 133 [(0, vR (some x0)), (1, vI x1)] [] Q) : k_X (jX0_apply G l h0) h 117 [(0, vR (some x0)), (1, vI x1)] [] Q := by
  obtain ⟨h', r, K, q⟩ := K
  exact ⟨h', r, j_goto (tgt := 133) dX0_apply_117 (by decide) <| K, q⟩
theorem bX0_apply_120 {h0 h : k_H} {Q : k_H → k_R → Prop} {x0 : Nat} {x1 x3 : Int32} {fs1 : List k_V} (o1 : h.1 x0 = some (k_o 3 fs1)) (z1 : fs1.length = 3) (K : k_X (jX0_apply G l h0) (k_up h x0 (k_o 3 (fs1.set 2 (vI x3)))) 125 [(0, vR (some x0)), (1, vI x1)] [] Q) : k_X (jX0_apply G l h0) h 120 [(0, vR (some x0)), (1, vI x1), (3, vI x3)] [] Q := by
  obtain ⟨h', r, K, q⟩ := K
  exact ⟨h', r, j_aload_n dX0_apply_120 rfl rfl <| j_iload_n dX0_apply_121 rfl rfl <| j_putf dX0_apply_122 kp_X0_18 o1 (k_ln z1 (by decide)) (k_fit_i _) rfl <| (j_pick [0, 1] rfl K), q⟩
theorem bX0_apply_125 {h0 h : k_H} {Q : k_H → k_R → Prop} {x0 : Nat} {x1 : Int32} (K : k_X (jX0_apply G l h0) h 133 [(0, vR (some x0)), (1, vI x1)] [] Q) : k_X (jX0_apply G l h0) h 125 [(0, vR (some x0)), (1, vI x1)] [] Q := by
  obtain ⟨h', r, K, q⟩ := K
  exact ⟨h', r, j_goto (tgt := 133) dX0_apply_125 (by decide) <| K, q⟩
theorem bX0_apply_128 {h0 h : k_H} {Q : k_H → k_R → Prop} {x0 : Nat} {x1 x2 : Int32} {fs1 : List k_V} (o1 : h.1 x0 = some (k_o 3 fs1)) (z1 : fs1.length = 3) (K : k_X (jX0_apply G l h0) (k_up h x0 (k_o 3 (fs1.set 2 (vI x2)))) 133 [(0, vR (some x0)), (1, vI x1)] [] Q) : k_X (jX0_apply G l h0) h 128 [(0, vR (some x0)), (1, vI x1), (2, vI x2)] [] Q := by
  obtain ⟨h', r, K, q⟩ := K
  exact ⟨h', r, j_aload_n dX0_apply_128 rfl rfl <| j_iload_n dX0_apply_129 rfl rfl <| j_putf dX0_apply_130 kp_X0_18 o1 (k_ln z1 (by decide)) (k_fit_i _) rfl <| (j_pick [0, 1] rfl K), q⟩
theorem bX0_apply_133 {h0 h : k_H} {Q : k_H → k_R → Prop} {x0 : Nat} {x1 : Int32} (K1 : x1 = 5 → k_X (jX0_apply G l h0) h 155 [(0, vR (some x0)), (1, vI x1)] [vR (some x0)] Q) (K2 : ¬ (x1 = 5) → k_X (jX0_apply G l h0) h 139 [(0, vR (some x0)), (1, vI x1)] [vR (some x0)] Q) : k_X (jX0_apply G l h0) h 133 [(0, vR (some x0)), (1, vI x1)] [] Q := by
  by_cases hc : x1 = 5
  · skip
    obtain ⟨h', r, K, q⟩ := K1 hc
    exact ⟨h', r, j_aload_n dX0_apply_133 rfl rfl <| j_iload_n dX0_apply_134 rfl rfl <| j_iconst (v := 5) dX0_apply_135 (by decide) <| j_icmp_eq_t (tgt := 155) dX0_apply_136 (by decide) hc K, q⟩
  · skip
    obtain ⟨h', r, K, q⟩ := K2 hc
    exact ⟨h', r, j_aload_n dX0_apply_133 rfl rfl <| j_iload_n dX0_apply_134 rfl rfl <| j_iconst (v := 5) dX0_apply_135 (by decide) <| j_icmp_eq_f dX0_apply_136 155 (by decide) hc K, q⟩
theorem bX0_apply_139 {h0 h : k_H} {Q : k_H → k_R → Prop} {x0 : Nat} {x1 f1_1 : Int32} {s0 : Option Nat} {fs1 : List k_V} (o1 : h.1 x0 = some (k_o 3 fs1)) (g1_1 : fs1[1]? = some (vI f1_1)) (K1 : f1_1 = 0 → k_X (jX0_apply G l h0) h 159 [(0, vR (some x0)), (1, vI x1)] [vR s0] Q) (K2 : ¬ (f1_1 = 0) → k_X (jX0_apply G l h0) h 146 [(0, vR (some x0)), (1, vI x1)] [vR s0] Q) : k_X (jX0_apply G l h0) h 139 [(0, vR (some x0)), (1, vI x1)] [vR s0] Q := by
  by_cases hc : f1_1 = 0
  · skip
    obtain ⟨h', r, K, q⟩ := K1 hc
    exact ⟨h', r, j_aload_n dX0_apply_139 rfl rfl <| j_getf dX0_apply_140 kf_X0_15 o1 g1_1 <| j_if_eq_t (tgt := 159) dX0_apply_143 (by decide) hc K, q⟩
  · skip
    obtain ⟨h', r, K, q⟩ := K2 hc
    exact ⟨h', r, j_aload_n dX0_apply_139 rfl rfl <| j_getf dX0_apply_140 kf_X0_15 o1 g1_1 <| j_if_eq_f dX0_apply_143 159 (by decide) hc K, q⟩
theorem bX0_apply_146 {h0 h : k_H} {Q : k_H → k_R → Prop} {x0 : Nat} {x1 : Int32} {s0 : Option Nat} (K1 : x1 = 0 → k_X (jX0_apply G l h0) h 159 [(0, vR (some x0)), (1, vI x1)] [vR s0] Q) (K2 : ¬ (x1 = 0) → k_X (jX0_apply G l h0) h 150 [(0, vR (some x0)), (1, vI x1)] [vR s0] Q) : k_X (jX0_apply G l h0) h 146 [(0, vR (some x0)), (1, vI x1)] [vR s0] Q := by
  by_cases hc : x1 = 0
  · skip
    obtain ⟨h', r, K, q⟩ := K1 hc
    exact ⟨h', r, j_iload_n dX0_apply_146 rfl rfl <| j_if_eq_t (tgt := 159) dX0_apply_147 (by decide) hc K, q⟩
  · skip
    obtain ⟨h', r, K, q⟩ := K2 hc
    exact ⟨h', r, j_iload_n dX0_apply_146 rfl rfl <| j_if_eq_f dX0_apply_147 159 (by decide) hc K, q⟩
theorem bX0_apply_150 {h0 h : k_H} {Q : k_H → k_R → Prop} {x0 : Nat} {x1 : Int32} {s0 : Option Nat} (K1 : x1 = 1 → k_X (jX0_apply G l h0) h 159 [(0, vR (some x0)), (1, vI x1)] [vR s0] Q) (K2 : ¬ (x1 = 1) → k_X (jX0_apply G l h0) h 155 [(0, vR (some x0)), (1, vI x1)] [vR s0] Q) : k_X (jX0_apply G l h0) h 150 [(0, vR (some x0)), (1, vI x1)] [vR s0] Q := by
  by_cases hc : x1 = 1
  · skip
    obtain ⟨h', r, K, q⟩ := K1 hc
    exact ⟨h', r, j_iload_n dX0_apply_150 rfl rfl <| j_iconst (v := 1) dX0_apply_151 (by decide) <| j_icmp_eq_t (tgt := 159) dX0_apply_152 (by decide) hc K, q⟩
  · skip
    obtain ⟨h', r, K, q⟩ := K2 hc
    exact ⟨h', r, j_iload_n dX0_apply_150 rfl rfl <| j_iconst (v := 1) dX0_apply_151 (by decide) <| j_icmp_eq_f dX0_apply_152 159 (by decide) hc K, q⟩
theorem bX0_apply_155 {h0 h : k_H} {Q : k_H → k_R → Prop} {x0 : Nat} {x1 : Int32} {s0 : Option Nat} (K : k_X (jX0_apply G l h0) h 160 [(0, vR (some x0)), (1, vI x1)] [vI 1, vR s0] Q) : k_X (jX0_apply G l h0) h 155 [(0, vR (some x0)), (1, vI x1)] [vR s0] Q := by
  obtain ⟨h', r, K, q⟩ := K
  exact ⟨h', r, j_iconst (v := 1) dX0_apply_155 (by decide) <| j_goto (tgt := 160) dX0_apply_156 (by decide) <| K, q⟩
theorem bX0_apply_159 {h0 h : k_H} {Q : k_H → k_R → Prop} {x0 : Nat} {x1 : Int32} {s0 : Option Nat} (K : k_X (jX0_apply G l h0) h 160 [(0, vR (some x0)), (1, vI x1)] [vI 0, vR s0] Q) : k_X (jX0_apply G l h0) h 159 [(0, vR (some x0)), (1, vI x1)] [vR s0] Q := by
  obtain ⟨h', r, K, q⟩ := K
  exact ⟨h', r, j_iconst (v := 0) dX0_apply_159 (by decide) <| K, q⟩
theorem bX0_apply_160 {h0 h : k_H} {Q : k_H → k_R → Prop} {x0 s0 : Nat} {x1 s1 : Int32} {fs1 : List k_V} (o1 : h.1 s0 = some (k_o 3 fs1)) (y2 : k_bl s1) (z1 : fs1.length = 3) (K : k_X (jX0_apply G l h0) (k_up h s0 (k_o 3 (fs1.set 1 (vI s1)))) 163 [(0, vR (some x0)), (1, vI x1)] [] Q) : k_X (jX0_apply G l h0) h 160 [(0, vR (some x0)), (1, vI x1)] [vI s1, vR (some s0)] Q := by
  obtain ⟨h', r, K, q⟩ := K
  exact ⟨h', r, j_putf dX0_apply_160 kp_X0_15 o1 (k_ln z1 (by decide)) (k_fit_z y2) rfl <| K, q⟩
theorem bX0_apply_163 {h0 h : k_H} {Q : k_H → k_R → Prop} {x0 : Nat} {x1 : Int32} (K1 : x1 = 1 → k_X (jX0_apply G l h0) h 173 [] [vR (some x0)] Q) (K2 : ¬ (x1 = 1) → k_X (jX0_apply G l h0) h 169 [] [vR (some x0)] Q) : k_X (jX0_apply G l h0) h 163 [(0, vR (some x0)), (1, vI x1)] [] Q := by
  by_cases hc : x1 = 1
  · skip
    obtain ⟨h', r, K, q⟩ := K1 hc
    exact ⟨h', r, j_aload_n dX0_apply_163 rfl rfl <| j_iload_n dX0_apply_164 rfl rfl <| j_iconst (v := 1) dX0_apply_165 (by decide) <| j_icmp_eq_t (tgt := 173) dX0_apply_166 (by decide) hc (j_pick [] rfl K), q⟩
  · skip
    obtain ⟨h', r, K, q⟩ := K2 hc
    exact ⟨h', r, j_aload_n dX0_apply_163 rfl rfl <| j_iload_n dX0_apply_164 rfl rfl <| j_iconst (v := 1) dX0_apply_165 (by decide) <| j_icmp_eq_f dX0_apply_166 173 (by decide) hc (j_pick [] rfl K), q⟩
theorem bX0_apply_169 {h0 h : k_H} {Q : k_H → k_R → Prop} {s0 : Option Nat} (K : k_X (jX0_apply G l h0) h 174 [] [vI 1, vR s0] Q) : k_X (jX0_apply G l h0) h 169 [] [vR s0] Q := by
  obtain ⟨h', r, K, q⟩ := K
  exact ⟨h', r, j_iconst (v := 1) dX0_apply_169 (by decide) <| j_goto (tgt := 174) dX0_apply_170 (by decide) <| K, q⟩
theorem bX0_apply_173 {h0 h : k_H} {Q : k_H → k_R → Prop} {s0 : Option Nat} (K : k_X (jX0_apply G l h0) h 174 [] [vI 0, vR s0] Q) : k_X (jX0_apply G l h0) h 173 [] [vR s0] Q := by
  obtain ⟨h', r, K, q⟩ := K
  exact ⟨h', r, j_iconst (v := 0) dX0_apply_173 (by decide) <| K, q⟩
theorem bX0_apply_174 {h0 h : k_H} {Q : k_H → k_R → Prop} {s0 : Nat} {s1 : Int32} {fs1 : List k_V} (o1 : h.1 s0 = some (k_o 3 fs1)) (y2 : k_bl s1) (z1 : fs1.length = 3) (K : k_X (jX0_apply G l h0) (k_up h s0 (k_o 3 (fs1.set 0 (vI s1)))) 177 [] [] Q) : k_X (jX0_apply G l h0) h 174 [] [vI s1, vR (some s0)] Q := by
  obtain ⟨h', r, K, q⟩ := K
  exact ⟨h', r, j_putf dX0_apply_174 kp_X0_9 o1 (k_ln z1 (by decide)) (k_fit_z y2) rfl <| K, q⟩
theorem bX0_apply_177 {h0 h : k_H} {Q : k_H → k_R → Prop} (q : Q h (.inl none)) : k_X (jX0_apply G l h0) h 177 [] [] Q := by
  exact ⟨_, _, j_vret dX0_apply_177 rfl, q⟩
theorem eX0_told {G : k_G} {l : Launch} (hfl : l.flags = flags0) {h : k_H} {Q : k_H → k_R → Prop} {x0 : Nat} (K : k_X (jX0_told G l h) h 0 [(0, vR (some x0))] [] Q) : k_ct (tX0_told G l) [vR (some x0)] h Q := by
  obtain ⟨h', r, K, q⟩ := K
  exact ⟨h', r, k_CtOf (by decide +kernel) (Nat.le_of_ble_eq_true rfl) K hfl, q⟩

theorem bX0_told_0 {h0 h : k_H} {Q : k_H → k_R → Prop} {x0 : Nat} {f1_0 : Int32} {fs1 : List k_V} (o1 : h.1 x0 = some (k_o 3 fs1)) (g1_0 : fs1[0]? = some (vI f1_0)) (K1 : f1_0 = 0 → k_X (jX0_told G l h0) h 14 [] [] Q) (K2 : ¬ (f1_0 = 0) → k_X (jX0_told G l h0) h 7 [(0, vR (some x0))] [] Q) : k_X (jX0_told G l h0) h 0 [(0, vR (some x0))] [] Q := by
  by_cases hc : f1_0 = 0
  · skip
    obtain ⟨h', r, K, q⟩ := K1 hc
    exact ⟨h', r, j_aload_n dX0_told_0 rfl rfl <| j_getf dX0_told_1 kf_X0_9 o1 g1_0 <| j_if_eq_t (tgt := 14) dX0_told_4 (by decide) hc (j_pick [] rfl K), q⟩
  · skip
    obtain ⟨h', r, K, q⟩ := K2 hc
    exact ⟨h', r, j_aload_n dX0_told_0 rfl rfl <| j_getf dX0_told_1 kf_X0_9 o1 g1_0 <| j_if_eq_f dX0_told_4 14 (by decide) hc K, q⟩
theorem bX0_told_7 {h0 h : k_H} {Q : k_H → k_R → Prop} {x0 : Nat} {f1_2 : Int32} {fs1 : List k_V} (o1 : h.1 x0 = some (k_o 3 fs1)) (g1_2 : fs1[2]? = some (vI f1_2)) (K : k_X (jX0_told G l h0) h 16 [] [vI f1_2] Q) : k_X (jX0_told G l h0) h 7 [(0, vR (some x0))] [] Q := by
  obtain ⟨h', r, K, q⟩ := K
  exact ⟨h', r, j_aload_n dX0_told_7 rfl rfl <| j_getf dX0_told_8 kf_X0_18 o1 g1_2 <| j_goto (tgt := 16) dX0_told_11 (by decide) <| (j_pick [] rfl K), q⟩
theorem bX0_told_14 {h0 h : k_H} {Q : k_H → k_R → Prop} (K : k_X (jX0_told G l h0) h 16 [] [vI (-2147483648)] Q) : k_X (jX0_told G l h0) h 14 [] [] Q := by
  obtain ⟨h', r, K, q⟩ := K
  exact ⟨h', r, j_ldc (v := (-2147483648)) dX0_told_14 ki_X0_35 <| K, q⟩
theorem bX0_told_16 {h0 h : k_H} {Q : k_H → k_R → Prop} {s0 : Int32} (q : Q h (.inl (some (vI s0)))) : k_X (jX0_told G l h0) h 16 [] [vI s0] Q := by
  exact ⟨_, _, j_iret dX0_told_16 rfl, q⟩
theorem eX1_init {G : k_G} {l : Launch} (hfl : l.flags = flags0) {h : k_H} {Q : k_H → k_R → Prop} {x0 : Nat} {x1 : Int32} {x2 : Int64} {x4 : Int64} {x6 : Int32} {x7 : Int32} (K : k_X (jX1_init G l h) h 0 [(0, vR (some x0)), (1, vI x1), (2, vJ x2), (4, vJ x4), (6, vI x6), (7, vI x7)] [] Q) : k_ct (tX1_init G l) [vR (some x0), vI x1, vJ x2, vJ x4, vI x6, vI x7] h Q := by
  obtain ⟨h', r, K, q⟩ := K
  exact ⟨h', r, k_CtOf (by decide +kernel) (Nat.le_of_ble_eq_true rfl) K hfl, q⟩

theorem bX1_init_0 {h0 h : k_H} {Q : k_H → k_R → Prop} {x0 : Nat} {x1 x6 x7 : Int32} {x2 x4 : Int64} {fs1 : List k_V} (o1 : h.1 x0 = some (k_o 4 fs1)) (z1 : fs1.length = 5) (K : k_X (jX1_init G l h0) (k_up h x0 (k_o 4 (fs1.set 0 (vI x1)))) 9 [(0, vR (some x0)), (2, vJ x2), (4, vJ x4), (6, vI x6), (7, vI x7)] [] Q) : k_X (jX1_init G l h0) h 0 [(0, vR (some x0)), (1, vI x1), (2, vJ x2), (4, vJ x4), (6, vI x6), (7, vI x7)] [] Q := by
  obtain ⟨h', r, K, q⟩ := K
  exact ⟨h', r, j_aload_n dX1_init_0 rfl rfl <| j_objInit dX1_init_1 ko_X1_3 ko_inst ko_code (by decide) (Nat.le_of_ble_eq_true rfl) <| j_aload_n dX1_init_4 rfl rfl <| j_iload_n dX1_init_5 rfl rfl <| j_putf dX1_init_6 kp_X1_9 o1 (k_ln z1 (by decide)) (k_fit_i _) rfl <| (j_pick [0, 2, 3, 4, 5] rfl K), q⟩
theorem bX1_init_9 {h0 h : k_H} {Q : k_H → k_R → Prop} {x0 : Nat} {x2 x4 : Int64} {x6 x7 : Int32} {fs1 : List k_V} (o1 : h.1 x0 = some (k_o 4 fs1)) (z1 : fs1.length = 5) (K : k_X (jX1_init G l h0) (k_up h x0 (k_o 4 (fs1.set 1 (vJ x2)))) 14 [(0, vR (some x0)), (4, vJ x4), (6, vI x6), (7, vI x7)] [] Q) : k_X (jX1_init G l h0) h 9 [(0, vR (some x0)), (2, vJ x2), (4, vJ x4), (6, vI x6), (7, vI x7)] [] Q := by
  obtain ⟨h', r, K, q⟩ := K
  exact ⟨h', r, j_aload_n dX1_init_9 rfl rfl <| j_lload_n dX1_init_10 rfl rfl <| j_putF dX1_init_11 rfl kp_X1_15 o1 (k_ln z1 (by decide)) (k_fit_j _) rfl <| (j_pick [0, 2, 3, 4] rfl K), q⟩
theorem bX1_init_14 {h0 h : k_H} {Q : k_H → k_R → Prop} {x0 : Nat} {x4 : Int64} {x6 x7 : Int32} {fs1 : List k_V} (o1 : h.1 x0 = some (k_o 4 fs1)) (z1 : fs1.length = 5) (K : k_X (jX1_init G l h0) (k_up h x0 (k_o 4 (fs1.set 2 (vJ x4)))) 20 [(0, vR (some x0)), (6, vI x6), (7, vI x7)] [] Q) : k_X (jX1_init G l h0) h 14 [(0, vR (some x0)), (4, vJ x4), (6, vI x6), (7, vI x7)] [] Q := by
  obtain ⟨h', r, K, q⟩ := K
  exact ⟨h', r, j_aload_n dX1_init_14 rfl rfl <| j_lload dX1_init_15 rfl <| j_putF dX1_init_17 rfl kp_X1_19 o1 (k_ln z1 (by decide)) (k_fit_j _) rfl <| (j_pick [0, 2, 3] rfl K), q⟩
theorem bX1_init_20 {h0 h : k_H} {Q : k_H → k_R → Prop} {x0 : Nat} {x6 x7 : Int32} {fs1 : List k_V} (o1 : h.1 x0 = some (k_o 4 fs1)) (z1 : fs1.length = 5) (K : k_X (jX1_init G l h0) (k_up h x0 (k_o 4 (fs1.set 3 (vI x6)))) 26 [(0, vR (some x0)), (7, vI x7)] [] Q) : k_X (jX1_init G l h0) h 20 [(0, vR (some x0)), (6, vI x6), (7, vI x7)] [] Q := by
  obtain ⟨h', r, K, q⟩ := K
  exact ⟨h', r, j_aload_n dX1_init_20 rfl rfl <| j_iload dX1_init_21 rfl <| j_putF dX1_init_23 rfl kp_X1_22 o1 (k_ln z1 (by decide)) (k_fit_i _) rfl <| (j_pick [0, 2] rfl K), q⟩
theorem bX1_init_26 {h0 h : k_H} {Q : k_H → k_R → Prop} {x0 : Nat} {x7 : Int32} {fs1 : List k_V} (o1 : h.1 x0 = some (k_o 4 fs1)) (z1 : fs1.length = 5) (K : k_X (jX1_init G l h0) (k_up h x0 (k_o 4 (fs1.set 4 (vI x7)))) 32 [] [] Q) : k_X (jX1_init G l h0) h 26 [(0, vR (some x0)), (7, vI x7)] [] Q := by
  obtain ⟨h', r, K, q⟩ := K
  exact ⟨h', r, j_aload_n dX1_init_26 rfl rfl <| j_iload dX1_init_27 rfl <| j_putF dX1_init_29 rfl kp_X1_25 o1 (k_ln z1 (by decide)) (k_fit_i _) rfl <| (j_pick [] rfl K), q⟩
theorem bX1_init_32 {h0 h : k_H} {Q : k_H → k_R → Prop} (q : Q h (.inl none)) : k_X (jX1_init G l h0) h 32 [] [] Q := by
  exact ⟨_, _, j_vret dX1_init_32 rfl, q⟩
theorem eX1_isInOrder {G : k_G} {l : Launch} (hfl : l.flags = flags0) {h : k_H} {Q : k_H → k_R → Prop} {x0 : Nat} (K : k_X (jX1_isInOrder G l h) h 0 [(0, vR (some x0))] [] Q) : k_ct (tX1_isInOrder G l) [vR (some x0)] h Q := by
  obtain ⟨h', r, K, q⟩ := K
  exact ⟨h', r, k_CtOf (by decide +kernel) (Nat.le_of_ble_eq_true rfl) K hfl, q⟩

theorem bX1_isInOrder_0 {h0 h : k_H} {Q : k_H → k_R → Prop} {x0 : Nat} {f1_0 : Int32} {fs1 : List k_V} (o1 : h.1 x0 = some (k_o 4 fs1)) (g1_0 : fs1[0]? = some (vI f1_0)) (K1 : f1_0 = 6 → k_X (jX1_isInOrder G l h0) h 22 [] [] Q) (K2 : ¬ (f1_0 = 6) → k_X (jX1_isInOrder G l h0) h 9 [(0, vR (some x0))] [] Q) : k_X (jX1_isInOrder G l h0) h 0 [(0, vR (some x0))] [] Q := by
  by_cases hc : f1_0 = 6
  · skip
    obtain ⟨h', r, K, q⟩ := K1 hc
    exact ⟨h', r, j_aload_n dX1_isInOrder_0 rfl rfl <| j_getf dX1_isInOrder_1 kf_X1_9 o1 g1_0 <| j_bipush (v := 6) dX1_isInOrder_4 (by decide) <| j_icmp_eq_t (tgt := 22) dX1_isInOrder_6 (by decide) hc (j_pick [] rfl K), q⟩
  · skip
    obtain ⟨h', r, K, q⟩ := K2 hc
    exact ⟨h', r, j_aload_n dX1_isInOrder_0 rfl rfl <| j_getf dX1_isInOrder_1 kf_X1_9 o1 g1_0 <| j_bipush (v := 6) dX1_isInOrder_4 (by decide) <| j_icmp_eq_f dX1_isInOrder_6 22 (by decide) hc K, q⟩
theorem bX1_isInOrder_9 {h0 h : k_H} {Q : k_H → k_R → Prop} {x0 : Nat} {f1_0 : Int32} {fs1 : List k_V} (o1 : h.1 x0 = some (k_o 4 fs1)) (g1_0 : fs1[0]? = some (vI f1_0)) (K1 : f1_0 = 7 → k_X (jX1_isInOrder G l h0) h 22 [] [] Q) (K2 : ¬ (f1_0 = 7) → k_X (jX1_isInOrder G l h0) h 18 [] [] Q) : k_X (jX1_isInOrder G l h0) h 9 [(0, vR (some x0))] [] Q := by
  by_cases hc : f1_0 = 7
  · skip
    obtain ⟨h', r, K, q⟩ := K1 hc
    exact ⟨h', r, j_aload_n dX1_isInOrder_9 rfl rfl <| j_getf dX1_isInOrder_10 kf_X1_9 o1 g1_0 <| j_bipush (v := 7) dX1_isInOrder_13 (by decide) <| j_icmp_eq_t (tgt := 22) dX1_isInOrder_15 (by decide) hc (j_pick [] rfl K), q⟩
  · skip
    obtain ⟨h', r, K, q⟩ := K2 hc
    exact ⟨h', r, j_aload_n dX1_isInOrder_9 rfl rfl <| j_getf dX1_isInOrder_10 kf_X1_9 o1 g1_0 <| j_bipush (v := 7) dX1_isInOrder_13 (by decide) <| j_icmp_eq_f dX1_isInOrder_15 22 (by decide) hc (j_pick [] rfl K), q⟩
theorem bX1_isInOrder_18 {h0 h : k_H} {Q : k_H → k_R → Prop} (K : k_X (jX1_isInOrder G l h0) h 23 [] [vI 1] Q) : k_X (jX1_isInOrder G l h0) h 18 [] [] Q := by
  obtain ⟨h', r, K, q⟩ := K
  exact ⟨h', r, j_iconst (v := 1) dX1_isInOrder_18 (by decide) <| j_goto (tgt := 23) dX1_isInOrder_19 (by decide) <| K, q⟩
theorem bX1_isInOrder_22 {h0 h : k_H} {Q : k_H → k_R → Prop} (K : k_X (jX1_isInOrder G l h0) h 23 [] [vI 0] Q) : k_X (jX1_isInOrder G l h0) h 22 [] [] Q := by
  obtain ⟨h', r, K, q⟩ := K
  exact ⟨h', r, j_iconst (v := 0) dX1_isInOrder_22 (by decide) <| K, q⟩
theorem bX1_isInOrder_23 {h0 h : k_H} {Q : k_H → k_R → Prop} {s0 : Int32} (y1 : k_bl s0) (q : Q h (.inl (some (vI s0)))) : k_X (jX1_isInOrder G l h0) h 23 [] [vI s0] Q := by
  exact ⟨_, _, j_zret dX1_isInOrder_23 rfl y1, q⟩
theorem eX1_isRange {G : k_G} {l : Launch} (hfl : l.flags = flags0) {h : k_H} {Q : k_H → k_R → Prop} {x0 : Nat} (K : k_X (jX1_isRange G l h) h 0 [(0, vR (some x0))] [] Q) : k_ct (tX1_isRange G l) [vR (some x0)] h Q := by
  obtain ⟨h', r, K, q⟩ := K
  exact ⟨h', r, k_CtOf (by decide +kernel) (Nat.le_of_ble_eq_true rfl) K hfl, q⟩

theorem bX1_isRange_0 {h0 h : k_H} {Q : k_H → k_R → Prop} {x0 : Nat} {f1_2 f1_1 : Int64} {fs1 : List k_V} (o1 : h.1 x0 = some (k_o 4 fs1)) (g1_2 : fs1[2]? = some (vJ f1_2)) (g1_1 : fs1[1]? = some (vJ f1_1)) (K1 : (f1_2 - f1_1) ≤ 1 → k_X (jX1_isRange G l h0) h 18 [] [] Q) (K2 : ¬ ((f1_2 - f1_1) ≤ 1) → k_X (jX1_isRange G l h0) h 14 [] [] Q) : k_X (jX1_isRange G l h0) h 0 [(0, vR (some x0))] [] Q := by
  by_cases hc : (f1_2 - f1_1) ≤ 1
  · skip
    obtain ⟨h', r, K, q⟩ := K1 hc
    exact ⟨h', r, j_aload_n dX1_isRange_0 rfl rfl <| j_getf dX1_isRange_1 kf_X1_19 o1 g1_2 <| j_aload_n dX1_isRange_4 rfl rfl <| j_getf dX1_isRange_5 kf_X1_15 o1 g1_1 <| j_lsub dX1_isRange_8 <| j_lconst (v := 1) dX1_isRange_9 (by decide) <| j_lcmp dX1_isRange_10 <| j_if_le_t (tgt := 18) dX1_isRange_11 (by decide) ((lg_cmp_le _ _).mpr hc) (j_pick [] rfl K), q⟩
  · skip
    obtain ⟨h', r, K, q⟩ := K2 hc
    exact ⟨h', r, j_aload_n dX1_isRange_0 rfl rfl <| j_getf dX1_isRange_1 kf_X1_19 o1 g1_2 <| j_aload_n dX1_isRange_4 rfl rfl <| j_getf dX1_isRange_5 kf_X1_15 o1 g1_1 <| j_lsub dX1_isRange_8 <| j_lconst (v := 1) dX1_isRange_9 (by decide) <| j_lcmp dX1_isRange_10 <| j_if_le_f dX1_isRange_11 18 (by decide) ((not_congr (lg_cmp_le _ _)).mpr hc) (j_pick [] rfl K), q⟩
theorem bX1_isRange_14 {h0 h : k_H} {Q : k_H → k_R → Prop} (K : k_X (jX1_isRange G l h0) h 19 [] [vI 1] Q) : k_X (jX1_isRange G l h0) h 14 [] [] Q := by
  obtain ⟨h', r, K, q⟩ := K
  exact ⟨h', r, j_iconst (v := 1) dX1_isRange_14 (by decide) <| j_goto (tgt := 19) dX1_isRange_15 (by decide) <| K, q⟩
theorem bX1_isRange_18 {h0 h : k_H} {Q : k_H → k_R → Prop} (K : k_X (jX1_isRange G l h0) h 19 [] [vI 0] Q) : k_X (jX1_isRange G l h0) h 18 [] [] Q := by
  obtain ⟨h', r, K, q⟩ := K
  exact ⟨h', r, j_iconst (v := 0) dX1_isRange_18 (by decide) <| K, q⟩
theorem bX1_isRange_19 {h0 h : k_H} {Q : k_H → k_R → Prop} {s0 : Int32} (y1 : k_bl s0) (q : Q h (.inl (some (vI s0)))) : k_X (jX1_isRange G l h0) h 19 [] [vI s0] Q := by
  exact ⟨_, _, j_zret dX1_isRange_19 rfl y1, q⟩
theorem eX1_saysAll {G : k_G} {l : Launch} (hfl : l.flags = flags0) {h : k_H} {Q : k_H → k_R → Prop} {x0 : Nat} (K : k_X (jX1_saysAll G l h) h 0 [(0, vR (some x0))] [] Q) : k_ct (tX1_saysAll G l) [vR (some x0)] h Q := by
  obtain ⟨h', r, K, q⟩ := K
  exact ⟨h', r, k_CtOf (by decide +kernel) (Nat.le_of_ble_eq_true rfl) K hfl, q⟩

theorem bX1_saysAll_0 {h0 h : k_H} {Q : k_H → k_R → Prop} {x0 : Nat} {f1_0 : Int32} {fs1 : List k_V} (o1 : h.1 x0 = some (k_o 4 fs1)) (g1_0 : fs1[0]? = some (vI f1_0)) (K1 : f1_0 = 0 → k_X (jX1_saysAll G l h0) h 23 [] [] Q) (K2 : ¬ (f1_0 = 0) → k_X (jX1_saysAll G l h0) h 7 [(0, vR (some x0))] [] Q) : k_X (jX1_saysAll G l h0) h 0 [(0, vR (some x0))] [] Q := by
  by_cases hc : f1_0 = 0
  · skip
    obtain ⟨h', r, K, q⟩ := K1 hc
    exact ⟨h', r, j_aload_n dX1_saysAll_0 rfl rfl <| j_getf dX1_saysAll_1 kf_X1_9 o1 g1_0 <| j_if_eq_t (tgt := 23) dX1_saysAll_4 (by decide) hc (j_pick [] rfl K), q⟩
  · skip
    obtain ⟨h', r, K, q⟩ := K2 hc
    exact ⟨h', r, j_aload_n dX1_saysAll_0 rfl rfl <| j_getf dX1_saysAll_1 kf_X1_9 o1 g1_0 <| j_if_eq_f dX1_saysAll_4 23 (by decide) hc K, q⟩
theorem bX1_saysAll_7 {h0 h : k_H} {Q : k_H → k_R → Prop} {x0 : Nat} {f1_0 : Int32} {fs1 : List k_V} (o1 : h.1 x0 = some (k_o 4 fs1)) (g1_0 : fs1[0]? = some (vI f1_0)) (K1 : f1_0 = 1 → k_X (jX1_saysAll G l h0) h 23 [] [] Q) (K2 : ¬ (f1_0 = 1) → k_X (jX1_saysAll G l h0) h 15 [(0, vR (some x0))] [] Q) : k_X (jX1_saysAll G l h0) h 7 [(0, vR (some x0))] [] Q := by
  by_cases hc : f1_0 = 1
  · skip
    obtain ⟨h', r, K, q⟩ := K1 hc
    exact ⟨h', r, j_aload_n dX1_saysAll_7 rfl rfl <| j_getf dX1_saysAll_8 kf_X1_9 o1 g1_0 <| j_iconst (v := 1) dX1_saysAll_11 (by decide) <| j_icmp_eq_t (tgt := 23) dX1_saysAll_12 (by decide) hc (j_pick [] rfl K), q⟩
  · skip
    obtain ⟨h', r, K, q⟩ := K2 hc
    exact ⟨h', r, j_aload_n dX1_saysAll_7 rfl rfl <| j_getf dX1_saysAll_8 kf_X1_9 o1 g1_0 <| j_iconst (v := 1) dX1_saysAll_11 (by decide) <| j_icmp_eq_f dX1_saysAll_12 23 (by decide) hc K, q⟩
theorem bX1_saysAll_15 {h0 h : k_H} {Q : k_H → k_R → Prop} {x0 : Nat} {f1_0 : Int32} {fs1 : List k_V} (o1 : h.1 x0 = some (k_o 4 fs1)) (g1_0 : fs1[0]? = some (vI f1_0)) (K1 : ¬ (f1_0 = 5) → k_X (jX1_saysAll G l h0) h 27 [] [] Q) (K2 : f1_0 = 5 → k_X (jX1_saysAll G l h0) h 23 [] [] Q) : k_X (jX1_saysAll G l h0) h 15 [(0, vR (some x0))] [] Q := by
  by_cases hc : f1_0 = 5
  · skip
    obtain ⟨h', r, K, q⟩ := K2 hc
    exact ⟨h', r, j_aload_n dX1_saysAll_15 rfl rfl <| j_getf dX1_saysAll_16 kf_X1_9 o1 g1_0 <| j_iconst (v := 5) dX1_saysAll_19 (by decide) <| j_icmp_ne_f dX1_saysAll_20 27 (by decide) hc (j_pick [] rfl K), q⟩
  · skip
    obtain ⟨h', r, K, q⟩ := K1 hc
    exact ⟨h', r, j_aload_n dX1_saysAll_15 rfl rfl <| j_getf dX1_saysAll_16 kf_X1_9 o1 g1_0 <| j_iconst (v := 5) dX1_saysAll_19 (by decide) <| j_icmp_ne_t (tgt := 27) dX1_saysAll_20 (by decide) hc (j_pick [] rfl K), q⟩
theorem bX1_saysAll_23 {h0 h : k_H} {Q : k_H → k_R → Prop} (K : k_X (jX1_saysAll G l h0) h 28 [] [vI 1] Q) : k_X (jX1_saysAll G l h0) h 23 [] [] Q := by
  obtain ⟨h', r, K, q⟩ := K
  exact ⟨h', r, j_iconst (v := 1) dX1_saysAll_23 (by decide) <| j_goto (tgt := 28) dX1_saysAll_24 (by decide) <| K, q⟩
theorem bX1_saysAll_27 {h0 h : k_H} {Q : k_H → k_R → Prop} (K : k_X (jX1_saysAll G l h0) h 28 [] [vI 0] Q) : k_X (jX1_saysAll G l h0) h 27 [] [] Q := by
  obtain ⟨h', r, K, q⟩ := K
  exact ⟨h', r, j_iconst (v := 0) dX1_saysAll_27 (by decide) <| K, q⟩
theorem bX1_saysAll_28 {h0 h : k_H} {Q : k_H → k_R → Prop} {s0 : Int32} (y1 : k_bl s0) (q : Q h (.inl (some (vI s0)))) : k_X (jX1_saysAll G l h0) h 28 [] [vI s0] Q := by
  exact ⟨_, _, j_zret dX1_saysAll_28 rfl y1, q⟩
theorem eX1_covers {G : k_G} {l : Launch} (hfl : l.flags = flags0) {h : k_H} {Q : k_H → k_R → Prop} {x0 : Nat} {x1 : Int64} (K : k_X (jX1_covers G l h) h 0 [(0, vR (some x0)), (1, vJ x1)] [] Q) : k_ct (tX1_covers G l) [vR (some x0), vJ x1] h Q := by
  obtain ⟨h', r, K, q⟩ := K
  exact ⟨h', r, k_CtOf (by decide +kernel) (Nat.le_of_ble_eq_true rfl) K hfl, q⟩

theorem bX1_covers_0 {h0 h : k_H} {Q : k_H → k_R → Prop} {x0 : Nat} {x1 : Int64} (w : k_is h x0 4) {P : k_H → Int32 → Prop} (c : k_cti (tX1_isInOrder G l) [vR (some x0)] h P) (K : ∀ h1 v, P h1 v → k_X (jX1_covers G l h0) h1 4 [(0, vR (some x0)), (1, vJ x1)] [vI v] Q) : k_X (jX1_covers G l h0) h 0 [(0, vR (some x0)), (1, vJ x1)] [] Q := by
  obtain ⟨h1, v, c, p⟩ := c
  obtain ⟨h', r, K, q⟩ := K h1 v p
  exact ⟨h', r, j_aload_n dX1_covers_0 rfl rfl <| j_callV (v := some (vI v)) (as := []) dX1_covers_1 kc_X1_28 rfl rfl w (by decide) (Nat.le_of_ble_eq_true rfl) c K, q⟩
theorem bX1_covers_4 {h0 h : k_H} {Q : k_H → k_R → Prop} {x0 : Nat} {x1 : Int64} {s0 : Int32} (K1 : s0 = 0 → k_X (jX1_covers G l h0) h 29 [] [] Q) (K2 : ¬ (s0 = 0) → k_X (jX1_covers G l h0) h 7 [(0, vR (some x0)), (1, vJ x1)] [] Q) : k_X (jX1_covers G l h0) h 4 [(0, vR (some x0)), (1, vJ x1)] [vI s0] Q := by
  by_cases hc : s0 = 0
  · skip
    obtain ⟨h', r, K, q⟩ := K1 hc
    exact ⟨h', r, j_if_eq_t (tgt := 29) dX1_covers_4 (by decide) hc (j_pick [] rfl K), q⟩
  · skip
    obtain ⟨h', r, K, q⟩ := K2 hc
    exact ⟨h', r, j_if_eq_f dX1_covers_4 29 (by decide) hc K, q⟩
theorem bX1_covers_7 {h0 h : k_H} {Q : k_H → k_R → Prop} {x0 : Nat} {x1 f1_1 : Int64} {fs1 : List k_V} (o1 : h.1 x0 = some (k_o 4 fs1)) (g1_1 : fs1[1]? = some (vJ f1_1)) (K1 : x1 < f1_1 → k_X (jX1_covers G l h0) h 29 [] [] Q) (K2 : ¬ (x1 < f1_1) → k_X (jX1_covers G l h0) h 16 [(0, vR (some x0)), (1, vJ x1)] [] Q) : k_X (jX1_covers G l h0) h 7 [(0, vR (some x0)), (1, vJ x1)] [] Q := by
  by_cases hc : x1 < f1_1
  · skip
    obtain ⟨h', r, K, q⟩ := K1 hc
    exact ⟨h', r, j_aload_n dX1_covers_7 rfl rfl <| j_getf dX1_covers_8 kf_X1_15 o1 g1_1 <| j_lload_n dX1_covers_11 rfl rfl <| j_lcmp dX1_covers_12 <| j_if_gt_t (tgt := 29) dX1_covers_13 (by decide) ((lg_cmp_gt _ _).mpr hc) (j_pick [] rfl K), q⟩
  · skip
    obtain ⟨h', r, K, q⟩ := K2 hc
    exact ⟨h', r, j_aload_n dX1_covers_7 rfl rfl <| j_getf dX1_covers_8 kf_X1_15 o1 g1_1 <| j_lload_n dX1_covers_11 rfl rfl <| j_lcmp dX1_covers_12 <| j_if_gt_f dX1_covers_13 29 (by decide) ((not_congr (lg_cmp_gt _ _)).mpr hc) K, q⟩
theorem bX1_covers_16 {h0 h : k_H} {Q : k_H → k_R → Prop} {x0 : Nat} {x1 f1_2 : Int64} {fs1 : List k_V} (o1 : h.1 x0 = some (k_o 4 fs1)) (g1_2 : fs1[2]? = some (vJ f1_2)) (K1 : f1_2 ≤ x1 → k_X (jX1_covers G l h0) h 29 [] [] Q) (K2 : ¬ (f1_2 ≤ x1) → k_X (jX1_covers G l h0) h 25 [] [] Q) : k_X (jX1_covers G l h0) h 16 [(0, vR (some x0)), (1, vJ x1)] [] Q := by
  by_cases hc : f1_2 ≤ x1
  · skip
    obtain ⟨h', r, K, q⟩ := K1 hc
    exact ⟨h', r, j_lload_n dX1_covers_16 rfl rfl <| j_aload_n dX1_covers_17 rfl rfl <| j_getf dX1_covers_18 kf_X1_19 o1 g1_2 <| j_lcmp dX1_covers_21 <| j_if_ge_t (tgt := 29) dX1_covers_22 (by decide) ((lg_cmp_ge _ _).mpr hc) (j_pick [] rfl K), q⟩
  · skip
    obtain ⟨h', r, K, q⟩ := K2 hc
    exact ⟨h', r, j_lload_n dX1_covers_16 rfl rfl <| j_aload_n dX1_covers_17 rfl rfl <| j_getf dX1_covers_18 kf_X1_19 o1 g1_2 <| j_lcmp dX1_covers_21 <| j_if_ge_f dX1_covers_22 29 (by decide) ((not_congr (lg_cmp_ge _ _)).mpr hc) (j_pick [] rfl K), q⟩
theorem bX1_covers_25 {h0 h : k_H} {Q : k_H → k_R → Prop} (K : k_X (jX1_covers G l h0) h 30 [] [vI 1] Q) : k_X (jX1_covers G l h0) h 25 [] [] Q := by
  obtain ⟨h', r, K, q⟩ := K
  exact ⟨h', r, j_iconst (v := 1) dX1_covers_25 (by decide) <| j_goto (tgt := 30) dX1_covers_26 (by decide) <| K, q⟩
theorem bX1_covers_29 {h0 h : k_H} {Q : k_H → k_R → Prop} (K : k_X (jX1_covers G l h0) h 30 [] [vI 0] Q) : k_X (jX1_covers G l h0) h 29 [] [] Q := by
  obtain ⟨h', r, K, q⟩ := K
  exact ⟨h', r, j_iconst (v := 0) dX1_covers_29 (by decide) <| K, q⟩
theorem bX1_covers_30 {h0 h : k_H} {Q : k_H → k_R → Prop} {s0 : Int32} (y1 : k_bl s0) (q : Q h (.inl (some (vI s0)))) : k_X (jX1_covers G l h0) h 30 [] [vI s0] Q := by
  exact ⟨_, _, j_zret dX1_covers_30 rfl y1, q⟩
theorem eX2_init {G : k_G} {l : Launch} (hfl : l.flags = flags0) {h : k_H} {Q : k_H → k_R → Prop} {x0 : Nat} {x1 : Int32} {x2 : Option Nat} {x3 : Int32} {x4 : Int32} (K : k_X (jX2_init G l h) h 0 [(0, vR (some x0)), (1, vI x1), (2, vR x2), (3, vI x3), (4, vI x4)] [] Q) : k_ct (tX2_init G l) [vR (some x0), vI x1, vR x2, vI x3, vI x4] h Q := by
  obtain ⟨h', r, K, q⟩ := K
  exact ⟨h', r, k_CtOf (by decide +kernel) (Nat.le_of_ble_eq_true rfl) K hfl, q⟩

theorem bX2_init_0 {h0 h : k_H} {Q : k_H → k_R → Prop} {x0 : Nat} {x1 x3 x4 : Int32} {x2 : Option Nat} {fs1 : List k_V} (o1 : h.1 x0 = some (k_o 5 fs1)) (z1 : fs1.length = 4) (K : k_X (jX2_init G l h0) (k_up h x0 (k_o 5 (fs1.set 0 (vI x1)))) 9 [(0, vR (some x0)), (2, vR x2), (3, vI x3), (4, vI x4)] [] Q) : k_X (jX2_init G l h0) h 0 [(0, vR (some x0)), (1, vI x1), (2, vR x2), (3, vI x3), (4, vI x4)] [] Q := by
  obtain ⟨h', r, K, q⟩ := K
  exact ⟨h', r, j_aload_n dX2_init_0 rfl rfl <| j_objInit dX2_init_1 ko_X2_3 ko_inst ko_code (by decide) (Nat.le_of_ble_eq_true rfl) <| j_aload_n dX2_init_4 rfl rfl <| j_iload_n dX2_init_5 rfl rfl <| j_putF dX2_init_6 rfl kp_X2_9 o1 (k_ln z1 (by decide)) (k_fit_i _) rfl <| (j_pick [0, 2, 3, 4] rfl K), q⟩
theorem bX2_init_9 {h0 h : k_H} {Q : k_H → k_R → Prop} {x0 : Nat} {x2 : Option Nat} {x3 x4 : Int32} {fs1 : List k_V} (o1 : h.1 x0 = some (k_o 5 fs1)) (z1 : fs1.length = 4) (K : k_X (jX2_init G l h0) (k_up h x0 (k_o 5 (fs1.set 2 (vR x2)))) 14 [(0, vR (some x0)), (3, vI x3), (4, vI x4)] [] Q) : k_X (jX2_init G l h0) h 9 [(0, vR (some x0)), (2, vR x2), (3, vI x3), (4, vI x4)] [] Q := by
  obtain ⟨h', r, K, q⟩ := K
  exact ⟨h', r, j_aload_n dX2_init_9 rfl rfl <| j_aload_n dX2_init_10 rfl rfl <| j_putf dX2_init_11 kp_X2_15 o1 (k_ln z1 (by decide)) (k_fit_r _ _) rfl <| (j_pick [0, 2, 3] rfl K), q⟩
theorem bX2_init_14 {h0 h : k_H} {Q : k_H → k_R → Prop} {x0 : Nat} {x3 x4 : Int32} {fs1 : List k_V} (o1 : h.1 x0 = some (k_o 5 fs1)) (z1 : fs1.length = 4) (K : k_X (jX2_init G l h0) (k_up h x0 (k_o 5 (fs1.set 3 (vI x3)))) 19 [(0, vR (some x0)), (4, vI x4)] [] Q) : k_X (jX2_init G l h0) h 14 [(0, vR (some x0)), (3, vI x3), (4, vI x4)] [] Q := by
  obtain ⟨h', r, K, q⟩ := K
  exact ⟨h', r, j_aload_n dX2_init_14 rfl rfl <| j_iload_n dX2_init_15 rfl rfl <| j_putf dX2_init_16 kp_X2_19 o1 (k_ln z1 (by decide)) (k_fit_i _) rfl <| (j_pick [0, 2] rfl K), q⟩
theorem bX2_init_19 {h0 h : k_H} {Q : k_H → k_R → Prop} {x0 : Nat} {x4 : Int32} {fs1 : List k_V} (o1 : h.1 x0 = some (k_o 5 fs1)) (z1 : fs1.length = 4) (K : k_X (jX2_init G l h0) (k_up h x0 (k_o 5 (fs1.set 1 (vI x4)))) 25 [] [] Q) : k_X (jX2_init G l h0) h 19 [(0, vR (some x0)), (4, vI x4)] [] Q := by
  obtain ⟨h', r, K, q⟩ := K
  exact ⟨h', r, j_aload_n dX2_init_19 rfl rfl <| j_iload dX2_init_20 rfl <| j_putF dX2_init_22 rfl kp_X2_22 o1 (k_ln z1 (by decide)) (k_fit_i _) rfl <| (j_pick [] rfl K), q⟩
theorem bX2_init_25 {h0 h : k_H} {Q : k_H → k_R → Prop} (q : Q h (.inl none)) : k_X (jX2_init G l h0) h 25 [] [] Q := by
  exact ⟨_, _, j_vret dX2_init_25 rfl, q⟩
theorem eX2_low {G : k_G} {l : Launch} (hfl : l.flags = flags0) {h : k_H} {Q : k_H → k_R → Prop} {x0 : Nat} (K : k_X (jX2_low G l h) h 0 [(0, vR (some x0))] [] Q) : k_ct (tX2_low G l) [vR (some x0)] h Q := by
  obtain ⟨h', r, K, q⟩ := K
  exact ⟨h', r, k_CtOf (by decide +kernel) (Nat.le_of_ble_eq_true rfl) K hfl, q⟩

theorem bX2_low_0 {h0 h : k_H} {Q : k_H → k_R → Prop} {x0 : Nat} {f1_1 : Int32} {fs1 : List k_V} (o1 : h.1 x0 = some (k_o 5 fs1)) (g1_1 : fs1[1]? = some (vI f1_1)) {P : k_H → Int64 → Prop} (c : k_ctj (tX11_lowOf G l) [vI f1_1, vI 10000] h P) (K : ∀ h1 v, P h1 v → k_X (jX2_low G l h0) h1 10 [] [vJ v] Q) : k_X (jX2_low G l h0) h 0 [(0, vR (some x0))] [] Q := by
  obtain ⟨h1, v, c, p⟩ := c
  obtain ⟨h', r, K, q⟩ := K h1 v p
  exact ⟨h', r, j_aload_n dX2_low_0 rfl rfl <| j_getf dX2_low_1 kf_X2_22 o1 g1_1 <| j_sipush (v := 10000) dX2_low_4 (by decide) <| j_callSN (v := some (vJ v)) (as := [vI f1_1, vI 10000]) dX2_low_7 kc_X2_25 ks_yX11_lowOf rfl rfl (by decide) (Nat.le_of_ble_eq_true rfl) c (j_pick [] rfl K), q⟩
theorem bX2_low_10 {h0 h : k_H} {Q : k_H → k_R → Prop} {s0 : Int64} (q : Q h (.inl (some (vJ s0)))) : k_X (jX2_low G l h0) h 10 [] [vJ s0] Q := by
  exact ⟨_, _, j_lret dX2_low_10 rfl, q⟩
theorem eX2_high {G : k_G} {l : Launch} (hfl : l.flags = flags0) {h : k_H} {Q : k_H → k_R → Prop} {x0 : Nat} (K : k_X (jX2_high G l h) h 0 [(0, vR (some x0))] [] Q) : k_ct (tX2_high G l) [vR (some x0)] h Q := by
  obtain ⟨h', r, K, q⟩ := K
  exact ⟨h', r, k_CtOf (by decide +kernel) (Nat.le_of_ble_eq_true rfl) K hfl, q⟩

theorem bX2_high_0 {h0 h : k_H} {Q : k_H → k_R → Prop} {x0 : Nat} {f1_1 : Int32} {fs1 : List k_V} (o1 : h.1 x0 = some (k_o 5 fs1)) (g1_1 : fs1[1]? = some (vI f1_1)) {P : k_H → Int64 → Prop} (c : k_ctj (tX11_highOf G l) [vI f1_1, vI 10000] h P) (K : ∀ h1 v, P h1 v → k_X (jX2_high G l h0) h1 10 [] [vJ v] Q) : k_X (jX2_high G l h0) h 0 [(0, vR (some x0))] [] Q := by
  obtain ⟨h1, v, c, p⟩ := c
  obtain ⟨h', r, K, q⟩ := K h1 v p
  exact ⟨h', r, j_aload_n dX2_high_0 rfl rfl <| j_getf dX2_high_1 kf_X2_22 o1 g1_1 <| j_sipush (v := 10000) dX2_high_4 (by decide) <| j_callSN (v := some (vJ v)) (as := [vI f1_1, vI 10000]) dX2_high_7 kc_X2_29 ks_yX11_highOf rfl rfl (by decide) (Nat.le_of_ble_eq_true rfl) c (j_pick [] rfl K), q⟩
theorem bX2_high_10 {h0 h : k_H} {Q : k_H → k_R → Prop} {s0 : Int64} (q : Q h (.inl (some (vJ s0)))) : k_X (jX2_high G l h0) h 10 [] [vJ s0] Q := by
  exact ⟨_, _, j_lret dX2_high_10 rfl, q⟩
theorem eX3_init {G : k_G} {l : Launch} (hfl : l.flags = flags0) {h : k_H} {Q : k_H → k_R → Prop} {x0 : Nat} {x1 : Option Nat} {x2 : Int32} {x3 : Option Nat} {x4 : Option Nat} (K : k_X (jX3_init G l h) h 0 [(0, vR (some x0)), (1, vR x1), (2, vI x2), (3, vR x3), (4, vR x4)] [] Q) : k_ct (tX3_init G l) [vR (some x0), vR x1, vI x2, vR x3, vR x4] h Q := by
  obtain ⟨h', r, K, q⟩ := K
  exact ⟨h', r, k_CtOf (by decide +kernel) (Nat.le_of_ble_eq_true rfl) K hfl, q⟩

theorem bX3_init_0 {h0 h : k_H} {Q : k_H → k_R → Prop} {x0 : Nat} {x1 x3 x4 : Option Nat} {x2 : Int32} {fs1 : List k_V} (o1 : h.1 x0 = some (k_o 6 fs1)) (z1 : fs1.length = 6) (K : k_X (jX3_init G l h0) (k_up h x0 (k_o 6 (fs1.set 0 (vR x1)))) 9 [(0, vR (some x0)), (2, vI x2), (3, vR x3), (4, vR x4)] [] Q) : k_X (jX3_init G l h0) h 0 [(0, vR (some x0)), (1, vR x1), (2, vI x2), (3, vR x3), (4, vR x4)] [] Q := by
  obtain ⟨h', r, K, q⟩ := K
  exact ⟨h', r, j_aload_n dX3_init_0 rfl rfl <| j_objInit dX3_init_1 ko_X3_1 ko_inst ko_code (by decide) (Nat.le_of_ble_eq_true rfl) <| j_aload_n dX3_init_4 rfl rfl <| j_aload_n dX3_init_5 rfl rfl <| j_putF dX3_init_6 rfl kp_X3_7 o1 (k_ln z1 (by decide)) (k_fit_r _ _) rfl <| (j_pick [0, 2, 3, 4] rfl K), q⟩
theorem bX3_init_9 {h0 h : k_H} {Q : k_H → k_R → Prop} {x0 : Nat} {x2 : Int32} {x3 x4 : Option Nat} {fs1 : List k_V} (o1 : h.1 x0 = some (k_o 6 fs1)) (z1 : fs1.length = 6) (K : k_X (jX3_init G l h0) (k_up h x0 (k_o 6 (fs1.set 1 (vI x2)))) 14 [(0, vR (some x0)), (3, vR x3), (4, vR x4)] [] Q) : k_X (jX3_init G l h0) h 9 [(0, vR (some x0)), (2, vI x2), (3, vR x3), (4, vR x4)] [] Q := by
  obtain ⟨h', r, K, q⟩ := K
  exact ⟨h', r, j_aload_n dX3_init_9 rfl rfl <| j_iload_n dX3_init_10 rfl rfl <| j_putF dX3_init_11 rfl kp_X3_13 o1 (k_ln z1 (by decide)) (k_fit_i _) rfl <| (j_pick [0, 2, 3] rfl K), q⟩
theorem bX3_init_14 {h0 h : k_H} {Q : k_H → k_R → Prop} {x0 : Nat} {x3 x4 : Option Nat} {fs1 : List k_V} (o1 : h.1 x0 = some (k_o 6 fs1)) (z1 : fs1.length = 6) (K : k_X (jX3_init G l h0) (k_up h x0 (k_o 6 (fs1.set 2 (vR x3)))) 19 [(0, vR (some x0)), (4, vR x4)] [] Q) : k_X (jX3_init G l h0) h 14 [(0, vR (some x0)), (3, vR x3), (4, vR x4)] [] Q := by
  obtain ⟨h', r, K, q⟩ := K
  exact ⟨h', r, j_aload_n dX3_init_14 rfl rfl <| j_aload_n dX3_init_15 rfl rfl <| j_putF dX3_init_16 rfl kp_X3_17 o1 (k_ln z1 (by decide)) (k_fit_r _ _) rfl <| (j_pick [0, 2] rfl K), q⟩
theorem bX3_init_19 {h0 h : k_H} {Q : k_H → k_R → Prop} {x0 : Nat} {x4 : Option Nat} {fs1 : List k_V} (o1 : h.1 x0 = some (k_o 6 fs1)) (z1 : fs1.length = 6) (K : k_X (jX3_init G l h0) (k_up h x0 (k_o 6 (fs1.set 3 (vR x4)))) 25 [] [] Q) : k_X (jX3_init G l h0) h 19 [(0, vR (some x0)), (4, vR x4)] [] Q := by
  obtain ⟨h', r, K, q⟩ := K
  exact ⟨h', r, j_aload_n dX3_init_19 rfl rfl <| j_aload dX3_init_20 rfl <| j_putF dX3_init_22 rfl kp_X3_21 o1 (k_ln z1 (by decide)) (k_fit_r _ _) rfl <| (j_pick [] rfl K), q⟩
theorem bX3_init_25 {h0 h : k_H} {Q : k_H → k_R → Prop} (q : Q h (.inl none)) : k_X (jX3_init G l h0) h 25 [] [] Q := by
  exact ⟨_, _, j_vret dX3_init_25 rfl, q⟩
theorem eX3_alike {G : k_G} {l : Launch} (hfl : l.flags = flags0) {h : k_H} {Q : k_H → k_R → Prop} {x0 : Option Nat} {x1 : Option Nat} (K : k_X (jX3_alike G l h) h 0 [(0, vR x0), (1, vR x1)] [] Q) : k_ct (tX3_alike G l) [vR x0, vR x1] h Q := by
  obtain ⟨h', r, K, q⟩ := K
  exact ⟨h', r, k_CtOf (by decide +kernel) (Nat.le_of_ble_eq_true rfl) K hfl, q⟩

theorem bX3_alike_0 {h0 h : k_H} {Q : k_H → k_R → Prop} {x0 x1 : Option Nat} (K1 : x0 = none → k_X (jX3_alike G l h0) h 11 [(1, vR x1)] [] Q) (K2 : ∀ a, x0 = some a → k_X (jX3_alike G l h0) h 4 [(0, vR x0), (1, vR x1)] [] Q) : k_X (jX3_alike G l h0) h 0 [(0, vR x0), (1, vR x1)] [] Q := by
  rcases e9 : x0 with _ | a
  · obtain ⟨h', r, K, q⟩ := K1 e9
    subst e9
    exact ⟨h', r, j_aload_n dX3_alike_0 rfl rfl <| j_ifnull_t (tgt := 11) dX3_alike_1 (by decide) (j_pick [1] rfl K), q⟩
  · obtain ⟨h', r, K, q⟩ := K2 a e9
    subst e9
    exact ⟨h', r, j_aload_n dX3_alike_0 rfl rfl <| j_ifnull_f dX3_alike_1 K, q⟩
theorem bX3_alike_4 {h0 h : k_H} {Q : k_H → k_R → Prop} {x0 : Nat} {x1 : Option Nat} {f1_4 : Int32} {fs1 : List k_V} (o1 : h.1 x0 = some (k_o 6 fs1)) (g1_4 : fs1[4]? = some (vI f1_4)) (K1 : ¬ (f1_4 = 0) → k_X (jX3_alike G l h0) h 28 [(0, vR (some x0)), (1, vR x1)] [] Q) (K2 : f1_4 = 0 → k_X (jX3_alike G l h0) h 11 [(1, vR x1)] [] Q) : k_X (jX3_alike G l h0) h 4 [(0, vR (some x0)), (1, vR x1)] [] Q := by
  by_cases hc : f1_4 = 0
  · skip
    obtain ⟨h', r, K, q⟩ := K2 hc
    exact ⟨h', r, j_aload_n dX3_alike_4 rfl rfl <| j_getf dX3_alike_5 kf_X3_24 o1 g1_4 <| j_if_ne_f dX3_alike_8 28 (by decide) hc (j_pick [1] rfl K), q⟩
  · skip
    obtain ⟨h', r, K, q⟩ := K1 hc
    exact ⟨h', r, j_aload_n dX3_alike_4 rfl rfl <| j_getf dX3_alike_5 kf_X3_24 o1 g1_4 <| j_if_ne_t (tgt := 28) dX3_alike_8 (by decide) hc K, q⟩
theorem bX3_alike_11 {h0 h : k_H} {Q : k_H → k_R → Prop} {x1 : Option Nat} (K1 : x1 = none → k_X (jX3_alike G l h0) h 22 [] [] Q) (K2 : ∀ a, x1 = some a → k_X (jX3_alike G l h0) h 15 [(1, vR x1)] [] Q) : k_X (jX3_alike G l h0) h 11 [(1, vR x1)] [] Q := by
  rcases e9 : x1 with _ | a
  · obtain ⟨h', r, K, q⟩ := K1 e9
    subst e9
    exact ⟨h', r, j_aload_n dX3_alike_11 rfl rfl <| j_ifnull_t (tgt := 22) dX3_alike_12 (by decide) (j_pick [] rfl K), q⟩
  · obtain ⟨h', r, K, q⟩ := K2 a e9
    subst e9
    exact ⟨h', r, j_aload_n dX3_alike_11 rfl rfl <| j_ifnull_f dX3_alike_12 K, q⟩
theorem bX3_alike_15 {h0 h : k_H} {Q : k_H → k_R → Prop} {x1 : Nat} {f1_4 : Int32} {fs1 : List k_V} (o1 : h.1 x1 = some (k_o 6 fs1)) (g1_4 : fs1[4]? = some (vI f1_4)) (K1 : ¬ (f1_4 = 0) → k_X (jX3_alike G l h0) h 26 [] [] Q) (K2 : f1_4 = 0 → k_X (jX3_alike G l h0) h 22 [] [] Q) : k_X (jX3_alike G l h0) h 15 [(1, vR (some x1))] [] Q := by
  by_cases hc : f1_4 = 0
  · skip
    obtain ⟨h', r, K, q⟩ := K2 hc
    exact ⟨h', r, j_aload_n dX3_alike_15 rfl rfl <| j_getf dX3_alike_16 kf_X3_24 o1 g1_4 <| j_if_ne_f dX3_alike_19 26 (by decide) hc (j_pick [] rfl K), q⟩
  · skip
    obtain ⟨h', r, K, q⟩ := K1 hc
    exact ⟨h', r, j_aload_n dX3_alike_15 rfl rfl <| j_getf dX3_alike_16 kf_X3_24 o1 g1_4 <| j_if_ne_t (tgt := 26) dX3_alike_19 (by decide) hc (j_pick [] rfl K), q⟩
theorem bX3_alike_22 {h0 h : k_H} {Q : k_H → k_R → Prop} (K : k_X (jX3_alike G l h0) h 27 [] [vI 1] Q) : k_X (jX3_alike G l h0) h 22 [] [] Q := by
  obtain ⟨h', r, K, q⟩ := K
  exact ⟨h', r, j_iconst (v := 1) dX3_alike_22 (by decide) <| j_goto (tgt := 27) dX3_alike_23 (by decide) <| K, q⟩
theorem bX3_alike_26 {h0 h : k_H} {Q : k_H → k_R → Prop} (K : k_X (jX3_alike G l h0) h 27 [] [vI 0] Q) : k_X (jX3_alike G l h0) h 26 [] [] Q := by
  obtain ⟨h', r, K, q⟩ := K
  exact ⟨h', r, j_iconst (v := 0) dX3_alike_26 (by decide) <| K, q⟩
theorem bX3_alike_27 {h0 h : k_H} {Q : k_H → k_R → Prop} {s0 : Int32} (y1 : k_bl s0) (q : Q h (.inl (some (vI s0)))) : k_X (jX3_alike G l h0) h 27 [] [vI s0] Q := by
  exact ⟨_, _, j_zret dX3_alike_27 rfl y1, q⟩
theorem bX3_alike_28 {h0 h : k_H} {Q : k_H → k_R → Prop} {x0 x1 : Option Nat} (K1 : x1 = none → k_X (jX3_alike G l h0) h 54 [] [] Q) (K2 : ∀ a, x1 = some a → k_X (jX3_alike G l h0) h 32 [(0, vR x0), (1, vR x1)] [] Q) : k_X (jX3_alike G l h0) h 28 [(0, vR x0), (1, vR x1)] [] Q := by
  rcases e9 : x1 with _ | a
  · obtain ⟨h', r, K, q⟩ := K1 e9
    subst e9
    exact ⟨h', r, j_aload_n dX3_alike_28 rfl rfl <| j_ifnull_t (tgt := 54) dX3_alike_29 (by decide) (j_pick [] rfl K), q⟩
  · obtain ⟨h', r, K, q⟩ := K2 a e9
    subst e9
    exact ⟨h', r, j_aload_n dX3_alike_28 rfl rfl <| j_ifnull_f dX3_alike_29 K, q⟩
theorem bX3_alike_32 {h0 h : k_H} {Q : k_H → k_R → Prop} {x0 : Option Nat} {x1 : Nat} {f1_4 : Int32} {fs1 : List k_V} (o1 : h.1 x1 = some (k_o 6 fs1)) (g1_4 : fs1[4]? = some (vI f1_4)) (K1 : f1_4 = 0 → k_X (jX3_alike G l h0) h 54 [] [] Q) (K2 : ¬ (f1_4 = 0) → k_X (jX3_alike G l h0) h 39 [(0, vR x0), (1, vR (some x1))] [] Q) : k_X (jX3_alike G l h0) h 32 [(0, vR x0), (1, vR (some x1))] [] Q := by
  by_cases hc : f1_4 = 0
  · skip
    obtain ⟨h', r, K, q⟩ := K1 hc
    exact ⟨h', r, j_aload_n dX3_alike_32 rfl rfl <| j_getf dX3_alike_33 kf_X3_24 o1 g1_4 <| j_if_eq_t (tgt := 54) dX3_alike_36 (by decide) hc (j_pick [] rfl K), q⟩
  · skip
    obtain ⟨h', r, K, q⟩ := K2 hc
    exact ⟨h', r, j_aload_n dX3_alike_32 rfl rfl <| j_getf dX3_alike_33 kf_X3_24 o1 g1_4 <| j_if_eq_f dX3_alike_36 54 (by decide) hc K, q⟩
theorem bX3_alike_39 {h0 h : k_H} {Q : k_H → k_R → Prop} {x0 x1 : Nat} {f1_5 f2_5 : Int32} {fs1 : List k_V} (o1 : h.1 x0 = some (k_o 6 fs1)) (g1_5 : fs1[5]? = some (vI f1_5)) {fs2 : List k_V} (o2 : h.1 x1 = some (k_o 6 fs2)) (g2_5 : fs2[5]? = some (vI f2_5)) (K1 : ¬ (f1_5 = f2_5) → k_X (jX3_alike G l h0) h 54 [] [] Q) (K2 : f1_5 = f2_5 → k_X (jX3_alike G l h0) h 50 [] [] Q) : k_X (jX3_alike G l h0) h 39 [(0, vR (some x0)), (1, vR (some x1))] [] Q := by
  by_cases hc : f1_5 = f2_5
  · skip
    obtain ⟨h', r, K, q⟩ := K2 hc
    exact ⟨h', r, j_aload_n dX3_alike_39 rfl rfl <| j_getf dX3_alike_40 kf_X3_28 o1 g1_5 <| j_aload_n dX3_alike_43 rfl rfl <| j_getf dX3_alike_44 kf_X3_28 o2 g2_5 <| j_icmp_ne_f dX3_alike_47 54 (by decide) hc (j_pick [] rfl K), q⟩
  · skip
    obtain ⟨h', r, K, q⟩ := K1 hc
    exact ⟨h', r, j_aload_n dX3_alike_39 rfl rfl <| j_getf dX3_alike_40 kf_X3_28 o1 g1_5 <| j_aload_n dX3_alike_43 rfl rfl <| j_getf dX3_alike_44 kf_X3_28 o2 g2_5 <| j_icmp_ne_t (tgt := 54) dX3_alike_47 (by decide) hc (j_pick [] rfl K), q⟩
theorem bX3_alike_50 {h0 h : k_H} {Q : k_H → k_R → Prop} (K : k_X (jX3_alike G l h0) h 55 [] [vI 1] Q) : k_X (jX3_alike G l h0) h 50 [] [] Q := by
  obtain ⟨h', r, K, q⟩ := K
  exact ⟨h', r, j_iconst (v := 1) dX3_alike_50 (by decide) <| j_goto (tgt := 55) dX3_alike_51 (by decide) <| K, q⟩
theorem bX3_alike_54 {h0 h : k_H} {Q : k_H → k_R → Prop} (K : k_X (jX3_alike G l h0) h 55 [] [vI 0] Q) : k_X (jX3_alike G l h0) h 54 [] [] Q := by
  obtain ⟨h', r, K, q⟩ := K
  exact ⟨h', r, j_iconst (v := 0) dX3_alike_54 (by decide) <| K, q⟩
theorem bX3_alike_55 {h0 h : k_H} {Q : k_H → k_R → Prop} {s0 : Int32} (y1 : k_bl s0) (q : Q h (.inl (some (vI s0)))) : k_X (jX3_alike G l h0) h 55 [] [vI s0] Q := by
  exact ⟨_, _, j_zret dX3_alike_55 rfl y1, q⟩
theorem eX4_init {G : k_G} {l : Launch} (hfl : l.flags = flags0) {h : k_H} {Q : k_H → k_R → Prop} {x0 : Nat} {x1 : Int64} (K : k_X (jX4_init G l h) h 0 [(0, vR (some x0)), (1, vJ x1)] [] Q) : k_ct (tX4_init G l) [vR (some x0), vJ x1] h Q := by
  obtain ⟨h', r, K, q⟩ := K
  exact ⟨h', r, k_CtOf (by decide +kernel) (Nat.le_of_ble_eq_true rfl) K hfl, q⟩

theorem bX4_init_0 {h0 h : k_H} {Q : k_H → k_R → Prop} {x0 : Nat} {x1 : Int64} {fs1 : List k_V} (o1 : h.1 x0 = some (k_o 7 fs1)) (z1 : fs1.length = 2) (K : k_X (jX4_init G l h0) (k_up h x0 (k_o 7 (fs1.set 1 (vR none)))) 9 [(0, vR (some x0)), (1, vJ x1)] [] Q) : k_X (jX4_init G l h0) h 0 [(0, vR (some x0)), (1, vJ x1)] [] Q := by
  obtain ⟨h', r, K, q⟩ := K
  exact ⟨h', r, j_aload_n dX4_init_0 rfl rfl <| j_objInit dX4_init_1 ko_X4_1 ko_inst ko_code (by decide) (Nat.le_of_ble_eq_true rfl) <| j_aload_n dX4_init_4 rfl rfl <| j_null dX4_init_5 <| j_putf dX4_init_6 kp_X4_7 o1 (k_ln z1 (by decide)) (k_fit_r _ _) rfl <| K, q⟩
theorem bX4_init_9 {h0 h : k_H} {Q : k_H → k_R → Prop} {x0 : Nat} {x1 : Int64} {fs1 : List k_V} (o1 : h.1 x0 = some (k_o 7 fs1)) (z1 : fs1.length = 2) (K : k_X (jX4_init G l h0) (k_up h x0 (k_o 7 (fs1.set 0 (vJ x1)))) 14 [] [] Q) : k_X (jX4_init G l h0) h 9 [(0, vR (some x0)), (1, vJ x1)] [] Q := by
  obtain ⟨h', r, K, q⟩ := K
  exact ⟨h', r, j_aload_n dX4_init_9 rfl rfl <| j_lload_n dX4_init_10 rfl rfl <| j_putF dX4_init_11 rfl kp_X4_13 o1 (k_ln z1 (by decide)) (k_fit_j _) rfl <| (j_pick [] rfl K), q⟩
theorem bX4_init_14 {h0 h : k_H} {Q : k_H → k_R → Prop} (q : Q h (.inl none)) : k_X (jX4_init G l h0) h 14 [] [] Q := by
  exact ⟨_, _, j_vret dX4_init_14 rfl, q⟩
theorem eX4_entryIn {G : k_G} {l : Launch} (hfl : l.flags = flags0) {h : k_H} {Q : k_H → k_R → Prop} {x0 : Nat} {x1 : Int32} (K : k_X (jX4_entryIn G l h) h 0 [(0, vR (some x0)), (1, vI x1)] [] Q) : k_ct (tX4_entryIn G l) [vR (some x0), vI x1] h Q := by
  obtain ⟨h', r, K, q⟩ := K
  exact ⟨h', r, k_CtOf (by decide +kernel) (Nat.le_of_ble_eq_true rfl) K hfl, q⟩

theorem bX4_entryIn_0 {h0 h : k_H} {Q : k_H → k_R → Prop} {x0 : Nat} {x1 : Int32} {f1_1 : Option Nat} {fs1 : List k_V} (o1 : h.1 x0 = some (k_o 7 fs1)) (g1_1 : fs1[1]? = some (vR f1_1)) (K : k_X (jX4_entryIn G l h0) h 5 [(1, vI x1), (2, vR f1_1)] [] Q) : k_X (jX4_entryIn G l h0) h 0 [(0, vR (some x0)), (1, vI x1)] [] Q := by
  obtain ⟨h', r, K, q⟩ := K
  exact ⟨h', r, j_aload_n dX4_entryIn_0 rfl rfl <| j_getf dX4_entryIn_1 kf_X4_7 o1 g1_1 <| j_astore_n dX4_entryIn_4 rfl (by decide) rfl <| (j_pick [1, 2] rfl K), q⟩
theorem bX4_entryIn_5 {h0 h : k_H} {Q : k_H → k_R → Prop} {x1 : Int32} {x2 : Option Nat} (K1 : x2 = none → k_X (jX4_entryIn G l h0) h 25 [(2, vR x2)] [] Q) (K2 : ∀ a, x2 = some a → k_X (jX4_entryIn G l h0) h 9 [(1, vI x1), (2, vR x2)] [] Q) : k_X (jX4_entryIn G l h0) h 5 [(1, vI x1), (2, vR x2)] [] Q := by
  rcases e9 : x2 with _ | a
  · obtain ⟨h', r, K, q⟩ := K1 e9
    subst e9
    exact ⟨h', r, j_aload_n dX4_entryIn_5 rfl rfl <| j_ifnull_t (tgt := 25) dX4_entryIn_6 (by decide) (j_pick [1] rfl K), q⟩
  · obtain ⟨h', r, K, q⟩ := K2 a e9
    subst e9
    exact ⟨h', r, j_aload_n dX4_entryIn_5 rfl rfl <| j_ifnull_f dX4_entryIn_6 K, q⟩
theorem bX4_entryIn_9 {h0 h : k_H} {Q : k_H → k_R → Prop} {x1 f1_1 : Int32} {x2 : Nat} {fs1 : List k_V} (o1 : h.1 x2 = some (k_o 6 fs1)) (g1_1 : fs1[1]? = some (vI f1_1)) (K1 : f1_1 ≤ x1 → k_X (jX4_entryIn G l h0) h 25 [(2, vR (some x2))] [] Q) (K2 : ¬ (f1_1 ≤ x1) → k_X (jX4_entryIn G l h0) h 17 [(1, vI x1), (2, vR (some x2))] [] Q) : k_X (jX4_entryIn G l h0) h 9 [(1, vI x1), (2, vR (some x2))] [] Q := by
  by_cases hc : f1_1 ≤ x1
  · skip
    obtain ⟨h', r, K, q⟩ := K1 hc
    exact ⟨h', r, j_aload_n dX4_entryIn_9 rfl rfl <| j_getf dX4_entryIn_10 kf_X4_17 o1 g1_1 <| j_iload_n dX4_entryIn_13 rfl rfl <| j_icmp_le_t (tgt := 25) dX4_entryIn_14 (by decide) hc (j_pick [1] rfl K), q⟩
  · skip
    obtain ⟨h', r, K, q⟩ := K2 hc
    exact ⟨h', r, j_aload_n dX4_entryIn_9 rfl rfl <| j_getf dX4_entryIn_10 kf_X4_17 o1 g1_1 <| j_iload_n dX4_entryIn_13 rfl rfl <| j_icmp_le_f dX4_entryIn_14 25 (by decide) hc K, q⟩
theorem bX4_entryIn_17 {h0 h : k_H} {Q : k_H → k_R → Prop} {x1 : Int32} {x2 : Nat} {f1_2 : Option Nat} {fs1 : List k_V} (o1 : h.1 x2 = some (k_o 6 fs1)) (g1_2 : fs1[2]? = some (vR f1_2)) (K : k_X (jX4_entryIn G l h0) h 5 [(1, vI x1), (2, vR f1_2)] [] Q) : k_X (jX4_entryIn G l h0) h 17 [(1, vI x1), (2, vR (some x2))] [] Q := by
  obtain ⟨h', r, K, q⟩ := K
  exact ⟨h', r, j_aload_n dX4_entryIn_17 rfl rfl <| j_getf dX4_entryIn_18 kf_X4_23 o1 g1_2 <| j_astore_n dX4_entryIn_21 rfl (by decide) rfl <| j_goto (tgt := 5) dX4_entryIn_22 (by decide) <| K, q⟩
theorem bX4_entryIn_25 {h0 h : k_H} {Q : k_H → k_R → Prop} {x2 : Option Nat} (q : Q h (.inl (some (vR x2)))) : k_X (jX4_entryIn G l h0) h 25 [(2, vR x2)] [] Q := by
  exact ⟨_, _, j_aload_n dX4_entryIn_25 rfl rfl <| j_aret dX4_entryIn_26 rfl (Or.inl ⟨_, rfl⟩), q⟩
theorem eX4_isHeld {G : k_G} {l : Launch} (hfl : l.flags = flags0) {h : k_H} {Q : k_H → k_R → Prop} {x0 : Nat} (K : k_X (jX4_isHeld G l h) h 0 [(0, vR (some x0))] [] Q) : k_ct (tX4_isHeld G l) [vR (some x0)] h Q := by
  obtain ⟨h', r, K, q⟩ := K
  exact ⟨h', r, k_CtOf (by decide +kernel) (Nat.le_of_ble_eq_true rfl) K hfl, q⟩

theorem bX4_isHeld_0 {h0 h : k_H} {Q : k_H → k_R → Prop} {x0 : Nat} {f1_1 : Option Nat} {fs1 : List k_V} (o1 : h.1 x0 = some (k_o 7 fs1)) (g1_1 : fs1[1]? = some (vR f1_1)) (K1 : f1_1 = none → k_X (jX4_isHeld G l h0) h 21 [] [] Q) (K2 : ∀ a, f1_1 = some a → k_X (jX4_isHeld G l h0) h 7 [(0, vR (some x0))] [] Q) : k_X (jX4_isHeld G l h0) h 0 [(0, vR (some x0))] [] Q := by
  rcases e9 : f1_1 with _ | a
  · obtain ⟨h', r, K, q⟩ := K1 e9
    subst e9
    exact ⟨h', r, j_aload_n dX4_isHeld_0 rfl rfl <| j_getf dX4_isHeld_1 kf_X4_7 o1 g1_1 <| j_ifnull_t (tgt := 21) dX4_isHeld_4 (by decide) (j_pick [] rfl K), q⟩
  · obtain ⟨h', r, K, q⟩ := K2 a e9
    subst e9
    exact ⟨h', r, j_aload_n dX4_isHeld_0 rfl rfl <| j_getf dX4_isHeld_1 kf_X4_7 o1 g1_1 <| j_ifnull_f dX4_isHeld_4 K, q⟩
theorem bX4_isHeld_7 {h0 h : k_H} {Q : k_H → k_R → Prop} {x0 f1_1 : Nat} {f2_4 : Int32} {fs1 : List k_V} (o1 : h.1 x0 = some (k_o 7 fs1)) (g1_1 : fs1[1]? = some (vR (some f1_1))) {fs2 : List k_V} (o2 : h.1 f1_1 = some (k_o 6 fs2)) (g2_4 : fs2[4]? = some (vI f2_4)) (K1 : f2_4 = 0 → k_X (jX4_isHeld G l h0) h 21 [] [] Q) (K2 : ¬ (f2_4 = 0) → k_X (jX4_isHeld G l h0) h 17 [] [] Q) : k_X (jX4_isHeld G l h0) h 7 [(0, vR (some x0))] [] Q := by
  by_cases hc : f2_4 = 0
  · skip
    obtain ⟨h', r, K, q⟩ := K1 hc
    exact ⟨h', r, j_aload_n dX4_isHeld_7 rfl rfl <| j_getf dX4_isHeld_8 kf_X4_7 o1 g1_1 <| j_getf dX4_isHeld_11 kf_X4_26 o2 g2_4 <| j_if_eq_t (tgt := 21) dX4_isHeld_14 (by decide) hc (j_pick [] rfl K), q⟩
  · skip
    obtain ⟨h', r, K, q⟩ := K2 hc
    exact ⟨h', r, j_aload_n dX4_isHeld_7 rfl rfl <| j_getf dX4_isHeld_8 kf_X4_7 o1 g1_1 <| j_getf dX4_isHeld_11 kf_X4_26 o2 g2_4 <| j_if_eq_f dX4_isHeld_14 21 (by decide) hc (j_pick [] rfl K), q⟩
theorem bX4_isHeld_17 {h0 h : k_H} {Q : k_H → k_R → Prop} (K : k_X (jX4_isHeld G l h0) h 22 [] [vI 1] Q) : k_X (jX4_isHeld G l h0) h 17 [] [] Q := by
  obtain ⟨h', r, K, q⟩ := K
  exact ⟨h', r, j_iconst (v := 1) dX4_isHeld_17 (by decide) <| j_goto (tgt := 22) dX4_isHeld_18 (by decide) <| K, q⟩
theorem bX4_isHeld_21 {h0 h : k_H} {Q : k_H → k_R → Prop} (K : k_X (jX4_isHeld G l h0) h 22 [] [vI 0] Q) : k_X (jX4_isHeld G l h0) h 21 [] [] Q := by
  obtain ⟨h', r, K, q⟩ := K
  exact ⟨h', r, j_iconst (v := 0) dX4_isHeld_21 (by decide) <| K, q⟩
theorem bX4_isHeld_22 {h0 h : k_H} {Q : k_H → k_R → Prop} {s0 : Int32} (y1 : k_bl s0) (q : Q h (.inl (some (vI s0)))) : k_X (jX4_isHeld G l h0) h 22 [] [vI s0] Q := by
  exact ⟨_, _, j_zret dX4_isHeld_22 rfl y1, q⟩
theorem eX4_turnedIn {G : k_G} {l : Launch} (hfl : l.flags = flags0) {h : k_H} {Q : k_H → k_R → Prop} {x0 : Nat} {x1 : Int32} (K : k_X (jX4_turnedIn G l h) h 0 [(0, vR (some x0)), (1, vI x1)] [] Q) : k_ct (tX4_turnedIn G l) [vR (some x0), vI x1] h Q := by
  obtain ⟨h', r, K, q⟩ := K
  exact ⟨h', r, k_CtOf (by decide +kernel) (Nat.le_of_ble_eq_true rfl) K hfl, q⟩

theorem bX4_turnedIn_0 {h0 h : k_H} {Q : k_H → k_R → Prop} {x0 : Nat} {x1 : Int32} (w : k_is h x0 7) {P : k_H → Option Nat → Prop} (c : k_ctr (tX4_entryIn G l) [vR (some x0), vI x1] h P) (K : ∀ h1 v, P h1 v → k_X (jX4_turnedIn G l h0) h1 5 [(0, vR (some x0)), (1, vI x1)] [vR v] Q) : k_X (jX4_turnedIn G l h0) h 0 [(0, vR (some x0)), (1, vI x1)] [] Q := by
  obtain ⟨h1, v, c, p⟩ := c
  obtain ⟨h', r, K, q⟩ := K h1 v p
  exact ⟨h', r, j_aload_n dX4_turnedIn_0 rfl rfl <| j_iload_n dX4_turnedIn_1 rfl rfl <| j_callV (v := some (vR v)) (as := [vI x1]) dX4_turnedIn_2 kc_X4_30 rfl rfl w (by decide) (Nat.le_of_ble_eq_true rfl) c K, q⟩
theorem bX4_turnedIn_5 {h0 h : k_H} {Q : k_H → k_R → Prop} {x0 : Nat} {x1 : Int32} {s0 : Option Nat} (w : k_is h x0 7) {P : k_H → Option Nat → Prop} (c : k_ctr (tX4_entryIn G l) [vR (some x0), vI (x1 - 1)] h P) (K : ∀ h1 v, P h1 v → k_X (jX4_turnedIn G l h0) h1 12 [] [vR v, vR s0] Q) : k_X (jX4_turnedIn G l h0) h 5 [(0, vR (some x0)), (1, vI x1)] [vR s0] Q := by
  obtain ⟨h1, v, c, p⟩ := c
  obtain ⟨h', r, K, q⟩ := K h1 v p
  exact ⟨h', r, j_aload_n dX4_turnedIn_5 rfl rfl <| j_iload_n dX4_turnedIn_6 rfl rfl <| j_iconst (v := 1) dX4_turnedIn_7 (by decide) <| j_isub dX4_turnedIn_8 <| j_callV (v := some (vR v)) (as := [vI (x1 - 1)]) dX4_turnedIn_9 kc_X4_30 rfl rfl w (by decide) (Nat.le_of_ble_eq_true rfl) c (j_pick [] rfl K), q⟩
theorem bX4_turnedIn_12 {h0 h : k_H} {Q : k_H → k_R → Prop} {s0 s1 : Option Nat} {P : k_H → Int32 → Prop} (c : k_cti (tX3_alike G l) [vR s0, vR s1] h P) (K : ∀ h1 v, P h1 v → k_X (jX4_turnedIn G l h0) h1 15 [] [vI v] Q) : k_X (jX4_turnedIn G l h0) h 12 [] [vR s1, vR s0] Q := by
  obtain ⟨h1, v, c, p⟩ := c
  obtain ⟨h', r, K, q⟩ := K h1 v p
  exact ⟨h', r, j_callS (v := some (vI v)) (as := [vR s0, vR s1]) dX4_turnedIn_12 kc_X4_34 rfl rfl (by decide) (Nat.le_of_ble_eq_true rfl) c K, q⟩
theorem bX4_turnedIn_15 {h0 h : k_H} {Q : k_H → k_R → Prop} {s0 : Int32} (K1 : ¬ (s0 = 0) → k_X (jX4_turnedIn G l h0) h 22 [] [] Q) (K2 : s0 = 0 → k_X (jX4_turnedIn G l h0) h 18 [] [] Q) : k_X (jX4_turnedIn G l h0) h 15 [] [vI s0] Q := by
  by_cases hc : s0 = 0
  · skip
    obtain ⟨h', r, K, q⟩ := K2 hc
    exact ⟨h', r, j_if_ne_f dX4_turnedIn_15 22 (by decide) hc K, q⟩
  · skip
    obtain ⟨h', r, K, q⟩ := K1 hc
    exact ⟨h', r, j_if_ne_t (tgt := 22) dX4_turnedIn_15 (by decide) hc K, q⟩
theorem bX4_turnedIn_18 {h0 h : k_H} {Q : k_H → k_R → Prop} (K : k_X (jX4_turnedIn G l h0) h 23 [] [vI 1] Q) : k_X (jX4_turnedIn G l h0) h 18 [] [] Q := by
  obtain ⟨h', r, K, q⟩ := K
  exact ⟨h', r, j_iconst (v := 1) dX4_turnedIn_18 (by decide) <| j_goto (tgt := 23) dX4_turnedIn_19 (by decide) <| K, q⟩
theorem bX4_turnedIn_22 {h0 h : k_H} {Q : k_H → k_R → Prop} (K : k_X (jX4_turnedIn G l h0) h 23 [] [vI 0] Q) : k_X (jX4_turnedIn G l h0) h 22 [] [] Q := by
  obtain ⟨h', r, K, q⟩ := K
  exact ⟨h', r, j_iconst (v := 0) dX4_turnedIn_22 (by decide) <| K, q⟩
theorem bX4_turnedIn_23 {h0 h : k_H} {Q : k_H → k_R → Prop} {s0 : Int32} (y1 : k_bl s0) (q : Q h (.inl (some (vI s0)))) : k_X (jX4_turnedIn G l h0) h 23 [] [vI s0] Q := by
  exact ⟨_, _, j_zret dX4_turnedIn_23 rfl y1, q⟩
theorem eX5_init {G : k_G} {l : Launch} (hfl : l.flags = flags0) {h : k_H} {Q : k_H → k_R → Prop} {x0 : Nat} {x1 : Int64} {x3 : Int32} (K : k_X (jX5_init G l h) h 0 [(0, vR (some x0)), (1, vJ x1), (3, vI x3)] [] Q) : k_ct (tX5_init G l) [vR (some x0), vJ x1, vI x3] h Q := by
  obtain ⟨h', r, K, q⟩ := K
  exact ⟨h', r, k_CtOf (by decide +kernel) (Nat.le_of_ble_eq_true rfl) K hfl, q⟩

theorem bX5_init_0 {h0 h : k_H} {Q : k_H → k_R → Prop} {x0 : Nat} {x1 : Int64} {x3 : Int32} {fs1 : List k_V} (o1 : h.1 x0 = some (k_o 8 fs1)) (z1 : fs1.length = 3) (K : k_X (jX5_init G l h0) (k_up h x0 (k_o 8 (fs1.set 2 (vI 0)))) 9 [(0, vR (some x0)), (1, vJ x1), (3, vI x3)] [] Q) : k_X (jX5_init G l h0) h 0 [(0, vR (some x0)), (1, vJ x1), (3, vI x3)] [] Q := by
  obtain ⟨h', r, K, q⟩ := K
  exact ⟨h', r, j_aload_n dX5_init_0 rfl rfl <| j_objInit dX5_init_1 ko_X5_1 ko_inst ko_code (by decide) (Nat.le_of_ble_eq_true rfl) <| j_aload_n dX5_init_4 rfl rfl <| j_iconst (v := 0) dX5_init_5 (by decide) <| j_putf dX5_init_6 kp_X5_7 o1 (k_ln z1 (by decide)) (k_fit_i _) rfl <| K, q⟩
theorem bX5_init_9 {h0 h : k_H} {Q : k_H → k_R → Prop} {x0 : Nat} {x1 : Int64} {x3 : Int32} {fs1 : List k_V} (o1 : h.1 x0 = some (k_o 8 fs1)) (z1 : fs1.length = 3) (K : k_X (jX5_init G l h0) (k_up h x0 (k_o 8 (fs1.set 0 (vJ x1)))) 14 [(0, vR (some x0)), (3, vI x3)] [] Q) : k_X (jX5_init G l h0) h 9 [(0, vR (some x0)), (1, vJ x1), (3, vI x3)] [] Q := by
  obtain ⟨h', r, K, q⟩ := K
  exact ⟨h', r, j_aload_n dX5_init_9 rfl rfl <| j_lload_n dX5_init_10 rfl rfl <| j_putF dX5_init_11 rfl kp_X5_13 o1 (k_ln z1 (by decide)) (k_fit_j _) rfl <| (j_pick [0, 2] rfl K), q⟩
theorem bX5_init_14 {h0 h : k_H} {Q : k_H → k_R → Prop} {x0 : Nat} {x3 : Int32} {fs1 : List k_V} (o1 : h.1 x0 = some (k_o 8 fs1)) (z1 : fs1.length = 3) (K : k_X (jX5_init G l h0) (k_up h x0 (k_o 8 (fs1.set 1 (vI x3)))) 19 [] [] Q) : k_X (jX5_init G l h0) h 14 [(0, vR (some x0)), (3, vI x3)] [] Q := by
  obtain ⟨h', r, K, q⟩ := K
  exact ⟨h', r, j_aload_n dX5_init_14 rfl rfl <| j_iload_n dX5_init_15 rfl rfl <| j_putF dX5_init_16 rfl kp_X5_17 o1 (k_ln z1 (by decide)) (k_fit_i _) rfl <| (j_pick [] rfl K), q⟩
theorem bX5_init_19 {h0 h : k_H} {Q : k_H → k_R → Prop} (q : Q h (.inl none)) : k_X (jX5_init G l h0) h 19 [] [] Q := by
  exact ⟨_, _, j_vret dX5_init_19 rfl, q⟩
theorem eX6_init {G : k_G} {l : Launch} (hfl : l.flags = flags0) {h : k_H} {Q : k_H → k_R → Prop} {x0 : Nat} (K : k_X (jX6_init G l h) h 0 [(0, vR (some x0))] [] Q) : k_ct (tX6_init G l) [vR (some x0)] h Q := by
  obtain ⟨h', r, K, q⟩ := K
  exact ⟨h', r, k_CtOf (by decide +kernel) (Nat.le_of_ble_eq_true rfl) K hfl, q⟩

theorem bX6_init_0 {h0 h : k_H} {Q : k_H → k_R → Prop} {x0 : Nat} (K : k_X (jX6_init G l h0) (k_nw h 3 (k_o 2 [vI 0, vR none, vI 0])) 8 [(0, vR (some x0))] [vR (some h.2.1), vR (some x0)] Q) : k_X (jX6_init G l h0) h 0 [(0, vR (some x0))] [] Q := by
  obtain ⟨h', r, K, q⟩ := K
  exact ⟨h', r, j_aload_n dX6_init_0 rfl rfl <| j_objInit dX6_init_1 ko_X6_3 ko_inst ko_code (by decide) (Nat.le_of_ble_eq_true rfl) <| j_aload_n dX6_init_4 rfl rfl <| j_new dX6_init_5 kn_X6_9 <| K, q⟩
theorem bX6_init_8 {h0 h : k_H} {Q : k_H → k_R → Prop} {x0 s1 : Nat} {s0 : Option Nat} {P : k_H → Prop} (c : k_ctv (tAL_init G l) [vR (some s1)] h P) (K : ∀ h1, P h1 → k_X (jX6_init G l h0) h1 12 [(0, vR (some x0))] [vR (some s1), vR s0] Q) : k_X (jX6_init G l h0) h 8 [(0, vR (some x0))] [vR (some s1), vR s0] Q := by
  obtain ⟨h1, c, p⟩ := c
  obtain ⟨h', r, K, q⟩ := K h1 p
  exact ⟨h', r, j_dup dX6_init_8 rfl <| j_callI (v := none) (as := []) dX6_init_9 kc_X6_11 rfl rfl (by decide) (Nat.le_of_ble_eq_true rfl) c K, q⟩
theorem bX6_init_12 {h0 h : k_H} {Q : k_H → k_R → Prop} {x0 s0 : Nat} {s1 : Option Nat} {fs1 : List k_V} (o1 : h.1 s0 = some (k_o 9 fs1)) (z1 : fs1.length = 1) (K : k_X (jX6_init G l h0) (k_up h s0 (k_o 9 (fs1.set 0 (vR s1)))) 15 [(0, vR (some x0))] [] Q) : k_X (jX6_init G l h0) h 12 [(0, vR (some x0))] [vR s1, vR (some s0)] Q := by
  obtain ⟨h', r, K, q⟩ := K
  exact ⟨h', r, j_putF dX6_init_12 rfl kp_X6_12 o1 (k_ln z1 (by decide)) (k_fit_r _ _) rfl <| K, q⟩
theorem bX6_init_15 {h0 h : k_H} {Q : k_H → k_R → Prop} {x0 : Nat} {f1_0 : Option Nat} {fs1 : List k_V} (o1 : h.1 x0 = some (k_o 9 fs1)) (g1_0 : fs1[0]? = some (vR f1_0)) (K : k_X (jX6_init G l h0) (k_nw h 3 (k_o 8 [vJ 0, vI 0, vI 0])) 22 [] [vR (some h.2.1), vR f1_0] Q) : k_X (jX6_init G l h0) h 15 [(0, vR (some x0))] [] Q := by
  obtain ⟨h', r, K, q⟩ := K
  exact ⟨h', r, j_aload_n dX6_init_15 rfl rfl <| j_getf dX6_init_16 kf_X6_12 o1 g1_0 <| j_new dX6_init_19 kn_X6_18 <| (j_pick [] rfl K), q⟩
theorem bX6_init_22 {h0 h : k_H} {Q : k_H → k_R → Prop} {s0 : Option Nat} {s1 : Nat} {P : k_H → Prop} (c : k_ctv (tX5_init G l) [vR (some s1), vJ 0, vI 0] h P) (K : ∀ h1, P h1 → k_X (jX6_init G l h0) h1 28 [] [vR (some s1), vR s0] Q) : k_X (jX6_init G l h0) h 22 [] [vR (some s1), vR s0] Q := by
  obtain ⟨h1, c, p⟩ := c
  obtain ⟨h', r, K, q⟩ := K h1 p
  exact ⟨h', r, j_dup dX6_init_22 rfl <| j_lconst (v := 0) dX6_init_23 (by decide) <| j_iconst (v := 0) dX6_init_24 (by decide) <| j_callI (v := none) (as := [vJ 0, vI 0]) dX6_init_25 kc_X6_20 rfl rfl (by decide) (Nat.le_of_ble_eq_true rfl) c K, q⟩
theorem bX6_init_28 {h0 h : k_H} {Q : k_H → k_R → Prop} {s0 : Nat} {s1 : Option Nat} (w : k_is h s0 2) {P : k_H → Int32 → Prop} (c : k_cti (tAL_add G l) [vR (some s0), vR s1] h P) (K : ∀ h1 v, P h1 v → k_X (jX6_init G l h0) h1 31 [] [vI v] Q) : k_X (jX6_init G l h0) h 28 [] [vR s1, vR (some s0)] Q := by
  obtain ⟨h1, v, c, p⟩ := c
  obtain ⟨h', r, K, q⟩ := K h1 v p
  exact ⟨h', r, j_callV (v := some (vI v)) (as := [vR s1]) dX6_init_28 kc_X6_23 rfl rfl w (by decide) (Nat.le_of_ble_eq_true rfl) c K, q⟩
theorem bX6_init_31 {h0 h : k_H} {Q : k_H → k_R → Prop} {s0 : Int32} (q : Q h (.inl none)) : k_X (jX6_init G l h0) h 31 [] [vI s0] Q := by
  exact ⟨_, _, j_pop dX6_init_31 rfl <| j_vret dX6_init_32 rfl, q⟩
theorem eX6_split {G : k_G} {l : Launch} (hfl : l.flags = flags0) {h : k_H} {Q : k_H → k_R → Prop} {x0 : Nat} {x1 : Option Nat} (K : k_X (jX6_split G l h) h 0 [(0, vR (some x0)), (1, vR x1)] [] Q) : k_ct (tX6_split G l) [vR (some x0), vR x1] h Q := by
  obtain ⟨h', r, K, q⟩ := K
  exact ⟨h', r, k_CtOf (by decide +kernel) (Nat.le_of_ble_eq_true rfl) K hfl, q⟩

theorem bX6_split_0 {h0 h : k_H} {Q : k_H → k_R → Prop} {x0 : Nat} {x1 : Option Nat} (K : k_X (jX6_split G l h0) h 4 [(0, vR (some x0)), (1, vR x1), (2, vI 0), (3, vI 0)] [] Q) : k_X (jX6_split G l h0) h 0 [(0, vR (some x0)), (1, vR x1)] [] Q := by
  obtain ⟨h', r, K, q⟩ := K
  exact ⟨h', r, j_iconst (v := 0) dX6_split_0 (by decide) <| j_istore_n dX6_split_1 rfl (by decide) rfl <| j_iconst (v := 0) dX6_split_2 (by decide) <| j_istore_n dX6_split_3 rfl (by decide) rfl <| K, q⟩
theorem bX6_split_4 {h0 h : k_H} {Q : k_H → k_R → Prop} {x0 f1_0 : Nat} {x1 : Option Nat} {x2 x3 : Int32} {fs1 : List k_V} (o1 : h.1 x0 = some (k_o 9 fs1)) (g1_0 : fs1[0]? = some (vR (some f1_0))) (w : k_is h f1_0 2) {P : k_H → Int32 → Prop} (c : k_cti (tAL_size G l) [vR (some f1_0)] h P) (K : ∀ h1 v, P h1 v → k_X (jX6_split G l h0) h1 12 [(0, vR (some x0)), (1, vR x1), (2, vI x2), (3, vI x3)] [vI v, vI x3] Q) : k_X (jX6_split G l h0) h 4 [(0, vR (some x0)), (1, vR x1), (2, vI x2), (3, vI x3)] [] Q := by
  obtain ⟨h1, v, c, p⟩ := c
  obtain ⟨h', r, K, q⟩ := K h1 v p
  exact ⟨h', r, j_iload_n dX6_split_4 rfl rfl <| j_aload_n dX6_split_5 rfl rfl <| j_getf dX6_split_6 kf_X6_12 o1 g1_0 <| j_callV (v := some (vI v)) (as := []) dX6_split_9 kc_X6_27 rfl rfl w (by decide) (Nat.le_of_ble_eq_true rfl) c K, q⟩
theorem bX6_split_12 {h0 h : k_H} {Q : k_H → k_R → Prop} {x0 : Nat} {x1 : Option Nat} {x2 x3 s0 s1 : Int32} (K1 : s1 ≤ s0 → k_X (jX6_split G l h0) h 119 [] [] Q) (K2 : ¬ (s1 ≤ s0) → k_X (jX6_split G l h0) h 15 [(0, vR (some x0)), (1, vR x1), (2, vI x2), (3, vI x3)] [] Q) : k_X (jX6_split G l h0) h 12 [(0, vR (some x0)), (1, vR x1), (2, vI x2), (3, vI x3)] [vI s1, vI s0] Q := by
  by_cases hc : s1 ≤ s0
  · skip
    obtain ⟨h', r, K, q⟩ := K1 hc
    exact ⟨h', r, j_icmp_ge_t (tgt := 119) dX6_split_12 (by decide) hc (j_pick [] rfl K), q⟩
  · skip
    obtain ⟨h', r, K, q⟩ := K2 hc
    exact ⟨h', r, j_icmp_ge_f dX6_split_12 119 (by decide) hc K, q⟩
theorem bX6_split_15 {h0 h : k_H} {Q : k_H → k_R → Prop} {x0 : Nat} {x1 : Option Nat} {x2 x3 : Int32} (K1 : 65536 < x3 → k_X (jX6_split G l h0) h 119 [] [] Q) (K2 : ¬ (65536 < x3) → k_X (jX6_split G l h0) h 21 [(0, vR (some x0)), (1, vR x1), (2, vI x2), (3, vI x3)] [] Q) : k_X (jX6_split G l h0) h 15 [(0, vR (some x0)), (1, vR x1), (2, vI x2), (3, vI x3)] [] Q := by
  by_cases hc : 65536 < x3
  · skip
    obtain ⟨h', r, K, q⟩ := K1 hc
    exact ⟨h', r, j_iload_n dX6_split_15 rfl rfl <| j_ldc (v := 65536) dX6_split_16 ki_X6_31 <| j_icmp_gt_t (tgt := 119) dX6_split_18 (by decide) hc (j_pick [] rfl K), q⟩
  · skip
    obtain ⟨h', r, K, q⟩ := K2 hc
    exact ⟨h', r, j_iload_n dX6_split_15 rfl rfl <| j_ldc (v := 65536) dX6_split_16 ki_X6_31 <| j_icmp_gt_f dX6_split_18 119 (by decide) hc K, q⟩
theorem bX6_split_21 {h0 h : k_H} {Q : k_H → k_R → Prop} {x0 f1_0 : Nat} {x1 : Option Nat} {x2 x3 : Int32} {fs1 : List k_V} (o1 : h.1 x0 = some (k_o 9 fs1)) (g1_0 : fs1[0]? = some (vR (some f1_0))) (w : k_is h f1_0 2) {P : k_H → Option Nat → Prop} (c : k_ctr (tAL_get G l) [vR (some f1_0), vI x3] h P) (K : ∀ h1 v, P h1 v → k_X (jX6_split G l h0) h1 29 [(0, vR (some x0)), (1, vR x1), (2, vI x2), (3, vI x3)] [vR v] Q) : k_X (jX6_split G l h0) h 21 [(0, vR (some x0)), (1, vR x1), (2, vI x2), (3, vI x3)] [] Q := by
  obtain ⟨h1, v, c, p⟩ := c
  obtain ⟨h', r, K, q⟩ := K h1 v p
  exact ⟨h', r, j_aload_n dX6_split_21 rfl rfl <| j_getf dX6_split_22 kf_X6_12 o1 g1_0 <| j_iload_n dX6_split_25 rfl rfl <| j_callV (v := some (vR v)) (as := [vI x3]) dX6_split_26 kc_X6_32 rfl rfl w (by decide) (Nat.le_of_ble_eq_true rfl) c K, q⟩
theorem bX6_split_29 {h0 h : k_H} {Q : k_H → k_R → Prop} {x0 s0 : Nat} {x1 : Option Nat} {x2 x3 : Int32} {fs1 : List k_V} (o1 : h.1 s0 = some (k_o 8 fs1)) (w : k_is h x0 9) {P : k_H → Int32 → Prop} (c : k_cti (tX6_endOf G l) [vR (some x0), vI x3, vI x2, vR x1] h P) (K : ∀ h1 v, P h1 v → k_X (jX6_split G l h0) h1 41 [(0, vR (some x0)), (1, vR x1), (2, vI x2), (3, vI x3), (4, vR (some s0))] [vI v] Q) : k_X (jX6_split G l h0) h 29 [(0, vR (some x0)), (1, vR x1), (2, vI x2), (3, vI x3)] [vR (some s0)] Q := by
  obtain ⟨h1, v, c, p⟩ := c
  obtain ⟨h', r, K, q⟩ := K h1 v p
  exact ⟨h', r, j_cast dX6_split_29 kk_X6_18 o1 <| j_astore dX6_split_32 (by decide) rfl <| j_aload_n dX6_split_34 rfl rfl <| j_iload_n dX6_split_35 rfl rfl <| j_iload_n dX6_split_36 rfl rfl <| j_aload_n dX6_split_37 rfl rfl <| j_callV (v := some (vI v)) (as := [vI x3, vI x2, vR x1]) dX6_split_38 kc_X6_36 rfl rfl w (by decide) (Nat.le_of_ble_eq_true rfl) c K, q⟩
theorem bX6_split_41 {h0 h : k_H} {Q : k_H → k_R → Prop} {x0 : Nat} {x1 x4 : Option Nat} {x2 x3 s0 : Int32} (K1 : (s0 - x2) ≤ 8 → k_X (jX6_split G l h0) h 101 [(0, vR (some x0)), (1, vR x1), (2, vI x2), (3, vI x3), (4, vR x4), (5, vI s0)] [] Q) (K2 : ¬ ((s0 - x2) ≤ 8) → k_X (jX6_split G l h0) h 52 [(0, vR (some x0)), (1, vR x1), (2, vI x2), (3, vI x3), (4, vR x4), (5, vI s0)] [] Q) : k_X (jX6_split G l h0) h 41 [(0, vR (some x0)), (1, vR x1), (2, vI x2), (3, vI x3), (4, vR x4)] [vI s0] Q := by
  by_cases hc : (s0 - x2) ≤ 8
  · skip
    obtain ⟨h', r, K, q⟩ := K1 hc
    exact ⟨h', r, j_istore dX6_split_41 (by decide) rfl <| j_iload dX6_split_43 rfl <| j_iload_n dX6_split_45 rfl rfl <| j_isub dX6_split_46 <| j_bipush (v := 8) dX6_split_47 (by decide) <| j_icmp_le_t (tgt := 101) dX6_split_49 (by decide) hc K, q⟩
  · skip
    obtain ⟨h', r, K, q⟩ := K2 hc
    exact ⟨h', r, j_istore dX6_split_41 (by decide) rfl <| j_iload dX6_split_43 rfl <| j_iload_n dX6_split_45 rfl rfl <| j_isub dX6_split_46 <| j_bipush (v := 8) dX6_split_47 (by decide) <| j_icmp_le_f dX6_split_49 101 (by decide) hc K, q⟩
theorem bX6_split_52 {h0 h : k_H} {Q : k_H → k_R → Prop} {x0 x1 : Nat} {x2 x3 x5 : Int32} {x4 : Option Nat} (w : k_is h x1 2) {P : k_H → Int32 → Prop} (c : k_cti (tAL_size G l) [vR (some x1)] h P) (K : ∀ h1 v, P h1 v → k_X (jX6_split G l h0) h1 59 [(0, vR (some x0)), (1, vR (some x1)), (2, vI x2), (3, vI x3), (4, vR x4), (5, vI x5)] [vI v, vI (x2 + 4)] Q) : k_X (jX6_split G l h0) h 52 [(0, vR (some x0)), (1, vR (some x1)), (2, vI x2), (3, vI x3), (4, vR x4), (5, vI x5)] [] Q := by
  obtain ⟨h1, v, c, p⟩ := c
  obtain ⟨h', r, K, q⟩ := K h1 v p
  exact ⟨h', r, j_iload_n dX6_split_52 rfl rfl <| j_iconst (v := 4) dX6_split_53 (by decide) <| j_iadd dX6_split_54 <| j_aload_n dX6_split_55 rfl rfl <| j_callV (v := some (vI v)) (as := []) dX6_split_56 kc_X6_27 rfl rfl w (by decide) (Nat.le_of_ble_eq_true rfl) c K, q⟩
theorem bX6_split_59 {h0 h : k_H} {Q : k_H → k_R → Prop} {x0 : Nat} {x1 x4 : Option Nat} {x2 x3 x5 s0 s1 : Int32} (K1 : s1 ≤ s0 → k_X (jX6_split G l h0) h 101 [(0, vR (some x0)), (1, vR x1), (2, vI x2), (3, vI x3), (4, vR x4), (5, vI x5)] [] Q) (K2 : ¬ (s1 ≤ s0) → k_X (jX6_split G l h0) h 62 [(0, vR (some x0)), (1, vR x1), (2, vI x2), (3, vI x3), (4, vR x4)] [] Q) : k_X (jX6_split G l h0) h 59 [(0, vR (some x0)), (1, vR x1), (2, vI x2), (3, vI x3), (4, vR x4), (5, vI x5)] [vI s1, vI s0] Q := by
  by_cases hc : s1 ≤ s0
  · skip
    obtain ⟨h', r, K, q⟩ := K1 hc
    exact ⟨h', r, j_icmp_ge_t (tgt := 101) dX6_split_59 (by decide) hc K, q⟩
  · skip
    obtain ⟨h', r, K, q⟩ := K2 hc
    exact ⟨h', r, j_icmp_ge_f dX6_split_59 101 (by decide) hc (j_pick [0, 1, 2, 3, 4] rfl K), q⟩
theorem bX6_split_62 {h0 h : k_H} {Q : k_H → k_R → Prop} {x0 : Nat} {x1 x4 f1_0 : Option Nat} {x2 x3 : Int32} {fs1 : List k_V} (o1 : h.1 x0 = some (k_o 9 fs1)) (g1_0 : fs1[0]? = some (vR f1_0)) (K : k_X (jX6_split G l h0) (k_nw h 3 (k_o 8 [vJ 0, vI 0, vI 0])) 72 [(0, vR (some x0)), (1, vR x1), (2, vI x2), (3, vI x3), (4, vR x4)] [vR (some h.2.1), vI (x3 + 1), vR f1_0] Q) : k_X (jX6_split G l h0) h 62 [(0, vR (some x0)), (1, vR x1), (2, vI x2), (3, vI x3), (4, vR x4)] [] Q := by
  obtain ⟨h', r, K, q⟩ := K
  exact ⟨h', r, j_aload_n dX6_split_62 rfl rfl <| j_getf dX6_split_63 kf_X6_12 o1 g1_0 <| j_iload_n dX6_split_66 rfl rfl <| j_iconst (v := 1) dX6_split_67 (by decide) <| j_iadd dX6_split_68 <| j_new dX6_split_69 kn_X6_18 <| K, q⟩
theorem bX6_split_72 {h0 h : k_H} {Q : k_H → k_R → Prop} {x0 x1 : Nat} {x2 x3 s1 : Int32} {x4 s0 s2 : Option Nat} (w : k_is h x1 2) {P : k_H → Option Nat → Prop} (c : k_ctr (tAL_get G l) [vR (some x1), vI (x2 + 4)] h P) (K : ∀ h1 v, P h1 v → k_X (jX6_split G l h0) h1 80 [(0, vR (some x0)), (1, vR (some x1)), (2, vI x2), (3, vI x3), (4, vR x4)] [vR v, vR s2, vR s2, vI s1, vR s0] Q) : k_X (jX6_split G l h0) h 72 [(0, vR (some x0)), (1, vR (some x1)), (2, vI x2), (3, vI x3), (4, vR x4)] [vR s2, vI s1, vR s0] Q := by
  obtain ⟨h1, v, c, p⟩ := c
  obtain ⟨h', r, K, q⟩ := K h1 v p
  exact ⟨h', r, j_dup dX6_split_72 rfl <| j_aload_n dX6_split_73 rfl rfl <| j_iload_n dX6_split_74 rfl rfl <| j_iconst (v := 4) dX6_split_75 (by decide) <| j_iadd dX6_split_76 <| j_callV (v := some (vR v)) (as := [vI (x2 + 4)]) dX6_split_77 kc_X6_32 rfl rfl w (by decide) (Nat.le_of_ble_eq_true rfl) c K, q⟩
theorem bX6_split_80 {h0 h : k_H} {Q : k_H → k_R → Prop} {x0 s4 : Nat} {x1 x4 s0 s2 s3 : Option Nat} {x2 x3 s1 : Int32} {f1_0 : Int64} {fs1 : List k_V} (o1 : h.1 s4 = some (k_o 7 fs1)) (g1_0 : fs1[0]? = some (vJ f1_0)) (w : k_is h x0 9) {P : k_H → Int32 → Prop} (c : k_cti (tX6_idlest G l) [vR (some x0)] h P) (K : ∀ h1 v, P h1 v → k_X (jX6_split G l h0) h1 90 [(0, vR (some x0)), (1, vR x1), (2, vI x2), (3, vI x3), (4, vR x4)] [vI v, vJ f1_0, vR s3, vR s2, vI s1, vR s0] Q) : k_X (jX6_split G l h0) h 80 [(0, vR (some x0)), (1, vR x1), (2, vI x2), (3, vI x3), (4, vR x4)] [vR (some s4), vR s3, vR s2, vI s1, vR s0] Q := by
  obtain ⟨h1, v, c, p⟩ := c
  obtain ⟨h', r, K, q⟩ := K h1 v p
  exact ⟨h', r, j_cast dX6_split_80 kk_X6_40 o1 <| j_getf dX6_split_83 kf_X6_42 o1 g1_0 <| j_aload_n dX6_split_86 rfl rfl <| j_callV (v := some (vI v)) (as := []) dX6_split_87 kc_X6_46 rfl rfl w (by decide) (Nat.le_of_ble_eq_true rfl) c K, q⟩
theorem bX6_split_90 {h0 h : k_H} {Q : k_H → k_R → Prop} {x0 s3 : Nat} {x1 x4 s0 s2 : Option Nat} {x2 x3 s1 s5 : Int32} {s4 : Int64} {P : k_H → Prop} (c : k_ctv (tX5_init G l) [vR (some s3), vJ s4, vI s5] h P) (K : ∀ h1, P h1 → k_X (jX6_split G l h0) h1 93 [(0, vR (some x0)), (1, vR x1), (2, vI x2), (3, vI x3), (4, vR x4)] [vR s2, vI s1, vR s0] Q) : k_X (jX6_split G l h0) h 90 [(0, vR (some x0)), (1, vR x1), (2, vI x2), (3, vI x3), (4, vR x4)] [vI s5, vJ s4, vR (some s3), vR s2, vI s1, vR s0] Q := by
  obtain ⟨h1, c, p⟩ := c
  obtain ⟨h', r, K, q⟩ := K h1 p
  exact ⟨h', r, j_callI (v := none) (as := [vJ s4, vI s5]) dX6_split_90 kc_X6_20 rfl rfl (by decide) (Nat.le_of_ble_eq_true rfl) c K, q⟩
theorem bX6_split_93 {h0 h : k_H} {Q : k_H → k_R → Prop} {x0 s0 : Nat} {x1 x4 s2 : Option Nat} {x2 x3 s1 : Int32} (w : k_is h s0 2) {P : k_H → Prop} (c : k_ctv (tAL_addAt G l) [vR (some s0), vI s1, vR s2] h P) (K : ∀ h1, P h1 → k_X (jX6_split G l h0) h1 96 [(0, vR (some x0)), (1, vR x1), (2, vI x2), (3, vI x3), (4, vR x4)] [] Q) : k_X (jX6_split G l h0) h 93 [(0, vR (some x0)), (1, vR x1), (2, vI x2), (3, vI x3), (4, vR x4)] [vR s2, vI s1, vR (some s0)] Q := by
  obtain ⟨h1, c, p⟩ := c
  obtain ⟨h', r, K, q⟩ := K h1 p
  exact ⟨h', r, j_callV (v := none) (as := [vI s1, vR s2]) dX6_split_93 kc_X6_49 rfl rfl w (by decide) (Nat.le_of_ble_eq_true rfl) c K, q⟩
theorem bX6_split_96 {h0 h : k_H} {Q : k_H → k_R → Prop} {x0 : Nat} {x1 x4 : Option Nat} {x2 x3 : Int32} (K : k_X (jX6_split G l h0) h 101 [(0, vR (some x0)), (1, vR x1), (2, vI x2), (3, vI x3), (4, vR x4), (5, vI (x2 + 4))] [] Q) : k_X (jX6_split G l h0) h 96 [(0, vR (some x0)), (1, vR x1), (2, vI x2), (3, vI x3), (4, vR x4)] [] Q := by
  obtain ⟨h', r, K, q⟩ := K
  exact ⟨h', r, j_iload_n dX6_split_96 rfl rfl <| j_iconst (v := 4) dX6_split_97 (by decide) <| j_iadd dX6_split_98 <| j_istore dX6_split_99 (by decide) rfl <| K, q⟩
theorem bX6_split_101 {h0 h : k_H} {Q : k_H → k_R → Prop} {x0 x4 : Nat} {x1 : Option Nat} {x2 x3 x5 : Int32} {fs1 : List k_V} (o1 : h.1 x4 = some (k_o 8 fs1)) (z1 : fs1.length = 3) (K : k_X (jX6_split G l h0) (k_up h x4 (k_o 8 (fs1.set 2 (vI (x5 - x2))))) 110 [(0, vR (some x0)), (1, vR x1), (3, vI x3), (5, vI x5)] [] Q) : k_X (jX6_split G l h0) h 101 [(0, vR (some x0)), (1, vR x1), (2, vI x2), (3, vI x3), (4, vR (some x4)), (5, vI x5)] [] Q := by
  obtain ⟨h', r, K, q⟩ := K
  exact ⟨h', r, j_aload dX6_split_101 rfl <| j_iload dX6_split_103 rfl <| j_iload_n dX6_split_105 rfl rfl <| j_isub dX6_split_106 <| j_putf dX6_split_107 kp_X6_52 o1 (k_ln z1 (by decide)) (k_fit_i _) rfl <| (j_pick [0, 1, 3, 5] rfl K), q⟩
theorem bX6_split_110 {h0 h : k_H} {Q : k_H → k_R → Prop} {x0 : Nat} {x1 : Option Nat} {x3 x5 : Int32} (K : k_X (jX6_split G l h0) h 4 [(0, vR (some x0)), (1, vR x1), (2, vI x5), (3, vI (x3 + 1))] [] Q) : k_X (jX6_split G l h0) h 110 [(0, vR (some x0)), (1, vR x1), (3, vI x3), (5, vI x5)] [] Q := by
  obtain ⟨h', r, K, q⟩ := K
  exact ⟨h', r, j_iload dX6_split_110 rfl <| j_istore_n dX6_split_112 rfl (by decide) rfl <| j_iinc (v := x3 + 1) dX6_split_113 rfl (by decide) rfl rfl <| j_goto (tgt := 4) dX6_split_116 (by decide) <| (j_pick [0, 1, 2, 3] rfl K), q⟩
theorem bX6_split_119 {h0 h : k_H} {Q : k_H → k_R → Prop} (q : Q h (.inl none)) : k_X (jX6_split G l h0) h 119 [] [] Q := by
  exact ⟨_, _, j_vret dX6_split_119 rfl, q⟩
theorem eX6_endOf {G : k_G} {l : Launch} (hfl : l.flags = flags0) {h : k_H} {Q : k_H → k_R → Prop} {x0 : Nat} {x1 : Int32} {x2 : Int32} {x3 : Option Nat} (K : k_X (jX6_endOf G l h) h 0 [(0, vR (some x0)), (1, vI x1), (2, vI x2), (3, vR x3)] [] Q) : k_ct (tX6_endOf G l) [vR (some x0), vI x1, vI x2, vR x3] h Q := by
  obtain ⟨h', r, K, q⟩ := K
  exact ⟨h', r, k_CtOf (by decide +kernel) (Nat.le_of_ble_eq_true rfl) K hfl, q⟩

theorem bX6_endOf_0 {h0 h : k_H} {Q : k_H → k_R → Prop} {x0 f1_0 : Nat} {x1 x2 : Int32} {x3 : Option Nat} {fs1 : List k_V} (o1 : h.1 x0 = some (k_o 9 fs1)) (g1_0 : fs1[0]? = some (vR (some f1_0))) (w : k_is h f1_0 2) {P : k_H → Int32 → Prop} (c : k_cti (tAL_size G l) [vR (some f1_0)] h P) (K : ∀ h1 v, P h1 v → k_X (jX6_endOf G l h0) h1 10 [(0, vR (some x0)), (1, vI x1), (2, vI x2), (3, vR x3)] [vI v, vI (x1 + 1)] Q) : k_X (jX6_endOf G l h0) h 0 [(0, vR (some x0)), (1, vI x1), (2, vI x2), (3, vR x3)] [] Q := by
  obtain ⟨h1, v, c, p⟩ := c
  obtain ⟨h', r, K, q⟩ := K h1 v p
  exact ⟨h', r, j_iload_n dX6_endOf_0 rfl rfl <| j_iconst (v := 1) dX6_endOf_1 (by decide) <| j_iadd dX6_endOf_2 <| j_aload_n dX6_endOf_3 rfl rfl <| j_getf dX6_endOf_4 kf_X6_12 o1 g1_0 <| j_callV (v := some (vI v)) (as := []) dX6_endOf_7 kc_X6_27 rfl rfl w (by decide) (Nat.le_of_ble_eq_true rfl) c K, q⟩
theorem bX6_endOf_10 {h0 h : k_H} {Q : k_H → k_R → Prop} {x0 : Nat} {x1 x2 s0 s1 : Int32} {x3 : Option Nat} (K1 : s0 < s1 → k_X (jX6_endOf G l h0) h 18 [(0, vR (some x0)), (1, vI x1), (2, vI x2), (3, vR x3)] [] Q) (K2 : ¬ (s0 < s1) → k_X (jX6_endOf G l h0) h 13 [(3, vR x3)] [] Q) : k_X (jX6_endOf G l h0) h 10 [(0, vR (some x0)), (1, vI x1), (2, vI x2), (3, vR x3)] [vI s1, vI s0] Q := by
  by_cases hc : s0 < s1
  · skip
    obtain ⟨h', r, K, q⟩ := K1 hc
    exact ⟨h', r, j_icmp_lt_t (tgt := 18) dX6_endOf_10 (by decide) hc K, q⟩
  · skip
    obtain ⟨h', r, K, q⟩ := K2 hc
    exact ⟨h', r, j_icmp_lt_f dX6_endOf_10 18 (by decide) hc (j_pick [3] rfl K), q⟩
theorem bX6_endOf_13 {h0 h : k_H} {Q : k_H → k_R → Prop} {x3 : Nat} (w : k_is h x3 2) {P : k_H → Int32 → Prop} (c : k_cti (tAL_size G l) [vR (some x3)] h P) (K : ∀ h1 v, P h1 v → k_X (jX6_endOf G l h0) h1 17 [] [vI v] Q) : k_X (jX6_endOf G l h0) h 13 [(3, vR (some x3))] [] Q := by
  obtain ⟨h1, v, c, p⟩ := c
  obtain ⟨h', r, K, q⟩ := K h1 v p
  exact ⟨h', r, j_aload_n dX6_endOf_13 rfl rfl <| j_callV (v := some (vI v)) (as := []) dX6_endOf_14 kc_X6_27 rfl rfl w (by decide) (Nat.le_of_ble_eq_true rfl) c (j_pick [] rfl K), q⟩
theorem bX6_endOf_17 {h0 h : k_H} {Q : k_H → k_R → Prop} {s0 : Int32} (q : Q h (.inl (some (vI s0)))) : k_X (jX6_endOf G l h0) h 17 [] [vI s0] Q := by
  exact ⟨_, _, j_iret dX6_endOf_17 rfl, q⟩
theorem bX6_endOf_18 {h0 h : k_H} {Q : k_H → k_R → Prop} {x0 f1_0 : Nat} {x1 x2 : Int32} {x3 : Option Nat} {fs1 : List k_V} (o1 : h.1 x0 = some (k_o 9 fs1)) (g1_0 : fs1[0]? = some (vR (some f1_0))) (w : k_is h f1_0 2) {P : k_H → Option Nat → Prop} (c : k_ctr (tAL_get G l) [vR (some f1_0), vI (x1 + 1)] h P) (K : ∀ h1 v, P h1 v → k_X (jX6_endOf G l h0) h1 28 [(2, vI x2), (3, vR x3)] [vR v] Q) : k_X (jX6_endOf G l h0) h 18 [(0, vR (some x0)), (1, vI x1), (2, vI x2), (3, vR x3)] [] Q := by
  obtain ⟨h1, v, c, p⟩ := c
  obtain ⟨h', r, K, q⟩ := K h1 v p
  exact ⟨h', r, j_aload_n dX6_endOf_18 rfl rfl <| j_getf dX6_endOf_19 kf_X6_12 o1 g1_0 <| j_iload_n dX6_endOf_22 rfl rfl <| j_iconst (v := 1) dX6_endOf_23 (by decide) <| j_iadd dX6_endOf_24 <| j_callV (v := some (vR v)) (as := [vI (x1 + 1)]) dX6_endOf_25 kc_X6_32 rfl rfl w (by decide) (Nat.le_of_ble_eq_true rfl) c (j_pick [2, 3] rfl K), q⟩
theorem bX6_endOf_28 {h0 h : k_H} {Q : k_H → k_R → Prop} {x2 : Int32} {x3 : Option Nat} {s0 : Nat} {f1_0 : Int64} {fs1 : List k_V} (o1 : h.1 s0 = some (k_o 8 fs1)) (g1_0 : fs1[0]? = some (vJ f1_0)) (K : k_X (jX6_endOf G l h0) h 39 [(3, vR x3), (4, vJ f1_0), (6, vI x2)] [] Q) : k_X (jX6_endOf G l h0) h 28 [(2, vI x2), (3, vR x3)] [vR (some s0)] Q := by
  obtain ⟨h', r, K, q⟩ := K
  exact ⟨h', r, j_cast dX6_endOf_28 kk_X6_18 o1 <| j_getf dX6_endOf_31 kf_X6_56 o1 g1_0 <| j_lstore dX6_endOf_34 (by decide) rfl <| j_iload_n dX6_endOf_36 rfl rfl <| j_istore dX6_endOf_37 (by decide) rfl <| (j_pick [1, 2, 3] rfl K), q⟩
theorem bX6_endOf_39 {h0 h : k_H} {Q : k_H → k_R → Prop} {x3 : Nat} {x4 : Int64} {x6 : Int32} (w : k_is h x3 2) {P : k_H → Int32 → Prop} (c : k_cti (tAL_size G l) [vR (some x3)] h P) (K : ∀ h1 v, P h1 v → k_X (jX6_endOf G l h0) h1 45 [(3, vR (some x3)), (4, vJ x4), (6, vI x6)] [vI v, vI x6] Q) : k_X (jX6_endOf G l h0) h 39 [(3, vR (some x3)), (4, vJ x4), (6, vI x6)] [] Q := by
  obtain ⟨h1, v, c, p⟩ := c
  obtain ⟨h', r, K, q⟩ := K h1 v p
  exact ⟨h', r, j_iload dX6_endOf_39 rfl <| j_aload_n dX6_endOf_41 rfl rfl <| j_callV (v := some (vI v)) (as := []) dX6_endOf_42 kc_X6_27 rfl rfl w (by decide) (Nat.le_of_ble_eq_true rfl) c K, q⟩
theorem bX6_endOf_45 {h0 h : k_H} {Q : k_H → k_R → Prop} {x3 : Option Nat} {x4 : Int64} {x6 s0 s1 : Int32} (K1 : s1 ≤ s0 → k_X (jX6_endOf G l h0) h 72 [(6, vI x6)] [] Q) (K2 : ¬ (s1 ≤ s0) → k_X (jX6_endOf G l h0) h 48 [(3, vR x3), (4, vJ x4), (6, vI x6)] [] Q) : k_X (jX6_endOf G l h0) h 45 [(3, vR x3), (4, vJ x4), (6, vI x6)] [vI s1, vI s0] Q := by
  by_cases hc : s1 ≤ s0
  · skip
    obtain ⟨h', r, K, q⟩ := K1 hc
    exact ⟨h', r, j_icmp_ge_t (tgt := 72) dX6_endOf_45 (by decide) hc (j_pick [2] rfl K), q⟩
  · skip
    obtain ⟨h', r, K, q⟩ := K2 hc
    exact ⟨h', r, j_icmp_ge_f dX6_endOf_45 72 (by decide) hc K, q⟩
theorem bX6_endOf_48 {h0 h : k_H} {Q : k_H → k_R → Prop} {x3 : Nat} {x4 : Int64} {x6 : Int32} (w : k_is h x3 2) {P : k_H → Option Nat → Prop} (c : k_ctr (tAL_get G l) [vR (some x3), vI x6] h P) (K : ∀ h1 v, P h1 v → k_X (jX6_endOf G l h0) h1 54 [(3, vR (some x3)), (4, vJ x4), (6, vI x6)] [vR v] Q) : k_X (jX6_endOf G l h0) h 48 [(3, vR (some x3)), (4, vJ x4), (6, vI x6)] [] Q := by
  obtain ⟨h1, v, c, p⟩ := c
  obtain ⟨h', r, K, q⟩ := K h1 v p
  exact ⟨h', r, j_aload_n dX6_endOf_48 rfl rfl <| j_iload dX6_endOf_49 rfl <| j_callV (v := some (vR v)) (as := [vI x6]) dX6_endOf_51 kc_X6_32 rfl rfl w (by decide) (Nat.le_of_ble_eq_true rfl) c K, q⟩
theorem bX6_endOf_54 {h0 h : k_H} {Q : k_H → k_R → Prop} {x3 : Option Nat} {x4 f1_0 : Int64} {x6 : Int32} {s0 : Nat} {fs1 : List k_V} (o1 : h.1 s0 = some (k_o 7 fs1)) (g1_0 : fs1[0]? = some (vJ f1_0)) (K1 : x4 ≤ f1_0 → k_X (jX6_endOf G l h0) h 72 [(6, vI x6)] [] Q) (K2 : ¬ (x4 ≤ f1_0) → k_X (jX6_endOf G l h0) h 66 [(3, vR x3), (4, vJ x4), (6, vI x6)] [] Q) : k_X (jX6_endOf G l h0) h 54 [(3, vR x3), (4, vJ x4), (6, vI x6)] [vR (some s0)] Q := by
  by_cases hc : x4 ≤ f1_0
  · skip
    obtain ⟨h', r, K, q⟩ := K1 hc
    exact ⟨h', r, j_cast dX6_endOf_54 kk_X6_40 o1 <| j_getf dX6_endOf_57 kf_X6_42 o1 g1_0 <| j_lload dX6_endOf_60 rfl <| j_lcmp dX6_endOf_62 <| j_if_ge_t (tgt := 72) dX6_endOf_63 (by decide) ((lg_cmp_ge _ _).mpr hc) (j_pick [2] rfl K), q⟩
  · skip
    obtain ⟨h', r, K, q⟩ := K2 hc
    exact ⟨h', r, j_cast dX6_endOf_54 kk_X6_40 o1 <| j_getf dX6_endOf_57 kf_X6_42 o1 g1_0 <| j_lload dX6_endOf_60 rfl <| j_lcmp dX6_endOf_62 <| j_if_ge_f dX6_endOf_63 72 (by decide) ((not_congr (lg_cmp_ge _ _)).mpr hc) K, q⟩
theorem bX6_endOf_66 {h0 h : k_H} {Q : k_H → k_R → Prop} {x3 : Option Nat} {x4 : Int64} {x6 : Int32} (K : k_X (jX6_endOf G l h0) h 39 [(3, vR x3), (4, vJ x4), (6, vI (x6 + 1))] [] Q) : k_X (jX6_endOf G l h0) h 66 [(3, vR x3), (4, vJ x4), (6, vI x6)] [] Q := by
  obtain ⟨h', r, K, q⟩ := K
  exact ⟨h', r, j_iinc (v := x6 + 1) dX6_endOf_66 rfl (by decide) rfl rfl <| j_goto (tgt := 39) dX6_endOf_69 (by decide) <| K, q⟩
theorem bX6_endOf_72 {h0 h : k_H} {Q : k_H → k_R → Prop} {x6 : Int32} (q : Q h (.inl (some (vI x6)))) : k_X (jX6_endOf G l h0) h 72 [(6, vI x6)] [] Q := by
  exact ⟨_, _, j_iload dX6_endOf_72 rfl <| j_iret dX6_endOf_74 rfl, q⟩
theorem eX6_join {G : k_G} {l : Launch} (hfl : l.flags = flags0) {h : k_H} {Q : k_H → k_R → Prop} {x0 : Nat} (K : k_X (jX6_join G l h) h 0 [(0, vR (some x0))] [] Q) : k_ct (tX6_join G l) [vR (some x0)] h Q := by
  obtain ⟨h', r, K, q⟩ := K
  exact ⟨h', r, k_CtOf (by decide +kernel) (Nat.le_of_ble_eq_true rfl) K hfl, q⟩

theorem bX6_join_0 {h0 h : k_H} {Q : k_H → k_R → Prop} {x0 : Nat} (K : k_X (jX6_join G l h0) h 2 [(0, vR (some x0)), (1, vI 0)] [] Q) : k_X (jX6_join G l h0) h 0 [(0, vR (some x0))] [] Q := by
  obtain ⟨h', r, K, q⟩ := K
  exact ⟨h', r, j_iconst (v := 0) dX6_join_0 (by decide) <| j_istore_n dX6_join_1 rfl (by decide) rfl <| K, q⟩
theorem bX6_join_2 {h0 h : k_H} {Q : k_H → k_R → Prop} {x0 f1_0 : Nat} {x1 : Int32} {fs1 : List k_V} (o1 : h.1 x0 = some (k_o 9 fs1)) (g1_0 : fs1[0]? = some (vR (some f1_0))) (w : k_is h f1_0 2) {P : k_H → Int32 → Prop} (c : k_cti (tAL_size G l) [vR (some f1_0)] h P) (K : ∀ h1 v, P h1 v → k_X (jX6_join G l h0) h1 12 [(0, vR (some x0)), (1, vI x1)] [vI v, vI (x1 + 1)] Q) : k_X (jX6_join G l h0) h 2 [(0, vR (some x0)), (1, vI x1)] [] Q := by
  obtain ⟨h1, v, c, p⟩ := c
  obtain ⟨h', r, K, q⟩ := K h1 v p
  exact ⟨h', r, j_iload_n dX6_join_2 rfl rfl <| j_iconst (v := 1) dX6_join_3 (by decide) <| j_iadd dX6_join_4 <| j_aload_n dX6_join_5 rfl rfl <| j_getf dX6_join_6 kf_X6_12 o1 g1_0 <| j_callV (v := some (vI v)) (as := []) dX6_join_9 kc_X6_27 rfl rfl w (by decide) (Nat.le_of_ble_eq_true rfl) c K, q⟩
theorem bX6_join_12 {h0 h : k_H} {Q : k_H → k_R → Prop} {x0 : Nat} {x1 s0 s1 : Int32} (K1 : s1 ≤ s0 → k_X (jX6_join G l h0) h 79 [] [] Q) (K2 : ¬ (s1 ≤ s0) → k_X (jX6_join G l h0) h 15 [(0, vR (some x0)), (1, vI x1)] [] Q) : k_X (jX6_join G l h0) h 12 [(0, vR (some x0)), (1, vI x1)] [vI s1, vI s0] Q := by
  by_cases hc : s1 ≤ s0
  · skip
    obtain ⟨h', r, K, q⟩ := K1 hc
    exact ⟨h', r, j_icmp_ge_t (tgt := 79) dX6_join_12 (by decide) hc (j_pick [] rfl K), q⟩
  · skip
    obtain ⟨h', r, K, q⟩ := K2 hc
    exact ⟨h', r, j_icmp_ge_f dX6_join_12 79 (by decide) hc K, q⟩
theorem bX6_join_15 {h0 h : k_H} {Q : k_H → k_R → Prop} {x0 f1_0 : Nat} {x1 : Int32} {fs1 : List k_V} (o1 : h.1 x0 = some (k_o 9 fs1)) (g1_0 : fs1[0]? = some (vR (some f1_0))) (w : k_is h f1_0 2) {P : k_H → Option Nat → Prop} (c : k_ctr (tAL_get G l) [vR (some f1_0), vI x1] h P) (K : ∀ h1 v, P h1 v → k_X (jX6_join G l h0) h1 23 [(0, vR (some x0)), (1, vI x1)] [vR v] Q) : k_X (jX6_join G l h0) h 15 [(0, vR (some x0)), (1, vI x1)] [] Q := by
  obtain ⟨h1, v, c, p⟩ := c
  obtain ⟨h', r, K, q⟩ := K h1 v p
  exact ⟨h', r, j_aload_n dX6_join_15 rfl rfl <| j_getf dX6_join_16 kf_X6_12 o1 g1_0 <| j_iload_n dX6_join_19 rfl rfl <| j_callV (v := some (vR v)) (as := [vI x1]) dX6_join_20 kc_X6_32 rfl rfl w (by decide) (Nat.le_of_ble_eq_true rfl) c K, q⟩
theorem bX6_join_23 {h0 h : k_H} {Q : k_H → k_R → Prop} {x0 s0 f2_0 : Nat} {x1 f1_2 : Int32} {fs1 : List k_V} (o1 : h.1 s0 = some (k_o 8 fs1)) (g1_2 : fs1[2]? = some (vI f1_2)) {fs2 : List k_V} (o2 : h.1 x0 = some (k_o 9 fs2)) (g2_0 : fs2[0]? = some (vR (some f2_0))) (w : k_is h f2_0 2) {P : k_H → Option Nat → Prop} (c : k_ctr (tAL_get G l) [vR (some f2_0), vI (x1 + 1)] h P) (K : ∀ h1 v, P h1 v → k_X (jX6_join G l h0) h1 41 [(0, vR (some x0)), (1, vI x1), (2, vR (some s0))] [vR v, vI f1_2] Q) : k_X (jX6_join G l h0) h 23 [(0, vR (some x0)), (1, vI x1)] [vR (some s0)] Q := by
  obtain ⟨h1, v, c, p⟩ := c
  obtain ⟨h', r, K, q⟩ := K h1 v p
  exact ⟨h', r, j_cast dX6_join_23 kk_X6_18 o1 <| j_astore_n dX6_join_26 rfl (by decide) rfl <| j_aload_n dX6_join_27 rfl rfl <| j_getf dX6_join_28 kf_X6_52 o1 g1_2 <| j_aload_n dX6_join_31 rfl rfl <| j_getf dX6_join_32 kf_X6_12 o2 g2_0 <| j_iload_n dX6_join_35 rfl rfl <| j_iconst (v := 1) dX6_join_36 (by decide) <| j_iadd dX6_join_37 <| j_callV (v := some (vR v)) (as := [vI (x1 + 1)]) dX6_join_38 kc_X6_32 rfl rfl w (by decide) (Nat.le_of_ble_eq_true rfl) c K, q⟩
theorem bX6_join_41 {h0 h : k_H} {Q : k_H → k_R → Prop} {x0 s1 : Nat} {x1 s0 f1_2 : Int32} {x2 : Option Nat} {fs1 : List k_V} (o1 : h.1 s1 = some (k_o 8 fs1)) (g1_2 : fs1[2]? = some (vI f1_2)) (K1 : 4 ≤ (s0 + f1_2) → k_X (jX6_join G l h0) h 73 [(0, vR (some x0)), (1, vI x1)] [] Q) (K2 : ¬ (4 ≤ (s0 + f1_2)) → k_X (jX6_join G l h0) h 54 [(0, vR (some x0)), (1, vI x1), (2, vR x2), (3, vI (s0 + f1_2))] [] Q) : k_X (jX6_join G l h0) h 41 [(0, vR (some x0)), (1, vI x1), (2, vR x2)] [vR (some s1), vI s0] Q := by
  by_cases hc : 4 ≤ (s0 + f1_2)
  · skip
    obtain ⟨h', r, K, q⟩ := K1 hc
    exact ⟨h', r, j_cast dX6_join_41 kk_X6_18 o1 <| j_getf dX6_join_44 kf_X6_52 o1 g1_2 <| j_iadd dX6_join_47 <| j_istore_n dX6_join_48 rfl (by decide) rfl <| j_iload_n dX6_join_49 rfl rfl <| j_iconst (v := 4) dX6_join_50 (by decide) <| j_icmp_ge_t (tgt := 73) dX6_join_51 (by decide) hc (j_pick [0, 1] rfl K), q⟩
  · skip
    obtain ⟨h', r, K, q⟩ := K2 hc
    exact ⟨h', r, j_cast dX6_join_41 kk_X6_18 o1 <| j_getf dX6_join_44 kf_X6_52 o1 g1_2 <| j_iadd dX6_join_47 <| j_istore_n dX6_join_48 rfl (by decide) rfl <| j_iload_n dX6_join_49 rfl rfl <| j_iconst (v := 4) dX6_join_50 (by decide) <| j_icmp_ge_f dX6_join_51 73 (by decide) hc K, q⟩
theorem bX6_join_54 {h0 h : k_H} {Q : k_H → k_R → Prop} {x0 x2 : Nat} {x1 x3 : Int32} {fs1 : List k_V} (o1 : h.1 x2 = some (k_o 8 fs1)) (z1 : fs1.length = 3) (K : k_X (jX6_join G l h0) (k_up h x2 (k_o 8 (fs1.set 2 (vI x3)))) 59 [(0, vR (some x0)), (1, vI x1)] [] Q) : k_X (jX6_join G l h0) h 54 [(0, vR (some x0)), (1, vI x1), (2, vR (some x2)), (3, vI x3)] [] Q := by
  obtain ⟨h', r, K, q⟩ := K
  exact ⟨h', r, j_aload_n dX6_join_54 rfl rfl <| j_iload_n dX6_join_55 rfl rfl <| j_putf dX6_join_56 kp_X6_52 o1 (k_ln z1 (by decide)) (k_fit_i _) rfl <| (j_pick [0, 1] rfl K), q⟩
theorem bX6_join_59 {h0 h : k_H} {Q : k_H → k_R → Prop} {x0 f1_0 : Nat} {x1 : Int32} {fs1 : List k_V} (o1 : h.1 x0 = some (k_o 9 fs1)) (g1_0 : fs1[0]? = some (vR (some f1_0))) (w : k_is h f1_0 2) {P : k_H → Option Nat → Prop} (c : k_ctr (tAL_removeAt G l) [vR (some f1_0), vI (x1 + 1)] h P) (K : ∀ h1 v, P h1 v → k_X (jX6_join G l h0) h1 69 [(0, vR (some x0)), (1, vI x1)] [vR v] Q) : k_X (jX6_join G l h0) h 59 [(0, vR (some x0)), (1, vI x1)] [] Q := by
  obtain ⟨h1, v, c, p⟩ := c
  obtain ⟨h', r, K, q⟩ := K h1 v p
  exact ⟨h', r, j_aload_n dX6_join_59 rfl rfl <| j_getf dX6_join_60 kf_X6_12 o1 g1_0 <| j_iload_n dX6_join_63 rfl rfl <| j_iconst (v := 1) dX6_join_64 (by decide) <| j_iadd dX6_join_65 <| j_callV (v := some (vR v)) (as := [vI (x1 + 1)]) dX6_join_66 kc_X6_59 rfl rfl w (by decide) (Nat.le_of_ble_eq_true rfl) c K, q⟩
theorem bX6_join_69 {h0 h : k_H} {Q : k_H → k_R → Prop} {x0 : Nat} {x1 : Int32} {s0 : Option Nat} (K : k_X (jX6_join G l h0) h 76 [(0, vR (some x0)), (1, vI x1)] [] Q) : k_X (jX6_join G l h0) h 69 [(0, vR (some x0)), (1, vI x1)] [vR s0] Q := by
  obtain ⟨h', r, K, q⟩ := K
  exact ⟨h', r, j_pop dX6_join_69 rfl <| j_goto (tgt := 76) dX6_join_70 (by decide) <| K, q⟩
theorem bX6_join_73 {h0 h : k_H} {Q : k_H → k_R → Prop} {x0 : Nat} {x1 : Int32} (K : k_X (jX6_join G l h0) h 76 [(0, vR (some x0)), (1, vI (x1 + 1))] [] Q) : k_X (jX6_join G l h0) h 73 [(0, vR (some x0)), (1, vI x1)] [] Q := by
  obtain ⟨h', r, K, q⟩ := K
  exact ⟨h', r, j_iinc (v := x1 + 1) dX6_join_73 rfl (by decide) rfl rfl <| K, q⟩
theorem bX6_join_76 {h0 h : k_H} {Q : k_H → k_R → Prop} {x0 : Nat} {x1 : Int32} (K : k_X (jX6_join G l h0) h 2 [(0, vR (some x0)), (1, vI x1)] [] Q) : k_X (jX6_join G l h0) h 76 [(0, vR (some x0)), (1, vI x1)] [] Q := by
  obtain ⟨h', r, K, q⟩ := K
  exact ⟨h', r, j_goto (tgt := 2) dX6_join_76 (by decide) <| K, q⟩
theorem bX6_join_79 {h0 h : k_H} {Q : k_H → k_R → Prop} (q : Q h (.inl none)) : k_X (jX6_join G l h0) h 79 [] [] Q := by
  exact ⟨_, _, j_vret dX6_join_79 rfl, q⟩
theorem eX6_idlest {G : k_G} {l : Launch} (hfl : l.flags = flags0) {h : k_H} {Q : k_H → k_R → Prop} {x0 : Nat} (K : k_X (jX6_idlest G l h) h 0 [(0, vR (some x0))] [] Q) : k_ct (tX6_idlest G l) [vR (some x0)] h Q := by
  obtain ⟨h', r, K, q⟩ := K
  exact ⟨h', r, k_CtOf (by decide +kernel) (Nat.le_of_ble_eq_true rfl) K hfl, q⟩

theorem bX6_idlest_0 {h0 h : k_H} {Q : k_H → k_R → Prop} {x0 : Nat} (K : k_X (jX6_idlest G l h0) h 4 [(0, vR (some x0)), (1, vI 0), (2, vI 1)] [] Q) : k_X (jX6_idlest G l h0) h 0 [(0, vR (some x0))] [] Q := by
  obtain ⟨h', r, K, q⟩ := K
  exact ⟨h', r, j_iconst (v := 0) dX6_idlest_0 (by decide) <| j_istore_n dX6_idlest_1 rfl (by decide) rfl <| j_iconst (v := 1) dX6_idlest_2 (by decide) <| j_istore_n dX6_idlest_3 rfl (by decide) rfl <| K, q⟩
theorem bX6_idlest_4 {h0 h : k_H} {Q : k_H → k_R → Prop} {x0 : Nat} {x1 x2 : Int32} (K1 : 3 ≤ x2 → k_X (jX6_idlest G l h0) h 30 [(1, vI x1)] [] Q) (K2 : ¬ (3 ≤ x2) → k_X (jX6_idlest G l h0) h 9 [(0, vR (some x0)), (1, vI x1), (2, vI x2)] [] Q) : k_X (jX6_idlest G l h0) h 4 [(0, vR (some x0)), (1, vI x1), (2, vI x2)] [] Q := by
  by_cases hc : 3 ≤ x2
  · skip
    obtain ⟨h', r, K, q⟩ := K1 hc
    exact ⟨h', r, j_iload_n dX6_idlest_4 rfl rfl <| j_iconst (v := 3) dX6_idlest_5 (by decide) <| j_icmp_ge_t (tgt := 30) dX6_idlest_6 (by decide) hc (j_pick [1] rfl K), q⟩
  · skip
    obtain ⟨h', r, K, q⟩ := K2 hc
    exact ⟨h', r, j_iload_n dX6_idlest_4 rfl rfl <| j_iconst (v := 3) dX6_idlest_5 (by decide) <| j_icmp_ge_f dX6_idlest_6 30 (by decide) hc K, q⟩
theorem bX6_idlest_9 {h0 h : k_H} {Q : k_H → k_R → Prop} {x0 : Nat} {x1 x2 : Int32} (w : k_is h x0 9) {P : k_H → Int32 → Prop} (c : k_cti (tX6_countOf G l) [vR (some x0), vI x2] h P) (K : ∀ h1 v, P h1 v → k_X (jX6_idlest G l h0) h1 14 [(0, vR (some x0)), (1, vI x1), (2, vI x2)] [vI v] Q) : k_X (jX6_idlest G l h0) h 9 [(0, vR (some x0)), (1, vI x1), (2, vI x2)] [] Q := by
  obtain ⟨h1, v, c, p⟩ := c
  obtain ⟨h', r, K, q⟩ := K h1 v p
  exact ⟨h', r, j_aload_n dX6_idlest_9 rfl rfl <| j_iload_n dX6_idlest_10 rfl rfl <| j_callV (v := some (vI v)) (as := [vI x2]) dX6_idlest_11 kc_X6_62 rfl rfl w (by decide) (Nat.le_of_ble_eq_true rfl) c K, q⟩
theorem bX6_idlest_14 {h0 h : k_H} {Q : k_H → k_R → Prop} {x0 : Nat} {x1 x2 s0 : Int32} (w : k_is h x0 9) {P : k_H → Int32 → Prop} (c : k_cti (tX6_countOf G l) [vR (some x0), vI x1] h P) (K : ∀ h1 v, P h1 v → k_X (jX6_idlest G l h0) h1 19 [(0, vR (some x0)), (1, vI x1), (2, vI x2)] [vI v, vI s0] Q) : k_X (jX6_idlest G l h0) h 14 [(0, vR (some x0)), (1, vI x1), (2, vI x2)] [vI s0] Q := by
  obtain ⟨h1, v, c, p⟩ := c
  obtain ⟨h', r, K, q⟩ := K h1 v p
  exact ⟨h', r, j_aload_n dX6_idlest_14 rfl rfl <| j_iload_n dX6_idlest_15 rfl rfl <| j_callV (v := some (vI v)) (as := [vI x1]) dX6_idlest_16 kc_X6_62 rfl rfl w (by decide) (Nat.le_of_ble_eq_true rfl) c K, q⟩
theorem bX6_idlest_19 {h0 h : k_H} {Q : k_H → k_R → Prop} {x0 : Nat} {x1 x2 s0 s1 : Int32} (K1 : s1 ≤ s0 → k_X (jX6_idlest G l h0) h 24 [(0, vR (some x0)), (1, vI x1), (2, vI x2)] [] Q) (K2 : ¬ (s1 ≤ s0) → k_X (jX6_idlest G l h0) h 22 [(0, vR (some x0)), (2, vI x2)] [] Q) : k_X (jX6_idlest G l h0) h 19 [(0, vR (some x0)), (1, vI x1), (2, vI x2)] [vI s1, vI s0] Q := by
  by_cases hc : s1 ≤ s0
  · skip
    obtain ⟨h', r, K, q⟩ := K1 hc
    exact ⟨h', r, j_icmp_ge_t (tgt := 24) dX6_idlest_19 (by decide) hc K, q⟩
  · skip
    obtain ⟨h', r, K, q⟩ := K2 hc
    exact ⟨h', r, j_icmp_ge_f dX6_idlest_19 24 (by decide) hc (j_pick [0, 2] rfl K), q⟩
theorem bX6_idlest_22 {h0 h : k_H} {Q : k_H → k_R → Prop} {x0 : Nat} {x2 : Int32} (K : k_X (jX6_idlest G l h0) h 24 [(0, vR (some x0)), (1, vI x2), (2, vI x2)] [] Q) : k_X (jX6_idlest G l h0) h 22 [(0, vR (some x0)), (2, vI x2)] [] Q := by
  obtain ⟨h', r, K, q⟩ := K
  exact ⟨h', r, j_iload_n dX6_idlest_22 rfl rfl <| j_istore_n dX6_idlest_23 rfl (by decide) rfl <| K, q⟩
theorem bX6_idlest_24 {h0 h : k_H} {Q : k_H → k_R → Prop} {x0 : Nat} {x1 x2 : Int32} (K : k_X (jX6_idlest G l h0) h 4 [(0, vR (some x0)), (1, vI x1), (2, vI (x2 + 1))] [] Q) : k_X (jX6_idlest G l h0) h 24 [(0, vR (some x0)), (1, vI x1), (2, vI x2)] [] Q := by
  obtain ⟨h', r, K, q⟩ := K
  exact ⟨h', r, j_iinc (v := x2 + 1) dX6_idlest_24 rfl (by decide) rfl rfl <| j_goto (tgt := 4) dX6_idlest_27 (by decide) <| K, q⟩
theorem bX6_idlest_30 {h0 h : k_H} {Q : k_H → k_R → Prop} {x1 : Int32} (q : Q h (.inl (some (vI x1)))) : k_X (jX6_idlest G l h0) h 30 [(1, vI x1)] [] Q := by
  exact ⟨_, _, j_iload_n dX6_idlest_30 rfl rfl <| j_iret dX6_idlest_31 rfl, q⟩
theorem eX6_countOf {G : k_G} {l : Launch} (hfl : l.flags = flags0) {h : k_H} {Q : k_H → k_R → Prop} {x0 : Nat} {x1 : Int32} (K : k_X (jX6_countOf G l h) h 0 [(0, vR (some x0)), (1, vI x1)] [] Q) : k_ct (tX6_countOf G l) [vR (some x0), vI x1] h Q := by
  obtain ⟨h', r, K, q⟩ := K
  exact ⟨h', r, k_CtOf (by decide +kernel) (Nat.le_of_ble_eq_true rfl) K hfl, q⟩

theorem bX6_countOf_0 {h0 h : k_H} {Q : k_H → k_R → Prop} {x0 : Nat} {x1 : Int32} (K : k_X (jX6_countOf G l h0) h 4 [(0, vR (some x0)), (1, vI x1), (2, vI 0), (3, vI 0)] [] Q) : k_X (jX6_countOf G l h0) h 0 [(0, vR (some x0)), (1, vI x1)] [] Q := by
  obtain ⟨h', r, K, q⟩ := K
  exact ⟨h', r, j_iconst (v := 0) dX6_countOf_0 (by decide) <| j_istore_n dX6_countOf_1 rfl (by decide) rfl <| j_iconst (v := 0) dX6_countOf_2 (by decide) <| j_istore_n dX6_countOf_3 rfl (by decide) rfl <| K, q⟩
theorem bX6_countOf_4 {h0 h : k_H} {Q : k_H → k_R → Prop} {x0 f1_0 : Nat} {x1 x2 x3 : Int32} {fs1 : List k_V} (o1 : h.1 x0 = some (k_o 9 fs1)) (g1_0 : fs1[0]? = some (vR (some f1_0))) (w : k_is h f1_0 2) {P : k_H → Int32 → Prop} (c : k_cti (tAL_size G l) [vR (some f1_0)] h P) (K : ∀ h1 v, P h1 v → k_X (jX6_countOf G l h0) h1 12 [(0, vR (some x0)), (1, vI x1), (2, vI x2), (3, vI x3)] [vI v, vI x3] Q) : k_X (jX6_countOf G l h0) h 4 [(0, vR (some x0)), (1, vI x1), (2, vI x2), (3, vI x3)] [] Q := by
  obtain ⟨h1, v, c, p⟩ := c
  obtain ⟨h', r, K, q⟩ := K h1 v p
  exact ⟨h', r, j_iload_n dX6_countOf_4 rfl rfl <| j_aload_n dX6_countOf_5 rfl rfl <| j_getf dX6_countOf_6 kf_X6_12 o1 g1_0 <| j_callV (v := some (vI v)) (as := []) dX6_countOf_9 kc_X6_27 rfl rfl w (by decide) (Nat.le_of_ble_eq_true rfl) c K, q⟩
theorem bX6_countOf_12 {h0 h : k_H} {Q : k_H → k_R → Prop} {x0 : Nat} {x1 x2 x3 s0 s1 : Int32} (K1 : s1 ≤ s0 → k_X (jX6_countOf G l h0) h 42 [(2, vI x2)] [] Q) (K2 : ¬ (s1 ≤ s0) → k_X (jX6_countOf G l h0) h 15 [(0, vR (some x0)), (1, vI x1), (2, vI x2), (3, vI x3)] [] Q) : k_X (jX6_countOf G l h0) h 12 [(0, vR (some x0)), (1, vI x1), (2, vI x2), (3, vI x3)] [vI s1, vI s0] Q := by
  by_cases hc : s1 ≤ s0
  · skip
    obtain ⟨h', r, K, q⟩ := K1 hc
    exact ⟨h', r, j_icmp_ge_t (tgt := 42) dX6_countOf_12 (by decide) hc (j_pick [2] rfl K), q⟩
  · skip
    obtain ⟨h', r, K, q⟩ := K2 hc
    exact ⟨h', r, j_icmp_ge_f dX6_countOf_12 42 (by decide) hc K, q⟩
theorem bX6_countOf_15 {h0 h : k_H} {Q : k_H → k_R → Prop} {x0 f1_0 : Nat} {x1 x2 x3 : Int32} {fs1 : List k_V} (o1 : h.1 x0 = some (k_o 9 fs1)) (g1_0 : fs1[0]? = some (vR (some f1_0))) (w : k_is h f1_0 2) {P : k_H → Option Nat → Prop} (c : k_ctr (tAL_get G l) [vR (some f1_0), vI x3] h P) (K : ∀ h1 v, P h1 v → k_X (jX6_countOf G l h0) h1 23 [(0, vR (some x0)), (1, vI x1), (2, vI x2), (3, vI x3)] [vR v] Q) : k_X (jX6_countOf G l h0) h 15 [(0, vR (some x0)), (1, vI x1), (2, vI x2), (3, vI x3)] [] Q := by
  obtain ⟨h1, v, c, p⟩ := c
  obtain ⟨h', r, K, q⟩ := K h1 v p
  exact ⟨h', r, j_aload_n dX6_countOf_15 rfl rfl <| j_getf dX6_countOf_16 kf_X6_12 o1 g1_0 <| j_iload_n dX6_countOf_19 rfl rfl <| j_callV (v := some (vR v)) (as := [vI x3]) dX6_countOf_20 kc_X6_32 rfl rfl w (by decide) (Nat.le_of_ble_eq_true rfl) c K, q⟩
theorem bX6_countOf_23 {h0 h : k_H} {Q : k_H → k_R → Prop} {x0 s0 : Nat} {x1 x2 x3 f1_1 : Int32} {fs1 : List k_V} (o1 : h.1 s0 = some (k_o 8 fs1)) (g1_1 : fs1[1]? = some (vI f1_1)) (K1 : ¬ (f1_1 = x1) → k_X (jX6_countOf G l h0) h 36 [(0, vR (some x0)), (1, vI x1), (2, vI x2), (3, vI x3)] [] Q) (K2 : f1_1 = x1 → k_X (jX6_countOf G l h0) h 33 [(0, vR (some x0)), (1, vI x1), (2, vI x2), (3, vI x3)] [] Q) : k_X (jX6_countOf G l h0) h 23 [(0, vR (some x0)), (1, vI x1), (2, vI x2), (3, vI x3)] [vR (some s0)] Q := by
  by_cases hc : f1_1 = x1
  · skip
    obtain ⟨h', r, K, q⟩ := K2 hc
    exact ⟨h', r, j_cast dX6_countOf_23 kk_X6_18 o1 <| j_getf dX6_countOf_26 kf_X6_66 o1 g1_1 <| j_iload_n dX6_countOf_29 rfl rfl <| j_icmp_ne_f dX6_countOf_30 36 (by decide) hc K, q⟩
  · skip
    obtain ⟨h', r, K, q⟩ := K1 hc
    exact ⟨h', r, j_cast dX6_countOf_23 kk_X6_18 o1 <| j_getf dX6_countOf_26 kf_X6_66 o1 g1_1 <| j_iload_n dX6_countOf_29 rfl rfl <| j_icmp_ne_t (tgt := 36) dX6_countOf_30 (by decide) hc K, q⟩
theorem bX6_countOf_33 {h0 h : k_H} {Q : k_H → k_R → Prop} {x0 : Nat} {x1 x2 x3 : Int32} (K : k_X (jX6_countOf G l h0) h 36 [(0, vR (some x0)), (1, vI x1), (2, vI (x2 + 1)), (3, vI x3)] [] Q) : k_X (jX6_countOf G l h0) h 33 [(0, vR (some x0)), (1, vI x1), (2, vI x2), (3, vI x3)] [] Q := by
  obtain ⟨h', r, K, q⟩ := K
  exact ⟨h', r, j_iinc (v := x2 + 1) dX6_countOf_33 rfl (by decide) rfl rfl <| K, q⟩
theorem bX6_countOf_36 {h0 h : k_H} {Q : k_H → k_R → Prop} {x0 : Nat} {x1 x2 x3 : Int32} (K : k_X (jX6_countOf G l h0) h 4 [(0, vR (some x0)), (1, vI x1), (2, vI x2), (3, vI (x3 + 1))] [] Q) : k_X (jX6_countOf G l h0) h 36 [(0, vR (some x0)), (1, vI x1), (2, vI x2), (3, vI x3)] [] Q := by
  obtain ⟨h', r, K, q⟩ := K
  exact ⟨h', r, j_iinc (v := x3 + 1) dX6_countOf_36 rfl (by decide) rfl rfl <| j_goto (tgt := 4) dX6_countOf_39 (by decide) <| K, q⟩
theorem bX6_countOf_42 {h0 h : k_H} {Q : k_H → k_R → Prop} {x2 : Int32} (q : Q h (.inl (some (vI x2)))) : k_X (jX6_countOf G l h0) h 42 [(2, vI x2)] [] Q := by
  exact ⟨_, _, j_iload_n dX6_countOf_42 rfl rfl <| j_iret dX6_countOf_43 rfl, q⟩
theorem eX7_init {G : k_G} {l : Launch} (hfl : l.flags = flags0) {h : k_H} {Q : k_H → k_R → Prop} {x0 : Nat} {x1 : Int64} {x3 : Int64} {x5 : Int32} (K : k_X (jX7_init G l h) h 0 [(0, vR (some x0)), (1, vJ x1), (3, vJ x3), (5, vI x5)] [] Q) : k_ct (tX7_init G l) [vR (some x0), vJ x1, vJ x3, vI x5] h Q := by
  obtain ⟨h', r, K, q⟩ := K
  exact ⟨h', r, k_CtOf (by decide +kernel) (Nat.le_of_ble_eq_true rfl) K hfl, q⟩

theorem bX7_init_0 {h0 h : k_H} {Q : k_H → k_R → Prop} {x0 : Nat} {x1 x3 : Int64} {x5 : Int32} {fs1 : List k_V} (o1 : h.1 x0 = some (k_o 10 fs1)) (z1 : fs1.length = 3) (K : k_X (jX7_init G l h0) (k_up h x0 (k_o 10 (fs1.set 0 (vJ x1)))) 9 [(0, vR (some x0)), (3, vJ x3), (5, vI x5)] [] Q) : k_X (jX7_init G l h0) h 0 [(0, vR (some x0)), (1, vJ x1), (3, vJ x3), (5, vI x5)] [] Q := by
  obtain ⟨h', r, K, q⟩ := K
  exact ⟨h', r, j_aload_n dX7_init_0 rfl rfl <| j_objInit dX7_init_1 ko_X7_1 ko_inst ko_code (by decide) (Nat.le_of_ble_eq_true rfl) <| j_aload_n dX7_init_4 rfl rfl <| j_lload_n dX7_init_5 rfl rfl <| j_putF dX7_init_6 rfl kp_X7_7 o1 (k_ln z1 (by decide)) (k_fit_j _) rfl <| (j_pick [0, 2, 3] rfl K), q⟩
theorem bX7_init_9 {h0 h : k_H} {Q : k_H → k_R → Prop} {x0 : Nat} {x3 : Int64} {x5 : Int32} {fs1 : List k_V} (o1 : h.1 x0 = some (k_o 10 fs1)) (z1 : fs1.length = 3) (K : k_X (jX7_init G l h0) (k_up h x0 (k_o 10 (fs1.set 1 (vJ x3)))) 14 [(0, vR (some x0)), (5, vI x5)] [] Q) : k_X (jX7_init G l h0) h 9 [(0, vR (some x0)), (3, vJ x3), (5, vI x5)] [] Q := by
  obtain ⟨h', r, K, q⟩ := K
  exact ⟨h', r, j_aload_n dX7_init_9 rfl rfl <| j_lload_n dX7_init_10 rfl rfl <| j_putF dX7_init_11 rfl kp_X7_13 o1 (k_ln z1 (by decide)) (k_fit_j _) rfl <| (j_pick [0, 2] rfl K), q⟩
theorem bX7_init_14 {h0 h : k_H} {Q : k_H → k_R → Prop} {x0 : Nat} {x5 : Int32} {fs1 : List k_V} (o1 : h.1 x0 = some (k_o 10 fs1)) (z1 : fs1.length = 3) (K : k_X (jX7_init G l h0) (k_up h x0 (k_o 10 (fs1.set 2 (vI x5)))) 20 [] [] Q) : k_X (jX7_init G l h0) h 14 [(0, vR (some x0)), (5, vI x5)] [] Q := by
  obtain ⟨h', r, K, q⟩ := K
  exact ⟨h', r, j_aload_n dX7_init_14 rfl rfl <| j_iload dX7_init_15 rfl <| j_putF dX7_init_17 rfl kp_X7_16 o1 (k_ln z1 (by decide)) (k_fit_i _) rfl <| (j_pick [] rfl K), q⟩
theorem bX7_init_20 {h0 h : k_H} {Q : k_H → k_R → Prop} (q : Q h (.inl none)) : k_X (jX7_init G l h0) h 20 [] [] Q := by
  exact ⟨_, _, j_vret dX7_init_20 rfl, q⟩
theorem eX8_init {G : k_G} {l : Launch} (hfl : l.flags = flags0) {h : k_H} {Q : k_H → k_R → Prop} {x0 : Nat} (K : k_X (jX8_init G l h) h 0 [(0, vR (some x0))] [] Q) : k_ct (tX8_init G l) [vR (some x0)] h Q := by
  obtain ⟨h', r, K, q⟩ := K
  exact ⟨h', r, k_CtOf (by decide +kernel) (Nat.le_of_ble_eq_true rfl) K hfl, q⟩

theorem bX8_init_0 {h0 h : k_H} {Q : k_H → k_R → Prop} {x0 : Nat} (K : k_X (jX8_init G l h0) (k_nw h 3 (k_o 2 [vI 0, vR none, vI 0])) 8 [(0, vR (some x0))] [vR (some h.2.1), vR (some x0)] Q) : k_X (jX8_init G l h0) h 0 [(0, vR (some x0))] [] Q := by
  obtain ⟨h', r, K, q⟩ := K
  exact ⟨h', r, j_aload_n dX8_init_0 rfl rfl <| j_objInit dX8_init_1 ko_X8_3 ko_inst ko_code (by decide) (Nat.le_of_ble_eq_true rfl) <| j_aload_n dX8_init_4 rfl rfl <| j_new dX8_init_5 kn_X8_9 <| K, q⟩
theorem bX8_init_8 {h0 h : k_H} {Q : k_H → k_R → Prop} {x0 s1 : Nat} {s0 : Option Nat} {P : k_H → Prop} (c : k_ctv (tAL_init G l) [vR (some s1)] h P) (K : ∀ h1, P h1 → k_X (jX8_init G l h0) h1 12 [(0, vR (some x0))] [vR (some s1), vR s0] Q) : k_X (jX8_init G l h0) h 8 [(0, vR (some x0))] [vR (some s1), vR s0] Q := by
  obtain ⟨h1, c, p⟩ := c
  obtain ⟨h', r, K, q⟩ := K h1 p
  exact ⟨h', r, j_dup dX8_init_8 rfl <| j_callI (v := none) (as := []) dX8_init_9 kc_X8_11 rfl rfl (by decide) (Nat.le_of_ble_eq_true rfl) c K, q⟩
theorem bX8_init_12 {h0 h : k_H} {Q : k_H → k_R → Prop} {x0 s0 : Nat} {s1 : Option Nat} {fs1 : List k_V} (o1 : h.1 s0 = some (k_o 11 fs1)) (z1 : fs1.length = 7) (K : k_X (jX8_init G l h0) (k_up h s0 (k_o 11 (fs1.set 0 (vR s1)))) 15 [(0, vR (some x0))] [] Q) : k_X (jX8_init G l h0) h 12 [(0, vR (some x0))] [vR s1, vR (some s0)] Q := by
  obtain ⟨h', r, K, q⟩ := K
  exact ⟨h', r, j_putF dX8_init_12 rfl kp_X8_12 o1 (k_ln z1 (by decide)) (k_fit_r _ _) rfl <| K, q⟩
theorem bX8_init_15 {h0 h : k_H} {Q : k_H → k_R → Prop} {x0 : Nat} (K : k_X (jX8_init G l h0) (k_nw h 3 (k_o 2 [vI 0, vR none, vI 0])) 19 [(0, vR (some x0))] [vR (some h.2.1), vR (some x0)] Q) : k_X (jX8_init G l h0) h 15 [(0, vR (some x0))] [] Q := by
  obtain ⟨h', r, K, q⟩ := K
  exact ⟨h', r, j_aload_n dX8_init_15 rfl rfl <| j_new dX8_init_16 kn_X8_9 <| K, q⟩
theorem bX8_init_19 {h0 h : k_H} {Q : k_H → k_R → Prop} {x0 s1 : Nat} {s0 : Option Nat} {P : k_H → Prop} (c : k_ctv (tAL_init G l) [vR (some s1)] h P) (K : ∀ h1, P h1 → k_X (jX8_init G l h0) h1 23 [(0, vR (some x0))] [vR (some s1), vR s0] Q) : k_X (jX8_init G l h0) h 19 [(0, vR (some x0))] [vR (some s1), vR s0] Q := by
  obtain ⟨h1, c, p⟩ := c
  obtain ⟨h', r, K, q⟩ := K h1 p
  exact ⟨h', r, j_dup dX8_init_19 rfl <| j_callI (v := none) (as := []) dX8_init_20 kc_X8_11 rfl rfl (by decide) (Nat.le_of_ble_eq_true rfl) c K, q⟩
theorem bX8_init_23 {h0 h : k_H} {Q : k_H → k_R → Prop} {x0 s0 : Nat} {s1 : Option Nat} {fs1 : List k_V} (o1 : h.1 s0 = some (k_o 11 fs1)) (z1 : fs1.length = 7) (K : k_X (jX8_init G l h0) (k_up h s0 (k_o 11 (fs1.set 1 (vR s1)))) 26 [(0, vR (some x0))] [] Q) : k_X (jX8_init G l h0) h 23 [(0, vR (some x0))] [vR s1, vR (some s0)] Q := by
  obtain ⟨h', r, K, q⟩ := K
  exact ⟨h', r, j_putF dX8_init_23 rfl kp_X8_18 o1 (k_ln z1 (by decide)) (k_fit_r _ _) rfl <| K, q⟩
theorem bX8_init_26 {h0 h : k_H} {Q : k_H → k_R → Prop} {x0 : Nat} (K : k_X (jX8_init G l h0) (k_nw h 3 (k_o 2 [vI 0, vR none, vI 0])) 30 [(0, vR (some x0))] [vR (some h.2.1), vR (some x0)] Q) : k_X (jX8_init G l h0) h 26 [(0, vR (some x0))] [] Q := by
  obtain ⟨h', r, K, q⟩ := K
  exact ⟨h', r, j_aload_n dX8_init_26 rfl rfl <| j_new dX8_init_27 kn_X8_9 <| K, q⟩
theorem bX8_init_30 {h0 h : k_H} {Q : k_H → k_R → Prop} {x0 s1 : Nat} {s0 : Option Nat} {P : k_H → Prop} (c : k_ctv (tAL_init G l) [vR (some s1)] h P) (K : ∀ h1, P h1 → k_X (jX8_init G l h0) h1 34 [(0, vR (some x0))] [vR (some s1), vR s0] Q) : k_X (jX8_init G l h0) h 30 [(0, vR (some x0))] [vR (some s1), vR s0] Q := by
  obtain ⟨h1, c, p⟩ := c
  obtain ⟨h', r, K, q⟩ := K h1 p
  exact ⟨h', r, j_dup dX8_init_30 rfl <| j_callI (v := none) (as := []) dX8_init_31 kc_X8_11 rfl rfl (by decide) (Nat.le_of_ble_eq_true rfl) c K, q⟩
theorem bX8_init_34 {h0 h : k_H} {Q : k_H → k_R → Prop} {x0 s0 : Nat} {s1 : Option Nat} {fs1 : List k_V} (o1 : h.1 s0 = some (k_o 11 fs1)) (z1 : fs1.length = 7) (K : k_X (jX8_init G l h0) (k_up h s0 (k_o 11 (fs1.set 2 (vR s1)))) 37 [(0, vR (some x0))] [] Q) : k_X (jX8_init G l h0) h 34 [(0, vR (some x0))] [vR s1, vR (some s0)] Q := by
  obtain ⟨h', r, K, q⟩ := K
  exact ⟨h', r, j_putF dX8_init_34 rfl kp_X8_21 o1 (k_ln z1 (by decide)) (k_fit_r _ _) rfl <| K, q⟩
theorem bX8_init_37 {h0 h : k_H} {Q : k_H → k_R → Prop} {x0 : Nat} (K : k_X (jX8_init G l h0) (k_nw h 3 (k_o 3 [vI 0, vI 0, vI 0])) 41 [(0, vR (some x0))] [vR (some h.2.1), vR (some x0)] Q) : k_X (jX8_init G l h0) h 37 [(0, vR (some x0))] [] Q := by
  obtain ⟨h', r, K, q⟩ := K
  exact ⟨h', r, j_aload_n dX8_init_37 rfl rfl <| j_new dX8_init_38 kn_X8_24 <| K, q⟩
theorem bX8_init_41 {h0 h : k_H} {Q : k_H → k_R → Prop} {x0 s1 : Nat} {s0 : Option Nat} {P : k_H → Prop} (c : k_ctv (tX0_init G l) [vR (some s1)] h P) (K : ∀ h1, P h1 → k_X (jX8_init G l h0) h1 45 [(0, vR (some x0))] [vR (some s1), vR s0] Q) : k_X (jX8_init G l h0) h 41 [(0, vR (some x0))] [vR (some s1), vR s0] Q := by
  obtain ⟨h1, c, p⟩ := c
  obtain ⟨h', r, K, q⟩ := K h1 p
  exact ⟨h', r, j_dup dX8_init_41 rfl <| j_callIN (v := none) (as := []) dX8_init_42 kc_X8_26 rfl ks_yX0_init rfl rfl (by decide) (Nat.le_of_ble_eq_true rfl) c K, q⟩
theorem bX8_init_45 {h0 h : k_H} {Q : k_H → k_R → Prop} {x0 s0 : Nat} {s1 : Option Nat} {fs1 : List k_V} (o1 : h.1 s0 = some (k_o 11 fs1)) (z1 : fs1.length = 7) (K : k_X (jX8_init G l h0) (k_up h s0 (k_o 11 (fs1.set 3 (vR s1)))) 48 [(0, vR (some x0))] [] Q) : k_X (jX8_init G l h0) h 45 [(0, vR (some x0))] [vR s1, vR (some s0)] Q := by
  obtain ⟨h', r, K, q⟩ := K
  exact ⟨h', r, j_putF dX8_init_45 rfl kp_X8_27 o1 (k_ln z1 (by decide)) (k_fit_r _ _) rfl <| K, q⟩
theorem bX8_init_48 {h0 h : k_H} {Q : k_H → k_R → Prop} {x0 : Nat} {fs1 : List k_V} (o1 : h.1 x0 = some (k_o 11 fs1)) (z1 : fs1.length = 7) (K : k_X (jX8_init G l h0) (k_up h x0 (k_o 11 (fs1.set 4 (vI 0)))) 53 [(0, vR (some x0))] [] Q) : k_X (jX8_init G l h0) h 48 [(0, vR (some x0))] [] Q := by
  obtain ⟨h', r, K, q⟩ := K
  exact ⟨h', r, j_aload_n dX8_init_48 rfl rfl <| j_iconst (v := 0) dX8_init_49 (by decide) <| j_putf dX8_init_50 kp_X8_31 o1 (k_ln z1 (by decide)) (k_fit_i _) rfl <| K, q⟩
theorem bX8_init_53 {h0 h : k_H} {Q : k_H → k_R → Prop} {x0 : Nat} {fs1 : List k_V} (o1 : h.1 x0 = some (k_o 11 fs1)) (z1 : fs1.length = 7) (K : k_X (jX8_init G l h0) (k_up h x0 (k_o 11 (fs1.set 5 (vR none)))) 58 [(0, vR (some x0))] [] Q) : k_X (jX8_init G l h0) h 53 [(0, vR (some x0))] [] Q := by
  obtain ⟨h', r, K, q⟩ := K
  exact ⟨h', r, j_aload_n dX8_init_53 rfl rfl <| j_null dX8_init_54 <| j_putf dX8_init_55 kp_X8_35 o1 (k_ln z1 (by decide)) (k_fit_r _ _) rfl <| K, q⟩
theorem bX8_init_58 {h0 h : k_H} {Q : k_H → k_R → Prop} {x0 : Nat} {fs1 : List k_V} (o1 : h.1 x0 = some (k_o 11 fs1)) (z1 : fs1.length = 7) (K : k_X (jX8_init G l h0) (k_up h x0 (k_o 11 (fs1.set 6 (vI 0)))) 63 [] [] Q) : k_X (jX8_init G l h0) h 58 [(0, vR (some x0))] [] Q := by
  obtain ⟨h', r, K, q⟩ := K
  exact ⟨h', r, j_aload_n dX8_init_58 rfl rfl <| j_iconst (v := 0) dX8_init_59 (by decide) <| j_putf dX8_init_60 kp_X8_39 o1 (k_ln z1 (by decide)) (k_fit_i _) rfl <| (j_pick [] rfl K), q⟩
theorem bX8_init_63 {h0 h : k_H} {Q : k_H → k_R → Prop} (q : Q h (.inl none)) : k_X (jX8_init G l h0) h 63 [] [] Q := by
  exact ⟨_, _, j_vret dX8_init_63 rfl, q⟩
theorem eX8_advance {G : k_G} {l : Launch} (hfl : l.flags = flags0) {h : k_H} {Q : k_H → k_R → Prop} {x0 : Nat} {x1 : Int32} (K : k_X (jX8_advance G l h) h 0 [(0, vR (some x0)), (1, vI x1)] [] Q) : k_ct (tX8_advance G l) [vR (some x0), vI x1] h Q := by
  obtain ⟨h', r, K, q⟩ := K
  exact ⟨h', r, k_CtOf (by decide +kernel) (Nat.le_of_ble_eq_true rfl) K hfl, q⟩

theorem bX8_advance_0 {h0 h : k_H} {Q : k_H → k_R → Prop} {x0 : Nat} {x1 f1_6 : Int32} {fs1 : List k_V} (o1 : h.1 x0 = some (k_o 11 fs1)) (g1_6 : fs1[6]? = some (vI f1_6)) (z1 : fs1.length = 7) (K : k_X (jX8_advance G l h0) (k_up h x0 (k_o 11 (fs1.set 6 (vI (if 9000 < (f1_6 + x1) then 9000 else (f1_6 + x1)))))) 16 [] [] Q) : k_X (jX8_advance G l h0) h 0 [(0, vR (some x0)), (1, vI x1)] [] Q := by
  obtain ⟨h', r, K, q⟩ := K
  exact ⟨h', r, j_aload_n dX8_advance_0 rfl rfl <| j_aload_n dX8_advance_1 rfl rfl <| j_getf dX8_advance_2 kf_X8_39 o1 g1_6 <| j_iload_n dX8_advance_5 rfl rfl <| j_iadd dX8_advance_6 <| j_sipush (v := 9000) dX8_advance_7 (by decide) <| j_mmin dX8_advance_10 km_X8_42 km_st_min km_init km_co_min (by decide) (Nat.le_of_ble_eq_true rfl) <| j_putf dX8_advance_13 kp_X8_39 o1 (k_ln z1 (by decide)) (k_fit_i _) rfl <| (j_pick [] rfl K), q⟩
theorem bX8_advance_16 {h0 h : k_H} {Q : k_H → k_R → Prop} (q : Q h (.inl none)) : k_X (jX8_advance G l h0) h 16 [] [] Q := by
  exact ⟨_, _, j_vret dX8_advance_16 rfl, q⟩
theorem eX8_placeFrom {G : k_G} {l : Launch} (hfl : l.flags = flags0) {h : k_H} {Q : k_H → k_R → Prop} {x0 : Nat} {x1 : Int64} (K : k_X (jX8_placeFrom G l h) h 0 [(0, vR (some x0)), (1, vJ x1)] [] Q) : k_ct (tX8_placeFrom G l) [vR (some x0), vJ x1] h Q := by
  obtain ⟨h', r, K, q⟩ := K
  exact ⟨h', r, k_CtOf (by decide +kernel) (Nat.le_of_ble_eq_true rfl) K hfl, q⟩

theorem bX8_placeFrom_0 {h0 h : k_H} {Q : k_H → k_R → Prop} {x0 f1_0 : Nat} {x1 : Int64} {fs1 : List k_V} (o1 : h.1 x0 = some (k_o 11 fs1)) (g1_0 : fs1[0]? = some (vR (some f1_0))) (w : k_is h f1_0 2) {P : k_H → Int32 → Prop} (c : k_cti (tAL_size G l) [vR (some f1_0)] h P) (K : ∀ h1 v, P h1 v → k_X (jX8_placeFrom G l h0) h1 9 [(0, vR (some x0)), (1, vJ x1), (3, vI 0)] [vI v] Q) : k_X (jX8_placeFrom G l h0) h 0 [(0, vR (some x0)), (1, vJ x1)] [] Q := by
  obtain ⟨h1, v, c, p⟩ := c
  obtain ⟨h', r, K, q⟩ := K h1 v p
  exact ⟨h', r, j_iconst (v := 0) dX8_placeFrom_0 (by decide) <| j_istore_n dX8_placeFrom_1 rfl (by decide) rfl <| j_aload_n dX8_placeFrom_2 rfl rfl <| j_getf dX8_placeFrom_3 kf_X8_12 o1 g1_0 <| j_callV (v := some (vI v)) (as := []) dX8_placeFrom_6 kc_X8_48 rfl rfl w (by decide) (Nat.le_of_ble_eq_true rfl) c K, q⟩
theorem bX8_placeFrom_9 {h0 h : k_H} {Q : k_H → k_R → Prop} {x0 : Nat} {x1 : Int64} {x3 s0 : Int32} (K : k_X (jX8_placeFrom G l h0) h 11 [(0, vR (some x0)), (1, vJ x1), (3, vI x3), (4, vI s0)] [] Q) : k_X (jX8_placeFrom G l h0) h 9 [(0, vR (some x0)), (1, vJ x1), (3, vI x3)] [vI s0] Q := by
  obtain ⟨h', r, K, q⟩ := K
  exact ⟨h', r, j_istore dX8_placeFrom_9 (by decide) rfl <| K, q⟩
theorem bX8_placeFrom_11 {h0 h : k_H} {Q : k_H → k_R → Prop} {x0 : Nat} {x1 : Int64} {x3 x4 : Int32} (K1 : x4 ≤ x3 → k_X (jX8_placeFrom G l h0) h 60 [(3, vI x3)] [] Q) (K2 : ¬ (x4 ≤ x3) → k_X (jX8_placeFrom G l h0) h 17 [(0, vR (some x0)), (1, vJ x1), (3, vI x3), (4, vI x4)] [] Q) : k_X (jX8_placeFrom G l h0) h 11 [(0, vR (some x0)), (1, vJ x1), (3, vI x3), (4, vI x4)] [] Q := by
  by_cases hc : x4 ≤ x3
  · skip
    obtain ⟨h', r, K, q⟩ := K1 hc
    exact ⟨h', r, j_iload_n dX8_placeFrom_11 rfl rfl <| j_iload dX8_placeFrom_12 rfl <| j_icmp_ge_t (tgt := 60) dX8_placeFrom_14 (by decide) hc (j_pick [2] rfl K), q⟩
  · skip
    obtain ⟨h', r, K, q⟩ := K2 hc
    exact ⟨h', r, j_iload_n dX8_placeFrom_11 rfl rfl <| j_iload dX8_placeFrom_12 rfl <| j_icmp_ge_f dX8_placeFrom_14 60 (by decide) hc K, q⟩
theorem bX8_placeFrom_17 {h0 h : k_H} {Q : k_H → k_R → Prop} {x0 f1_0 : Nat} {x1 : Int64} {x3 x4 : Int32} {fs1 : List k_V} (o1 : h.1 x0 = some (k_o 11 fs1)) (g1_0 : fs1[0]? = some (vR (some f1_0))) (w : k_is h f1_0 2) {P : k_H → Option Nat → Prop} (c : k_ctr (tAL_get G l) [vR (some f1_0), vI (((Int32.toUInt32 (x3 + x4)) >>> ((Int32.toUInt32 1) &&& Int32.toUInt32 31)).toInt32)] h P) (K : ∀ h1 v, P h1 v → k_X (jX8_placeFrom G l h0) h1 34 [(0, vR (some x0)), (1, vJ x1), (3, vI x3), (4, vI x4), (5, vI (((Int32.toUInt32 (x3 + x4)) >>> ((Int32.toUInt32 1) &&& Int32.toUInt32 31)).toInt32))] [vR v] Q) : k_X (jX8_placeFrom G l h0) h 17 [(0, vR (some x0)), (1, vJ x1), (3, vI x3), (4, vI x4)] [] Q := by
  obtain ⟨h1, v, c, p⟩ := c
  obtain ⟨h', r, K, q⟩ := K h1 v p
  exact ⟨h', r, j_iload_n dX8_placeFrom_17 rfl rfl <| j_iload dX8_placeFrom_18 rfl <| j_iadd dX8_placeFrom_20 <| j_iconst (v := 1) dX8_placeFrom_21 (by decide) <| j_iushr dX8_placeFrom_22 <| j_istore dX8_placeFrom_23 (by decide) rfl <| j_aload_n dX8_placeFrom_25 rfl rfl <| j_getf dX8_placeFrom_26 kf_X8_12 o1 g1_0 <| j_iload dX8_placeFrom_29 rfl <| j_callV (v := some (vR v)) (as := [vI (((Int32.toUInt32 (x3 + x4)) >>> ((Int32.toUInt32 1) &&& Int32.toUInt32 31)).toInt32)]) dX8_placeFrom_31 kc_X8_52 rfl rfl w (by decide) (Nat.le_of_ble_eq_true rfl) c K, q⟩
theorem bX8_placeFrom_34 {h0 h : k_H} {Q : k_H → k_R → Prop} {x0 s0 : Nat} {x1 f1_0 : Int64} {x3 x4 x5 : Int32} {fs1 : List k_V} (o1 : h.1 s0 = some (k_o 7 fs1)) (g1_0 : fs1[0]? = some (vJ f1_0)) (K1 : x1 ≤ f1_0 → k_X (jX8_placeFrom G l h0) h 53 [(0, vR (some x0)), (1, vJ x1), (3, vI x3), (5, vI x5)] [] Q) (K2 : ¬ (x1 ≤ f1_0) → k_X (jX8_placeFrom G l h0) h 45 [(0, vR (some x0)), (1, vJ x1), (4, vI x4), (5, vI x5)] [] Q) : k_X (jX8_placeFrom G l h0) h 34 [(0, vR (some x0)), (1, vJ x1), (3, vI x3), (4, vI x4), (5, vI x5)] [vR (some s0)] Q := by
  by_cases hc : x1 ≤ f1_0
  · skip
    obtain ⟨h', r, K, q⟩ := K1 hc
    exact ⟨h', r, j_cast dX8_placeFrom_34 kk_X8_56 o1 <| j_getf dX8_placeFrom_37 kf_X8_58 o1 g1_0 <| j_lload_n dX8_placeFrom_40 rfl rfl <| j_lcmp dX8_placeFrom_41 <| j_if_ge_t (tgt := 53) dX8_placeFrom_42 (by decide) ((lg_cmp_ge _ _).mpr hc) (j_pick [0, 1, 2, 4] rfl K), q⟩
  · skip
    obtain ⟨h', r, K, q⟩ := K2 hc
    exact ⟨h', r, j_cast dX8_placeFrom_34 kk_X8_56 o1 <| j_getf dX8_placeFrom_37 kf_X8_58 o1 g1_0 <| j_lload_n dX8_placeFrom_40 rfl rfl <| j_lcmp dX8_placeFrom_41 <| j_if_ge_f dX8_placeFrom_42 53 (by decide) ((not_congr (lg_cmp_ge _ _)).mpr hc) (j_pick [0, 1, 3, 4] rfl K), q⟩
theorem bX8_placeFrom_45 {h0 h : k_H} {Q : k_H → k_R → Prop} {x0 : Nat} {x1 : Int64} {x4 x5 : Int32} (K : k_X (jX8_placeFrom G l h0) h 57 [(0, vR (some x0)), (1, vJ x1), (3, vI (x5 + 1)), (4, vI x4)] [] Q) : k_X (jX8_placeFrom G l h0) h 45 [(0, vR (some x0)), (1, vJ x1), (4, vI x4), (5, vI x5)] [] Q := by
  obtain ⟨h', r, K, q⟩ := K
  exact ⟨h', r, j_iload dX8_placeFrom_45 rfl <| j_iconst (v := 1) dX8_placeFrom_47 (by decide) <| j_iadd dX8_placeFrom_48 <| j_istore_n dX8_placeFrom_49 rfl (by decide) rfl <| j_goto (tgt := 57) dX8_placeFrom_50 (by decide) <| (j_pick [0, 1, 2, 3] rfl K), q⟩
theorem bX8_placeFrom_53 {h0 h : k_H} {Q : k_H → k_R → Prop} {x0 : Nat} {x1 : Int64} {x3 x5 : Int32} (K : k_X (jX8_placeFrom G l h0) h 57 [(0, vR (some x0)), (1, vJ x1), (3, vI x3), (4, vI x5)] [] Q) : k_X (jX8_placeFrom G l h0) h 53 [(0, vR (some x0)), (1, vJ x1), (3, vI x3), (5, vI x5)] [] Q := by
  obtain ⟨h', r, K, q⟩ := K
  exact ⟨h', r, j_iload dX8_placeFrom_53 rfl <| j_istore dX8_placeFrom_55 (by decide) rfl <| (j_pick [0, 1, 2, 3] rfl K), q⟩
theorem bX8_placeFrom_57 {h0 h : k_H} {Q : k_H → k_R → Prop} {x0 : Nat} {x1 : Int64} {x3 x4 : Int32} (K : k_X (jX8_placeFrom G l h0) h 11 [(0, vR (some x0)), (1, vJ x1), (3, vI x3), (4, vI x4)] [] Q) : k_X (jX8_placeFrom G l h0) h 57 [(0, vR (some x0)), (1, vJ x1), (3, vI x3), (4, vI x4)] [] Q := by
  obtain ⟨h', r, K, q⟩ := K
  exact ⟨h', r, j_goto (tgt := 11) dX8_placeFrom_57 (by decide) <| K, q⟩
theorem bX8_placeFrom_60 {h0 h : k_H} {Q : k_H → k_R → Prop} {x3 : Int32} (q : Q h (.inl (some (vI x3)))) : k_X (jX8_placeFrom G l h0) h 60 [(3, vI x3)] [] Q := by
  exact ⟨_, _, j_iload_n dX8_placeFrom_60 rfl rfl <| j_iret dX8_placeFrom_61 rfl, q⟩
theorem eX8_find {G : k_G} {l : Launch} (hfl : l.flags = flags0) {h : k_H} {Q : k_H → k_R → Prop} {x0 : Nat} {x1 : Int64} (K : k_X (jX8_find G l h) h 0 [(0, vR (some x0)), (1, vJ x1)] [] Q) : k_ct (tX8_find G l) [vR (some x0), vJ x1] h Q := by
  obtain ⟨h', r, K, q⟩ := K
  exact ⟨h', r, k_CtOf (by decide +kernel) (Nat.le_of_ble_eq_true rfl) K hfl, q⟩

theorem bX8_find_0 {h0 h : k_H} {Q : k_H → k_R → Prop} {x0 : Nat} {x1 : Int64} (w : k_is h x0 11) {P : k_H → Int32 → Prop} (c : k_cti (tX8_placeFrom G l) [vR (some x0), vJ x1] h P) (K : ∀ h1 v, P h1 v → k_X (jX8_find G l h0) h1 5 [(0, vR (some x0)), (1, vJ x1)] [vI v] Q) : k_X (jX8_find G l h0) h 0 [(0, vR (some x0)), (1, vJ x1)] [] Q := by
  obtain ⟨h1, v, c, p⟩ := c
  obtain ⟨h', r, K, q⟩ := K h1 v p
  exact ⟨h', r, j_aload_n dX8_find_0 rfl rfl <| j_lload_n dX8_find_1 rfl rfl <| j_callV (v := some (vI v)) (as := [vJ x1]) dX8_find_2 kc_X8_62 rfl rfl w (by decide) (Nat.le_of_ble_eq_true rfl) c K, q⟩
theorem bX8_find_5 {h0 h : k_H} {Q : k_H → k_R → Prop} {x0 f1_0 : Nat} {x1 : Int64} {s0 : Int32} {fs1 : List k_V} (o1 : h.1 x0 = some (k_o 11 fs1)) (g1_0 : fs1[0]? = some (vR (some f1_0))) (w : k_is h f1_0 2) {P : k_H → Int32 → Prop} (c : k_cti (tAL_size G l) [vR (some f1_0)] h P) (K : ∀ h1 v, P h1 v → k_X (jX8_find G l h0) h1 14 [(0, vR (some x0)), (1, vJ x1), (3, vI s0)] [vI v, vI s0] Q) : k_X (jX8_find G l h0) h 5 [(0, vR (some x0)), (1, vJ x1)] [vI s0] Q := by
  obtain ⟨h1, v, c, p⟩ := c
  obtain ⟨h', r, K, q⟩ := K h1 v p
  exact ⟨h', r, j_istore_n dX8_find_5 rfl (by decide) rfl <| j_iload_n dX8_find_6 rfl rfl <| j_aload_n dX8_find_7 rfl rfl <| j_getf dX8_find_8 kf_X8_12 o1 g1_0 <| j_callV (v := some (vI v)) (as := []) dX8_find_11 kc_X8_48 rfl rfl w (by decide) (Nat.le_of_ble_eq_true rfl) c K, q⟩
theorem bX8_find_14 {h0 h : k_H} {Q : k_H → k_R → Prop} {x0 : Nat} {x1 : Int64} {x3 s0 s1 : Int32} (K1 : s0 < s1 → k_X (jX8_find G l h0) h 19 [(0, vR (some x0)), (1, vJ x1), (3, vI x3)] [] Q) (K2 : ¬ (s0 < s1) → k_X (jX8_find G l h0) h 17 [] [] Q) : k_X (jX8_find G l h0) h 14 [(0, vR (some x0)), (1, vJ x1), (3, vI x3)] [vI s1, vI s0] Q := by
  by_cases hc : s0 < s1
  · skip
    obtain ⟨h', r, K, q⟩ := K1 hc
    exact ⟨h', r, j_icmp_lt_t (tgt := 19) dX8_find_14 (by decide) hc K, q⟩
  · skip
    obtain ⟨h', r, K, q⟩ := K2 hc
    exact ⟨h', r, j_icmp_lt_f dX8_find_14 19 (by decide) hc (j_pick [] rfl K), q⟩
theorem bX8_find_17 {h0 h : k_H} {Q : k_H → k_R → Prop} (q : Q h (.inl (some (vR none)))) : k_X (jX8_find G l h0) h 17 [] [] Q := by
  exact ⟨_, _, j_null dX8_find_17 <| j_aret dX8_find_18 rfl (Or.inl ⟨_, rfl⟩), q⟩
theorem bX8_find_19 {h0 h : k_H} {Q : k_H → k_R → Prop} {x0 f1_0 : Nat} {x1 : Int64} {x3 : Int32} {fs1 : List k_V} (o1 : h.1 x0 = some (k_o 11 fs1)) (g1_0 : fs1[0]? = some (vR (some f1_0))) (w : k_is h f1_0 2) {P : k_H → Option Nat → Prop} (c : k_ctr (tAL_get G l) [vR (some f1_0), vI x3] h P) (K : ∀ h1 v, P h1 v → k_X (jX8_find G l h0) h1 27 [(1, vJ x1)] [vR v] Q) : k_X (jX8_find G l h0) h 19 [(0, vR (some x0)), (1, vJ x1), (3, vI x3)] [] Q := by
  obtain ⟨h1, v, c, p⟩ := c
  obtain ⟨h', r, K, q⟩ := K h1 v p
  exact ⟨h', r, j_aload_n dX8_find_19 rfl rfl <| j_getf dX8_find_20 kf_X8_12 o1 g1_0 <| j_iload_n dX8_find_23 rfl rfl <| j_callV (v := some (vR v)) (as := [vI x3]) dX8_find_24 kc_X8_52 rfl rfl w (by decide) (Nat.le_of_ble_eq_true rfl) c (j_pick [1] rfl K), q⟩
theorem bX8_find_27 {h0 h : k_H} {Q : k_H → k_R → Prop} {x1 f1_0 : Int64} {s0 : Nat} {fs1 : List k_V} (o1 : h.1 s0 = some (k_o 7 fs1)) (g1_0 : fs1[0]? = some (vJ f1_0)) (K1 : ¬ (f1_0 = x1) → k_X (jX8_find G l h0) h 47 [] [] Q) (K2 : f1_0 = x1 → k_X (jX8_find G l h0) h 42 [(4, vR (some s0))] [] Q) : k_X (jX8_find G l h0) h 27 [(1, vJ x1)] [vR (some s0)] Q := by
  by_cases hc : f1_0 = x1
  · skip
    obtain ⟨h', r, K, q⟩ := K2 hc
    exact ⟨h', r, j_cast dX8_find_27 kk_X8_56 o1 <| j_astore dX8_find_30 (by decide) rfl <| j_aload dX8_find_32 rfl <| j_getf dX8_find_34 kf_X8_58 o1 g1_0 <| j_lload_n dX8_find_37 rfl rfl <| j_lcmp dX8_find_38 <| j_if_ne_f dX8_find_39 47 (by decide) ((lg_cmp_eq _ _).mpr hc) (j_pick [1] rfl K), q⟩
  · skip
    obtain ⟨h', r, K, q⟩ := K1 hc
    exact ⟨h', r, j_cast dX8_find_27 kk_X8_56 o1 <| j_astore dX8_find_30 (by decide) rfl <| j_aload dX8_find_32 rfl <| j_getf dX8_find_34 kf_X8_58 o1 g1_0 <| j_lload_n dX8_find_37 rfl rfl <| j_lcmp dX8_find_38 <| j_if_ne_t (tgt := 47) dX8_find_39 (by decide) ((not_congr (lg_cmp_eq _ _)).mpr hc) (j_pick [] rfl K), q⟩
theorem bX8_find_42 {h0 h : k_H} {Q : k_H → k_R → Prop} {x4 : Option Nat} (K : k_X (jX8_find G l h0) h 48 [] [vR x4] Q) : k_X (jX8_find G l h0) h 42 [(4, vR x4)] [] Q := by
  obtain ⟨h', r, K, q⟩ := K
  exact ⟨h', r, j_aload dX8_find_42 rfl <| j_goto (tgt := 48) dX8_find_44 (by decide) <| (j_pick [] rfl K), q⟩
theorem bX8_find_47 {h0 h : k_H} {Q : k_H → k_R → Prop} (K : k_X (jX8_find G l h0) h 48 [] [vR none] Q) : k_X (jX8_find G l h0) h 47 [] [] Q := by
  obtain ⟨h', r, K, q⟩ := K
  exact ⟨h', r, j_null dX8_find_47 <| K, q⟩
theorem bX8_find_48 {h0 h : k_H} {Q : k_H → k_R → Prop} {s0 : Option Nat} (q : Q h (.inl (some (vR s0)))) : k_X (jX8_find G l h0) h 48 [] [vR s0] Q := by
  exact ⟨_, _, j_aret dX8_find_48 rfl (Or.inl ⟨_, rfl⟩), q⟩
theorem eX8_keyFor {G : k_G} {l : Launch} (hfl : l.flags = flags0) {h : k_H} {Q : k_H → k_R → Prop} {x0 : Nat} {x1 : Int64} (K : k_X (jX8_keyFor G l h) h 0 [(0, vR (some x0)), (1, vJ x1)] [] Q) : k_ct (tX8_keyFor G l) [vR (some x0), vJ x1] h Q := by
  obtain ⟨h', r, K, q⟩ := K
  exact ⟨h', r, k_CtOf (by decide +kernel) (Nat.le_of_ble_eq_true rfl) K hfl, q⟩

theorem bX8_keyFor_0 {h0 h : k_H} {Q : k_H → k_R → Prop} {x0 : Nat} {x1 : Int64} (w : k_is h x0 11) {P : k_H → Int32 → Prop} (c : k_cti (tX8_placeFrom G l) [vR (some x0), vJ x1] h P) (K : ∀ h1 v, P h1 v → k_X (jX8_keyFor G l h0) h1 5 [(0, vR (some x0)), (1, vJ x1)] [vI v] Q) : k_X (jX8_keyFor G l h0) h 0 [(0, vR (some x0)), (1, vJ x1)] [] Q := by
  obtain ⟨h1, v, c, p⟩ := c
  obtain ⟨h', r, K, q⟩ := K h1 v p
  exact ⟨h', r, j_aload_n dX8_keyFor_0 rfl rfl <| j_lload_n dX8_keyFor_1 rfl rfl <| j_callV (v := some (vI v)) (as := [vJ x1]) dX8_keyFor_2 kc_X8_62 rfl rfl w (by decide) (Nat.le_of_ble_eq_true rfl) c K, q⟩
theorem bX8_keyFor_5 {h0 h : k_H} {Q : k_H → k_R → Prop} {x0 f1_0 : Nat} {x1 : Int64} {s0 : Int32} {fs1 : List k_V} (o1 : h.1 x0 = some (k_o 11 fs1)) (g1_0 : fs1[0]? = some (vR (some f1_0))) (w : k_is h f1_0 2) {P : k_H → Int32 → Prop} (c : k_cti (tAL_size G l) [vR (some f1_0)] h P) (K : ∀ h1 v, P h1 v → k_X (jX8_keyFor G l h0) h1 14 [(0, vR (some x0)), (1, vJ x1), (3, vI s0)] [vI v, vI s0] Q) : k_X (jX8_keyFor G l h0) h 5 [(0, vR (some x0)), (1, vJ x1)] [vI s0] Q := by
  obtain ⟨h1, v, c, p⟩ := c
  obtain ⟨h', r, K, q⟩ := K h1 v p
  exact ⟨h', r, j_istore_n dX8_keyFor_5 rfl (by decide) rfl <| j_iload_n dX8_keyFor_6 rfl rfl <| j_aload_n dX8_keyFor_7 rfl rfl <| j_getf dX8_keyFor_8 kf_X8_12 o1 g1_0 <| j_callV (v := some (vI v)) (as := []) dX8_keyFor_11 kc_X8_48 rfl rfl w (by decide) (Nat.le_of_ble_eq_true rfl) c K, q⟩
theorem bX8_keyFor_14 {h0 h : k_H} {Q : k_H → k_R → Prop} {x0 : Nat} {x1 : Int64} {x3 s0 s1 : Int32} (K1 : s1 ≤ s0 → k_X (jX8_keyFor G l h0) h 31 [(0, vR (some x0)), (1, vJ x1), (3, vI x3)] [] Q) (K2 : ¬ (s1 ≤ s0) → k_X (jX8_keyFor G l h0) h 17 [(0, vR (some x0)), (1, vJ x1), (3, vI x3)] [] Q) : k_X (jX8_keyFor G l h0) h 14 [(0, vR (some x0)), (1, vJ x1), (3, vI x3)] [vI s1, vI s0] Q := by
  by_cases hc : s1 ≤ s0
  · skip
    obtain ⟨h', r, K, q⟩ := K1 hc
    exact ⟨h', r, j_icmp_ge_t (tgt := 31) dX8_keyFor_14 (by decide) hc K, q⟩
  · skip
    obtain ⟨h', r, K, q⟩ := K2 hc
    exact ⟨h', r, j_icmp_ge_f dX8_keyFor_14 31 (by decide) hc K, q⟩
theorem bX8_keyFor_17 {h0 h : k_H} {Q : k_H → k_R → Prop} {x0 f1_0 : Nat} {x1 : Int64} {x3 : Int32} {fs1 : List k_V} (o1 : h.1 x0 = some (k_o 11 fs1)) (g1_0 : fs1[0]? = some (vR (some f1_0))) (w : k_is h f1_0 2) {P : k_H → Option Nat → Prop} (c : k_ctr (tAL_get G l) [vR (some f1_0), vI x3] h P) (K : ∀ h1 v, P h1 v → k_X (jX8_keyFor G l h0) h1 25 [(0, vR (some x0)), (1, vJ x1), (3, vI x3)] [vR v] Q) : k_X (jX8_keyFor G l h0) h 17 [(0, vR (some x0)), (1, vJ x1), (3, vI x3)] [] Q := by
  obtain ⟨h1, v, c, p⟩ := c
  obtain ⟨h', r, K, q⟩ := K h1 v p
  exact ⟨h', r, j_aload_n dX8_keyFor_17 rfl rfl <| j_getf dX8_keyFor_18 kf_X8_12 o1 g1_0 <| j_iload_n dX8_keyFor_21 rfl rfl <| j_callV (v := some (vR v)) (as := [vI x3]) dX8_keyFor_22 kc_X8_52 rfl rfl w (by decide) (Nat.le_of_ble_eq_true rfl) c K, q⟩
theorem bX8_keyFor_25 {h0 h : k_H} {Q : k_H → k_R → Prop} {x0 s0 : Nat} {x1 : Int64} {x3 : Int32} {fs1 : List k_V} (o1 : h.1 s0 = some (k_o 7 fs1)) (K : k_X (jX8_keyFor G l h0) h 32 [(0, vR (some x0)), (1, vJ x1), (3, vI x3)] [vR (some s0)] Q) : k_X (jX8_keyFor G l h0) h 25 [(0, vR (some x0)), (1, vJ x1), (3, vI x3)] [vR (some s0)] Q := by
  obtain ⟨h', r, K, q⟩ := K
  exact ⟨h', r, j_cast dX8_keyFor_25 kk_X8_56 o1 <| j_goto (tgt := 32) dX8_keyFor_28 (by decide) <| K, q⟩
theorem bX8_keyFor_31 {h0 h : k_H} {Q : k_H → k_R → Prop} {x0 : Nat} {x1 : Int64} {x3 : Int32} (K : k_X (jX8_keyFor G l h0) h 32 [(0, vR (some x0)), (1, vJ x1), (3, vI x3)] [vR none] Q) : k_X (jX8_keyFor G l h0) h 31 [(0, vR (some x0)), (1, vJ x1), (3, vI x3)] [] Q := by
  obtain ⟨h', r, K, q⟩ := K
  exact ⟨h', r, j_null dX8_keyFor_31 <| K, q⟩
theorem bX8_keyFor_32 {h0 h : k_H} {Q : k_H → k_R → Prop} {x0 : Nat} {x1 : Int64} {x3 : Int32} {s0 : Option Nat} (K1 : s0 = none → k_X (jX8_keyFor G l h0) h 52 [(0, vR (some x0)), (1, vJ x1), (3, vI x3)] [] Q) (K2 : ∀ a, s0 = some a → k_X (jX8_keyFor G l h0) h 39 [(0, vR (some x0)), (1, vJ x1), (3, vI x3), (4, vR s0)] [] Q) : k_X (jX8_keyFor G l h0) h 32 [(0, vR (some x0)), (1, vJ x1), (3, vI x3)] [vR s0] Q := by
  rcases e9 : s0 with _ | a
  · obtain ⟨h', r, K, q⟩ := K1 e9
    subst e9
    exact ⟨h', r, j_astore dX8_keyFor_32 (by decide) rfl <| j_aload dX8_keyFor_34 rfl <| j_ifnull_t (tgt := 52) dX8_keyFor_36 (by decide) (j_pick [0, 1, 2] rfl K), q⟩
  · obtain ⟨h', r, K, q⟩ := K2 a e9
    subst e9
    exact ⟨h', r, j_astore dX8_keyFor_32 (by decide) rfl <| j_aload dX8_keyFor_34 rfl <| j_ifnull_f dX8_keyFor_36 K, q⟩
theorem bX8_keyFor_39 {h0 h : k_H} {Q : k_H → k_R → Prop} {x0 x4 : Nat} {x1 f1_0 : Int64} {x3 : Int32} {fs1 : List k_V} (o1 : h.1 x4 = some (k_o 7 fs1)) (g1_0 : fs1[0]? = some (vJ f1_0)) (K1 : ¬ (f1_0 = x1) → k_X (jX8_keyFor G l h0) h 52 [(0, vR (some x0)), (1, vJ x1), (3, vI x3)] [] Q) (K2 : f1_0 = x1 → k_X (jX8_keyFor G l h0) h 49 [(4, vR (some x4))] [] Q) : k_X (jX8_keyFor G l h0) h 39 [(0, vR (some x0)), (1, vJ x1), (3, vI x3), (4, vR (some x4))] [] Q := by
  by_cases hc : f1_0 = x1
  · skip
    obtain ⟨h', r, K, q⟩ := K2 hc
    exact ⟨h', r, j_aload dX8_keyFor_39 rfl <| j_getf dX8_keyFor_41 kf_X8_58 o1 g1_0 <| j_lload_n dX8_keyFor_44 rfl rfl <| j_lcmp dX8_keyFor_45 <| j_if_ne_f dX8_keyFor_46 52 (by decide) ((lg_cmp_eq _ _).mpr hc) (j_pick [3] rfl K), q⟩
  · skip
    obtain ⟨h', r, K, q⟩ := K1 hc
    exact ⟨h', r, j_aload dX8_keyFor_39 rfl <| j_getf dX8_keyFor_41 kf_X8_58 o1 g1_0 <| j_lload_n dX8_keyFor_44 rfl rfl <| j_lcmp dX8_keyFor_45 <| j_if_ne_t (tgt := 52) dX8_keyFor_46 (by decide) ((not_congr (lg_cmp_eq _ _)).mpr hc) (j_pick [0, 1, 2] rfl K), q⟩
theorem bX8_keyFor_49 {h0 h : k_H} {Q : k_H → k_R → Prop} {x4 : Option Nat} (q : Q h (.inl (some (vR x4)))) : k_X (jX8_keyFor G l h0) h 49 [(4, vR x4)] [] Q := by
  exact ⟨_, _, j_aload dX8_keyFor_49 rfl <| j_aret dX8_keyFor_51 rfl (Or.inl ⟨_, rfl⟩), q⟩
theorem bX8_keyFor_52 {h0 h : k_H} {Q : k_H → k_R → Prop} {x0 f1_0 : Nat} {x1 : Int64} {x3 : Int32} {fs1 : List k_V} (o1 : h.1 x0 = some (k_o 11 fs1)) (g1_0 : fs1[0]? = some (vR (some f1_0))) (w : k_is h f1_0 2) {P : k_H → Int32 → Prop} (c : k_cti (tAL_size G l) [vR (some f1_0)] h P) (K : ∀ h1 v, P h1 v → k_X (jX8_keyFor G l h0) h1 59 [(0, vR (some x0)), (1, vJ x1), (3, vI x3)] [vI v] Q) : k_X (jX8_keyFor G l h0) h 52 [(0, vR (some x0)), (1, vJ x1), (3, vI x3)] [] Q := by
  obtain ⟨h1, v, c, p⟩ := c
  obtain ⟨h', r, K, q⟩ := K h1 v p
  exact ⟨h', r, j_aload_n dX8_keyFor_52 rfl rfl <| j_getf dX8_keyFor_53 kf_X8_12 o1 g1_0 <| j_callV (v := some (vI v)) (as := []) dX8_keyFor_56 kc_X8_48 rfl rfl w (by decide) (Nat.le_of_ble_eq_true rfl) c K, q⟩
theorem bX8_keyFor_59 {h0 h : k_H} {Q : k_H → k_R → Prop} {x0 : Nat} {x1 : Int64} {x3 s0 : Int32} (K1 : s0 < 65536 → k_X (jX8_keyFor G l h0) h 66 [(0, vR (some x0)), (1, vJ x1), (3, vI x3)] [] Q) (K2 : ¬ (s0 < 65536) → k_X (jX8_keyFor G l h0) h 64 [] [] Q) : k_X (jX8_keyFor G l h0) h 59 [(0, vR (some x0)), (1, vJ x1), (3, vI x3)] [vI s0] Q := by
  by_cases hc : s0 < 65536
  · skip
    obtain ⟨h', r, K, q⟩ := K1 hc
    exact ⟨h', r, j_ldc (v := 65536) dX8_keyFor_59 ki_X8_66 <| j_icmp_lt_t (tgt := 66) dX8_keyFor_61 (by decide) hc K, q⟩
  · skip
    obtain ⟨h', r, K, q⟩ := K2 hc
    exact ⟨h', r, j_ldc (v := 65536) dX8_keyFor_59 ki_X8_66 <| j_icmp_lt_f dX8_keyFor_61 66 (by decide) hc (j_pick [] rfl K), q⟩
theorem bX8_keyFor_64 {h0 h : k_H} {Q : k_H → k_R → Prop} (q : Q h (.inl (some (vR none)))) : k_X (jX8_keyFor G l h0) h 64 [] [] Q := by
  exact ⟨_, _, j_null dX8_keyFor_64 <| j_aret dX8_keyFor_65 rfl (Or.inl ⟨_, rfl⟩), q⟩
theorem bX8_keyFor_66 {h0 h : k_H} {Q : k_H → k_R → Prop} {x0 : Nat} {x1 : Int64} {x3 : Int32} (K : k_X (jX8_keyFor G l h0) (k_nw h 2 (k_o 7 [vJ 0, vR none])) 69 [(0, vR (some x0)), (1, vJ x1), (3, vI x3)] [vR (some h.2.1)] Q) : k_X (jX8_keyFor G l h0) h 66 [(0, vR (some x0)), (1, vJ x1), (3, vI x3)] [] Q := by
  obtain ⟨h', r, K, q⟩ := K
  exact ⟨h', r, j_new dX8_keyFor_66 kn_X8_56 <| K, q⟩
theorem bX8_keyFor_69 {h0 h : k_H} {Q : k_H → k_R → Prop} {x0 s0 : Nat} {x1 : Int64} {x3 : Int32} {P : k_H → Prop} (c : k_ctv (tX4_init G l) [vR (some s0), vJ x1] h P) (K : ∀ h1, P h1 → k_X (jX8_keyFor G l h0) h1 74 [(0, vR (some x0)), (3, vI x3)] [vR (some s0)] Q) : k_X (jX8_keyFor G l h0) h 69 [(0, vR (some x0)), (1, vJ x1), (3, vI x3)] [vR (some s0)] Q := by
  obtain ⟨h1, c, p⟩ := c
  obtain ⟨h', r, K, q⟩ := K h1 p
  exact ⟨h', r, j_dup dX8_keyFor_69 rfl <| j_lload_n dX8_keyFor_70 rfl rfl <| j_callI (v := none) (as := [vJ x1]) dX8_keyFor_71 kc_X8_67 rfl rfl (by decide) (Nat.le_of_ble_eq_true rfl) c (j_pick [0, 2] rfl K), q⟩
theorem bX8_keyFor_74 {h0 h : k_H} {Q : k_H → k_R → Prop} {x0 f1_0 : Nat} {x3 : Int32} {s0 : Option Nat} {fs1 : List k_V} (o1 : h.1 x0 = some (k_o 11 fs1)) (g1_0 : fs1[0]? = some (vR (some f1_0))) (w : k_is h f1_0 2) {P : k_H → Prop} (c : k_ctv (tAL_addAt G l) [vR (some f1_0), vI x3, vR s0] h P) (K : ∀ h1, P h1 → k_X (jX8_keyFor G l h0) h1 86 [(5, vR s0)] [] Q) : k_X (jX8_keyFor G l h0) h 74 [(0, vR (some x0)), (3, vI x3)] [vR s0] Q := by
  obtain ⟨h1, c, p⟩ := c
  obtain ⟨h', r, K, q⟩ := K h1 p
  exact ⟨h', r, j_astore dX8_keyFor_74 (by decide) rfl <| j_aload_n dX8_keyFor_76 rfl rfl <| j_getf dX8_keyFor_77 kf_X8_12 o1 g1_0 <| j_iload_n dX8_keyFor_80 rfl rfl <| j_aload dX8_keyFor_81 rfl <| j_callV (v := none) (as := [vI x3, vR s0]) dX8_keyFor_83 kc_X8_70 rfl rfl w (by decide) (Nat.le_of_ble_eq_true rfl) c (j_pick [2] rfl K), q⟩
theorem bX8_keyFor_86 {h0 h : k_H} {Q : k_H → k_R → Prop} {x5 : Option Nat} (q : Q h (.inl (some (vR x5)))) : k_X (jX8_keyFor G l h0) h 86 [(5, vR x5)] [] Q := by
  exact ⟨_, _, j_aload dX8_keyFor_86 rfl <| j_aret dX8_keyFor_88 rfl (Or.inl ⟨_, rfl⟩), q⟩
theorem eX8_entryIn {G : k_G} {l : Launch} (hfl : l.flags = flags0) {h : k_H} {Q : k_H → k_R → Prop} {x0 : Nat} {x1 : Int64} {x3 : Int32} (K : k_X (jX8_entryIn G l h) h 0 [(0, vR (some x0)), (1, vJ x1), (3, vI x3)] [] Q) : k_ct (tX8_entryIn G l) [vR (some x0), vJ x1, vI x3] h Q := by
  obtain ⟨h', r, K, q⟩ := K
  exact ⟨h', r, k_CtOf (by decide +kernel) (Nat.le_of_ble_eq_true rfl) K hfl, q⟩

theorem bX8_entryIn_0 {h0 h : k_H} {Q : k_H → k_R → Prop} {x0 : Nat} {x1 : Int64} {x3 : Int32} (w : k_is h x0 11) {P : k_H → Option Nat → Prop} (c : k_ctr (tX8_find G l) [vR (some x0), vJ x1] h P) (K : ∀ h1 v, P h1 v → k_X (jX8_entryIn G l h0) h1 5 [(3, vI x3)] [vR v] Q) : k_X (jX8_entryIn G l h0) h 0 [(0, vR (some x0)), (1, vJ x1), (3, vI x3)] [] Q := by
  obtain ⟨h1, v, c, p⟩ := c
  obtain ⟨h', r, K, q⟩ := K h1 v p
  exact ⟨h', r, j_aload_n dX8_entryIn_0 rfl rfl <| j_lload_n dX8_entryIn_1 rfl rfl <| j_callV (v := some (vR v)) (as := [vJ x1]) dX8_entryIn_2 kc_X8_74 rfl rfl w (by decide) (Nat.le_of_ble_eq_true rfl) c (j_pick [2] rfl K), q⟩
theorem bX8_entryIn_5 {h0 h : k_H} {Q : k_H → k_R → Prop} {x3 : Int32} {s0 : Option Nat} (K1 : s0 = none → k_X (jX8_entryIn G l h0) h 12 [] [] Q) (K2 : ∀ a, s0 = some a → k_X (jX8_entryIn G l h0) h 16 [(3, vI x3), (4, vR s0)] [] Q) : k_X (jX8_entryIn G l h0) h 5 [(3, vI x3)] [vR s0] Q := by
  rcases e9 : s0 with _ | a
  · obtain ⟨h', r, K, q⟩ := K1 e9
    subst e9
    exact ⟨h', r, j_astore dX8_entryIn_5 (by decide) rfl <| j_aload dX8_entryIn_7 rfl <| j_ifnonnull_f dX8_entryIn_9 (j_pick [] rfl K), q⟩
  · obtain ⟨h', r, K, q⟩ := K2 a e9
    subst e9
    exact ⟨h', r, j_astore dX8_entryIn_5 (by decide) rfl <| j_aload dX8_entryIn_7 rfl <| j_ifnonnull_t (tgt := 16) dX8_entryIn_9 (by decide) K, q⟩
theorem bX8_entryIn_12 {h0 h : k_H} {Q : k_H → k_R → Prop} (K : k_X (jX8_entryIn G l h0) h 22 [] [vR none] Q) : k_X (jX8_entryIn G l h0) h 12 [] [] Q := by
  obtain ⟨h', r, K, q⟩ := K
  exact ⟨h', r, j_null dX8_entryIn_12 <| j_goto (tgt := 22) dX8_entryIn_13 (by decide) <| K, q⟩
theorem bX8_entryIn_16 {h0 h : k_H} {Q : k_H → k_R → Prop} {x3 : Int32} {x4 : Nat} (w : k_is h x4 7) {P : k_H → Option Nat → Prop} (c : k_ctr (tX4_entryIn G l) [vR (some x4), vI x3] h P) (K : ∀ h1 v, P h1 v → k_X (jX8_entryIn G l h0) h1 22 [] [vR v] Q) : k_X (jX8_entryIn G l h0) h 16 [(3, vI x3), (4, vR (some x4))] [] Q := by
  obtain ⟨h1, v, c, p⟩ := c
  obtain ⟨h', r, K, q⟩ := K h1 v p
  exact ⟨h', r, j_aload dX8_entryIn_16 rfl <| j_iload_n dX8_entryIn_18 rfl rfl <| j_callV (v := some (vR v)) (as := [vI x3]) dX8_entryIn_19 kc_X8_78 rfl rfl w (by decide) (Nat.le_of_ble_eq_true rfl) c (j_pick [] rfl K), q⟩
theorem bX8_entryIn_22 {h0 h : k_H} {Q : k_H → k_R → Prop} {s0 : Option Nat} (q : Q h (.inl (some (vR s0)))) : k_X (jX8_entryIn G l h0) h 22 [] [vR s0] Q := by
  exact ⟨_, _, j_aret dX8_entryIn_22 rfl (Or.inl ⟨_, rfl⟩), q⟩
theorem eX8_valueNow {G : k_G} {l : Launch} (hfl : l.flags = flags0) {h : k_H} {Q : k_H → k_R → Prop} {x0 : Nat} {x1 : Int64} (K : k_X (jX8_valueNow G l h) h 0 [(0, vR (some x0)), (1, vJ x1)] [] Q) : k_ct (tX8_valueNow G l) [vR (some x0), vJ x1] h Q := by
  obtain ⟨h', r, K, q⟩ := K
  exact ⟨h', r, k_CtOf (by decide +kernel) (Nat.le_of_ble_eq_true rfl) K hfl, q⟩

theorem bX8_valueNow_0 {h0 h : k_H} {Q : k_H → k_R → Prop} {x0 : Nat} {x1 : Int64} {f1_3 : Option Nat} {f1_6 : Int32} {fs1 : List k_V} (o1 : h.1 x0 = some (k_o 11 fs1)) (g1_3 : fs1[3]? = some (vR f1_3)) (g1_6 : fs1[6]? = some (vI f1_6)) {P : k_H → Option Nat → Prop} (c : k_ctr (tX8_entryIn G l) [vR (some x0), vJ x1, vI f1_6] h P) (K : ∀ h1 v, P h1 v → k_X (jX8_valueNow G l h0) h1 13 [(0, vR (some x0))] [vR v, vR f1_3] Q) : k_X (jX8_valueNow G l h0) h 0 [(0, vR (some x0)), (1, vJ x1)] [] Q := by
  obtain ⟨h1, v, c, p⟩ := c
  obtain ⟨h', r, K, q⟩ := K h1 v p
  exact ⟨h', r, j_aload_n dX8_valueNow_0 rfl rfl <| j_getf dX8_valueNow_1 kf_X8_27 o1 g1_3 <| j_aload_n dX8_valueNow_4 rfl rfl <| j_lload_n dX8_valueNow_5 rfl rfl <| j_aload_n dX8_valueNow_6 rfl rfl <| j_getf dX8_valueNow_7 kf_X8_39 o1 g1_6 <| j_callV (v := some (vR v)) (as := [vJ x1, vI f1_6]) dX8_valueNow_10 kc_X8_82 rfl rfl (k_is_o o1) (by decide) (Nat.le_of_ble_eq_true rfl) c (j_pick [0] rfl K), q⟩
theorem bX8_valueNow_13 {h0 h : k_H} {Q : k_H → k_R → Prop} {x0 s0 : Nat} {s1 : Option Nat} (w : k_is h s0 3) {P : k_H → Prop} (c : k_ctv (tX0_load G l) [vR (some s0), vR s1] h P) (K : ∀ h1, P h1 → k_X (jX8_valueNow G l h0) h1 16 [(0, vR (some x0))] [] Q) : k_X (jX8_valueNow G l h0) h 13 [(0, vR (some x0))] [vR s1, vR (some s0)] Q := by
  obtain ⟨h1, c, p⟩ := c
  obtain ⟨h', r, K, q⟩ := K h1 p
  exact ⟨h', r, j_callV (v := none) (as := [vR s1]) dX8_valueNow_13 kc_X8_85 rfl rfl w (by decide) (Nat.le_of_ble_eq_true rfl) c K, q⟩
theorem bX8_valueNow_16 {h0 h : k_H} {Q : k_H → k_R → Prop} {x0 f1_3 : Nat} {fs1 : List k_V} (o1 : h.1 x0 = some (k_o 11 fs1)) (g1_3 : fs1[3]? = some (vR (some f1_3))) (w : k_is h f1_3 3) {P : k_H → Int32 → Prop} (c : k_cti (tX0_told G l) [vR (some f1_3)] h P) (K : ∀ h1 v, P h1 v → k_X (jX8_valueNow G l h0) h1 23 [] [vI v] Q) : k_X (jX8_valueNow G l h0) h 16 [(0, vR (some x0))] [] Q := by
  obtain ⟨h1, v, c, p⟩ := c
  obtain ⟨h', r, K, q⟩ := K h1 v p
  exact ⟨h', r, j_aload_n dX8_valueNow_16 rfl rfl <| j_getf dX8_valueNow_17 kf_X8_27 o1 g1_3 <| j_callV (v := some (vI v)) (as := []) dX8_valueNow_20 kc_X8_89 rfl rfl w (by decide) (Nat.le_of_ble_eq_true rfl) c (j_pick [] rfl K), q⟩
theorem bX8_valueNow_23 {h0 h : k_H} {Q : k_H → k_R → Prop} {s0 : Int32} (q : Q h (.inl (some (vI s0)))) : k_X (jX8_valueNow G l h0) h 23 [] [vI s0] Q := by
  exact ⟨_, _, j_iret dX8_valueNow_23 rfl, q⟩
theorem eX8_listHeld {G : k_G} {l : Launch} (hfl : l.flags = flags0) {h : k_H} {Q : k_H → k_R → Prop} {x0 : Nat} {x1 : Int64} {x3 : Int64} (K : k_X (jX8_listHeld G l h) h 0 [(0, vR (some x0)), (1, vJ x1), (3, vJ x3)] [] Q) : k_ct (tX8_listHeld G l) [vR (some x0), vJ x1, vJ x3] h Q := by
  obtain ⟨h', r, K, q⟩ := K
  exact ⟨h', r, k_CtOf (by decide +kernel) (Nat.le_of_ble_eq_true rfl) K hfl, q⟩

theorem bX8_listHeld_0 {h0 h : k_H} {Q : k_H → k_R → Prop} {x0 f1_2 : Nat} {x1 x3 : Int64} {fs1 : List k_V} (o1 : h.1 x0 = some (k_o 11 fs1)) (g1_2 : fs1[2]? = some (vR (some f1_2))) (w : k_is h f1_2 2) {P : k_H → Prop} (c : k_ctv (tAL_clear G l) [vR (some f1_2)] h P) (K : ∀ h1, P h1 → k_X (jX8_listHeld G l h0) h1 7 [(0, vR (some x0)), (1, vJ x1), (3, vJ x3)] [] Q) : k_X (jX8_listHeld G l h0) h 0 [(0, vR (some x0)), (1, vJ x1), (3, vJ x3)] [] Q := by
  obtain ⟨h1, c, p⟩ := c
  obtain ⟨h', r, K, q⟩ := K h1 p
  exact ⟨h', r, j_aload_n dX8_listHeld_0 rfl rfl <| j_getf dX8_listHeld_1 kf_X8_21 o1 g1_2 <| j_callV (v := none) (as := []) dX8_listHeld_4 kc_X8_92 rfl rfl w (by decide) (Nat.le_of_ble_eq_true rfl) c K, q⟩
theorem bX8_listHeld_7 {h0 h : k_H} {Q : k_H → k_R → Prop} {x0 : Nat} {x1 x3 : Int64} (w : k_is h x0 11) {P : k_H → Int32 → Prop} (c : k_cti (tX8_placeFrom G l) [vR (some x0), vJ x1] h P) (K : ∀ h1 v, P h1 v → k_X (jX8_listHeld G l h0) h1 12 [(0, vR (some x0)), (3, vJ x3)] [vI v] Q) : k_X (jX8_listHeld G l h0) h 7 [(0, vR (some x0)), (1, vJ x1), (3, vJ x3)] [] Q := by
  obtain ⟨h1, v, c, p⟩ := c
  obtain ⟨h', r, K, q⟩ := K h1 v p
  exact ⟨h', r, j_aload_n dX8_listHeld_7 rfl rfl <| j_lload_n dX8_listHeld_8 rfl rfl <| j_callV (v := some (vI v)) (as := [vJ x1]) dX8_listHeld_9 kc_X8_62 rfl rfl w (by decide) (Nat.le_of_ble_eq_true rfl) c (j_pick [0, 2] rfl K), q⟩
theorem bX8_listHeld_12 {h0 h : k_H} {Q : k_H → k_R → Prop} {x0 : Nat} {x3 : Int64} {s0 : Int32} (K : k_X (jX8_listHeld G l h0) h 14 [(0, vR (some x0)), (3, vJ x3), (5, vI s0)] [] Q) : k_X (jX8_listHeld G l h0) h 12 [(0, vR (some x0)), (3, vJ x3)] [vI s0] Q := by
  obtain ⟨h', r, K, q⟩ := K
  exact ⟨h', r, j_istore dX8_listHeld_12 (by decide) rfl <| K, q⟩
theorem bX8_listHeld_14 {h0 h : k_H} {Q : k_H → k_R → Prop} {x0 f1_0 : Nat} {x3 : Int64} {x5 : Int32} {fs1 : List k_V} (o1 : h.1 x0 = some (k_o 11 fs1)) (g1_0 : fs1[0]? = some (vR (some f1_0))) (w : k_is h f1_0 2) {P : k_H → Int32 → Prop} (c : k_cti (tAL_size G l) [vR (some f1_0)] h P) (K : ∀ h1 v, P h1 v → k_X (jX8_listHeld G l h0) h1 23 [(0, vR (some x0)), (3, vJ x3), (5, vI x5)] [vI v, vI x5] Q) : k_X (jX8_listHeld G l h0) h 14 [(0, vR (some x0)), (3, vJ x3), (5, vI x5)] [] Q := by
  obtain ⟨h1, v, c, p⟩ := c
  obtain ⟨h', r, K, q⟩ := K h1 v p
  exact ⟨h', r, j_iload dX8_listHeld_14 rfl <| j_aload_n dX8_listHeld_16 rfl rfl <| j_getf dX8_listHeld_17 kf_X8_12 o1 g1_0 <| j_callV (v := some (vI v)) (as := []) dX8_listHeld_20 kc_X8_48 rfl rfl w (by decide) (Nat.le_of_ble_eq_true rfl) c K, q⟩
theorem bX8_listHeld_23 {h0 h : k_H} {Q : k_H → k_R → Prop} {x0 : Nat} {x3 : Int64} {x5 s0 s1 : Int32} (K1 : s1 ≤ s0 → k_X (jX8_listHeld G l h0) h 79 [(0, vR (some x0))] [] Q) (K2 : ¬ (s1 ≤ s0) → k_X (jX8_listHeld G l h0) h 26 [(0, vR (some x0)), (3, vJ x3), (5, vI x5)] [] Q) : k_X (jX8_listHeld G l h0) h 23 [(0, vR (some x0)), (3, vJ x3), (5, vI x5)] [vI s1, vI s0] Q := by
  by_cases hc : s1 ≤ s0
  · skip
    obtain ⟨h', r, K, q⟩ := K1 hc
    exact ⟨h', r, j_icmp_ge_t (tgt := 79) dX8_listHeld_23 (by decide) hc (j_pick [0] rfl K), q⟩
  · skip
    obtain ⟨h', r, K, q⟩ := K2 hc
    exact ⟨h', r, j_icmp_ge_f dX8_listHeld_23 79 (by decide) hc K, q⟩
theorem bX8_listHeld_26 {h0 h : k_H} {Q : k_H → k_R → Prop} {x0 f1_0 : Nat} {x3 : Int64} {x5 : Int32} {fs1 : List k_V} (o1 : h.1 x0 = some (k_o 11 fs1)) (g1_0 : fs1[0]? = some (vR (some f1_0))) (w : k_is h f1_0 2) {P : k_H → Option Nat → Prop} (c : k_ctr (tAL_get G l) [vR (some f1_0), vI x5] h P) (K : ∀ h1 v, P h1 v → k_X (jX8_listHeld G l h0) h1 35 [(0, vR (some x0)), (3, vJ x3), (5, vI x5)] [vR v] Q) : k_X (jX8_listHeld G l h0) h 26 [(0, vR (some x0)), (3, vJ x3), (5, vI x5)] [] Q := by
  obtain ⟨h1, v, c, p⟩ := c
  obtain ⟨h', r, K, q⟩ := K h1 v p
  exact ⟨h', r, j_aload_n dX8_listHeld_26 rfl rfl <| j_getf dX8_listHeld_27 kf_X8_12 o1 g1_0 <| j_iload dX8_listHeld_30 rfl <| j_callV (v := some (vR v)) (as := [vI x5]) dX8_listHeld_32 kc_X8_52 rfl rfl w (by decide) (Nat.le_of_ble_eq_true rfl) c K, q⟩
theorem bX8_listHeld_35 {h0 h : k_H} {Q : k_H → k_R → Prop} {x0 s0 : Nat} {x3 f1_0 : Int64} {x5 : Int32} {fs1 : List k_V} (o1 : h.1 s0 = some (k_o 7 fs1)) (g1_0 : fs1[0]? = some (vJ f1_0)) (K1 : f1_0 < x3 → k_X (jX8_listHeld G l h0) h 55 [(0, vR (some x0)), (3, vJ x3), (5, vI x5), (6, vR (some s0))] [] Q) (K2 : ¬ (f1_0 < x3) → k_X (jX8_listHeld G l h0) h 50 [(0, vR (some x0))] [] Q) : k_X (jX8_listHeld G l h0) h 35 [(0, vR (some x0)), (3, vJ x3), (5, vI x5)] [vR (some s0)] Q := by
  by_cases hc : f1_0 < x3
  · skip
    obtain ⟨h', r, K, q⟩ := K1 hc
    exact ⟨h', r, j_cast dX8_listHeld_35 kk_X8_56 o1 <| j_astore dX8_listHeld_38 (by decide) rfl <| j_aload dX8_listHeld_40 rfl <| j_getf dX8_listHeld_42 kf_X8_58 o1 g1_0 <| j_lload_n dX8_listHeld_45 rfl rfl <| j_lcmp dX8_listHeld_46 <| j_if_lt_t (tgt := 55) dX8_listHeld_47 (by decide) ((lg_cmp_lt _ _).mpr hc) K, q⟩
  · skip
    obtain ⟨h', r, K, q⟩ := K2 hc
    exact ⟨h', r, j_cast dX8_listHeld_35 kk_X8_56 o1 <| j_astore dX8_listHeld_38 (by decide) rfl <| j_aload dX8_listHeld_40 rfl <| j_getf dX8_listHeld_42 kf_X8_58 o1 g1_0 <| j_lload_n dX8_listHeld_45 rfl rfl <| j_lcmp dX8_listHeld_46 <| j_if_lt_f dX8_listHeld_47 55 (by decide) ((not_congr (lg_cmp_lt _ _)).mpr hc) (j_pick [0] rfl K), q⟩
theorem bX8_listHeld_50 {h0 h : k_H} {Q : k_H → k_R → Prop} {x0 : Nat} {f1_2 : Option Nat} {fs1 : List k_V} (o1 : h.1 x0 = some (k_o 11 fs1)) (g1_2 : fs1[2]? = some (vR f1_2)) (q : Q h (.inl (some (vR f1_2)))) : k_X (jX8_listHeld G l h0) h 50 [(0, vR (some x0))] [] Q := by
  exact ⟨_, _, j_aload_n dX8_listHeld_50 rfl rfl <| j_getf dX8_listHeld_51 kf_X8_21 o1 g1_2 <| j_aret dX8_listHeld_54 rfl (Or.inl ⟨_, rfl⟩), q⟩
theorem bX8_listHeld_55 {h0 h : k_H} {Q : k_H → k_R → Prop} {x0 x6 : Nat} {x3 : Int64} {x5 : Int32} (w : k_is h x6 7) {P : k_H → Int32 → Prop} (c : k_cti (tX4_isHeld G l) [vR (some x6)] h P) (K : ∀ h1 v, P h1 v → k_X (jX8_listHeld G l h0) h1 60 [(0, vR (some x0)), (3, vJ x3), (5, vI x5), (6, vR (some x6))] [vI v] Q) : k_X (jX8_listHeld G l h0) h 55 [(0, vR (some x0)), (3, vJ x3), (5, vI x5), (6, vR (some x6))] [] Q := by
  obtain ⟨h1, v, c, p⟩ := c
  obtain ⟨h', r, K, q⟩ := K h1 v p
  exact ⟨h', r, j_aload dX8_listHeld_55 rfl <| j_callV (v := some (vI v)) (as := []) dX8_listHeld_57 kc_X8_95 rfl rfl w (by decide) (Nat.le_of_ble_eq_true rfl) c K, q⟩
theorem bX8_listHeld_60 {h0 h : k_H} {Q : k_H → k_R → Prop} {x0 : Nat} {x3 : Int64} {x5 s0 : Int32} {x6 : Option Nat} (K1 : s0 = 0 → k_X (jX8_listHeld G l h0) h 73 [(0, vR (some x0)), (3, vJ x3), (5, vI x5)] [] Q) (K2 : ¬ (s0 = 0) → k_X (jX8_listHeld G l h0) h 63 [(0, vR (some x0)), (3, vJ x3), (5, vI x5), (6, vR x6)] [] Q) : k_X (jX8_listHeld G l h0) h 60 [(0, vR (some x0)), (3, vJ x3), (5, vI x5), (6, vR x6)] [vI s0] Q := by
  by_cases hc : s0 = 0
  · skip
    obtain ⟨h', r, K, q⟩ := K1 hc
    exact ⟨h', r, j_if_eq_t (tgt := 73) dX8_listHeld_60 (by decide) hc (j_pick [0, 1, 2] rfl K), q⟩
  · skip
    obtain ⟨h', r, K, q⟩ := K2 hc
    exact ⟨h', r, j_if_eq_f dX8_listHeld_60 73 (by decide) hc K, q⟩
theorem bX8_listHeld_63 {h0 h : k_H} {Q : k_H → k_R → Prop} {x0 f1_2 : Nat} {x3 : Int64} {x5 : Int32} {x6 : Option Nat} {fs1 : List k_V} (o1 : h.1 x0 = some (k_o 11 fs1)) (g1_2 : fs1[2]? = some (vR (some f1_2))) (w : k_is h f1_2 2) {P : k_H → Int32 → Prop} (c : k_cti (tAL_add G l) [vR (some f1_2), vR x6] h P) (K : ∀ h1 v, P h1 v → k_X (jX8_listHeld G l h0) h1 72 [(0, vR (some x0)), (3, vJ x3), (5, vI x5)] [vI v] Q) : k_X (jX8_listHeld G l h0) h 63 [(0, vR (some x0)), (3, vJ x3), (5, vI x5), (6, vR x6)] [] Q := by
  obtain ⟨h1, v, c, p⟩ := c
  obtain ⟨h', r, K, q⟩ := K h1 v p
  exact ⟨h', r, j_aload_n dX8_listHeld_63 rfl rfl <| j_getf dX8_listHeld_64 kf_X8_21 o1 g1_2 <| j_aload dX8_listHeld_67 rfl <| j_callV (v := some (vI v)) (as := [vR x6]) dX8_listHeld_69 kc_X8_99 rfl rfl w (by decide) (Nat.le_of_ble_eq_true rfl) c (j_pick [0, 1, 2] rfl K), q⟩
theorem bX8_listHeld_72 {h0 h : k_H} {Q : k_H → k_R → Prop} {x0 : Nat} {x3 : Int64} {x5 s0 : Int32} (K : k_X (jX8_listHeld G l h0) h 73 [(0, vR (some x0)), (3, vJ x3), (5, vI x5)] [] Q) : k_X (jX8_listHeld G l h0) h 72 [(0, vR (some x0)), (3, vJ x3), (5, vI x5)] [vI s0] Q := by
  obtain ⟨h', r, K, q⟩ := K
  exact ⟨h', r, j_pop dX8_listHeld_72 rfl <| K, q⟩
theorem bX8_listHeld_73 {h0 h : k_H} {Q : k_H → k_R → Prop} {x0 : Nat} {x3 : Int64} {x5 : Int32} (K : k_X (jX8_listHeld G l h0) h 14 [(0, vR (some x0)), (3, vJ x3), (5, vI (x5 + 1))] [] Q) : k_X (jX8_listHeld G l h0) h 73 [(0, vR (some x0)), (3, vJ x3), (5, vI x5)] [] Q := by
  obtain ⟨h', r, K, q⟩ := K
  exact ⟨h', r, j_iinc (v := x5 + 1) dX8_listHeld_73 rfl (by decide) rfl rfl <| j_goto (tgt := 14) dX8_listHeld_76 (by decide) <| K, q⟩
theorem bX8_listHeld_79 {h0 h : k_H} {Q : k_H → k_R → Prop} {x0 : Nat} {f1_2 : Option Nat} {fs1 : List k_V} (o1 : h.1 x0 = some (k_o 11 fs1)) (g1_2 : fs1[2]? = some (vR f1_2)) (q : Q h (.inl (some (vR f1_2)))) : k_X (jX8_listHeld G l h0) h 79 [(0, vR (some x0))] [] Q := by
  exact ⟨_, _, j_aload_n dX8_listHeld_79 rfl rfl <| j_getf dX8_listHeld_80 kf_X8_21 o1 g1_2 <| j_aret dX8_listHeld_83 rfl (Or.inl ⟨_, rfl⟩), q⟩
theorem eX8_applyInOrder {G : k_G} {l : Launch} (hfl : l.flags = flags0) {h : k_H} {Q : k_H → k_R → Prop} {x0 : Nat} {x1 : Option Nat} (K : k_X (jX8_applyInOrder G l h) h 0 [(0, vR (some x0)), (1, vR x1)] [] Q) : k_ct (tX8_applyInOrder G l) [vR (some x0), vR x1] h Q := by
  obtain ⟨h', r, K, q⟩ := K
  exact ⟨h', r, k_CtOf (by decide +kernel) (Nat.le_of_ble_eq_true rfl) K hfl, q⟩

theorem bX8_applyInOrder_0 {h0 h : k_H} {Q : k_H → k_R → Prop} {x0 x1 : Nat} (w : k_is h x1 4) {P : k_H → Int32 → Prop} (c : k_cti (tX1_isInOrder G l) [vR (some x1)] h P) (K : ∀ h1 v, P h1 v → k_X (jX8_applyInOrder G l h0) h1 4 [(0, vR (some x0)), (1, vR (some x1))] [vI v] Q) : k_X (jX8_applyInOrder G l h0) h 0 [(0, vR (some x0)), (1, vR (some x1))] [] Q := by
  obtain ⟨h1, v, c, p⟩ := c
  obtain ⟨h', r, K, q⟩ := K h1 v p
  exact ⟨h', r, j_aload_n dX8_applyInOrder_0 rfl rfl <| j_callV (v := some (vI v)) (as := []) dX8_applyInOrder_1 kc_X8_102 rfl rfl w (by decide) (Nat.le_of_ble_eq_true rfl) c K, q⟩
theorem bX8_applyInOrder_4 {h0 h : k_H} {Q : k_H → k_R → Prop} {x0 : Nat} {x1 : Option Nat} {s0 : Int32} (K1 : ¬ (s0 = 0) → k_X (jX8_applyInOrder G l h0) h 8 [(0, vR (some x0)), (1, vR x1)] [] Q) (K2 : s0 = 0 → k_X (jX8_applyInOrder G l h0) h 7 [] [] Q) : k_X (jX8_applyInOrder G l h0) h 4 [(0, vR (some x0)), (1, vR x1)] [vI s0] Q := by
  by_cases hc : s0 = 0
  · skip
    obtain ⟨h', r, K, q⟩ := K2 hc
    exact ⟨h', r, j_if_ne_f dX8_applyInOrder_4 8 (by decide) hc (j_pick [] rfl K), q⟩
  · skip
    obtain ⟨h', r, K, q⟩ := K1 hc
    exact ⟨h', r, j_if_ne_t (tgt := 8) dX8_applyInOrder_4 (by decide) hc K, q⟩
theorem bX8_applyInOrder_7 {h0 h : k_H} {Q : k_H → k_R → Prop} (q : Q h (.inl none)) : k_X (jX8_applyInOrder G l h0) h 7 [] [] Q := by
  exact ⟨_, _, j_vret dX8_applyInOrder_7 rfl, q⟩
theorem bX8_applyInOrder_8 {h0 h : k_H} {Q : k_H → k_R → Prop} {x0 x1 : Nat} (w : k_is h x1 4) {P : k_H → Int32 → Prop} (c : k_cti (tX1_isRange G l) [vR (some x1)] h P) (K : ∀ h1 v, P h1 v → k_X (jX8_applyInOrder G l h0) h1 12 [(0, vR (some x0)), (1, vR (some x1))] [vI v] Q) : k_X (jX8_applyInOrder G l h0) h 8 [(0, vR (some x0)), (1, vR (some x1))] [] Q := by
  obtain ⟨h1, v, c, p⟩ := c
  obtain ⟨h', r, K, q⟩ := K h1 v p
  exact ⟨h', r, j_aload_n dX8_applyInOrder_8 rfl rfl <| j_callV (v := some (vI v)) (as := []) dX8_applyInOrder_9 kc_X8_107 rfl rfl w (by decide) (Nat.le_of_ble_eq_true rfl) c K, q⟩
theorem bX8_applyInOrder_12 {h0 h : k_H} {Q : k_H → k_R → Prop} {x0 : Nat} {x1 : Option Nat} {s0 : Int32} (K1 : s0 = 0 → k_X (jX8_applyInOrder G l h0) h 30 [(0, vR (some x0)), (1, vR x1)] [] Q) (K2 : ¬ (s0 = 0) → k_X (jX8_applyInOrder G l h0) h 15 [(0, vR (some x0)), (1, vR x1)] [] Q) : k_X (jX8_applyInOrder G l h0) h 12 [(0, vR (some x0)), (1, vR x1)] [vI s0] Q := by
  by_cases hc : s0 = 0
  · skip
    obtain ⟨h', r, K, q⟩ := K1 hc
    exact ⟨h', r, j_if_eq_t (tgt := 30) dX8_applyInOrder_12 (by decide) hc K, q⟩
  · skip
    obtain ⟨h', r, K, q⟩ := K2 hc
    exact ⟨h', r, j_if_eq_f dX8_applyInOrder_12 30 (by decide) hc K, q⟩
theorem bX8_applyInOrder_15 {h0 h : k_H} {Q : k_H → k_R → Prop} {x0 x1 : Nat} {f1_1 f1_2 : Int64} {fs1 : List k_V} (o1 : h.1 x1 = some (k_o 4 fs1)) (g1_1 : fs1[1]? = some (vJ f1_1)) (g1_2 : fs1[2]? = some (vJ f1_2)) (w : k_is h x0 11) {P : k_H → Prop} (c : k_ctv (tX8_wipe G l) [vR (some x0), vJ f1_1, vJ f1_2] h P) (K : ∀ h1, P h1 → k_X (jX8_applyInOrder G l h0) h1 27 [] [] Q) : k_X (jX8_applyInOrder G l h0) h 15 [(0, vR (some x0)), (1, vR (some x1))] [] Q := by
  obtain ⟨h1, c, p⟩ := c
  obtain ⟨h', r, K, q⟩ := K h1 p
  exact ⟨h', r, j_aload_n dX8_applyInOrder_15 rfl rfl <| j_aload_n dX8_applyInOrder_16 rfl rfl <| j_getf dX8_applyInOrder_17 kf_X8_110 o1 g1_1 <| j_aload_n dX8_applyInOrder_20 rfl rfl <| j_getf dX8_applyInOrder_21 kf_X8_113 o1 g1_2 <| j_callV (v := none) (as := [vJ f1_1, vJ f1_2]) dX8_applyInOrder_24 kc_X8_116 rfl rfl w (by decide) (Nat.le_of_ble_eq_true rfl) c (j_pick [] rfl K), q⟩
theorem bX8_applyInOrder_27 {h0 h : k_H} {Q : k_H → k_R → Prop} (K : k_X (jX8_applyInOrder G l h0) h 46 [] [] Q) : k_X (jX8_applyInOrder G l h0) h 27 [] [] Q := by
  obtain ⟨h', r, K, q⟩ := K
  exact ⟨h', r, j_goto (tgt := 46) dX8_applyInOrder_27 (by decide) <| K, q⟩
theorem bX8_applyInOrder_30 {h0 h : k_H} {Q : k_H → k_R → Prop} {x0 x1 : Nat} {f1_0 f1_3 : Int32} {f1_1 : Int64} {fs1 : List k_V} (o1 : h.1 x1 = some (k_o 4 fs1)) (g1_0 : fs1[0]? = some (vI f1_0)) (g1_1 : fs1[1]? = some (vJ f1_1)) (g1_3 : fs1[3]? = some (vI f1_3)) (w : k_is h x0 11) {P : k_H → Prop} (c : k_ctv (tX8_alter G l) [vR (some x0), vI f1_0, vJ f1_1, vI f1_3] h P) (K : ∀ h1, P h1 → k_X (jX8_applyInOrder G l h0) h1 46 [] [] Q) : k_X (jX8_applyInOrder G l h0) h 30 [(0, vR (some x0)), (1, vR (some x1))] [] Q := by
  obtain ⟨h1, c, p⟩ := c
  obtain ⟨h', r, K, q⟩ := K h1 p
  exact ⟨h', r, j_aload_n dX8_applyInOrder_30 rfl rfl <| j_aload_n dX8_applyInOrder_31 rfl rfl <| j_getf dX8_applyInOrder_32 kf_X8_120 o1 g1_0 <| j_aload_n dX8_applyInOrder_35 rfl rfl <| j_getf dX8_applyInOrder_36 kf_X8_110 o1 g1_1 <| j_aload_n dX8_applyInOrder_39 rfl rfl <| j_getf dX8_applyInOrder_40 kf_X8_123 o1 g1_3 <| j_callV (v := none) (as := [vI f1_0, vJ f1_1, vI f1_3]) dX8_applyInOrder_43 kc_X8_126 rfl rfl w (by decide) (Nat.le_of_ble_eq_true rfl) c (j_pick [] rfl K), q⟩
theorem bX8_applyInOrder_46 {h0 h : k_H} {Q : k_H → k_R → Prop} (q : Q h (.inl none)) : k_X (jX8_applyInOrder G l h0) h 46 [] [] Q := by
  exact ⟨_, _, j_vret dX8_applyInOrder_46 rfl, q⟩
theorem eX8_applyStamped {G : k_G} {l : Launch} (hfl : l.flags = flags0) {h : k_H} {Q : k_H → k_R → Prop} {x0 : Nat} {x1 : Option Nat} (K : k_X (jX8_applyStamped G l h) h 0 [(0, vR (some x0)), (1, vR x1)] [] Q) : k_ct (tX8_applyStamped G l) [vR (some x0), vR x1] h Q := by
  obtain ⟨h', r, K, q⟩ := K
  exact ⟨h', r, k_CtOf (by decide +kernel) (Nat.le_of_ble_eq_true rfl) K hfl, q⟩

theorem bX8_applyStamped_0 {h0 h : k_H} {Q : k_H → k_R → Prop} {x0 x1 : Nat} {f1_0 : Int32} {fs1 : List k_V} (o1 : h.1 x1 = some (k_o 4 fs1)) (g1_0 : fs1[0]? = some (vI f1_0)) (K1 : ¬ (f1_0 = 6) → k_X (jX8_applyStamped G l h0) h 33 [] [] Q) (K2 : f1_0 = 6 → k_X (jX8_applyStamped G l h0) h 9 [(0, vR (some x0)), (1, vR (some x1))] [] Q) : k_X (jX8_applyStamped G l h0) h 0 [(0, vR (some x0)), (1, vR (some x1))] [] Q := by
  by_cases hc : f1_0 = 6
  · skip
    obtain ⟨h', r, K, q⟩ := K2 hc
    exact ⟨h', r, j_aload_n dX8_applyStamped_0 rfl rfl <| j_getf dX8_applyStamped_1 kf_X8_120 o1 g1_0 <| j_bipush (v := 6) dX8_applyStamped_4 (by decide) <| j_icmp_ne_f dX8_applyStamped_6 33 (by decide) hc K, q⟩
  · skip
    obtain ⟨h', r, K, q⟩ := K1 hc
    exact ⟨h', r, j_aload_n dX8_applyStamped_0 rfl rfl <| j_getf dX8_applyStamped_1 kf_X8_120 o1 g1_0 <| j_bipush (v := 6) dX8_applyStamped_4 (by decide) <| j_icmp_ne_t (tgt := 33) dX8_applyStamped_6 (by decide) hc (j_pick [] rfl K), q⟩
theorem bX8_applyStamped_9 {h0 h : k_H} {Q : k_H → k_R → Prop} {x0 x1 : Nat} {f1_1 : Int64} {f1_4 f2_6 : Int32} {fs1 : List k_V} (o1 : h.1 x1 = some (k_o 4 fs1)) (g1_1 : fs1[1]? = some (vJ f1_1)) (g1_4 : fs1[4]? = some (vI f1_4)) {fs2 : List k_V} (o2 : h.1 x0 = some (k_o 11 fs2)) (g2_6 : fs2[6]? = some (vI f2_6)) {P : k_H → Int64 → Prop} (c : k_ctj (tX11_withNumber G l) [vJ f1_1, vI f1_4, vI f2_6] h P) (K : ∀ h1 v, P h1 v → k_X (jX8_applyStamped G l h0) h1 26 [(1, vR (some x1))] [vJ v, vI 0, vR (some x0)] Q) : k_X (jX8_applyStamped G l h0) h 9 [(0, vR (some x0)), (1, vR (some x1))] [] Q := by
  obtain ⟨h1, v, c, p⟩ := c
  obtain ⟨h', r, K, q⟩ := K h1 v p
  exact ⟨h', r, j_aload_n dX8_applyStamped_9 rfl rfl <| j_iconst (v := 0) dX8_applyStamped_10 (by decide) <| j_aload_n dX8_applyStamped_11 rfl rfl <| j_getf dX8_applyStamped_12 kf_X8_110 o1 g1_1 <| j_aload_n dX8_applyStamped_15 rfl rfl <| j_getf dX8_applyStamped_16 kf_X8_130 o1 g1_4 <| j_aload_n dX8_applyStamped_19 rfl rfl <| j_getf dX8_applyStamped_20 kf_X8_39 o2 g2_6 <| j_callSN (v := some (vJ v)) (as := [vJ f1_1, vI f1_4, vI f2_6]) dX8_applyStamped_23 kc_X8_133 ks_yX11_withNumber rfl rfl (by decide) (Nat.le_of_ble_eq_true rfl) c (j_pick [1] rfl K), q⟩
theorem bX8_applyStamped_26 {h0 h : k_H} {Q : k_H → k_R → Prop} {x1 s0 : Nat} {s1 f1_3 : Int32} {s2 : Int64} {fs1 : List k_V} (o1 : h.1 x1 = some (k_o 4 fs1)) (g1_3 : fs1[3]? = some (vI f1_3)) (w : k_is h s0 11) {P : k_H → Prop} (c : k_ctv (tX8_alter G l) [vR (some s0), vI s1, vJ s2, vI f1_3] h P) (K : ∀ h1, P h1 → k_X (jX8_applyStamped G l h0) h1 33 [] [] Q) : k_X (jX8_applyStamped G l h0) h 26 [(1, vR (some x1))] [vJ s2, vI s1, vR (some s0)] Q := by
  obtain ⟨h1, c, p⟩ := c
  obtain ⟨h', r, K, q⟩ := K h1 p
  exact ⟨h', r, j_aload_n dX8_applyStamped_26 rfl rfl <| j_getf dX8_applyStamped_27 kf_X8_123 o1 g1_3 <| j_callV (v := none) (as := [vI s1, vJ s2, vI f1_3]) dX8_applyStamped_30 kc_X8_126 rfl rfl w (by decide) (Nat.le_of_ble_eq_true rfl) c (j_pick [] rfl K), q⟩
theorem bX8_applyStamped_33 {h0 h : k_H} {Q : k_H → k_R → Prop} (q : Q h (.inl none)) : k_X (jX8_applyStamped G l h0) h 33 [] [] Q := by
  exact ⟨_, _, j_vret dX8_applyStamped_33 rfl, q⟩
theorem eX8_alter {G : k_G} {l : Launch} (hfl : l.flags = flags0) {h : k_H} {Q : k_H → k_R → Prop} {x0 : Nat} {x1 : Int32} {x2 : Int64} {x4 : Int32} (K : k_X (jX8_alter G l h) h 0 [(0, vR (some x0)), (1, vI x1), (2, vJ x2), (4, vI x4)] [] Q) : k_ct (tX8_alter G l) [vR (some x0), vI x1, vJ x2, vI x4] h Q := by
  obtain ⟨h', r, K, q⟩ := K
  exact ⟨h', r, k_CtOf (by decide +kernel) (Nat.le_of_ble_eq_true rfl) K hfl, q⟩

theorem bX8_alter_0 {h0 h : k_H} {Q : k_H → k_R → Prop} {x0 : Nat} {x1 x4 : Int32} {x2 : Int64} (w : k_is h x0 11) {P : k_H → Option Nat → Prop} (c : k_ctr (tX8_keyFor G l) [vR (some x0), vJ x2] h P) (K : ∀ h1 v, P h1 v → k_X (jX8_alter G l h0) h1 5 [(0, vR (some x0)), (1, vI x1), (4, vI x4)] [vR v] Q) : k_X (jX8_alter G l h0) h 0 [(0, vR (some x0)), (1, vI x1), (2, vJ x2), (4, vI x4)] [] Q := by
  obtain ⟨h1, v, c, p⟩ := c
  obtain ⟨h', r, K, q⟩ := K h1 v p
  exact ⟨h', r, j_aload_n dX8_alter_0 rfl rfl <| j_lload_n dX8_alter_1 rfl rfl <| j_callV (v := some (vR v)) (as := [vJ x2]) dX8_alter_2 kc_X8_137 rfl rfl w (by decide) (Nat.le_of_ble_eq_true rfl) c (j_pick [0, 1, 3] rfl K), q⟩
theorem bX8_alter_5 {h0 h : k_H} {Q : k_H → k_R → Prop} {x0 : Nat} {x1 x4 : Int32} {s0 : Option Nat} (K1 : s0 = none → k_X (jX8_alter G l h0) h 48 [] [] Q) (K2 : ∀ a, s0 = some a → k_X (jX8_alter G l h0) h 12 [(0, vR (some x0)), (1, vI x1), (4, vI x4), (5, vR s0)] [] Q) : k_X (jX8_alter G l h0) h 5 [(0, vR (some x0)), (1, vI x1), (4, vI x4)] [vR s0] Q := by
  rcases e9 : s0 with _ | a
  · obtain ⟨h', r, K, q⟩ := K1 e9
    subst e9
    exact ⟨h', r, j_astore dX8_alter_5 (by decide) rfl <| j_aload dX8_alter_7 rfl <| j_ifnull_t (tgt := 48) dX8_alter_9 (by decide) (j_pick [] rfl K), q⟩
  · obtain ⟨h', r, K, q⟩ := K2 a e9
    subst e9
    exact ⟨h', r, j_astore dX8_alter_5 (by decide) rfl <| j_aload dX8_alter_7 rfl <| j_ifnull_f dX8_alter_9 K, q⟩
theorem bX8_alter_12 {h0 h : k_H} {Q : k_H → k_R → Prop} {x0 x5 f1_3 : Nat} {x1 x4 : Int32} {f2_1 : Option Nat} {fs1 : List k_V} (o1 : h.1 x0 = some (k_o 11 fs1)) (g1_3 : fs1[3]? = some (vR (some f1_3))) {fs2 : List k_V} (o2 : h.1 x5 = some (k_o 7 fs2)) (g2_1 : fs2[1]? = some (vR f2_1)) (w : k_is h f1_3 3) {P : k_H → Prop} (c : k_ctv (tX0_load G l) [vR (some f1_3), vR f2_1] h P) (K : ∀ h1, P h1 → k_X (jX8_alter G l h0) h1 24 [(0, vR (some x0)), (1, vI x1), (4, vI x4), (5, vR (some x5))] [] Q) : k_X (jX8_alter G l h0) h 12 [(0, vR (some x0)), (1, vI x1), (4, vI x4), (5, vR (some x5))] [] Q := by
  obtain ⟨h1, c, p⟩ := c
  obtain ⟨h', r, K, q⟩ := K h1 p
  exact ⟨h', r, j_aload_n dX8_alter_12 rfl rfl <| j_getf dX8_alter_13 kf_X8_27 o1 g1_3 <| j_aload dX8_alter_16 rfl <| j_getf dX8_alter_18 kf_X8_140 o2 g2_1 <| j_callV (v := none) (as := [vR f2_1]) dX8_alter_21 kc_X8_85 rfl rfl w (by decide) (Nat.le_of_ble_eq_true rfl) c K, q⟩
theorem bX8_alter_24 {h0 h : k_H} {Q : k_H → k_R → Prop} {x0 f1_3 : Nat} {x1 x4 f1_6 : Int32} {x5 : Option Nat} {fs1 : List k_V} (o1 : h.1 x0 = some (k_o 11 fs1)) (g1_3 : fs1[3]? = some (vR (some f1_3))) (g1_6 : fs1[6]? = some (vI f1_6)) (w : k_is h f1_3 3) {P : k_H → Prop} (c : k_ctv (tX0_apply G l) [vR (some f1_3), vI x1, vI x4, vI f1_6] h P) (K : ∀ h1, P h1 → k_X (jX8_alter G l h0) h1 38 [(0, vR (some x0)), (5, vR x5)] [] Q) : k_X (jX8_alter G l h0) h 24 [(0, vR (some x0)), (1, vI x1), (4, vI x4), (5, vR x5)] [] Q := by
  obtain ⟨h1, c, p⟩ := c
  obtain ⟨h', r, K, q⟩ := K h1 p
  exact ⟨h', r, j_aload_n dX8_alter_24 rfl rfl <| j_getf dX8_alter_25 kf_X8_27 o1 g1_3 <| j_iload_n dX8_alter_28 rfl rfl <| j_iload dX8_alter_29 rfl <| j_aload_n dX8_alter_31 rfl rfl <| j_getf dX8_alter_32 kf_X8_39 o1 g1_6 <| j_callV (v := none) (as := [vI x1, vI x4, vI f1_6]) dX8_alter_35 kc_X8_143 rfl rfl w (by decide) (Nat.le_of_ble_eq_true rfl) c (j_pick [0, 3] rfl K), q⟩
theorem bX8_alter_38 {h0 h : k_H} {Q : k_H → k_R → Prop} {x0 : Nat} {x5 f1_3 : Option Nat} {fs1 : List k_V} (o1 : h.1 x0 = some (k_o 11 fs1)) (g1_3 : fs1[3]? = some (vR f1_3)) {P : k_H → Prop} (c : k_ctv (tX8_write G l) [vR (some x0), vR x5, vR f1_3] h P) (K : ∀ h1, P h1 → k_X (jX8_alter G l h0) h1 48 [] [] Q) : k_X (jX8_alter G l h0) h 38 [(0, vR (some x0)), (5, vR x5)] [] Q := by
  obtain ⟨h1, c, p⟩ := c
  obtain ⟨h', r, K, q⟩ := K h1 p
  exact ⟨h', r, j_aload_n dX8_alter_38 rfl rfl <| j_aload dX8_alter_39 rfl <| j_aload_n dX8_alter_41 rfl rfl <| j_getf dX8_alter_42 kf_X8_27 o1 g1_3 <| j_callV (v := none) (as := [vR x5, vR f1_3]) dX8_alter_45 kc_X8_147 rfl rfl (k_is_o o1) (by decide) (Nat.le_of_ble_eq_true rfl) c (j_pick [] rfl K), q⟩
theorem bX8_alter_48 {h0 h : k_H} {Q : k_H → k_R → Prop} (q : Q h (.inl none)) : k_X (jX8_alter G l h0) h 48 [] [] Q := by
  exact ⟨_, _, j_vret dX8_alter_48 rfl, q⟩
theorem eX8_wipe {G : k_G} {l : Launch} (hfl : l.flags = flags0) {h : k_H} {Q : k_H → k_R → Prop} {x0 : Nat} {x1 : Int64} {x3 : Int64} (K : k_X (jX8_wipe G l h) h 0 [(0, vR (some x0)), (1, vJ x1), (3, vJ x3)] [] Q) : k_ct (tX8_wipe G l) [vR (some x0), vJ x1, vJ x3] h Q := by
  obtain ⟨h', r, K, q⟩ := K
  exact ⟨h', r, k_CtOf (by decide +kernel) (Nat.le_of_ble_eq_true rfl) K hfl, q⟩

theorem bX8_wipe_0 {h0 h : k_H} {Q : k_H → k_R → Prop} {x0 : Nat} {x1 x3 : Int64} (w : k_is h x0 11) {P : k_H → Option Nat → Prop} (c : k_ctr (tX8_listHeld G l) [vR (some x0), vJ x1, vJ x3] h P) (K : ∀ h1 v, P h1 v → k_X (jX8_wipe G l h0) h1 6 [(0, vR (some x0)), (1, vJ x1), (3, vJ x3)] [vR v] Q) : k_X (jX8_wipe G l h0) h 0 [(0, vR (some x0)), (1, vJ x1), (3, vJ x3)] [] Q := by
  obtain ⟨h1, v, c, p⟩ := c
  obtain ⟨h', r, K, q⟩ := K h1 v p
  exact ⟨h', r, j_aload_n dX8_wipe_0 rfl rfl <| j_lload_n dX8_wipe_1 rfl rfl <| j_lload_n dX8_wipe_2 rfl rfl <| j_callV (v := some (vR v)) (as := [vJ x1, vJ x3]) dX8_wipe_3 kc_X8_151 rfl rfl w (by decide) (Nat.le_of_ble_eq_true rfl) c K, q⟩
theorem bX8_wipe_6 {h0 h : k_H} {Q : k_H → k_R → Prop} {x0 : Nat} {x1 x3 : Int64} {s0 : Option Nat} (K : k_X (jX8_wipe G l h0) h 11 [(0, vR (some x0)), (1, vJ x1), (3, vJ x3), (5, vR s0), (6, vI 0)] [] Q) : k_X (jX8_wipe G l h0) h 6 [(0, vR (some x0)), (1, vJ x1), (3, vJ x3)] [vR s0] Q := by
  obtain ⟨h', r, K, q⟩ := K
  exact ⟨h', r, j_astore dX8_wipe_6 (by decide) rfl <| j_iconst (v := 0) dX8_wipe_8 (by decide) <| j_istore dX8_wipe_9 (by decide) rfl <| K, q⟩
theorem bX8_wipe_11 {h0 h : k_H} {Q : k_H → k_R → Prop} {x0 x5 : Nat} {x1 x3 : Int64} {x6 : Int32} (w : k_is h x5 2) {P : k_H → Int32 → Prop} (c : k_cti (tAL_size G l) [vR (some x5)] h P) (K : ∀ h1 v, P h1 v → k_X (jX8_wipe G l h0) h1 18 [(0, vR (some x0)), (1, vJ x1), (3, vJ x3), (5, vR (some x5)), (6, vI x6)] [vI v, vI x6] Q) : k_X (jX8_wipe G l h0) h 11 [(0, vR (some x0)), (1, vJ x1), (3, vJ x3), (5, vR (some x5)), (6, vI x6)] [] Q := by
  obtain ⟨h1, v, c, p⟩ := c
  obtain ⟨h', r, K, q⟩ := K h1 v p
  exact ⟨h', r, j_iload dX8_wipe_11 rfl <| j_aload dX8_wipe_13 rfl <| j_callV (v := some (vI v)) (as := []) dX8_wipe_15 kc_X8_48 rfl rfl w (by decide) (Nat.le_of_ble_eq_true rfl) c K, q⟩
theorem bX8_wipe_18 {h0 h : k_H} {Q : k_H → k_R → Prop} {x0 : Nat} {x1 x3 : Int64} {x5 : Option Nat} {x6 s0 s1 : Int32} (K1 : s1 ≤ s0 → k_X (jX8_wipe G l h0) h 53 [(0, vR (some x0)), (1, vJ x1), (3, vJ x3)] [] Q) (K2 : ¬ (s1 ≤ s0) → k_X (jX8_wipe G l h0) h 21 [(0, vR (some x0)), (1, vJ x1), (3, vJ x3), (5, vR x5), (6, vI x6)] [] Q) : k_X (jX8_wipe G l h0) h 18 [(0, vR (some x0)), (1, vJ x1), (3, vJ x3), (5, vR x5), (6, vI x6)] [vI s1, vI s0] Q := by
  by_cases hc : s1 ≤ s0
  · skip
    obtain ⟨h', r, K, q⟩ := K1 hc
    exact ⟨h', r, j_icmp_ge_t (tgt := 53) dX8_wipe_18 (by decide) hc (j_pick [0, 1, 2] rfl K), q⟩
  · skip
    obtain ⟨h', r, K, q⟩ := K2 hc
    exact ⟨h', r, j_icmp_ge_f dX8_wipe_18 53 (by decide) hc K, q⟩
theorem bX8_wipe_21 {h0 h : k_H} {Q : k_H → k_R → Prop} {x0 f1_3 : Nat} {x1 x3 : Int64} {x5 : Option Nat} {x6 : Int32} {fs1 : List k_V} (o1 : h.1 x0 = some (k_o 11 fs1)) (g1_3 : fs1[3]? = some (vR (some f1_3))) (w : k_is h f1_3 3) {P : k_H → Prop} (c : k_ctv (tX0_load G l) [vR (some f1_3), vR none] h P) (K : ∀ h1, P h1 → k_X (jX8_wipe G l h0) h1 29 [(0, vR (some x0)), (1, vJ x1), (3, vJ x3), (5, vR x5), (6, vI x6)] [] Q) : k_X (jX8_wipe G l h0) h 21 [(0, vR (some x0)), (1, vJ x1), (3, vJ x3), (5, vR x5), (6, vI x6)] [] Q := by
  obtain ⟨h1, c, p⟩ := c
  obtain ⟨h', r, K, q⟩ := K h1 p
  exact ⟨h', r, j_aload_n dX8_wipe_21 rfl rfl <| j_getf dX8_wipe_22 kf_X8_27 o1 g1_3 <| j_null dX8_wipe_25 <| j_callV (v := none) (as := [vR none]) dX8_wipe_26 kc_X8_85 rfl rfl w (by decide) (Nat.le_of_ble_eq_true rfl) c K, q⟩
theorem bX8_wipe_29 {h0 h : k_H} {Q : k_H → k_R → Prop} {x0 x5 : Nat} {x1 x3 : Int64} {x6 : Int32} (w : k_is h x5 2) {P : k_H → Option Nat → Prop} (c : k_ctr (tAL_get G l) [vR (some x5), vI x6] h P) (K : ∀ h1 v, P h1 v → k_X (jX8_wipe G l h0) h1 37 [(0, vR (some x0)), (1, vJ x1), (3, vJ x3), (5, vR (some x5)), (6, vI x6)] [vR v, vR (some x0)] Q) : k_X (jX8_wipe G l h0) h 29 [(0, vR (some x0)), (1, vJ x1), (3, vJ x3), (5, vR (some x5)), (6, vI x6)] [] Q := by
  obtain ⟨h1, v, c, p⟩ := c
  obtain ⟨h', r, K, q⟩ := K h1 v p
  exact ⟨h', r, j_aload_n dX8_wipe_29 rfl rfl <| j_aload dX8_wipe_30 rfl <| j_iload dX8_wipe_32 rfl <| j_callV (v := some (vR v)) (as := [vI x6]) dX8_wipe_34 kc_X8_52 rfl rfl w (by decide) (Nat.le_of_ble_eq_true rfl) c K, q⟩
theorem bX8_wipe_37 {h0 h : k_H} {Q : k_H → k_R → Prop} {x0 s0 s1 : Nat} {x1 x3 : Int64} {x5 f2_3 : Option Nat} {x6 : Int32} {fs1 : List k_V} (o1 : h.1 s1 = some (k_o 7 fs1)) {fs2 : List k_V} (o2 : h.1 x0 = some (k_o 11 fs2)) (g2_3 : fs2[3]? = some (vR f2_3)) (w : k_is h s0 11) {P : k_H → Prop} (c : k_ctv (tX8_write G l) [vR (some s0), vR (some s1), vR f2_3] h P) (K : ∀ h1, P h1 → k_X (jX8_wipe G l h0) h1 47 [(0, vR (some x0)), (1, vJ x1), (3, vJ x3), (5, vR x5), (6, vI x6)] [] Q) : k_X (jX8_wipe G l h0) h 37 [(0, vR (some x0)), (1, vJ x1), (3, vJ x3), (5, vR x5), (6, vI x6)] [vR (some s1), vR (some s0)] Q := by
  obtain ⟨h1, c, p⟩ := c
  obtain ⟨h', r, K, q⟩ := K h1 p
  exact ⟨h', r, j_cast dX8_wipe_37 kk_X8_56 o1 <| j_aload_n dX8_wipe_40 rfl rfl <| j_getf dX8_wipe_41 kf_X8_27 o2 g2_3 <| j_callV (v := none) (as := [vR (some s1), vR f2_3]) dX8_wipe_44 kc_X8_147 rfl rfl w (by decide) (Nat.le_of_ble_eq_true rfl) c K, q⟩
theorem bX8_wipe_47 {h0 h : k_H} {Q : k_H → k_R → Prop} {x0 : Nat} {x1 x3 : Int64} {x5 : Option Nat} {x6 : Int32} (K : k_X (jX8_wipe G l h0) h 11 [(0, vR (some x0)), (1, vJ x1), (3, vJ x3), (5, vR x5), (6, vI (x6 + 1))] [] Q) : k_X (jX8_wipe G l h0) h 47 [(0, vR (some x0)), (1, vJ x1), (3, vJ x3), (5, vR x5), (6, vI x6)] [] Q := by
  obtain ⟨h', r, K, q⟩ := K
  exact ⟨h', r, j_iinc (v := x6 + 1) dX8_wipe_47 rfl (by decide) rfl rfl <| j_goto (tgt := 11) dX8_wipe_50 (by decide) <| K, q⟩
theorem bX8_wipe_53 {h0 h : k_H} {Q : k_H → k_R → Prop} {x0 f1_1 : Nat} {x1 x3 : Int64} {fs1 : List k_V} (o1 : h.1 x0 = some (k_o 11 fs1)) (g1_1 : fs1[1]? = some (vR (some f1_1))) (w : k_is h f1_1 2) {P : k_H → Int32 → Prop} (c : k_cti (tAL_size G l) [vR (some f1_1)] h P) (K : ∀ h1 v, P h1 v → k_X (jX8_wipe G l h0) h1 60 [(0, vR (some x0)), (1, vJ x1), (3, vJ x3)] [vI v] Q) : k_X (jX8_wipe G l h0) h 53 [(0, vR (some x0)), (1, vJ x1), (3, vJ x3)] [] Q := by
  obtain ⟨h1, v, c, p⟩ := c
  obtain ⟨h', r, K, q⟩ := K h1 v p
  exact ⟨h', r, j_aload_n dX8_wipe_53 rfl rfl <| j_getf dX8_wipe_54 kf_X8_18 o1 g1_1 <| j_callV (v := some (vI v)) (as := []) dX8_wipe_57 kc_X8_48 rfl rfl w (by decide) (Nat.le_of_ble_eq_true rfl) c K, q⟩
theorem bX8_wipe_60 {h0 h : k_H} {Q : k_H → k_R → Prop} {x0 : Nat} {x1 x3 : Int64} {s0 : Int32} (K1 : 16384 ≤ s0 → k_X (jX8_wipe G l h0) h 87 [] [] Q) (K2 : ¬ (16384 ≤ s0) → k_X (jX8_wipe G l h0) h 66 [(0, vR (some x0)), (1, vJ x1), (3, vJ x3)] [] Q) : k_X (jX8_wipe G l h0) h 60 [(0, vR (some x0)), (1, vJ x1), (3, vJ x3)] [vI s0] Q := by
  by_cases hc : 16384 ≤ s0
  · skip
    obtain ⟨h', r, K, q⟩ := K1 hc
    exact ⟨h', r, j_sipush (v := 16384) dX8_wipe_60 (by decide) <| j_icmp_ge_t (tgt := 87) dX8_wipe_63 (by decide) hc (j_pick [] rfl K), q⟩
  · skip
    obtain ⟨h', r, K, q⟩ := K2 hc
    exact ⟨h', r, j_sipush (v := 16384) dX8_wipe_60 (by decide) <| j_icmp_ge_f dX8_wipe_63 87 (by decide) hc K, q⟩
theorem bX8_wipe_66 {h0 h : k_H} {Q : k_H → k_R → Prop} {x0 : Nat} {x1 x3 : Int64} {f1_1 : Option Nat} {fs1 : List k_V} (o1 : h.1 x0 = some (k_o 11 fs1)) (g1_1 : fs1[1]? = some (vR f1_1)) (K : k_X (jX8_wipe G l h0) (k_nw h 3 (k_o 10 [vJ 0, vJ 0, vI 0])) 73 [(0, vR (some x0)), (1, vJ x1), (3, vJ x3)] [vR (some h.2.1), vR f1_1] Q) : k_X (jX8_wipe G l h0) h 66 [(0, vR (some x0)), (1, vJ x1), (3, vJ x3)] [] Q := by
  obtain ⟨h', r, K, q⟩ := K
  exact ⟨h', r, j_aload_n dX8_wipe_66 rfl rfl <| j_getf dX8_wipe_67 kf_X8_18 o1 g1_1 <| j_new dX8_wipe_70 kn_X8_155 <| K, q⟩
theorem bX8_wipe_73 {h0 h : k_H} {Q : k_H → k_R → Prop} {x0 s1 : Nat} {x1 x3 : Int64} {s0 : Option Nat} {f1_6 : Int32} {fs1 : List k_V} (o1 : h.1 x0 = some (k_o 11 fs1)) (g1_6 : fs1[6]? = some (vI f1_6)) {P : k_H → Prop} (c : k_ctv (tX7_init G l) [vR (some s1), vJ x1, vJ x3, vI f1_6] h P) (K : ∀ h1, P h1 → k_X (jX8_wipe G l h0) h1 83 [] [vR (some s1), vR s0] Q) : k_X (jX8_wipe G l h0) h 73 [(0, vR (some x0)), (1, vJ x1), (3, vJ x3)] [vR (some s1), vR s0] Q := by
  obtain ⟨h1, c, p⟩ := c
  obtain ⟨h', r, K, q⟩ := K h1 p
  exact ⟨h', r, j_dup dX8_wipe_73 rfl <| j_lload_n dX8_wipe_74 rfl rfl <| j_lload_n dX8_wipe_75 rfl rfl <| j_aload_n dX8_wipe_76 rfl rfl <| j_getf dX8_wipe_77 kf_X8_39 o1 g1_6 <| j_callI (v := none) (as := [vJ x1, vJ x3, vI f1_6]) dX8_wipe_80 kc_X8_157 rfl rfl (by decide) (Nat.le_of_ble_eq_true rfl) c (j_pick [] rfl K), q⟩
theorem bX8_wipe_83 {h0 h : k_H} {Q : k_H → k_R → Prop} {s0 : Nat} {s1 : Option Nat} (w : k_is h s0 2) {P : k_H → Int32 → Prop} (c : k_cti (tAL_add G l) [vR (some s0), vR s1] h P) (K : ∀ h1 v, P h1 v → k_X (jX8_wipe G l h0) h1 86 [] [vI v] Q) : k_X (jX8_wipe G l h0) h 83 [] [vR s1, vR (some s0)] Q := by
  obtain ⟨h1, v, c, p⟩ := c
  obtain ⟨h', r, K, q⟩ := K h1 v p
  exact ⟨h', r, j_callV (v := some (vI v)) (as := [vR s1]) dX8_wipe_83 kc_X8_99 rfl rfl w (by decide) (Nat.le_of_ble_eq_true rfl) c K, q⟩
theorem bX8_wipe_86 {h0 h : k_H} {Q : k_H → k_R → Prop} {s0 : Int32} (K : k_X (jX8_wipe G l h0) h 87 [] [] Q) : k_X (jX8_wipe G l h0) h 86 [] [vI s0] Q := by
  obtain ⟨h', r, K, q⟩ := K
  exact ⟨h', r, j_pop dX8_wipe_86 rfl <| K, q⟩
theorem bX8_wipe_87 {h0 h : k_H} {Q : k_H → k_R → Prop} (q : Q h (.inl none)) : k_X (jX8_wipe G l h0) h 87 [] [] Q := by
  exact ⟨_, _, j_vret dX8_wipe_87 rfl, q⟩
theorem eX8_write {G : k_G} {l : Launch} (hfl : l.flags = flags0) {h : k_H} {Q : k_H → k_R → Prop} {x0 : Nat} {x1 : Option Nat} {x2 : Option Nat} (K : k_X (jX8_write G l h) h 0 [(0, vR (some x0)), (1, vR x1), (2, vR x2)] [] Q) : k_ct (tX8_write G l) [vR (some x0), vR x1, vR x2] h Q := by
  obtain ⟨h', r, K, q⟩ := K
  exact ⟨h', r, k_CtOf (by decide +kernel) (Nat.le_of_ble_eq_true rfl) K hfl, q⟩

theorem bX8_write_0 {h0 h : k_H} {Q : k_H → k_R → Prop} {x0 x1 : Nat} {x2 f1_1 : Option Nat} {fs1 : List k_V} (o1 : h.1 x1 = some (k_o 7 fs1)) (g1_1 : fs1[1]? = some (vR f1_1)) (K1 : f1_1 = none → k_X (jX8_write G l h0) h 20 [(0, vR (some x0)), (1, vR (some x1)), (2, vR x2)] [] Q) (K2 : ∀ a, f1_1 = some a → k_X (jX8_write G l h0) h 9 [(0, vR (some x0)), (1, vR (some x1)), (2, vR x2), (3, vR f1_1)] [] Q) : k_X (jX8_write G l h0) h 0 [(0, vR (some x0)), (1, vR (some x1)), (2, vR x2)] [] Q := by
  rcases e9 : f1_1 with _ | a
  · obtain ⟨h', r, K, q⟩ := K1 e9
    subst e9
    exact ⟨h', r, j_aload_n dX8_write_0 rfl rfl <| j_getf dX8_write_1 kf_X8_140 o1 g1_1 <| j_astore_n dX8_write_4 rfl (by decide) rfl <| j_aload_n dX8_write_5 rfl rfl <| j_ifnull_t (tgt := 20) dX8_write_6 (by decide) (j_pick [0, 1, 2] rfl K), q⟩
  · obtain ⟨h', r, K, q⟩ := K2 a e9
    subst e9
    exact ⟨h', r, j_aload_n dX8_write_0 rfl rfl <| j_getf dX8_write_1 kf_X8_140 o1 g1_1 <| j_astore_n dX8_write_4 rfl (by decide) rfl <| j_aload_n dX8_write_5 rfl rfl <| j_ifnull_f dX8_write_6 K, q⟩
theorem bX8_write_9 {h0 h : k_H} {Q : k_H → k_R → Prop} {x0 x3 : Nat} {x1 x2 : Option Nat} {f1_1 f2_6 : Int32} {fs1 : List k_V} (o1 : h.1 x3 = some (k_o 6 fs1)) (g1_1 : fs1[1]? = some (vI f1_1)) {fs2 : List k_V} (o2 : h.1 x0 = some (k_o 11 fs2)) (g2_6 : fs2[6]? = some (vI f2_6)) (K1 : f1_1 = f2_6 → k_X (jX8_write G l h0) h 71 [(2, vR x2), (3, vR (some x3))] [] Q) (K2 : ¬ (f1_1 = f2_6) → k_X (jX8_write G l h0) h 20 [(0, vR (some x0)), (1, vR x1), (2, vR x2)] [] Q) : k_X (jX8_write G l h0) h 9 [(0, vR (some x0)), (1, vR x1), (2, vR x2), (3, vR (some x3))] [] Q := by
  by_cases hc : f1_1 = f2_6
  · skip
    obtain ⟨h', r, K, q⟩ := K1 hc
    exact ⟨h', r, j_aload_n dX8_write_9 rfl rfl <| j_getf dX8_write_10 kf_X8_160 o1 g1_1 <| j_aload_n dX8_write_13 rfl rfl <| j_getf dX8_write_14 kf_X8_39 o2 g2_6 <| j_icmp_eq_t (tgt := 71) dX8_write_17 (by decide) hc (j_pick [2, 3] rfl K), q⟩
  · skip
    obtain ⟨h', r, K, q⟩ := K2 hc
    exact ⟨h', r, j_aload_n dX8_write_9 rfl rfl <| j_getf dX8_write_10 kf_X8_160 o1 g1_1 <| j_aload_n dX8_write_13 rfl rfl <| j_getf dX8_write_14 kf_X8_39 o2 g2_6 <| j_icmp_eq_f dX8_write_17 71 (by decide) hc (j_pick [0, 1, 2] rfl K), q⟩
theorem bX8_write_20 {h0 h : k_H} {Q : k_H → k_R → Prop} {x0 : Nat} {x1 x2 : Option Nat} {f1_4 : Int32} {fs1 : List k_V} (o1 : h.1 x0 = some (k_o 11 fs1)) (g1_4 : fs1[4]? = some (vI f1_4)) (K1 : f1_4 < 1048576 → k_X (jX8_write G l h0) h 30 [(0, vR (some x0)), (1, vR x1), (2, vR x2)] [] Q) (K2 : ¬ (f1_4 < 1048576) → k_X (jX8_write G l h0) h 29 [] [] Q) : k_X (jX8_write G l h0) h 20 [(0, vR (some x0)), (1, vR x1), (2, vR x2)] [] Q := by
  by_cases hc : f1_4 < 1048576
  · skip
    obtain ⟨h', r, K, q⟩ := K1 hc
    exact ⟨h', r, j_aload_n dX8_write_20 rfl rfl <| j_getf dX8_write_21 kf_X8_31 o1 g1_4 <| j_ldc (v := 1048576) dX8_write_24 ki_X8_165 <| j_icmp_lt_t (tgt := 30) dX8_write_26 (by decide) hc K, q⟩
  · skip
    obtain ⟨h', r, K, q⟩ := K2 hc
    exact ⟨h', r, j_aload_n dX8_write_20 rfl rfl <| j_getf dX8_write_21 kf_X8_31 o1 g1_4 <| j_ldc (v := 1048576) dX8_write_24 ki_X8_165 <| j_icmp_lt_f dX8_write_26 30 (by decide) hc (j_pick [] rfl K), q⟩
theorem bX8_write_29 {h0 h : k_H} {Q : k_H → k_R → Prop} (q : Q h (.inl none)) : k_X (jX8_write G l h0) h 29 [] [] Q := by
  exact ⟨_, _, j_vret dX8_write_29 rfl, q⟩
theorem bX8_write_30 {h0 h : k_H} {Q : k_H → k_R → Prop} {x0 : Nat} {x1 x2 : Option Nat} (K : k_X (jX8_write G l h0) (k_nw h 6 (k_o 6 [vR none, vI 0, vR none, vR none, vI 0, vI 0])) 33 [(0, vR (some x0)), (1, vR x1), (2, vR x2)] [vR (some h.2.1)] Q) : k_X (jX8_write G l h0) h 30 [(0, vR (some x0)), (1, vR x1), (2, vR x2)] [] Q := by
  obtain ⟨h', r, K, q⟩ := K
  exact ⟨h', r, j_new dX8_write_30 kn_X8_161 <| K, q⟩
theorem bX8_write_33 {h0 h : k_H} {Q : k_H → k_R → Prop} {x0 x1 s0 : Nat} {x2 f2_1 f1_5 : Option Nat} {f1_6 : Int32} {fs1 : List k_V} (o1 : h.1 x0 = some (k_o 11 fs1)) (g1_6 : fs1[6]? = some (vI f1_6)) {fs2 : List k_V} (o2 : h.1 x1 = some (k_o 7 fs2)) (g2_1 : fs2[1]? = some (vR f2_1)) (g1_5 : fs1[5]? = some (vR f1_5)) {P : k_H → Prop} (c : k_ctv (tX3_init G l) [vR (some s0), vR (some x1), vI f1_6, vR f2_1, vR f1_5] h P) (K : ∀ h1, P h1 → k_X (jX8_write G l h0) h1 50 [(0, vR (some x0)), (1, vR (some x1)), (2, vR x2)] [vR (some s0)] Q) : k_X (jX8_write G l h0) h 33 [(0, vR (some x0)), (1, vR (some x1)), (2, vR x2)] [vR (some s0)] Q := by
  obtain ⟨h1, c, p⟩ := c
  obtain ⟨h', r, K, q⟩ := K h1 p
  exact ⟨h', r, j_dup dX8_write_33 rfl <| j_aload_n dX8_write_34 rfl rfl <| j_aload_n dX8_write_35 rfl rfl <| j_getf dX8_write_36 kf_X8_39 o1 g1_6 <| j_aload_n dX8_write_39 rfl rfl <| j_getf dX8_write_40 kf_X8_140 o2 g2_1 <| j_aload_n dX8_write_43 rfl rfl <| j_getf dX8_write_44 kf_X8_35 o1 g1_5 <| j_callI (v := none) (as := [vR (some x1), vI f1_6, vR f2_1, vR f1_5]) dX8_write_47 kc_X8_166 rfl rfl (by decide) (Nat.le_of_ble_eq_true rfl) c K, q⟩
theorem bX8_write_50 {h0 h : k_H} {Q : k_H → k_R → Prop} {x0 x1 : Nat} {x2 s0 : Option Nat} {fs1 : List k_V} (o1 : h.1 x1 = some (k_o 7 fs1)) (z1 : fs1.length = 2) (K : k_X (jX8_write G l h0) (k_up h x1 (k_o 7 (fs1.set 1 (vR s0)))) 56 [(0, vR (some x0)), (2, vR x2), (3, vR s0)] [] Q) : k_X (jX8_write G l h0) h 50 [(0, vR (some x0)), (1, vR (some x1)), (2, vR x2)] [vR s0] Q := by
  obtain ⟨h', r, K, q⟩ := K
  exact ⟨h', r, j_astore_n dX8_write_50 rfl (by decide) rfl <| j_aload_n dX8_write_51 rfl rfl <| j_aload_n dX8_write_52 rfl rfl <| j_putf dX8_write_53 kp_X8_140 o1 (k_ln z1 (by decide)) (k_fit_r _ _) rfl <| (j_pick [0, 2, 3] rfl K), q⟩
theorem bX8_write_56 {h0 h : k_H} {Q : k_H → k_R → Prop} {x0 : Nat} {x2 x3 : Option Nat} {fs1 : List k_V} (o1 : h.1 x0 = some (k_o 11 fs1)) (z1 : fs1.length = 7) (K : k_X (jX8_write G l h0) (k_up h x0 (k_o 11 (fs1.set 5 (vR x3)))) 61 [(0, vR (some x0)), (2, vR x2), (3, vR x3)] [] Q) : k_X (jX8_write G l h0) h 56 [(0, vR (some x0)), (2, vR x2), (3, vR x3)] [] Q := by
  obtain ⟨h', r, K, q⟩ := K
  exact ⟨h', r, j_aload_n dX8_write_56 rfl rfl <| j_aload_n dX8_write_57 rfl rfl <| j_putf dX8_write_58 kp_X8_35 o1 (k_ln z1 (by decide)) (k_fit_r _ _) rfl <| K, q⟩
theorem bX8_write_61 {h0 h : k_H} {Q : k_H → k_R → Prop} {x0 : Nat} {x2 x3 : Option Nat} {f1_4 : Int32} {fs1 : List k_V} (o1 : h.1 x0 = some (k_o 11 fs1)) (g1_4 : fs1[4]? = some (vI f1_4)) (z1 : fs1.length = 7) (K : k_X (jX8_write G l h0) (k_up h x0 (k_o 11 (fs1.set 4 (vI (f1_4 + 1))))) 71 [(2, vR x2), (3, vR x3)] [] Q) : k_X (jX8_write G l h0) h 61 [(0, vR (some x0)), (2, vR x2), (3, vR x3)] [] Q := by
  obtain ⟨h', r, K, q⟩ := K
  exact ⟨h', r, j_aload_n dX8_write_61 rfl rfl <| j_dup dX8_write_62 rfl <| j_getf dX8_write_63 kf_X8_31 o1 g1_4 <| j_iconst (v := 1) dX8_write_66 (by decide) <| j_iadd dX8_write_67 <| j_putf dX8_write_68 kp_X8_31 o1 (k_ln z1 (by decide)) (k_fit_i _) rfl <| (j_pick [1, 2] rfl K), q⟩
theorem bX8_write_71 {h0 h : k_H} {Q : k_H → k_R → Prop} {x2 x3 : Nat} {f1_0 : Int32} {fs1 : List k_V} (o1 : h.1 x2 = some (k_o 3 fs1)) (g1_0 : fs1[0]? = some (vI f1_0)) {fs2 : List k_V} (o2 : h.1 x3 = some (k_o 6 fs2)) (y3 : k_bl f1_0) (z2 : fs2.length = 6) (K : k_X (jX8_write G l h0) (k_up h x3 (k_o 6 (fs2.set 4 (vI f1_0)))) 79 [(2, vR (some x2)), (3, vR (some x3))] [] Q) : k_X (jX8_write G l h0) h 71 [(2, vR (some x2)), (3, vR (some x3))] [] Q := by
  obtain ⟨h', r, K, q⟩ := K
  exact ⟨h', r, j_aload_n dX8_write_71 rfl rfl <| j_aload_n dX8_write_72 rfl rfl <| j_getf dX8_write_73 kf_X8_169 o1 g1_0 <| j_putf dX8_write_76 kp_X8_173 o2 (k_ln z2 (by decide)) (k_fit_z y3) rfl <| K, q⟩
theorem bX8_write_79 {h0 h : k_H} {Q : k_H → k_R → Prop} {x2 x3 : Nat} {f1_2 : Int32} {fs1 : List k_V} (o1 : h.1 x2 = some (k_o 3 fs1)) (g1_2 : fs1[2]? = some (vI f1_2)) {fs2 : List k_V} (o2 : h.1 x3 = some (k_o 6 fs2)) (z2 : fs2.length = 6) (K : k_X (jX8_write G l h0) (k_up h x3 (k_o 6 (fs2.set 5 (vI f1_2)))) 87 [] [] Q) : k_X (jX8_write G l h0) h 79 [(2, vR (some x2)), (3, vR (some x3))] [] Q := by
  obtain ⟨h', r, K, q⟩ := K
  exact ⟨h', r, j_aload_n dX8_write_79 rfl rfl <| j_aload_n dX8_write_80 rfl rfl <| j_getf dX8_write_81 kf_X8_174 o1 g1_2 <| j_putf dX8_write_84 kp_X8_175 o2 (k_ln z2 (by decide)) (k_fit_i _) rfl <| (j_pick [] rfl K), q⟩
theorem bX8_write_87 {h0 h : k_H} {Q : k_H → k_R → Prop} (q : Q h (.inl none)) : k_X (jX8_write G l h0) h 87 [] [] Q := by
  exact ⟨_, _, j_vret dX8_write_87 rfl, q⟩
theorem eX8_countDiffering {G : k_G} {l : Launch} (hfl : l.flags = flags0) {h : k_H} {Q : k_H → k_R → Prop} {x0 : Nat} {x1 : Int32} (K : k_X (jX8_countDiffering G l h) h 0 [(0, vR (some x0)), (1, vI x1)] [] Q) : k_ct (tX8_countDiffering G l) [vR (some x0), vI x1] h Q := by
  obtain ⟨h', r, K, q⟩ := K
  exact ⟨h', r, k_CtOf (by decide +kernel) (Nat.le_of_ble_eq_true rfl) K hfl, q⟩

theorem bX8_countDiffering_0 {h0 h : k_H} {Q : k_H → k_R → Prop} {x0 : Nat} {x1 : Int32} (K : k_X (jX8_countDiffering G l h0) h 4 [(0, vR (some x0)), (1, vI x1), (2, vI 0), (3, vI 0)] [] Q) : k_X (jX8_countDiffering G l h0) h 0 [(0, vR (some x0)), (1, vI x1)] [] Q := by
  obtain ⟨h', r, K, q⟩ := K
  exact ⟨h', r, j_iconst (v := 0) dX8_countDiffering_0 (by decide) <| j_istore_n dX8_countDiffering_1 rfl (by decide) rfl <| j_iconst (v := 0) dX8_countDiffering_2 (by decide) <| j_istore_n dX8_countDiffering_3 rfl (by decide) rfl <| K, q⟩
theorem bX8_countDiffering_4 {h0 h : k_H} {Q : k_H → k_R → Prop} {x0 f1_0 : Nat} {x1 x2 x3 : Int32} {fs1 : List k_V} (o1 : h.1 x0 = some (k_o 11 fs1)) (g1_0 : fs1[0]? = some (vR (some f1_0))) (w : k_is h f1_0 2) {P : k_H → Int32 → Prop} (c : k_cti (tAL_size G l) [vR (some f1_0)] h P) (K : ∀ h1 v, P h1 v → k_X (jX8_countDiffering G l h0) h1 12 [(0, vR (some x0)), (1, vI x1), (2, vI x2), (3, vI x3)] [vI v, vI x3] Q) : k_X (jX8_countDiffering G l h0) h 4 [(0, vR (some x0)), (1, vI x1), (2, vI x2), (3, vI x3)] [] Q := by
  obtain ⟨h1, v, c, p⟩ := c
  obtain ⟨h', r, K, q⟩ := K h1 v p
  exact ⟨h', r, j_iload_n dX8_countDiffering_4 rfl rfl <| j_aload_n dX8_countDiffering_5 rfl rfl <| j_getf dX8_countDiffering_6 kf_X8_12 o1 g1_0 <| j_callV (v := some (vI v)) (as := []) dX8_countDiffering_9 kc_X8_48 rfl rfl w (by decide) (Nat.le_of_ble_eq_true rfl) c K, q⟩
theorem bX8_countDiffering_12 {h0 h : k_H} {Q : k_H → k_R → Prop} {x0 : Nat} {x1 x2 x3 s0 s1 : Int32} (K1 : s1 ≤ s0 → k_X (jX8_countDiffering G l h0) h 54 [(2, vI x2)] [] Q) (K2 : ¬ (s1 ≤ s0) → k_X (jX8_countDiffering G l h0) h 15 [(0, vR (some x0)), (1, vI x1), (2, vI x2), (3, vI x3)] [] Q) : k_X (jX8_countDiffering G l h0) h 12 [(0, vR (some x0)), (1, vI x1), (2, vI x2), (3, vI x3)] [vI s1, vI s0] Q := by
  by_cases hc : s1 ≤ s0
  · skip
    obtain ⟨h', r, K, q⟩ := K1 hc
    exact ⟨h', r, j_icmp_ge_t (tgt := 54) dX8_countDiffering_12 (by decide) hc (j_pick [2] rfl K), q⟩
  · skip
    obtain ⟨h', r, K, q⟩ := K2 hc
    exact ⟨h', r, j_icmp_ge_f dX8_countDiffering_12 54 (by decide) hc K, q⟩
theorem bX8_countDiffering_15 {h0 h : k_H} {Q : k_H → k_R → Prop} {x0 f1_0 : Nat} {x1 x2 x3 : Int32} {fs1 : List k_V} (o1 : h.1 x0 = some (k_o 11 fs1)) (g1_0 : fs1[0]? = some (vR (some f1_0))) (w : k_is h f1_0 2) {P : k_H → Option Nat → Prop} (c : k_ctr (tAL_get G l) [vR (some f1_0), vI x3] h P) (K : ∀ h1 v, P h1 v → k_X (jX8_countDiffering G l h0) h1 23 [(0, vR (some x0)), (1, vI x1), (2, vI x2), (3, vI x3)] [vR v] Q) : k_X (jX8_countDiffering G l h0) h 15 [(0, vR (some x0)), (1, vI x1), (2, vI x2), (3, vI x3)] [] Q := by
  obtain ⟨h1, v, c, p⟩ := c
  obtain ⟨h', r, K, q⟩ := K h1 v p
  exact ⟨h', r, j_aload_n dX8_countDiffering_15 rfl rfl <| j_getf dX8_countDiffering_16 kf_X8_12 o1 g1_0 <| j_iload_n dX8_countDiffering_19 rfl rfl <| j_callV (v := some (vR v)) (as := [vI x3]) dX8_countDiffering_20 kc_X8_52 rfl rfl w (by decide) (Nat.le_of_ble_eq_true rfl) c K, q⟩
theorem bX8_countDiffering_23 {h0 h : k_H} {Q : k_H → k_R → Prop} {x0 s0 : Nat} {x1 x2 x3 : Int32} {f1_1 : Option Nat} {fs1 : List k_V} (o1 : h.1 s0 = some (k_o 7 fs1)) (g1_1 : fs1[1]? = some (vR f1_1)) {P : k_H → Option Nat → Prop} (c : k_ctr (tX4_entryIn G l) [vR (some s0), vI x1] h P) (K : ∀ h1 v, P h1 v → k_X (jX8_countDiffering G l h0) h1 39 [(0, vR (some x0)), (1, vI x1), (2, vI x2), (3, vI x3)] [vR v, vR f1_1] Q) : k_X (jX8_countDiffering G l h0) h 23 [(0, vR (some x0)), (1, vI x1), (2, vI x2), (3, vI x3)] [vR (some s0)] Q := by
  obtain ⟨h1, v, c, p⟩ := c
  obtain ⟨h', r, K, q⟩ := K h1 v p
  exact ⟨h', r, j_cast dX8_countDiffering_23 kk_X8_56 o1 <| j_astore dX8_countDiffering_26 (by decide) rfl <| j_aload dX8_countDiffering_28 rfl <| j_getf dX8_countDiffering_30 kf_X8_140 o1 g1_1 <| j_aload dX8_countDiffering_33 rfl <| j_iload_n dX8_countDiffering_35 rfl rfl <| j_callV (v := some (vR v)) (as := [vI x1]) dX8_countDiffering_36 kc_X8_78 rfl rfl (k_is_o o1) (by decide) (Nat.le_of_ble_eq_true rfl) c (j_pick [0, 1, 2, 3] rfl K), q⟩
theorem bX8_countDiffering_39 {h0 h : k_H} {Q : k_H → k_R → Prop} {x0 : Nat} {x1 x2 x3 : Int32} {s0 s1 : Option Nat} {P : k_H → Int32 → Prop} (c : k_cti (tX3_alike G l) [vR s0, vR s1] h P) (K : ∀ h1 v, P h1 v → k_X (jX8_countDiffering G l h0) h1 42 [(0, vR (some x0)), (1, vI x1), (2, vI x2), (3, vI x3)] [vI v] Q) : k_X (jX8_countDiffering G l h0) h 39 [(0, vR (some x0)), (1, vI x1), (2, vI x2), (3, vI x3)] [vR s1, vR s0] Q := by
  obtain ⟨h1, v, c, p⟩ := c
  obtain ⟨h', r, K, q⟩ := K h1 v p
  exact ⟨h', r, j_callS (v := some (vI v)) (as := [vR s0, vR s1]) dX8_countDiffering_39 kc_X8_176 rfl rfl (by decide) (Nat.le_of_ble_eq_true rfl) c K, q⟩
theorem bX8_countDiffering_42 {h0 h : k_H} {Q : k_H → k_R → Prop} {x0 : Nat} {x1 x2 x3 s0 : Int32} (K1 : ¬ (s0 = 0) → k_X (jX8_countDiffering G l h0) h 48 [(0, vR (some x0)), (1, vI x1), (2, vI x2), (3, vI x3)] [] Q) (K2 : s0 = 0 → k_X (jX8_countDiffering G l h0) h 45 [(0, vR (some x0)), (1, vI x1), (2, vI x2), (3, vI x3)] [] Q) : k_X (jX8_countDiffering G l h0) h 42 [(0, vR (some x0)), (1, vI x1), (2, vI x2), (3, vI x3)] [vI s0] Q := by
  by_cases hc : s0 = 0
  · skip
    obtain ⟨h', r, K, q⟩ := K2 hc
    exact ⟨h', r, j_if_ne_f dX8_countDiffering_42 48 (by decide) hc K, q⟩
  · skip
    obtain ⟨h', r, K, q⟩ := K1 hc
    exact ⟨h', r, j_if_ne_t (tgt := 48) dX8_countDiffering_42 (by decide) hc K, q⟩
theorem bX8_countDiffering_45 {h0 h : k_H} {Q : k_H → k_R → Prop} {x0 : Nat} {x1 x2 x3 : Int32} (K : k_X (jX8_countDiffering G l h0) h 48 [(0, vR (some x0)), (1, vI x1), (2, vI (x2 + 1)), (3, vI x3)] [] Q) : k_X (jX8_countDiffering G l h0) h 45 [(0, vR (some x0)), (1, vI x1), (2, vI x2), (3, vI x3)] [] Q := by
  obtain ⟨h', r, K, q⟩ := K
  exact ⟨h', r, j_iinc (v := x2 + 1) dX8_countDiffering_45 rfl (by decide) rfl rfl <| K, q⟩
theorem bX8_countDiffering_48 {h0 h : k_H} {Q : k_H → k_R → Prop} {x0 : Nat} {x1 x2 x3 : Int32} (K : k_X (jX8_countDiffering G l h0) h 4 [(0, vR (some x0)), (1, vI x1), (2, vI x2), (3, vI (x3 + 1))] [] Q) : k_X (jX8_countDiffering G l h0) h 48 [(0, vR (some x0)), (1, vI x1), (2, vI x2), (3, vI x3)] [] Q := by
  obtain ⟨h', r, K, q⟩ := K
  exact ⟨h', r, j_iinc (v := x3 + 1) dX8_countDiffering_48 rfl (by decide) rfl rfl <| j_goto (tgt := 4) dX8_countDiffering_51 (by decide) <| K, q⟩
theorem bX8_countDiffering_54 {h0 h : k_H} {Q : k_H → k_R → Prop} {x2 : Int32} (q : Q h (.inl (some (vI x2)))) : k_X (jX8_countDiffering G l h0) h 54 [(2, vI x2)] [] Q := by
  exact ⟨_, _, j_iload_n dX8_countDiffering_54 rfl rfl <| j_iret dX8_countDiffering_55 rfl, q⟩
theorem eX8_restore {G : k_G} {l : Launch} (hfl : l.flags = flags0) {h : k_H} {Q : k_H → k_R → Prop} {x0 : Nat} {x1 : Int32} (K : k_X (jX8_restore G l h) h 0 [(0, vR (some x0)), (1, vI x1)] [] Q) : k_ct (tX8_restore G l) [vR (some x0), vI x1] h Q := by
  obtain ⟨h', r, K, q⟩ := K
  exact ⟨h', r, k_CtOf (by decide +kernel) (Nat.le_of_ble_eq_true rfl) K hfl, q⟩

theorem bX8_restore_0 {h0 h : k_H} {Q : k_H → k_R → Prop} {x0 : Nat} {x1 : Int32} (K : k_X (jX8_restore G l h0) h 2 [(0, vR (some x0)), (1, vI x1), (2, vI 0)] [] Q) : k_X (jX8_restore G l h0) h 0 [(0, vR (some x0)), (1, vI x1)] [] Q := by
  obtain ⟨h', r, K, q⟩ := K
  exact ⟨h', r, j_iconst (v := 0) dX8_restore_0 (by decide) <| j_istore_n dX8_restore_1 rfl (by decide) rfl <| K, q⟩
theorem bX8_restore_2 {h0 h : k_H} {Q : k_H → k_R → Prop} {x0 f1_0 : Nat} {x1 x2 : Int32} {fs1 : List k_V} (o1 : h.1 x0 = some (k_o 11 fs1)) (g1_0 : fs1[0]? = some (vR (some f1_0))) (w : k_is h f1_0 2) {P : k_H → Int32 → Prop} (c : k_cti (tAL_size G l) [vR (some f1_0)] h P) (K : ∀ h1 v, P h1 v → k_X (jX8_restore G l h0) h1 10 [(0, vR (some x0)), (1, vI x1), (2, vI x2)] [vI v, vI x2] Q) : k_X (jX8_restore G l h0) h 2 [(0, vR (some x0)), (1, vI x1), (2, vI x2)] [] Q := by
  obtain ⟨h1, v, c, p⟩ := c
  obtain ⟨h', r, K, q⟩ := K h1 v p
  exact ⟨h', r, j_iload_n dX8_restore_2 rfl rfl <| j_aload_n dX8_restore_3 rfl rfl <| j_getf dX8_restore_4 kf_X8_12 o1 g1_0 <| j_callV (v := some (vI v)) (as := []) dX8_restore_7 kc_X8_48 rfl rfl w (by decide) (Nat.le_of_ble_eq_true rfl) c K, q⟩
theorem bX8_restore_10 {h0 h : k_H} {Q : k_H → k_R → Prop} {x0 : Nat} {x1 x2 s0 s1 : Int32} (K1 : s1 ≤ s0 → k_X (jX8_restore G l h0) h 68 [] [] Q) (K2 : ¬ (s1 ≤ s0) → k_X (jX8_restore G l h0) h 13 [(0, vR (some x0)), (1, vI x1), (2, vI x2)] [] Q) : k_X (jX8_restore G l h0) h 10 [(0, vR (some x0)), (1, vI x1), (2, vI x2)] [vI s1, vI s0] Q := by
  by_cases hc : s1 ≤ s0
  · skip
    obtain ⟨h', r, K, q⟩ := K1 hc
    exact ⟨h', r, j_icmp_ge_t (tgt := 68) dX8_restore_10 (by decide) hc (j_pick [] rfl K), q⟩
  · skip
    obtain ⟨h', r, K, q⟩ := K2 hc
    exact ⟨h', r, j_icmp_ge_f dX8_restore_10 68 (by decide) hc K, q⟩
theorem bX8_restore_13 {h0 h : k_H} {Q : k_H → k_R → Prop} {x0 f1_0 : Nat} {x1 x2 : Int32} {fs1 : List k_V} (o1 : h.1 x0 = some (k_o 11 fs1)) (g1_0 : fs1[0]? = some (vR (some f1_0))) (w : k_is h f1_0 2) {P : k_H → Option Nat → Prop} (c : k_ctr (tAL_get G l) [vR (some f1_0), vI x2] h P) (K : ∀ h1 v, P h1 v → k_X (jX8_restore G l h0) h1 21 [(0, vR (some x0)), (1, vI x1), (2, vI x2)] [vR v] Q) : k_X (jX8_restore G l h0) h 13 [(0, vR (some x0)), (1, vI x1), (2, vI x2)] [] Q := by
  obtain ⟨h1, v, c, p⟩ := c
  obtain ⟨h', r, K, q⟩ := K h1 v p
  exact ⟨h', r, j_aload_n dX8_restore_13 rfl rfl <| j_getf dX8_restore_14 kf_X8_12 o1 g1_0 <| j_iload_n dX8_restore_17 rfl rfl <| j_callV (v := some (vR v)) (as := [vI x2]) dX8_restore_18 kc_X8_52 rfl rfl w (by decide) (Nat.le_of_ble_eq_true rfl) c K, q⟩
theorem bX8_restore_21 {h0 h : k_H} {Q : k_H → k_R → Prop} {x0 s0 : Nat} {x1 x2 : Int32} {fs1 : List k_V} (o1 : h.1 s0 = some (k_o 7 fs1)) {P : k_H → Option Nat → Prop} (c : k_ctr (tX4_entryIn G l) [vR (some s0), vI x1] h P) (K : ∀ h1 v, P h1 v → k_X (jX8_restore G l h0) h1 30 [(0, vR (some x0)), (1, vI x1), (2, vI x2), (3, vR (some s0))] [vR v] Q) : k_X (jX8_restore G l h0) h 21 [(0, vR (some x0)), (1, vI x1), (2, vI x2)] [vR (some s0)] Q := by
  obtain ⟨h1, v, c, p⟩ := c
  obtain ⟨h', r, K, q⟩ := K h1 v p
  exact ⟨h', r, j_cast dX8_restore_21 kk_X8_56 o1 <| j_astore_n dX8_restore_24 rfl (by decide) rfl <| j_aload_n dX8_restore_25 rfl rfl <| j_iload_n dX8_restore_26 rfl rfl <| j_callV (v := some (vR v)) (as := [vI x1]) dX8_restore_27 kc_X8_78 rfl rfl (k_is_o o1) (by decide) (Nat.le_of_ble_eq_true rfl) c K, q⟩
theorem bX8_restore_30 {h0 h : k_H} {Q : k_H → k_R → Prop} {x0 x3 : Nat} {x1 x2 : Int32} {s0 f1_1 : Option Nat} {fs1 : List k_V} (o1 : h.1 x3 = some (k_o 7 fs1)) (g1_1 : fs1[1]? = some (vR f1_1)) {P : k_H → Int32 → Prop} (c : k_cti (tX3_alike G l) [vR f1_1, vR s0] h P) (K : ∀ h1 v, P h1 v → k_X (jX8_restore G l h0) h1 41 [(0, vR (some x0)), (1, vI x1), (2, vI x2), (3, vR (some x3)), (4, vR s0)] [vI v] Q) : k_X (jX8_restore G l h0) h 30 [(0, vR (some x0)), (1, vI x1), (2, vI x2), (3, vR (some x3))] [vR s0] Q := by
  obtain ⟨h1, v, c, p⟩ := c
  obtain ⟨h', r, K, q⟩ := K h1 v p
  exact ⟨h', r, j_astore dX8_restore_30 (by decide) rfl <| j_aload_n dX8_restore_32 rfl rfl <| j_getf dX8_restore_33 kf_X8_140 o1 g1_1 <| j_aload dX8_restore_36 rfl <| j_callS (v := some (vI v)) (as := [vR f1_1, vR s0]) dX8_restore_38 kc_X8_176 rfl rfl (by decide) (Nat.le_of_ble_eq_true rfl) c K, q⟩
theorem bX8_restore_41 {h0 h : k_H} {Q : k_H → k_R → Prop} {x0 : Nat} {x1 x2 s0 : Int32} {x3 x4 : Option Nat} (K1 : ¬ (s0 = 0) → k_X (jX8_restore G l h0) h 62 [(0, vR (some x0)), (1, vI x1), (2, vI x2)] [] Q) (K2 : s0 = 0 → k_X (jX8_restore G l h0) h 44 [(0, vR (some x0)), (1, vI x1), (2, vI x2), (3, vR x3), (4, vR x4)] [] Q) : k_X (jX8_restore G l h0) h 41 [(0, vR (some x0)), (1, vI x1), (2, vI x2), (3, vR x3), (4, vR x4)] [vI s0] Q := by
  by_cases hc : s0 = 0
  · skip
    obtain ⟨h', r, K, q⟩ := K2 hc
    exact ⟨h', r, j_if_ne_f dX8_restore_41 62 (by decide) hc K, q⟩
  · skip
    obtain ⟨h', r, K, q⟩ := K1 hc
    exact ⟨h', r, j_if_ne_t (tgt := 62) dX8_restore_41 (by decide) hc (j_pick [0, 1, 2] rfl K), q⟩
theorem bX8_restore_44 {h0 h : k_H} {Q : k_H → k_R → Prop} {x0 f1_3 : Nat} {x1 x2 : Int32} {x3 x4 : Option Nat} {fs1 : List k_V} (o1 : h.1 x0 = some (k_o 11 fs1)) (g1_3 : fs1[3]? = some (vR (some f1_3))) (w : k_is h f1_3 3) {P : k_H → Prop} (c : k_ctv (tX0_load G l) [vR (some f1_3), vR x4] h P) (K : ∀ h1, P h1 → k_X (jX8_restore G l h0) h1 53 [(0, vR (some x0)), (1, vI x1), (2, vI x2), (3, vR x3)] [] Q) : k_X (jX8_restore G l h0) h 44 [(0, vR (some x0)), (1, vI x1), (2, vI x2), (3, vR x3), (4, vR x4)] [] Q := by
  obtain ⟨h1, c, p⟩ := c
  obtain ⟨h', r, K, q⟩ := K h1 p
  exact ⟨h', r, j_aload_n dX8_restore_44 rfl rfl <| j_getf dX8_restore_45 kf_X8_27 o1 g1_3 <| j_aload dX8_restore_48 rfl <| j_callV (v := none) (as := [vR x4]) dX8_restore_50 kc_X8_85 rfl rfl w (by decide) (Nat.le_of_ble_eq_true rfl) c (j_pick [0, 1, 2, 3] rfl K), q⟩
theorem bX8_restore_53 {h0 h : k_H} {Q : k_H → k_R → Prop} {x0 : Nat} {x1 x2 : Int32} {x3 f1_3 : Option Nat} {fs1 : List k_V} (o1 : h.1 x0 = some (k_o 11 fs1)) (g1_3 : fs1[3]? = some (vR f1_3)) {P : k_H → Prop} (c : k_ctv (tX8_write G l) [vR (some x0), vR x3, vR f1_3] h P) (K : ∀ h1, P h1 → k_X (jX8_restore G l h0) h1 62 [(0, vR (some x0)), (1, vI x1), (2, vI x2)] [] Q) : k_X (jX8_restore G l h0) h 53 [(0, vR (some x0)), (1, vI x1), (2, vI x2), (3, vR x3)] [] Q := by
  obtain ⟨h1, c, p⟩ := c
  obtain ⟨h', r, K, q⟩ := K h1 p
  exact ⟨h', r, j_aload_n dX8_restore_53 rfl rfl <| j_aload_n dX8_restore_54 rfl rfl <| j_aload_n dX8_restore_55 rfl rfl <| j_getf dX8_restore_56 kf_X8_27 o1 g1_3 <| j_callV (v := none) (as := [vR x3, vR f1_3]) dX8_restore_59 kc_X8_147 rfl rfl (k_is_o o1) (by decide) (Nat.le_of_ble_eq_true rfl) c (j_pick [0, 1, 2] rfl K), q⟩
theorem bX8_restore_62 {h0 h : k_H} {Q : k_H → k_R → Prop} {x0 : Nat} {x1 x2 : Int32} (K : k_X (jX8_restore G l h0) h 2 [(0, vR (some x0)), (1, vI x1), (2, vI (x2 + 1))] [] Q) : k_X (jX8_restore G l h0) h 62 [(0, vR (some x0)), (1, vI x1), (2, vI x2)] [] Q := by
  obtain ⟨h', r, K, q⟩ := K
  exact ⟨h', r, j_iinc (v := x2 + 1) dX8_restore_62 rfl (by decide) rfl rfl <| j_goto (tgt := 2) dX8_restore_65 (by decide) <| K, q⟩
theorem bX8_restore_68 {h0 h : k_H} {Q : k_H → k_R → Prop} (q : Q h (.inl none)) : k_X (jX8_restore G l h0) h 68 [] [] Q := by
  exact ⟨_, _, j_vret dX8_restore_68 rfl, q⟩
theorem eX9_init {G : k_G} {l : Launch} (hfl : l.flags = flags0) {h : k_H} {Q : k_H → k_R → Prop} {x0 : Nat} (K : k_X (jX9_init G l h) h 0 [(0, vR (some x0))] [] Q) : k_ct (tX9_init G l) [vR (some x0)] h Q := by
  obtain ⟨h', r, K, q⟩ := K
  exact ⟨h', r, k_CtOf (by decide +kernel) (Nat.le_of_ble_eq_true rfl) K hfl, q⟩

theorem bX9_init_0 {h0 h : k_H} {Q : k_H → k_R → Prop} {x0 : Nat} (K : k_X (jX9_init G l h0) (k_nw h 3 (k_o 2 [vI 0, vR none, vI 0])) 8 [(0, vR (some x0))] [vR (some h.2.1), vR (some x0)] Q) : k_X (jX9_init G l h0) h 0 [(0, vR (some x0))] [] Q := by
  obtain ⟨h', r, K, q⟩ := K
  exact ⟨h', r, j_aload_n dX9_init_0 rfl rfl <| j_objInit dX9_init_1 ko_X9_3 ko_inst ko_code (by decide) (Nat.le_of_ble_eq_true rfl) <| j_aload_n dX9_init_4 rfl rfl <| j_new dX9_init_5 kn_X9_9 <| K, q⟩
theorem bX9_init_8 {h0 h : k_H} {Q : k_H → k_R → Prop} {x0 s1 : Nat} {s0 : Option Nat} {P : k_H → Prop} (c : k_ctv (tAL_init G l) [vR (some s1)] h P) (K : ∀ h1, P h1 → k_X (jX9_init G l h0) h1 12 [(0, vR (some x0))] [vR (some s1), vR s0] Q) : k_X (jX9_init G l h0) h 8 [(0, vR (some x0))] [vR (some s1), vR s0] Q := by
  obtain ⟨h1, c, p⟩ := c
  obtain ⟨h', r, K, q⟩ := K h1 p
  exact ⟨h', r, j_dup dX9_init_8 rfl <| j_callI (v := none) (as := []) dX9_init_9 kc_X9_11 rfl rfl (by decide) (Nat.le_of_ble_eq_true rfl) c K, q⟩
theorem bX9_init_12 {h0 h : k_H} {Q : k_H → k_R → Prop} {x0 s0 : Nat} {s1 : Option Nat} {fs1 : List k_V} (o1 : h.1 s0 = some (k_o 12 fs1)) (z1 : fs1.length = 8) (K : k_X (jX9_init G l h0) (k_up h s0 (k_o 12 (fs1.set 0 (vR s1)))) 15 [(0, vR (some x0))] [] Q) : k_X (jX9_init G l h0) h 12 [(0, vR (some x0))] [vR s1, vR (some s0)] Q := by
  obtain ⟨h', r, K, q⟩ := K
  exact ⟨h', r, j_putF dX9_init_12 rfl kp_X9_12 o1 (k_ln z1 (by decide)) (k_fit_r _ _) rfl <| K, q⟩
theorem bX9_init_15 {h0 h : k_H} {Q : k_H → k_R → Prop} {x0 : Nat} (K : k_X (jX9_init G l h0) (k_nw h 3 (k_o 2 [vI 0, vR none, vI 0])) 19 [(0, vR (some x0))] [vR (some h.2.1), vR (some x0)] Q) : k_X (jX9_init G l h0) h 15 [(0, vR (some x0))] [] Q := by
  obtain ⟨h', r, K, q⟩ := K
  exact ⟨h', r, j_aload_n dX9_init_15 rfl rfl <| j_new dX9_init_16 kn_X9_9 <| K, q⟩
theorem bX9_init_19 {h0 h : k_H} {Q : k_H → k_R → Prop} {x0 s1 : Nat} {s0 : Option Nat} {P : k_H → Prop} (c : k_ctv (tAL_init G l) [vR (some s1)] h P) (K : ∀ h1, P h1 → k_X (jX9_init G l h0) h1 23 [(0, vR (some x0))] [vR (some s1), vR s0] Q) : k_X (jX9_init G l h0) h 19 [(0, vR (some x0))] [vR (some s1), vR s0] Q := by
  obtain ⟨h1, c, p⟩ := c
  obtain ⟨h', r, K, q⟩ := K h1 p
  exact ⟨h', r, j_dup dX9_init_19 rfl <| j_callI (v := none) (as := []) dX9_init_20 kc_X9_11 rfl rfl (by decide) (Nat.le_of_ble_eq_true rfl) c K, q⟩
theorem bX9_init_23 {h0 h : k_H} {Q : k_H → k_R → Prop} {x0 s0 : Nat} {s1 : Option Nat} {fs1 : List k_V} (o1 : h.1 s0 = some (k_o 12 fs1)) (z1 : fs1.length = 8) (K : k_X (jX9_init G l h0) (k_up h s0 (k_o 12 (fs1.set 1 (vR s1)))) 26 [(0, vR (some x0))] [] Q) : k_X (jX9_init G l h0) h 23 [(0, vR (some x0))] [vR s1, vR (some s0)] Q := by
  obtain ⟨h', r, K, q⟩ := K
  exact ⟨h', r, j_putF dX9_init_23 rfl kp_X9_18 o1 (k_ln z1 (by decide)) (k_fit_r _ _) rfl <| K, q⟩
theorem bX9_init_26 {h0 h : k_H} {Q : k_H → k_R → Prop} {x0 : Nat} {fs1 : List k_V} (o1 : h.1 x0 = some (k_o 12 fs1)) (z1 : fs1.length = 8) (K : k_X (jX9_init G l h0) (k_up h x0 (k_o 12 (fs1.set 2 (vI 0)))) 31 [(0, vR (some x0))] [] Q) : k_X (jX9_init G l h0) h 26 [(0, vR (some x0))] [] Q := by
  obtain ⟨h', r, K, q⟩ := K
  exact ⟨h', r, j_aload_n dX9_init_26 rfl rfl <| j_iconst (v := 0) dX9_init_27 (by decide) <| j_putf dX9_init_28 kp_X9_21 o1 (k_ln z1 (by decide)) (k_fit_z (by decide)) rfl <| K, q⟩
theorem bX9_init_31 {h0 h : k_H} {Q : k_H → k_R → Prop} {x0 : Nat} {fs1 : List k_V} (o1 : h.1 x0 = some (k_o 12 fs1)) (z1 : fs1.length = 8) (K : k_X (jX9_init G l h0) (k_up h x0 (k_o 12 (fs1.set 3 (vI 0)))) 36 [(0, vR (some x0))] [] Q) : k_X (jX9_init G l h0) h 31 [(0, vR (some x0))] [] Q := by
  obtain ⟨h', r, K, q⟩ := K
  exact ⟨h', r, j_aload_n dX9_init_31 rfl rfl <| j_iconst (v := 0) dX9_init_32 (by decide) <| j_putf dX9_init_33 kp_X9_25 o1 (k_ln z1 (by decide)) (k_fit_z (by decide)) rfl <| K, q⟩
theorem bX9_init_36 {h0 h : k_H} {Q : k_H → k_R → Prop} {x0 : Nat} {fs1 : List k_V} (o1 : h.1 x0 = some (k_o 12 fs1)) (z1 : fs1.length = 8) (K : k_X (jX9_init G l h0) (k_up h x0 (k_o 12 (fs1.set 4 (vI 0)))) 41 [(0, vR (some x0))] [] Q) : k_X (jX9_init G l h0) h 36 [(0, vR (some x0))] [] Q := by
  obtain ⟨h', r, K, q⟩ := K
  exact ⟨h', r, j_aload_n dX9_init_36 rfl rfl <| j_iconst (v := 0) dX9_init_37 (by decide) <| j_putf dX9_init_38 kp_X9_28 o1 (k_ln z1 (by decide)) (k_fit_i _) rfl <| K, q⟩
theorem bX9_init_41 {h0 h : k_H} {Q : k_H → k_R → Prop} {x0 : Nat} {fs1 : List k_V} (o1 : h.1 x0 = some (k_o 12 fs1)) (z1 : fs1.length = 8) (K : k_X (jX9_init G l h0) (k_up h x0 (k_o 12 (fs1.set 5 (vI 0)))) 46 [(0, vR (some x0))] [] Q) : k_X (jX9_init G l h0) h 41 [(0, vR (some x0))] [] Q := by
  obtain ⟨h', r, K, q⟩ := K
  exact ⟨h', r, j_aload_n dX9_init_41 rfl rfl <| j_iconst (v := 0) dX9_init_42 (by decide) <| j_putf dX9_init_43 kp_X9_32 o1 (k_ln z1 (by decide)) (k_fit_i _) rfl <| K, q⟩
theorem bX9_init_46 {h0 h : k_H} {Q : k_H → k_R → Prop} {x0 : Nat} {fs1 : List k_V} (o1 : h.1 x0 = some (k_o 12 fs1)) (z1 : fs1.length = 8) (K : k_X (jX9_init G l h0) (k_up h x0 (k_o 12 (fs1.set 6 (vI (-2147483648))))) 52 [(0, vR (some x0))] [] Q) : k_X (jX9_init G l h0) h 46 [(0, vR (some x0))] [] Q := by
  obtain ⟨h', r, K, q⟩ := K
  exact ⟨h', r, j_aload_n dX9_init_46 rfl rfl <| j_ldc (v := (-2147483648)) dX9_init_47 ki_X9_35 <| j_putf dX9_init_49 kp_X9_36 o1 (k_ln z1 (by decide)) (k_fit_i _) rfl <| K, q⟩
theorem bX9_init_52 {h0 h : k_H} {Q : k_H → k_R → Prop} {x0 : Nat} {fs1 : List k_V} (o1 : h.1 x0 = some (k_o 12 fs1)) (z1 : fs1.length = 8) (K : k_X (jX9_init G l h0) (k_up h x0 (k_o 12 (fs1.set 7 (vI 0)))) 57 [] [] Q) : k_X (jX9_init G l h0) h 52 [(0, vR (some x0))] [] Q := by
  obtain ⟨h', r, K, q⟩ := K
  exact ⟨h', r, j_aload_n dX9_init_52 rfl rfl <| j_iconst (v := 0) dX9_init_53 (by decide) <| j_putf dX9_init_54 kp_X9_39 o1 (k_ln z1 (by decide)) (k_fit_i _) rfl <| (j_pick [] rfl K), q⟩
theorem bX9_init_57 {h0 h : k_H} {Q : k_H → k_R → Prop} (q : Q h (.inl none)) : k_X (jX9_init G l h0) h 57 [] [] Q := by
  exact ⟨_, _, j_vret dX9_init_57 rfl, q⟩
theorem eX9_start {G : k_G} {l : Launch} (hfl : l.flags = flags0) {h : k_H} {Q : k_H → k_R → Prop} {x0 : Nat} {x1 : Int32} {x2 : Int32} {x3 : Int32} (K : k_X (jX9_start G l h) h 0 [(0, vR (some x0)), (1, vI x1), (2, vI x2), (3, vI x3)] [] Q) : k_ct (tX9_start G l) [vR (some x0), vI x1, vI x2, vI x3] h Q := by
  obtain ⟨h', r, K, q⟩ := K
  exact ⟨h', r, k_CtOf (by decide +kernel) (Nat.le_of_ble_eq_true rfl) K hfl, q⟩

theorem bX9_start_0 {h0 h : k_H} {Q : k_H → k_R → Prop} {x0 f1_0 : Nat} {x1 x2 x3 : Int32} {fs1 : List k_V} (o1 : h.1 x0 = some (k_o 12 fs1)) (g1_0 : fs1[0]? = some (vR (some f1_0))) (w : k_is h f1_0 2) {P : k_H → Prop} (c : k_ctv (tAL_clear G l) [vR (some f1_0)] h P) (K : ∀ h1, P h1 → k_X (jX9_start G l h0) h1 7 [(0, vR (some x0)), (1, vI x1), (2, vI x2), (3, vI x3)] [] Q) : k_X (jX9_start G l h0) h 0 [(0, vR (some x0)), (1, vI x1), (2, vI x2), (3, vI x3)] [] Q := by
  obtain ⟨h1, c, p⟩ := c
  obtain ⟨h', r, K, q⟩ := K h1 p
  exact ⟨h', r, j_aload_n dX9_start_0 rfl rfl <| j_getf dX9_start_1 kf_X9_12 o1 g1_0 <| j_callV (v := none) (as := []) dX9_start_4 kc_X9_42 rfl rfl w (by decide) (Nat.le_of_ble_eq_true rfl) c K, q⟩
theorem bX9_start_7 {h0 h : k_H} {Q : k_H → k_R → Prop} {x0 f1_1 : Nat} {x1 x2 x3 : Int32} {fs1 : List k_V} (o1 : h.1 x0 = some (k_o 12 fs1)) (g1_1 : fs1[1]? = some (vR (some f1_1))) (w : k_is h f1_1 2) {P : k_H → Prop} (c : k_ctv (tAL_clear G l) [vR (some f1_1)] h P) (K : ∀ h1, P h1 → k_X (jX9_start G l h0) h1 14 [(0, vR (some x0)), (1, vI x1), (2, vI x2), (3, vI x3)] [] Q) : k_X (jX9_start G l h0) h 7 [(0, vR (some x0)), (1, vI x1), (2, vI x2), (3, vI x3)] [] Q := by
  obtain ⟨h1, c, p⟩ := c
  obtain ⟨h', r, K, q⟩ := K h1 p
  exact ⟨h', r, j_aload_n dX9_start_7 rfl rfl <| j_getf dX9_start_8 kf_X9_18 o1 g1_1 <| j_callV (v := none) (as := []) dX9_start_11 kc_X9_42 rfl rfl w (by decide) (Nat.le_of_ble_eq_true rfl) c K, q⟩
theorem bX9_start_14 {h0 h : k_H} {Q : k_H → k_R → Prop} {x0 : Nat} {x1 x2 x3 : Int32} {fs1 : List k_V} (o1 : h.1 x0 = some (k_o 12 fs1)) (z1 : fs1.length = 8) (K : k_X (jX9_start G l h0) (k_up h x0 (k_o 12 (fs1.set 2 (vI 1)))) 19 [(0, vR (some x0)), (1, vI x1), (2, vI x2), (3, vI x3)] [] Q) : k_X (jX9_start G l h0) h 14 [(0, vR (some x0)), (1, vI x1), (2, vI x2), (3, vI x3)] [] Q := by
  obtain ⟨h', r, K, q⟩ := K
  exact ⟨h', r, j_aload_n dX9_start_14 rfl rfl <| j_iconst (v := 1) dX9_start_15 (by decide) <| j_putf dX9_start_16 kp_X9_21 o1 (k_ln z1 (by decide)) (k_fit_z (by decide)) rfl <| K, q⟩
theorem bX9_start_19 {h0 h : k_H} {Q : k_H → k_R → Prop} {x0 : Nat} {x1 x2 x3 : Int32} {fs1 : List k_V} (o1 : h.1 x0 = some (k_o 12 fs1)) (y2 : k_bl x3) (z1 : fs1.length = 8) (K : k_X (jX9_start G l h0) (k_up h x0 (k_o 12 (fs1.set 3 (vI x3)))) 24 [(0, vR (some x0)), (1, vI x1), (2, vI x2)] [] Q) : k_X (jX9_start G l h0) h 19 [(0, vR (some x0)), (1, vI x1), (2, vI x2), (3, vI x3)] [] Q := by
  obtain ⟨h', r, K, q⟩ := K
  exact ⟨h', r, j_aload_n dX9_start_19 rfl rfl <| j_iload_n dX9_start_20 rfl rfl <| j_putf dX9_start_21 kp_X9_25 o1 (k_ln z1 (by decide)) (k_fit_z y2) rfl <| (j_pick [0, 1, 2] rfl K), q⟩
theorem bX9_start_24 {h0 h : k_H} {Q : k_H → k_R → Prop} {x0 : Nat} {x1 x2 : Int32} {fs1 : List k_V} (o1 : h.1 x0 = some (k_o 12 fs1)) (z1 : fs1.length = 8) (K : k_X (jX9_start G l h0) (k_up h x0 (k_o 12 (fs1.set 4 (vI x1)))) 29 [(0, vR (some x0)), (2, vI x2)] [] Q) : k_X (jX9_start G l h0) h 24 [(0, vR (some x0)), (1, vI x1), (2, vI x2)] [] Q := by
  obtain ⟨h', r, K, q⟩ := K
  exact ⟨h', r, j_aload_n dX9_start_24 rfl rfl <| j_iload_n dX9_start_25 rfl rfl <| j_putf dX9_start_26 kp_X9_28 o1 (k_ln z1 (by decide)) (k_fit_i _) rfl <| (j_pick [0, 2] rfl K), q⟩
theorem bX9_start_29 {h0 h : k_H} {Q : k_H → k_R → Prop} {x0 : Nat} {x2 : Int32} {fs1 : List k_V} (o1 : h.1 x0 = some (k_o 12 fs1)) (z1 : fs1.length = 8) (K : k_X (jX9_start G l h0) (k_up h x0 (k_o 12 (fs1.set 5 (vI x2)))) 34 [(0, vR (some x0))] [] Q) : k_X (jX9_start G l h0) h 29 [(0, vR (some x0)), (2, vI x2)] [] Q := by
  obtain ⟨h', r, K, q⟩ := K
  exact ⟨h', r, j_aload_n dX9_start_29 rfl rfl <| j_iload_n dX9_start_30 rfl rfl <| j_putf dX9_start_31 kp_X9_32 o1 (k_ln z1 (by decide)) (k_fit_i _) rfl <| (j_pick [0] rfl K), q⟩
theorem bX9_start_34 {h0 h : k_H} {Q : k_H → k_R → Prop} {x0 : Nat} {fs1 : List k_V} (o1 : h.1 x0 = some (k_o 12 fs1)) (z1 : fs1.length = 8) (K : k_X (jX9_start G l h0) (k_up h x0 (k_o 12 (fs1.set 6 (vI (-2147483648))))) 40 [(0, vR (some x0))] [] Q) : k_X (jX9_start G l h0) h 34 [(0, vR (some x0))] [] Q := by
  obtain ⟨h', r, K, q⟩ := K
  exact ⟨h', r, j_aload_n dX9_start_34 rfl rfl <| j_ldc (v := (-2147483648)) dX9_start_35 ki_X9_35 <| j_putf dX9_start_37 kp_X9_36 o1 (k_ln z1 (by decide)) (k_fit_i _) rfl <| K, q⟩
theorem bX9_start_40 {h0 h : k_H} {Q : k_H → k_R → Prop} {x0 : Nat} {fs1 : List k_V} (o1 : h.1 x0 = some (k_o 12 fs1)) (z1 : fs1.length = 8) (K : k_X (jX9_start G l h0) (k_up h x0 (k_o 12 (fs1.set 7 (vI 0)))) 45 [] [] Q) : k_X (jX9_start G l h0) h 40 [(0, vR (some x0))] [] Q := by
  obtain ⟨h', r, K, q⟩ := K
  exact ⟨h', r, j_aload_n dX9_start_40 rfl rfl <| j_iconst (v := 0) dX9_start_41 (by decide) <| j_putf dX9_start_42 kp_X9_39 o1 (k_ln z1 (by decide)) (k_fit_i _) rfl <| (j_pick [] rfl K), q⟩
theorem bX9_start_45 {h0 h : k_H} {Q : k_H → k_R → Prop} (q : Q h (.inl none)) : k_X (jX9_start G l h0) h 45 [] [] Q := by
  exact ⟨_, _, j_vret dX9_start_45 rfl, q⟩
theorem eX9_keepKey {G : k_G} {l : Launch} (hfl : l.flags = flags0) {h : k_H} {Q : k_H → k_R → Prop} {x0 : Nat} {x1 : Int32} {x2 : Int64} {x4 : Int32} (K : k_X (jX9_keepKey G l h) h 0 [(0, vR (some x0)), (1, vI x1), (2, vJ x2), (4, vI x4)] [] Q) : k_ct (tX9_keepKey G l) [vR (some x0), vI x1, vJ x2, vI x4] h Q := by
  obtain ⟨h', r, K, q⟩ := K
  exact ⟨h', r, k_CtOf (by decide +kernel) (Nat.le_of_ble_eq_true rfl) K hfl, q⟩

theorem bX9_keepKey_0 {h0 h : k_H} {Q : k_H → k_R → Prop} {x0 : Nat} {x1 x4 : Int32} {x2 : Int64} {f1_0 : Option Nat} {fs1 : List k_V} (o1 : h.1 x0 = some (k_o 12 fs1)) (g1_0 : fs1[0]? = some (vR f1_0)) (K : k_X (jX9_keepKey G l h0) (k_nw h 5 (k_o 4 [vI 0, vJ 0, vJ 0, vI 0, vI 0])) 7 [(0, vR (some x0)), (1, vI x1), (2, vJ x2), (4, vI x4)] [vR (some h.2.1), vR f1_0] Q) : k_X (jX9_keepKey G l h0) h 0 [(0, vR (some x0)), (1, vI x1), (2, vJ x2), (4, vI x4)] [] Q := by
  obtain ⟨h', r, K, q⟩ := K
  exact ⟨h', r, j_aload_n dX9_keepKey_0 rfl rfl <| j_getf dX9_keepKey_1 kf_X9_12 o1 g1_0 <| j_new dX9_keepKey_4 kn_X9_45 <| K, q⟩
theorem bX9_keepKey_7 {h0 h : k_H} {Q : k_H → k_R → Prop} {x0 s1 : Nat} {x1 x4 : Int32} {x2 : Int64} {s0 : Option Nat} {P : k_H → Prop} (c : k_ctv (tX1_init G l) [vR (some s1), vI x1, vJ x2, vJ (x2 + 1), vI x4, vI 0] h P) (K : ∀ h1, P h1 → k_X (jX9_keepKey G l h0) h1 19 [(0, vR (some x0))] [vR (some s1), vR s0] Q) : k_X (jX9_keepKey G l h0) h 7 [(0, vR (some x0)), (1, vI x1), (2, vJ x2), (4, vI x4)] [vR (some s1), vR s0] Q := by
  obtain ⟨h1, c, p⟩ := c
  obtain ⟨h', r, K, q⟩ := K h1 p
  exact ⟨h', r, j_dup dX9_keepKey_7 rfl <| j_iload_n dX9_keepKey_8 rfl rfl <| j_lload_n dX9_keepKey_9 rfl rfl <| j_lload_n dX9_keepKey_10 rfl rfl <| j_lconst (v := 1) dX9_keepKey_11 (by decide) <| j_ladd dX9_keepKey_12 <| j_iload dX9_keepKey_13 rfl <| j_iconst (v := 0) dX9_keepKey_15 (by decide) <| j_callI (v := none) (as := [vI x1, vJ x2, vJ (x2 + 1), vI x4, vI 0]) dX9_keepKey_16 kc_X9_47 rfl rfl (by decide) (Nat.le_of_ble_eq_true rfl) c (j_pick [0] rfl K), q⟩
theorem bX9_keepKey_19 {h0 h : k_H} {Q : k_H → k_R → Prop} {x0 s0 : Nat} {s1 : Option Nat} (w : k_is h s0 2) {P : k_H → Int32 → Prop} (c : k_cti (tAL_add G l) [vR (some s0), vR s1] h P) (K : ∀ h1 v, P h1 v → k_X (jX9_keepKey G l h0) h1 22 [(0, vR (some x0))] [vI v] Q) : k_X (jX9_keepKey G l h0) h 19 [(0, vR (some x0))] [vR s1, vR (some s0)] Q := by
  obtain ⟨h1, v, c, p⟩ := c
  obtain ⟨h', r, K, q⟩ := K h1 v p
  exact ⟨h', r, j_callV (v := some (vI v)) (as := [vR s1]) dX9_keepKey_19 kc_X9_50 rfl rfl w (by decide) (Nat.le_of_ble_eq_true rfl) c K, q⟩
theorem bX9_keepKey_22 {h0 h : k_H} {Q : k_H → k_R → Prop} {x0 : Nat} {s0 f1_7 : Int32} {fs1 : List k_V} (o1 : h.1 x0 = some (k_o 12 fs1)) (g1_7 : fs1[7]? = some (vI f1_7)) (z1 : fs1.length = 8) (K : k_X (jX9_keepKey G l h0) (k_up h x0 (k_o 12 (fs1.set 7 (vI (f1_7 + 1))))) 33 [] [] Q) : k_X (jX9_keepKey G l h0) h 22 [(0, vR (some x0))] [vI s0] Q := by
  obtain ⟨h', r, K, q⟩ := K
  exact ⟨h', r, j_pop dX9_keepKey_22 rfl <| j_aload_n dX9_keepKey_23 rfl rfl <| j_dup dX9_keepKey_24 rfl <| j_getf dX9_keepKey_25 kf_X9_39 o1 g1_7 <| j_iconst (v := 1) dX9_keepKey_28 (by decide) <| j_iadd dX9_keepKey_29 <| j_putf dX9_keepKey_30 kp_X9_39 o1 (k_ln z1 (by decide)) (k_fit_i _) rfl <| (j_pick [] rfl K), q⟩
theorem bX9_keepKey_33 {h0 h : k_H} {Q : k_H → k_R → Prop} (q : Q h (.inl none)) : k_X (jX9_keepKey G l h0) h 33 [] [] Q := by
  exact ⟨_, _, j_vret dX9_keepKey_33 rfl, q⟩
theorem eX9_keepRange {G : k_G} {l : Launch} (hfl : l.flags = flags0) {h : k_H} {Q : k_H → k_R → Prop} {x0 : Nat} {x1 : Int64} {x3 : Int64} (K : k_X (jX9_keepRange G l h) h 0 [(0, vR (some x0)), (1, vJ x1), (3, vJ x3)] [] Q) : k_ct (tX9_keepRange G l) [vR (some x0), vJ x1, vJ x3] h Q := by
  obtain ⟨h', r, K, q⟩ := K
  exact ⟨h', r, k_CtOf (by decide +kernel) (Nat.le_of_ble_eq_true rfl) K hfl, q⟩

theorem bX9_keepRange_0 {h0 h : k_H} {Q : k_H → k_R → Prop} {x0 : Nat} {x1 x3 : Int64} {f1_0 : Option Nat} {fs1 : List k_V} (o1 : h.1 x0 = some (k_o 12 fs1)) (g1_0 : fs1[0]? = some (vR f1_0)) (K : k_X (jX9_keepRange G l h0) (k_nw h 5 (k_o 4 [vI 0, vJ 0, vJ 0, vI 0, vI 0])) 7 [(0, vR (some x0)), (1, vJ x1), (3, vJ x3)] [vR (some h.2.1), vR f1_0] Q) : k_X (jX9_keepRange G l h0) h 0 [(0, vR (some x0)), (1, vJ x1), (3, vJ x3)] [] Q := by
  obtain ⟨h', r, K, q⟩ := K
  exact ⟨h', r, j_aload_n dX9_keepRange_0 rfl rfl <| j_getf dX9_keepRange_1 kf_X9_12 o1 g1_0 <| j_new dX9_keepRange_4 kn_X9_45 <| K, q⟩
theorem bX9_keepRange_7 {h0 h : k_H} {Q : k_H → k_R → Prop} {x0 s1 : Nat} {x1 x3 : Int64} {s0 : Option Nat} {P : k_H → Prop} (c : k_ctv (tX1_init G l) [vR (some s1), vI 1, vJ x1, vJ x3, vI 0, vI 0] h P) (K : ∀ h1, P h1 → k_X (jX9_keepRange G l h0) h1 16 [(0, vR (some x0))] [vR (some s1), vR s0] Q) : k_X (jX9_keepRange G l h0) h 7 [(0, vR (some x0)), (1, vJ x1), (3, vJ x3)] [vR (some s1), vR s0] Q := by
  obtain ⟨h1, c, p⟩ := c
  obtain ⟨h', r, K, q⟩ := K h1 p
  exact ⟨h', r, j_dup dX9_keepRange_7 rfl <| j_iconst (v := 1) dX9_keepRange_8 (by decide) <| j_lload_n dX9_keepRange_9 rfl rfl <| j_lload_n dX9_keepRange_10 rfl rfl <| j_iconst (v := 0) dX9_keepRange_11 (by decide) <| j_iconst (v := 0) dX9_keepRange_12 (by decide) <| j_callI (v := none) (as := [vI 1, vJ x1, vJ x3, vI 0, vI 0]) dX9_keepRange_13 kc_X9_47 rfl rfl (by decide) (Nat.le_of_ble_eq_true rfl) c (j_pick [0] rfl K), q⟩
theorem bX9_keepRange_16 {h0 h : k_H} {Q : k_H → k_R → Prop} {x0 s0 : Nat} {s1 : Option Nat} (w : k_is h s0 2) {P : k_H → Int32 → Prop} (c : k_cti (tAL_add G l) [vR (some s0), vR s1] h P) (K : ∀ h1 v, P h1 v → k_X (jX9_keepRange G l h0) h1 19 [(0, vR (some x0))] [vI v] Q) : k_X (jX9_keepRange G l h0) h 16 [(0, vR (some x0))] [vR s1, vR (some s0)] Q := by
  obtain ⟨h1, v, c, p⟩ := c
  obtain ⟨h', r, K, q⟩ := K h1 v p
  exact ⟨h', r, j_callV (v := some (vI v)) (as := [vR s1]) dX9_keepRange_16 kc_X9_50 rfl rfl w (by decide) (Nat.le_of_ble_eq_true rfl) c K, q⟩
theorem bX9_keepRange_19 {h0 h : k_H} {Q : k_H → k_R → Prop} {x0 : Nat} {s0 f1_7 : Int32} {fs1 : List k_V} (o1 : h.1 x0 = some (k_o 12 fs1)) (g1_7 : fs1[7]? = some (vI f1_7)) (z1 : fs1.length = 8) (K : k_X (jX9_keepRange G l h0) (k_up h x0 (k_o 12 (fs1.set 7 (vI (f1_7 + 1))))) 30 [] [] Q) : k_X (jX9_keepRange G l h0) h 19 [(0, vR (some x0))] [vI s0] Q := by
  obtain ⟨h', r, K, q⟩ := K
  exact ⟨h', r, j_pop dX9_keepRange_19 rfl <| j_aload_n dX9_keepRange_20 rfl rfl <| j_dup dX9_keepRange_21 rfl <| j_getf dX9_keepRange_22 kf_X9_39 o1 g1_7 <| j_iconst (v := 1) dX9_keepRange_25 (by decide) <| j_iadd dX9_keepRange_26 <| j_putf dX9_keepRange_27 kp_X9_39 o1 (k_ln z1 (by decide)) (k_fit_i _) rfl <| (j_pick [] rfl K), q⟩
theorem bX9_keepRange_30 {h0 h : k_H} {Q : k_H → k_R → Prop} (q : Q h (.inl none)) : k_X (jX9_keepRange G l h0) h 30 [] [] Q := by
  exact ⟨_, _, j_vret dX9_keepRange_30 rfl, q⟩
theorem eX9_keepStamped {G : k_G} {l : Launch} (hfl : l.flags = flags0) {h : k_H} {Q : k_H → k_R → Prop} {x0 : Nat} {x1 : Int64} {x3 : Int32} {x4 : Int32} (K : k_X (jX9_keepStamped G l h) h 0 [(0, vR (some x0)), (1, vJ x1), (3, vI x3), (4, vI x4)] [] Q) : k_ct (tX9_keepStamped G l) [vR (some x0), vJ x1, vI x3, vI x4] h Q := by
  obtain ⟨h', r, K, q⟩ := K
  exact ⟨h', r, k_CtOf (by decide +kernel) (Nat.le_of_ble_eq_true rfl) K hfl, q⟩

theorem bX9_keepStamped_0 {h0 h : k_H} {Q : k_H → k_R → Prop} {x0 : Nat} {x1 : Int64} {x3 x4 : Int32} {f1_0 : Option Nat} {fs1 : List k_V} (o1 : h.1 x0 = some (k_o 12 fs1)) (g1_0 : fs1[0]? = some (vR f1_0)) (K : k_X (jX9_keepStamped G l h0) (k_nw h 5 (k_o 4 [vI 0, vJ 0, vJ 0, vI 0, vI 0])) 7 [(0, vR (some x0)), (1, vJ x1), (3, vI x3), (4, vI x4)] [vR (some h.2.1), vR f1_0] Q) : k_X (jX9_keepStamped G l h0) h 0 [(0, vR (some x0)), (1, vJ x1), (3, vI x3), (4, vI x4)] [] Q := by
  obtain ⟨h', r, K, q⟩ := K
  exact ⟨h', r, j_aload_n dX9_keepStamped_0 rfl rfl <| j_getf dX9_keepStamped_1 kf_X9_12 o1 g1_0 <| j_new dX9_keepStamped_4 kn_X9_45 <| K, q⟩
theorem bX9_keepStamped_7 {h0 h : k_H} {Q : k_H → k_R → Prop} {x0 s1 : Nat} {x1 : Int64} {x3 x4 : Int32} {s0 : Option Nat} {P : k_H → Prop} (c : k_ctv (tX1_init G l) [vR (some s1), vI 6, vJ x1, vJ (x1 + 1), vI x4, vI x3] h P) (K : ∀ h1, P h1 → k_X (jX9_keepStamped G l h0) h1 20 [(0, vR (some x0))] [vR (some s1), vR s0] Q) : k_X (jX9_keepStamped G l h0) h 7 [(0, vR (some x0)), (1, vJ x1), (3, vI x3), (4, vI x4)] [vR (some s1), vR s0] Q := by
  obtain ⟨h1, c, p⟩ := c
  obtain ⟨h', r, K, q⟩ := K h1 p
  exact ⟨h', r, j_dup dX9_keepStamped_7 rfl <| j_bipush (v := 6) dX9_keepStamped_8 (by decide) <| j_lload_n dX9_keepStamped_10 rfl rfl <| j_lload_n dX9_keepStamped_11 rfl rfl <| j_lconst (v := 1) dX9_keepStamped_12 (by decide) <| j_ladd dX9_keepStamped_13 <| j_iload dX9_keepStamped_14 rfl <| j_iload_n dX9_keepStamped_16 rfl rfl <| j_callI (v := none) (as := [vI 6, vJ x1, vJ (x1 + 1), vI x4, vI x3]) dX9_keepStamped_17 kc_X9_47 rfl rfl (by decide) (Nat.le_of_ble_eq_true rfl) c (j_pick [0] rfl K), q⟩
theorem bX9_keepStamped_20 {h0 h : k_H} {Q : k_H → k_R → Prop} {x0 s0 : Nat} {s1 : Option Nat} (w : k_is h s0 2) {P : k_H → Int32 → Prop} (c : k_cti (tAL_add G l) [vR (some s0), vR s1] h P) (K : ∀ h1 v, P h1 v → k_X (jX9_keepStamped G l h0) h1 23 [(0, vR (some x0))] [vI v] Q) : k_X (jX9_keepStamped G l h0) h 20 [(0, vR (some x0))] [vR s1, vR (some s0)] Q := by
  obtain ⟨h1, v, c, p⟩ := c
  obtain ⟨h', r, K, q⟩ := K h1 v p
  exact ⟨h', r, j_callV (v := some (vI v)) (as := [vR s1]) dX9_keepStamped_20 kc_X9_50 rfl rfl w (by decide) (Nat.le_of_ble_eq_true rfl) c K, q⟩
theorem bX9_keepStamped_23 {h0 h : k_H} {Q : k_H → k_R → Prop} {x0 : Nat} {s0 f1_7 : Int32} {fs1 : List k_V} (o1 : h.1 x0 = some (k_o 12 fs1)) (g1_7 : fs1[7]? = some (vI f1_7)) (z1 : fs1.length = 8) (K : k_X (jX9_keepStamped G l h0) (k_up h x0 (k_o 12 (fs1.set 7 (vI (f1_7 + 1))))) 34 [] [] Q) : k_X (jX9_keepStamped G l h0) h 23 [(0, vR (some x0))] [vI s0] Q := by
  obtain ⟨h', r, K, q⟩ := K
  exact ⟨h', r, j_pop dX9_keepStamped_23 rfl <| j_aload_n dX9_keepStamped_24 rfl rfl <| j_dup dX9_keepStamped_25 rfl <| j_getf dX9_keepStamped_26 kf_X9_39 o1 g1_7 <| j_iconst (v := 1) dX9_keepStamped_29 (by decide) <| j_iadd dX9_keepStamped_30 <| j_putf dX9_keepStamped_31 kp_X9_39 o1 (k_ln z1 (by decide)) (k_fit_i _) rfl <| (j_pick [] rfl K), q⟩
theorem bX9_keepStamped_34 {h0 h : k_H} {Q : k_H → k_R → Prop} (q : Q h (.inl none)) : k_X (jX9_keepStamped G l h0) h 34 [] [] Q := by
  exact ⟨_, _, j_vret dX9_keepStamped_34 rfl, q⟩
theorem eX9_forgetStamped {G : k_G} {l : Launch} (hfl : l.flags = flags0) {h : k_H} {Q : k_H → k_R → Prop} {x0 : Nat} {x1 : Int64} (K : k_X (jX9_forgetStamped G l h) h 0 [(0, vR (some x0)), (1, vJ x1)] [] Q) : k_ct (tX9_forgetStamped G l) [vR (some x0), vJ x1] h Q := by
  obtain ⟨h', r, K, q⟩ := K
  exact ⟨h', r, k_CtOf (by decide +kernel) (Nat.le_of_ble_eq_true rfl) K hfl, q⟩

theorem bX9_forgetStamped_0 {h0 h : k_H} {Q : k_H → k_R → Prop} {x0 : Nat} {x1 : Int64} (K : k_X (jX9_forgetStamped G l h0) h 2 [(0, vR (some x0)), (1, vJ x1), (3, vI 0)] [] Q) : k_X (jX9_forgetStamped G l h0) h 0 [(0, vR (some x0)), (1, vJ x1)] [] Q := by
  obtain ⟨h', r, K, q⟩ := K
  exact ⟨h', r, j_iconst (v := 0) dX9_forgetStamped_0 (by decide) <| j_istore_n dX9_forgetStamped_1 rfl (by decide) rfl <| K, q⟩
theorem bX9_forgetStamped_2 {h0 h : k_H} {Q : k_H → k_R → Prop} {x0 f1_0 : Nat} {x1 : Int64} {x3 : Int32} {fs1 : List k_V} (o1 : h.1 x0 = some (k_o 12 fs1)) (g1_0 : fs1[0]? = some (vR (some f1_0))) (w : k_is h f1_0 2) {P : k_H → Int32 → Prop} (c : k_cti (tAL_size G l) [vR (some f1_0)] h P) (K : ∀ h1 v, P h1 v → k_X (jX9_forgetStamped G l h0) h1 10 [(0, vR (some x0)), (1, vJ x1), (3, vI x3)] [vI v, vI x3] Q) : k_X (jX9_forgetStamped G l h0) h 2 [(0, vR (some x0)), (1, vJ x1), (3, vI x3)] [] Q := by
  obtain ⟨h1, v, c, p⟩ := c
  obtain ⟨h', r, K, q⟩ := K h1 v p
  exact ⟨h', r, j_iload_n dX9_forgetStamped_2 rfl rfl <| j_aload_n dX9_forgetStamped_3 rfl rfl <| j_getf dX9_forgetStamped_4 kf_X9_12 o1 g1_0 <| j_callV (v := some (vI v)) (as := []) dX9_forgetStamped_7 kc_X9_54 rfl rfl w (by decide) (Nat.le_of_ble_eq_true rfl) c K, q⟩
theorem bX9_forgetStamped_10 {h0 h : k_H} {Q : k_H → k_R → Prop} {x0 : Nat} {x1 : Int64} {x3 s0 s1 : Int32} (K1 : s1 ≤ s0 → k_X (jX9_forgetStamped G l h0) h 69 [] [] Q) (K2 : ¬ (s1 ≤ s0) → k_X (jX9_forgetStamped G l h0) h 13 [(0, vR (some x0)), (1, vJ x1), (3, vI x3)] [] Q) : k_X (jX9_forgetStamped G l h0) h 10 [(0, vR (some x0)), (1, vJ x1), (3, vI x3)] [vI s1, vI s0] Q := by
  by_cases hc : s1 ≤ s0
  · skip
    obtain ⟨h', r, K, q⟩ := K1 hc
    exact ⟨h', r, j_icmp_ge_t (tgt := 69) dX9_forgetStamped_10 (by decide) hc (j_pick [] rfl K), q⟩
  · skip
    obtain ⟨h', r, K, q⟩ := K2 hc
    exact ⟨h', r, j_icmp_ge_f dX9_forgetStamped_10 69 (by decide) hc K, q⟩
theorem bX9_forgetStamped_13 {h0 h : k_H} {Q : k_H → k_R → Prop} {x0 f1_0 : Nat} {x1 : Int64} {x3 : Int32} {fs1 : List k_V} (o1 : h.1 x0 = some (k_o 12 fs1)) (g1_0 : fs1[0]? = some (vR (some f1_0))) (w : k_is h f1_0 2) {P : k_H → Option Nat → Prop} (c : k_ctr (tAL_get G l) [vR (some f1_0), vI x3] h P) (K : ∀ h1 v, P h1 v → k_X (jX9_forgetStamped G l h0) h1 21 [(0, vR (some x0)), (1, vJ x1), (3, vI x3)] [vR v] Q) : k_X (jX9_forgetStamped G l h0) h 13 [(0, vR (some x0)), (1, vJ x1), (3, vI x3)] [] Q := by
  obtain ⟨h1, v, c, p⟩ := c
  obtain ⟨h', r, K, q⟩ := K h1 v p
  exact ⟨h', r, j_aload_n dX9_forgetStamped_13 rfl rfl <| j_getf dX9_forgetStamped_14 kf_X9_12 o1 g1_0 <| j_iload_n dX9_forgetStamped_17 rfl rfl <| j_callV (v := some (vR v)) (as := [vI x3]) dX9_forgetStamped_18 kc_X9_58 rfl rfl w (by decide) (Nat.le_of_ble_eq_true rfl) c K, q⟩
theorem bX9_forgetStamped_21 {h0 h : k_H} {Q : k_H → k_R → Prop} {x0 s0 : Nat} {x1 : Int64} {x3 f1_0 : Int32} {fs1 : List k_V} (o1 : h.1 s0 = some (k_o 4 fs1)) (g1_0 : fs1[0]? = some (vI f1_0)) (K1 : ¬ (f1_0 = 6) → k_X (jX9_forgetStamped G l h0) h 63 [(0, vR (some x0)), (1, vJ x1), (3, vI x3)] [] Q) (K2 : f1_0 = 6 → k_X (jX9_forgetStamped G l h0) h 36 [(0, vR (some x0)), (1, vJ x1), (3, vI x3), (4, vR (some s0))] [] Q) : k_X (jX9_forgetStamped G l h0) h 21 [(0, vR (some x0)), (1, vJ x1), (3, vI x3)] [vR (some s0)] Q := by
  by_cases hc : f1_0 = 6
  · skip
    obtain ⟨h', r, K, q⟩ := K2 hc
    exact ⟨h', r, j_cast dX9_forgetStamped_21 kk_X9_45 o1 <| j_astore dX9_forgetStamped_24 (by decide) rfl <| j_aload dX9_forgetStamped_26 rfl <| j_getf dX9_forgetStamped_28 kf_X9_62 o1 g1_0 <| j_bipush (v := 6) dX9_forgetStamped_31 (by decide) <| j_icmp_ne_f dX9_forgetStamped_33 63 (by decide) hc K, q⟩
  · skip
    obtain ⟨h', r, K, q⟩ := K1 hc
    exact ⟨h', r, j_cast dX9_forgetStamped_21 kk_X9_45 o1 <| j_astore dX9_forgetStamped_24 (by decide) rfl <| j_aload dX9_forgetStamped_26 rfl <| j_getf dX9_forgetStamped_28 kf_X9_62 o1 g1_0 <| j_bipush (v := 6) dX9_forgetStamped_31 (by decide) <| j_icmp_ne_t (tgt := 63) dX9_forgetStamped_33 (by decide) hc (j_pick [0, 1, 2] rfl K), q⟩
theorem bX9_forgetStamped_36 {h0 h : k_H} {Q : k_H → k_R → Prop} {x0 x4 : Nat} {x1 f1_1 : Int64} {x3 : Int32} {fs1 : List k_V} (o1 : h.1 x4 = some (k_o 4 fs1)) (g1_1 : fs1[1]? = some (vJ f1_1)) (K1 : ¬ (f1_1 = x1) → k_X (jX9_forgetStamped G l h0) h 63 [(0, vR (some x0)), (1, vJ x1), (3, vI x3)] [] Q) (K2 : f1_1 = x1 → k_X (jX9_forgetStamped G l h0) h 46 [(0, vR (some x0)), (1, vJ x1), (3, vI x3), (4, vR (some x4))] [] Q) : k_X (jX9_forgetStamped G l h0) h 36 [(0, vR (some x0)), (1, vJ x1), (3, vI x3), (4, vR (some x4))] [] Q := by
  by_cases hc : f1_1 = x1
  · skip
    obtain ⟨h', r, K, q⟩ := K2 hc
    exact ⟨h', r, j_aload dX9_forgetStamped_36 rfl <| j_getf dX9_forgetStamped_38 kf_X9_65 o1 g1_1 <| j_lload_n dX9_forgetStamped_41 rfl rfl <| j_lcmp dX9_forgetStamped_42 <| j_if_ne_f dX9_forgetStamped_43 63 (by decide) ((lg_cmp_eq _ _).mpr hc) K, q⟩
  · skip
    obtain ⟨h', r, K, q⟩ := K1 hc
    exact ⟨h', r, j_aload dX9_forgetStamped_36 rfl <| j_getf dX9_forgetStamped_38 kf_X9_65 o1 g1_1 <| j_lload_n dX9_forgetStamped_41 rfl rfl <| j_lcmp dX9_forgetStamped_42 <| j_if_ne_t (tgt := 63) dX9_forgetStamped_43 (by decide) ((not_congr (lg_cmp_eq _ _)).mpr hc) (j_pick [0, 1, 2] rfl K), q⟩
theorem bX9_forgetStamped_46 {h0 h : k_H} {Q : k_H → k_R → Prop} {x0 x4 : Nat} {x1 : Int64} {x3 : Int32} {fs1 : List k_V} (o1 : h.1 x4 = some (k_o 4 fs1)) (z1 : fs1.length = 5) (K : k_X (jX9_forgetStamped G l h0) (k_up h x4 (k_o 4 (fs1.set 0 (vI 7)))) 53 [(0, vR (some x0)), (1, vJ x1), (3, vI x3)] [] Q) : k_X (jX9_forgetStamped G l h0) h 46 [(0, vR (some x0)), (1, vJ x1), (3, vI x3), (4, vR (some x4))] [] Q := by
  obtain ⟨h', r, K, q⟩ := K
  exact ⟨h', r, j_aload dX9_forgetStamped_46 rfl <| j_bipush (v := 7) dX9_forgetStamped_48 (by decide) <| j_putf dX9_forgetStamped_50 kp_X9_62 o1 (k_ln z1 (by decide)) (k_fit_i _) rfl <| (j_pick [0, 1, 2] rfl K), q⟩
theorem bX9_forgetStamped_53 {h0 h : k_H} {Q : k_H → k_R → Prop} {x0 : Nat} {x1 : Int64} {x3 f1_7 : Int32} {fs1 : List k_V} (o1 : h.1 x0 = some (k_o 12 fs1)) (g1_7 : fs1[7]? = some (vI f1_7)) (z1 : fs1.length = 8) (K : k_X (jX9_forgetStamped G l h0) (k_up h x0 (k_o 12 (fs1.set 7 (vI (f1_7 - 1))))) 63 [(0, vR (some x0)), (1, vJ x1), (3, vI x3)] [] Q) : k_X (jX9_forgetStamped G l h0) h 53 [(0, vR (some x0)), (1, vJ x1), (3, vI x3)] [] Q := by
  obtain ⟨h', r, K, q⟩ := K
  exact ⟨h', r, j_aload_n dX9_forgetStamped_53 rfl rfl <| j_dup dX9_forgetStamped_54 rfl <| j_getf dX9_forgetStamped_55 kf_X9_39 o1 g1_7 <| j_iconst (v := 1) dX9_forgetStamped_58 (by decide) <| j_isub dX9_forgetStamped_59 <| j_putf dX9_forgetStamped_60 kp_X9_39 o1 (k_ln z1 (by decide)) (k_fit_i _) rfl <| K, q⟩
theorem bX9_forgetStamped_63 {h0 h : k_H} {Q : k_H → k_R → Prop} {x0 : Nat} {x1 : Int64} {x3 : Int32} (K : k_X (jX9_forgetStamped G l h0) h 2 [(0, vR (some x0)), (1, vJ x1), (3, vI (x3 + 1))] [] Q) : k_X (jX9_forgetStamped G l h0) h 63 [(0, vR (some x0)), (1, vJ x1), (3, vI x3)] [] Q := by
  obtain ⟨h', r, K, q⟩ := K
  exact ⟨h', r, j_iinc (v := x3 + 1) dX9_forgetStamped_63 rfl (by decide) rfl rfl <| j_goto (tgt := 2) dX9_forgetStamped_66 (by decide) <| K, q⟩
theorem bX9_forgetStamped_69 {h0 h : k_H} {Q : k_H → k_R → Prop} (q : Q h (.inl none)) : k_X (jX9_forgetStamped G l h0) h 69 [] [] Q := by
  exact ⟨_, _, j_vret dX9_forgetStamped_69 rfl, q⟩
theorem eX9_look {G : k_G} {l : Launch} (hfl : l.flags = flags0) {h : k_H} {Q : k_H → k_R → Prop} {x0 : Nat} {x1 : Option Nat} {x2 : Int64} {x4 : Option Nat} (K : k_X (jX9_look G l h) h 0 [(0, vR (some x0)), (1, vR x1), (2, vJ x2), (4, vR x4)] [] Q) : k_ct (tX9_look G l) [vR (some x0), vR x1, vJ x2, vR x4] h Q := by
  obtain ⟨h', r, K, q⟩ := K
  exact ⟨h', r, k_CtOf (by decide +kernel) (Nat.le_of_ble_eq_true rfl) K hfl, q⟩

theorem bX9_look_0 {h0 h : k_H} {Q : k_H → k_R → Prop} {x0 x1 : Nat} {x2 : Int64} {x4 : Option Nat} (w : k_is h x1 3) {P : k_H → Prop} (c : k_ctv (tX0_load G l) [vR (some x1), vR x4] h P) (K : ∀ h1, P h1 → k_X (jX9_look G l h0) h1 6 [(0, vR (some x0)), (1, vR (some x1)), (2, vJ x2)] [] Q) : k_X (jX9_look G l h0) h 0 [(0, vR (some x0)), (1, vR (some x1)), (2, vJ x2), (4, vR x4)] [] Q := by
  obtain ⟨h1, c, p⟩ := c
  obtain ⟨h', r, K, q⟩ := K h1 p
  exact ⟨h', r, j_aload_n dX9_look_0 rfl rfl <| j_aload dX9_look_1 rfl <| j_callV (v := none) (as := [vR x4]) dX9_look_3 kc_X9_69 rfl rfl w (by decide) (Nat.le_of_ble_eq_true rfl) c (j_pick [0, 1, 2] rfl K), q⟩
theorem bX9_look_6 {h0 h : k_H} {Q : k_H → k_R → Prop} {x0 : Nat} {x1 : Option Nat} {x2 : Int64} (K : k_X (jX9_look G l h0) h 9 [(0, vR (some x0)), (1, vR x1), (2, vJ x2), (5, vI 0)] [] Q) : k_X (jX9_look G l h0) h 6 [(0, vR (some x0)), (1, vR x1), (2, vJ x2)] [] Q := by
  obtain ⟨h', r, K, q⟩ := K
  exact ⟨h', r, j_iconst (v := 0) dX9_look_6 (by decide) <| j_istore dX9_look_7 (by decide) rfl <| K, q⟩
theorem bX9_look_9 {h0 h : k_H} {Q : k_H → k_R → Prop} {x0 f1_0 : Nat} {x1 : Option Nat} {x2 : Int64} {x5 : Int32} {fs1 : List k_V} (o1 : h.1 x0 = some (k_o 12 fs1)) (g1_0 : fs1[0]? = some (vR (some f1_0))) (w : k_is h f1_0 2) {P : k_H → Int32 → Prop} (c : k_cti (tAL_size G l) [vR (some f1_0)] h P) (K : ∀ h1 v, P h1 v → k_X (jX9_look G l h0) h1 18 [(0, vR (some x0)), (1, vR x1), (2, vJ x2), (5, vI x5)] [vI v, vI x5] Q) : k_X (jX9_look G l h0) h 9 [(0, vR (some x0)), (1, vR x1), (2, vJ x2), (5, vI x5)] [] Q := by
  obtain ⟨h1, v, c, p⟩ := c
  obtain ⟨h', r, K, q⟩ := K h1 v p
  exact ⟨h', r, j_iload dX9_look_9 rfl <| j_aload_n dX9_look_11 rfl rfl <| j_getf dX9_look_12 kf_X9_12 o1 g1_0 <| j_callV (v := some (vI v)) (as := []) dX9_look_15 kc_X9_54 rfl rfl w (by decide) (Nat.le_of_ble_eq_true rfl) c K, q⟩
theorem bX9_look_18 {h0 h : k_H} {Q : k_H → k_R → Prop} {x0 : Nat} {x1 : Option Nat} {x2 : Int64} {x5 s0 s1 : Int32} (K1 : s1 ≤ s0 → k_X (jX9_look G l h0) h 65 [] [] Q) (K2 : ¬ (s1 ≤ s0) → k_X (jX9_look G l h0) h 21 [(0, vR (some x0)), (1, vR x1), (2, vJ x2), (5, vI x5)] [] Q) : k_X (jX9_look G l h0) h 18 [(0, vR (some x0)), (1, vR x1), (2, vJ x2), (5, vI x5)] [vI s1, vI s0] Q := by
  by_cases hc : s1 ≤ s0
  · skip
    obtain ⟨h', r, K, q⟩ := K1 hc
    exact ⟨h', r, j_icmp_ge_t (tgt := 65) dX9_look_18 (by decide) hc (j_pick [] rfl K), q⟩
  · skip
    obtain ⟨h', r, K, q⟩ := K2 hc
    exact ⟨h', r, j_icmp_ge_f dX9_look_18 65 (by decide) hc K, q⟩
theorem bX9_look_21 {h0 h : k_H} {Q : k_H → k_R → Prop} {x0 f1_0 : Nat} {x1 : Option Nat} {x2 : Int64} {x5 : Int32} {fs1 : List k_V} (o1 : h.1 x0 = some (k_o 12 fs1)) (g1_0 : fs1[0]? = some (vR (some f1_0))) (w : k_is h f1_0 2) {P : k_H → Option Nat → Prop} (c : k_ctr (tAL_get G l) [vR (some f1_0), vI x5] h P) (K : ∀ h1 v, P h1 v → k_X (jX9_look G l h0) h1 30 [(0, vR (some x0)), (1, vR x1), (2, vJ x2), (5, vI x5)] [vR v] Q) : k_X (jX9_look G l h0) h 21 [(0, vR (some x0)), (1, vR x1), (2, vJ x2), (5, vI x5)] [] Q := by
  obtain ⟨h1, v, c, p⟩ := c
  obtain ⟨h', r, K, q⟩ := K h1 v p
  exact ⟨h', r, j_aload_n dX9_look_21 rfl rfl <| j_getf dX9_look_22 kf_X9_12 o1 g1_0 <| j_iload dX9_look_25 rfl <| j_callV (v := some (vR v)) (as := [vI x5]) dX9_look_27 kc_X9_58 rfl rfl w (by decide) (Nat.le_of_ble_eq_true rfl) c K, q⟩
theorem bX9_look_30 {h0 h : k_H} {Q : k_H → k_R → Prop} {x0 s0 : Nat} {x1 : Option Nat} {x2 : Int64} {x5 : Int32} {fs1 : List k_V} (o1 : h.1 s0 = some (k_o 4 fs1)) {P : k_H → Int32 → Prop} (c : k_cti (tX1_covers G l) [vR (some s0), vJ x2] h P) (K : ∀ h1 v, P h1 v → k_X (jX9_look G l h0) h1 41 [(0, vR (some x0)), (1, vR x1), (2, vJ x2), (5, vI x5), (6, vR (some s0))] [vI v] Q) : k_X (jX9_look G l h0) h 30 [(0, vR (some x0)), (1, vR x1), (2, vJ x2), (5, vI x5)] [vR (some s0)] Q := by
  obtain ⟨h1, v, c, p⟩ := c
  obtain ⟨h', r, K, q⟩ := K h1 v p
  exact ⟨h', r, j_cast dX9_look_30 kk_X9_45 o1 <| j_astore dX9_look_33 (by decide) rfl <| j_aload dX9_look_35 rfl <| j_lload_n dX9_look_37 rfl rfl <| j_callV (v := some (vI v)) (as := [vJ x2]) dX9_look_38 kc_X9_75 rfl rfl (k_is_o o1) (by decide) (Nat.le_of_ble_eq_true rfl) c K, q⟩
theorem bX9_look_41 {h0 h : k_H} {Q : k_H → k_R → Prop} {x0 : Nat} {x1 x6 : Option Nat} {x2 : Int64} {x5 s0 : Int32} (K1 : s0 = 0 → k_X (jX9_look G l h0) h 59 [(0, vR (some x0)), (1, vR x1), (2, vJ x2), (5, vI x5)] [] Q) (K2 : ¬ (s0 = 0) → k_X (jX9_look G l h0) h 44 [(0, vR (some x0)), (1, vR x1), (2, vJ x2), (5, vI x5), (6, vR x6)] [] Q) : k_X (jX9_look G l h0) h 41 [(0, vR (some x0)), (1, vR x1), (2, vJ x2), (5, vI x5), (6, vR x6)] [vI s0] Q := by
  by_cases hc : s0 = 0
  · skip
    obtain ⟨h', r, K, q⟩ := K1 hc
    exact ⟨h', r, j_if_eq_t (tgt := 59) dX9_look_41 (by decide) hc (j_pick [0, 1, 2, 3] rfl K), q⟩
  · skip
    obtain ⟨h', r, K, q⟩ := K2 hc
    exact ⟨h', r, j_if_eq_f dX9_look_41 59 (by decide) hc K, q⟩
theorem bX9_look_44 {h0 h : k_H} {Q : k_H → k_R → Prop} {x0 x1 x6 : Nat} {x2 : Int64} {x5 f1_0 f1_3 : Int32} {fs1 : List k_V} (o1 : h.1 x6 = some (k_o 4 fs1)) (g1_0 : fs1[0]? = some (vI f1_0)) (g1_3 : fs1[3]? = some (vI f1_3)) (w : k_is h x1 3) {P : k_H → Prop} (c : k_ctv (tX0_apply G l) [vR (some x1), vI f1_0, vI f1_3, vI 0] h P) (K : ∀ h1, P h1 → k_X (jX9_look G l h0) h1 59 [(0, vR (some x0)), (1, vR (some x1)), (2, vJ x2), (5, vI x5)] [] Q) : k_X (jX9_look G l h0) h 44 [(0, vR (some x0)), (1, vR (some x1)), (2, vJ x2), (5, vI x5), (6, vR (some x6))] [] Q := by
  obtain ⟨h1, c, p⟩ := c
  obtain ⟨h', r, K, q⟩ := K h1 p
  exact ⟨h', r, j_aload_n dX9_look_44 rfl rfl <| j_aload dX9_look_45 rfl <| j_getf dX9_look_47 kf_X9_62 o1 g1_0 <| j_aload dX9_look_50 rfl <| j_getf dX9_look_52 kf_X9_79 o1 g1_3 <| j_iconst (v := 0) dX9_look_55 (by decide) <| j_callV (v := none) (as := [vI f1_0, vI f1_3, vI 0]) dX9_look_56 kc_X9_82 rfl rfl w (by decide) (Nat.le_of_ble_eq_true rfl) c (j_pick [0, 1, 2, 3] rfl K), q⟩
theorem bX9_look_59 {h0 h : k_H} {Q : k_H → k_R → Prop} {x0 : Nat} {x1 : Option Nat} {x2 : Int64} {x5 : Int32} (K : k_X (jX9_look G l h0) h 9 [(0, vR (some x0)), (1, vR x1), (2, vJ x2), (5, vI (x5 + 1))] [] Q) : k_X (jX9_look G l h0) h 59 [(0, vR (some x0)), (1, vR x1), (2, vJ x2), (5, vI x5)] [] Q := by
  obtain ⟨h', r, K, q⟩ := K
  exact ⟨h', r, j_iinc (v := x5 + 1) dX9_look_59 rfl (by decide) rfl rfl <| j_goto (tgt := 9) dX9_look_62 (by decide) <| K, q⟩
theorem bX9_look_65 {h0 h : k_H} {Q : k_H → k_R → Prop} (q : Q h (.inl none)) : k_X (jX9_look G l h0) h 65 [] [] Q := by
  exact ⟨_, _, j_vret dX9_look_65 rfl, q⟩
theorem eX9_owns {G : k_G} {l : Launch} (hfl : l.flags = flags0) {h : k_H} {Q : k_H → k_R → Prop} {x0 : Nat} {x1 : Int64} {x3 : Int64} {x5 : Int32} (K : k_X (jX9_owns G l h) h 0 [(0, vR (some x0)), (1, vJ x1), (3, vJ x3), (5, vI x5)] [] Q) : k_ct (tX9_owns G l) [vR (some x0), vJ x1, vJ x3, vI x5] h Q := by
  obtain ⟨h', r, K, q⟩ := K
  exact ⟨h', r, k_CtOf (by decide +kernel) (Nat.le_of_ble_eq_true rfl) K hfl, q⟩

theorem bX9_owns_0 {h0 h : k_H} {Q : k_H → k_R → Prop} {x0 : Nat} {x1 x3 : Int64} {x5 : Int32} (K : k_X (jX9_owns G l h0) h 3 [(0, vR (some x0)), (1, vJ x1), (3, vJ x3), (5, vI x5), (6, vI 0)] [] Q) : k_X (jX9_owns G l h0) h 0 [(0, vR (some x0)), (1, vJ x1), (3, vJ x3), (5, vI x5)] [] Q := by
  obtain ⟨h', r, K, q⟩ := K
  exact ⟨h', r, j_iconst (v := 0) dX9_owns_0 (by decide) <| j_istore dX9_owns_1 (by decide) rfl <| K, q⟩
theorem bX9_owns_3 {h0 h : k_H} {Q : k_H → k_R → Prop} {x0 f1_0 : Nat} {x1 x3 : Int64} {x5 x6 : Int32} {fs1 : List k_V} (o1 : h.1 x0 = some (k_o 12 fs1)) (g1_0 : fs1[0]? = some (vR (some f1_0))) (w : k_is h f1_0 2) {P : k_H → Int32 → Prop} (c : k_cti (tAL_size G l) [vR (some f1_0)] h P) (K : ∀ h1 v, P h1 v → k_X (jX9_owns G l h0) h1 12 [(0, vR (some x0)), (1, vJ x1), (3, vJ x3), (5, vI x5), (6, vI x6)] [vI v, vI x6] Q) : k_X (jX9_owns G l h0) h 3 [(0, vR (some x0)), (1, vJ x1), (3, vJ x3), (5, vI x5), (6, vI x6)] [] Q := by
  obtain ⟨h1, v, c, p⟩ := c
  obtain ⟨h', r, K, q⟩ := K h1 v p
  exact ⟨h', r, j_iload dX9_owns_3 rfl <| j_aload_n dX9_owns_5 rfl rfl <| j_getf dX9_owns_6 kf_X9_12 o1 g1_0 <| j_callV (v := some (vI v)) (as := []) dX9_owns_9 kc_X9_54 rfl rfl w (by decide) (Nat.le_of_ble_eq_true rfl) c K, q⟩
theorem bX9_owns_12 {h0 h : k_H} {Q : k_H → k_R → Prop} {x0 : Nat} {x1 x3 : Int64} {x5 x6 s0 s1 : Int32} (K1 : s1 ≤ s0 → k_X (jX9_owns G l h0) h 72 [] [] Q) (K2 : ¬ (s1 ≤ s0) → k_X (jX9_owns G l h0) h 15 [(0, vR (some x0)), (1, vJ x1), (3, vJ x3), (5, vI x5), (6, vI x6)] [] Q) : k_X (jX9_owns G l h0) h 12 [(0, vR (some x0)), (1, vJ x1), (3, vJ x3), (5, vI x5), (6, vI x6)] [vI s1, vI s0] Q := by
  by_cases hc : s1 ≤ s0
  · skip
    obtain ⟨h', r, K, q⟩ := K1 hc
    exact ⟨h', r, j_icmp_ge_t (tgt := 72) dX9_owns_12 (by decide) hc (j_pick [] rfl K), q⟩
  · skip
    obtain ⟨h', r, K, q⟩ := K2 hc
    exact ⟨h', r, j_icmp_ge_f dX9_owns_12 72 (by decide) hc K, q⟩
theorem bX9_owns_15 {h0 h : k_H} {Q : k_H → k_R → Prop} {x0 : Nat} {x1 x3 : Int64} {x5 x6 : Int32} (K1 : x5 ≤ x6 → k_X (jX9_owns G l h0) h 72 [] [] Q) (K2 : ¬ (x5 ≤ x6) → k_X (jX9_owns G l h0) h 22 [(0, vR (some x0)), (1, vJ x1), (3, vJ x3), (5, vI x5), (6, vI x6)] [] Q) : k_X (jX9_owns G l h0) h 15 [(0, vR (some x0)), (1, vJ x1), (3, vJ x3), (5, vI x5), (6, vI x6)] [] Q := by
  by_cases hc : x5 ≤ x6
  · skip
    obtain ⟨h', r, K, q⟩ := K1 hc
    exact ⟨h', r, j_iload dX9_owns_15 rfl <| j_iload dX9_owns_17 rfl <| j_icmp_ge_t (tgt := 72) dX9_owns_19 (by decide) hc (j_pick [] rfl K), q⟩
  · skip
    obtain ⟨h', r, K, q⟩ := K2 hc
    exact ⟨h', r, j_iload dX9_owns_15 rfl <| j_iload dX9_owns_17 rfl <| j_icmp_ge_f dX9_owns_19 72 (by decide) hc K, q⟩
theorem bX9_owns_22 {h0 h : k_H} {Q : k_H → k_R → Prop} {x0 f1_0 : Nat} {x1 x3 : Int64} {x5 x6 : Int32} {fs1 : List k_V} (o1 : h.1 x0 = some (k_o 12 fs1)) (g1_0 : fs1[0]? = some (vR (some f1_0))) (w : k_is h f1_0 2) {P : k_H → Option Nat → Prop} (c : k_ctr (tAL_get G l) [vR (some f1_0), vI x6] h P) (K : ∀ h1 v, P h1 v → k_X (jX9_owns G l h0) h1 31 [(0, vR (some x0)), (1, vJ x1), (3, vJ x3), (5, vI x5), (6, vI x6)] [vR v] Q) : k_X (jX9_owns G l h0) h 22 [(0, vR (some x0)), (1, vJ x1), (3, vJ x3), (5, vI x5), (6, vI x6)] [] Q := by
  obtain ⟨h1, v, c, p⟩ := c
  obtain ⟨h', r, K, q⟩ := K h1 v p
  exact ⟨h', r, j_aload_n dX9_owns_22 rfl rfl <| j_getf dX9_owns_23 kf_X9_12 o1 g1_0 <| j_iload dX9_owns_26 rfl <| j_callV (v := some (vR v)) (as := [vI x6]) dX9_owns_28 kc_X9_58 rfl rfl w (by decide) (Nat.le_of_ble_eq_true rfl) c K, q⟩
theorem bX9_owns_31 {h0 h : k_H} {Q : k_H → k_R → Prop} {x0 s0 : Nat} {x1 x3 : Int64} {x5 x6 : Int32} {fs1 : List k_V} (o1 : h.1 s0 = some (k_o 4 fs1)) {P : k_H → Int32 → Prop} (c : k_cti (tX1_saysAll G l) [vR (some s0)] h P) (K : ∀ h1 v, P h1 v → k_X (jX9_owns G l h0) h1 41 [(0, vR (some x0)), (1, vJ x1), (3, vJ x3), (5, vI x5), (6, vI x6), (7, vR (some s0))] [vI v] Q) : k_X (jX9_owns G l h0) h 31 [(0, vR (some x0)), (1, vJ x1), (3, vJ x3), (5, vI x5), (6, vI x6)] [vR (some s0)] Q := by
  obtain ⟨h1, v, c, p⟩ := c
  obtain ⟨h', r, K, q⟩ := K h1 v p
  exact ⟨h', r, j_cast dX9_owns_31 kk_X9_45 o1 <| j_astore dX9_owns_34 (by decide) rfl <| j_aload dX9_owns_36 rfl <| j_callV (v := some (vI v)) (as := []) dX9_owns_38 kc_X9_86 rfl rfl (k_is_o o1) (by decide) (Nat.le_of_ble_eq_true rfl) c K, q⟩
theorem bX9_owns_41 {h0 h : k_H} {Q : k_H → k_R → Prop} {x0 : Nat} {x1 x3 : Int64} {x5 x6 s0 : Int32} {x7 : Option Nat} (K1 : s0 = 0 → k_X (jX9_owns G l h0) h 66 [(0, vR (some x0)), (1, vJ x1), (3, vJ x3), (5, vI x5), (6, vI x6)] [] Q) (K2 : ¬ (s0 = 0) → k_X (jX9_owns G l h0) h 44 [(0, vR (some x0)), (1, vJ x1), (3, vJ x3), (5, vI x5), (6, vI x6), (7, vR x7)] [] Q) : k_X (jX9_owns G l h0) h 41 [(0, vR (some x0)), (1, vJ x1), (3, vJ x3), (5, vI x5), (6, vI x6), (7, vR x7)] [vI s0] Q := by
  by_cases hc : s0 = 0
  · skip
    obtain ⟨h', r, K, q⟩ := K1 hc
    exact ⟨h', r, j_if_eq_t (tgt := 66) dX9_owns_41 (by decide) hc (j_pick [0, 1, 2, 3, 4] rfl K), q⟩
  · skip
    obtain ⟨h', r, K, q⟩ := K2 hc
    exact ⟨h', r, j_if_eq_f dX9_owns_41 66 (by decide) hc K, q⟩
theorem bX9_owns_44 {h0 h : k_H} {Q : k_H → k_R → Prop} {x0 x7 : Nat} {x1 x3 f1_1 : Int64} {x5 x6 : Int32} {fs1 : List k_V} (o1 : h.1 x7 = some (k_o 4 fs1)) (g1_1 : fs1[1]? = some (vJ f1_1)) (K1 : x1 < f1_1 → k_X (jX9_owns G l h0) h 66 [(0, vR (some x0)), (1, vJ x1), (3, vJ x3), (5, vI x5), (6, vI x6)] [] Q) (K2 : ¬ (x1 < f1_1) → k_X (jX9_owns G l h0) h 54 [(0, vR (some x0)), (1, vJ x1), (3, vJ x3), (5, vI x5), (6, vI x6), (7, vR (some x7))] [] Q) : k_X (jX9_owns G l h0) h 44 [(0, vR (some x0)), (1, vJ x1), (3, vJ x3), (5, vI x5), (6, vI x6), (7, vR (some x7))] [] Q := by
  by_cases hc : x1 < f1_1
  · skip
    obtain ⟨h', r, K, q⟩ := K1 hc
    exact ⟨h', r, j_aload dX9_owns_44 rfl <| j_getf dX9_owns_46 kf_X9_65 o1 g1_1 <| j_lload_n dX9_owns_49 rfl rfl <| j_lcmp dX9_owns_50 <| j_if_gt_t (tgt := 66) dX9_owns_51 (by decide) ((lg_cmp_gt _ _).mpr hc) (j_pick [0, 1, 2, 3, 4] rfl K), q⟩
  · skip
    obtain ⟨h', r, K, q⟩ := K2 hc
    exact ⟨h', r, j_aload dX9_owns_44 rfl <| j_getf dX9_owns_46 kf_X9_65 o1 g1_1 <| j_lload_n dX9_owns_49 rfl rfl <| j_lcmp dX9_owns_50 <| j_if_gt_f dX9_owns_51 66 (by decide) ((not_congr (lg_cmp_gt _ _)).mpr hc) K, q⟩
theorem bX9_owns_54 {h0 h : k_H} {Q : k_H → k_R → Prop} {x0 x7 : Nat} {x1 x3 f1_2 : Int64} {x5 x6 : Int32} {fs1 : List k_V} (o1 : h.1 x7 = some (k_o 4 fs1)) (g1_2 : fs1[2]? = some (vJ f1_2)) (K1 : f1_2 < x3 → k_X (jX9_owns G l h0) h 66 [(0, vR (some x0)), (1, vJ x1), (3, vJ x3), (5, vI x5), (6, vI x6)] [] Q) (K2 : ¬ (f1_2 < x3) → k_X (jX9_owns G l h0) h 64 [] [] Q) : k_X (jX9_owns G l h0) h 54 [(0, vR (some x0)), (1, vJ x1), (3, vJ x3), (5, vI x5), (6, vI x6), (7, vR (some x7))] [] Q := by
  by_cases hc : f1_2 < x3
  · skip
    obtain ⟨h', r, K, q⟩ := K1 hc
    exact ⟨h', r, j_lload_n dX9_owns_54 rfl rfl <| j_aload dX9_owns_55 rfl <| j_getf dX9_owns_57 kf_X9_90 o1 g1_2 <| j_lcmp dX9_owns_60 <| j_if_gt_t (tgt := 66) dX9_owns_61 (by decide) ((lg_cmp_gt _ _).mpr hc) (j_pick [0, 1, 2, 3, 4] rfl K), q⟩
  · skip
    obtain ⟨h', r, K, q⟩ := K2 hc
    exact ⟨h', r, j_lload_n dX9_owns_54 rfl rfl <| j_aload dX9_owns_55 rfl <| j_getf dX9_owns_57 kf_X9_90 o1 g1_2 <| j_lcmp dX9_owns_60 <| j_if_gt_f dX9_owns_61 66 (by decide) ((not_congr (lg_cmp_gt _ _)).mpr hc) (j_pick [] rfl K), q⟩
theorem bX9_owns_64 {h0 h : k_H} {Q : k_H → k_R → Prop} (q : Q h (.inl (some (vI 1)))) : k_X (jX9_owns G l h0) h 64 [] [] Q := by
  exact ⟨_, _, j_iconst (v := 1) dX9_owns_64 (by decide) <| j_zret dX9_owns_65 rfl (by decide), q⟩
theorem bX9_owns_66 {h0 h : k_H} {Q : k_H → k_R → Prop} {x0 : Nat} {x1 x3 : Int64} {x5 x6 : Int32} (K : k_X (jX9_owns G l h0) h 3 [(0, vR (some x0)), (1, vJ x1), (3, vJ x3), (5, vI x5), (6, vI (x6 + 1))] [] Q) : k_X (jX9_owns G l h0) h 66 [(0, vR (some x0)), (1, vJ x1), (3, vJ x3), (5, vI x5), (6, vI x6)] [] Q := by
  obtain ⟨h', r, K, q⟩ := K
  exact ⟨h', r, j_iinc (v := x6 + 1) dX9_owns_66 rfl (by decide) rfl rfl <| j_goto (tgt := 3) dX9_owns_69 (by decide) <| K, q⟩
theorem bX9_owns_72 {h0 h : k_H} {Q : k_H → k_R → Prop} (q : Q h (.inl (some (vI 0)))) : k_X (jX9_owns G l h0) h 72 [] [] Q := by
  exact ⟨_, _, j_iconst (v := 0) dX9_owns_72 (by decide) <| j_zret dX9_owns_73 rfl (by decide), q⟩
theorem eX9_putDown {G : k_G} {l : Launch} (hfl : l.flags = flags0) {h : k_H} {Q : k_H → k_R → Prop} {x0 : Nat} {x1 : Int64} {x3 : Int64} (K : k_X (jX9_putDown G l h) h 0 [(0, vR (some x0)), (1, vJ x1), (3, vJ x3)] [] Q) : k_ct (tX9_putDown G l) [vR (some x0), vJ x1, vJ x3] h Q := by
  obtain ⟨h', r, K, q⟩ := K
  exact ⟨h', r, k_CtOf (by decide +kernel) (Nat.le_of_ble_eq_true rfl) K hfl, q⟩

theorem bX9_putDown_0 {h0 h : k_H} {Q : k_H → k_R → Prop} {x0 f1_1 : Nat} {x1 x3 : Int64} {fs1 : List k_V} (o1 : h.1 x0 = some (k_o 12 fs1)) (g1_1 : fs1[1]? = some (vR (some f1_1))) (w : k_is h f1_1 2) {P : k_H → Int32 → Prop} (c : k_cti (tAL_size G l) [vR (some f1_1)] h P) (K : ∀ h1 v, P h1 v → k_X (jX9_putDown G l h0) h1 7 [(0, vR (some x0)), (1, vJ x1), (3, vJ x3)] [vI v] Q) : k_X (jX9_putDown G l h0) h 0 [(0, vR (some x0)), (1, vJ x1), (3, vJ x3)] [] Q := by
  obtain ⟨h1, v, c, p⟩ := c
  obtain ⟨h', r, K, q⟩ := K h1 v p
  exact ⟨h', r, j_aload_n dX9_putDown_0 rfl rfl <| j_getf dX9_putDown_1 kf_X9_18 o1 g1_1 <| j_callV (v := some (vI v)) (as := []) dX9_putDown_4 kc_X9_54 rfl rfl w (by decide) (Nat.le_of_ble_eq_true rfl) c K, q⟩
theorem bX9_putDown_7 {h0 h : k_H} {Q : k_H → k_R → Prop} {x0 : Nat} {x1 x3 : Int64} {s0 : Int32} (K1 : 16384 ≤ s0 → k_X (jX9_putDown G l h0) h 37 [] [] Q) (K2 : ¬ (16384 ≤ s0) → k_X (jX9_putDown G l h0) h 13 [(0, vR (some x0)), (1, vJ x1), (3, vJ x3)] [] Q) : k_X (jX9_putDown G l h0) h 7 [(0, vR (some x0)), (1, vJ x1), (3, vJ x3)] [vI s0] Q := by
  by_cases hc : 16384 ≤ s0
  · skip
    obtain ⟨h', r, K, q⟩ := K1 hc
    exact ⟨h', r, j_sipush (v := 16384) dX9_putDown_7 (by decide) <| j_icmp_ge_t (tgt := 37) dX9_putDown_10 (by decide) hc (j_pick [] rfl K), q⟩
  · skip
    obtain ⟨h', r, K, q⟩ := K2 hc
    exact ⟨h', r, j_sipush (v := 16384) dX9_putDown_7 (by decide) <| j_icmp_ge_f dX9_putDown_10 37 (by decide) hc K, q⟩
theorem bX9_putDown_13 {h0 h : k_H} {Q : k_H → k_R → Prop} {x0 : Nat} {x1 x3 : Int64} {f1_1 : Option Nat} {fs1 : List k_V} (o1 : h.1 x0 = some (k_o 12 fs1)) (g1_1 : fs1[1]? = some (vR f1_1)) (K : k_X (jX9_putDown G l h0) (k_nw h 3 (k_o 10 [vJ 0, vJ 0, vI 0])) 20 [(0, vR (some x0)), (1, vJ x1), (3, vJ x3)] [vR (some h.2.1), vR f1_1] Q) : k_X (jX9_putDown G l h0) h 13 [(0, vR (some x0)), (1, vJ x1), (3, vJ x3)] [] Q := by
  obtain ⟨h', r, K, q⟩ := K
  exact ⟨h', r, j_aload_n dX9_putDown_13 rfl rfl <| j_getf dX9_putDown_14 kf_X9_18 o1 g1_1 <| j_new dX9_putDown_17 kn_X9_93 <| K, q⟩
theorem bX9_putDown_20 {h0 h : k_H} {Q : k_H → k_R → Prop} {x0 f1_0 : Nat} {x1 x3 : Int64} {s0 s1 : Option Nat} {fs1 : List k_V} (o1 : h.1 x0 = some (k_o 12 fs1)) (g1_0 : fs1[0]? = some (vR (some f1_0))) (w : k_is h f1_0 2) {P : k_H → Int32 → Prop} (c : k_cti (tAL_size G l) [vR (some f1_0)] h P) (K : ∀ h1 v, P h1 v → k_X (jX9_putDown G l h0) h1 30 [] [vI v, vJ x3, vJ x1, vR s1, vR s1, vR s0] Q) : k_X (jX9_putDown G l h0) h 20 [(0, vR (some x0)), (1, vJ x1), (3, vJ x3)] [vR s1, vR s0] Q := by
  obtain ⟨h1, v, c, p⟩ := c
  obtain ⟨h', r, K, q⟩ := K h1 v p
  exact ⟨h', r, j_dup dX9_putDown_20 rfl <| j_lload_n dX9_putDown_21 rfl rfl <| j_lload_n dX9_putDown_22 rfl rfl <| j_aload_n dX9_putDown_23 rfl rfl <| j_getf dX9_putDown_24 kf_X9_12 o1 g1_0 <| j_callV (v := some (vI v)) (as := []) dX9_putDown_27 kc_X9_54 rfl rfl w (by decide) (Nat.le_of_ble_eq_true rfl) c (j_pick [] rfl K), q⟩
theorem bX9_putDown_30 {h0 h : k_H} {Q : k_H → k_R → Prop} {s0 s1 : Option Nat} {s2 : Nat} {s3 s4 : Int64} {s5 : Int32} {P : k_H → Prop} (c : k_ctv (tX7_init G l) [vR (some s2), vJ s3, vJ s4, vI s5] h P) (K : ∀ h1, P h1 → k_X (jX9_putDown G l h0) h1 33 [] [vR s1, vR s0] Q) : k_X (jX9_putDown G l h0) h 30 [] [vI s5, vJ s4, vJ s3, vR (some s2), vR s1, vR s0] Q := by
  obtain ⟨h1, c, p⟩ := c
  obtain ⟨h', r, K, q⟩ := K h1 p
  exact ⟨h', r, j_callI (v := none) (as := [vJ s3, vJ s4, vI s5]) dX9_putDown_30 kc_X9_95 rfl rfl (by decide) (Nat.le_of_ble_eq_true rfl) c K, q⟩
theorem bX9_putDown_33 {h0 h : k_H} {Q : k_H → k_R → Prop} {s0 : Nat} {s1 : Option Nat} (w : k_is h s0 2) {P : k_H → Int32 → Prop} (c : k_cti (tAL_add G l) [vR (some s0), vR s1] h P) (K : ∀ h1 v, P h1 v → k_X (jX9_putDown G l h0) h1 36 [] [vI v] Q) : k_X (jX9_putDown G l h0) h 33 [] [vR s1, vR (some s0)] Q := by
  obtain ⟨h1, v, c, p⟩ := c
  obtain ⟨h', r, K, q⟩ := K h1 v p
  exact ⟨h', r, j_callV (v := some (vI v)) (as := [vR s1]) dX9_putDown_33 kc_X9_50 rfl rfl w (by decide) (Nat.le_of_ble_eq_true rfl) c K, q⟩
theorem bX9_putDown_36 {h0 h : k_H} {Q : k_H → k_R → Prop} {s0 : Int32} (K : k_X (jX9_putDown G l h0) h 37 [] [] Q) : k_X (jX9_putDown G l h0) h 36 [] [vI s0] Q := by
  obtain ⟨h', r, K, q⟩ := K
  exact ⟨h', r, j_pop dX9_putDown_36 rfl <| K, q⟩
theorem bX9_putDown_37 {h0 h : k_H} {Q : k_H → k_R → Prop} (q : Q h (.inl none)) : k_X (jX9_putDown G l h0) h 37 [] [] Q := by
  exact ⟨_, _, j_vret dX9_putDown_37 rfl, q⟩
theorem eX9_putDownKey {G : k_G} {l : Launch} (hfl : l.flags = flags0) {h : k_H} {Q : k_H → k_R → Prop} {x0 : Nat} {x1 : Int64} (K : k_X (jX9_putDownKey G l h) h 0 [(0, vR (some x0)), (1, vJ x1)] [] Q) : k_ct (tX9_putDownKey G l) [vR (some x0), vJ x1] h Q := by
  obtain ⟨h', r, K, q⟩ := K
  exact ⟨h', r, k_CtOf (by decide +kernel) (Nat.le_of_ble_eq_true rfl) K hfl, q⟩

theorem bX9_putDownKey_0 {h0 h : k_H} {Q : k_H → k_R → Prop} {x0 f1_0 : Nat} {x1 : Int64} {fs1 : List k_V} (o1 : h.1 x0 = some (k_o 12 fs1)) (g1_0 : fs1[0]? = some (vR (some f1_0))) (w : k_is h f1_0 2) {P : k_H → Int32 → Prop} (c : k_cti (tAL_size G l) [vR (some f1_0)] h P) (K : ∀ h1 v, P h1 v → k_X (jX9_putDownKey G l h0) h1 12 [(0, vR (some x0)), (1, vJ x1)] [vI v, vJ (x1 + 1), vJ x1, vR (some x0)] Q) : k_X (jX9_putDownKey G l h0) h 0 [(0, vR (some x0)), (1, vJ x1)] [] Q := by
  obtain ⟨h1, v, c, p⟩ := c
  obtain ⟨h', r, K, q⟩ := K h1 v p
  exact ⟨h', r, j_aload_n dX9_putDownKey_0 rfl rfl <| j_lload_n dX9_putDownKey_1 rfl rfl <| j_lload_n dX9_putDownKey_2 rfl rfl <| j_lconst (v := 1) dX9_putDownKey_3 (by decide) <| j_ladd dX9_putDownKey_4 <| j_aload_n dX9_putDownKey_5 rfl rfl <| j_getf dX9_putDownKey_6 kf_X9_12 o1 g1_0 <| j_callV (v := some (vI v)) (as := []) dX9_putDownKey_9 kc_X9_54 rfl rfl w (by decide) (Nat.le_of_ble_eq_true rfl) c K, q⟩
theorem bX9_putDownKey_12 {h0 h : k_H} {Q : k_H → k_R → Prop} {x0 s0 : Nat} {x1 s1 s2 : Int64} {s3 : Int32} (w : k_is h s0 12) {P : k_H → Int32 → Prop} (c : k_cti (tX9_owns G l) [vR (some s0), vJ s1, vJ s2, vI s3] h P) (K : ∀ h1 v, P h1 v → k_X (jX9_putDownKey G l h0) h1 15 [(0, vR (some x0)), (1, vJ x1)] [vI v] Q) : k_X (jX9_putDownKey G l h0) h 12 [(0, vR (some x0)), (1, vJ x1)] [vI s3, vJ s2, vJ s1, vR (some s0)] Q := by
  obtain ⟨h1, v, c, p⟩ := c
  obtain ⟨h', r, K, q⟩ := K h1 v p
  exact ⟨h', r, j_callV (v := some (vI v)) (as := [vJ s1, vJ s2, vI s3]) dX9_putDownKey_12 kc_X9_98 rfl rfl w (by decide) (Nat.le_of_ble_eq_true rfl) c K, q⟩
theorem bX9_putDownKey_15 {h0 h : k_H} {Q : k_H → k_R → Prop} {x0 : Nat} {x1 : Int64} {s0 : Int32} (K1 : ¬ (s0 = 0) → k_X (jX9_putDownKey G l h0) h 26 [] [] Q) (K2 : s0 = 0 → k_X (jX9_putDownKey G l h0) h 18 [(0, vR (some x0)), (1, vJ x1)] [] Q) : k_X (jX9_putDownKey G l h0) h 15 [(0, vR (some x0)), (1, vJ x1)] [vI s0] Q := by
  by_cases hc : s0 = 0
  · skip
    obtain ⟨h', r, K, q⟩ := K2 hc
    exact ⟨h', r, j_if_ne_f dX9_putDownKey_15 26 (by decide) hc K, q⟩
  · skip
    obtain ⟨h', r, K, q⟩ := K1 hc
    exact ⟨h', r, j_if_ne_t (tgt := 26) dX9_putDownKey_15 (by decide) hc (j_pick [] rfl K), q⟩
theorem bX9_putDownKey_18 {h0 h : k_H} {Q : k_H → k_R → Prop} {x0 : Nat} {x1 : Int64} (w : k_is h x0 12) {P : k_H → Prop} (c : k_ctv (tX9_putDown G l) [vR (some x0), vJ x1, vJ (x1 + 1)] h P) (K : ∀ h1, P h1 → k_X (jX9_putDownKey G l h0) h1 26 [] [] Q) : k_X (jX9_putDownKey G l h0) h 18 [(0, vR (some x0)), (1, vJ x1)] [] Q := by
  obtain ⟨h1, c, p⟩ := c
  obtain ⟨h', r, K, q⟩ := K h1 p
  exact ⟨h', r, j_aload_n dX9_putDownKey_18 rfl rfl <| j_lload_n dX9_putDownKey_19 rfl rfl <| j_lload_n dX9_putDownKey_20 rfl rfl <| j_lconst (v := 1) dX9_putDownKey_21 (by decide) <| j_ladd dX9_putDownKey_22 <| j_callV (v := none) (as := [vJ x1, vJ (x1 + 1)]) dX9_putDownKey_23 kc_X9_102 rfl rfl w (by decide) (Nat.le_of_ble_eq_true rfl) c (j_pick [] rfl K), q⟩
theorem bX9_putDownKey_26 {h0 h : k_H} {Q : k_H → k_R → Prop} (q : Q h (.inl none)) : k_X (jX9_putDownKey G l h0) h 26 [] [] Q := by
  exact ⟨_, _, j_vret dX9_putDownKey_26 rfl, q⟩
theorem eX10_init {G : k_G} {l : Launch} (hfl : l.flags = flags0) {h : k_H} {Q : k_H → k_R → Prop} {x0 : Nat} {x1 : Option Nat} (K : k_X (jX10_init G l h) h 0 [(0, vR (some x0)), (1, vR x1)] [] Q) : k_ct (tX10_init G l) [vR (some x0), vR x1] h Q := by
  obtain ⟨h', r, K, q⟩ := K
  exact ⟨h', r, k_CtOf (by decide +kernel) (Nat.le_of_ble_eq_true rfl) K hfl, q⟩

theorem bX10_init_0 {h0 h : k_H} {Q : k_H → k_R → Prop} {x0 : Nat} {x1 : Option Nat} {fs1 : List k_V} (o1 : h.1 x0 = some (k_o 13 fs1)) (z1 : fs1.length = 2) (K : k_X (jX10_init G l h0) (k_up h x0 (k_o 13 (fs1.set 1 (vI (-2147483648))))) 10 [(0, vR (some x0)), (1, vR x1)] [] Q) : k_X (jX10_init G l h0) h 0 [(0, vR (some x0)), (1, vR x1)] [] Q := by
  obtain ⟨h', r, K, q⟩ := K
  exact ⟨h', r, j_aload_n dX10_init_0 rfl rfl <| j_objInit dX10_init_1 ko_X10_3 ko_inst ko_code (by decide) (Nat.le_of_ble_eq_true rfl) <| j_aload_n dX10_init_4 rfl rfl <| j_ldc (v := (-2147483648)) dX10_init_5 ki_X10_9 <| j_putf dX10_init_7 kp_X10_10 o1 (k_ln z1 (by decide)) (k_fit_i _) rfl <| K, q⟩
theorem bX10_init_10 {h0 h : k_H} {Q : k_H → k_R → Prop} {x0 : Nat} {x1 : Option Nat} {fs1 : List k_V} (o1 : h.1 x0 = some (k_o 13 fs1)) (z1 : fs1.length = 2) (K : k_X (jX10_init G l h0) (k_up h x0 (k_o 13 (fs1.set 0 (vR x1)))) 15 [] [] Q) : k_X (jX10_init G l h0) h 10 [(0, vR (some x0)), (1, vR x1)] [] Q := by
  obtain ⟨h', r, K, q⟩ := K
  exact ⟨h', r, j_aload_n dX10_init_10 rfl rfl <| j_aload_n dX10_init_11 rfl rfl <| j_putF dX10_init_12 rfl kp_X10_16 o1 (k_ln z1 (by decide)) (k_fit_r _ _) rfl <| (j_pick [] rfl K), q⟩
theorem bX10_init_15 {h0 h : k_H} {Q : k_H → k_R → Prop} (q : Q h (.inl none)) : k_X (jX10_init G l h0) h 15 [] [] Q := by
  exact ⟨_, _, j_vret dX10_init_15 rfl, q⟩
end BA
