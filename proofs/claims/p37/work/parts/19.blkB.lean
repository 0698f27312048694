section BB
variable {G : k_G} {l : Launch}

theorem eX11_init {G : k_G} {l : Launch} (hfl : l.flags = flags0) {h : k_H} {Q : k_H → k_R → Prop} {x0 : Nat} (K : k_X (jX11_init G l h) h 0 [(0, vR (some x0))] [] Q) : k_ct (tX11_init G l) [vR (some x0)] h Q := by
  obtain ⟨h', r, K, q⟩ := K
  exact ⟨h', r, k_CtOf (by decide +kernel) (Nat.le_of_ble_eq_true rfl) K hfl, q⟩

theorem bX11_init_0 {h0 h : k_H} {Q : k_H → k_R → Prop} {x0 : Nat} (K : k_X (jX11_init G l h0) (k_nw h 7 (k_o 11 [vR none, vR none, vR none, vR none, vI 0, vR none, vI 0])) 8 [(0, vR (some x0))] [vR (some h.2.1), vR (some x0)] Q) : k_X (jX11_init G l h0) h 0 [(0, vR (some x0))] [] Q := by
  obtain ⟨h', r, K, q⟩ := K
  exact ⟨h', r, j_aload_n dX11_init_0 rfl rfl <| j_objInit dX11_init_1 ko_X11_5 ko_inst ko_code (by decide) (Nat.le_of_ble_eq_true rfl) <| j_aload_n dX11_init_4 rfl rfl <| j_new dX11_init_5 kn_X11_11 <| K, q⟩
theorem bX11_init_8 {h0 h : k_H} {Q : k_H → k_R → Prop} {x0 s1 : Nat} {s0 : Option Nat} {P : k_H → Prop} (c : k_ctv (tX8_init G l) [vR (some s1)] h P) (K : ∀ h1, P h1 → k_X (jX11_init G l h0) h1 12 [(0, vR (some x0))] [vR (some s1), vR s0] Q) : k_X (jX11_init G l h0) h 8 [(0, vR (some x0))] [vR (some s1), vR s0] Q := by
  obtain ⟨h1, c, p⟩ := c
  obtain ⟨h', r, K, q⟩ := K h1 p
  exact ⟨h', r, j_dup dX11_init_8 rfl <| j_callIN (v := none) (as := []) dX11_init_9 kc_X11_13 rfl ks_yX8_init rfl rfl (by decide) (Nat.le_of_ble_eq_true rfl) c K, q⟩
theorem bX11_init_12 {h0 h : k_H} {Q : k_H → k_R → Prop} {x0 s0 : Nat} {s1 : Option Nat} {fs1 : List k_V} (o1 : h.1 s0 = some (k_o 14 fs1)) (z1 : fs1.length = 13) (K : k_X (jX11_init G l h0) (k_up h s0 (k_o 14 (fs1.set 0 (vR s1)))) 15 [(0, vR (some x0))] [] Q) : k_X (jX11_init G l h0) h 12 [(0, vR (some x0))] [vR s1, vR (some s0)] Q := by
  obtain ⟨h', r, K, q⟩ := K
  exact ⟨h', r, j_putF dX11_init_12 rfl kp_X11_14 o1 (k_ln z1 (by decide)) (k_fit_r _ _) rfl <| K, q⟩
theorem bX11_init_15 {h0 h : k_H} {Q : k_H → k_R → Prop} {x0 : Nat} (K : k_X (jX11_init G l h0) (k_nw h 1 (k_o 9 [vR none])) 19 [(0, vR (some x0))] [vR (some h.2.1), vR (some x0)] Q) : k_X (jX11_init G l h0) h 15 [(0, vR (some x0))] [] Q := by
  obtain ⟨h', r, K, q⟩ := K
  exact ⟨h', r, j_aload_n dX11_init_15 rfl rfl <| j_new dX11_init_16 kn_X11_18 <| K, q⟩
theorem bX11_init_19 {h0 h : k_H} {Q : k_H → k_R → Prop} {x0 s1 : Nat} {s0 : Option Nat} {P : k_H → Prop} (c : k_ctv (tX6_init G l) [vR (some s1)] h P) (K : ∀ h1, P h1 → k_X (jX11_init G l h0) h1 23 [(0, vR (some x0))] [vR (some s1), vR s0] Q) : k_X (jX11_init G l h0) h 19 [(0, vR (some x0))] [vR (some s1), vR s0] Q := by
  obtain ⟨h1, c, p⟩ := c
  obtain ⟨h', r, K, q⟩ := K h1 p
  exact ⟨h', r, j_dup dX11_init_19 rfl <| j_callI (v := none) (as := []) dX11_init_20 kc_X11_20 rfl rfl (by decide) (Nat.le_of_ble_eq_true rfl) c K, q⟩
theorem bX11_init_23 {h0 h : k_H} {Q : k_H → k_R → Prop} {x0 s0 : Nat} {s1 : Option Nat} {fs1 : List k_V} (o1 : h.1 s0 = some (k_o 14 fs1)) (z1 : fs1.length = 13) (K : k_X (jX11_init G l h0) (k_up h s0 (k_o 14 (fs1.set 1 (vR s1)))) 26 [(0, vR (some x0))] [] Q) : k_X (jX11_init G l h0) h 23 [(0, vR (some x0))] [vR s1, vR (some s0)] Q := by
  obtain ⟨h', r, K, q⟩ := K
  exact ⟨h', r, j_putF dX11_init_23 rfl kp_X11_21 o1 (k_ln z1 (by decide)) (k_fit_r _ _) rfl <| K, q⟩
theorem bX11_init_26 {h0 h : k_H} {Q : k_H → k_R → Prop} {x0 : Nat} (K : k_X (jX11_init G l h0) (k_nw h 3 (k_o 3 [vI 0, vI 0, vI 0])) 30 [(0, vR (some x0))] [vR (some h.2.1), vR (some x0)] Q) : k_X (jX11_init G l h0) h 26 [(0, vR (some x0))] [] Q := by
  obtain ⟨h', r, K, q⟩ := K
  exact ⟨h', r, j_aload_n dX11_init_26 rfl rfl <| j_new dX11_init_27 kn_X11_25 <| K, q⟩
theorem bX11_init_30 {h0 h : k_H} {Q : k_H → k_R → Prop} {x0 s1 : Nat} {s0 : Option Nat} {P : k_H → Prop} (c : k_ctv (tX0_init G l) [vR (some s1)] h P) (K : ∀ h1, P h1 → k_X (jX11_init G l h0) h1 34 [(0, vR (some x0))] [vR (some s1), vR s0] Q) : k_X (jX11_init G l h0) h 30 [(0, vR (some x0))] [vR (some s1), vR s0] Q := by
  obtain ⟨h1, c, p⟩ := c
  obtain ⟨h', r, K, q⟩ := K h1 p
  exact ⟨h', r, j_dup dX11_init_30 rfl <| j_callIN (v := none) (as := []) dX11_init_31 kc_X11_27 rfl ks_yX0_init rfl rfl (by decide) (Nat.le_of_ble_eq_true rfl) c K, q⟩
theorem bX11_init_34 {h0 h : k_H} {Q : k_H → k_R → Prop} {x0 s0 : Nat} {s1 : Option Nat} {fs1 : List k_V} (o1 : h.1 s0 = some (k_o 14 fs1)) (z1 : fs1.length = 13) (K : k_X (jX11_init G l h0) (k_up h s0 (k_o 14 (fs1.set 2 (vR s1)))) 37 [(0, vR (some x0))] [] Q) : k_X (jX11_init G l h0) h 34 [(0, vR (some x0))] [vR s1, vR (some s0)] Q := by
  obtain ⟨h', r, K, q⟩ := K
  exact ⟨h', r, j_putF dX11_init_34 rfl kp_X11_28 o1 (k_ln z1 (by decide)) (k_fit_r _ _) rfl <| K, q⟩
theorem bX11_init_37 {h0 h : k_H} {Q : k_H → k_R → Prop} {x0 : Nat} (K : k_X (jX11_init G l h0) (k_nw h 3 (k_o 2 [vI 0, vR none, vI 0])) 41 [(0, vR (some x0))] [vR (some h.2.1), vR (some x0)] Q) : k_X (jX11_init G l h0) h 37 [(0, vR (some x0))] [] Q := by
  obtain ⟨h', r, K, q⟩ := K
  exact ⟨h', r, j_aload_n dX11_init_37 rfl rfl <| j_new dX11_init_38 kn_X11_32 <| K, q⟩
theorem bX11_init_41 {h0 h : k_H} {Q : k_H → k_R → Prop} {x0 s1 : Nat} {s0 : Option Nat} {P : k_H → Prop} (c : k_ctv (tAL_init G l) [vR (some s1)] h P) (K : ∀ h1, P h1 → k_X (jX11_init G l h0) h1 45 [(0, vR (some x0))] [vR (some s1), vR s0] Q) : k_X (jX11_init G l h0) h 41 [(0, vR (some x0))] [vR (some s1), vR s0] Q := by
  obtain ⟨h1, c, p⟩ := c
  obtain ⟨h', r, K, q⟩ := K h1 p
  exact ⟨h', r, j_dup dX11_init_41 rfl <| j_callI (v := none) (as := []) dX11_init_42 kc_X11_34 rfl rfl (by decide) (Nat.le_of_ble_eq_true rfl) c K, q⟩
theorem bX11_init_45 {h0 h : k_H} {Q : k_H → k_R → Prop} {x0 s0 : Nat} {s1 : Option Nat} {fs1 : List k_V} (o1 : h.1 s0 = some (k_o 14 fs1)) (z1 : fs1.length = 13) (K : k_X (jX11_init G l h0) (k_up h s0 (k_o 14 (fs1.set 3 (vR s1)))) 48 [(0, vR (some x0))] [] Q) : k_X (jX11_init G l h0) h 45 [(0, vR (some x0))] [vR s1, vR (some s0)] Q := by
  obtain ⟨h', r, K, q⟩ := K
  exact ⟨h', r, j_putF dX11_init_45 rfl kp_X11_35 o1 (k_ln z1 (by decide)) (k_fit_r _ _) rfl <| K, q⟩
theorem bX11_init_48 {h0 h : k_H} {Q : k_H → k_R → Prop} {x0 : Nat} (K : k_X (jX11_init G l h0) (k_nw h 3 (k_o 2 [vI 0, vR none, vI 0])) 52 [(0, vR (some x0))] [vR (some h.2.1), vR (some x0)] Q) : k_X (jX11_init G l h0) h 48 [(0, vR (some x0))] [] Q := by
  obtain ⟨h', r, K, q⟩ := K
  exact ⟨h', r, j_aload_n dX11_init_48 rfl rfl <| j_new dX11_init_49 kn_X11_32 <| K, q⟩
theorem bX11_init_52 {h0 h : k_H} {Q : k_H → k_R → Prop} {x0 s1 : Nat} {s0 : Option Nat} {P : k_H → Prop} (c : k_ctv (tAL_init G l) [vR (some s1)] h P) (K : ∀ h1, P h1 → k_X (jX11_init G l h0) h1 56 [(0, vR (some x0))] [vR (some s1), vR s0] Q) : k_X (jX11_init G l h0) h 52 [(0, vR (some x0))] [vR (some s1), vR s0] Q := by
  obtain ⟨h1, c, p⟩ := c
  obtain ⟨h', r, K, q⟩ := K h1 p
  exact ⟨h', r, j_dup dX11_init_52 rfl <| j_callI (v := none) (as := []) dX11_init_53 kc_X11_34 rfl rfl (by decide) (Nat.le_of_ble_eq_true rfl) c K, q⟩
theorem bX11_init_56 {h0 h : k_H} {Q : k_H → k_R → Prop} {x0 s0 : Nat} {s1 : Option Nat} {fs1 : List k_V} (o1 : h.1 s0 = some (k_o 14 fs1)) (z1 : fs1.length = 13) (K : k_X (jX11_init G l h0) (k_up h s0 (k_o 14 (fs1.set 4 (vR s1)))) 59 [(0, vR (some x0))] [] Q) : k_X (jX11_init G l h0) h 56 [(0, vR (some x0))] [vR s1, vR (some s0)] Q := by
  obtain ⟨h', r, K, q⟩ := K
  exact ⟨h', r, j_putF dX11_init_56 rfl kp_X11_39 o1 (k_ln z1 (by decide)) (k_fit_r _ _) rfl <| K, q⟩
theorem bX11_init_59 {h0 h : k_H} {Q : k_H → k_R → Prop} {x0 : Nat} (K : k_X (jX11_init G l h0) (k_nw h 3 (k_o 2 [vI 0, vR none, vI 0])) 63 [(0, vR (some x0))] [vR (some h.2.1), vR (some x0)] Q) : k_X (jX11_init G l h0) h 59 [(0, vR (some x0))] [] Q := by
  obtain ⟨h', r, K, q⟩ := K
  exact ⟨h', r, j_aload_n dX11_init_59 rfl rfl <| j_new dX11_init_60 kn_X11_32 <| K, q⟩
theorem bX11_init_63 {h0 h : k_H} {Q : k_H → k_R → Prop} {x0 s1 : Nat} {s0 : Option Nat} {P : k_H → Prop} (c : k_ctv (tAL_init G l) [vR (some s1)] h P) (K : ∀ h1, P h1 → k_X (jX11_init G l h0) h1 67 [(0, vR (some x0))] [vR (some s1), vR s0] Q) : k_X (jX11_init G l h0) h 63 [(0, vR (some x0))] [vR (some s1), vR s0] Q := by
  obtain ⟨h1, c, p⟩ := c
  obtain ⟨h', r, K, q⟩ := K h1 p
  exact ⟨h', r, j_dup dX11_init_63 rfl <| j_callI (v := none) (as := []) dX11_init_64 kc_X11_34 rfl rfl (by decide) (Nat.le_of_ble_eq_true rfl) c K, q⟩
theorem bX11_init_67 {h0 h : k_H} {Q : k_H → k_R → Prop} {x0 s0 : Nat} {s1 : Option Nat} {fs1 : List k_V} (o1 : h.1 s0 = some (k_o 14 fs1)) (z1 : fs1.length = 13) (K : k_X (jX11_init G l h0) (k_up h s0 (k_o 14 (fs1.set 5 (vR s1)))) 70 [(0, vR (some x0))] [] Q) : k_X (jX11_init G l h0) h 67 [(0, vR (some x0))] [vR s1, vR (some s0)] Q := by
  obtain ⟨h', r, K, q⟩ := K
  exact ⟨h', r, j_putF dX11_init_67 rfl kp_X11_42 o1 (k_ln z1 (by decide)) (k_fit_r _ _) rfl <| K, q⟩
theorem bX11_init_70 {h0 h : k_H} {Q : k_H → k_R → Prop} {x0 : Nat} (K : k_X (jX11_init G l h0) (k_nw h 3 (k_o 2 [vI 0, vR none, vI 0])) 74 [(0, vR (some x0))] [vR (some h.2.1), vR (some x0)] Q) : k_X (jX11_init G l h0) h 70 [(0, vR (some x0))] [] Q := by
  obtain ⟨h', r, K, q⟩ := K
  exact ⟨h', r, j_aload_n dX11_init_70 rfl rfl <| j_new dX11_init_71 kn_X11_32 <| K, q⟩
theorem bX11_init_74 {h0 h : k_H} {Q : k_H → k_R → Prop} {x0 s1 : Nat} {s0 : Option Nat} {P : k_H → Prop} (c : k_ctv (tAL_init G l) [vR (some s1)] h P) (K : ∀ h1, P h1 → k_X (jX11_init G l h0) h1 78 [(0, vR (some x0))] [vR (some s1), vR s0] Q) : k_X (jX11_init G l h0) h 74 [(0, vR (some x0))] [vR (some s1), vR s0] Q := by
  obtain ⟨h1, c, p⟩ := c
  obtain ⟨h', r, K, q⟩ := K h1 p
  exact ⟨h', r, j_dup dX11_init_74 rfl <| j_callI (v := none) (as := []) dX11_init_75 kc_X11_34 rfl rfl (by decide) (Nat.le_of_ble_eq_true rfl) c K, q⟩
theorem bX11_init_78 {h0 h : k_H} {Q : k_H → k_R → Prop} {x0 s0 : Nat} {s1 : Option Nat} {fs1 : List k_V} (o1 : h.1 s0 = some (k_o 14 fs1)) (z1 : fs1.length = 13) (K : k_X (jX11_init G l h0) (k_up h s0 (k_o 14 (fs1.set 6 (vR s1)))) 81 [(0, vR (some x0))] [] Q) : k_X (jX11_init G l h0) h 78 [(0, vR (some x0))] [vR s1, vR (some s0)] Q := by
  obtain ⟨h', r, K, q⟩ := K
  exact ⟨h', r, j_putF dX11_init_78 rfl kp_X11_45 o1 (k_ln z1 (by decide)) (k_fit_r _ _) rfl <| K, q⟩
theorem bX11_init_81 {h0 h : k_H} {Q : k_H → k_R → Prop} {x0 : Nat} (K : k_X (jX11_init G l h0) (k_nw h 10 (k_i 10 (fun _ => 0))) 86 [(0, vR (some x0))] [vR (some h.2.1), vR (some x0)] Q) : k_X (jX11_init G l h0) h 81 [(0, vR (some x0))] [] Q := by
  obtain ⟨h', r, K, q⟩ := K
  exact ⟨h', r, j_aload_n dX11_init_81 rfl rfl <| j_bipush (v := 10) dX11_init_82 (by decide) <| j_newi (N := 10) dX11_init_84 ka_int (by decide) (by decide) <| K, q⟩
theorem bX11_init_86 {h0 h : k_H} {Q : k_H → k_R → Prop} {x0 s0 : Nat} {s1 : Option Nat} {fs1 : List k_V} (o1 : h.1 s0 = some (k_o 14 fs1)) (z1 : fs1.length = 13) (K : k_X (jX11_init G l h0) (k_up h s0 (k_o 14 (fs1.set 7 (vR s1)))) 89 [(0, vR (some x0))] [] Q) : k_X (jX11_init G l h0) h 86 [(0, vR (some x0))] [vR s1, vR (some s0)] Q := by
  obtain ⟨h', r, K, q⟩ := K
  exact ⟨h', r, j_putF dX11_init_86 rfl kp_X11_48 o1 (k_ln z1 (by decide)) (k_fit_a _ _) rfl <| K, q⟩
theorem bX11_init_89 {h0 h : k_H} {Q : k_H → k_R → Prop} {x0 : Nat} {fs1 : List k_V} (o1 : h.1 x0 = some (k_o 14 fs1)) (z1 : fs1.length = 13) (K : k_X (jX11_init G l h0) (k_up h x0 (k_o 14 (fs1.set 8 (vI 0)))) 94 [(0, vR (some x0))] [] Q) : k_X (jX11_init G l h0) h 89 [(0, vR (some x0))] [] Q := by
  obtain ⟨h', r, K, q⟩ := K
  exact ⟨h', r, j_aload_n dX11_init_89 rfl rfl <| j_iconst (v := 0) dX11_init_90 (by decide) <| j_putf dX11_init_91 kp_X11_52 o1 (k_ln z1 (by decide)) (k_fit_i _) rfl <| K, q⟩
theorem bX11_init_94 {h0 h : k_H} {Q : k_H → k_R → Prop} {x0 : Nat} {fs1 : List k_V} (o1 : h.1 x0 = some (k_o 14 fs1)) (z1 : fs1.length = 13) (K : k_X (jX11_init G l h0) (k_up h x0 (k_o 14 (fs1.set 9 (vI 0)))) 99 [(0, vR (some x0))] [] Q) : k_X (jX11_init G l h0) h 94 [(0, vR (some x0))] [] Q := by
  obtain ⟨h', r, K, q⟩ := K
  exact ⟨h', r, j_aload_n dX11_init_94 rfl rfl <| j_iconst (v := 0) dX11_init_95 (by decide) <| j_putf dX11_init_96 kp_X11_56 o1 (k_ln z1 (by decide)) (k_fit_i _) rfl <| K, q⟩
theorem bX11_init_99 {h0 h : k_H} {Q : k_H → k_R → Prop} {x0 : Nat} {fs1 : List k_V} (o1 : h.1 x0 = some (k_o 14 fs1)) (z1 : fs1.length = 13) (K : k_X (jX11_init G l h0) (k_up h x0 (k_o 14 (fs1.set 10 (vI 0)))) 104 [(0, vR (some x0))] [] Q) : k_X (jX11_init G l h0) h 99 [(0, vR (some x0))] [] Q := by
  obtain ⟨h', r, K, q⟩ := K
  exact ⟨h', r, j_aload_n dX11_init_99 rfl rfl <| j_iconst (v := 0) dX11_init_100 (by decide) <| j_putf dX11_init_101 kp_X11_59 o1 (k_ln z1 (by decide)) (k_fit_i _) rfl <| K, q⟩
theorem bX11_init_104 {h0 h : k_H} {Q : k_H → k_R → Prop} {x0 : Nat} {fs1 : List k_V} (o1 : h.1 x0 = some (k_o 14 fs1)) (z1 : fs1.length = 13) (K : k_X (jX11_init G l h0) (k_up h x0 (k_o 14 (fs1.set 11 (vI (-2147483648))))) 110 [(0, vR (some x0))] [] Q) : k_X (jX11_init G l h0) h 104 [(0, vR (some x0))] [] Q := by
  obtain ⟨h', r, K, q⟩ := K
  exact ⟨h', r, j_aload_n dX11_init_104 rfl rfl <| j_ldc (v := (-2147483648)) dX11_init_105 ki_X11_62 <| j_putf dX11_init_107 kp_X11_63 o1 (k_ln z1 (by decide)) (k_fit_i _) rfl <| K, q⟩
theorem bX11_init_110 {h0 h : k_H} {Q : k_H → k_R → Prop} {x0 : Nat} {fs1 : List k_V} (o1 : h.1 x0 = some (k_o 14 fs1)) (z1 : fs1.length = 13) (K : k_X (jX11_init G l h0) (k_up h x0 (k_o 14 (fs1.set 12 (vI 0)))) 115 [(0, vR (some x0))] [] Q) : k_X (jX11_init G l h0) h 110 [(0, vR (some x0))] [] Q := by
  obtain ⟨h', r, K, q⟩ := K
  exact ⟨h', r, j_aload_n dX11_init_110 rfl rfl <| j_iconst (v := 0) dX11_init_111 (by decide) <| j_putf dX11_init_112 kp_X11_66 o1 (k_ln z1 (by decide)) (k_fit_i _) rfl <| K, q⟩
theorem bX11_init_115 {h0 h : k_H} {Q : k_H → k_R → Prop} {x0 : Nat} (K : k_X (jX11_init G l h0) h 117 [(0, vR (some x0)), (1, vI 0)] [] Q) : k_X (jX11_init G l h0) h 115 [(0, vR (some x0))] [] Q := by
  obtain ⟨h', r, K, q⟩ := K
  exact ⟨h', r, j_iconst (v := 0) dX11_init_115 (by decide) <| j_istore_n dX11_init_116 rfl (by decide) rfl <| K, q⟩
theorem bX11_init_117 {h0 h : k_H} {Q : k_H → k_R → Prop} {x0 : Nat} {x1 : Int32} (K1 : 4 ≤ x1 → k_X (jX11_init G l h0) h 143 [(0, vR (some x0))] [] Q) (K2 : ¬ (4 ≤ x1) → k_X (jX11_init G l h0) h 122 [(0, vR (some x0)), (1, vI x1)] [] Q) : k_X (jX11_init G l h0) h 117 [(0, vR (some x0)), (1, vI x1)] [] Q := by
  by_cases hc : 4 ≤ x1
  · skip
    obtain ⟨h', r, K, q⟩ := K1 hc
    exact ⟨h', r, j_iload_n dX11_init_117 rfl rfl <| j_iconst (v := 4) dX11_init_118 (by decide) <| j_icmp_ge_t (tgt := 143) dX11_init_119 (by decide) hc (j_pick [0] rfl K), q⟩
  · skip
    obtain ⟨h', r, K, q⟩ := K2 hc
    exact ⟨h', r, j_iload_n dX11_init_117 rfl rfl <| j_iconst (v := 4) dX11_init_118 (by decide) <| j_icmp_ge_f dX11_init_119 143 (by decide) hc K, q⟩
theorem bX11_init_122 {h0 h : k_H} {Q : k_H → k_R → Prop} {x0 : Nat} {x1 : Int32} {f1_3 : Option Nat} {fs1 : List k_V} (o1 : h.1 x0 = some (k_o 14 fs1)) (g1_3 : fs1[3]? = some (vR f1_3)) (K : k_X (jX11_init G l h0) (k_nw h 8 (k_o 12 [vR none, vR none, vI 0, vI 0, vI 0, vI 0, vI 0, vI 0])) 129 [(0, vR (some x0)), (1, vI x1)] [vR (some h.2.1), vR f1_3] Q) : k_X (jX11_init G l h0) h 122 [(0, vR (some x0)), (1, vI x1)] [] Q := by
  obtain ⟨h', r, K, q⟩ := K
  exact ⟨h', r, j_aload_n dX11_init_122 rfl rfl <| j_getf dX11_init_123 kf_X11_35 o1 g1_3 <| j_new dX11_init_126 kn_X11_69 <| K, q⟩
theorem bX11_init_129 {h0 h : k_H} {Q : k_H → k_R → Prop} {x0 s1 : Nat} {x1 : Int32} {s0 : Option Nat} {P : k_H → Prop} (c : k_ctv (tX9_init G l) [vR (some s1)] h P) (K : ∀ h1, P h1 → k_X (jX11_init G l h0) h1 133 [(0, vR (some x0)), (1, vI x1)] [vR (some s1), vR s0] Q) : k_X (jX11_init G l h0) h 129 [(0, vR (some x0)), (1, vI x1)] [vR (some s1), vR s0] Q := by
  obtain ⟨h1, c, p⟩ := c
  obtain ⟨h', r, K, q⟩ := K h1 p
  exact ⟨h', r, j_dup dX11_init_129 rfl <| j_callIN (v := none) (as := []) dX11_init_130 kc_X11_71 rfl ks_yX9_init rfl rfl (by decide) (Nat.le_of_ble_eq_true rfl) c K, q⟩
theorem bX11_init_133 {h0 h : k_H} {Q : k_H → k_R → Prop} {x0 s0 : Nat} {x1 : Int32} {s1 : Option Nat} (w : k_is h s0 2) {P : k_H → Int32 → Prop} (c : k_cti (tAL_add G l) [vR (some s0), vR s1] h P) (K : ∀ h1 v, P h1 v → k_X (jX11_init G l h0) h1 136 [(0, vR (some x0)), (1, vI x1)] [vI v] Q) : k_X (jX11_init G l h0) h 133 [(0, vR (some x0)), (1, vI x1)] [vR s1, vR (some s0)] Q := by
  obtain ⟨h1, v, c, p⟩ := c
  obtain ⟨h', r, K, q⟩ := K h1 v p
  exact ⟨h', r, j_callV (v := some (vI v)) (as := [vR s1]) dX11_init_133 kc_X11_72 rfl rfl w (by decide) (Nat.le_of_ble_eq_true rfl) c K, q⟩
theorem bX11_init_136 {h0 h : k_H} {Q : k_H → k_R → Prop} {x0 : Nat} {x1 s0 : Int32} (K : k_X (jX11_init G l h0) h 117 [(0, vR (some x0)), (1, vI (x1 + 1))] [] Q) : k_X (jX11_init G l h0) h 136 [(0, vR (some x0)), (1, vI x1)] [vI s0] Q := by
  obtain ⟨h', r, K, q⟩ := K
  exact ⟨h', r, j_pop dX11_init_136 rfl <| j_iinc (v := x1 + 1) dX11_init_137 rfl (by decide) rfl rfl <| j_goto (tgt := 117) dX11_init_140 (by decide) <| K, q⟩
theorem bX11_init_143 {h0 h : k_H} {Q : k_H → k_R → Prop} {x0 : Nat} {f1_5 : Option Nat} {fs1 : List k_V} (o1 : h.1 x0 = some (k_o 14 fs1)) (g1_5 : fs1[5]? = some (vR f1_5)) (K : k_X (jX11_init G l h0) (k_nw h 4 (k_o 5 [vI 0, vI 0, vR none, vI 0])) 150 [] [vR (some h.2.1), vR f1_5] Q) : k_X (jX11_init G l h0) h 143 [(0, vR (some x0))] [] Q := by
  obtain ⟨h', r, K, q⟩ := K
  exact ⟨h', r, j_aload_n dX11_init_143 rfl rfl <| j_getf dX11_init_144 kf_X11_42 o1 g1_5 <| j_new dX11_init_147 kn_X11_76 <| (j_pick [] rfl K), q⟩
theorem bX11_init_150 {h0 h : k_H} {Q : k_H → k_R → Prop} {s0 : Option Nat} {s1 : Nat} {P : k_H → Prop} (c : k_ctv (tX2_init G l) [vR (some s1), vI 0, vR none, vI 0, vI 0] h P) (K : ∀ h1, P h1 → k_X (jX11_init G l h0) h1 158 [] [vR (some s1), vR s0] Q) : k_X (jX11_init G l h0) h 150 [] [vR (some s1), vR s0] Q := by
  obtain ⟨h1, c, p⟩ := c
  obtain ⟨h', r, K, q⟩ := K h1 p
  exact ⟨h', r, j_dup dX11_init_150 rfl <| j_iconst (v := 0) dX11_init_151 (by decide) <| j_null dX11_init_152 <| j_iconst (v := 0) dX11_init_153 (by decide) <| j_iconst (v := 0) dX11_init_154 (by decide) <| j_callI (v := none) (as := [vI 0, vR none, vI 0, vI 0]) dX11_init_155 kc_X11_78 rfl rfl (by decide) (Nat.le_of_ble_eq_true rfl) c K, q⟩
theorem bX11_init_158 {h0 h : k_H} {Q : k_H → k_R → Prop} {s0 : Nat} {s1 : Option Nat} (w : k_is h s0 2) {P : k_H → Int32 → Prop} (c : k_cti (tAL_add G l) [vR (some s0), vR s1] h P) (K : ∀ h1 v, P h1 v → k_X (jX11_init G l h0) h1 161 [] [vI v] Q) : k_X (jX11_init G l h0) h 158 [] [vR s1, vR (some s0)] Q := by
  obtain ⟨h1, v, c, p⟩ := c
  obtain ⟨h', r, K, q⟩ := K h1 v p
  exact ⟨h', r, j_callV (v := some (vI v)) (as := [vR s1]) dX11_init_158 kc_X11_72 rfl rfl w (by decide) (Nat.le_of_ble_eq_true rfl) c K, q⟩
theorem bX11_init_161 {h0 h : k_H} {Q : k_H → k_R → Prop} {s0 : Int32} (q : Q h (.inl none)) : k_X (jX11_init G l h0) h 161 [] [vI s0] Q := by
  exact ⟨_, _, j_pop dX11_init_161 rfl <| j_vret dX11_init_162 rfl, q⟩
theorem eX11_begin {G : k_G} {l : Launch} (hfl : l.flags = flags0) {h : k_H} {Q : k_H → k_R → Prop} {x0 : Nat} {x1 : Int32} {x2 : Int32} (K : k_X (jX11_begin G l h) h 0 [(0, vR (some x0)), (1, vI x1), (2, vI x2)] [] Q) : k_ct (tX11_begin G l) [vR (some x0), vI x1, vI x2] h Q := by
  obtain ⟨h', r, K, q⟩ := K
  exact ⟨h', r, k_CtOf (by decide +kernel) (Nat.le_of_ble_eq_true rfl) K hfl, q⟩

theorem bX11_begin_0 {h0 h : k_H} {Q : k_H → k_R → Prop} {x0 : Nat} {x1 x2 : Int32} (w : k_is h x0 14) {P : k_H → Option Nat → Prop} (c : k_ctr (tX11_transactionAt G l) [vR (some x0), vI x1] h P) (K : ∀ h1 v, P h1 v → k_X (jX11_begin G l h0) h1 5 [(0, vR (some x0)), (2, vI x2)] [vR v] Q) : k_X (jX11_begin G l h0) h 0 [(0, vR (some x0)), (1, vI x1), (2, vI x2)] [] Q := by
  obtain ⟨h1, v, c, p⟩ := c
  obtain ⟨h', r, K, q⟩ := K h1 v p
  exact ⟨h', r, j_aload_n dX11_begin_0 rfl rfl <| j_iload_n dX11_begin_1 rfl rfl <| j_callV (v := some (vR v)) (as := [vI x1]) dX11_begin_2 kc_X11_81 rfl rfl w (by decide) (Nat.le_of_ble_eq_true rfl) c (j_pick [0, 2] rfl K), q⟩
theorem bX11_begin_0x {h0 h : k_H} {Q : k_H → k_R → Prop} {x0 : Nat} {x1 x2 : Int32} (w : k_is h x0 14) {E : String} {P : k_H → Prop} (c : k_ctx (tX11_transactionAt G l) [vR (some x0), vI x1] h E P) (q : ∀ h1, P h1 → Q h1 (.inr E)) : k_X (jX11_begin G l h0) h 0 [(0, vR (some x0)), (1, vI x1), (2, vI x2)] [] Q := by
  obtain ⟨h1, c, p⟩ := c
  exact ⟨h1, _, j_aload_n dX11_begin_0 rfl rfl <| j_iload_n dX11_begin_1 rfl rfl <| j_callVx (as := [vI x1]) dX11_begin_2 kc_X11_81 rfl rfl w (by decide) (Nat.le_of_ble_eq_true rfl) c, q h1 p⟩
theorem bX11_begin_5 {h0 h : k_H} {Q : k_H → k_R → Prop} {x0 s0 f1_0 : Nat} {x2 f2_6 f1_9 : Int32} {fs1 : List k_V} (o1 : h.1 x0 = some (k_o 14 fs1)) (g1_0 : fs1[0]? = some (vR (some f1_0))) {fs2 : List k_V} (o2 : h.1 f1_0 = some (k_o 11 fs2)) (g2_6 : fs2[6]? = some (vI f2_6)) (g1_9 : fs1[9]? = some (vI f1_9)) (w : k_is h s0 12) {P : k_H → Prop} (c : k_ctv (tX9_start G l) [vR (some s0), vI f2_6, vI f1_9, vI x2] h P) (K : ∀ h1, P h1 → k_X (jX11_begin G l h0) h1 22 [(0, vR (some x0))] [] Q) : k_X (jX11_begin G l h0) h 5 [(0, vR (some x0)), (2, vI x2)] [vR (some s0)] Q := by
  obtain ⟨h1, c, p⟩ := c
  obtain ⟨h', r, K, q⟩ := K h1 p
  exact ⟨h', r, j_astore_n dX11_begin_5 rfl (by decide) rfl <| j_aload_n dX11_begin_6 rfl rfl <| j_aload_n dX11_begin_7 rfl rfl <| j_getf dX11_begin_8 kf_X11_14 o1 g1_0 <| j_getf dX11_begin_11 kf_X11_85 o2 g2_6 <| j_aload_n dX11_begin_14 rfl rfl <| j_getf dX11_begin_15 kf_X11_56 o1 g1_9 <| j_iload_n dX11_begin_18 rfl rfl <| j_callV (v := none) (as := [vI f2_6, vI f1_9, vI x2]) dX11_begin_19 kc_X11_88 rfl rfl w (by decide) (Nat.le_of_ble_eq_true rfl) c (j_pick [0] rfl K), q⟩
theorem bX11_begin_22 {h0 h : k_H} {Q : k_H → k_R → Prop} {x0 f1_0 : Nat} {f2_6 : Int32} {fs1 : List k_V} (o1 : h.1 x0 = some (k_o 14 fs1)) (g1_0 : fs1[0]? = some (vR (some f1_0))) {fs2 : List k_V} (o2 : h.1 f1_0 = some (k_o 11 fs2)) (g2_6 : fs2[6]? = some (vI f2_6)) (q : Q h (.inl (some (vI f2_6)))) : k_X (jX11_begin G l h0) h 22 [(0, vR (some x0))] [] Q := by
  exact ⟨_, _, j_aload_n dX11_begin_22 rfl rfl <| j_getf dX11_begin_23 kf_X11_14 o1 g1_0 <| j_getf dX11_begin_26 kf_X11_85 o2 g2_6 <| j_iret dX11_begin_29 rfl, q⟩
theorem eX11_get {G : k_G} {l : Launch} (hfl : l.flags = flags0) {h : k_H} {Q : k_H → k_R → Prop} {x0 : Nat} {x1 : Int32} {x2 : Int32} {x3 : Int32} {x4 : Int32} {x5 : Int32} (K : k_X (jX11_get G l h) h 0 [(0, vR (some x0)), (1, vI x1), (2, vI x2), (3, vI x3), (4, vI x4), (5, vI x5)] [] Q) : k_ct (tX11_get G l) [vR (some x0), vI x1, vI x2, vI x3, vI x4, vI x5] h Q := by
  obtain ⟨h', r, K, q⟩ := K
  exact ⟨h', r, k_CtOf (by decide +kernel) (Nat.le_of_ble_eq_true rfl) K hfl, q⟩

theorem bX11_get_0 {h0 h : k_H} {Q : k_H → k_R → Prop} {x0 : Nat} {x1 x2 x3 x4 x5 : Int32} (w : k_is h x0 14) {P : k_H → Option Nat → Prop} (c : k_ctr (tX11_transactionAt G l) [vR (some x0), vI x1] h P) (K : ∀ h1 v, P h1 v → k_X (jX11_get G l h0) h1 5 [(0, vR (some x0)), (2, vI x2), (3, vI x3), (4, vI x4), (5, vI x5)] [vR v] Q) : k_X (jX11_get G l h0) h 0 [(0, vR (some x0)), (1, vI x1), (2, vI x2), (3, vI x3), (4, vI x4), (5, vI x5)] [] Q := by
  obtain ⟨h1, v, c, p⟩ := c
  obtain ⟨h', r, K, q⟩ := K h1 v p
  exact ⟨h', r, j_aload_n dX11_get_0 rfl rfl <| j_iload_n dX11_get_1 rfl rfl <| j_callV (v := some (vR v)) (as := [vI x1]) dX11_get_2 kc_X11_81 rfl rfl w (by decide) (Nat.le_of_ble_eq_true rfl) c (j_pick [0, 2, 3, 4, 5] rfl K), q⟩
theorem bX11_get_0x {h0 h : k_H} {Q : k_H → k_R → Prop} {x0 : Nat} {x1 x2 x3 x4 x5 : Int32} (w : k_is h x0 14) {E : String} {P : k_H → Prop} (c : k_ctx (tX11_transactionAt G l) [vR (some x0), vI x1] h E P) (q : ∀ h1, P h1 → Q h1 (.inr E)) : k_X (jX11_get G l h0) h 0 [(0, vR (some x0)), (1, vI x1), (2, vI x2), (3, vI x3), (4, vI x4), (5, vI x5)] [] Q := by
  obtain ⟨h1, c, p⟩ := c
  exact ⟨h1, _, j_aload_n dX11_get_0 rfl rfl <| j_iload_n dX11_get_1 rfl rfl <| j_callVx (as := [vI x1]) dX11_get_2 kc_X11_81 rfl rfl w (by decide) (Nat.le_of_ble_eq_true rfl) c, q h1 p⟩
theorem bX11_get_5 {h0 h : k_H} {Q : k_H → k_R → Prop} {x0 : Nat} {x2 x3 x4 x5 : Int32} {s0 : Option Nat} {P : k_H → Prop} (c : k_ctv (tX11_requireKey G l) [vI x2, vI x3, vI x4] h P) (K : ∀ h1, P h1 → k_X (jX11_get G l h0) h1 14 [(0, vR (some x0)), (2, vI x2), (3, vI x3), (4, vI x4), (5, vI x5), (6, vR s0)] [] Q) : k_X (jX11_get G l h0) h 5 [(0, vR (some x0)), (2, vI x2), (3, vI x3), (4, vI x4), (5, vI x5)] [vR s0] Q := by
  obtain ⟨h1, c, p⟩ := c
  obtain ⟨h', r, K, q⟩ := K h1 p
  exact ⟨h', r, j_astore dX11_get_5 (by decide) rfl <| j_iload_n dX11_get_7 rfl rfl <| j_iload_n dX11_get_8 rfl rfl <| j_iload dX11_get_9 rfl <| j_callS (v := none) (as := [vI x2, vI x3, vI x4]) dX11_get_11 kc_X11_92 rfl rfl (by decide) (Nat.le_of_ble_eq_true rfl) c K, q⟩
theorem bX11_get_5x {h0 h : k_H} {Q : k_H → k_R → Prop} {x0 : Nat} {x2 x3 x4 x5 : Int32} {s0 : Option Nat} {E : String} {P : k_H → Prop} (c : k_ctx (tX11_requireKey G l) [vI x2, vI x3, vI x4] h E P) (q : ∀ h1, P h1 → Q h1 (.inr E)) : k_X (jX11_get G l h0) h 5 [(0, vR (some x0)), (2, vI x2), (3, vI x3), (4, vI x4), (5, vI x5)] [vR s0] Q := by
  obtain ⟨h1, c, p⟩ := c
  exact ⟨h1, _, j_astore dX11_get_5 (by decide) rfl <| j_iload_n dX11_get_7 rfl rfl <| j_iload_n dX11_get_8 rfl rfl <| j_iload dX11_get_9 rfl <| j_callSx (as := [vI x2, vI x3, vI x4]) dX11_get_11 kc_X11_92 rfl rfl (by decide) (Nat.le_of_ble_eq_true rfl) c, q h1 p⟩
theorem bX11_get_14 {h0 h : k_H} {Q : k_H → k_R → Prop} {x0 : Nat} {x2 x3 x4 x5 : Int32} {x6 : Option Nat} {P : k_H → Prop} (c : k_ctv (tX11_requireBegun G l) [vR x6] h P) (K : ∀ h1, P h1 → k_X (jX11_get G l h0) h1 19 [(0, vR (some x0)), (2, vI x2), (3, vI x3), (4, vI x4), (5, vI x5), (6, vR x6)] [] Q) : k_X (jX11_get G l h0) h 14 [(0, vR (some x0)), (2, vI x2), (3, vI x3), (4, vI x4), (5, vI x5), (6, vR x6)] [] Q := by
  obtain ⟨h1, c, p⟩ := c
  obtain ⟨h', r, K, q⟩ := K h1 p
  exact ⟨h', r, j_aload dX11_get_14 rfl <| j_callS (v := none) (as := [vR x6]) dX11_get_16 kc_X11_96 rfl rfl (by decide) (Nat.le_of_ble_eq_true rfl) c K, q⟩
theorem bX11_get_14x {h0 h : k_H} {Q : k_H → k_R → Prop} {x0 : Nat} {x2 x3 x4 x5 : Int32} {x6 : Option Nat} {E : String} {P : k_H → Prop} (c : k_ctx (tX11_requireBegun G l) [vR x6] h E P) (q : ∀ h1, P h1 → Q h1 (.inr E)) : k_X (jX11_get G l h0) h 14 [(0, vR (some x0)), (2, vI x2), (3, vI x3), (4, vI x4), (5, vI x5), (6, vR x6)] [] Q := by
  obtain ⟨h1, c, p⟩ := c
  exact ⟨h1, _, j_aload dX11_get_14 rfl <| j_callSx (as := [vR x6]) dX11_get_16 kc_X11_96 rfl rfl (by decide) (Nat.le_of_ble_eq_true rfl) c, q h1 p⟩
theorem bX11_get_19 {h0 h : k_H} {Q : k_H → k_R → Prop} {x0 : Nat} {x2 x3 x4 x5 : Int32} {x6 : Option Nat} {P : k_H → Int64 → Prop} (c : k_ctj (tX11_codeOf G l) [vI x2, vI x3, vI x4] h P) (K : ∀ h1 v, P h1 v → k_X (jX11_get G l h0) h1 26 [(0, vR (some x0)), (5, vI x5), (6, vR x6)] [vJ v] Q) : k_X (jX11_get G l h0) h 19 [(0, vR (some x0)), (2, vI x2), (3, vI x3), (4, vI x4), (5, vI x5), (6, vR x6)] [] Q := by
  obtain ⟨h1, v, c, p⟩ := c
  obtain ⟨h', r, K, q⟩ := K h1 v p
  exact ⟨h', r, j_iload_n dX11_get_19 rfl rfl <| j_iload_n dX11_get_20 rfl rfl <| j_iload dX11_get_21 rfl <| j_callS (v := some (vJ v)) (as := [vI x2, vI x3, vI x4]) dX11_get_23 kc_X11_100 rfl rfl (by decide) (Nat.le_of_ble_eq_true rfl) c (j_pick [0, 4, 5] rfl K), q⟩
theorem bX11_get_26 {h0 h : k_H} {Q : k_H → k_R → Prop} {x0 x6 f1_0 : Nat} {x5 f2_4 : Int32} {s0 : Int64} {f1_2 : Option Nat} {fs1 : List k_V} (o1 : h.1 x0 = some (k_o 14 fs1)) (g1_2 : fs1[2]? = some (vR f1_2)) (g1_0 : fs1[0]? = some (vR (some f1_0))) {fs2 : List k_V} (o2 : h.1 x6 = some (k_o 12 fs2)) (g2_4 : fs2[4]? = some (vI f2_4)) (w : k_is h f1_0 11) {P : k_H → Option Nat → Prop} (c : k_ctr (tX8_entryIn G l) [vR (some f1_0), vJ s0, vI f2_4] h P) (K : ∀ h1 v, P h1 v → k_X (jX11_get G l h0) h1 50 [(0, vR (some x0)), (5, vI x5), (6, vR (some x6)), (7, vJ s0)] [vR v, vJ s0, vR f1_2, vR (some x6)] Q) : k_X (jX11_get G l h0) h 26 [(0, vR (some x0)), (5, vI x5), (6, vR (some x6))] [vJ s0] Q := by
  obtain ⟨h1, v, c, p⟩ := c
  obtain ⟨h', r, K, q⟩ := K h1 v p
  exact ⟨h', r, j_lstore dX11_get_26 (by decide) rfl <| j_aload dX11_get_28 rfl <| j_aload_n dX11_get_30 rfl rfl <| j_getf dX11_get_31 kf_X11_28 o1 g1_2 <| j_lload dX11_get_34 rfl <| j_aload_n dX11_get_36 rfl rfl <| j_getf dX11_get_37 kf_X11_14 o1 g1_0 <| j_lload dX11_get_40 rfl <| j_aload dX11_get_42 rfl <| j_getf dX11_get_44 kf_X11_104 o2 g2_4 <| j_callV (v := some (vR v)) (as := [vJ s0, vI f2_4]) dX11_get_47 kc_X11_107 rfl rfl w (by decide) (Nat.le_of_ble_eq_true rfl) c K, q⟩
theorem bX11_get_50 {h0 h : k_H} {Q : k_H → k_R → Prop} {x0 s0 : Nat} {x5 : Int32} {x6 s1 s3 : Option Nat} {x7 s2 : Int64} (w : k_is h s0 12) {P : k_H → Prop} (c : k_ctv (tX9_look G l) [vR (some s0), vR s1, vJ s2, vR s3] h P) (K : ∀ h1, P h1 → k_X (jX11_get G l h0) h1 53 [(0, vR (some x0)), (5, vI x5), (6, vR x6), (7, vJ x7)] [] Q) : k_X (jX11_get G l h0) h 50 [(0, vR (some x0)), (5, vI x5), (6, vR x6), (7, vJ x7)] [vR s3, vJ s2, vR s1, vR (some s0)] Q := by
  obtain ⟨h1, c, p⟩ := c
  obtain ⟨h', r, K, q⟩ := K h1 p
  exact ⟨h', r, j_callV (v := none) (as := [vR s1, vJ s2, vR s3]) dX11_get_50 kc_X11_111 rfl rfl w (by decide) (Nat.le_of_ble_eq_true rfl) c K, q⟩
theorem bX11_get_53 {h0 h : k_H} {Q : k_H → k_R → Prop} {x0 f1_2 : Nat} {x5 f2_1 : Int32} {x6 : Option Nat} {x7 : Int64} {fs1 : List k_V} (o1 : h.1 x0 = some (k_o 14 fs1)) (g1_2 : fs1[2]? = some (vR (some f1_2))) {fs2 : List k_V} (o2 : h.1 f1_2 = some (k_o 3 fs2)) (g2_1 : fs2[1]? = some (vI f2_1)) (K1 : f2_1 = 0 → k_X (jX11_get G l h0) h 73 [(0, vR (some x0)), (5, vI x5), (6, vR x6), (7, vJ x7)] [] Q) (K2 : ¬ (f2_1 = 0) → k_X (jX11_get G l h0) h 63 [] [] Q) : k_X (jX11_get G l h0) h 53 [(0, vR (some x0)), (5, vI x5), (6, vR x6), (7, vJ x7)] [] Q := by
  by_cases hc : f2_1 = 0
  · skip
    obtain ⟨h', r, K, q⟩ := K1 hc
    exact ⟨h', r, j_aload_n dX11_get_53 rfl rfl <| j_getf dX11_get_54 kf_X11_28 o1 g1_2 <| j_getf dX11_get_57 kf_X11_115 o2 g2_1 <| j_if_eq_t (tgt := 73) dX11_get_60 (by decide) hc K, q⟩
  · skip
    obtain ⟨h', r, K, q⟩ := K2 hc
    exact ⟨h', r, j_aload_n dX11_get_53 rfl rfl <| j_getf dX11_get_54 kf_X11_28 o1 g1_2 <| j_getf dX11_get_57 kf_X11_115 o2 g2_1 <| j_if_eq_f dX11_get_60 73 (by decide) hc (j_pick [] rfl K), q⟩
theorem bX11_get_63 {h0 h : k_H} {Q : k_H → k_R → Prop} (q : Q (k_sk h 1 6) (.inr "java/lang/IllegalStateException")) : k_X (jX11_get G l h0) h 63 [] [] Q := by
  exact ⟨_, _, j_throwS kt_X11_119_121_123 dX11_get_63 dX11_get_66 dX11_get_67 dX11_get_69 dX11_get_72 (by decide) (Nat.le_of_ble_eq_true rfl), q⟩
theorem bX11_get_73 {h0 h : k_H} {Q : k_H → k_R → Prop} {x0 : Nat} {x5 : Int32} {x6 : Option Nat} {x7 : Int64} (K1 : x5 = 0 → k_X (jX11_get G l h0) h 85 [(0, vR (some x0))] [] Q) (K2 : ¬ (x5 = 0) → k_X (jX11_get G l h0) h 78 [(0, vR (some x0)), (6, vR x6), (7, vJ x7)] [] Q) : k_X (jX11_get G l h0) h 73 [(0, vR (some x0)), (5, vI x5), (6, vR x6), (7, vJ x7)] [] Q := by
  by_cases hc : x5 = 0
  · skip
    obtain ⟨h', r, K, q⟩ := K1 hc
    exact ⟨h', r, j_iload dX11_get_73 rfl <| j_if_eq_t (tgt := 85) dX11_get_75 (by decide) hc (j_pick [0] rfl K), q⟩
  · skip
    obtain ⟨h', r, K, q⟩ := K2 hc
    exact ⟨h', r, j_iload dX11_get_73 rfl <| j_if_eq_f dX11_get_75 85 (by decide) hc (j_pick [0, 2, 3] rfl K), q⟩
theorem bX11_get_78 {h0 h : k_H} {Q : k_H → k_R → Prop} {x0 x6 : Nat} {x7 : Int64} (w : k_is h x6 12) {P : k_H → Prop} (c : k_ctv (tX9_putDownKey G l) [vR (some x6), vJ x7] h P) (K : ∀ h1, P h1 → k_X (jX11_get G l h0) h1 85 [(0, vR (some x0))] [] Q) : k_X (jX11_get G l h0) h 78 [(0, vR (some x0)), (6, vR (some x6)), (7, vJ x7)] [] Q := by
  obtain ⟨h1, c, p⟩ := c
  obtain ⟨h', r, K, q⟩ := K h1 p
  exact ⟨h', r, j_aload dX11_get_78 rfl <| j_lload dX11_get_80 rfl <| j_callV (v := none) (as := [vJ x7]) dX11_get_82 kc_X11_126 rfl rfl w (by decide) (Nat.le_of_ble_eq_true rfl) c (j_pick [0] rfl K), q⟩
theorem bX11_get_85 {h0 h : k_H} {Q : k_H → k_R → Prop} {x0 f1_2 : Nat} {fs1 : List k_V} (o1 : h.1 x0 = some (k_o 14 fs1)) (g1_2 : fs1[2]? = some (vR (some f1_2))) (w : k_is h f1_2 3) {P : k_H → Int32 → Prop} (c : k_cti (tX0_told G l) [vR (some f1_2)] h P) (K : ∀ h1 v, P h1 v → k_X (jX11_get G l h0) h1 92 [] [vI v] Q) : k_X (jX11_get G l h0) h 85 [(0, vR (some x0))] [] Q := by
  obtain ⟨h1, v, c, p⟩ := c
  obtain ⟨h', r, K, q⟩ := K h1 v p
  exact ⟨h', r, j_aload_n dX11_get_85 rfl rfl <| j_getf dX11_get_86 kf_X11_28 o1 g1_2 <| j_callV (v := some (vI v)) (as := []) dX11_get_89 kc_X11_130 rfl rfl w (by decide) (Nat.le_of_ble_eq_true rfl) c (j_pick [] rfl K), q⟩
theorem bX11_get_92 {h0 h : k_H} {Q : k_H → k_R → Prop} {s0 : Int32} (q : Q h (.inl (some (vI s0)))) : k_X (jX11_get G l h0) h 92 [] [vI s0] Q := by
  exact ⟨_, _, j_iret dX11_get_92 rfl, q⟩
theorem eX11_range {G : k_G} {l : Launch} (hfl : l.flags = flags0) {h : k_H} {Q : k_H → k_R → Prop} {x0 : Nat} {x1 : Int32} {x2 : Int32} {x3 : Int32} {x4 : Int32} (K : k_X (jX11_range G l h) h 0 [(0, vR (some x0)), (1, vI x1), (2, vI x2), (3, vI x3), (4, vI x4)] [] Q) : k_ct (tX11_range G l) [vR (some x0), vI x1, vI x2, vI x3, vI x4] h Q := by
  obtain ⟨h', r, K, q⟩ := K
  exact ⟨h', r, k_CtOf (by decide +kernel) (Nat.le_of_ble_eq_true rfl) K hfl, q⟩

theorem bX11_range_0 {h0 h : k_H} {Q : k_H → k_R → Prop} {x0 : Nat} {x1 x2 x3 x4 : Int32} (w : k_is h x0 14) {P : k_H → Option Nat → Prop} (c : k_ctr (tX11_transactionAt G l) [vR (some x0), vI x1] h P) (K : ∀ h1 v, P h1 v → k_X (jX11_range G l h0) h1 5 [(0, vR (some x0)), (2, vI x2), (3, vI x3), (4, vI x4)] [vR v] Q) : k_X (jX11_range G l h0) h 0 [(0, vR (some x0)), (1, vI x1), (2, vI x2), (3, vI x3), (4, vI x4)] [] Q := by
  obtain ⟨h1, v, c, p⟩ := c
  obtain ⟨h', r, K, q⟩ := K h1 v p
  exact ⟨h', r, j_aload_n dX11_range_0 rfl rfl <| j_iload_n dX11_range_1 rfl rfl <| j_callV (v := some (vR v)) (as := [vI x1]) dX11_range_2 kc_X11_81 rfl rfl w (by decide) (Nat.le_of_ble_eq_true rfl) c (j_pick [0, 2, 3, 4] rfl K), q⟩
theorem bX11_range_0x {h0 h : k_H} {Q : k_H → k_R → Prop} {x0 : Nat} {x1 x2 x3 x4 : Int32} (w : k_is h x0 14) {E : String} {P : k_H → Prop} (c : k_ctx (tX11_transactionAt G l) [vR (some x0), vI x1] h E P) (q : ∀ h1, P h1 → Q h1 (.inr E)) : k_X (jX11_range G l h0) h 0 [(0, vR (some x0)), (1, vI x1), (2, vI x2), (3, vI x3), (4, vI x4)] [] Q := by
  obtain ⟨h1, c, p⟩ := c
  exact ⟨h1, _, j_aload_n dX11_range_0 rfl rfl <| j_iload_n dX11_range_1 rfl rfl <| j_callVx (as := [vI x1]) dX11_range_2 kc_X11_81 rfl rfl w (by decide) (Nat.le_of_ble_eq_true rfl) c, q h1 p⟩
theorem bX11_range_5 {h0 h : k_H} {Q : k_H → k_R → Prop} {x0 : Nat} {x2 x3 x4 : Int32} {s0 : Option Nat} {P : k_H → Prop} (c : k_ctv (tX11_requireRange G l) [vI x2, vI x3] h P) (K : ∀ h1, P h1 → k_X (jX11_range G l h0) h1 12 [(0, vR (some x0)), (2, vI x2), (3, vI x3), (4, vI x4), (5, vR s0)] [] Q) : k_X (jX11_range G l h0) h 5 [(0, vR (some x0)), (2, vI x2), (3, vI x3), (4, vI x4)] [vR s0] Q := by
  obtain ⟨h1, c, p⟩ := c
  obtain ⟨h', r, K, q⟩ := K h1 p
  exact ⟨h', r, j_astore dX11_range_5 (by decide) rfl <| j_iload_n dX11_range_7 rfl rfl <| j_iload_n dX11_range_8 rfl rfl <| j_callS (v := none) (as := [vI x2, vI x3]) dX11_range_9 kc_X11_134 rfl rfl (by decide) (Nat.le_of_ble_eq_true rfl) c K, q⟩
theorem bX11_range_5x {h0 h : k_H} {Q : k_H → k_R → Prop} {x0 : Nat} {x2 x3 x4 : Int32} {s0 : Option Nat} {E : String} {P : k_H → Prop} (c : k_ctx (tX11_requireRange G l) [vI x2, vI x3] h E P) (q : ∀ h1, P h1 → Q h1 (.inr E)) : k_X (jX11_range G l h0) h 5 [(0, vR (some x0)), (2, vI x2), (3, vI x3), (4, vI x4)] [vR s0] Q := by
  obtain ⟨h1, c, p⟩ := c
  exact ⟨h1, _, j_astore dX11_range_5 (by decide) rfl <| j_iload_n dX11_range_7 rfl rfl <| j_iload_n dX11_range_8 rfl rfl <| j_callSx (as := [vI x2, vI x3]) dX11_range_9 kc_X11_134 rfl rfl (by decide) (Nat.le_of_ble_eq_true rfl) c, q h1 p⟩
theorem bX11_range_12 {h0 h : k_H} {Q : k_H → k_R → Prop} {x0 : Nat} {x2 x3 x4 : Int32} {x5 : Option Nat} {P : k_H → Prop} (c : k_ctv (tX11_requireBegun G l) [vR x5] h P) (K : ∀ h1, P h1 → k_X (jX11_range G l h0) h1 17 [(0, vR (some x0)), (2, vI x2), (3, vI x3), (4, vI x4), (5, vR x5)] [] Q) : k_X (jX11_range G l h0) h 12 [(0, vR (some x0)), (2, vI x2), (3, vI x3), (4, vI x4), (5, vR x5)] [] Q := by
  obtain ⟨h1, c, p⟩ := c
  obtain ⟨h', r, K, q⟩ := K h1 p
  exact ⟨h', r, j_aload dX11_range_12 rfl <| j_callS (v := none) (as := [vR x5]) dX11_range_14 kc_X11_96 rfl rfl (by decide) (Nat.le_of_ble_eq_true rfl) c K, q⟩
theorem bX11_range_12x {h0 h : k_H} {Q : k_H → k_R → Prop} {x0 : Nat} {x2 x3 x4 : Int32} {x5 : Option Nat} {E : String} {P : k_H → Prop} (c : k_ctx (tX11_requireBegun G l) [vR x5] h E P) (q : ∀ h1, P h1 → Q h1 (.inr E)) : k_X (jX11_range G l h0) h 12 [(0, vR (some x0)), (2, vI x2), (3, vI x3), (4, vI x4), (5, vR x5)] [] Q := by
  obtain ⟨h1, c, p⟩ := c
  exact ⟨h1, _, j_aload dX11_range_12 rfl <| j_callSx (as := [vR x5]) dX11_range_14 kc_X11_96 rfl rfl (by decide) (Nat.le_of_ble_eq_true rfl) c, q h1 p⟩
theorem bX11_range_17 {h0 h : k_H} {Q : k_H → k_R → Prop} {x0 : Nat} {x2 x3 x4 : Int32} {x5 : Option Nat} {P : k_H → Int64 → Prop} (c : k_ctj (tX11_lowOf G l) [vI x2, vI x3] h P) (K : ∀ h1 v, P h1 v → k_X (jX11_range G l h0) h1 25 [(0, vR (some x0)), (2, vI x2), (3, vI x3), (4, vI x4), (5, vR x5)] [vJ v, vR x5, vR (some x0)] Q) : k_X (jX11_range G l h0) h 17 [(0, vR (some x0)), (2, vI x2), (3, vI x3), (4, vI x4), (5, vR x5)] [] Q := by
  obtain ⟨h1, v, c, p⟩ := c
  obtain ⟨h', r, K, q⟩ := K h1 v p
  exact ⟨h', r, j_aload_n dX11_range_17 rfl rfl <| j_aload dX11_range_18 rfl <| j_iload_n dX11_range_20 rfl rfl <| j_iload_n dX11_range_21 rfl rfl <| j_callS (v := some (vJ v)) (as := [vI x2, vI x3]) dX11_range_22 kc_X11_138 rfl rfl (by decide) (Nat.le_of_ble_eq_true rfl) c K, q⟩
theorem bX11_range_25 {h0 h : k_H} {Q : k_H → k_R → Prop} {x0 : Nat} {x2 x3 x4 : Int32} {x5 s0 s1 : Option Nat} {s2 : Int64} {P : k_H → Int64 → Prop} (c : k_ctj (tX11_highOf G l) [vI x2, vI x3] h P) (K : ∀ h1 v, P h1 v → k_X (jX11_range G l h0) h1 30 [(0, vR (some x0)), (2, vI x2), (3, vI x3), (4, vI x4), (5, vR x5)] [vJ v, vJ s2, vR s1, vR s0] Q) : k_X (jX11_range G l h0) h 25 [(0, vR (some x0)), (2, vI x2), (3, vI x3), (4, vI x4), (5, vR x5)] [vJ s2, vR s1, vR s0] Q := by
  obtain ⟨h1, v, c, p⟩ := c
  obtain ⟨h', r, K, q⟩ := K h1 v p
  exact ⟨h', r, j_iload_n dX11_range_25 rfl rfl <| j_iload_n dX11_range_26 rfl rfl <| j_callS (v := some (vJ v)) (as := [vI x2, vI x3]) dX11_range_27 kc_X11_142 rfl rfl (by decide) (Nat.le_of_ble_eq_true rfl) c K, q⟩
theorem bX11_range_30 {h0 h : k_H} {Q : k_H → k_R → Prop} {x0 s0 : Nat} {x2 x3 x4 : Int32} {x5 s1 : Option Nat} {s2 s3 : Int64} (w : k_is h s0 14) {P : k_H → Prop} (c : k_ctv (tX11_listSeen G l) [vR (some s0), vR s1, vJ s2, vJ s3] h P) (K : ∀ h1, P h1 → k_X (jX11_range G l h0) h1 33 [(0, vR (some x0)), (2, vI x2), (3, vI x3), (4, vI x4), (5, vR x5)] [] Q) : k_X (jX11_range G l h0) h 30 [(0, vR (some x0)), (2, vI x2), (3, vI x3), (4, vI x4), (5, vR x5)] [vJ s3, vJ s2, vR s1, vR (some s0)] Q := by
  obtain ⟨h1, c, p⟩ := c
  obtain ⟨h', r, K, q⟩ := K h1 p
  exact ⟨h', r, j_callV (v := none) (as := [vR s1, vJ s2, vJ s3]) dX11_range_30 kc_X11_145 rfl rfl w (by decide) (Nat.le_of_ble_eq_true rfl) c K, q⟩
theorem bX11_range_33 {h0 h : k_H} {Q : k_H → k_R → Prop} {x0 : Nat} {x2 x3 x4 : Int32} {x5 : Option Nat} (K1 : x4 = 0 → k_X (jX11_range G l h0) h 53 [(0, vR (some x0))] [] Q) (K2 : ¬ (x4 = 0) → k_X (jX11_range G l h0) h 38 [(0, vR (some x0)), (2, vI x2), (3, vI x3), (5, vR x5)] [] Q) : k_X (jX11_range G l h0) h 33 [(0, vR (some x0)), (2, vI x2), (3, vI x3), (4, vI x4), (5, vR x5)] [] Q := by
  by_cases hc : x4 = 0
  · skip
    obtain ⟨h', r, K, q⟩ := K1 hc
    exact ⟨h', r, j_iload dX11_range_33 rfl <| j_if_eq_t (tgt := 53) dX11_range_35 (by decide) hc (j_pick [0] rfl K), q⟩
  · skip
    obtain ⟨h', r, K, q⟩ := K2 hc
    exact ⟨h', r, j_iload dX11_range_33 rfl <| j_if_eq_f dX11_range_35 53 (by decide) hc (j_pick [0, 1, 2, 4] rfl K), q⟩
theorem bX11_range_38 {h0 h : k_H} {Q : k_H → k_R → Prop} {x0 : Nat} {x2 x3 : Int32} {x5 : Option Nat} {P : k_H → Int64 → Prop} (c : k_ctj (tX11_lowOf G l) [vI x2, vI x3] h P) (K : ∀ h1 v, P h1 v → k_X (jX11_range G l h0) h1 45 [(0, vR (some x0)), (2, vI x2), (3, vI x3)] [vJ v, vR x5] Q) : k_X (jX11_range G l h0) h 38 [(0, vR (some x0)), (2, vI x2), (3, vI x3), (5, vR x5)] [] Q := by
  obtain ⟨h1, v, c, p⟩ := c
  obtain ⟨h', r, K, q⟩ := K h1 v p
  exact ⟨h', r, j_aload dX11_range_38 rfl <| j_iload_n dX11_range_40 rfl rfl <| j_iload_n dX11_range_41 rfl rfl <| j_callS (v := some (vJ v)) (as := [vI x2, vI x3]) dX11_range_42 kc_X11_138 rfl rfl (by decide) (Nat.le_of_ble_eq_true rfl) c (j_pick [0, 1, 2] rfl K), q⟩
theorem bX11_range_45 {h0 h : k_H} {Q : k_H → k_R → Prop} {x0 : Nat} {x2 x3 : Int32} {s0 : Option Nat} {s1 : Int64} {P : k_H → Int64 → Prop} (c : k_ctj (tX11_highOf G l) [vI x2, vI x3] h P) (K : ∀ h1 v, P h1 v → k_X (jX11_range G l h0) h1 50 [(0, vR (some x0))] [vJ v, vJ s1, vR s0] Q) : k_X (jX11_range G l h0) h 45 [(0, vR (some x0)), (2, vI x2), (3, vI x3)] [vJ s1, vR s0] Q := by
  obtain ⟨h1, v, c, p⟩ := c
  obtain ⟨h', r, K, q⟩ := K h1 v p
  exact ⟨h', r, j_iload_n dX11_range_45 rfl rfl <| j_iload_n dX11_range_46 rfl rfl <| j_callS (v := some (vJ v)) (as := [vI x2, vI x3]) dX11_range_47 kc_X11_142 rfl rfl (by decide) (Nat.le_of_ble_eq_true rfl) c (j_pick [0] rfl K), q⟩
theorem bX11_range_50 {h0 h : k_H} {Q : k_H → k_R → Prop} {x0 s0 : Nat} {s1 s2 : Int64} (w : k_is h s0 12) {P : k_H → Prop} (c : k_ctv (tX9_putDown G l) [vR (some s0), vJ s1, vJ s2] h P) (K : ∀ h1, P h1 → k_X (jX11_range G l h0) h1 53 [(0, vR (some x0))] [] Q) : k_X (jX11_range G l h0) h 50 [(0, vR (some x0))] [vJ s2, vJ s1, vR (some s0)] Q := by
  obtain ⟨h1, c, p⟩ := c
  obtain ⟨h', r, K, q⟩ := K h1 p
  exact ⟨h', r, j_callV (v := none) (as := [vJ s1, vJ s2]) dX11_range_50 kc_X11_149 rfl rfl w (by decide) (Nat.le_of_ble_eq_true rfl) c K, q⟩
theorem bX11_range_53 {h0 h : k_H} {Q : k_H → k_R → Prop} {x0 f1_4 : Nat} {fs1 : List k_V} (o1 : h.1 x0 = some (k_o 14 fs1)) (g1_4 : fs1[4]? = some (vR (some f1_4))) (w : k_is h f1_4 2) {P : k_H → Int32 → Prop} (c : k_cti (tAL_size G l) [vR (some f1_4)] h P) (K : ∀ h1 v, P h1 v → k_X (jX11_range G l h0) h1 60 [] [vI v] Q) : k_X (jX11_range G l h0) h 53 [(0, vR (some x0))] [] Q := by
  obtain ⟨h1, v, c, p⟩ := c
  obtain ⟨h', r, K, q⟩ := K h1 v p
  exact ⟨h', r, j_aload_n dX11_range_53 rfl rfl <| j_getf dX11_range_54 kf_X11_39 o1 g1_4 <| j_callV (v := some (vI v)) (as := []) dX11_range_57 kc_X11_153 rfl rfl w (by decide) (Nat.le_of_ble_eq_true rfl) c (j_pick [] rfl K), q⟩
theorem bX11_range_60 {h0 h : k_H} {Q : k_H → k_R → Prop} {s0 : Int32} (q : Q h (.inl (some (vI s0)))) : k_X (jX11_range G l h0) h 60 [] [vI s0] Q := by
  exact ⟨_, _, j_iret dX11_range_60 rfl, q⟩
theorem eX11_rangeAt {G : k_G} {l : Launch} (hfl : l.flags = flags0) {h : k_H} {Q : k_H → k_R → Prop} {x0 : Nat} {x1 : Int32} {x2 : Int32} {x3 : Int32} {x4 : Int32} {x5 : Int32} (K : k_X (jX11_rangeAt G l h) h 0 [(0, vR (some x0)), (1, vI x1), (2, vI x2), (3, vI x3), (4, vI x4), (5, vI x5)] [] Q) : k_ct (tX11_rangeAt G l) [vR (some x0), vI x1, vI x2, vI x3, vI x4, vI x5] h Q := by
  obtain ⟨h', r, K, q⟩ := K
  exact ⟨h', r, k_CtOf (by decide +kernel) (Nat.le_of_ble_eq_true rfl) K hfl, q⟩

theorem bX11_rangeAt_0 {h0 h : k_H} {Q : k_H → k_R → Prop} {x0 : Nat} {x1 x2 x3 x4 x5 : Int32} (w : k_is h x0 14) {P : k_H → Option Nat → Prop} (c : k_ctr (tX11_transactionAt G l) [vR (some x0), vI x1] h P) (K : ∀ h1 v, P h1 v → k_X (jX11_rangeAt G l h0) h1 5 [(0, vR (some x0)), (2, vI x2), (3, vI x3), (4, vI x4), (5, vI x5)] [vR v] Q) : k_X (jX11_rangeAt G l h0) h 0 [(0, vR (some x0)), (1, vI x1), (2, vI x2), (3, vI x3), (4, vI x4), (5, vI x5)] [] Q := by
  obtain ⟨h1, v, c, p⟩ := c
  obtain ⟨h', r, K, q⟩ := K h1 v p
  exact ⟨h', r, j_aload_n dX11_rangeAt_0 rfl rfl <| j_iload_n dX11_rangeAt_1 rfl rfl <| j_callV (v := some (vR v)) (as := [vI x1]) dX11_rangeAt_2 kc_X11_81 rfl rfl w (by decide) (Nat.le_of_ble_eq_true rfl) c (j_pick [0, 2, 3, 4, 5] rfl K), q⟩
theorem bX11_rangeAt_0x {h0 h : k_H} {Q : k_H → k_R → Prop} {x0 : Nat} {x1 x2 x3 x4 x5 : Int32} (w : k_is h x0 14) {E : String} {P : k_H → Prop} (c : k_ctx (tX11_transactionAt G l) [vR (some x0), vI x1] h E P) (q : ∀ h1, P h1 → Q h1 (.inr E)) : k_X (jX11_rangeAt G l h0) h 0 [(0, vR (some x0)), (1, vI x1), (2, vI x2), (3, vI x3), (4, vI x4), (5, vI x5)] [] Q := by
  obtain ⟨h1, c, p⟩ := c
  exact ⟨h1, _, j_aload_n dX11_rangeAt_0 rfl rfl <| j_iload_n dX11_rangeAt_1 rfl rfl <| j_callVx (as := [vI x1]) dX11_rangeAt_2 kc_X11_81 rfl rfl w (by decide) (Nat.le_of_ble_eq_true rfl) c, q h1 p⟩
theorem bX11_rangeAt_5 {h0 h : k_H} {Q : k_H → k_R → Prop} {x0 : Nat} {x2 x3 x4 x5 : Int32} {s0 : Option Nat} (K1 : 0 ≤ x4 → k_X (jX11_rangeAt G l h0) h 22 [(0, vR (some x0)), (2, vI x2), (3, vI x3), (4, vI x4), (5, vI x5), (6, vR s0)] [] Q) (K2 : ¬ (0 ≤ x4) → k_X (jX11_rangeAt G l h0) h 12 [] [] Q) : k_X (jX11_rangeAt G l h0) h 5 [(0, vR (some x0)), (2, vI x2), (3, vI x3), (4, vI x4), (5, vI x5)] [vR s0] Q := by
  by_cases hc : 0 ≤ x4
  · skip
    obtain ⟨h', r, K, q⟩ := K1 hc
    exact ⟨h', r, j_astore dX11_rangeAt_5 (by decide) rfl <| j_iload dX11_rangeAt_7 rfl <| j_if_ge_t (tgt := 22) dX11_rangeAt_9 (by decide) hc K, q⟩
  · skip
    obtain ⟨h', r, K, q⟩ := K2 hc
    exact ⟨h', r, j_astore dX11_rangeAt_5 (by decide) rfl <| j_iload dX11_rangeAt_7 rfl <| j_if_ge_f dX11_rangeAt_9 22 (by decide) hc (j_pick [] rfl K), q⟩
theorem bX11_rangeAt_12 {h0 h : k_H} {Q : k_H → k_R → Prop} (q : Q (k_sk h 1 6) (.inr "java/lang/IndexOutOfBoundsException")) : k_X (jX11_rangeAt G l h0) h 12 [] [] Q := by
  exact ⟨_, _, j_throwS kt_X11_156_158_160 dX11_rangeAt_12 dX11_rangeAt_15 dX11_rangeAt_16 dX11_rangeAt_18 dX11_rangeAt_21 (by decide) (Nat.le_of_ble_eq_true rfl), q⟩
theorem bX11_rangeAt_22 {h0 h : k_H} {Q : k_H → k_R → Prop} {x0 : Nat} {x2 x3 x4 x5 : Int32} {x6 : Option Nat} {P : k_H → Prop} (c : k_ctv (tX11_requireRange G l) [vI x2, vI x3] h P) (K : ∀ h1, P h1 → k_X (jX11_rangeAt G l h0) h1 27 [(0, vR (some x0)), (2, vI x2), (3, vI x3), (4, vI x4), (5, vI x5), (6, vR x6)] [] Q) : k_X (jX11_rangeAt G l h0) h 22 [(0, vR (some x0)), (2, vI x2), (3, vI x3), (4, vI x4), (5, vI x5), (6, vR x6)] [] Q := by
  obtain ⟨h1, c, p⟩ := c
  obtain ⟨h', r, K, q⟩ := K h1 p
  exact ⟨h', r, j_iload_n dX11_rangeAt_22 rfl rfl <| j_iload_n dX11_rangeAt_23 rfl rfl <| j_callS (v := none) (as := [vI x2, vI x3]) dX11_rangeAt_24 kc_X11_134 rfl rfl (by decide) (Nat.le_of_ble_eq_true rfl) c K, q⟩
theorem bX11_rangeAt_22x {h0 h : k_H} {Q : k_H → k_R → Prop} {x0 : Nat} {x2 x3 x4 x5 : Int32} {x6 : Option Nat} {E : String} {P : k_H → Prop} (c : k_ctx (tX11_requireRange G l) [vI x2, vI x3] h E P) (q : ∀ h1, P h1 → Q h1 (.inr E)) : k_X (jX11_rangeAt G l h0) h 22 [(0, vR (some x0)), (2, vI x2), (3, vI x3), (4, vI x4), (5, vI x5), (6, vR x6)] [] Q := by
  obtain ⟨h1, c, p⟩ := c
  exact ⟨h1, _, j_iload_n dX11_rangeAt_22 rfl rfl <| j_iload_n dX11_rangeAt_23 rfl rfl <| j_callSx (as := [vI x2, vI x3]) dX11_rangeAt_24 kc_X11_134 rfl rfl (by decide) (Nat.le_of_ble_eq_true rfl) c, q h1 p⟩
theorem bX11_rangeAt_27 {h0 h : k_H} {Q : k_H → k_R → Prop} {x0 : Nat} {x2 x3 x4 x5 : Int32} {x6 : Option Nat} (K1 : x5 < 0 → k_X (jX11_rangeAt G l h0) h 38 [] [] Q) (K2 : ¬ (x5 < 0) → k_X (jX11_rangeAt G l h0) h 32 [(0, vR (some x0)), (2, vI x2), (3, vI x3), (4, vI x4), (5, vI x5), (6, vR x6)] [] Q) : k_X (jX11_rangeAt G l h0) h 27 [(0, vR (some x0)), (2, vI x2), (3, vI x3), (4, vI x4), (5, vI x5), (6, vR x6)] [] Q := by
  by_cases hc : x5 < 0
  · skip
    obtain ⟨h', r, K, q⟩ := K1 hc
    exact ⟨h', r, j_iload dX11_rangeAt_27 rfl <| j_if_lt_t (tgt := 38) dX11_rangeAt_29 (by decide) hc (j_pick [] rfl K), q⟩
  · skip
    obtain ⟨h', r, K, q⟩ := K2 hc
    exact ⟨h', r, j_iload dX11_rangeAt_27 rfl <| j_if_lt_f dX11_rangeAt_29 38 (by decide) hc K, q⟩
theorem bX11_rangeAt_32 {h0 h : k_H} {Q : k_H → k_R → Prop} {x0 : Nat} {x2 x3 x4 x5 : Int32} {x6 : Option Nat} (K1 : x5 ≤ 2 → k_X (jX11_rangeAt G l h0) h 48 [(0, vR (some x0)), (2, vI x2), (3, vI x3), (4, vI x4), (5, vI x5), (6, vR x6)] [] Q) (K2 : ¬ (x5 ≤ 2) → k_X (jX11_rangeAt G l h0) h 38 [] [] Q) : k_X (jX11_rangeAt G l h0) h 32 [(0, vR (some x0)), (2, vI x2), (3, vI x3), (4, vI x4), (5, vI x5), (6, vR x6)] [] Q := by
  by_cases hc : x5 ≤ 2
  · skip
    obtain ⟨h', r, K, q⟩ := K1 hc
    exact ⟨h', r, j_iload dX11_rangeAt_32 rfl <| j_iconst (v := 2) dX11_rangeAt_34 (by decide) <| j_icmp_le_t (tgt := 48) dX11_rangeAt_35 (by decide) hc K, q⟩
  · skip
    obtain ⟨h', r, K, q⟩ := K2 hc
    exact ⟨h', r, j_iload dX11_rangeAt_32 rfl <| j_iconst (v := 2) dX11_rangeAt_34 (by decide) <| j_icmp_le_f dX11_rangeAt_35 48 (by decide) hc (j_pick [] rfl K), q⟩
theorem bX11_rangeAt_38 {h0 h : k_H} {Q : k_H → k_R → Prop} (q : Q (k_sk h 1 6) (.inr "java/lang/IllegalArgumentException")) : k_X (jX11_rangeAt G l h0) h 38 [] [] Q := by
  exact ⟨_, _, j_throwS kt_X11_161_163_165 dX11_rangeAt_38 dX11_rangeAt_41 dX11_rangeAt_42 dX11_rangeAt_44 dX11_rangeAt_47 (by decide) (Nat.le_of_ble_eq_true rfl), q⟩
theorem bX11_rangeAt_48 {h0 h : k_H} {Q : k_H → k_R → Prop} {x0 : Nat} {x2 x3 x4 x5 : Int32} {x6 : Option Nat} {P : k_H → Prop} (c : k_ctv (tX11_requireBegun G l) [vR x6] h P) (K : ∀ h1, P h1 → k_X (jX11_rangeAt G l h0) h1 53 [(0, vR (some x0)), (2, vI x2), (3, vI x3), (4, vI x4), (5, vI x5), (6, vR x6)] [] Q) : k_X (jX11_rangeAt G l h0) h 48 [(0, vR (some x0)), (2, vI x2), (3, vI x3), (4, vI x4), (5, vI x5), (6, vR x6)] [] Q := by
  obtain ⟨h1, c, p⟩ := c
  obtain ⟨h', r, K, q⟩ := K h1 p
  exact ⟨h', r, j_aload dX11_rangeAt_48 rfl <| j_callS (v := none) (as := [vR x6]) dX11_rangeAt_50 kc_X11_96 rfl rfl (by decide) (Nat.le_of_ble_eq_true rfl) c K, q⟩
theorem bX11_rangeAt_48x {h0 h : k_H} {Q : k_H → k_R → Prop} {x0 : Nat} {x2 x3 x4 x5 : Int32} {x6 : Option Nat} {E : String} {P : k_H → Prop} (c : k_ctx (tX11_requireBegun G l) [vR x6] h E P) (q : ∀ h1, P h1 → Q h1 (.inr E)) : k_X (jX11_rangeAt G l h0) h 48 [(0, vR (some x0)), (2, vI x2), (3, vI x3), (4, vI x4), (5, vI x5), (6, vR x6)] [] Q := by
  obtain ⟨h1, c, p⟩ := c
  exact ⟨h1, _, j_aload dX11_rangeAt_48 rfl <| j_callSx (as := [vR x6]) dX11_rangeAt_50 kc_X11_96 rfl rfl (by decide) (Nat.le_of_ble_eq_true rfl) c, q h1 p⟩
theorem bX11_rangeAt_53 {h0 h : k_H} {Q : k_H → k_R → Prop} {x0 : Nat} {x2 x3 x4 x5 : Int32} {x6 : Option Nat} {P : k_H → Int64 → Prop} (c : k_ctj (tX11_lowOf G l) [vI x2, vI x3] h P) (K : ∀ h1 v, P h1 v → k_X (jX11_rangeAt G l h0) h1 61 [(0, vR (some x0)), (2, vI x2), (3, vI x3), (4, vI x4), (5, vI x5), (6, vR x6)] [vJ v, vR x6, vR (some x0)] Q) : k_X (jX11_rangeAt G l h0) h 53 [(0, vR (some x0)), (2, vI x2), (3, vI x3), (4, vI x4), (5, vI x5), (6, vR x6)] [] Q := by
  obtain ⟨h1, v, c, p⟩ := c
  obtain ⟨h', r, K, q⟩ := K h1 v p
  exact ⟨h', r, j_aload_n dX11_rangeAt_53 rfl rfl <| j_aload dX11_rangeAt_54 rfl <| j_iload_n dX11_rangeAt_56 rfl rfl <| j_iload_n dX11_rangeAt_57 rfl rfl <| j_callS (v := some (vJ v)) (as := [vI x2, vI x3]) dX11_rangeAt_58 kc_X11_138 rfl rfl (by decide) (Nat.le_of_ble_eq_true rfl) c K, q⟩
theorem bX11_rangeAt_61 {h0 h : k_H} {Q : k_H → k_R → Prop} {x0 : Nat} {x2 x3 x4 x5 : Int32} {x6 s0 s1 : Option Nat} {s2 : Int64} {P : k_H → Int64 → Prop} (c : k_ctj (tX11_highOf G l) [vI x2, vI x3] h P) (K : ∀ h1 v, P h1 v → k_X (jX11_rangeAt G l h0) h1 66 [(0, vR (some x0)), (2, vI x2), (3, vI x3), (4, vI x4), (5, vI x5), (6, vR x6)] [vJ v, vJ s2, vR s1, vR s0] Q) : k_X (jX11_rangeAt G l h0) h 61 [(0, vR (some x0)), (2, vI x2), (3, vI x3), (4, vI x4), (5, vI x5), (6, vR x6)] [vJ s2, vR s1, vR s0] Q := by
  obtain ⟨h1, v, c, p⟩ := c
  obtain ⟨h', r, K, q⟩ := K h1 v p
  exact ⟨h', r, j_iload_n dX11_rangeAt_61 rfl rfl <| j_iload_n dX11_rangeAt_62 rfl rfl <| j_callS (v := some (vJ v)) (as := [vI x2, vI x3]) dX11_rangeAt_63 kc_X11_142 rfl rfl (by decide) (Nat.le_of_ble_eq_true rfl) c K, q⟩
theorem bX11_rangeAt_66 {h0 h : k_H} {Q : k_H → k_R → Prop} {x0 s0 : Nat} {x2 x3 x4 x5 : Int32} {x6 s1 : Option Nat} {s2 s3 : Int64} (w : k_is h s0 14) {P : k_H → Prop} (c : k_ctv (tX11_listSeen G l) [vR (some s0), vR s1, vJ s2, vJ s3] h P) (K : ∀ h1, P h1 → k_X (jX11_rangeAt G l h0) h1 69 [(0, vR (some x0)), (2, vI x2), (3, vI x3), (4, vI x4), (5, vI x5), (6, vR x6)] [] Q) : k_X (jX11_rangeAt G l h0) h 66 [(0, vR (some x0)), (2, vI x2), (3, vI x3), (4, vI x4), (5, vI x5), (6, vR x6)] [vJ s3, vJ s2, vR s1, vR (some s0)] Q := by
  obtain ⟨h1, c, p⟩ := c
  obtain ⟨h', r, K, q⟩ := K h1 p
  exact ⟨h', r, j_callV (v := none) (as := [vR s1, vJ s2, vJ s3]) dX11_rangeAt_66 kc_X11_145 rfl rfl w (by decide) (Nat.le_of_ble_eq_true rfl) c K, q⟩
theorem bX11_rangeAt_69 {h0 h : k_H} {Q : k_H → k_R → Prop} {x0 : Nat} {x2 x3 x4 x5 : Int32} {x6 : Option Nat} {P : k_H → Int64 → Prop} (c : k_ctj (tX11_lowOf G l) [vI x2, vI x3] h P) (K : ∀ h1 v, P h1 v → k_X (jX11_rangeAt G l h0) h1 76 [(0, vR (some x0)), (2, vI x2), (3, vI x3), (4, vI x4), (5, vI x5)] [vJ v, vR x6] Q) : k_X (jX11_rangeAt G l h0) h 69 [(0, vR (some x0)), (2, vI x2), (3, vI x3), (4, vI x4), (5, vI x5), (6, vR x6)] [] Q := by
  obtain ⟨h1, v, c, p⟩ := c
  obtain ⟨h', r, K, q⟩ := K h1 v p
  exact ⟨h', r, j_aload dX11_rangeAt_69 rfl <| j_iload_n dX11_rangeAt_71 rfl rfl <| j_iload_n dX11_rangeAt_72 rfl rfl <| j_callS (v := some (vJ v)) (as := [vI x2, vI x3]) dX11_rangeAt_73 kc_X11_138 rfl rfl (by decide) (Nat.le_of_ble_eq_true rfl) c (j_pick [0, 1, 2, 3, 4] rfl K), q⟩
theorem bX11_rangeAt_76 {h0 h : k_H} {Q : k_H → k_R → Prop} {x0 : Nat} {x2 x3 x4 x5 : Int32} {s0 : Option Nat} {s1 : Int64} {P : k_H → Int64 → Prop} (c : k_ctj (tX11_highOf G l) [vI x2, vI x3] h P) (K : ∀ h1 v, P h1 v → k_X (jX11_rangeAt G l h0) h1 81 [(0, vR (some x0)), (4, vI x4), (5, vI x5)] [vJ v, vJ s1, vR s0] Q) : k_X (jX11_rangeAt G l h0) h 76 [(0, vR (some x0)), (2, vI x2), (3, vI x3), (4, vI x4), (5, vI x5)] [vJ s1, vR s0] Q := by
  obtain ⟨h1, v, c, p⟩ := c
  obtain ⟨h', r, K, q⟩ := K h1 v p
  exact ⟨h', r, j_iload_n dX11_rangeAt_76 rfl rfl <| j_iload_n dX11_rangeAt_77 rfl rfl <| j_callS (v := some (vJ v)) (as := [vI x2, vI x3]) dX11_rangeAt_78 kc_X11_142 rfl rfl (by decide) (Nat.le_of_ble_eq_true rfl) c (j_pick [0, 3, 4] rfl K), q⟩
theorem bX11_rangeAt_81 {h0 h : k_H} {Q : k_H → k_R → Prop} {x0 s0 : Nat} {x4 x5 : Int32} {s1 s2 : Int64} (w : k_is h s0 12) {P : k_H → Prop} (c : k_ctv (tX9_putDown G l) [vR (some s0), vJ s1, vJ s2] h P) (K : ∀ h1, P h1 → k_X (jX11_rangeAt G l h0) h1 84 [(0, vR (some x0)), (4, vI x4), (5, vI x5)] [] Q) : k_X (jX11_rangeAt G l h0) h 81 [(0, vR (some x0)), (4, vI x4), (5, vI x5)] [vJ s2, vJ s1, vR (some s0)] Q := by
  obtain ⟨h1, c, p⟩ := c
  obtain ⟨h', r, K, q⟩ := K h1 p
  exact ⟨h', r, j_callV (v := none) (as := [vJ s1, vJ s2]) dX11_rangeAt_81 kc_X11_149 rfl rfl w (by decide) (Nat.le_of_ble_eq_true rfl) c K, q⟩
theorem bX11_rangeAt_84 {h0 h : k_H} {Q : k_H → k_R → Prop} {x0 f1_4 : Nat} {x4 x5 : Int32} {fs1 : List k_V} (o1 : h.1 x0 = some (k_o 14 fs1)) (g1_4 : fs1[4]? = some (vR (some f1_4))) (w : k_is h f1_4 2) {P : k_H → Int32 → Prop} (c : k_cti (tAL_size G l) [vR (some f1_4)] h P) (K : ∀ h1 v, P h1 v → k_X (jX11_rangeAt G l h0) h1 93 [(0, vR (some x0)), (4, vI x4), (5, vI x5)] [vI v, vI x4] Q) : k_X (jX11_rangeAt G l h0) h 84 [(0, vR (some x0)), (4, vI x4), (5, vI x5)] [] Q := by
  obtain ⟨h1, v, c, p⟩ := c
  obtain ⟨h', r, K, q⟩ := K h1 v p
  exact ⟨h', r, j_iload dX11_rangeAt_84 rfl <| j_aload_n dX11_rangeAt_86 rfl rfl <| j_getf dX11_rangeAt_87 kf_X11_39 o1 g1_4 <| j_callV (v := some (vI v)) (as := []) dX11_rangeAt_90 kc_X11_153 rfl rfl w (by decide) (Nat.le_of_ble_eq_true rfl) c K, q⟩
theorem bX11_rangeAt_93 {h0 h : k_H} {Q : k_H → k_R → Prop} {x0 : Nat} {x4 x5 s0 s1 : Int32} (K1 : s1 ≤ s0 → k_X (jX11_rangeAt G l h0) h 119 [] [] Q) (K2 : ¬ (s1 ≤ s0) → k_X (jX11_rangeAt G l h0) h 96 [(0, vR (some x0)), (4, vI x4), (5, vI x5)] [] Q) : k_X (jX11_rangeAt G l h0) h 93 [(0, vR (some x0)), (4, vI x4), (5, vI x5)] [vI s1, vI s0] Q := by
  by_cases hc : s1 ≤ s0
  · skip
    obtain ⟨h', r, K, q⟩ := K1 hc
    exact ⟨h', r, j_icmp_ge_t (tgt := 119) dX11_rangeAt_93 (by decide) hc (j_pick [] rfl K), q⟩
  · skip
    obtain ⟨h', r, K, q⟩ := K2 hc
    exact ⟨h', r, j_icmp_ge_f dX11_rangeAt_93 119 (by decide) hc K, q⟩
theorem bX11_rangeAt_96 {h0 h : k_H} {Q : k_H → k_R → Prop} {x0 f1_4 : Nat} {x4 x5 : Int32} {fs1 : List k_V} (o1 : h.1 x0 = some (k_o 14 fs1)) (g1_4 : fs1[4]? = some (vR (some f1_4))) (w : k_is h f1_4 2) {P : k_H → Option Nat → Prop} (c : k_ctr (tAL_get G l) [vR (some f1_4), vI x4] h P) (K : ∀ h1 v, P h1 v → k_X (jX11_rangeAt G l h0) h1 105 [(5, vI x5)] [vR v] Q) : k_X (jX11_rangeAt G l h0) h 96 [(0, vR (some x0)), (4, vI x4), (5, vI x5)] [] Q := by
  obtain ⟨h1, v, c, p⟩ := c
  obtain ⟨h', r, K, q⟩ := K h1 v p
  exact ⟨h', r, j_aload_n dX11_rangeAt_96 rfl rfl <| j_getf dX11_rangeAt_97 kf_X11_39 o1 g1_4 <| j_iload dX11_rangeAt_100 rfl <| j_callV (v := some (vR v)) (as := [vI x4]) dX11_rangeAt_102 kc_X11_166 rfl rfl w (by decide) (Nat.le_of_ble_eq_true rfl) c (j_pick [2] rfl K), q⟩
theorem bX11_rangeAt_105 {h0 h : k_H} {Q : k_H → k_R → Prop} {x5 : Int32} {s0 : Nat} {f1_0 : Int64} {fs1 : List k_V} (o1 : h.1 s0 = some (k_o 7 fs1)) (g1_0 : fs1[0]? = some (vJ f1_0)) {P : k_H → Int32 → Prop} (c : k_cti (tX11_numberOf G l) [vJ f1_0, vI x5] h P) (K : ∀ h1 v, P h1 v → k_X (jX11_rangeAt G l h0) h1 116 [] [vI v] Q) : k_X (jX11_rangeAt G l h0) h 105 [(5, vI x5)] [vR (some s0)] Q := by
  obtain ⟨h1, v, c, p⟩ := c
  obtain ⟨h', r, K, q⟩ := K h1 v p
  exact ⟨h', r, j_cast dX11_rangeAt_105 kk_X11_170 o1 <| j_getf dX11_rangeAt_108 kf_X11_172 o1 g1_0 <| j_iload dX11_rangeAt_111 rfl <| j_callS (v := some (vI v)) (as := [vJ f1_0, vI x5]) dX11_rangeAt_113 kc_X11_176 rfl rfl (by decide) (Nat.le_of_ble_eq_true rfl) c (j_pick [] rfl K), q⟩
theorem bX11_rangeAt_116 {h0 h : k_H} {Q : k_H → k_R → Prop} {s0 : Int32} (K : k_X (jX11_rangeAt G l h0) h 121 [] [vI s0] Q) : k_X (jX11_rangeAt G l h0) h 116 [] [vI s0] Q := by
  obtain ⟨h', r, K, q⟩ := K
  exact ⟨h', r, j_goto (tgt := 121) dX11_rangeAt_116 (by decide) <| K, q⟩
theorem bX11_rangeAt_119 {h0 h : k_H} {Q : k_H → k_R → Prop} (K : k_X (jX11_rangeAt G l h0) h 121 [] [vI (-2147483648)] Q) : k_X (jX11_rangeAt G l h0) h 119 [] [] Q := by
  obtain ⟨h', r, K, q⟩ := K
  exact ⟨h', r, j_ldc (v := (-2147483648)) dX11_rangeAt_119 ki_X11_62 <| K, q⟩
theorem bX11_rangeAt_121 {h0 h : k_H} {Q : k_H → k_R → Prop} {s0 : Int32} (q : Q h (.inl (some (vI s0)))) : k_X (jX11_rangeAt G l h0) h 121 [] [vI s0] Q := by
  exact ⟨_, _, j_iret dX11_rangeAt_121 rfl, q⟩
theorem eX11_change {G : k_G} {l : Launch} (hfl : l.flags = flags0) {h : k_H} {Q : k_H → k_R → Prop} {x0 : Nat} {x1 : Int32} {x2 : Int32} {x3 : Int32} {x4 : Int32} {x5 : Int32} {x6 : Int32} (K : k_X (jX11_change G l h) h 0 [(0, vR (some x0)), (1, vI x1), (2, vI x2), (3, vI x3), (4, vI x4), (5, vI x5), (6, vI x6)] [] Q) : k_ct (tX11_change G l) [vR (some x0), vI x1, vI x2, vI x3, vI x4, vI x5, vI x6] h Q := by
  obtain ⟨h', r, K, q⟩ := K
  exact ⟨h', r, k_CtOf (by decide +kernel) (Nat.le_of_ble_eq_true rfl) K hfl, q⟩

theorem bX11_change_0 {h0 h : k_H} {Q : k_H → k_R → Prop} {x0 : Nat} {x1 x2 x3 x4 x5 x6 : Int32} (w : k_is h x0 14) {P : k_H → Option Nat → Prop} (c : k_ctr (tX11_transactionAt G l) [vR (some x0), vI x1] h P) (K : ∀ h1 v, P h1 v → k_X (jX11_change G l h0) h1 5 [(0, vR (some x0)), (2, vI x2), (3, vI x3), (4, vI x4), (5, vI x5), (6, vI x6)] [vR v] Q) : k_X (jX11_change G l h0) h 0 [(0, vR (some x0)), (1, vI x1), (2, vI x2), (3, vI x3), (4, vI x4), (5, vI x5), (6, vI x6)] [] Q := by
  obtain ⟨h1, v, c, p⟩ := c
  obtain ⟨h', r, K, q⟩ := K h1 v p
  exact ⟨h', r, j_aload_n dX11_change_0 rfl rfl <| j_iload_n dX11_change_1 rfl rfl <| j_callV (v := some (vR v)) (as := [vI x1]) dX11_change_2 kc_X11_81 rfl rfl w (by decide) (Nat.le_of_ble_eq_true rfl) c (j_pick [0, 2, 3, 4, 5, 6] rfl K), q⟩
theorem bX11_change_0x {h0 h : k_H} {Q : k_H → k_R → Prop} {x0 : Nat} {x1 x2 x3 x4 x5 x6 : Int32} (w : k_is h x0 14) {E : String} {P : k_H → Prop} (c : k_ctx (tX11_transactionAt G l) [vR (some x0), vI x1] h E P) (q : ∀ h1, P h1 → Q h1 (.inr E)) : k_X (jX11_change G l h0) h 0 [(0, vR (some x0)), (1, vI x1), (2, vI x2), (3, vI x3), (4, vI x4), (5, vI x5), (6, vI x6)] [] Q := by
  obtain ⟨h1, c, p⟩ := c
  exact ⟨h1, _, j_aload_n dX11_change_0 rfl rfl <| j_iload_n dX11_change_1 rfl rfl <| j_callVx (as := [vI x1]) dX11_change_2 kc_X11_81 rfl rfl w (by decide) (Nat.le_of_ble_eq_true rfl) c, q h1 p⟩
theorem bX11_change_5 {h0 h : k_H} {Q : k_H → k_R → Prop} {x0 : Nat} {x2 x3 x4 x5 x6 : Int32} {s0 : Option Nat} (K1 : x2 < 0 → k_X (jX11_change G l h0) h 17 [] [] Q) (K2 : ¬ (x2 < 0) → k_X (jX11_change G l h0) h 11 [(0, vR (some x0)), (2, vI x2), (3, vI x3), (4, vI x4), (5, vI x5), (6, vI x6), (7, vR s0)] [] Q) : k_X (jX11_change G l h0) h 5 [(0, vR (some x0)), (2, vI x2), (3, vI x3), (4, vI x4), (5, vI x5), (6, vI x6)] [vR s0] Q := by
  by_cases hc : x2 < 0
  · skip
    obtain ⟨h', r, K, q⟩ := K1 hc
    exact ⟨h', r, j_astore dX11_change_5 (by decide) rfl <| j_iload_n dX11_change_7 rfl rfl <| j_if_lt_t (tgt := 17) dX11_change_8 (by decide) hc (j_pick [] rfl K), q⟩
  · skip
    obtain ⟨h', r, K, q⟩ := K2 hc
    exact ⟨h', r, j_astore dX11_change_5 (by decide) rfl <| j_iload_n dX11_change_7 rfl rfl <| j_if_lt_f dX11_change_8 17 (by decide) hc K, q⟩
theorem bX11_change_11 {h0 h : k_H} {Q : k_H → k_R → Prop} {x0 : Nat} {x2 x3 x4 x5 x6 : Int32} {x7 : Option Nat} (K1 : x2 ≤ 6 → k_X (jX11_change G l h0) h 27 [(0, vR (some x0)), (2, vI x2), (3, vI x3), (4, vI x4), (5, vI x5), (6, vI x6), (7, vR x7)] [] Q) (K2 : ¬ (x2 ≤ 6) → k_X (jX11_change G l h0) h 17 [] [] Q) : k_X (jX11_change G l h0) h 11 [(0, vR (some x0)), (2, vI x2), (3, vI x3), (4, vI x4), (5, vI x5), (6, vI x6), (7, vR x7)] [] Q := by
  by_cases hc : x2 ≤ 6
  · skip
    obtain ⟨h', r, K, q⟩ := K1 hc
    exact ⟨h', r, j_iload_n dX11_change_11 rfl rfl <| j_bipush (v := 6) dX11_change_12 (by decide) <| j_icmp_le_t (tgt := 27) dX11_change_14 (by decide) hc K, q⟩
  · skip
    obtain ⟨h', r, K, q⟩ := K2 hc
    exact ⟨h', r, j_iload_n dX11_change_11 rfl rfl <| j_bipush (v := 6) dX11_change_12 (by decide) <| j_icmp_le_f dX11_change_14 27 (by decide) hc (j_pick [] rfl K), q⟩
theorem bX11_change_17 {h0 h : k_H} {Q : k_H → k_R → Prop} (q : Q (k_sk h 1 6) (.inr "java/lang/IllegalArgumentException")) : k_X (jX11_change G l h0) h 17 [] [] Q := by
  exact ⟨_, _, j_throwS kt_X11_161_180_165 dX11_change_17 dX11_change_20 dX11_change_21 dX11_change_23 dX11_change_26 (by decide) (Nat.le_of_ble_eq_true rfl), q⟩
theorem bX11_change_27 {h0 h : k_H} {Q : k_H → k_R → Prop} {x0 : Nat} {x2 x3 x4 x5 x6 : Int32} {x7 : Option Nat} (K1 : x2 = 1 → k_X (jX11_change G l h0) h 61 [(0, vR (some x0)), (2, vI x2), (3, vI x3), (4, vI x4), (5, vI x5), (6, vI x6), (7, vR x7)] [] Q) (K2 : ¬ (x2 = 1) → k_X (jX11_change G l h0) h 32 [(0, vR (some x0)), (2, vI x2), (3, vI x3), (4, vI x4), (5, vI x5), (6, vI x6), (7, vR x7)] [] Q) : k_X (jX11_change G l h0) h 27 [(0, vR (some x0)), (2, vI x2), (3, vI x3), (4, vI x4), (5, vI x5), (6, vI x6), (7, vR x7)] [] Q := by
  by_cases hc : x2 = 1
  · skip
    obtain ⟨h', r, K, q⟩ := K1 hc
    exact ⟨h', r, j_iload_n dX11_change_27 rfl rfl <| j_iconst (v := 1) dX11_change_28 (by decide) <| j_icmp_eq_t (tgt := 61) dX11_change_29 (by decide) hc K, q⟩
  · skip
    obtain ⟨h', r, K, q⟩ := K2 hc
    exact ⟨h', r, j_iload_n dX11_change_27 rfl rfl <| j_iconst (v := 1) dX11_change_28 (by decide) <| j_icmp_eq_f dX11_change_29 61 (by decide) hc K, q⟩
theorem bX11_change_32 {h0 h : k_H} {Q : k_H → k_R → Prop} {x0 : Nat} {x2 x3 x4 x5 x6 : Int32} {x7 : Option Nat} (K1 : x2 = 5 → k_X (jX11_change G l h0) h 61 [(0, vR (some x0)), (2, vI x2), (3, vI x3), (4, vI x4), (5, vI x5), (6, vI x6), (7, vR x7)] [] Q) (K2 : ¬ (x2 = 5) → k_X (jX11_change G l h0) h 37 [(0, vR (some x0)), (2, vI x2), (3, vI x3), (4, vI x4), (5, vI x5), (6, vI x6), (7, vR x7)] [] Q) : k_X (jX11_change G l h0) h 32 [(0, vR (some x0)), (2, vI x2), (3, vI x3), (4, vI x4), (5, vI x5), (6, vI x6), (7, vR x7)] [] Q := by
  by_cases hc : x2 = 5
  · skip
    obtain ⟨h', r, K, q⟩ := K1 hc
    exact ⟨h', r, j_iload_n dX11_change_32 rfl rfl <| j_iconst (v := 5) dX11_change_33 (by decide) <| j_icmp_eq_t (tgt := 61) dX11_change_34 (by decide) hc K, q⟩
  · skip
    obtain ⟨h', r, K, q⟩ := K2 hc
    exact ⟨h', r, j_iload_n dX11_change_32 rfl rfl <| j_iconst (v := 5) dX11_change_33 (by decide) <| j_icmp_eq_f dX11_change_34 61 (by decide) hc K, q⟩
theorem bX11_change_37 {h0 h : k_H} {Q : k_H → k_R → Prop} {x0 : Nat} {x2 x3 x4 x5 x6 : Int32} {x7 : Option Nat} (K1 : x6 < (-1000000) → k_X (jX11_change G l h0) h 51 [] [] Q) (K2 : ¬ (x6 < (-1000000)) → k_X (jX11_change G l h0) h 44 [(0, vR (some x0)), (2, vI x2), (3, vI x3), (4, vI x4), (5, vI x5), (6, vI x6), (7, vR x7)] [] Q) : k_X (jX11_change G l h0) h 37 [(0, vR (some x0)), (2, vI x2), (3, vI x3), (4, vI x4), (5, vI x5), (6, vI x6), (7, vR x7)] [] Q := by
  by_cases hc : x6 < (-1000000)
  · skip
    obtain ⟨h', r, K, q⟩ := K1 hc
    exact ⟨h', r, j_iload dX11_change_37 rfl <| j_ldc (v := (-1000000)) dX11_change_39 ki_X11_182 <| j_icmp_lt_t (tgt := 51) dX11_change_41 (by decide) hc (j_pick [] rfl K), q⟩
  · skip
    obtain ⟨h', r, K, q⟩ := K2 hc
    exact ⟨h', r, j_iload dX11_change_37 rfl <| j_ldc (v := (-1000000)) dX11_change_39 ki_X11_182 <| j_icmp_lt_f dX11_change_41 51 (by decide) hc K, q⟩
theorem bX11_change_44 {h0 h : k_H} {Q : k_H → k_R → Prop} {x0 : Nat} {x2 x3 x4 x5 x6 : Int32} {x7 : Option Nat} (K1 : x6 ≤ 1000000 → k_X (jX11_change G l h0) h 61 [(0, vR (some x0)), (2, vI x2), (3, vI x3), (4, vI x4), (5, vI x5), (6, vI x6), (7, vR x7)] [] Q) (K2 : ¬ (x6 ≤ 1000000) → k_X (jX11_change G l h0) h 51 [] [] Q) : k_X (jX11_change G l h0) h 44 [(0, vR (some x0)), (2, vI x2), (3, vI x3), (4, vI x4), (5, vI x5), (6, vI x6), (7, vR x7)] [] Q := by
  by_cases hc : x6 ≤ 1000000
  · skip
    obtain ⟨h', r, K, q⟩ := K1 hc
    exact ⟨h', r, j_iload dX11_change_44 rfl <| j_ldc (v := 1000000) dX11_change_46 ki_X11_183 <| j_icmp_le_t (tgt := 61) dX11_change_48 (by decide) hc K, q⟩
  · skip
    obtain ⟨h', r, K, q⟩ := K2 hc
    exact ⟨h', r, j_iload dX11_change_44 rfl <| j_ldc (v := 1000000) dX11_change_46 ki_X11_183 <| j_icmp_le_f dX11_change_48 61 (by decide) hc (j_pick [] rfl K), q⟩
theorem bX11_change_51 {h0 h : k_H} {Q : k_H → k_R → Prop} (q : Q (k_sk h 1 6) (.inr "java/lang/IllegalArgumentException")) : k_X (jX11_change G l h0) h 51 [] [] Q := by
  exact ⟨_, _, j_throwS kt_X11_161_184_165 dX11_change_51 dX11_change_54 dX11_change_55 dX11_change_57 dX11_change_60 (by decide) (Nat.le_of_ble_eq_true rfl), q⟩
theorem bX11_change_61 {h0 h : k_H} {Q : k_H → k_R → Prop} {x0 : Nat} {x2 x3 x4 x5 x6 : Int32} {x7 : Option Nat} {P : k_H → Prop} (c : k_ctv (tX11_requireKey G l) [vI x3, vI x4, vI x5] h P) (K : ∀ h1, P h1 → k_X (jX11_change G l h0) h1 69 [(0, vR (some x0)), (2, vI x2), (3, vI x3), (4, vI x4), (5, vI x5), (6, vI x6), (7, vR x7)] [] Q) : k_X (jX11_change G l h0) h 61 [(0, vR (some x0)), (2, vI x2), (3, vI x3), (4, vI x4), (5, vI x5), (6, vI x6), (7, vR x7)] [] Q := by
  obtain ⟨h1, c, p⟩ := c
  obtain ⟨h', r, K, q⟩ := K h1 p
  exact ⟨h', r, j_iload_n dX11_change_61 rfl rfl <| j_iload dX11_change_62 rfl <| j_iload dX11_change_64 rfl <| j_callS (v := none) (as := [vI x3, vI x4, vI x5]) dX11_change_66 kc_X11_92 rfl rfl (by decide) (Nat.le_of_ble_eq_true rfl) c K, q⟩
theorem bX11_change_61x {h0 h : k_H} {Q : k_H → k_R → Prop} {x0 : Nat} {x2 x3 x4 x5 x6 : Int32} {x7 : Option Nat} {E : String} {P : k_H → Prop} (c : k_ctx (tX11_requireKey G l) [vI x3, vI x4, vI x5] h E P) (q : ∀ h1, P h1 → Q h1 (.inr E)) : k_X (jX11_change G l h0) h 61 [(0, vR (some x0)), (2, vI x2), (3, vI x3), (4, vI x4), (5, vI x5), (6, vI x6), (7, vR x7)] [] Q := by
  obtain ⟨h1, c, p⟩ := c
  exact ⟨h1, _, j_iload_n dX11_change_61 rfl rfl <| j_iload dX11_change_62 rfl <| j_iload dX11_change_64 rfl <| j_callSx (as := [vI x3, vI x4, vI x5]) dX11_change_66 kc_X11_92 rfl rfl (by decide) (Nat.le_of_ble_eq_true rfl) c, q h1 p⟩
theorem bX11_change_69 {h0 h : k_H} {Q : k_H → k_R → Prop} {x0 : Nat} {x2 x3 x4 x5 x6 : Int32} {x7 : Option Nat} {P : k_H → Prop} (c : k_ctv (tX11_requireAboveLayers G l) [vI x3] h P) (K : ∀ h1, P h1 → k_X (jX11_change G l h0) h1 73 [(0, vR (some x0)), (2, vI x2), (3, vI x3), (4, vI x4), (5, vI x5), (6, vI x6), (7, vR x7)] [] Q) : k_X (jX11_change G l h0) h 69 [(0, vR (some x0)), (2, vI x2), (3, vI x3), (4, vI x4), (5, vI x5), (6, vI x6), (7, vR x7)] [] Q := by
  obtain ⟨h1, c, p⟩ := c
  obtain ⟨h', r, K, q⟩ := K h1 p
  exact ⟨h', r, j_iload_n dX11_change_69 rfl rfl <| j_callS (v := none) (as := [vI x3]) dX11_change_70 kc_X11_186 rfl rfl (by decide) (Nat.le_of_ble_eq_true rfl) c K, q⟩
theorem bX11_change_69x {h0 h : k_H} {Q : k_H → k_R → Prop} {x0 : Nat} {x2 x3 x4 x5 x6 : Int32} {x7 : Option Nat} {E : String} {P : k_H → Prop} (c : k_ctx (tX11_requireAboveLayers G l) [vI x3] h E P) (q : ∀ h1, P h1 → Q h1 (.inr E)) : k_X (jX11_change G l h0) h 69 [(0, vR (some x0)), (2, vI x2), (3, vI x3), (4, vI x4), (5, vI x5), (6, vI x6), (7, vR x7)] [] Q := by
  obtain ⟨h1, c, p⟩ := c
  exact ⟨h1, _, j_iload_n dX11_change_69 rfl rfl <| j_callSx (as := [vI x3]) dX11_change_70 kc_X11_186 rfl rfl (by decide) (Nat.le_of_ble_eq_true rfl) c, q h1 p⟩
theorem bX11_change_73 {h0 h : k_H} {Q : k_H → k_R → Prop} {x0 : Nat} {x2 x3 x4 x5 x6 : Int32} {x7 : Option Nat} {P : k_H → Prop} (c : k_ctv (tX11_requireRoom G l) [vR x7] h P) (K : ∀ h1, P h1 → k_X (jX11_change G l h0) h1 78 [(0, vR (some x0)), (2, vI x2), (3, vI x3), (4, vI x4), (5, vI x5), (6, vI x6), (7, vR x7)] [] Q) : k_X (jX11_change G l h0) h 73 [(0, vR (some x0)), (2, vI x2), (3, vI x3), (4, vI x4), (5, vI x5), (6, vI x6), (7, vR x7)] [] Q := by
  obtain ⟨h1, c, p⟩ := c
  obtain ⟨h', r, K, q⟩ := K h1 p
  exact ⟨h', r, j_aload dX11_change_73 rfl <| j_callS (v := none) (as := [vR x7]) dX11_change_75 kc_X11_190 rfl rfl (by decide) (Nat.le_of_ble_eq_true rfl) c K, q⟩
theorem bX11_change_73x {h0 h : k_H} {Q : k_H → k_R → Prop} {x0 : Nat} {x2 x3 x4 x5 x6 : Int32} {x7 : Option Nat} {E : String} {P : k_H → Prop} (c : k_ctx (tX11_requireRoom G l) [vR x7] h E P) (q : ∀ h1, P h1 → Q h1 (.inr E)) : k_X (jX11_change G l h0) h 73 [(0, vR (some x0)), (2, vI x2), (3, vI x3), (4, vI x4), (5, vI x5), (6, vI x6), (7, vR x7)] [] Q := by
  obtain ⟨h1, c, p⟩ := c
  exact ⟨h1, _, j_aload dX11_change_73 rfl <| j_callSx (as := [vR x7]) dX11_change_75 kc_X11_190 rfl rfl (by decide) (Nat.le_of_ble_eq_true rfl) c, q h1 p⟩
theorem bX11_change_78 {h0 h : k_H} {Q : k_H → k_R → Prop} {x0 : Nat} {x2 x3 x4 x5 x6 : Int32} {x7 : Option Nat} {P : k_H → Int64 → Prop} (c : k_ctj (tX11_codeOf G l) [vI x3, vI x4, vI x5] h P) (K : ∀ h1 v, P h1 v → k_X (jX11_change G l h0) h1 86 [(0, vR (some x0)), (2, vI x2), (4, vI x4), (5, vI x5), (6, vI x6), (7, vR x7)] [vJ v] Q) : k_X (jX11_change G l h0) h 78 [(0, vR (some x0)), (2, vI x2), (3, vI x3), (4, vI x4), (5, vI x5), (6, vI x6), (7, vR x7)] [] Q := by
  obtain ⟨h1, v, c, p⟩ := c
  obtain ⟨h', r, K, q⟩ := K h1 v p
  exact ⟨h', r, j_iload_n dX11_change_78 rfl rfl <| j_iload dX11_change_79 rfl <| j_iload dX11_change_81 rfl <| j_callS (v := some (vJ v)) (as := [vI x3, vI x4, vI x5]) dX11_change_83 kc_X11_100 rfl rfl (by decide) (Nat.le_of_ble_eq_true rfl) c (j_pick [0, 1, 3, 4, 5, 6] rfl K), q⟩
theorem bX11_change_86 {h0 h : k_H} {Q : k_H → k_R → Prop} {x0 : Nat} {x2 x4 x5 x6 : Int32} {x7 : Option Nat} {s0 : Int64} (K1 : ¬ (x2 = 6) → k_X (jX11_change G l h0) h 113 [(0, vR (some x0)), (2, vI x2), (6, vI x6), (7, vR x7), (8, vJ s0)] [] Q) (K2 : x2 = 6 → k_X (jX11_change G l h0) h 94 [(4, vI x4), (5, vI x5), (6, vI x6), (7, vR x7), (8, vJ s0)] [] Q) : k_X (jX11_change G l h0) h 86 [(0, vR (some x0)), (2, vI x2), (4, vI x4), (5, vI x5), (6, vI x6), (7, vR x7)] [vJ s0] Q := by
  by_cases hc : x2 = 6
  · skip
    obtain ⟨h', r, K, q⟩ := K2 hc
    exact ⟨h', r, j_lstore dX11_change_86 (by decide) rfl <| j_iload_n dX11_change_88 rfl rfl <| j_bipush (v := 6) dX11_change_89 (by decide) <| j_icmp_ne_f dX11_change_91 113 (by decide) hc (j_pick [2, 3, 4, 5, 6] rfl K), q⟩
  · skip
    obtain ⟨h', r, K, q⟩ := K1 hc
    exact ⟨h', r, j_lstore dX11_change_86 (by decide) rfl <| j_iload_n dX11_change_88 rfl rfl <| j_bipush (v := 6) dX11_change_89 (by decide) <| j_icmp_ne_t (tgt := 113) dX11_change_91 (by decide) hc (j_pick [0, 1, 4, 5, 6] rfl K), q⟩
theorem bX11_change_94 {h0 h : k_H} {Q : k_H → k_R → Prop} {x4 x5 x6 : Int32} {x7 : Option Nat} {x8 : Int64} {P : k_H → Int32 → Prop} (c : k_cti (tX11_lastPlace G l) [vI x4, vI x5] h P) (K : ∀ h1 v, P h1 v → k_X (jX11_change G l h0) h1 105 [(6, vI x6), (7, vR x7)] [vI v, vJ x8, vR x7] Q) : k_X (jX11_change G l h0) h 94 [(4, vI x4), (5, vI x5), (6, vI x6), (7, vR x7), (8, vJ x8)] [] Q := by
  obtain ⟨h1, v, c, p⟩ := c
  obtain ⟨h', r, K, q⟩ := K h1 v p
  exact ⟨h', r, j_aload dX11_change_94 rfl <| j_lload dX11_change_96 rfl <| j_iload dX11_change_98 rfl <| j_iload dX11_change_100 rfl <| j_callS (v := some (vI v)) (as := [vI x4, vI x5]) dX11_change_102 kc_X11_193 rfl rfl (by decide) (Nat.le_of_ble_eq_true rfl) c (j_pick [2, 3] rfl K), q⟩
theorem bX11_change_105 {h0 h : k_H} {Q : k_H → k_R → Prop} {x6 s2 : Int32} {x7 : Option Nat} {s0 : Nat} {s1 : Int64} (w : k_is h s0 12) {P : k_H → Prop} (c : k_ctv (tX9_keepStamped G l) [vR (some s0), vJ s1, vI s2, vI x6] h P) (K : ∀ h1, P h1 → k_X (jX11_change G l h0) h1 110 [(7, vR x7)] [] Q) : k_X (jX11_change G l h0) h 105 [(6, vI x6), (7, vR x7)] [vI s2, vJ s1, vR (some s0)] Q := by
  obtain ⟨h1, c, p⟩ := c
  obtain ⟨h', r, K, q⟩ := K h1 p
  exact ⟨h', r, j_iload dX11_change_105 rfl <| j_callV (v := none) (as := [vJ s1, vI s2, vI x6]) dX11_change_107 kc_X11_197 rfl rfl w (by decide) (Nat.le_of_ble_eq_true rfl) c (j_pick [1] rfl K), q⟩
theorem bX11_change_110 {h0 h : k_H} {Q : k_H → k_R → Prop} {x7 : Option Nat} (K : k_X (jX11_change G l h0) h 124 [(7, vR x7)] [] Q) : k_X (jX11_change G l h0) h 110 [(7, vR x7)] [] Q := by
  obtain ⟨h', r, K, q⟩ := K
  exact ⟨h', r, j_goto (tgt := 124) dX11_change_110 (by decide) <| K, q⟩
theorem bX11_change_113 {h0 h : k_H} {Q : k_H → k_R → Prop} {x0 : Nat} {x2 x6 : Int32} {x7 : Option Nat} {x8 : Int64} (w : k_is h x0 14) {P : k_H → Prop} (c : k_ctv (tX11_keep G l) [vR (some x0), vR x7, vI x2, vJ x8, vI x6] h P) (K : ∀ h1, P h1 → k_X (jX11_change G l h0) h1 124 [(7, vR x7)] [] Q) : k_X (jX11_change G l h0) h 113 [(0, vR (some x0)), (2, vI x2), (6, vI x6), (7, vR x7), (8, vJ x8)] [] Q := by
  obtain ⟨h1, c, p⟩ := c
  obtain ⟨h', r, K, q⟩ := K h1 p
  exact ⟨h', r, j_aload_n dX11_change_113 rfl rfl <| j_aload dX11_change_114 rfl <| j_iload_n dX11_change_116 rfl rfl <| j_lload dX11_change_117 rfl <| j_iload dX11_change_119 rfl <| j_callV (v := none) (as := [vR x7, vI x2, vJ x8, vI x6]) dX11_change_121 kc_X11_201 rfl rfl w (by decide) (Nat.le_of_ble_eq_true rfl) c (j_pick [3] rfl K), q⟩
theorem bX11_change_124 {h0 h : k_H} {Q : k_H → k_R → Prop} {x7 : Nat} {f1_7 : Int32} {fs1 : List k_V} (o1 : h.1 x7 = some (k_o 12 fs1)) (g1_7 : fs1[7]? = some (vI f1_7)) (q : Q h (.inl (some (vI f1_7)))) : k_X (jX11_change G l h0) h 124 [(7, vR (some x7))] [] Q := by
  exact ⟨_, _, j_aload dX11_change_124 rfl <| j_getf dX11_change_126 kf_X11_205 o1 g1_7 <| j_iret dX11_change_129 rfl, q⟩
theorem eX11_clear {G : k_G} {l : Launch} (hfl : l.flags = flags0) {h : k_H} {Q : k_H → k_R → Prop} {x0 : Nat} {x1 : Int32} {x2 : Int32} {x3 : Int32} (K : k_X (jX11_clear G l h) h 0 [(0, vR (some x0)), (1, vI x1), (2, vI x2), (3, vI x3)] [] Q) : k_ct (tX11_clear G l) [vR (some x0), vI x1, vI x2, vI x3] h Q := by
  obtain ⟨h', r, K, q⟩ := K
  exact ⟨h', r, k_CtOf (by decide +kernel) (Nat.le_of_ble_eq_true rfl) K hfl, q⟩

theorem bX11_clear_0 {h0 h : k_H} {Q : k_H → k_R → Prop} {x0 : Nat} {x1 x2 x3 : Int32} (w : k_is h x0 14) {P : k_H → Option Nat → Prop} (c : k_ctr (tX11_transactionAt G l) [vR (some x0), vI x1] h P) (K : ∀ h1 v, P h1 v → k_X (jX11_clear G l h0) h1 5 [(2, vI x2), (3, vI x3)] [vR v] Q) : k_X (jX11_clear G l h0) h 0 [(0, vR (some x0)), (1, vI x1), (2, vI x2), (3, vI x3)] [] Q := by
  obtain ⟨h1, v, c, p⟩ := c
  obtain ⟨h', r, K, q⟩ := K h1 v p
  exact ⟨h', r, j_aload_n dX11_clear_0 rfl rfl <| j_iload_n dX11_clear_1 rfl rfl <| j_callV (v := some (vR v)) (as := [vI x1]) dX11_clear_2 kc_X11_81 rfl rfl w (by decide) (Nat.le_of_ble_eq_true rfl) c (j_pick [2, 3] rfl K), q⟩
theorem bX11_clear_0x {h0 h : k_H} {Q : k_H → k_R → Prop} {x0 : Nat} {x1 x2 x3 : Int32} (w : k_is h x0 14) {E : String} {P : k_H → Prop} (c : k_ctx (tX11_transactionAt G l) [vR (some x0), vI x1] h E P) (q : ∀ h1, P h1 → Q h1 (.inr E)) : k_X (jX11_clear G l h0) h 0 [(0, vR (some x0)), (1, vI x1), (2, vI x2), (3, vI x3)] [] Q := by
  obtain ⟨h1, c, p⟩ := c
  exact ⟨h1, _, j_aload_n dX11_clear_0 rfl rfl <| j_iload_n dX11_clear_1 rfl rfl <| j_callVx (as := [vI x1]) dX11_clear_2 kc_X11_81 rfl rfl w (by decide) (Nat.le_of_ble_eq_true rfl) c, q h1 p⟩
theorem bX11_clear_5 {h0 h : k_H} {Q : k_H → k_R → Prop} {x2 x3 : Int32} {s0 : Option Nat} {P : k_H → Prop} (c : k_ctv (tX11_requireRange G l) [vI x2, vI x3] h P) (K : ∀ h1, P h1 → k_X (jX11_clear G l h0) h1 12 [(2, vI x2), (3, vI x3), (4, vR s0)] [] Q) : k_X (jX11_clear G l h0) h 5 [(2, vI x2), (3, vI x3)] [vR s0] Q := by
  obtain ⟨h1, c, p⟩ := c
  obtain ⟨h', r, K, q⟩ := K h1 p
  exact ⟨h', r, j_astore dX11_clear_5 (by decide) rfl <| j_iload_n dX11_clear_7 rfl rfl <| j_iload_n dX11_clear_8 rfl rfl <| j_callS (v := none) (as := [vI x2, vI x3]) dX11_clear_9 kc_X11_134 rfl rfl (by decide) (Nat.le_of_ble_eq_true rfl) c K, q⟩
theorem bX11_clear_5x {h0 h : k_H} {Q : k_H → k_R → Prop} {x2 x3 : Int32} {s0 : Option Nat} {E : String} {P : k_H → Prop} (c : k_ctx (tX11_requireRange G l) [vI x2, vI x3] h E P) (q : ∀ h1, P h1 → Q h1 (.inr E)) : k_X (jX11_clear G l h0) h 5 [(2, vI x2), (3, vI x3)] [vR s0] Q := by
  obtain ⟨h1, c, p⟩ := c
  exact ⟨h1, _, j_astore dX11_clear_5 (by decide) rfl <| j_iload_n dX11_clear_7 rfl rfl <| j_iload_n dX11_clear_8 rfl rfl <| j_callSx (as := [vI x2, vI x3]) dX11_clear_9 kc_X11_134 rfl rfl (by decide) (Nat.le_of_ble_eq_true rfl) c, q h1 p⟩
theorem bX11_clear_12 {h0 h : k_H} {Q : k_H → k_R → Prop} {x2 x3 : Int32} {x4 : Option Nat} (K1 : ¬ (x2 = 10000) → k_X (jX11_clear G l h0) h 29 [(2, vI x2), (3, vI x3), (4, vR x4)] [] Q) (K2 : x2 = 10000 → k_X (jX11_clear G l h0) h 19 [] [] Q) : k_X (jX11_clear G l h0) h 12 [(2, vI x2), (3, vI x3), (4, vR x4)] [] Q := by
  by_cases hc : x2 = 10000
  · skip
    obtain ⟨h', r, K, q⟩ := K2 hc
    exact ⟨h', r, j_iload_n dX11_clear_12 rfl rfl <| j_sipush (v := 10000) dX11_clear_13 (by decide) <| j_icmp_ne_f dX11_clear_16 29 (by decide) hc (j_pick [] rfl K), q⟩
  · skip
    obtain ⟨h', r, K, q⟩ := K1 hc
    exact ⟨h', r, j_iload_n dX11_clear_12 rfl rfl <| j_sipush (v := 10000) dX11_clear_13 (by decide) <| j_icmp_ne_t (tgt := 29) dX11_clear_16 (by decide) hc K, q⟩
theorem bX11_clear_19 {h0 h : k_H} {Q : k_H → k_R → Prop} (q : Q (k_sk h 1 6) (.inr "java/lang/IllegalArgumentException")) : k_X (jX11_clear G l h0) h 19 [] [] Q := by
  exact ⟨_, _, j_throwS kt_X11_161_208_165 dX11_clear_19 dX11_clear_22 dX11_clear_23 dX11_clear_25 dX11_clear_28 (by decide) (Nat.le_of_ble_eq_true rfl), q⟩
theorem bX11_clear_29 {h0 h : k_H} {Q : k_H → k_R → Prop} {x2 x3 : Int32} {x4 : Option Nat} {P : k_H → Prop} (c : k_ctv (tX11_requireAboveLayers G l) [vI x2] h P) (K : ∀ h1, P h1 → k_X (jX11_clear G l h0) h1 33 [(2, vI x2), (3, vI x3), (4, vR x4)] [] Q) : k_X (jX11_clear G l h0) h 29 [(2, vI x2), (3, vI x3), (4, vR x4)] [] Q := by
  obtain ⟨h1, c, p⟩ := c
  obtain ⟨h', r, K, q⟩ := K h1 p
  exact ⟨h', r, j_iload_n dX11_clear_29 rfl rfl <| j_callS (v := none) (as := [vI x2]) dX11_clear_30 kc_X11_186 rfl rfl (by decide) (Nat.le_of_ble_eq_true rfl) c K, q⟩
theorem bX11_clear_29x {h0 h : k_H} {Q : k_H → k_R → Prop} {x2 x3 : Int32} {x4 : Option Nat} {E : String} {P : k_H → Prop} (c : k_ctx (tX11_requireAboveLayers G l) [vI x2] h E P) (q : ∀ h1, P h1 → Q h1 (.inr E)) : k_X (jX11_clear G l h0) h 29 [(2, vI x2), (3, vI x3), (4, vR x4)] [] Q := by
  obtain ⟨h1, c, p⟩ := c
  exact ⟨h1, _, j_iload_n dX11_clear_29 rfl rfl <| j_callSx (as := [vI x2]) dX11_clear_30 kc_X11_186 rfl rfl (by decide) (Nat.le_of_ble_eq_true rfl) c, q h1 p⟩
theorem bX11_clear_33 {h0 h : k_H} {Q : k_H → k_R → Prop} {x2 x3 : Int32} {x4 : Option Nat} {P : k_H → Prop} (c : k_ctv (tX11_requireRoom G l) [vR x4] h P) (K : ∀ h1, P h1 → k_X (jX11_clear G l h0) h1 38 [(2, vI x2), (3, vI x3), (4, vR x4)] [] Q) : k_X (jX11_clear G l h0) h 33 [(2, vI x2), (3, vI x3), (4, vR x4)] [] Q := by
  obtain ⟨h1, c, p⟩ := c
  obtain ⟨h', r, K, q⟩ := K h1 p
  exact ⟨h', r, j_aload dX11_clear_33 rfl <| j_callS (v := none) (as := [vR x4]) dX11_clear_35 kc_X11_190 rfl rfl (by decide) (Nat.le_of_ble_eq_true rfl) c K, q⟩
theorem bX11_clear_33x {h0 h : k_H} {Q : k_H → k_R → Prop} {x2 x3 : Int32} {x4 : Option Nat} {E : String} {P : k_H → Prop} (c : k_ctx (tX11_requireRoom G l) [vR x4] h E P) (q : ∀ h1, P h1 → Q h1 (.inr E)) : k_X (jX11_clear G l h0) h 33 [(2, vI x2), (3, vI x3), (4, vR x4)] [] Q := by
  obtain ⟨h1, c, p⟩ := c
  exact ⟨h1, _, j_aload dX11_clear_33 rfl <| j_callSx (as := [vR x4]) dX11_clear_35 kc_X11_190 rfl rfl (by decide) (Nat.le_of_ble_eq_true rfl) c, q h1 p⟩
theorem bX11_clear_38 {h0 h : k_H} {Q : k_H → k_R → Prop} {x2 x3 : Int32} {x4 : Option Nat} {P : k_H → Int64 → Prop} (c : k_ctj (tX11_lowOf G l) [vI x2, vI x3] h P) (K : ∀ h1 v, P h1 v → k_X (jX11_clear G l h0) h1 45 [(2, vI x2), (3, vI x3), (4, vR x4)] [vJ v, vR x4] Q) : k_X (jX11_clear G l h0) h 38 [(2, vI x2), (3, vI x3), (4, vR x4)] [] Q := by
  obtain ⟨h1, v, c, p⟩ := c
  obtain ⟨h', r, K, q⟩ := K h1 v p
  exact ⟨h', r, j_aload dX11_clear_38 rfl <| j_iload_n dX11_clear_40 rfl rfl <| j_iload_n dX11_clear_41 rfl rfl <| j_callS (v := some (vJ v)) (as := [vI x2, vI x3]) dX11_clear_42 kc_X11_138 rfl rfl (by decide) (Nat.le_of_ble_eq_true rfl) c K, q⟩
theorem bX11_clear_45 {h0 h : k_H} {Q : k_H → k_R → Prop} {x2 x3 : Int32} {x4 s0 : Option Nat} {s1 : Int64} {P : k_H → Int64 → Prop} (c : k_ctj (tX11_highOf G l) [vI x2, vI x3] h P) (K : ∀ h1 v, P h1 v → k_X (jX11_clear G l h0) h1 50 [(4, vR x4)] [vJ v, vJ s1, vR s0] Q) : k_X (jX11_clear G l h0) h 45 [(2, vI x2), (3, vI x3), (4, vR x4)] [vJ s1, vR s0] Q := by
  obtain ⟨h1, v, c, p⟩ := c
  obtain ⟨h', r, K, q⟩ := K h1 v p
  exact ⟨h', r, j_iload_n dX11_clear_45 rfl rfl <| j_iload_n dX11_clear_46 rfl rfl <| j_callS (v := some (vJ v)) (as := [vI x2, vI x3]) dX11_clear_47 kc_X11_142 rfl rfl (by decide) (Nat.le_of_ble_eq_true rfl) c (j_pick [2] rfl K), q⟩
theorem bX11_clear_50 {h0 h : k_H} {Q : k_H → k_R → Prop} {x4 : Option Nat} {s0 : Nat} {s1 s2 : Int64} (w : k_is h s0 12) {P : k_H → Prop} (c : k_ctv (tX9_keepRange G l) [vR (some s0), vJ s1, vJ s2] h P) (K : ∀ h1, P h1 → k_X (jX11_clear G l h0) h1 53 [(4, vR x4)] [] Q) : k_X (jX11_clear G l h0) h 50 [(4, vR x4)] [vJ s2, vJ s1, vR (some s0)] Q := by
  obtain ⟨h1, c, p⟩ := c
  obtain ⟨h', r, K, q⟩ := K h1 p
  exact ⟨h', r, j_callV (v := none) (as := [vJ s1, vJ s2]) dX11_clear_50 kc_X11_210 rfl rfl w (by decide) (Nat.le_of_ble_eq_true rfl) c K, q⟩
theorem bX11_clear_53 {h0 h : k_H} {Q : k_H → k_R → Prop} {x4 : Nat} {f1_7 : Int32} {fs1 : List k_V} (o1 : h.1 x4 = some (k_o 12 fs1)) (g1_7 : fs1[7]? = some (vI f1_7)) (q : Q h (.inl (some (vI f1_7)))) : k_X (jX11_clear G l h0) h 53 [(4, vR (some x4))] [] Q := by
  exact ⟨_, _, j_aload dX11_clear_53 rfl <| j_getf dX11_clear_55 kf_X11_205 o1 g1_7 <| j_iret dX11_clear_58 rfl, q⟩
theorem eX11_commit {G : k_G} {l : Launch} (hfl : l.flags = flags0) {h : k_H} {Q : k_H → k_R → Prop} {x0 : Nat} {x1 : Int32} (K : k_X (jX11_commit G l h) h 0 [(0, vR (some x0)), (1, vI x1)] [] Q) : k_ct (tX11_commit G l) [vR (some x0), vI x1] h Q := by
  obtain ⟨h', r, K, q⟩ := K
  exact ⟨h', r, k_CtOf (by decide +kernel) (Nat.le_of_ble_eq_true rfl) K hfl, q⟩

theorem bX11_commit_0 {h0 h : k_H} {Q : k_H → k_R → Prop} {x0 : Nat} {x1 : Int32} (w : k_is h x0 14) {P : k_H → Option Nat → Prop} (c : k_ctr (tX11_transactionAt G l) [vR (some x0), vI x1] h P) (K : ∀ h1 v, P h1 v → k_X (jX11_commit G l h0) h1 5 [(0, vR (some x0))] [vR v] Q) : k_X (jX11_commit G l h0) h 0 [(0, vR (some x0)), (1, vI x1)] [] Q := by
  obtain ⟨h1, v, c, p⟩ := c
  obtain ⟨h', r, K, q⟩ := K h1 v p
  exact ⟨h', r, j_aload_n dX11_commit_0 rfl rfl <| j_iload_n dX11_commit_1 rfl rfl <| j_callV (v := some (vR v)) (as := [vI x1]) dX11_commit_2 kc_X11_81 rfl rfl w (by decide) (Nat.le_of_ble_eq_true rfl) c (j_pick [0] rfl K), q⟩
theorem bX11_commit_0x {h0 h : k_H} {Q : k_H → k_R → Prop} {x0 : Nat} {x1 : Int32} (w : k_is h x0 14) {E : String} {P : k_H → Prop} (c : k_ctx (tX11_transactionAt G l) [vR (some x0), vI x1] h E P) (q : ∀ h1, P h1 → Q h1 (.inr E)) : k_X (jX11_commit G l h0) h 0 [(0, vR (some x0)), (1, vI x1)] [] Q := by
  obtain ⟨h1, c, p⟩ := c
  exact ⟨h1, _, j_aload_n dX11_commit_0 rfl rfl <| j_iload_n dX11_commit_1 rfl rfl <| j_callVx (as := [vI x1]) dX11_commit_2 kc_X11_81 rfl rfl w (by decide) (Nat.le_of_ble_eq_true rfl) c, q h1 p⟩
theorem bX11_commit_5 {h0 h : k_H} {Q : k_H → k_R → Prop} {x0 : Nat} {s0 : Option Nat} {P : k_H → Prop} (c : k_ctv (tX11_requireBegun G l) [vR s0] h P) (K : ∀ h1, P h1 → k_X (jX11_commit G l h0) h1 10 [(0, vR (some x0)), (2, vR s0)] [] Q) : k_X (jX11_commit G l h0) h 5 [(0, vR (some x0))] [vR s0] Q := by
  obtain ⟨h1, c, p⟩ := c
  obtain ⟨h', r, K, q⟩ := K h1 p
  exact ⟨h', r, j_astore_n dX11_commit_5 rfl (by decide) rfl <| j_aload_n dX11_commit_6 rfl rfl <| j_callS (v := none) (as := [vR s0]) dX11_commit_7 kc_X11_96 rfl rfl (by decide) (Nat.le_of_ble_eq_true rfl) c K, q⟩
theorem bX11_commit_5x {h0 h : k_H} {Q : k_H → k_R → Prop} {x0 : Nat} {s0 : Option Nat} {E : String} {P : k_H → Prop} (c : k_ctx (tX11_requireBegun G l) [vR s0] h E P) (q : ∀ h1, P h1 → Q h1 (.inr E)) : k_X (jX11_commit G l h0) h 5 [(0, vR (some x0))] [vR s0] Q := by
  obtain ⟨h1, c, p⟩ := c
  exact ⟨h1, _, j_astore_n dX11_commit_5 rfl (by decide) rfl <| j_aload_n dX11_commit_6 rfl rfl <| j_callSx (as := [vR s0]) dX11_commit_7 kc_X11_96 rfl rfl (by decide) (Nat.le_of_ble_eq_true rfl) c, q h1 p⟩
theorem bX11_commit_10 {h0 h : k_H} {Q : k_H → k_R → Prop} {x0 : Nat} {x2 : Option Nat} (w : k_is h x0 14) {P : k_H → Int32 → Prop} (c : k_cti (tX11_toldUndone G l) [vR (some x0), vR x2] h P) (K : ∀ h1 v, P h1 v → k_X (jX11_commit G l h0) h1 15 [(0, vR (some x0)), (2, vR x2)] [vI v] Q) : k_X (jX11_commit G l h0) h 10 [(0, vR (some x0)), (2, vR x2)] [] Q := by
  obtain ⟨h1, v, c, p⟩ := c
  obtain ⟨h', r, K, q⟩ := K h1 v p
  exact ⟨h', r, j_aload_n dX11_commit_10 rfl rfl <| j_aload_n dX11_commit_11 rfl rfl <| j_callV (v := some (vI v)) (as := [vR x2]) dX11_commit_12 kc_X11_213 rfl rfl w (by decide) (Nat.le_of_ble_eq_true rfl) c K, q⟩
theorem bX11_commit_15 {h0 h : k_H} {Q : k_H → k_R → Prop} {x0 : Nat} {x2 : Option Nat} {s0 : Int32} (K1 : s0 = (-2147483648) → k_X (jX11_commit G l h0) h 29 [(0, vR (some x0)), (2, vR x2)] [] Q) (K2 : ¬ (s0 = (-2147483648)) → k_X (jX11_commit G l h0) h 22 [(2, vR x2), (3, vI s0)] [] Q) : k_X (jX11_commit G l h0) h 15 [(0, vR (some x0)), (2, vR x2)] [vI s0] Q := by
  by_cases hc : s0 = (-2147483648)
  · skip
    obtain ⟨h', r, K, q⟩ := K1 hc
    exact ⟨h', r, j_istore_n dX11_commit_15 rfl (by decide) rfl <| j_iload_n dX11_commit_16 rfl rfl <| j_ldc (v := (-2147483648)) dX11_commit_17 ki_X11_62 <| j_icmp_eq_t (tgt := 29) dX11_commit_19 (by decide) hc (j_pick [0, 1] rfl K), q⟩
  · skip
    obtain ⟨h', r, K, q⟩ := K2 hc
    exact ⟨h', r, j_istore_n dX11_commit_15 rfl (by decide) rfl <| j_iload_n dX11_commit_16 rfl rfl <| j_ldc (v := (-2147483648)) dX11_commit_17 ki_X11_62 <| j_icmp_eq_f dX11_commit_19 29 (by decide) hc (j_pick [1, 2] rfl K), q⟩
theorem bX11_commit_22 {h0 h : k_H} {Q : k_H → k_R → Prop} {x2 : Nat} {x3 : Int32} {fs1 : List k_V} (o1 : h.1 x2 = some (k_o 12 fs1)) (z1 : fs1.length = 8) (K : k_X (jX11_commit G l h0) (k_up h x2 (k_o 12 (fs1.set 2 (vI 0)))) 27 [(3, vI x3)] [] Q) : k_X (jX11_commit G l h0) h 22 [(2, vR (some x2)), (3, vI x3)] [] Q := by
  obtain ⟨h', r, K, q⟩ := K
  exact ⟨h', r, j_aload_n dX11_commit_22 rfl rfl <| j_iconst (v := 0) dX11_commit_23 (by decide) <| j_putf dX11_commit_24 kp_X11_217 o1 (k_ln z1 (by decide)) (k_fit_z (by decide)) rfl <| (j_pick [1] rfl K), q⟩
theorem bX11_commit_27 {h0 h : k_H} {Q : k_H → k_R → Prop} {x3 : Int32} (q : Q h (.inl (some (vI x3)))) : k_X (jX11_commit G l h0) h 27 [(3, vI x3)] [] Q := by
  exact ⟨_, _, j_iload_n dX11_commit_27 rfl rfl <| j_iret dX11_commit_28 rfl, q⟩
theorem bX11_commit_29 {h0 h : k_H} {Q : k_H → k_R → Prop} {x0 : Nat} {x2 : Option Nat} {f1_10 : Int32} {fs1 : List k_V} (o1 : h.1 x0 = some (k_o 14 fs1)) (g1_10 : fs1[10]? = some (vI f1_10)) (K1 : f1_10 = 0 → k_X (jX11_commit G l h0) h 40 [(0, vR (some x0)), (2, vR x2)] [] Q) (K2 : ¬ (f1_10 = 0) → k_X (jX11_commit G l h0) h 36 [(0, vR (some x0)), (2, vR x2)] [] Q) : k_X (jX11_commit G l h0) h 29 [(0, vR (some x0)), (2, vR x2)] [] Q := by
  by_cases hc : f1_10 = 0
  · skip
    obtain ⟨h', r, K, q⟩ := K1 hc
    exact ⟨h', r, j_aload_n dX11_commit_29 rfl rfl <| j_getf dX11_commit_30 kf_X11_59 o1 g1_10 <| j_if_eq_t (tgt := 40) dX11_commit_33 (by decide) hc K, q⟩
  · skip
    obtain ⟨h', r, K, q⟩ := K2 hc
    exact ⟨h', r, j_aload_n dX11_commit_29 rfl rfl <| j_getf dX11_commit_30 kf_X11_59 o1 g1_10 <| j_if_eq_f dX11_commit_33 40 (by decide) hc K, q⟩
theorem bX11_commit_36 {h0 h : k_H} {Q : k_H → k_R → Prop} {x0 : Nat} {x2 : Option Nat} (K : k_X (jX11_commit G l h0) h 41 [(0, vR (some x0)), (2, vR x2)] [vI 1] Q) : k_X (jX11_commit G l h0) h 36 [(0, vR (some x0)), (2, vR x2)] [] Q := by
  obtain ⟨h', r, K, q⟩ := K
  exact ⟨h', r, j_iconst (v := 1) dX11_commit_36 (by decide) <| j_goto (tgt := 41) dX11_commit_37 (by decide) <| K, q⟩
theorem bX11_commit_40 {h0 h : k_H} {Q : k_H → k_R → Prop} {x0 : Nat} {x2 : Option Nat} (K : k_X (jX11_commit G l h0) h 41 [(0, vR (some x0)), (2, vR x2)] [vI 0] Q) : k_X (jX11_commit G l h0) h 40 [(0, vR (some x0)), (2, vR x2)] [] Q := by
  obtain ⟨h', r, K, q⟩ := K
  exact ⟨h', r, j_iconst (v := 0) dX11_commit_40 (by decide) <| K, q⟩
theorem bX11_commit_41 {h0 h : k_H} {Q : k_H → k_R → Prop} {x0 : Nat} {x2 : Option Nat} {s0 f1_10 : Int32} {fs1 : List k_V} (o1 : h.1 x0 = some (k_o 14 fs1)) (g1_10 : fs1[10]? = some (vI f1_10)) (K1 : f1_10 = 2 → k_X (jX11_commit G l h0) h 55 [(0, vR (some x0)), (2, vR x2), (4, vI s0)] [] Q) (K2 : ¬ (f1_10 = 2) → k_X (jX11_commit G l h0) h 51 [(0, vR (some x0)), (2, vR x2), (4, vI s0)] [] Q) : k_X (jX11_commit G l h0) h 41 [(0, vR (some x0)), (2, vR x2)] [vI s0] Q := by
  by_cases hc : f1_10 = 2
  · skip
    obtain ⟨h', r, K, q⟩ := K1 hc
    exact ⟨h', r, j_istore dX11_commit_41 (by decide) rfl <| j_aload_n dX11_commit_43 rfl rfl <| j_getf dX11_commit_44 kf_X11_59 o1 g1_10 <| j_iconst (v := 2) dX11_commit_47 (by decide) <| j_icmp_eq_t (tgt := 55) dX11_commit_48 (by decide) hc K, q⟩
  · skip
    obtain ⟨h', r, K, q⟩ := K2 hc
    exact ⟨h', r, j_istore dX11_commit_41 (by decide) rfl <| j_aload_n dX11_commit_43 rfl rfl <| j_getf dX11_commit_44 kf_X11_59 o1 g1_10 <| j_iconst (v := 2) dX11_commit_47 (by decide) <| j_icmp_eq_f dX11_commit_48 55 (by decide) hc K, q⟩
theorem bX11_commit_51 {h0 h : k_H} {Q : k_H → k_R → Prop} {x0 : Nat} {x2 : Option Nat} {x4 : Int32} (K : k_X (jX11_commit G l h0) h 56 [(0, vR (some x0)), (2, vR x2), (4, vI x4)] [vI 1] Q) : k_X (jX11_commit G l h0) h 51 [(0, vR (some x0)), (2, vR x2), (4, vI x4)] [] Q := by
  obtain ⟨h', r, K, q⟩ := K
  exact ⟨h', r, j_iconst (v := 1) dX11_commit_51 (by decide) <| j_goto (tgt := 56) dX11_commit_52 (by decide) <| K, q⟩
theorem bX11_commit_55 {h0 h : k_H} {Q : k_H → k_R → Prop} {x0 : Nat} {x2 : Option Nat} {x4 : Int32} (K : k_X (jX11_commit G l h0) h 56 [(0, vR (some x0)), (2, vR x2), (4, vI x4)] [vI 0] Q) : k_X (jX11_commit G l h0) h 55 [(0, vR (some x0)), (2, vR x2), (4, vI x4)] [] Q := by
  obtain ⟨h', r, K, q⟩ := K
  exact ⟨h', r, j_iconst (v := 0) dX11_commit_55 (by decide) <| K, q⟩
theorem bX11_commit_56 {h0 h : k_H} {Q : k_H → k_R → Prop} {x0 : Nat} {x2 : Option Nat} {x4 s0 : Int32} {fs1 : List k_V} (o1 : h.1 x0 = some (k_o 14 fs1)) (z1 : fs1.length = 13) (K : k_X (jX11_commit G l h0) (k_up h x0 (k_o 14 (fs1.set 10 (vI 0)))) 63 [(0, vR (some x0)), (2, vR x2), (4, vI x4), (5, vI s0)] [] Q) : k_X (jX11_commit G l h0) h 56 [(0, vR (some x0)), (2, vR x2), (4, vI x4)] [vI s0] Q := by
  obtain ⟨h', r, K, q⟩ := K
  exact ⟨h', r, j_istore dX11_commit_56 (by decide) rfl <| j_aload_n dX11_commit_58 rfl rfl <| j_iconst (v := 0) dX11_commit_59 (by decide) <| j_putf dX11_commit_60 kp_X11_59 o1 (k_ln z1 (by decide)) (k_fit_i _) rfl <| K, q⟩
theorem bX11_commit_63 {h0 h : k_H} {Q : k_H → k_R → Prop} {x0 : Nat} {x2 : Option Nat} {x4 x5 : Int32} (K1 : x5 = 0 → k_X (jX11_commit G l h0) h 73 [(0, vR (some x0)), (2, vR x2), (4, vI x4)] [] Q) (K2 : ¬ (x5 = 0) → k_X (jX11_commit G l h0) h 68 [(0, vR (some x0)), (2, vR x2), (4, vI x4)] [] Q) : k_X (jX11_commit G l h0) h 63 [(0, vR (some x0)), (2, vR x2), (4, vI x4), (5, vI x5)] [] Q := by
  by_cases hc : x5 = 0
  · skip
    obtain ⟨h', r, K, q⟩ := K1 hc
    exact ⟨h', r, j_iload dX11_commit_63 rfl <| j_if_eq_t (tgt := 73) dX11_commit_65 (by decide) hc (j_pick [0, 1, 2] rfl K), q⟩
  · skip
    obtain ⟨h', r, K, q⟩ := K2 hc
    exact ⟨h', r, j_iload dX11_commit_63 rfl <| j_if_eq_f dX11_commit_65 73 (by decide) hc (j_pick [0, 1, 2] rfl K), q⟩
theorem bX11_commit_68 {h0 h : k_H} {Q : k_H → k_R → Prop} {x0 : Nat} {x2 : Option Nat} {x4 : Int32} (w : k_is h x0 14) {P : k_H → Prop} (c : k_ctv (tX11_settle G l) [vR (some x0), vR x2] h P) (K : ∀ h1, P h1 → k_X (jX11_commit G l h0) h1 73 [(0, vR (some x0)), (2, vR x2), (4, vI x4)] [] Q) : k_X (jX11_commit G l h0) h 68 [(0, vR (some x0)), (2, vR x2), (4, vI x4)] [] Q := by
  obtain ⟨h1, c, p⟩ := c
  obtain ⟨h', r, K, q⟩ := K h1 p
  exact ⟨h', r, j_aload_n dX11_commit_68 rfl rfl <| j_aload_n dX11_commit_69 rfl rfl <| j_callV (v := none) (as := [vR x2]) dX11_commit_70 kc_X11_220 rfl rfl w (by decide) (Nat.le_of_ble_eq_true rfl) c K, q⟩
theorem bX11_commit_73 {h0 h : k_H} {Q : k_H → k_R → Prop} {x0 x2 : Nat} {x4 : Int32} {fs1 : List k_V} (o1 : h.1 x2 = some (k_o 12 fs1)) (y2 : k_bl x4) (z1 : fs1.length = 8) (K : k_X (jX11_commit G l h0) (k_up h x2 (k_o 12 (fs1.set 2 (vI x4)))) 79 [(0, vR (some x0)), (4, vI x4)] [] Q) : k_X (jX11_commit G l h0) h 73 [(0, vR (some x0)), (2, vR (some x2)), (4, vI x4)] [] Q := by
  obtain ⟨h', r, K, q⟩ := K
  exact ⟨h', r, j_aload_n dX11_commit_73 rfl rfl <| j_iload dX11_commit_74 rfl <| j_putf dX11_commit_76 kp_X11_217 o1 (k_ln z1 (by decide)) (k_fit_z y2) rfl <| (j_pick [0, 2] rfl K), q⟩
theorem bX11_commit_79 {h0 h : k_H} {Q : k_H → k_R → Prop} {x0 : Nat} {x4 : Int32} (K1 : x4 = 0 → k_X (jX11_commit G l h0) h 89 [(0, vR (some x0))] [] Q) (K2 : ¬ (x4 = 0) → k_X (jX11_commit G l h0) h 84 [] [] Q) : k_X (jX11_commit G l h0) h 79 [(0, vR (some x0)), (4, vI x4)] [] Q := by
  by_cases hc : x4 = 0
  · skip
    obtain ⟨h', r, K, q⟩ := K1 hc
    exact ⟨h', r, j_iload dX11_commit_79 rfl <| j_if_eq_t (tgt := 89) dX11_commit_81 (by decide) hc (j_pick [0] rfl K), q⟩
  · skip
    obtain ⟨h', r, K, q⟩ := K2 hc
    exact ⟨h', r, j_iload dX11_commit_79 rfl <| j_if_eq_f dX11_commit_81 89 (by decide) hc (j_pick [] rfl K), q⟩
theorem bX11_commit_84 {h0 h : k_H} {Q : k_H → k_R → Prop} (K : k_X (jX11_commit G l h0) h 96 [] [vI (-3)] Q) : k_X (jX11_commit G l h0) h 84 [] [] Q := by
  obtain ⟨h', r, K, q⟩ := K
  exact ⟨h', r, j_bipush (v := (-3)) dX11_commit_84 (by decide) <| j_goto (tgt := 96) dX11_commit_86 (by decide) <| K, q⟩
theorem bX11_commit_89 {h0 h : k_H} {Q : k_H → k_R → Prop} {x0 f1_0 : Nat} {f2_6 : Int32} {fs1 : List k_V} (o1 : h.1 x0 = some (k_o 14 fs1)) (g1_0 : fs1[0]? = some (vR (some f1_0))) {fs2 : List k_V} (o2 : h.1 f1_0 = some (k_o 11 fs2)) (g2_6 : fs2[6]? = some (vI f2_6)) (K : k_X (jX11_commit G l h0) h 96 [] [vI f2_6] Q) : k_X (jX11_commit G l h0) h 89 [(0, vR (some x0))] [] Q := by
  obtain ⟨h', r, K, q⟩ := K
  exact ⟨h', r, j_aload_n dX11_commit_89 rfl rfl <| j_getf dX11_commit_90 kf_X11_14 o1 g1_0 <| j_getf dX11_commit_93 kf_X11_85 o2 g2_6 <| (j_pick [] rfl K), q⟩
theorem bX11_commit_96 {h0 h : k_H} {Q : k_H → k_R → Prop} {s0 : Int32} (q : Q h (.inl (some (vI s0)))) : k_X (jX11_commit G l h0) h 96 [] [vI s0] Q := by
  exact ⟨_, _, j_iret dX11_commit_96 rfl, q⟩
theorem eX11_why {G : k_G} {l : Launch} (hfl : l.flags = flags0) {h : k_H} {Q : k_H → k_R → Prop} {x0 : Nat} (K : k_X (jX11_why G l h) h 0 [(0, vR (some x0))] [] Q) : k_ct (tX11_why G l) [vR (some x0)] h Q := by
  obtain ⟨h', r, K, q⟩ := K
  exact ⟨h', r, k_CtOf (by decide +kernel) (Nat.le_of_ble_eq_true rfl) K hfl, q⟩

theorem bX11_why_0 {h0 h : k_H} {Q : k_H → k_R → Prop} {x0 : Nat} {f1_11 : Int32} {fs1 : List k_V} (o1 : h.1 x0 = some (k_o 14 fs1)) (g1_11 : fs1[11]? = some (vI f1_11)) (q : Q h (.inl (some (vI f1_11)))) : k_X (jX11_why G l h0) h 0 [(0, vR (some x0))] [] Q := by
  exact ⟨_, _, j_aload_n dX11_why_0 rfl rfl <| j_getf dX11_why_1 kf_X11_63 o1 g1_11 <| j_iret dX11_why_4 rfl, q⟩
theorem eX11_lose {G : k_G} {l : Launch} (hfl : l.flags = flags0) {h : k_H} {Q : k_H → k_R → Prop} {x0 : Nat} {x1 : Int32} (K : k_X (jX11_lose G l h) h 0 [(0, vR (some x0)), (1, vI x1)] [] Q) : k_ct (tX11_lose G l) [vR (some x0), vI x1] h Q := by
  obtain ⟨h', r, K, q⟩ := K
  exact ⟨h', r, k_CtOf (by decide +kernel) (Nat.le_of_ble_eq_true rfl) K hfl, q⟩

theorem bX11_lose_0 {h0 h : k_H} {Q : k_H → k_R → Prop} {x0 : Nat} {x1 : Int32} (K1 : x1 = 0 → k_X (jX11_lose G l h0) h 9 [] [vR (some x0)] Q) (K2 : ¬ (x1 = 0) → k_X (jX11_lose G l h0) h 5 [] [vR (some x0)] Q) : k_X (jX11_lose G l h0) h 0 [(0, vR (some x0)), (1, vI x1)] [] Q := by
  by_cases hc : x1 = 0
  · skip
    obtain ⟨h', r, K, q⟩ := K1 hc
    exact ⟨h', r, j_aload_n dX11_lose_0 rfl rfl <| j_iload_n dX11_lose_1 rfl rfl <| j_if_eq_t (tgt := 9) dX11_lose_2 (by decide) hc (j_pick [] rfl K), q⟩
  · skip
    obtain ⟨h', r, K, q⟩ := K2 hc
    exact ⟨h', r, j_aload_n dX11_lose_0 rfl rfl <| j_iload_n dX11_lose_1 rfl rfl <| j_if_eq_f dX11_lose_2 9 (by decide) hc (j_pick [] rfl K), q⟩
theorem bX11_lose_5 {h0 h : k_H} {Q : k_H → k_R → Prop} {s0 : Option Nat} (K : k_X (jX11_lose G l h0) h 10 [] [vI 1, vR s0] Q) : k_X (jX11_lose G l h0) h 5 [] [vR s0] Q := by
  obtain ⟨h', r, K, q⟩ := K
  exact ⟨h', r, j_iconst (v := 1) dX11_lose_5 (by decide) <| j_goto (tgt := 10) dX11_lose_6 (by decide) <| K, q⟩
theorem bX11_lose_9 {h0 h : k_H} {Q : k_H → k_R → Prop} {s0 : Option Nat} (K : k_X (jX11_lose G l h0) h 10 [] [vI 2, vR s0] Q) : k_X (jX11_lose G l h0) h 9 [] [vR s0] Q := by
  obtain ⟨h', r, K, q⟩ := K
  exact ⟨h', r, j_iconst (v := 2) dX11_lose_9 (by decide) <| K, q⟩
theorem bX11_lose_10 {h0 h : k_H} {Q : k_H → k_R → Prop} {s0 : Nat} {s1 : Int32} {fs1 : List k_V} (o1 : h.1 s0 = some (k_o 14 fs1)) (z1 : fs1.length = 13) (K : k_X (jX11_lose G l h0) (k_up h s0 (k_o 14 (fs1.set 10 (vI s1)))) 13 [] [] Q) : k_X (jX11_lose G l h0) h 10 [] [vI s1, vR (some s0)] Q := by
  obtain ⟨h', r, K, q⟩ := K
  exact ⟨h', r, j_putf dX11_lose_10 kp_X11_59 o1 (k_ln z1 (by decide)) (k_fit_i _) rfl <| K, q⟩
theorem bX11_lose_13 {h0 h : k_H} {Q : k_H → k_R → Prop} (q : Q h (.inl none)) : k_X (jX11_lose G l h0) h 13 [] [] Q := by
  exact ⟨_, _, j_vret dX11_lose_13 rfl, q⟩
theorem eX11_recover {G : k_G} {l : Launch} (hfl : l.flags = flags0) {h : k_H} {Q : k_H → k_R → Prop} {x0 : Nat} (K : k_X (jX11_recover G l h) h 0 [(0, vR (some x0))] [] Q) : k_ct (tX11_recover G l) [vR (some x0)] h Q := by
  obtain ⟨h', r, K, q⟩ := K
  exact ⟨h', r, k_CtOf (by decide +kernel) (Nat.le_of_ble_eq_true rfl) K hfl, q⟩

theorem bX11_recover_0 {h0 h : k_H} {Q : k_H → k_R → Prop} {x0 : Nat} {f1_9 : Int32} {fs1 : List k_V} (o1 : h.1 x0 = some (k_o 14 fs1)) (g1_9 : fs1[9]? = some (vI f1_9)) (z1 : fs1.length = 13) (K : k_X (jX11_recover G l h0) (k_up h x0 (k_o 14 (fs1.set 9 (vI (f1_9 + 1))))) 10 [(0, vR (some x0))] [] Q) : k_X (jX11_recover G l h0) h 0 [(0, vR (some x0))] [] Q := by
  obtain ⟨h', r, K, q⟩ := K
  exact ⟨h', r, j_aload_n dX11_recover_0 rfl rfl <| j_dup dX11_recover_1 rfl <| j_getf dX11_recover_2 kf_X11_56 o1 g1_9 <| j_iconst (v := 1) dX11_recover_5 (by decide) <| j_iadd dX11_recover_6 <| j_putf dX11_recover_7 kp_X11_56 o1 (k_ln z1 (by decide)) (k_fit_i _) rfl <| K, q⟩
theorem bX11_recover_10 {h0 h : k_H} {Q : k_H → k_R → Prop} {x0 f1_0 : Nat} {fs1 : List k_V} (o1 : h.1 x0 = some (k_o 14 fs1)) (g1_0 : fs1[0]? = some (vR (some f1_0))) (w : k_is h f1_0 11) {P : k_H → Prop} (c : k_ctv (tX8_advance G l) [vR (some f1_0), vI 10] h P) (K : ∀ h1, P h1 → k_X (jX11_recover G l h0) h1 19 [(0, vR (some x0))] [] Q) : k_X (jX11_recover G l h0) h 10 [(0, vR (some x0))] [] Q := by
  obtain ⟨h1, c, p⟩ := c
  obtain ⟨h', r, K, q⟩ := K h1 p
  exact ⟨h', r, j_aload_n dX11_recover_10 rfl rfl <| j_getf dX11_recover_11 kf_X11_14 o1 g1_0 <| j_bipush (v := 10) dX11_recover_14 (by decide) <| j_callV (v := none) (as := [vI 10]) dX11_recover_16 kc_X11_223 rfl rfl w (by decide) (Nat.le_of_ble_eq_true rfl) c K, q⟩
theorem bX11_recover_19 {h0 h : k_H} {Q : k_H → k_R → Prop} {x0 f1_0 : Nat} {f2_6 : Int32} {fs1 : List k_V} (o1 : h.1 x0 = some (k_o 14 fs1)) (g1_0 : fs1[0]? = some (vR (some f1_0))) {fs2 : List k_V} (o2 : h.1 f1_0 = some (k_o 11 fs2)) (g2_6 : fs2[6]? = some (vI f2_6)) (q : Q h (.inl (some (vI f2_6)))) : k_X (jX11_recover G l h0) h 19 [(0, vR (some x0))] [] Q := by
  exact ⟨_, _, j_aload_n dX11_recover_19 rfl rfl <| j_getf dX11_recover_20 kf_X11_14 o1 g1_0 <| j_getf dX11_recover_23 kf_X11_85 o2 g2_6 <| j_iret dX11_recover_26 rfl, q⟩
theorem eX11_pass {G : k_G} {l : Launch} (hfl : l.flags = flags0) {h : k_H} {Q : k_H → k_R → Prop} {x0 : Nat} {x1 : Int32} (K : k_X (jX11_pass G l h) h 0 [(0, vR (some x0)), (1, vI x1)] [] Q) : k_ct (tX11_pass G l) [vR (some x0), vI x1] h Q := by
  obtain ⟨h', r, K, q⟩ := K
  exact ⟨h', r, k_CtOf (by decide +kernel) (Nat.le_of_ble_eq_true rfl) K hfl, q⟩

theorem bX11_pass_0 {h0 h : k_H} {Q : k_H → k_R → Prop} {x0 : Nat} {x1 : Int32} (K1 : x1 < 1 → k_X (jX11_pass G l h0) h 11 [] [] Q) (K2 : ¬ (x1 < 1) → k_X (jX11_pass G l h0) h 5 [(0, vR (some x0)), (1, vI x1)] [] Q) : k_X (jX11_pass G l h0) h 0 [(0, vR (some x0)), (1, vI x1)] [] Q := by
  by_cases hc : x1 < 1
  · skip
    obtain ⟨h', r, K, q⟩ := K1 hc
    exact ⟨h', r, j_iload_n dX11_pass_0 rfl rfl <| j_iconst (v := 1) dX11_pass_1 (by decide) <| j_icmp_lt_t (tgt := 11) dX11_pass_2 (by decide) hc (j_pick [] rfl K), q⟩
  · skip
    obtain ⟨h', r, K, q⟩ := K2 hc
    exact ⟨h', r, j_iload_n dX11_pass_0 rfl rfl <| j_iconst (v := 1) dX11_pass_1 (by decide) <| j_icmp_lt_f dX11_pass_2 11 (by decide) hc K, q⟩
theorem bX11_pass_5 {h0 h : k_H} {Q : k_H → k_R → Prop} {x0 : Nat} {x1 : Int32} (K1 : x1 ≤ 10 → k_X (jX11_pass G l h0) h 21 [(0, vR (some x0)), (1, vI x1)] [] Q) (K2 : ¬ (x1 ≤ 10) → k_X (jX11_pass G l h0) h 11 [] [] Q) : k_X (jX11_pass G l h0) h 5 [(0, vR (some x0)), (1, vI x1)] [] Q := by
  by_cases hc : x1 ≤ 10
  · skip
    obtain ⟨h', r, K, q⟩ := K1 hc
    exact ⟨h', r, j_iload_n dX11_pass_5 rfl rfl <| j_bipush (v := 10) dX11_pass_6 (by decide) <| j_icmp_le_t (tgt := 21) dX11_pass_8 (by decide) hc K, q⟩
  · skip
    obtain ⟨h', r, K, q⟩ := K2 hc
    exact ⟨h', r, j_iload_n dX11_pass_5 rfl rfl <| j_bipush (v := 10) dX11_pass_6 (by decide) <| j_icmp_le_f dX11_pass_8 21 (by decide) hc (j_pick [] rfl K), q⟩
theorem bX11_pass_11 {h0 h : k_H} {Q : k_H → k_R → Prop} (q : Q (k_sk h 1 6) (.inr "java/lang/IllegalArgumentException")) : k_X (jX11_pass G l h0) h 11 [] [] Q := by
  exact ⟨_, _, j_throwS kt_X11_161_226_165 dX11_pass_11 dX11_pass_14 dX11_pass_15 dX11_pass_17 dX11_pass_20 (by decide) (Nat.le_of_ble_eq_true rfl), q⟩
theorem bX11_pass_21 {h0 h : k_H} {Q : k_H → k_R → Prop} {x0 f1_0 : Nat} {x1 : Int32} {fs1 : List k_V} (o1 : h.1 x0 = some (k_o 14 fs1)) (g1_0 : fs1[0]? = some (vR (some f1_0))) (w : k_is h f1_0 11) {P : k_H → Prop} (c : k_ctv (tX8_advance G l) [vR (some f1_0), vI x1] h P) (K : ∀ h1, P h1 → k_X (jX11_pass G l h0) h1 29 [(0, vR (some x0))] [] Q) : k_X (jX11_pass G l h0) h 21 [(0, vR (some x0)), (1, vI x1)] [] Q := by
  obtain ⟨h1, c, p⟩ := c
  obtain ⟨h', r, K, q⟩ := K h1 p
  exact ⟨h', r, j_aload_n dX11_pass_21 rfl rfl <| j_getf dX11_pass_22 kf_X11_14 o1 g1_0 <| j_iload_n dX11_pass_25 rfl rfl <| j_callV (v := none) (as := [vI x1]) dX11_pass_26 kc_X11_223 rfl rfl w (by decide) (Nat.le_of_ble_eq_true rfl) c (j_pick [0] rfl K), q⟩
theorem bX11_pass_29 {h0 h : k_H} {Q : k_H → k_R → Prop} {x0 f1_0 : Nat} {f2_6 : Int32} {fs1 : List k_V} (o1 : h.1 x0 = some (k_o 14 fs1)) (g1_0 : fs1[0]? = some (vR (some f1_0))) {fs2 : List k_V} (o2 : h.1 f1_0 = some (k_o 11 fs2)) (g2_6 : fs2[6]? = some (vI f2_6)) (q : Q h (.inl (some (vI f2_6)))) : k_X (jX11_pass G l h0) h 29 [(0, vR (some x0))] [] Q := by
  exact ⟨_, _, j_aload_n dX11_pass_29 rfl rfl <| j_getf dX11_pass_30 kf_X11_14 o1 g1_0 <| j_getf dX11_pass_33 kf_X11_85 o2 g2_6 <| j_iret dX11_pass_36 rfl, q⟩
theorem eX11_value {G : k_G} {l : Launch} (hfl : l.flags = flags0) {h : k_H} {Q : k_H → k_R → Prop} {x0 : Nat} {x1 : Int32} {x2 : Int32} {x3 : Int32} {x4 : Int32} (K : k_X (jX11_value G l h) h 0 [(0, vR (some x0)), (1, vI x1), (2, vI x2), (3, vI x3), (4, vI x4)] [] Q) : k_ct (tX11_value G l) [vR (some x0), vI x1, vI x2, vI x3, vI x4] h Q := by
  obtain ⟨h', r, K, q⟩ := K
  exact ⟨h', r, k_CtOf (by decide +kernel) (Nat.le_of_ble_eq_true rfl) K hfl, q⟩

theorem bX11_value_0 {h0 h : k_H} {Q : k_H → k_R → Prop} {x0 : Nat} {x1 x2 x3 x4 : Int32} (K1 : x1 < 0 → k_X (jX11_value G l h0) h 15 [] [] Q) (K2 : ¬ (x1 < 0) → k_X (jX11_value G l h0) h 4 [(0, vR (some x0)), (1, vI x1), (2, vI x2), (3, vI x3), (4, vI x4)] [] Q) : k_X (jX11_value G l h0) h 0 [(0, vR (some x0)), (1, vI x1), (2, vI x2), (3, vI x3), (4, vI x4)] [] Q := by
  by_cases hc : x1 < 0
  · skip
    obtain ⟨h', r, K, q⟩ := K1 hc
    exact ⟨h', r, j_iload_n dX11_value_0 rfl rfl <| j_if_lt_t (tgt := 15) dX11_value_1 (by decide) hc (j_pick [] rfl K), q⟩
  · skip
    obtain ⟨h', r, K, q⟩ := K2 hc
    exact ⟨h', r, j_iload_n dX11_value_0 rfl rfl <| j_if_lt_f dX11_value_1 15 (by decide) hc K, q⟩
theorem bX11_value_4 {h0 h : k_H} {Q : k_H → k_R → Prop} {x0 f1_0 : Nat} {x1 x2 x3 x4 f2_6 : Int32} {fs1 : List k_V} (o1 : h.1 x0 = some (k_o 14 fs1)) (g1_0 : fs1[0]? = some (vR (some f1_0))) {fs2 : List k_V} (o2 : h.1 f1_0 = some (k_o 11 fs2)) (g2_6 : fs2[6]? = some (vI f2_6)) (K1 : x1 ≤ f2_6 → k_X (jX11_value G l h0) h 25 [(0, vR (some x0)), (1, vI x1), (2, vI x2), (3, vI x3), (4, vI x4)] [] Q) (K2 : ¬ (x1 ≤ f2_6) → k_X (jX11_value G l h0) h 15 [] [] Q) : k_X (jX11_value G l h0) h 4 [(0, vR (some x0)), (1, vI x1), (2, vI x2), (3, vI x3), (4, vI x4)] [] Q := by
  by_cases hc : x1 ≤ f2_6
  · skip
    obtain ⟨h', r, K, q⟩ := K1 hc
    exact ⟨h', r, j_iload_n dX11_value_4 rfl rfl <| j_aload_n dX11_value_5 rfl rfl <| j_getf dX11_value_6 kf_X11_14 o1 g1_0 <| j_getf dX11_value_9 kf_X11_85 o2 g2_6 <| j_icmp_le_t (tgt := 25) dX11_value_12 (by decide) hc K, q⟩
  · skip
    obtain ⟨h', r, K, q⟩ := K2 hc
    exact ⟨h', r, j_iload_n dX11_value_4 rfl rfl <| j_aload_n dX11_value_5 rfl rfl <| j_getf dX11_value_6 kf_X11_14 o1 g1_0 <| j_getf dX11_value_9 kf_X11_85 o2 g2_6 <| j_icmp_le_f dX11_value_12 25 (by decide) hc (j_pick [] rfl K), q⟩
theorem bX11_value_15 {h0 h : k_H} {Q : k_H → k_R → Prop} (q : Q (k_sk h 1 6) (.inr "java/lang/IllegalArgumentException")) : k_X (jX11_value G l h0) h 15 [] [] Q := by
  exact ⟨_, _, j_throwS kt_X11_161_228_165 dX11_value_15 dX11_value_18 dX11_value_19 dX11_value_21 dX11_value_24 (by decide) (Nat.le_of_ble_eq_true rfl), q⟩
theorem bX11_value_25 {h0 h : k_H} {Q : k_H → k_R → Prop} {x0 : Nat} {x1 x2 x3 x4 : Int32} {P : k_H → Prop} (c : k_ctv (tX11_requireKey G l) [vI x2, vI x3, vI x4] h P) (K : ∀ h1, P h1 → k_X (jX11_value G l h0) h1 32 [(0, vR (some x0)), (1, vI x1), (2, vI x2), (3, vI x3), (4, vI x4)] [] Q) : k_X (jX11_value G l h0) h 25 [(0, vR (some x0)), (1, vI x1), (2, vI x2), (3, vI x3), (4, vI x4)] [] Q := by
  obtain ⟨h1, c, p⟩ := c
  obtain ⟨h', r, K, q⟩ := K h1 p
  exact ⟨h', r, j_iload_n dX11_value_25 rfl rfl <| j_iload_n dX11_value_26 rfl rfl <| j_iload dX11_value_27 rfl <| j_callS (v := none) (as := [vI x2, vI x3, vI x4]) dX11_value_29 kc_X11_92 rfl rfl (by decide) (Nat.le_of_ble_eq_true rfl) c K, q⟩
theorem bX11_value_25x {h0 h : k_H} {Q : k_H → k_R → Prop} {x0 : Nat} {x1 x2 x3 x4 : Int32} {E : String} {P : k_H → Prop} (c : k_ctx (tX11_requireKey G l) [vI x2, vI x3, vI x4] h E P) (q : ∀ h1, P h1 → Q h1 (.inr E)) : k_X (jX11_value G l h0) h 25 [(0, vR (some x0)), (1, vI x1), (2, vI x2), (3, vI x3), (4, vI x4)] [] Q := by
  obtain ⟨h1, c, p⟩ := c
  exact ⟨h1, _, j_iload_n dX11_value_25 rfl rfl <| j_iload_n dX11_value_26 rfl rfl <| j_iload dX11_value_27 rfl <| j_callSx (as := [vI x2, vI x3, vI x4]) dX11_value_29 kc_X11_92 rfl rfl (by decide) (Nat.le_of_ble_eq_true rfl) c, q h1 p⟩
theorem bX11_value_32 {h0 h : k_H} {Q : k_H → k_R → Prop} {x0 : Nat} {x1 x2 x3 x4 : Int32} {f1_2 f1_0 : Option Nat} {fs1 : List k_V} (o1 : h.1 x0 = some (k_o 14 fs1)) (g1_2 : fs1[2]? = some (vR f1_2)) (g1_0 : fs1[0]? = some (vR f1_0)) {P : k_H → Int64 → Prop} (c : k_ctj (tX11_codeOf G l) [vI x2, vI x3, vI x4] h P) (K : ∀ h1 v, P h1 v → k_X (jX11_value G l h0) h1 47 [(0, vR (some x0)), (1, vI x1)] [vJ v, vR f1_0, vR f1_2] Q) : k_X (jX11_value G l h0) h 32 [(0, vR (some x0)), (1, vI x1), (2, vI x2), (3, vI x3), (4, vI x4)] [] Q := by
  obtain ⟨h1, v, c, p⟩ := c
  obtain ⟨h', r, K, q⟩ := K h1 v p
  exact ⟨h', r, j_aload_n dX11_value_32 rfl rfl <| j_getf dX11_value_33 kf_X11_28 o1 g1_2 <| j_aload_n dX11_value_36 rfl rfl <| j_getf dX11_value_37 kf_X11_14 o1 g1_0 <| j_iload_n dX11_value_40 rfl rfl <| j_iload_n dX11_value_41 rfl rfl <| j_iload dX11_value_42 rfl <| j_callS (v := some (vJ v)) (as := [vI x2, vI x3, vI x4]) dX11_value_44 kc_X11_100 rfl rfl (by decide) (Nat.le_of_ble_eq_true rfl) c (j_pick [0, 1] rfl K), q⟩
theorem bX11_value_47 {h0 h : k_H} {Q : k_H → k_R → Prop} {x0 s1 : Nat} {x1 : Int32} {s0 : Option Nat} {s2 : Int64} (w : k_is h s1 11) {P : k_H → Option Nat → Prop} (c : k_ctr (tX8_entryIn G l) [vR (some s1), vJ s2, vI x1] h P) (K : ∀ h1 v, P h1 v → k_X (jX11_value G l h0) h1 51 [(0, vR (some x0))] [vR v, vR s0] Q) : k_X (jX11_value G l h0) h 47 [(0, vR (some x0)), (1, vI x1)] [vJ s2, vR (some s1), vR s0] Q := by
  obtain ⟨h1, v, c, p⟩ := c
  obtain ⟨h', r, K, q⟩ := K h1 v p
  exact ⟨h', r, j_iload_n dX11_value_47 rfl rfl <| j_callV (v := some (vR v)) (as := [vJ s2, vI x1]) dX11_value_48 kc_X11_107 rfl rfl w (by decide) (Nat.le_of_ble_eq_true rfl) c (j_pick [0] rfl K), q⟩
theorem bX11_value_51 {h0 h : k_H} {Q : k_H → k_R → Prop} {x0 s0 : Nat} {s1 : Option Nat} (w : k_is h s0 3) {P : k_H → Prop} (c : k_ctv (tX0_load G l) [vR (some s0), vR s1] h P) (K : ∀ h1, P h1 → k_X (jX11_value G l h0) h1 54 [(0, vR (some x0))] [] Q) : k_X (jX11_value G l h0) h 51 [(0, vR (some x0))] [vR s1, vR (some s0)] Q := by
  obtain ⟨h1, c, p⟩ := c
  obtain ⟨h', r, K, q⟩ := K h1 p
  exact ⟨h', r, j_callV (v := none) (as := [vR s1]) dX11_value_51 kc_X11_230 rfl rfl w (by decide) (Nat.le_of_ble_eq_true rfl) c K, q⟩
theorem bX11_value_54 {h0 h : k_H} {Q : k_H → k_R → Prop} {x0 f1_2 : Nat} {fs1 : List k_V} (o1 : h.1 x0 = some (k_o 14 fs1)) (g1_2 : fs1[2]? = some (vR (some f1_2))) (w : k_is h f1_2 3) {P : k_H → Int32 → Prop} (c : k_cti (tX0_told G l) [vR (some f1_2)] h P) (K : ∀ h1 v, P h1 v → k_X (jX11_value G l h0) h1 61 [] [vI v] Q) : k_X (jX11_value G l h0) h 54 [(0, vR (some x0))] [] Q := by
  obtain ⟨h1, v, c, p⟩ := c
  obtain ⟨h', r, K, q⟩ := K h1 v p
  exact ⟨h', r, j_aload_n dX11_value_54 rfl rfl <| j_getf dX11_value_55 kf_X11_28 o1 g1_2 <| j_callV (v := some (vI v)) (as := []) dX11_value_58 kc_X11_130 rfl rfl w (by decide) (Nat.le_of_ble_eq_true rfl) c (j_pick [] rfl K), q⟩
theorem bX11_value_61 {h0 h : k_H} {Q : k_H → k_R → Prop} {s0 : Int32} (q : Q h (.inl (some (vI s0)))) : k_X (jX11_value G l h0) h 61 [] [vI s0] Q := by
  exact ⟨_, _, j_iret dX11_value_61 rfl, q⟩
theorem eX11_packed {G : k_G} {l : Launch} (hfl : l.flags = flags0) {h : k_H} {Q : k_H → k_R → Prop} {x0 : Nat} {x1 : Int32} {x2 : Int32} {x3 : Int32} {x4 : Int32} (K : k_X (jX11_packed G l h) h 0 [(1, vI x1), (2, vI x2), (3, vI x3), (4, vI x4)] [] Q) : k_ct (tX11_packed G l) [vR (some x0), vI x1, vI x2, vI x3, vI x4] h Q := by
  obtain ⟨h', r, K, q⟩ := K
  exact ⟨h', r, k_CtOf (by decide +kernel) (Nat.le_of_ble_eq_true rfl) (j_pick [1, 2, 3, 4] rfl K) hfl, q⟩

theorem bX11_packed_0 {h0 h : k_H} {Q : k_H → k_R → Prop} {x1 x2 x3 x4 : Int32} (K1 : 0 ≤ x4 → k_X (jX11_packed G l h0) h 15 [(1, vI x1), (2, vI x2), (3, vI x3), (4, vI x4)] [] Q) (K2 : ¬ (0 ≤ x4) → k_X (jX11_packed G l h0) h 5 [] [] Q) : k_X (jX11_packed G l h0) h 0 [(1, vI x1), (2, vI x2), (3, vI x3), (4, vI x4)] [] Q := by
  by_cases hc : 0 ≤ x4
  · skip
    obtain ⟨h', r, K, q⟩ := K1 hc
    exact ⟨h', r, j_iload dX11_packed_0 rfl <| j_if_ge_t (tgt := 15) dX11_packed_2 (by decide) hc K, q⟩
  · skip
    obtain ⟨h', r, K, q⟩ := K2 hc
    exact ⟨h', r, j_iload dX11_packed_0 rfl <| j_if_ge_f dX11_packed_2 15 (by decide) hc (j_pick [] rfl K), q⟩
theorem bX11_packed_5 {h0 h : k_H} {Q : k_H → k_R → Prop} (q : Q (k_sk h 1 6) (.inr "java/lang/IndexOutOfBoundsException")) : k_X (jX11_packed G l h0) h 5 [] [] Q := by
  exact ⟨_, _, j_throwS kt_X11_156_158_160 dX11_packed_5 dX11_packed_8 dX11_packed_9 dX11_packed_11 dX11_packed_14 (by decide) (Nat.le_of_ble_eq_true rfl), q⟩
theorem bX11_packed_15 {h0 h : k_H} {Q : k_H → k_R → Prop} {x1 x2 x3 x4 : Int32} {P : k_H → Prop} (c : k_ctv (tX11_requireKey G l) [vI x1, vI x2, vI x3] h P) (K : ∀ h1, P h1 → k_X (jX11_packed G l h0) h1 21 [(1, vI x1), (2, vI x2), (3, vI x3), (4, vI x4)] [] Q) : k_X (jX11_packed G l h0) h 15 [(1, vI x1), (2, vI x2), (3, vI x3), (4, vI x4)] [] Q := by
  obtain ⟨h1, c, p⟩ := c
  obtain ⟨h', r, K, q⟩ := K h1 p
  exact ⟨h', r, j_iload_n dX11_packed_15 rfl rfl <| j_iload_n dX11_packed_16 rfl rfl <| j_iload_n dX11_packed_17 rfl rfl <| j_callS (v := none) (as := [vI x1, vI x2, vI x3]) dX11_packed_18 kc_X11_92 rfl rfl (by decide) (Nat.le_of_ble_eq_true rfl) c K, q⟩
theorem bX11_packed_15x {h0 h : k_H} {Q : k_H → k_R → Prop} {x1 x2 x3 x4 : Int32} {E : String} {P : k_H → Prop} (c : k_ctx (tX11_requireKey G l) [vI x1, vI x2, vI x3] h E P) (q : ∀ h1, P h1 → Q h1 (.inr E)) : k_X (jX11_packed G l h0) h 15 [(1, vI x1), (2, vI x2), (3, vI x3), (4, vI x4)] [] Q := by
  obtain ⟨h1, c, p⟩ := c
  exact ⟨h1, _, j_iload_n dX11_packed_15 rfl rfl <| j_iload_n dX11_packed_16 rfl rfl <| j_iload_n dX11_packed_17 rfl rfl <| j_callSx (as := [vI x1, vI x2, vI x3]) dX11_packed_18 kc_X11_92 rfl rfl (by decide) (Nat.le_of_ble_eq_true rfl) c, q h1 p⟩
theorem bX11_packed_21 {h0 h : k_H} {Q : k_H → k_R → Prop} {x1 x2 x3 x4 : Int32} {P : k_H → Int32 → Prop} (c : k_cti (tX11_lastPlace G l) [vI x2, vI x3] h P) (K : ∀ h1 v, P h1 v → k_X (jX11_packed G l h0) h1 30 [(1, vI x1), (2, vI x2), (3, vI x3), (4, vI x4)] [vI v, vI (x4 / 3)] Q) : k_X (jX11_packed G l h0) h 21 [(1, vI x1), (2, vI x2), (3, vI x3), (4, vI x4)] [] Q := by
  obtain ⟨h1, v, c, p⟩ := c
  obtain ⟨h', r, K, q⟩ := K h1 v p
  exact ⟨h', r, j_iload dX11_packed_21 rfl <| j_iconst (v := 3) dX11_packed_23 (by decide) <| j_idiv dX11_packed_24 (by decide) <| j_iload_n dX11_packed_25 rfl rfl <| j_iload_n dX11_packed_26 rfl rfl <| j_callS (v := some (vI v)) (as := [vI x2, vI x3]) dX11_packed_27 kc_X11_193 rfl rfl (by decide) (Nat.le_of_ble_eq_true rfl) c K, q⟩
theorem bX11_packed_30 {h0 h : k_H} {Q : k_H → k_R → Prop} {x1 x2 x3 x4 s0 s1 : Int32} (K1 : s0 ≤ s1 → k_X (jX11_packed G l h0) h 36 [(1, vI x1), (2, vI x2), (3, vI x3), (4, vI x4)] [] Q) (K2 : ¬ (s0 ≤ s1) → k_X (jX11_packed G l h0) h 33 [] [] Q) : k_X (jX11_packed G l h0) h 30 [(1, vI x1), (2, vI x2), (3, vI x3), (4, vI x4)] [vI s1, vI s0] Q := by
  by_cases hc : s0 ≤ s1
  · skip
    obtain ⟨h', r, K, q⟩ := K1 hc
    exact ⟨h', r, j_icmp_le_t (tgt := 36) dX11_packed_30 (by decide) hc K, q⟩
  · skip
    obtain ⟨h', r, K, q⟩ := K2 hc
    exact ⟨h', r, j_icmp_le_f dX11_packed_30 36 (by decide) hc (j_pick [] rfl K), q⟩
theorem bX11_packed_33 {h0 h : k_H} {Q : k_H → k_R → Prop} (q : Q h (.inl (some (vI (-2147483648))))) : k_X (jX11_packed G l h0) h 33 [] [] Q := by
  exact ⟨_, _, j_ldc (v := (-2147483648)) dX11_packed_33 ki_X11_62 <| j_iret dX11_packed_35 rfl, q⟩
theorem bX11_packed_36 {h0 h : k_H} {Q : k_H → k_R → Prop} {x1 x2 x3 x4 : Int32} {P : k_H → Int64 → Prop} (c : k_ctj (tX11_codeOf G l) [vI x1, vI x2, vI x3] h P) (K : ∀ h1 v, P h1 v → k_X (jX11_packed G l h0) h1 42 [(4, vI x4)] [vJ v] Q) : k_X (jX11_packed G l h0) h 36 [(1, vI x1), (2, vI x2), (3, vI x3), (4, vI x4)] [] Q := by
  obtain ⟨h1, v, c, p⟩ := c
  obtain ⟨h', r, K, q⟩ := K h1 v p
  exact ⟨h', r, j_iload_n dX11_packed_36 rfl rfl <| j_iload_n dX11_packed_37 rfl rfl <| j_iload_n dX11_packed_38 rfl rfl <| j_callS (v := some (vJ v)) (as := [vI x1, vI x2, vI x3]) dX11_packed_39 kc_X11_100 rfl rfl (by decide) (Nat.le_of_ble_eq_true rfl) c (j_pick [3] rfl K), q⟩
theorem bX11_packed_42 {h0 h : k_H} {Q : k_H → k_R → Prop} {x4 : Int32} {s0 : Int64} {P : k_H → Int32 → Prop} (c : k_cti (tX11_numberOf G l) [vJ s0, vI (x4 / 3)] h P) (K : ∀ h1 v, P h1 v → k_X (jX11_packed G l h0) h1 49 [(4, vI x4)] [vI v] Q) : k_X (jX11_packed G l h0) h 42 [(4, vI x4)] [vJ s0] Q := by
  obtain ⟨h1, v, c, p⟩ := c
  obtain ⟨h', r, K, q⟩ := K h1 v p
  exact ⟨h', r, j_iload dX11_packed_42 rfl <| j_iconst (v := 3) dX11_packed_44 (by decide) <| j_idiv dX11_packed_45 (by decide) <| j_callS (v := some (vI v)) (as := [vJ s0, vI (x4 / 3)]) dX11_packed_46 kc_X11_176 rfl rfl (by decide) (Nat.le_of_ble_eq_true rfl) c K, q⟩
theorem bX11_packed_49 {h0 h : k_H} {Q : k_H → k_R → Prop} {x4 s0 : Int32} {P : k_H → Int32 → Prop} (c : k_cti (tX11_byteOf G l) [vI s0, vI (x4 - (x4 / 3) * 3)] h P) (K : ∀ h1 v, P h1 v → k_X (jX11_packed G l h0) h1 56 [] [vI v] Q) : k_X (jX11_packed G l h0) h 49 [(4, vI x4)] [vI s0] Q := by
  obtain ⟨h1, v, c, p⟩ := c
  obtain ⟨h', r, K, q⟩ := K h1 v p
  exact ⟨h', r, j_iload dX11_packed_49 rfl <| j_iconst (v := 3) dX11_packed_51 (by decide) <| j_irem dX11_packed_52 (by decide) <| j_callS (v := some (vI v)) (as := [vI s0, vI (x4 - (x4 / 3) * 3)]) dX11_packed_53 kc_X11_234 rfl rfl (by decide) (Nat.le_of_ble_eq_true rfl) c (j_pick [] rfl K), q⟩
theorem bX11_packed_56 {h0 h : k_H} {Q : k_H → k_R → Prop} {s0 : Int32} (q : Q h (.inl (some (vI s0)))) : k_X (jX11_packed G l h0) h 56 [] [vI s0] Q := by
  exact ⟨_, _, j_iret dX11_packed_56 rfl, q⟩
theorem eX11_version {G : k_G} {l : Launch} (hfl : l.flags = flags0) {h : k_H} {Q : k_H → k_R → Prop} {x0 : Nat} (K : k_X (jX11_version G l h) h 0 [(0, vR (some x0))] [] Q) : k_ct (tX11_version G l) [vR (some x0)] h Q := by
  obtain ⟨h', r, K, q⟩ := K
  exact ⟨h', r, k_CtOf (by decide +kernel) (Nat.le_of_ble_eq_true rfl) K hfl, q⟩

theorem bX11_version_0 {h0 h : k_H} {Q : k_H → k_R → Prop} {x0 f1_0 : Nat} {f2_6 : Int32} {fs1 : List k_V} (o1 : h.1 x0 = some (k_o 14 fs1)) (g1_0 : fs1[0]? = some (vR (some f1_0))) {fs2 : List k_V} (o2 : h.1 f1_0 = some (k_o 11 fs2)) (g2_6 : fs2[6]? = some (vI f2_6)) (q : Q h (.inl (some (vI f2_6)))) : k_X (jX11_version G l h0) h 0 [(0, vR (some x0))] [] Q := by
  exact ⟨_, _, j_aload_n dX11_version_0 rfl rfl <| j_getf dX11_version_1 kf_X11_14 o1 g1_0 <| j_getf dX11_version_4 kf_X11_85 o2 g2_6 <| j_iret dX11_version_7 rfl, q⟩
theorem eX11_directory {G : k_G} {l : Launch} (hfl : l.flags = flags0) {h : k_H} {Q : k_H → k_R → Prop} {x0 : Nat} {x1 : Int32} {x2 : Int32} (K : k_X (jX11_directory G l h) h 0 [(0, vR (some x0)), (1, vI x1), (2, vI x2)] [] Q) : k_ct (tX11_directory G l) [vR (some x0), vI x1, vI x2] h Q := by
  obtain ⟨h', r, K, q⟩ := K
  exact ⟨h', r, k_CtOf (by decide +kernel) (Nat.le_of_ble_eq_true rfl) K hfl, q⟩

theorem bX11_directory_0 {h0 h : k_H} {Q : k_H → k_R → Prop} {x0 : Nat} {x1 x2 : Int32} (w : k_is h x0 14) {P : k_H → Option Nat → Prop} (c : k_ctr (tX11_directoryAt G l) [vR (some x0), vI x1] h P) (K : ∀ h1 v, P h1 v → k_X (jX11_directory G l h0) h1 5 [(0, vR (some x0)), (2, vI x2)] [vR v] Q) : k_X (jX11_directory G l h0) h 0 [(0, vR (some x0)), (1, vI x1), (2, vI x2)] [] Q := by
  obtain ⟨h1, v, c, p⟩ := c
  obtain ⟨h', r, K, q⟩ := K h1 v p
  exact ⟨h', r, j_aload_n dX11_directory_0 rfl rfl <| j_iload_n dX11_directory_1 rfl rfl <| j_callV (v := some (vR v)) (as := [vI x1]) dX11_directory_2 kc_X11_237 rfl rfl w (by decide) (Nat.le_of_ble_eq_true rfl) c (j_pick [0, 2] rfl K), q⟩
theorem bX11_directory_0x {h0 h : k_H} {Q : k_H → k_R → Prop} {x0 : Nat} {x1 x2 : Int32} (w : k_is h x0 14) {E : String} {P : k_H → Prop} (c : k_ctx (tX11_directoryAt G l) [vR (some x0), vI x1] h E P) (q : ∀ h1, P h1 → Q h1 (.inr E)) : k_X (jX11_directory G l h0) h 0 [(0, vR (some x0)), (1, vI x1), (2, vI x2)] [] Q := by
  obtain ⟨h1, c, p⟩ := c
  exact ⟨h1, _, j_aload_n dX11_directory_0 rfl rfl <| j_iload_n dX11_directory_1 rfl rfl <| j_callVx (as := [vI x1]) dX11_directory_2 kc_X11_237 rfl rfl w (by decide) (Nat.le_of_ble_eq_true rfl) c, q h1 p⟩
theorem bX11_directory_5 {h0 h : k_H} {Q : k_H → k_R → Prop} {x0 : Nat} {x2 : Int32} {s0 : Option Nat} {P : k_H → Prop} (c : k_ctv (tX11_requireName G l) [vI x2] h P) (K : ∀ h1, P h1 → k_X (jX11_directory G l h0) h1 10 [(0, vR (some x0)), (2, vI x2), (3, vR s0)] [] Q) : k_X (jX11_directory G l h0) h 5 [(0, vR (some x0)), (2, vI x2)] [vR s0] Q := by
  obtain ⟨h1, c, p⟩ := c
  obtain ⟨h', r, K, q⟩ := K h1 p
  exact ⟨h', r, j_astore_n dX11_directory_5 rfl (by decide) rfl <| j_iload_n dX11_directory_6 rfl rfl <| j_callS (v := none) (as := [vI x2]) dX11_directory_7 kc_X11_241 rfl rfl (by decide) (Nat.le_of_ble_eq_true rfl) c K, q⟩
theorem bX11_directory_5x {h0 h : k_H} {Q : k_H → k_R → Prop} {x0 : Nat} {x2 : Int32} {s0 : Option Nat} {E : String} {P : k_H → Prop} (c : k_ctx (tX11_requireName G l) [vI x2] h E P) (q : ∀ h1, P h1 → Q h1 (.inr E)) : k_X (jX11_directory G l h0) h 5 [(0, vR (some x0)), (2, vI x2)] [vR s0] Q := by
  obtain ⟨h1, c, p⟩ := c
  exact ⟨h1, _, j_astore_n dX11_directory_5 rfl (by decide) rfl <| j_iload_n dX11_directory_6 rfl rfl <| j_callSx (as := [vI x2]) dX11_directory_7 kc_X11_241 rfl rfl (by decide) (Nat.le_of_ble_eq_true rfl) c, q h1 p⟩
theorem bX11_directory_10 {h0 h : k_H} {Q : k_H → k_R → Prop} {x0 : Nat} {x2 : Int32} {x3 : Option Nat} (w : k_is h x0 14) {P : k_H → Option Nat → Prop} (c : k_ctr (tX11_childOf G l) [vR (some x0), vR x3, vI x2] h P) (K : ∀ h1 v, P h1 v → k_X (jX11_directory G l h0) h1 16 [(0, vR (some x0)), (2, vI x2), (3, vR x3)] [vR v] Q) : k_X (jX11_directory G l h0) h 10 [(0, vR (some x0)), (2, vI x2), (3, vR x3)] [] Q := by
  obtain ⟨h1, v, c, p⟩ := c
  obtain ⟨h', r, K, q⟩ := K h1 v p
  exact ⟨h', r, j_aload_n dX11_directory_10 rfl rfl <| j_aload_n dX11_directory_11 rfl rfl <| j_iload_n dX11_directory_12 rfl rfl <| j_callV (v := some (vR v)) (as := [vR x3, vI x2]) dX11_directory_13 kc_X11_244 rfl rfl w (by decide) (Nat.le_of_ble_eq_true rfl) c K, q⟩
theorem bX11_directory_16 {h0 h : k_H} {Q : k_H → k_R → Prop} {x0 : Nat} {x2 : Int32} {x3 s0 : Option Nat} (K1 : s0 = none → k_X (jX11_directory G l h0) h 19 [(0, vR (some x0)), (2, vI x2), (3, vR x3)] [] Q) (K2 : ∀ a, s0 = some a → k_X (jX11_directory G l h0) h 31 [] [] Q) : k_X (jX11_directory G l h0) h 16 [(0, vR (some x0)), (2, vI x2), (3, vR x3)] [vR s0] Q := by
  rcases e9 : s0 with _ | a
  · obtain ⟨h', r, K, q⟩ := K1 e9
    subst e9
    exact ⟨h', r, j_ifnonnull_f dX11_directory_16 K, q⟩
  · obtain ⟨h', r, K, q⟩ := K2 a e9
    subst e9
    exact ⟨h', r, j_ifnonnull_t (tgt := 31) dX11_directory_16 (by decide) (j_pick [] rfl K), q⟩
theorem bX11_directory_19 {h0 h : k_H} {Q : k_H → k_R → Prop} {x0 f1_5 : Nat} {x2 : Int32} {x3 : Option Nat} {fs1 : List k_V} (o1 : h.1 x0 = some (k_o 14 fs1)) (g1_5 : fs1[5]? = some (vR (some f1_5))) (w : k_is h f1_5 2) {P : k_H → Int32 → Prop} (c : k_cti (tAL_size G l) [vR (some f1_5)] h P) (K : ∀ h1 v, P h1 v → k_X (jX11_directory G l h0) h1 26 [(0, vR (some x0)), (2, vI x2), (3, vR x3)] [vI v] Q) : k_X (jX11_directory G l h0) h 19 [(0, vR (some x0)), (2, vI x2), (3, vR x3)] [] Q := by
  obtain ⟨h1, v, c, p⟩ := c
  obtain ⟨h', r, K, q⟩ := K h1 v p
  exact ⟨h', r, j_aload_n dX11_directory_19 rfl rfl <| j_getf dX11_directory_20 kf_X11_42 o1 g1_5 <| j_callV (v := some (vI v)) (as := []) dX11_directory_23 kc_X11_153 rfl rfl w (by decide) (Nat.le_of_ble_eq_true rfl) c K, q⟩
theorem bX11_directory_26 {h0 h : k_H} {Q : k_H → k_R → Prop} {x0 : Nat} {x2 s0 : Int32} {x3 : Option Nat} (K1 : s0 ≤ 9 → k_X (jX11_directory G l h0) h 41 [(0, vR (some x0)), (2, vI x2), (3, vR x3)] [] Q) (K2 : ¬ (s0 ≤ 9) → k_X (jX11_directory G l h0) h 31 [] [] Q) : k_X (jX11_directory G l h0) h 26 [(0, vR (some x0)), (2, vI x2), (3, vR x3)] [vI s0] Q := by
  by_cases hc : s0 ≤ 9
  · skip
    obtain ⟨h', r, K, q⟩ := K1 hc
    exact ⟨h', r, j_bipush (v := 9) dX11_directory_26 (by decide) <| j_icmp_le_t (tgt := 41) dX11_directory_28 (by decide) hc K, q⟩
  · skip
    obtain ⟨h', r, K, q⟩ := K2 hc
    exact ⟨h', r, j_bipush (v := 9) dX11_directory_26 (by decide) <| j_icmp_le_f dX11_directory_28 41 (by decide) hc (j_pick [] rfl K), q⟩
theorem bX11_directory_31 {h0 h : k_H} {Q : k_H → k_R → Prop} (q : Q (k_sk h 1 6) (.inr "java/lang/IllegalStateException")) : k_X (jX11_directory G l h0) h 31 [] [] Q := by
  exact ⟨_, _, j_throwS kt_X11_119_248_123 dX11_directory_31 dX11_directory_34 dX11_directory_35 dX11_directory_37 dX11_directory_40 (by decide) (Nat.le_of_ble_eq_true rfl), q⟩
theorem bX11_directory_41 {h0 h : k_H} {Q : k_H → k_R → Prop} {x0 : Nat} {x2 f1_12 : Int32} {x3 : Option Nat} {fs1 : List k_V} (o1 : h.1 x0 = some (k_o 14 fs1)) (g1_12 : fs1[12]? = some (vI f1_12)) (z1 : fs1.length = 13) (K : k_X (jX11_directory G l h0) (k_up h x0 (k_o 14 (fs1.set 12 (vI (f1_12 + 1))))) 51 [(0, vR (some x0)), (2, vI x2), (3, vR x3)] [] Q) : k_X (jX11_directory G l h0) h 41 [(0, vR (some x0)), (2, vI x2), (3, vR x3)] [] Q := by
  obtain ⟨h', r, K, q⟩ := K
  exact ⟨h', r, j_aload_n dX11_directory_41 rfl rfl <| j_dup dX11_directory_42 rfl <| j_getf dX11_directory_43 kf_X11_66 o1 g1_12 <| j_iconst (v := 1) dX11_directory_46 (by decide) <| j_iadd dX11_directory_47 <| j_putf dX11_directory_48 kp_X11_66 o1 (k_ln z1 (by decide)) (k_fit_i _) rfl <| K, q⟩
theorem bX11_directory_51 {h0 h : k_H} {Q : k_H → k_R → Prop} {x0 : Nat} {x2 : Int32} {x3 f1_5 : Option Nat} {fs1 : List k_V} (o1 : h.1 x0 = some (k_o 14 fs1)) (g1_5 : fs1[5]? = some (vR f1_5)) (K : k_X (jX11_directory G l h0) (k_nw h 4 (k_o 5 [vI 0, vI 0, vR none, vI 0])) 58 [(0, vR (some x0)), (2, vI x2), (3, vR x3)] [vR (some h.2.1), vR f1_5] Q) : k_X (jX11_directory G l h0) h 51 [(0, vR (some x0)), (2, vI x2), (3, vR x3)] [] Q := by
  obtain ⟨h', r, K, q⟩ := K
  exact ⟨h', r, j_aload_n dX11_directory_51 rfl rfl <| j_getf dX11_directory_52 kf_X11_42 o1 g1_5 <| j_new dX11_directory_55 kn_X11_76 <| K, q⟩
theorem bX11_directory_58 {h0 h : k_H} {Q : k_H → k_R → Prop} {x0 : Nat} {x2 f1_12 : Int32} {x3 s0 s1 : Option Nat} {fs1 : List k_V} (o1 : h.1 x0 = some (k_o 14 fs1)) (g1_12 : fs1[12]? = some (vI f1_12)) {P : k_H → Int32 → Prop} (c : k_cti (tX11_freeShortName G l) [vR (some x0)] h P) (K : ∀ h1 v, P h1 v → k_X (jX11_directory G l h0) h1 69 [(0, vR (some x0))] [vI v, vI x2, vR x3, vI f1_12, vR s1, vR s1, vR s0] Q) : k_X (jX11_directory G l h0) h 58 [(0, vR (some x0)), (2, vI x2), (3, vR x3)] [vR s1, vR s0] Q := by
  obtain ⟨h1, v, c, p⟩ := c
  obtain ⟨h', r, K, q⟩ := K h1 v p
  exact ⟨h', r, j_dup dX11_directory_58 rfl <| j_aload_n dX11_directory_59 rfl rfl <| j_getf dX11_directory_60 kf_X11_66 o1 g1_12 <| j_aload_n dX11_directory_63 rfl rfl <| j_iload_n dX11_directory_64 rfl rfl <| j_aload_n dX11_directory_65 rfl rfl <| j_callV (v := some (vI v)) (as := []) dX11_directory_66 kc_X11_250 rfl rfl (k_is_o o1) (by decide) (Nat.le_of_ble_eq_true rfl) c (j_pick [0] rfl K), q⟩
theorem bX11_directory_69 {h0 h : k_H} {Q : k_H → k_R → Prop} {x0 s2 : Nat} {s0 s1 s4 : Option Nat} {s3 s5 s6 : Int32} {P : k_H → Prop} (c : k_ctv (tX2_init G l) [vR (some s2), vI s3, vR s4, vI s5, vI s6] h P) (K : ∀ h1, P h1 → k_X (jX11_directory G l h0) h1 72 [(0, vR (some x0))] [vR s1, vR s0] Q) : k_X (jX11_directory G l h0) h 69 [(0, vR (some x0))] [vI s6, vI s5, vR s4, vI s3, vR (some s2), vR s1, vR s0] Q := by
  obtain ⟨h1, c, p⟩ := c
  obtain ⟨h', r, K, q⟩ := K h1 p
  exact ⟨h', r, j_callI (v := none) (as := [vI s3, vR s4, vI s5, vI s6]) dX11_directory_69 kc_X11_78 rfl rfl (by decide) (Nat.le_of_ble_eq_true rfl) c K, q⟩
theorem bX11_directory_72 {h0 h : k_H} {Q : k_H → k_R → Prop} {x0 s0 : Nat} {s1 : Option Nat} (w : k_is h s0 2) {P : k_H → Int32 → Prop} (c : k_cti (tAL_add G l) [vR (some s0), vR s1] h P) (K : ∀ h1 v, P h1 v → k_X (jX11_directory G l h0) h1 75 [(0, vR (some x0))] [vI v] Q) : k_X (jX11_directory G l h0) h 72 [(0, vR (some x0))] [vR s1, vR (some s0)] Q := by
  obtain ⟨h1, v, c, p⟩ := c
  obtain ⟨h', r, K, q⟩ := K h1 v p
  exact ⟨h', r, j_callV (v := some (vI v)) (as := [vR s1]) dX11_directory_72 kc_X11_72 rfl rfl w (by decide) (Nat.le_of_ble_eq_true rfl) c K, q⟩
theorem bX11_directory_75 {h0 h : k_H} {Q : k_H → k_R → Prop} {x0 : Nat} {s0 f1_12 : Int32} {fs1 : List k_V} (o1 : h.1 x0 = some (k_o 14 fs1)) (g1_12 : fs1[12]? = some (vI f1_12)) (q : Q h (.inl (some (vI f1_12)))) : k_X (jX11_directory G l h0) h 75 [(0, vR (some x0))] [vI s0] Q := by
  exact ⟨_, _, j_pop dX11_directory_75 rfl <| j_aload_n dX11_directory_76 rfl rfl <| j_getf dX11_directory_77 kf_X11_66 o1 g1_12 <| j_iret dX11_directory_80 rfl, q⟩
theorem eX11_move {G : k_G} {l : Launch} (hfl : l.flags = flags0) {h : k_H} {Q : k_H → k_R → Prop} {x0 : Nat} {x1 : Int32} {x2 : Int32} {x3 : Int32} (K : k_X (jX11_move G l h) h 0 [(0, vR (some x0)), (1, vI x1), (2, vI x2), (3, vI x3)] [] Q) : k_ct (tX11_move G l) [vR (some x0), vI x1, vI x2, vI x3] h Q := by
  obtain ⟨h', r, K, q⟩ := K
  exact ⟨h', r, k_CtOf (by decide +kernel) (Nat.le_of_ble_eq_true rfl) K hfl, q⟩

theorem bX11_move_0 {h0 h : k_H} {Q : k_H → k_R → Prop} {x0 : Nat} {x1 x2 x3 : Int32} (w : k_is h x0 14) {P : k_H → Option Nat → Prop} (c : k_ctr (tX11_directoryAt G l) [vR (some x0), vI x1] h P) (K : ∀ h1 v, P h1 v → k_X (jX11_move G l h0) h1 5 [(0, vR (some x0)), (2, vI x2), (3, vI x3)] [vR v] Q) : k_X (jX11_move G l h0) h 0 [(0, vR (some x0)), (1, vI x1), (2, vI x2), (3, vI x3)] [] Q := by
  obtain ⟨h1, v, c, p⟩ := c
  obtain ⟨h', r, K, q⟩ := K h1 v p
  exact ⟨h', r, j_aload_n dX11_move_0 rfl rfl <| j_iload_n dX11_move_1 rfl rfl <| j_callV (v := some (vR v)) (as := [vI x1]) dX11_move_2 kc_X11_237 rfl rfl w (by decide) (Nat.le_of_ble_eq_true rfl) c (j_pick [0, 2, 3] rfl K), q⟩
theorem bX11_move_0x {h0 h : k_H} {Q : k_H → k_R → Prop} {x0 : Nat} {x1 x2 x3 : Int32} (w : k_is h x0 14) {E : String} {P : k_H → Prop} (c : k_ctx (tX11_directoryAt G l) [vR (some x0), vI x1] h E P) (q : ∀ h1, P h1 → Q h1 (.inr E)) : k_X (jX11_move G l h0) h 0 [(0, vR (some x0)), (1, vI x1), (2, vI x2), (3, vI x3)] [] Q := by
  obtain ⟨h1, c, p⟩ := c
  exact ⟨h1, _, j_aload_n dX11_move_0 rfl rfl <| j_iload_n dX11_move_1 rfl rfl <| j_callVx (as := [vI x1]) dX11_move_2 kc_X11_237 rfl rfl w (by decide) (Nat.le_of_ble_eq_true rfl) c, q h1 p⟩
theorem bX11_move_5 {h0 h : k_H} {Q : k_H → k_R → Prop} {x0 : Nat} {x2 x3 : Int32} {s0 : Option Nat} (w : k_is h x0 14) {P : k_H → Option Nat → Prop} (c : k_ctr (tX11_directoryAt G l) [vR (some x0), vI x2] h P) (K : ∀ h1 v, P h1 v → k_X (jX11_move G l h0) h1 12 [(0, vR (some x0)), (3, vI x3), (4, vR s0)] [vR v] Q) : k_X (jX11_move G l h0) h 5 [(0, vR (some x0)), (2, vI x2), (3, vI x3)] [vR s0] Q := by
  obtain ⟨h1, v, c, p⟩ := c
  obtain ⟨h', r, K, q⟩ := K h1 v p
  exact ⟨h', r, j_astore dX11_move_5 (by decide) rfl <| j_aload_n dX11_move_7 rfl rfl <| j_iload_n dX11_move_8 rfl rfl <| j_callV (v := some (vR v)) (as := [vI x2]) dX11_move_9 kc_X11_237 rfl rfl w (by decide) (Nat.le_of_ble_eq_true rfl) c (j_pick [0, 2, 3] rfl K), q⟩
theorem bX11_move_5x {h0 h : k_H} {Q : k_H → k_R → Prop} {x0 : Nat} {x2 x3 : Int32} {s0 : Option Nat} (w : k_is h x0 14) {E : String} {P : k_H → Prop} (c : k_ctx (tX11_directoryAt G l) [vR (some x0), vI x2] h E P) (q : ∀ h1, P h1 → Q h1 (.inr E)) : k_X (jX11_move G l h0) h 5 [(0, vR (some x0)), (2, vI x2), (3, vI x3)] [vR s0] Q := by
  obtain ⟨h1, c, p⟩ := c
  exact ⟨h1, _, j_astore dX11_move_5 (by decide) rfl <| j_aload_n dX11_move_7 rfl rfl <| j_iload_n dX11_move_8 rfl rfl <| j_callVx (as := [vI x2]) dX11_move_9 kc_X11_237 rfl rfl w (by decide) (Nat.le_of_ble_eq_true rfl) c, q h1 p⟩
theorem bX11_move_12 {h0 h : k_H} {Q : k_H → k_R → Prop} {x0 : Nat} {x3 : Int32} {x4 s0 : Option Nat} {P : k_H → Prop} (c : k_ctv (tX11_requireName G l) [vI x3] h P) (K : ∀ h1, P h1 → k_X (jX11_move G l h0) h1 18 [(0, vR (some x0)), (3, vI x3), (4, vR x4), (5, vR s0)] [] Q) : k_X (jX11_move G l h0) h 12 [(0, vR (some x0)), (3, vI x3), (4, vR x4)] [vR s0] Q := by
  obtain ⟨h1, c, p⟩ := c
  obtain ⟨h', r, K, q⟩ := K h1 p
  exact ⟨h', r, j_astore dX11_move_12 (by decide) rfl <| j_iload_n dX11_move_14 rfl rfl <| j_callS (v := none) (as := [vI x3]) dX11_move_15 kc_X11_241 rfl rfl (by decide) (Nat.le_of_ble_eq_true rfl) c K, q⟩
theorem bX11_move_12x {h0 h : k_H} {Q : k_H → k_R → Prop} {x0 : Nat} {x3 : Int32} {x4 s0 : Option Nat} {E : String} {P : k_H → Prop} (c : k_ctx (tX11_requireName G l) [vI x3] h E P) (q : ∀ h1, P h1 → Q h1 (.inr E)) : k_X (jX11_move G l h0) h 12 [(0, vR (some x0)), (3, vI x3), (4, vR x4)] [vR s0] Q := by
  obtain ⟨h1, c, p⟩ := c
  exact ⟨h1, _, j_astore dX11_move_12 (by decide) rfl <| j_iload_n dX11_move_14 rfl rfl <| j_callSx (as := [vI x3]) dX11_move_15 kc_X11_241 rfl rfl (by decide) (Nat.le_of_ble_eq_true rfl) c, q h1 p⟩
theorem bX11_move_18 {h0 h : k_H} {Q : k_H → k_R → Prop} {x0 x4 : Nat} {x3 f1_0 : Int32} {x5 : Option Nat} {fs1 : List k_V} (o1 : h.1 x4 = some (k_o 5 fs1)) (g1_0 : fs1[0]? = some (vI f1_0)) (K1 : f1_0 = 0 → k_X (jX11_move G l h0) h 36 [] [] Q) (K2 : ¬ (f1_0 = 0) → k_X (jX11_move G l h0) h 26 [(0, vR (some x0)), (3, vI x3), (4, vR (some x4)), (5, vR x5)] [] Q) : k_X (jX11_move G l h0) h 18 [(0, vR (some x0)), (3, vI x3), (4, vR (some x4)), (5, vR x5)] [] Q := by
  by_cases hc : f1_0 = 0
  · skip
    obtain ⟨h', r, K, q⟩ := K1 hc
    exact ⟨h', r, j_aload dX11_move_18 rfl <| j_getf dX11_move_20 kf_X11_253 o1 g1_0 <| j_if_eq_t (tgt := 36) dX11_move_23 (by decide) hc (j_pick [] rfl K), q⟩
  · skip
    obtain ⟨h', r, K, q⟩ := K2 hc
    exact ⟨h', r, j_aload dX11_move_18 rfl <| j_getf dX11_move_20 kf_X11_253 o1 g1_0 <| j_if_eq_f dX11_move_23 36 (by decide) hc K, q⟩
theorem bX11_move_26 {h0 h : k_H} {Q : k_H → k_R → Prop} {x0 : Nat} {x3 : Int32} {x4 x5 : Option Nat} {P : k_H → Int32 → Prop} (c : k_cti (tX11_isWithin G l) [vR x5, vR x4] h P) (K : ∀ h1 v, P h1 v → k_X (jX11_move G l h0) h1 33 [(0, vR (some x0)), (3, vI x3), (4, vR x4), (5, vR x5)] [vI v] Q) : k_X (jX11_move G l h0) h 26 [(0, vR (some x0)), (3, vI x3), (4, vR x4), (5, vR x5)] [] Q := by
  obtain ⟨h1, v, c, p⟩ := c
  obtain ⟨h', r, K, q⟩ := K h1 v p
  exact ⟨h', r, j_aload dX11_move_26 rfl <| j_aload dX11_move_28 rfl <| j_callS (v := some (vI v)) (as := [vR x5, vR x4]) dX11_move_30 kc_X11_256 rfl rfl (by decide) (Nat.le_of_ble_eq_true rfl) c K, q⟩
theorem bX11_move_33 {h0 h : k_H} {Q : k_H → k_R → Prop} {x0 : Nat} {x3 s0 : Int32} {x4 x5 : Option Nat} (K1 : s0 = 0 → k_X (jX11_move G l h0) h 47 [(0, vR (some x0)), (3, vI x3), (4, vR x4), (5, vR x5)] [] Q) (K2 : ¬ (s0 = 0) → k_X (jX11_move G l h0) h 36 [] [] Q) : k_X (jX11_move G l h0) h 33 [(0, vR (some x0)), (3, vI x3), (4, vR x4), (5, vR x5)] [vI s0] Q := by
  by_cases hc : s0 = 0
  · skip
    obtain ⟨h', r, K, q⟩ := K1 hc
    exact ⟨h', r, j_if_eq_t (tgt := 47) dX11_move_33 (by decide) hc K, q⟩
  · skip
    obtain ⟨h', r, K, q⟩ := K2 hc
    exact ⟨h', r, j_if_eq_f dX11_move_33 47 (by decide) hc (j_pick [] rfl K), q⟩
theorem bX11_move_36 {h0 h : k_H} {Q : k_H → k_R → Prop} (q : Q (k_sk h 1 6) (.inr "java/lang/IllegalStateException")) : k_X (jX11_move G l h0) h 36 [] [] Q := by
  exact ⟨_, _, j_throwSW kt_X11_119_260_123 dX11_move_36 dX11_move_39 dX11_move_40 dX11_move_43 dX11_move_46 (by decide) (Nat.le_of_ble_eq_true rfl), q⟩
theorem bX11_move_47 {h0 h : k_H} {Q : k_H → k_R → Prop} {x0 : Nat} {x3 : Int32} {x4 x5 : Option Nat} (w : k_is h x0 14) {P : k_H → Option Nat → Prop} (c : k_ctr (tX11_childOf G l) [vR (some x0), vR x5, vI x3] h P) (K : ∀ h1 v, P h1 v → k_X (jX11_move G l h0) h1 54 [(3, vI x3), (4, vR x4), (5, vR x5)] [vR v] Q) : k_X (jX11_move G l h0) h 47 [(0, vR (some x0)), (3, vI x3), (4, vR x4), (5, vR x5)] [] Q := by
  obtain ⟨h1, v, c, p⟩ := c
  obtain ⟨h', r, K, q⟩ := K h1 v p
  exact ⟨h', r, j_aload_n dX11_move_47 rfl rfl <| j_aload dX11_move_48 rfl <| j_iload_n dX11_move_50 rfl rfl <| j_callV (v := some (vR v)) (as := [vR x5, vI x3]) dX11_move_51 kc_X11_244 rfl rfl w (by decide) (Nat.le_of_ble_eq_true rfl) c (j_pick [1, 2, 3] rfl K), q⟩
theorem bX11_move_54 {h0 h : k_H} {Q : k_H → k_R → Prop} {x3 : Int32} {x4 x5 s0 : Option Nat} (K1 : s0 = none → k_X (jX11_move G l h0) h 79 [(3, vI x3), (4, vR x4), (5, vR x5)] [] Q) (K2 : ∀ a, s0 = some a → k_X (jX11_move G l h0) h 61 [(3, vI x3), (4, vR x4), (5, vR x5), (6, vR s0)] [] Q) : k_X (jX11_move G l h0) h 54 [(3, vI x3), (4, vR x4), (5, vR x5)] [vR s0] Q := by
  rcases e9 : s0 with _ | a
  · obtain ⟨h', r, K, q⟩ := K1 e9
    subst e9
    exact ⟨h', r, j_astore dX11_move_54 (by decide) rfl <| j_aload dX11_move_56 rfl <| j_ifnull_t (tgt := 79) dX11_move_58 (by decide) (j_pick [0, 1, 2] rfl K), q⟩
  · obtain ⟨h', r, K, q⟩ := K2 a e9
    subst e9
    exact ⟨h', r, j_astore dX11_move_54 (by decide) rfl <| j_aload dX11_move_56 rfl <| j_ifnull_f dX11_move_58 K, q⟩
theorem bX11_move_61 {h0 h : k_H} {Q : k_H → k_R → Prop} {x3 : Int32} {x4 x5 x6 : Option Nat} (K1 : x6 = x4 → k_X (jX11_move G l h0) h 79 [(3, vI x3), (4, vR x4), (5, vR x5)] [] Q) (K2 : ¬ (x6 = x4) → k_X (jX11_move G l h0) h 68 [] [] Q) : k_X (jX11_move G l h0) h 61 [(3, vI x3), (4, vR x4), (5, vR x5), (6, vR x6)] [] Q := by
  by_cases hc : x6 = x4
  · skip
    obtain ⟨h', r, K, q⟩ := K1 hc
    revert K q
    first | subst hc | (rw [hc]) | skip
    intro K q
    exact ⟨h', r, j_aload dX11_move_61 rfl <| j_aload dX11_move_63 rfl <| j_acmp_eq_t (tgt := 79) dX11_move_65 (by decide) (j_pick [0, 1, 2] rfl K), q⟩
  · skip
    obtain ⟨h', r, K, q⟩ := K2 hc
    exact ⟨h', r, j_aload dX11_move_61 rfl <| j_aload dX11_move_63 rfl <| j_acmp_eq_f dX11_move_65 79 (by decide) hc (j_pick [] rfl K), q⟩
theorem bX11_move_68 {h0 h : k_H} {Q : k_H → k_R → Prop} (q : Q (k_sk h 1 6) (.inr "java/lang/IllegalStateException")) : k_X (jX11_move G l h0) h 68 [] [] Q := by
  exact ⟨_, _, j_throwSW kt_X11_119_262_123 dX11_move_68 dX11_move_71 dX11_move_72 dX11_move_75 dX11_move_78 (by decide) (Nat.le_of_ble_eq_true rfl), q⟩
theorem bX11_move_79 {h0 h : k_H} {Q : k_H → k_R → Prop} {x3 : Int32} {x4 : Nat} {x5 : Option Nat} {fs1 : List k_V} (o1 : h.1 x4 = some (k_o 5 fs1)) (z1 : fs1.length = 4) (K : k_X (jX11_move G l h0) (k_up h x4 (k_o 5 (fs1.set 2 (vR x5)))) 86 [(3, vI x3), (4, vR (some x4))] [] Q) : k_X (jX11_move G l h0) h 79 [(3, vI x3), (4, vR (some x4)), (5, vR x5)] [] Q := by
  obtain ⟨h', r, K, q⟩ := K
  exact ⟨h', r, j_aload dX11_move_79 rfl <| j_aload dX11_move_81 rfl <| j_putf dX11_move_83 kp_X11_264 o1 (k_ln z1 (by decide)) (k_fit_r _ _) rfl <| (j_pick [0, 1] rfl K), q⟩
theorem bX11_move_86 {h0 h : k_H} {Q : k_H → k_R → Prop} {x3 : Int32} {x4 : Nat} {fs1 : List k_V} (o1 : h.1 x4 = some (k_o 5 fs1)) (z1 : fs1.length = 4) (K : k_X (jX11_move G l h0) (k_up h x4 (k_o 5 (fs1.set 3 (vI x3)))) 92 [] [] Q) : k_X (jX11_move G l h0) h 86 [(3, vI x3), (4, vR (some x4))] [] Q := by
  obtain ⟨h', r, K, q⟩ := K
  exact ⟨h', r, j_aload dX11_move_86 rfl <| j_iload_n dX11_move_88 rfl rfl <| j_putf dX11_move_89 kp_X11_268 o1 (k_ln z1 (by decide)) (k_fit_i _) rfl <| (j_pick [] rfl K), q⟩
theorem bX11_move_92 {h0 h : k_H} {Q : k_H → k_R → Prop} (q : Q h (.inl none)) : k_X (jX11_move G l h0) h 92 [] [] Q := by
  exact ⟨_, _, j_vret dX11_move_92 rfl, q⟩
theorem eX11_remove {G : k_G} {l : Launch} (hfl : l.flags = flags0) {h : k_H} {Q : k_H → k_R → Prop} {x0 : Nat} {x1 : Int32} (K : k_X (jX11_remove G l h) h 0 [(0, vR (some x0)), (1, vI x1)] [] Q) : k_ct (tX11_remove G l) [vR (some x0), vI x1] h Q := by
  obtain ⟨h', r, K, q⟩ := K
  exact ⟨h', r, k_CtOf (by decide +kernel) (Nat.le_of_ble_eq_true rfl) K hfl, q⟩

theorem bX11_remove_0 {h0 h : k_H} {Q : k_H → k_R → Prop} {x0 : Nat} {x1 : Int32} (w : k_is h x0 14) {P : k_H → Option Nat → Prop} (c : k_ctr (tX11_directoryAt G l) [vR (some x0), vI x1] h P) (K : ∀ h1 v, P h1 v → k_X (jX11_remove G l h0) h1 5 [(0, vR (some x0))] [vR v] Q) : k_X (jX11_remove G l h0) h 0 [(0, vR (some x0)), (1, vI x1)] [] Q := by
  obtain ⟨h1, v, c, p⟩ := c
  obtain ⟨h', r, K, q⟩ := K h1 v p
  exact ⟨h', r, j_aload_n dX11_remove_0 rfl rfl <| j_iload_n dX11_remove_1 rfl rfl <| j_callV (v := some (vR v)) (as := [vI x1]) dX11_remove_2 kc_X11_237 rfl rfl w (by decide) (Nat.le_of_ble_eq_true rfl) c (j_pick [0] rfl K), q⟩
theorem bX11_remove_0x {h0 h : k_H} {Q : k_H → k_R → Prop} {x0 : Nat} {x1 : Int32} (w : k_is h x0 14) {E : String} {P : k_H → Prop} (c : k_ctx (tX11_directoryAt G l) [vR (some x0), vI x1] h E P) (q : ∀ h1, P h1 → Q h1 (.inr E)) : k_X (jX11_remove G l h0) h 0 [(0, vR (some x0)), (1, vI x1)] [] Q := by
  obtain ⟨h1, c, p⟩ := c
  exact ⟨h1, _, j_aload_n dX11_remove_0 rfl rfl <| j_iload_n dX11_remove_1 rfl rfl <| j_callVx (as := [vI x1]) dX11_remove_2 kc_X11_237 rfl rfl w (by decide) (Nat.le_of_ble_eq_true rfl) c, q h1 p⟩
theorem bX11_remove_5 {h0 h : k_H} {Q : k_H → k_R → Prop} {x0 s0 : Nat} {f1_0 : Int32} {fs1 : List k_V} (o1 : h.1 s0 = some (k_o 5 fs1)) (g1_0 : fs1[0]? = some (vI f1_0)) (K1 : ¬ (f1_0 = 0) → k_X (jX11_remove G l h0) h 24 [(0, vR (some x0)), (2, vR (some s0))] [] Q) (K2 : f1_0 = 0 → k_X (jX11_remove G l h0) h 13 [] [] Q) : k_X (jX11_remove G l h0) h 5 [(0, vR (some x0))] [vR (some s0)] Q := by
  by_cases hc : f1_0 = 0
  · skip
    obtain ⟨h', r, K, q⟩ := K2 hc
    exact ⟨h', r, j_astore_n dX11_remove_5 rfl (by decide) rfl <| j_aload_n dX11_remove_6 rfl rfl <| j_getf dX11_remove_7 kf_X11_253 o1 g1_0 <| j_if_ne_f dX11_remove_10 24 (by decide) hc (j_pick [] rfl K), q⟩
  · skip
    obtain ⟨h', r, K, q⟩ := K1 hc
    exact ⟨h', r, j_astore_n dX11_remove_5 rfl (by decide) rfl <| j_aload_n dX11_remove_6 rfl rfl <| j_getf dX11_remove_7 kf_X11_253 o1 g1_0 <| j_if_ne_t (tgt := 24) dX11_remove_10 (by decide) hc K, q⟩
theorem bX11_remove_13 {h0 h : k_H} {Q : k_H → k_R → Prop} (q : Q (k_sk h 1 6) (.inr "java/lang/IllegalStateException")) : k_X (jX11_remove G l h0) h 13 [] [] Q := by
  exact ⟨_, _, j_throwSW kt_X11_119_271_123 dX11_remove_13 dX11_remove_16 dX11_remove_17 dX11_remove_20 dX11_remove_23 (by decide) (Nat.le_of_ble_eq_true rfl), q⟩
theorem bX11_remove_24 {h0 h : k_H} {Q : k_H → k_R → Prop} {x0 : Nat} {x2 : Option Nat} (w : k_is h x0 14) {P : k_H → Int32 → Prop} (c : k_cti (tX11_heldWithin G l) [vR (some x0), vR x2] h P) (K : ∀ h1 v, P h1 v → k_X (jX11_remove G l h0) h1 29 [(0, vR (some x0)), (2, vR x2)] [vI v] Q) : k_X (jX11_remove G l h0) h 24 [(0, vR (some x0)), (2, vR x2)] [] Q := by
  obtain ⟨h1, v, c, p⟩ := c
  obtain ⟨h', r, K, q⟩ := K h1 v p
  exact ⟨h', r, j_aload_n dX11_remove_24 rfl rfl <| j_aload_n dX11_remove_25 rfl rfl <| j_callV (v := some (vI v)) (as := [vR x2]) dX11_remove_26 kc_X11_273 rfl rfl w (by decide) (Nat.le_of_ble_eq_true rfl) c K, q⟩
theorem bX11_remove_29 {h0 h : k_H} {Q : k_H → k_R → Prop} {x0 : Nat} {x2 : Option Nat} {s0 : Int32} (K1 : s0 ≤ 0 → k_X (jX11_remove G l h0) h 39 [(0, vR (some x0)), (2, vR x2), (3, vI s0)] [] Q) (K2 : ¬ (s0 ≤ 0) → k_X (jX11_remove G l h0) h 34 [(0, vR (some x0)), (2, vR x2), (3, vI s0)] [] Q) : k_X (jX11_remove G l h0) h 29 [(0, vR (some x0)), (2, vR x2)] [vI s0] Q := by
  by_cases hc : s0 ≤ 0
  · skip
    obtain ⟨h', r, K, q⟩ := K1 hc
    exact ⟨h', r, j_istore_n dX11_remove_29 rfl (by decide) rfl <| j_iload_n dX11_remove_30 rfl rfl <| j_if_le_t (tgt := 39) dX11_remove_31 (by decide) hc K, q⟩
  · skip
    obtain ⟨h', r, K, q⟩ := K2 hc
    exact ⟨h', r, j_istore_n dX11_remove_29 rfl (by decide) rfl <| j_iload_n dX11_remove_30 rfl rfl <| j_if_le_f dX11_remove_31 39 (by decide) hc K, q⟩
theorem bX11_remove_34 {h0 h : k_H} {Q : k_H → k_R → Prop} {x0 : Nat} {x2 : Option Nat} {x3 : Int32} (w : k_is h x0 14) {P : k_H → Prop} (c : k_ctv (tX11_wipeWithin G l) [vR (some x0), vR x2] h P) (K : ∀ h1, P h1 → k_X (jX11_remove G l h0) h1 39 [(0, vR (some x0)), (2, vR x2), (3, vI x3)] [] Q) : k_X (jX11_remove G l h0) h 34 [(0, vR (some x0)), (2, vR x2), (3, vI x3)] [] Q := by
  obtain ⟨h1, c, p⟩ := c
  obtain ⟨h', r, K, q⟩ := K h1 p
  exact ⟨h', r, j_aload_n dX11_remove_34 rfl rfl <| j_aload_n dX11_remove_35 rfl rfl <| j_callV (v := none) (as := [vR x2]) dX11_remove_36 kc_X11_277 rfl rfl w (by decide) (Nat.le_of_ble_eq_true rfl) c K, q⟩
theorem bX11_remove_39 {h0 h : k_H} {Q : k_H → k_R → Prop} {x0 f1_5 : Nat} {x2 : Option Nat} {x3 : Int32} {fs1 : List k_V} (o1 : h.1 x0 = some (k_o 14 fs1)) (g1_5 : fs1[5]? = some (vR (some f1_5))) (w : k_is h f1_5 2) {P : k_H → Int32 → Prop} (c : k_cti (tAL_size G l) [vR (some f1_5)] h P) (K : ∀ h1 v, P h1 v → k_X (jX11_remove G l h0) h1 46 [(0, vR (some x0)), (2, vR x2), (3, vI x3)] [vI v] Q) : k_X (jX11_remove G l h0) h 39 [(0, vR (some x0)), (2, vR x2), (3, vI x3)] [] Q := by
  obtain ⟨h1, v, c, p⟩ := c
  obtain ⟨h', r, K, q⟩ := K h1 v p
  exact ⟨h', r, j_aload_n dX11_remove_39 rfl rfl <| j_getf dX11_remove_40 kf_X11_42 o1 g1_5 <| j_callV (v := some (vI v)) (as := []) dX11_remove_43 kc_X11_153 rfl rfl w (by decide) (Nat.le_of_ble_eq_true rfl) c K, q⟩
theorem bX11_remove_46 {h0 h : k_H} {Q : k_H → k_R → Prop} {x0 : Nat} {x2 : Option Nat} {x3 s0 : Int32} (K : k_X (jX11_remove G l h0) h 50 [(0, vR (some x0)), (2, vR x2), (3, vI x3), (4, vI (s0 - 1))] [] Q) : k_X (jX11_remove G l h0) h 46 [(0, vR (some x0)), (2, vR x2), (3, vI x3)] [vI s0] Q := by
  obtain ⟨h', r, K, q⟩ := K
  exact ⟨h', r, j_iconst (v := 1) dX11_remove_46 (by decide) <| j_isub dX11_remove_47 <| j_istore dX11_remove_48 (by decide) rfl <| K, q⟩
theorem bX11_remove_50 {h0 h : k_H} {Q : k_H → k_R → Prop} {x0 : Nat} {x2 : Option Nat} {x3 x4 : Int32} (K1 : x4 < 0 → k_X (jX11_remove G l h0) h 90 [(3, vI x3)] [] Q) (K2 : ¬ (x4 < 0) → k_X (jX11_remove G l h0) h 55 [(0, vR (some x0)), (2, vR x2), (3, vI x3), (4, vI x4)] [] Q) : k_X (jX11_remove G l h0) h 50 [(0, vR (some x0)), (2, vR x2), (3, vI x3), (4, vI x4)] [] Q := by
  by_cases hc : x4 < 0
  · skip
    obtain ⟨h', r, K, q⟩ := K1 hc
    exact ⟨h', r, j_iload dX11_remove_50 rfl <| j_if_lt_t (tgt := 90) dX11_remove_52 (by decide) hc (j_pick [2] rfl K), q⟩
  · skip
    obtain ⟨h', r, K, q⟩ := K2 hc
    exact ⟨h', r, j_iload dX11_remove_50 rfl <| j_if_lt_f dX11_remove_52 90 (by decide) hc K, q⟩
theorem bX11_remove_55 {h0 h : k_H} {Q : k_H → k_R → Prop} {x0 f1_5 : Nat} {x2 : Option Nat} {x3 x4 : Int32} {fs1 : List k_V} (o1 : h.1 x0 = some (k_o 14 fs1)) (g1_5 : fs1[5]? = some (vR (some f1_5))) (w : k_is h f1_5 2) {P : k_H → Option Nat → Prop} (c : k_ctr (tAL_get G l) [vR (some f1_5), vI x4] h P) (K : ∀ h1 v, P h1 v → k_X (jX11_remove G l h0) h1 64 [(0, vR (some x0)), (2, vR x2), (3, vI x3), (4, vI x4)] [vR v] Q) : k_X (jX11_remove G l h0) h 55 [(0, vR (some x0)), (2, vR x2), (3, vI x3), (4, vI x4)] [] Q := by
  obtain ⟨h1, v, c, p⟩ := c
  obtain ⟨h', r, K, q⟩ := K h1 v p
  exact ⟨h', r, j_aload_n dX11_remove_55 rfl rfl <| j_getf dX11_remove_56 kf_X11_42 o1 g1_5 <| j_iload dX11_remove_59 rfl <| j_callV (v := some (vR v)) (as := [vI x4]) dX11_remove_61 kc_X11_166 rfl rfl w (by decide) (Nat.le_of_ble_eq_true rfl) c K, q⟩
theorem bX11_remove_64 {h0 h : k_H} {Q : k_H → k_R → Prop} {x0 s0 : Nat} {x2 : Option Nat} {x3 x4 : Int32} {fs1 : List k_V} (o1 : h.1 s0 = some (k_o 5 fs1)) {P : k_H → Int32 → Prop} (c : k_cti (tX11_isWithin G l) [vR (some s0), vR x2] h P) (K : ∀ h1 v, P h1 v → k_X (jX11_remove G l h0) h1 71 [(0, vR (some x0)), (2, vR x2), (3, vI x3), (4, vI x4)] [vI v] Q) : k_X (jX11_remove G l h0) h 64 [(0, vR (some x0)), (2, vR x2), (3, vI x3), (4, vI x4)] [vR (some s0)] Q := by
  obtain ⟨h1, v, c, p⟩ := c
  obtain ⟨h', r, K, q⟩ := K h1 v p
  exact ⟨h', r, j_cast dX11_remove_64 kk_X11_76 o1 <| j_aload_n dX11_remove_67 rfl rfl <| j_callS (v := some (vI v)) (as := [vR (some s0), vR x2]) dX11_remove_68 kc_X11_256 rfl rfl (by decide) (Nat.le_of_ble_eq_true rfl) c K, q⟩
theorem bX11_remove_71 {h0 h : k_H} {Q : k_H → k_R → Prop} {x0 : Nat} {x2 : Option Nat} {x3 x4 s0 : Int32} (K1 : s0 = 0 → k_X (jX11_remove G l h0) h 84 [(0, vR (some x0)), (2, vR x2), (3, vI x3), (4, vI x4)] [] Q) (K2 : ¬ (s0 = 0) → k_X (jX11_remove G l h0) h 74 [(0, vR (some x0)), (2, vR x2), (3, vI x3), (4, vI x4)] [] Q) : k_X (jX11_remove G l h0) h 71 [(0, vR (some x0)), (2, vR x2), (3, vI x3), (4, vI x4)] [vI s0] Q := by
  by_cases hc : s0 = 0
  · skip
    obtain ⟨h', r, K, q⟩ := K1 hc
    exact ⟨h', r, j_if_eq_t (tgt := 84) dX11_remove_71 (by decide) hc K, q⟩
  · skip
    obtain ⟨h', r, K, q⟩ := K2 hc
    exact ⟨h', r, j_if_eq_f dX11_remove_71 84 (by decide) hc K, q⟩
theorem bX11_remove_74 {h0 h : k_H} {Q : k_H → k_R → Prop} {x0 f1_5 : Nat} {x2 : Option Nat} {x3 x4 : Int32} {fs1 : List k_V} (o1 : h.1 x0 = some (k_o 14 fs1)) (g1_5 : fs1[5]? = some (vR (some f1_5))) (w : k_is h f1_5 2) {P : k_H → Option Nat → Prop} (c : k_ctr (tAL_removeAt G l) [vR (some f1_5), vI x4] h P) (K : ∀ h1 v, P h1 v → k_X (jX11_remove G l h0) h1 83 [(0, vR (some x0)), (2, vR x2), (3, vI x3), (4, vI x4)] [vR v] Q) : k_X (jX11_remove G l h0) h 74 [(0, vR (some x0)), (2, vR x2), (3, vI x3), (4, vI x4)] [] Q := by
  obtain ⟨h1, v, c, p⟩ := c
  obtain ⟨h', r, K, q⟩ := K h1 v p
  exact ⟨h', r, j_aload_n dX11_remove_74 rfl rfl <| j_getf dX11_remove_75 kf_X11_42 o1 g1_5 <| j_iload dX11_remove_78 rfl <| j_callV (v := some (vR v)) (as := [vI x4]) dX11_remove_80 kc_X11_281 rfl rfl w (by decide) (Nat.le_of_ble_eq_true rfl) c K, q⟩
theorem bX11_remove_83 {h0 h : k_H} {Q : k_H → k_R → Prop} {x0 : Nat} {x2 s0 : Option Nat} {x3 x4 : Int32} (K : k_X (jX11_remove G l h0) h 84 [(0, vR (some x0)), (2, vR x2), (3, vI x3), (4, vI x4)] [] Q) : k_X (jX11_remove G l h0) h 83 [(0, vR (some x0)), (2, vR x2), (3, vI x3), (4, vI x4)] [vR s0] Q := by
  obtain ⟨h', r, K, q⟩ := K
  exact ⟨h', r, j_pop dX11_remove_83 rfl <| K, q⟩
theorem bX11_remove_84 {h0 h : k_H} {Q : k_H → k_R → Prop} {x0 : Nat} {x2 : Option Nat} {x3 x4 : Int32} (K : k_X (jX11_remove G l h0) h 50 [(0, vR (some x0)), (2, vR x2), (3, vI x3), (4, vI (x4 + (-1)))] [] Q) : k_X (jX11_remove G l h0) h 84 [(0, vR (some x0)), (2, vR x2), (3, vI x3), (4, vI x4)] [] Q := by
  obtain ⟨h', r, K, q⟩ := K
  exact ⟨h', r, j_iinc (v := x4 + (-1)) dX11_remove_84 rfl (by decide) rfl rfl <| j_goto (tgt := 50) dX11_remove_87 (by decide) <| K, q⟩
theorem bX11_remove_90 {h0 h : k_H} {Q : k_H → k_R → Prop} {x3 : Int32} (q : Q h (.inl (some (vI x3)))) : k_X (jX11_remove G l h0) h 90 [(3, vI x3)] [] Q := by
  exact ⟨_, _, j_iload_n dX11_remove_90 rfl rfl <| j_iret dX11_remove_91 rfl, q⟩
theorem eX11_shortName {G : k_G} {l : Launch} (hfl : l.flags = flags0) {h : k_H} {Q : k_H → k_R → Prop} {x0 : Nat} {x1 : Int32} (K : k_X (jX11_shortName G l h) h 0 [(0, vR (some x0)), (1, vI x1)] [] Q) : k_ct (tX11_shortName G l) [vR (some x0), vI x1] h Q := by
  obtain ⟨h', r, K, q⟩ := K
  exact ⟨h', r, k_CtOf (by decide +kernel) (Nat.le_of_ble_eq_true rfl) K hfl, q⟩

theorem bX11_shortName_0 {h0 h : k_H} {Q : k_H → k_R → Prop} {x0 : Nat} {x1 : Int32} (w : k_is h x0 14) {P : k_H → Option Nat → Prop} (c : k_ctr (tX11_directoryAt G l) [vR (some x0), vI x1] h P) (K : ∀ h1 v, P h1 v → k_X (jX11_shortName G l h0) h1 5 [] [vR v] Q) : k_X (jX11_shortName G l h0) h 0 [(0, vR (some x0)), (1, vI x1)] [] Q := by
  obtain ⟨h1, v, c, p⟩ := c
  obtain ⟨h', r, K, q⟩ := K h1 v p
  exact ⟨h', r, j_aload_n dX11_shortName_0 rfl rfl <| j_iload_n dX11_shortName_1 rfl rfl <| j_callV (v := some (vR v)) (as := [vI x1]) dX11_shortName_2 kc_X11_237 rfl rfl w (by decide) (Nat.le_of_ble_eq_true rfl) c (j_pick [] rfl K), q⟩
theorem bX11_shortName_0x {h0 h : k_H} {Q : k_H → k_R → Prop} {x0 : Nat} {x1 : Int32} (w : k_is h x0 14) {E : String} {P : k_H → Prop} (c : k_ctx (tX11_directoryAt G l) [vR (some x0), vI x1] h E P) (q : ∀ h1, P h1 → Q h1 (.inr E)) : k_X (jX11_shortName G l h0) h 0 [(0, vR (some x0)), (1, vI x1)] [] Q := by
  obtain ⟨h1, c, p⟩ := c
  exact ⟨h1, _, j_aload_n dX11_shortName_0 rfl rfl <| j_iload_n dX11_shortName_1 rfl rfl <| j_callVx (as := [vI x1]) dX11_shortName_2 kc_X11_237 rfl rfl w (by decide) (Nat.le_of_ble_eq_true rfl) c, q h1 p⟩
theorem bX11_shortName_5 {h0 h : k_H} {Q : k_H → k_R → Prop} {s0 : Nat} {f1_1 : Int32} {fs1 : List k_V} (o1 : h.1 s0 = some (k_o 5 fs1)) (g1_1 : fs1[1]? = some (vI f1_1)) (q : Q h (.inl (some (vI f1_1)))) : k_X (jX11_shortName G l h0) h 5 [] [vR (some s0)] Q := by
  exact ⟨_, _, j_getf dX11_shortName_5 kf_X11_284 o1 g1_1 <| j_iret dX11_shortName_8 rfl, q⟩
theorem eX11_named {G : k_G} {l : Launch} (hfl : l.flags = flags0) {h : k_H} {Q : k_H → k_R → Prop} {x0 : Nat} {x1 : Int32} {x2 : Int32} (K : k_X (jX11_named G l h) h 0 [(0, vR (some x0)), (1, vI x1), (2, vI x2)] [] Q) : k_ct (tX11_named G l) [vR (some x0), vI x1, vI x2] h Q := by
  obtain ⟨h', r, K, q⟩ := K
  exact ⟨h', r, k_CtOf (by decide +kernel) (Nat.le_of_ble_eq_true rfl) K hfl, q⟩

theorem bX11_named_0 {h0 h : k_H} {Q : k_H → k_R → Prop} {x0 : Nat} {x1 x2 : Int32} (w : k_is h x0 14) {P : k_H → Option Nat → Prop} (c : k_ctr (tX11_directoryAt G l) [vR (some x0), vI x1] h P) (K : ∀ h1 v, P h1 v → k_X (jX11_named G l h0) h1 5 [(0, vR (some x0)), (2, vI x2)] [vR v] Q) : k_X (jX11_named G l h0) h 0 [(0, vR (some x0)), (1, vI x1), (2, vI x2)] [] Q := by
  obtain ⟨h1, v, c, p⟩ := c
  obtain ⟨h', r, K, q⟩ := K h1 v p
  exact ⟨h', r, j_aload_n dX11_named_0 rfl rfl <| j_iload_n dX11_named_1 rfl rfl <| j_callV (v := some (vR v)) (as := [vI x1]) dX11_named_2 kc_X11_237 rfl rfl w (by decide) (Nat.le_of_ble_eq_true rfl) c (j_pick [0, 2] rfl K), q⟩
theorem bX11_named_0x {h0 h : k_H} {Q : k_H → k_R → Prop} {x0 : Nat} {x1 x2 : Int32} (w : k_is h x0 14) {E : String} {P : k_H → Prop} (c : k_ctx (tX11_directoryAt G l) [vR (some x0), vI x1] h E P) (q : ∀ h1, P h1 → Q h1 (.inr E)) : k_X (jX11_named G l h0) h 0 [(0, vR (some x0)), (1, vI x1), (2, vI x2)] [] Q := by
  obtain ⟨h1, c, p⟩ := c
  exact ⟨h1, _, j_aload_n dX11_named_0 rfl rfl <| j_iload_n dX11_named_1 rfl rfl <| j_callVx (as := [vI x1]) dX11_named_2 kc_X11_237 rfl rfl w (by decide) (Nat.le_of_ble_eq_true rfl) c, q h1 p⟩
theorem bX11_named_5 {h0 h : k_H} {Q : k_H → k_R → Prop} {x0 : Nat} {x2 : Int32} {s0 : Option Nat} {P : k_H → Prop} (c : k_ctv (tX11_requireName G l) [vI x2] h P) (K : ∀ h1, P h1 → k_X (jX11_named G l h0) h1 10 [(0, vR (some x0)), (2, vI x2), (3, vR s0)] [] Q) : k_X (jX11_named G l h0) h 5 [(0, vR (some x0)), (2, vI x2)] [vR s0] Q := by
  obtain ⟨h1, c, p⟩ := c
  obtain ⟨h', r, K, q⟩ := K h1 p
  exact ⟨h', r, j_astore_n dX11_named_5 rfl (by decide) rfl <| j_iload_n dX11_named_6 rfl rfl <| j_callS (v := none) (as := [vI x2]) dX11_named_7 kc_X11_241 rfl rfl (by decide) (Nat.le_of_ble_eq_true rfl) c K, q⟩
theorem bX11_named_5x {h0 h : k_H} {Q : k_H → k_R → Prop} {x0 : Nat} {x2 : Int32} {s0 : Option Nat} {E : String} {P : k_H → Prop} (c : k_ctx (tX11_requireName G l) [vI x2] h E P) (q : ∀ h1, P h1 → Q h1 (.inr E)) : k_X (jX11_named G l h0) h 5 [(0, vR (some x0)), (2, vI x2)] [vR s0] Q := by
  obtain ⟨h1, c, p⟩ := c
  exact ⟨h1, _, j_astore_n dX11_named_5 rfl (by decide) rfl <| j_iload_n dX11_named_6 rfl rfl <| j_callSx (as := [vI x2]) dX11_named_7 kc_X11_241 rfl rfl (by decide) (Nat.le_of_ble_eq_true rfl) c, q h1 p⟩
theorem bX11_named_10 {h0 h : k_H} {Q : k_H → k_R → Prop} {x0 : Nat} {x2 : Int32} {x3 : Option Nat} (w : k_is h x0 14) {P : k_H → Option Nat → Prop} (c : k_ctr (tX11_childOf G l) [vR (some x0), vR x3, vI x2] h P) (K : ∀ h1 v, P h1 v → k_X (jX11_named G l h0) h1 16 [] [vR v] Q) : k_X (jX11_named G l h0) h 10 [(0, vR (some x0)), (2, vI x2), (3, vR x3)] [] Q := by
  obtain ⟨h1, v, c, p⟩ := c
  obtain ⟨h', r, K, q⟩ := K h1 v p
  exact ⟨h', r, j_aload_n dX11_named_10 rfl rfl <| j_aload_n dX11_named_11 rfl rfl <| j_iload_n dX11_named_12 rfl rfl <| j_callV (v := some (vR v)) (as := [vR x3, vI x2]) dX11_named_13 kc_X11_244 rfl rfl w (by decide) (Nat.le_of_ble_eq_true rfl) c (j_pick [] rfl K), q⟩
theorem bX11_named_16 {h0 h : k_H} {Q : k_H → k_R → Prop} {s0 : Option Nat} (K1 : s0 = none → k_X (jX11_named G l h0) h 23 [] [] Q) (K2 : ∀ a, s0 = some a → k_X (jX11_named G l h0) h 28 [(4, vR s0)] [] Q) : k_X (jX11_named G l h0) h 16 [] [vR s0] Q := by
  rcases e9 : s0 with _ | a
  · obtain ⟨h', r, K, q⟩ := K1 e9
    subst e9
    exact ⟨h', r, j_astore dX11_named_16 (by decide) rfl <| j_aload dX11_named_18 rfl <| j_ifnonnull_f dX11_named_20 (j_pick [] rfl K), q⟩
  · obtain ⟨h', r, K, q⟩ := K2 a e9
    subst e9
    exact ⟨h', r, j_astore dX11_named_16 (by decide) rfl <| j_aload dX11_named_18 rfl <| j_ifnonnull_t (tgt := 28) dX11_named_20 (by decide) K, q⟩
theorem bX11_named_23 {h0 h : k_H} {Q : k_H → k_R → Prop} (K : k_X (jX11_named G l h0) h 33 [] [vI (-2147483648)] Q) : k_X (jX11_named G l h0) h 23 [] [] Q := by
  obtain ⟨h', r, K, q⟩ := K
  exact ⟨h', r, j_ldc (v := (-2147483648)) dX11_named_23 ki_X11_62 <| j_goto (tgt := 33) dX11_named_25 (by decide) <| K, q⟩
theorem bX11_named_28 {h0 h : k_H} {Q : k_H → k_R → Prop} {x4 : Nat} {f1_0 : Int32} {fs1 : List k_V} (o1 : h.1 x4 = some (k_o 5 fs1)) (g1_0 : fs1[0]? = some (vI f1_0)) (K : k_X (jX11_named G l h0) h 33 [] [vI f1_0] Q) : k_X (jX11_named G l h0) h 28 [(4, vR (some x4))] [] Q := by
  obtain ⟨h', r, K, q⟩ := K
  exact ⟨h', r, j_aload dX11_named_28 rfl <| j_getf dX11_named_30 kf_X11_253 o1 g1_0 <| (j_pick [] rfl K), q⟩
theorem bX11_named_33 {h0 h : k_H} {Q : k_H → k_R → Prop} {s0 : Int32} (q : Q h (.inl (some (vI s0)))) : k_X (jX11_named G l h0) h 33 [] [vI s0] Q := by
  exact ⟨_, _, j_iret dX11_named_33 rfl, q⟩
theorem eX11_save {G : k_G} {l : Launch} (hfl : l.flags = flags0) {h : k_H} {Q : k_H → k_R → Prop} {x0 : Nat} {x1 : Int32} {x2 : Int32} {x3 : Int32} (K : k_X (jX11_save G l h) h 0 [(0, vR (some x0)), (1, vI x1), (2, vI x2), (3, vI x3)] [] Q) : k_ct (tX11_save G l) [vR (some x0), vI x1, vI x2, vI x3] h Q := by
  obtain ⟨h', r, K, q⟩ := K
  exact ⟨h', r, k_CtOf (by decide +kernel) (Nat.le_of_ble_eq_true rfl) K hfl, q⟩

theorem bX11_save_0 {h0 h : k_H} {Q : k_H → k_R → Prop} {x0 : Nat} {x1 x2 x3 : Int32} (w : k_is h x0 14) {P : k_H → Option Nat → Prop} (c : k_ctr (tX11_transactionAt G l) [vR (some x0), vI x1] h P) (K : ∀ h1 v, P h1 v → k_X (jX11_save G l h0) h1 5 [(0, vR (some x0)), (2, vI x2), (3, vI x3)] [vR v] Q) : k_X (jX11_save G l h0) h 0 [(0, vR (some x0)), (1, vI x1), (2, vI x2), (3, vI x3)] [] Q := by
  obtain ⟨h1, v, c, p⟩ := c
  obtain ⟨h', r, K, q⟩ := K h1 v p
  exact ⟨h', r, j_aload_n dX11_save_0 rfl rfl <| j_iload_n dX11_save_1 rfl rfl <| j_callV (v := some (vR v)) (as := [vI x1]) dX11_save_2 kc_X11_81 rfl rfl w (by decide) (Nat.le_of_ble_eq_true rfl) c (j_pick [0, 2, 3] rfl K), q⟩
theorem bX11_save_0x {h0 h : k_H} {Q : k_H → k_R → Prop} {x0 : Nat} {x1 x2 x3 : Int32} (w : k_is h x0 14) {E : String} {P : k_H → Prop} (c : k_ctx (tX11_transactionAt G l) [vR (some x0), vI x1] h E P) (q : ∀ h1, P h1 → Q h1 (.inr E)) : k_X (jX11_save G l h0) h 0 [(0, vR (some x0)), (1, vI x1), (2, vI x2), (3, vI x3)] [] Q := by
  obtain ⟨h1, c, p⟩ := c
  exact ⟨h1, _, j_aload_n dX11_save_0 rfl rfl <| j_iload_n dX11_save_1 rfl rfl <| j_callVx (as := [vI x1]) dX11_save_2 kc_X11_81 rfl rfl w (by decide) (Nat.le_of_ble_eq_true rfl) c, q h1 p⟩
theorem bX11_save_5 {h0 h : k_H} {Q : k_H → k_R → Prop} {x0 : Nat} {x2 x3 : Int32} {s0 : Option Nat} {P : k_H → Prop} (c : k_ctv (tX11_requireRecord G l) [vI x2] h P) (K : ∀ h1, P h1 → k_X (jX11_save G l h0) h1 11 [(0, vR (some x0)), (2, vI x2), (3, vI x3), (4, vR s0)] [] Q) : k_X (jX11_save G l h0) h 5 [(0, vR (some x0)), (2, vI x2), (3, vI x3)] [vR s0] Q := by
  obtain ⟨h1, c, p⟩ := c
  obtain ⟨h', r, K, q⟩ := K h1 p
  exact ⟨h', r, j_astore dX11_save_5 (by decide) rfl <| j_iload_n dX11_save_7 rfl rfl <| j_callS (v := none) (as := [vI x2]) dX11_save_8 kc_X11_287 rfl rfl (by decide) (Nat.le_of_ble_eq_true rfl) c K, q⟩
theorem bX11_save_5x {h0 h : k_H} {Q : k_H → k_R → Prop} {x0 : Nat} {x2 x3 : Int32} {s0 : Option Nat} {E : String} {P : k_H → Prop} (c : k_ctx (tX11_requireRecord G l) [vI x2] h E P) (q : ∀ h1, P h1 → Q h1 (.inr E)) : k_X (jX11_save G l h0) h 5 [(0, vR (some x0)), (2, vI x2), (3, vI x3)] [vR s0] Q := by
  obtain ⟨h1, c, p⟩ := c
  exact ⟨h1, _, j_astore dX11_save_5 (by decide) rfl <| j_iload_n dX11_save_7 rfl rfl <| j_callSx (as := [vI x2]) dX11_save_8 kc_X11_287 rfl rfl (by decide) (Nat.le_of_ble_eq_true rfl) c, q h1 p⟩
theorem bX11_save_11 {h0 h : k_H} {Q : k_H → k_R → Prop} {x0 : Nat} {x2 x3 : Int32} {x4 : Option Nat} {P : k_H → Prop} (c : k_ctv (tX11_requireField G l) [vI x3] h P) (K : ∀ h1, P h1 → k_X (jX11_save G l h0) h1 15 [(0, vR (some x0)), (2, vI x2), (3, vI x3), (4, vR x4)] [] Q) : k_X (jX11_save G l h0) h 11 [(0, vR (some x0)), (2, vI x2), (3, vI x3), (4, vR x4)] [] Q := by
  obtain ⟨h1, c, p⟩ := c
  obtain ⟨h', r, K, q⟩ := K h1 p
  exact ⟨h', r, j_iload_n dX11_save_11 rfl rfl <| j_callS (v := none) (as := [vI x3]) dX11_save_12 kc_X11_290 rfl rfl (by decide) (Nat.le_of_ble_eq_true rfl) c K, q⟩
theorem bX11_save_11x {h0 h : k_H} {Q : k_H → k_R → Prop} {x0 : Nat} {x2 x3 : Int32} {x4 : Option Nat} {E : String} {P : k_H → Prop} (c : k_ctx (tX11_requireField G l) [vI x3] h E P) (q : ∀ h1, P h1 → Q h1 (.inr E)) : k_X (jX11_save G l h0) h 11 [(0, vR (some x0)), (2, vI x2), (3, vI x3), (4, vR x4)] [] Q := by
  obtain ⟨h1, c, p⟩ := c
  exact ⟨h1, _, j_iload_n dX11_save_11 rfl rfl <| j_callSx (as := [vI x3]) dX11_save_12 kc_X11_290 rfl rfl (by decide) (Nat.le_of_ble_eq_true rfl) c, q h1 p⟩
theorem bX11_save_15 {h0 h : k_H} {Q : k_H → k_R → Prop} {x0 : Nat} {x2 x3 : Int32} {x4 : Option Nat} {P : k_H → Prop} (c : k_ctv (tX11_requireRoom G l) [vR x4] h P) (K : ∀ h1, P h1 → k_X (jX11_save G l h0) h1 20 [(0, vR (some x0)), (2, vI x2), (3, vI x3), (4, vR x4)] [] Q) : k_X (jX11_save G l h0) h 15 [(0, vR (some x0)), (2, vI x2), (3, vI x3), (4, vR x4)] [] Q := by
  obtain ⟨h1, c, p⟩ := c
  obtain ⟨h', r, K, q⟩ := K h1 p
  exact ⟨h', r, j_aload dX11_save_15 rfl <| j_callS (v := none) (as := [vR x4]) dX11_save_17 kc_X11_190 rfl rfl (by decide) (Nat.le_of_ble_eq_true rfl) c K, q⟩
theorem bX11_save_15x {h0 h : k_H} {Q : k_H → k_R → Prop} {x0 : Nat} {x2 x3 : Int32} {x4 : Option Nat} {E : String} {P : k_H → Prop} (c : k_ctx (tX11_requireRoom G l) [vR x4] h E P) (q : ∀ h1, P h1 → Q h1 (.inr E)) : k_X (jX11_save G l h0) h 15 [(0, vR (some x0)), (2, vI x2), (3, vI x3), (4, vR x4)] [] Q := by
  obtain ⟨h1, c, p⟩ := c
  exact ⟨h1, _, j_aload dX11_save_15 rfl <| j_callSx (as := [vR x4]) dX11_save_17 kc_X11_190 rfl rfl (by decide) (Nat.le_of_ble_eq_true rfl) c, q h1 p⟩
theorem bX11_save_20 {h0 h : k_H} {Q : k_H → k_R → Prop} {x0 : Nat} {x2 x3 : Int32} {x4 : Option Nat} (w : k_is h x0 14) {P : k_H → Int32 → Prop} (c : k_cti (tX11_writeRecord G l) [vR (some x0), vR x4, vI x2, vI x3] h P) (K : ∀ h1 v, P h1 v → k_X (jX11_save G l h0) h1 28 [] [vI v] Q) : k_X (jX11_save G l h0) h 20 [(0, vR (some x0)), (2, vI x2), (3, vI x3), (4, vR x4)] [] Q := by
  obtain ⟨h1, v, c, p⟩ := c
  obtain ⟨h', r, K, q⟩ := K h1 v p
  exact ⟨h', r, j_aload_n dX11_save_20 rfl rfl <| j_aload dX11_save_21 rfl <| j_iload_n dX11_save_23 rfl rfl <| j_iload_n dX11_save_24 rfl rfl <| j_callV (v := some (vI v)) (as := [vR x4, vI x2, vI x3]) dX11_save_25 kc_X11_293 rfl rfl w (by decide) (Nat.le_of_ble_eq_true rfl) c (j_pick [] rfl K), q⟩
theorem bX11_save_28 {h0 h : k_H} {Q : k_H → k_R → Prop} {s0 : Int32} (q : Q h (.inl (some (vI s0)))) : k_X (jX11_save G l h0) h 28 [] [vI s0] Q := by
  exact ⟨_, _, j_iret dX11_save_28 rfl, q⟩
theorem eX11_erase {G : k_G} {l : Launch} (hfl : l.flags = flags0) {h : k_H} {Q : k_H → k_R → Prop} {x0 : Nat} {x1 : Int32} {x2 : Int32} (K : k_X (jX11_erase G l h) h 0 [(0, vR (some x0)), (1, vI x1), (2, vI x2)] [] Q) : k_ct (tX11_erase G l) [vR (some x0), vI x1, vI x2] h Q := by
  obtain ⟨h', r, K, q⟩ := K
  exact ⟨h', r, k_CtOf (by decide +kernel) (Nat.le_of_ble_eq_true rfl) K hfl, q⟩

theorem bX11_erase_0 {h0 h : k_H} {Q : k_H → k_R → Prop} {x0 : Nat} {x1 x2 : Int32} (w : k_is h x0 14) {P : k_H → Option Nat → Prop} (c : k_ctr (tX11_transactionAt G l) [vR (some x0), vI x1] h P) (K : ∀ h1 v, P h1 v → k_X (jX11_erase G l h0) h1 5 [(0, vR (some x0)), (2, vI x2)] [vR v] Q) : k_X (jX11_erase G l h0) h 0 [(0, vR (some x0)), (1, vI x1), (2, vI x2)] [] Q := by
  obtain ⟨h1, v, c, p⟩ := c
  obtain ⟨h', r, K, q⟩ := K h1 v p
  exact ⟨h', r, j_aload_n dX11_erase_0 rfl rfl <| j_iload_n dX11_erase_1 rfl rfl <| j_callV (v := some (vR v)) (as := [vI x1]) dX11_erase_2 kc_X11_81 rfl rfl w (by decide) (Nat.le_of_ble_eq_true rfl) c (j_pick [0, 2] rfl K), q⟩
theorem bX11_erase_0x {h0 h : k_H} {Q : k_H → k_R → Prop} {x0 : Nat} {x1 x2 : Int32} (w : k_is h x0 14) {E : String} {P : k_H → Prop} (c : k_ctx (tX11_transactionAt G l) [vR (some x0), vI x1] h E P) (q : ∀ h1, P h1 → Q h1 (.inr E)) : k_X (jX11_erase G l h0) h 0 [(0, vR (some x0)), (1, vI x1), (2, vI x2)] [] Q := by
  obtain ⟨h1, c, p⟩ := c
  exact ⟨h1, _, j_aload_n dX11_erase_0 rfl rfl <| j_iload_n dX11_erase_1 rfl rfl <| j_callVx (as := [vI x1]) dX11_erase_2 kc_X11_81 rfl rfl w (by decide) (Nat.le_of_ble_eq_true rfl) c, q h1 p⟩
theorem bX11_erase_5 {h0 h : k_H} {Q : k_H → k_R → Prop} {x0 : Nat} {x2 : Int32} {s0 : Option Nat} {P : k_H → Prop} (c : k_ctv (tX11_requireRecord G l) [vI x2] h P) (K : ∀ h1, P h1 → k_X (jX11_erase G l h0) h1 10 [(0, vR (some x0)), (2, vI x2), (3, vR s0)] [] Q) : k_X (jX11_erase G l h0) h 5 [(0, vR (some x0)), (2, vI x2)] [vR s0] Q := by
  obtain ⟨h1, c, p⟩ := c
  obtain ⟨h', r, K, q⟩ := K h1 p
  exact ⟨h', r, j_astore_n dX11_erase_5 rfl (by decide) rfl <| j_iload_n dX11_erase_6 rfl rfl <| j_callS (v := none) (as := [vI x2]) dX11_erase_7 kc_X11_287 rfl rfl (by decide) (Nat.le_of_ble_eq_true rfl) c K, q⟩
theorem bX11_erase_5x {h0 h : k_H} {Q : k_H → k_R → Prop} {x0 : Nat} {x2 : Int32} {s0 : Option Nat} {E : String} {P : k_H → Prop} (c : k_ctx (tX11_requireRecord G l) [vI x2] h E P) (q : ∀ h1, P h1 → Q h1 (.inr E)) : k_X (jX11_erase G l h0) h 5 [(0, vR (some x0)), (2, vI x2)] [vR s0] Q := by
  obtain ⟨h1, c, p⟩ := c
  exact ⟨h1, _, j_astore_n dX11_erase_5 rfl (by decide) rfl <| j_iload_n dX11_erase_6 rfl rfl <| j_callSx (as := [vI x2]) dX11_erase_7 kc_X11_287 rfl rfl (by decide) (Nat.le_of_ble_eq_true rfl) c, q h1 p⟩
theorem bX11_erase_10 {h0 h : k_H} {Q : k_H → k_R → Prop} {x0 : Nat} {x2 : Int32} {x3 : Option Nat} {P : k_H → Prop} (c : k_ctv (tX11_requireRoom G l) [vR x3] h P) (K : ∀ h1, P h1 → k_X (jX11_erase G l h0) h1 14 [(0, vR (some x0)), (2, vI x2), (3, vR x3)] [] Q) : k_X (jX11_erase G l h0) h 10 [(0, vR (some x0)), (2, vI x2), (3, vR x3)] [] Q := by
  obtain ⟨h1, c, p⟩ := c
  obtain ⟨h', r, K, q⟩ := K h1 p
  exact ⟨h', r, j_aload_n dX11_erase_10 rfl rfl <| j_callS (v := none) (as := [vR x3]) dX11_erase_11 kc_X11_190 rfl rfl (by decide) (Nat.le_of_ble_eq_true rfl) c K, q⟩
theorem bX11_erase_10x {h0 h : k_H} {Q : k_H → k_R → Prop} {x0 : Nat} {x2 : Int32} {x3 : Option Nat} {E : String} {P : k_H → Prop} (c : k_ctx (tX11_requireRoom G l) [vR x3] h E P) (q : ∀ h1, P h1 → Q h1 (.inr E)) : k_X (jX11_erase G l h0) h 10 [(0, vR (some x0)), (2, vI x2), (3, vR x3)] [] Q := by
  obtain ⟨h1, c, p⟩ := c
  exact ⟨h1, _, j_aload_n dX11_erase_10 rfl rfl <| j_callSx (as := [vR x3]) dX11_erase_11 kc_X11_190 rfl rfl (by decide) (Nat.le_of_ble_eq_true rfl) c, q h1 p⟩
theorem bX11_erase_14 {h0 h : k_H} {Q : k_H → k_R → Prop} {x0 : Nat} {x2 : Int32} {x3 : Option Nat} (w : k_is h x0 14) {P : k_H → Int32 → Prop} (c : k_cti (tX11_writeRecord G l) [vR (some x0), vR x3, vI x2, vI (-2147483648)] h P) (K : ∀ h1 v, P h1 v → k_X (jX11_erase G l h0) h1 22 [] [vI v] Q) : k_X (jX11_erase G l h0) h 14 [(0, vR (some x0)), (2, vI x2), (3, vR x3)] [] Q := by
  obtain ⟨h1, v, c, p⟩ := c
  obtain ⟨h', r, K, q⟩ := K h1 v p
  exact ⟨h', r, j_aload_n dX11_erase_14 rfl rfl <| j_aload_n dX11_erase_15 rfl rfl <| j_iload_n dX11_erase_16 rfl rfl <| j_ldc (v := (-2147483648)) dX11_erase_17 ki_X11_62 <| j_callV (v := some (vI v)) (as := [vR x3, vI x2, vI (-2147483648)]) dX11_erase_19 kc_X11_293 rfl rfl w (by decide) (Nat.le_of_ble_eq_true rfl) c (j_pick [] rfl K), q⟩
theorem bX11_erase_22 {h0 h : k_H} {Q : k_H → k_R → Prop} {s0 : Int32} (q : Q h (.inl (some (vI s0)))) : k_X (jX11_erase G l h0) h 22 [] [vI s0] Q := by
  exact ⟨_, _, j_iret dX11_erase_22 rfl, q⟩
theorem eX11_build {G : k_G} {l : Launch} (hfl : l.flags = flags0) {h : k_H} {Q : k_H → k_R → Prop} {x0 : Nat} {x1 : Int32} {x2 : Int32} (K : k_X (jX11_build G l h) h 0 [(0, vR (some x0)), (1, vI x1), (2, vI x2)] [] Q) : k_ct (tX11_build G l) [vR (some x0), vI x1, vI x2] h Q := by
  obtain ⟨h', r, K, q⟩ := K
  exact ⟨h', r, k_CtOf (by decide +kernel) (Nat.le_of_ble_eq_true rfl) K hfl, q⟩

theorem bX11_build_0 {h0 h : k_H} {Q : k_H → k_R → Prop} {x0 : Nat} {x1 x2 : Int32} {P : k_H → Prop} (c : k_ctv (tX11_requireIndex G l) [vI x1] h P) (K : ∀ h1, P h1 → k_X (jX11_build G l h0) h1 4 [(0, vR (some x0)), (1, vI x1), (2, vI x2)] [] Q) : k_X (jX11_build G l h0) h 0 [(0, vR (some x0)), (1, vI x1), (2, vI x2)] [] Q := by
  obtain ⟨h1, c, p⟩ := c
  obtain ⟨h', r, K, q⟩ := K h1 p
  exact ⟨h', r, j_iload_n dX11_build_0 rfl rfl <| j_callS (v := none) (as := [vI x1]) dX11_build_1 kc_X11_297 rfl rfl (by decide) (Nat.le_of_ble_eq_true rfl) c K, q⟩
theorem bX11_build_0x {h0 h : k_H} {Q : k_H → k_R → Prop} {x0 : Nat} {x1 x2 : Int32} {E : String} {P : k_H → Prop} (c : k_ctx (tX11_requireIndex G l) [vI x1] h E P) (q : ∀ h1, P h1 → Q h1 (.inr E)) : k_X (jX11_build G l h0) h 0 [(0, vR (some x0)), (1, vI x1), (2, vI x2)] [] Q := by
  obtain ⟨h1, c, p⟩ := c
  exact ⟨h1, _, j_iload_n dX11_build_0 rfl rfl <| j_callSx (as := [vI x1]) dX11_build_1 kc_X11_297 rfl rfl (by decide) (Nat.le_of_ble_eq_true rfl) c, q h1 p⟩
theorem bX11_build_4 {h0 h : k_H} {Q : k_H → k_R → Prop} {x0 : Nat} {x1 x2 : Int32} (K1 : x2 < 1 → k_X (jX11_build G l h0) h 15 [] [] Q) (K2 : ¬ (x2 < 1) → k_X (jX11_build G l h0) h 9 [(0, vR (some x0)), (1, vI x1), (2, vI x2)] [] Q) : k_X (jX11_build G l h0) h 4 [(0, vR (some x0)), (1, vI x1), (2, vI x2)] [] Q := by
  by_cases hc : x2 < 1
  · skip
    obtain ⟨h', r, K, q⟩ := K1 hc
    exact ⟨h', r, j_iload_n dX11_build_4 rfl rfl <| j_iconst (v := 1) dX11_build_5 (by decide) <| j_icmp_lt_t (tgt := 15) dX11_build_6 (by decide) hc (j_pick [] rfl K), q⟩
  · skip
    obtain ⟨h', r, K, q⟩ := K2 hc
    exact ⟨h', r, j_iload_n dX11_build_4 rfl rfl <| j_iconst (v := 1) dX11_build_5 (by decide) <| j_icmp_lt_f dX11_build_6 15 (by decide) hc K, q⟩
theorem bX11_build_9 {h0 h : k_H} {Q : k_H → k_R → Prop} {x0 : Nat} {x1 x2 : Int32} (K1 : x2 ≤ 20 → k_X (jX11_build G l h0) h 26 [(0, vR (some x0)), (1, vI x1), (2, vI x2)] [] Q) (K2 : ¬ (x2 ≤ 20) → k_X (jX11_build G l h0) h 15 [] [] Q) : k_X (jX11_build G l h0) h 9 [(0, vR (some x0)), (1, vI x1), (2, vI x2)] [] Q := by
  by_cases hc : x2 ≤ 20
  · skip
    obtain ⟨h', r, K, q⟩ := K1 hc
    exact ⟨h', r, j_iload_n dX11_build_9 rfl rfl <| j_bipush (v := 20) dX11_build_10 (by decide) <| j_icmp_le_t (tgt := 26) dX11_build_12 (by decide) hc K, q⟩
  · skip
    obtain ⟨h', r, K, q⟩ := K2 hc
    exact ⟨h', r, j_iload_n dX11_build_9 rfl rfl <| j_bipush (v := 20) dX11_build_10 (by decide) <| j_icmp_le_f dX11_build_12 26 (by decide) hc (j_pick [] rfl K), q⟩
theorem bX11_build_15 {h0 h : k_H} {Q : k_H → k_R → Prop} (q : Q (k_sk h 1 6) (.inr "java/lang/IllegalArgumentException")) : k_X (jX11_build G l h0) h 15 [] [] Q := by
  exact ⟨_, _, j_throwSW kt_X11_161_300_165 dX11_build_15 dX11_build_18 dX11_build_19 dX11_build_22 dX11_build_25 (by decide) (Nat.le_of_ble_eq_true rfl), q⟩
theorem bX11_build_26 {h0 h : k_H} {Q : k_H → k_R → Prop} {x0 : Nat} {x1 x2 : Int32} {f1_0 : Option Nat} {fs1 : List k_V} (o1 : h.1 x0 = some (k_o 14 fs1)) (g1_0 : fs1[0]? = some (vR f1_0)) {P : k_H → Int64 → Prop} (c : k_ctj (tX11_codeOf_ G l) [vI (-6), vI x1] h P) (K : ∀ h1 v, P h1 v → k_X (jX11_build G l h0) h1 36 [(0, vR (some x0)), (1, vI x1), (2, vI x2)] [vJ v, vR f1_0] Q) : k_X (jX11_build G l h0) h 26 [(0, vR (some x0)), (1, vI x1), (2, vI x2)] [] Q := by
  obtain ⟨h1, v, c, p⟩ := c
  obtain ⟨h', r, K, q⟩ := K h1 v p
  exact ⟨h', r, j_aload_n dX11_build_26 rfl rfl <| j_getf dX11_build_27 kf_X11_14 o1 g1_0 <| j_bipush (v := (-6)) dX11_build_30 (by decide) <| j_iload_n dX11_build_32 rfl rfl <| j_callS (v := some (vJ v)) (as := [vI (-6), vI x1]) dX11_build_33 kc_X11_302 rfl rfl (by decide) (Nat.le_of_ble_eq_true rfl) c K, q⟩
theorem bX11_build_36 {h0 h : k_H} {Q : k_H → k_R → Prop} {x0 s0 : Nat} {x1 x2 : Int32} {s1 : Int64} (w : k_is h s0 11) {P : k_H → Int32 → Prop} (c : k_cti (tX8_valueNow G l) [vR (some s0), vJ s1] h P) (K : ∀ h1 v, P h1 v → k_X (jX11_build G l h0) h1 39 [(0, vR (some x0)), (1, vI x1), (2, vI x2)] [vI v] Q) : k_X (jX11_build G l h0) h 36 [(0, vR (some x0)), (1, vI x1), (2, vI x2)] [vJ s1, vR (some s0)] Q := by
  obtain ⟨h1, v, c, p⟩ := c
  obtain ⟨h', r, K, q⟩ := K h1 v p
  exact ⟨h', r, j_callV (v := some (vI v)) (as := [vJ s1]) dX11_build_36 kc_X11_304 rfl rfl w (by decide) (Nat.le_of_ble_eq_true rfl) c K, q⟩
theorem bX11_build_39 {h0 h : k_H} {Q : k_H → k_R → Prop} {x0 : Nat} {x1 x2 s0 : Int32} {P : k_H → Int32 → Prop} (c : k_cti (tX11_indexGoesTo G l) [vI s0] h P) (K : ∀ h1 v, P h1 v → k_X (jX11_build G l h0) h1 42 [(0, vR (some x0)), (1, vI x1), (2, vI x2)] [vI v] Q) : k_X (jX11_build G l h0) h 39 [(0, vR (some x0)), (1, vI x1), (2, vI x2)] [vI s0] Q := by
  obtain ⟨h1, v, c, p⟩ := c
  obtain ⟨h', r, K, q⟩ := K h1 v p
  exact ⟨h', r, j_callS (v := some (vI v)) (as := [vI s0]) dX11_build_39 kc_X11_308 rfl rfl (by decide) (Nat.le_of_ble_eq_true rfl) c K, q⟩
theorem bX11_build_42 {h0 h : k_H} {Q : k_H → k_R → Prop} {x0 : Nat} {x1 x2 s0 : Int32} (K1 : ¬ (s0 = 1000) → k_X (jX11_build G l h0) h 61 [(0, vR (some x0)), (1, vI x1), (2, vI x2), (3, vI s0)] [] Q) (K2 : s0 = 1000 → k_X (jX11_build G l h0) h 50 [] [] Q) : k_X (jX11_build G l h0) h 42 [(0, vR (some x0)), (1, vI x1), (2, vI x2)] [vI s0] Q := by
  by_cases hc : s0 = 1000
  · skip
    obtain ⟨h', r, K, q⟩ := K2 hc
    exact ⟨h', r, j_istore_n dX11_build_42 rfl (by decide) rfl <| j_iload_n dX11_build_43 rfl rfl <| j_sipush (v := 1000) dX11_build_44 (by decide) <| j_icmp_ne_f dX11_build_47 61 (by decide) hc (j_pick [] rfl K), q⟩
  · skip
    obtain ⟨h', r, K, q⟩ := K1 hc
    exact ⟨h', r, j_istore_n dX11_build_42 rfl (by decide) rfl <| j_iload_n dX11_build_43 rfl rfl <| j_sipush (v := 1000) dX11_build_44 (by decide) <| j_icmp_ne_t (tgt := 61) dX11_build_47 (by decide) hc K, q⟩
theorem bX11_build_50 {h0 h : k_H} {Q : k_H → k_R → Prop} (q : Q (k_sk h 1 6) (.inr "java/lang/IllegalStateException")) : k_X (jX11_build G l h0) h 50 [] [] Q := by
  exact ⟨_, _, j_throwSW kt_X11_119_312_123 dX11_build_50 dX11_build_53 dX11_build_54 dX11_build_57 dX11_build_60 (by decide) (Nat.le_of_ble_eq_true rfl), q⟩
theorem bX11_build_61 {h0 h : k_H} {Q : k_H → k_R → Prop} {x0 : Nat} {x1 x2 x3 : Int32} (w : k_is h x0 14) {P : k_H → Int32 → Prop} (c : k_cti (tX11_buildBehind G l) [vR (some x0), vI x1, vI x3, vI x2] h P) (K : ∀ h1 v, P h1 v → k_X (jX11_build G l h0) h1 68 [] [vI v] Q) : k_X (jX11_build G l h0) h 61 [(0, vR (some x0)), (1, vI x1), (2, vI x2), (3, vI x3)] [] Q := by
  obtain ⟨h1, v, c, p⟩ := c
  obtain ⟨h', r, K, q⟩ := K h1 v p
  exact ⟨h', r, j_aload_n dX11_build_61 rfl rfl <| j_iload_n dX11_build_62 rfl rfl <| j_iload_n dX11_build_63 rfl rfl <| j_iload_n dX11_build_64 rfl rfl <| j_callV (v := some (vI v)) (as := [vI x1, vI x3, vI x2]) dX11_build_65 kc_X11_314 rfl rfl w (by decide) (Nat.le_of_ble_eq_true rfl) c (j_pick [] rfl K), q⟩
theorem bX11_build_68 {h0 h : k_H} {Q : k_H → k_R → Prop} {s0 : Int32} (q : Q h (.inl (some (vI s0)))) : k_X (jX11_build G l h0) h 68 [] [vI s0] Q := by
  exact ⟨_, _, j_iret dX11_build_68 rfl, q⟩
theorem eX11_off {G : k_G} {l : Launch} (hfl : l.flags = flags0) {h : k_H} {Q : k_H → k_R → Prop} {x0 : Nat} {x1 : Int32} (K : k_X (jX11_off G l h) h 0 [(0, vR (some x0)), (1, vI x1)] [] Q) : k_ct (tX11_off G l) [vR (some x0), vI x1] h Q := by
  obtain ⟨h', r, K, q⟩ := K
  exact ⟨h', r, k_CtOf (by decide +kernel) (Nat.le_of_ble_eq_true rfl) K hfl, q⟩

theorem bX11_off_0 {h0 h : k_H} {Q : k_H → k_R → Prop} {x0 : Nat} {x1 : Int32} {P : k_H → Prop} (c : k_ctv (tX11_requireIndex G l) [vI x1] h P) (K : ∀ h1, P h1 → k_X (jX11_off G l h0) h1 4 [(0, vR (some x0)), (1, vI x1)] [] Q) : k_X (jX11_off G l h0) h 0 [(0, vR (some x0)), (1, vI x1)] [] Q := by
  obtain ⟨h1, c, p⟩ := c
  obtain ⟨h', r, K, q⟩ := K h1 p
  exact ⟨h', r, j_iload_n dX11_off_0 rfl rfl <| j_callS (v := none) (as := [vI x1]) dX11_off_1 kc_X11_297 rfl rfl (by decide) (Nat.le_of_ble_eq_true rfl) c K, q⟩
theorem bX11_off_0x {h0 h : k_H} {Q : k_H → k_R → Prop} {x0 : Nat} {x1 : Int32} {E : String} {P : k_H → Prop} (c : k_ctx (tX11_requireIndex G l) [vI x1] h E P) (q : ∀ h1, P h1 → Q h1 (.inr E)) : k_X (jX11_off G l h0) h 0 [(0, vR (some x0)), (1, vI x1)] [] Q := by
  obtain ⟨h1, c, p⟩ := c
  exact ⟨h1, _, j_iload_n dX11_off_0 rfl rfl <| j_callSx (as := [vI x1]) dX11_off_1 kc_X11_297 rfl rfl (by decide) (Nat.le_of_ble_eq_true rfl) c, q h1 p⟩
theorem bX11_off_4 {h0 h : k_H} {Q : k_H → k_R → Prop} {x0 : Nat} {x1 : Int32} {P : k_H → Int64 → Prop} (c : k_ctj (tX11_lowOf G l) [vI ((-2) - x1), vI 10000] h P) (K : ∀ h1 v, P h1 v → k_X (jX11_off G l h0) h1 14 [(0, vR (some x0)), (1, vI x1)] [vJ v] Q) : k_X (jX11_off G l h0) h 4 [(0, vR (some x0)), (1, vI x1)] [] Q := by
  obtain ⟨h1, v, c, p⟩ := c
  obtain ⟨h', r, K, q⟩ := K h1 v p
  exact ⟨h', r, j_bipush (v := (-2)) dX11_off_4 (by decide) <| j_iload_n dX11_off_6 rfl rfl <| j_isub dX11_off_7 <| j_sipush (v := 10000) dX11_off_8 (by decide) <| j_callS (v := some (vJ v)) (as := [vI ((-2) - x1), vI 10000]) dX11_off_11 kc_X11_138 rfl rfl (by decide) (Nat.le_of_ble_eq_true rfl) c K, q⟩
theorem bX11_off_14 {h0 h : k_H} {Q : k_H → k_R → Prop} {x0 : Nat} {x1 : Int32} {s0 : Int64} {P : k_H → Int64 → Prop} (c : k_ctj (tX11_highOf G l) [vI ((-2) - x1), vI 10000] h P) (K : ∀ h1 v, P h1 v → k_X (jX11_off G l h0) h1 25 [(0, vR (some x0)), (1, vI x1), (2, vJ s0)] [vJ v] Q) : k_X (jX11_off G l h0) h 14 [(0, vR (some x0)), (1, vI x1)] [vJ s0] Q := by
  obtain ⟨h1, v, c, p⟩ := c
  obtain ⟨h', r, K, q⟩ := K h1 v p
  exact ⟨h', r, j_lstore_n dX11_off_14 rfl (by decide) rfl <| j_bipush (v := (-2)) dX11_off_15 (by decide) <| j_iload_n dX11_off_17 rfl rfl <| j_isub dX11_off_18 <| j_sipush (v := 10000) dX11_off_19 (by decide) <| j_callS (v := some (vJ v)) (as := [vI ((-2) - x1), vI 10000]) dX11_off_22 kc_X11_142 rfl rfl (by decide) (Nat.le_of_ble_eq_true rfl) c K, q⟩
theorem bX11_off_25 {h0 h : k_H} {Q : k_H → k_R → Prop} {x0 f1_0 : Nat} {x1 : Int32} {x2 s0 : Int64} {fs1 : List k_V} (o1 : h.1 x0 = some (k_o 14 fs1)) (g1_0 : fs1[0]? = some (vR (some f1_0))) (w : k_is h f1_0 11) {P : k_H → Option Nat → Prop} (c : k_ctr (tX8_listHeld G l) [vR (some f1_0), vJ x2, vJ s0] h P) (K : ∀ h1 v, P h1 v → k_X (jX11_off G l h0) h1 37 [(0, vR (some x0)), (1, vI x1), (2, vJ x2), (4, vJ s0)] [vR v] Q) : k_X (jX11_off G l h0) h 25 [(0, vR (some x0)), (1, vI x1), (2, vJ x2)] [vJ s0] Q := by
  obtain ⟨h1, v, c, p⟩ := c
  obtain ⟨h', r, K, q⟩ := K h1 v p
  exact ⟨h', r, j_lstore dX11_off_25 (by decide) rfl <| j_aload_n dX11_off_27 rfl rfl <| j_getf dX11_off_28 kf_X11_14 o1 g1_0 <| j_lload_n dX11_off_31 rfl rfl <| j_lload dX11_off_32 rfl <| j_callV (v := some (vR v)) (as := [vJ x2, vJ s0]) dX11_off_34 kc_X11_318 rfl rfl w (by decide) (Nat.le_of_ble_eq_true rfl) c K, q⟩
theorem bX11_off_37 {h0 h : k_H} {Q : k_H → k_R → Prop} {x0 s0 : Nat} {x1 : Int32} {x2 x4 : Int64} (w : k_is h s0 2) {P : k_H → Int32 → Prop} (c : k_cti (tAL_size G l) [vR (some s0)] h P) (K : ∀ h1 v, P h1 v → k_X (jX11_off G l h0) h1 40 [(0, vR (some x0)), (1, vI x1), (2, vJ x2), (4, vJ x4)] [vI v] Q) : k_X (jX11_off G l h0) h 37 [(0, vR (some x0)), (1, vI x1), (2, vJ x2), (4, vJ x4)] [vR (some s0)] Q := by
  obtain ⟨h1, v, c, p⟩ := c
  obtain ⟨h', r, K, q⟩ := K h1 v p
  exact ⟨h', r, j_callV (v := some (vI v)) (as := []) dX11_off_37 kc_X11_153 rfl rfl w (by decide) (Nat.le_of_ble_eq_true rfl) c K, q⟩
theorem bX11_off_40 {h0 h : k_H} {Q : k_H → k_R → Prop} {x0 f1_0 : Nat} {x1 s0 : Int32} {x2 x4 : Int64} {fs1 : List k_V} (o1 : h.1 x0 = some (k_o 14 fs1)) (g1_0 : fs1[0]? = some (vR (some f1_0))) (w : k_is h f1_0 11) {P : k_H → Prop} (c : k_ctv (tX8_advance G l) [vR (some f1_0), vI 1] h P) (K : ∀ h1, P h1 → k_X (jX11_off G l h0) h1 50 [(0, vR (some x0)), (1, vI x1), (2, vJ x2), (4, vJ x4), (6, vI s0)] [] Q) : k_X (jX11_off G l h0) h 40 [(0, vR (some x0)), (1, vI x1), (2, vJ x2), (4, vJ x4)] [vI s0] Q := by
  obtain ⟨h1, c, p⟩ := c
  obtain ⟨h', r, K, q⟩ := K h1 p
  exact ⟨h', r, j_istore dX11_off_40 (by decide) rfl <| j_aload_n dX11_off_42 rfl rfl <| j_getf dX11_off_43 kf_X11_14 o1 g1_0 <| j_iconst (v := 1) dX11_off_46 (by decide) <| j_callV (v := none) (as := [vI 1]) dX11_off_47 kc_X11_223 rfl rfl w (by decide) (Nat.le_of_ble_eq_true rfl) c K, q⟩
theorem bX11_off_50 {h0 h : k_H} {Q : k_H → k_R → Prop} {x0 f1_0 : Nat} {x1 x6 : Int32} {x2 x4 : Int64} {fs1 : List k_V} (o1 : h.1 x0 = some (k_o 14 fs1)) (g1_0 : fs1[0]? = some (vR (some f1_0))) (w : k_is h f1_0 11) {P : k_H → Prop} (c : k_ctv (tX8_wipe G l) [vR (some f1_0), vJ x2, vJ x4] h P) (K : ∀ h1, P h1 → k_X (jX11_off G l h0) h1 60 [(0, vR (some x0)), (1, vI x1), (6, vI x6)] [] Q) : k_X (jX11_off G l h0) h 50 [(0, vR (some x0)), (1, vI x1), (2, vJ x2), (4, vJ x4), (6, vI x6)] [] Q := by
  obtain ⟨h1, c, p⟩ := c
  obtain ⟨h', r, K, q⟩ := K h1 p
  exact ⟨h', r, j_aload_n dX11_off_50 rfl rfl <| j_getf dX11_off_51 kf_X11_14 o1 g1_0 <| j_lload_n dX11_off_54 rfl rfl <| j_lload dX11_off_55 rfl <| j_callV (v := none) (as := [vJ x2, vJ x4]) dX11_off_57 kc_X11_322 rfl rfl w (by decide) (Nat.le_of_ble_eq_true rfl) c (j_pick [0, 1, 4] rfl K), q⟩
theorem bX11_off_60 {h0 h : k_H} {Q : k_H → k_R → Prop} {x0 : Nat} {x1 x6 : Int32} {f1_0 : Option Nat} {fs1 : List k_V} (o1 : h.1 x0 = some (k_o 14 fs1)) (g1_0 : fs1[0]? = some (vR f1_0)) {P : k_H → Int64 → Prop} (c : k_ctj (tX11_codeOf_ G l) [vI (-6), vI x1] h P) (K : ∀ h1 v, P h1 v → k_X (jX11_off G l h0) h1 71 [(0, vR (some x0)), (6, vI x6)] [vJ v, vI 0, vR f1_0] Q) : k_X (jX11_off G l h0) h 60 [(0, vR (some x0)), (1, vI x1), (6, vI x6)] [] Q := by
  obtain ⟨h1, v, c, p⟩ := c
  obtain ⟨h', r, K, q⟩ := K h1 v p
  exact ⟨h', r, j_aload_n dX11_off_60 rfl rfl <| j_getf dX11_off_61 kf_X11_14 o1 g1_0 <| j_iconst (v := 0) dX11_off_64 (by decide) <| j_bipush (v := (-6)) dX11_off_65 (by decide) <| j_iload_n dX11_off_67 rfl rfl <| j_callS (v := some (vJ v)) (as := [vI (-6), vI x1]) dX11_off_68 kc_X11_302 rfl rfl (by decide) (Nat.le_of_ble_eq_true rfl) c (j_pick [0, 2] rfl K), q⟩
theorem bX11_off_71 {h0 h : k_H} {Q : k_H → k_R → Prop} {x0 s0 : Nat} {x6 s1 : Int32} {s2 : Int64} (w : k_is h s0 11) {P : k_H → Prop} (c : k_ctv (tX8_alter G l) [vR (some s0), vI s1, vJ s2, vI (-1000)] h P) (K : ∀ h1, P h1 → k_X (jX11_off G l h0) h1 77 [(0, vR (some x0)), (6, vI x6)] [] Q) : k_X (jX11_off G l h0) h 71 [(0, vR (some x0)), (6, vI x6)] [vJ s2, vI s1, vR (some s0)] Q := by
  obtain ⟨h1, c, p⟩ := c
  obtain ⟨h', r, K, q⟩ := K h1 p
  exact ⟨h', r, j_sipush (v := (-1000)) dX11_off_71 (by decide) <| j_callV (v := none) (as := [vI s1, vJ s2, vI (-1000)]) dX11_off_74 kc_X11_325 rfl rfl w (by decide) (Nat.le_of_ble_eq_true rfl) c K, q⟩
theorem bX11_off_77 {h0 h : k_H} {Q : k_H → k_R → Prop} {x0 : Nat} {x6 : Int32} (w : k_is h x0 14) {P : k_H → Prop} (c : k_ctv (tX11_closeCommit G l) [vR (some x0)] h P) (K : ∀ h1, P h1 → k_X (jX11_off G l h0) h1 81 [(6, vI x6)] [] Q) : k_X (jX11_off G l h0) h 77 [(0, vR (some x0)), (6, vI x6)] [] Q := by
  obtain ⟨h1, c, p⟩ := c
  obtain ⟨h', r, K, q⟩ := K h1 p
  exact ⟨h', r, j_aload_n dX11_off_77 rfl rfl <| j_callV (v := none) (as := []) dX11_off_78 kc_X11_329 rfl rfl w (by decide) (Nat.le_of_ble_eq_true rfl) c (j_pick [1] rfl K), q⟩
theorem bX11_off_81 {h0 h : k_H} {Q : k_H → k_R → Prop} {x6 : Int32} (q : Q h (.inl (some (vI x6)))) : k_X (jX11_off G l h0) h 81 [(6, vI x6)] [] Q := by
  exact ⟨_, _, j_iload dX11_off_81 rfl <| j_iret dX11_off_83 rfl, q⟩
theorem eX11_rank {G : k_G} {l : Launch} (hfl : l.flags = flags0) {h : k_H} {Q : k_H → k_R → Prop} {x0 : Nat} {x1 : Int32} (K : k_X (jX11_rank G l h) h 0 [(0, vR (some x0)), (1, vI x1)] [] Q) : k_ct (tX11_rank G l) [vR (some x0), vI x1] h Q := by
  obtain ⟨h', r, K, q⟩ := K
  exact ⟨h', r, k_CtOf (by decide +kernel) (Nat.le_of_ble_eq_true rfl) K hfl, q⟩

theorem bX11_rank_0 {h0 h : k_H} {Q : k_H → k_R → Prop} {x0 : Nat} {x1 : Int32} {P : k_H → Prop} (c : k_ctv (tX11_requireField G l) [vI x1] h P) (K : ∀ h1, P h1 → k_X (jX11_rank G l h0) h1 4 [(0, vR (some x0)), (1, vI x1)] [] Q) : k_X (jX11_rank G l h0) h 0 [(0, vR (some x0)), (1, vI x1)] [] Q := by
  obtain ⟨h1, c, p⟩ := c
  obtain ⟨h', r, K, q⟩ := K h1 p
  exact ⟨h', r, j_iload_n dX11_rank_0 rfl rfl <| j_callS (v := none) (as := [vI x1]) dX11_rank_1 kc_X11_290 rfl rfl (by decide) (Nat.le_of_ble_eq_true rfl) c K, q⟩
theorem bX11_rank_0x {h0 h : k_H} {Q : k_H → k_R → Prop} {x0 : Nat} {x1 : Int32} {E : String} {P : k_H → Prop} (c : k_ctx (tX11_requireField G l) [vI x1] h E P) (q : ∀ h1, P h1 → Q h1 (.inr E)) : k_X (jX11_rank G l h0) h 0 [(0, vR (some x0)), (1, vI x1)] [] Q := by
  obtain ⟨h1, c, p⟩ := c
  exact ⟨h1, _, j_iload_n dX11_rank_0 rfl rfl <| j_callSx (as := [vI x1]) dX11_rank_1 kc_X11_290 rfl rfl (by decide) (Nat.le_of_ble_eq_true rfl) c, q h1 p⟩
theorem bX11_rank_4 {h0 h : k_H} {Q : k_H → k_R → Prop} {x0 : Nat} {x1 : Int32} (K : k_X (jX11_rank G l h0) h 8 [(0, vR (some x0)), (1, vI x1), (2, vI 0), (3, vI 0)] [] Q) : k_X (jX11_rank G l h0) h 4 [(0, vR (some x0)), (1, vI x1)] [] Q := by
  obtain ⟨h', r, K, q⟩ := K
  exact ⟨h', r, j_iconst (v := 0) dX11_rank_4 (by decide) <| j_istore_n dX11_rank_5 rfl (by decide) rfl <| j_iconst (v := 0) dX11_rank_6 (by decide) <| j_istore_n dX11_rank_7 rfl (by decide) rfl <| K, q⟩
theorem bX11_rank_8 {h0 h : k_H} {Q : k_H → k_R → Prop} {x0 : Nat} {x1 x2 x3 : Int32} (K1 : x1 ≤ x3 → k_X (jX11_rank G l h0) h 56 [(2, vI x2)] [] Q) (K2 : ¬ (x1 ≤ x3) → k_X (jX11_rank G l h0) h 13 [(0, vR (some x0)), (1, vI x1), (2, vI x2), (3, vI x3)] [] Q) : k_X (jX11_rank G l h0) h 8 [(0, vR (some x0)), (1, vI x1), (2, vI x2), (3, vI x3)] [] Q := by
  by_cases hc : x1 ≤ x3
  · skip
    obtain ⟨h', r, K, q⟩ := K1 hc
    exact ⟨h', r, j_iload_n dX11_rank_8 rfl rfl <| j_iload_n dX11_rank_9 rfl rfl <| j_icmp_ge_t (tgt := 56) dX11_rank_10 (by decide) hc (j_pick [2] rfl K), q⟩
  · skip
    obtain ⟨h', r, K, q⟩ := K2 hc
    exact ⟨h', r, j_iload_n dX11_rank_8 rfl rfl <| j_iload_n dX11_rank_9 rfl rfl <| j_icmp_ge_f dX11_rank_10 56 (by decide) hc K, q⟩
theorem bX11_rank_13 {h0 h : k_H} {Q : k_H → k_R → Prop} {x0 : Nat} {x1 x2 x3 : Int32} {f1_2 f1_0 : Option Nat} {fs1 : List k_V} (o1 : h.1 x0 = some (k_o 14 fs1)) (g1_2 : fs1[2]? = some (vR f1_2)) (g1_0 : fs1[0]? = some (vR f1_0)) {P : k_H → Int64 → Prop} (c : k_ctj (tX11_codeOf_ G l) [vI (-3), vI x3] h P) (K : ∀ h1 v, P h1 v → k_X (jX11_rank G l h0) h1 27 [(0, vR (some x0)), (1, vI x1), (2, vI x2), (3, vI x3)] [vJ v, vR f1_0, vR f1_2] Q) : k_X (jX11_rank G l h0) h 13 [(0, vR (some x0)), (1, vI x1), (2, vI x2), (3, vI x3)] [] Q := by
  obtain ⟨h1, v, c, p⟩ := c
  obtain ⟨h', r, K, q⟩ := K h1 v p
  exact ⟨h', r, j_aload_n dX11_rank_13 rfl rfl <| j_getf dX11_rank_14 kf_X11_28 o1 g1_2 <| j_aload_n dX11_rank_17 rfl rfl <| j_getf dX11_rank_18 kf_X11_14 o1 g1_0 <| j_bipush (v := (-3)) dX11_rank_21 (by decide) <| j_iload_n dX11_rank_23 rfl rfl <| j_callS (v := some (vJ v)) (as := [vI (-3), vI x3]) dX11_rank_24 kc_X11_302 rfl rfl (by decide) (Nat.le_of_ble_eq_true rfl) c K, q⟩
theorem bX11_rank_27 {h0 h : k_H} {Q : k_H → k_R → Prop} {x0 s1 f1_0 : Nat} {x1 x2 x3 f2_6 : Int32} {s0 : Option Nat} {s2 : Int64} {fs1 : List k_V} (o1 : h.1 x0 = some (k_o 14 fs1)) (g1_0 : fs1[0]? = some (vR (some f1_0))) {fs2 : List k_V} (o2 : h.1 f1_0 = some (k_o 11 fs2)) (g2_6 : fs2[6]? = some (vI f2_6)) (w : k_is h s1 11) {P : k_H → Option Nat → Prop} (c : k_ctr (tX8_entryIn G l) [vR (some s1), vJ s2, vI f2_6] h P) (K : ∀ h1 v, P h1 v → k_X (jX11_rank G l h0) h1 37 [(0, vR (some x0)), (1, vI x1), (2, vI x2), (3, vI x3)] [vR v, vR s0] Q) : k_X (jX11_rank G l h0) h 27 [(0, vR (some x0)), (1, vI x1), (2, vI x2), (3, vI x3)] [vJ s2, vR (some s1), vR s0] Q := by
  obtain ⟨h1, v, c, p⟩ := c
  obtain ⟨h', r, K, q⟩ := K h1 v p
  exact ⟨h', r, j_aload_n dX11_rank_27 rfl rfl <| j_getf dX11_rank_28 kf_X11_14 o1 g1_0 <| j_getf dX11_rank_31 kf_X11_85 o2 g2_6 <| j_callV (v := some (vR v)) (as := [vJ s2, vI f2_6]) dX11_rank_34 kc_X11_107 rfl rfl w (by decide) (Nat.le_of_ble_eq_true rfl) c K, q⟩
theorem bX11_rank_37 {h0 h : k_H} {Q : k_H → k_R → Prop} {x0 s0 : Nat} {x1 x2 x3 : Int32} {s1 : Option Nat} (w : k_is h s0 3) {P : k_H → Prop} (c : k_ctv (tX0_load G l) [vR (some s0), vR s1] h P) (K : ∀ h1, P h1 → k_X (jX11_rank G l h0) h1 40 [(0, vR (some x0)), (1, vI x1), (2, vI x2), (3, vI x3)] [] Q) : k_X (jX11_rank G l h0) h 37 [(0, vR (some x0)), (1, vI x1), (2, vI x2), (3, vI x3)] [vR s1, vR (some s0)] Q := by
  obtain ⟨h1, c, p⟩ := c
  obtain ⟨h', r, K, q⟩ := K h1 p
  exact ⟨h', r, j_callV (v := none) (as := [vR s1]) dX11_rank_37 kc_X11_230 rfl rfl w (by decide) (Nat.le_of_ble_eq_true rfl) c K, q⟩
theorem bX11_rank_40 {h0 h : k_H} {Q : k_H → k_R → Prop} {x0 f1_2 : Nat} {x1 x2 x3 f2_2 : Int32} {fs1 : List k_V} (o1 : h.1 x0 = some (k_o 14 fs1)) (g1_2 : fs1[2]? = some (vR (some f1_2))) {fs2 : List k_V} (o2 : h.1 f1_2 = some (k_o 3 fs2)) (g2_2 : fs2[2]? = some (vI f2_2)) (K : k_X (jX11_rank G l h0) h 8 [(0, vR (some x0)), (1, vI x1), (2, vI (x2 + f2_2)), (3, vI (x3 + 1))] [] Q) : k_X (jX11_rank G l h0) h 40 [(0, vR (some x0)), (1, vI x1), (2, vI x2), (3, vI x3)] [] Q := by
  obtain ⟨h', r, K, q⟩ := K
  exact ⟨h', r, j_iload_n dX11_rank_40 rfl rfl <| j_aload_n dX11_rank_41 rfl rfl <| j_getf dX11_rank_42 kf_X11_28 o1 g1_2 <| j_getf dX11_rank_45 kf_X11_332 o2 g2_2 <| j_iadd dX11_rank_48 <| j_istore_n dX11_rank_49 rfl (by decide) rfl <| j_iinc (v := x3 + 1) dX11_rank_50 rfl (by decide) rfl rfl <| j_goto (tgt := 8) dX11_rank_53 (by decide) <| K, q⟩
theorem bX11_rank_56 {h0 h : k_H} {Q : k_H → k_R → Prop} {x2 : Int32} (q : Q h (.inl (some (vI x2)))) : k_X (jX11_rank G l h0) h 56 [(2, vI x2)] [] Q := by
  exact ⟨_, _, j_iload_n dX11_rank_56 rfl rfl <| j_iret dX11_rank_57 rfl, q⟩
theorem eX11_rankAnew {G : k_G} {l : Launch} (hfl : l.flags = flags0) {h : k_H} {Q : k_H → k_R → Prop} {x0 : Nat} {x1 : Int32} (K : k_X (jX11_rankAnew G l h) h 0 [(0, vR (some x0)), (1, vI x1)] [] Q) : k_ct (tX11_rankAnew G l) [vR (some x0), vI x1] h Q := by
  obtain ⟨h', r, K, q⟩ := K
  exact ⟨h', r, k_CtOf (by decide +kernel) (Nat.le_of_ble_eq_true rfl) K hfl, q⟩

theorem bX11_rankAnew_0 {h0 h : k_H} {Q : k_H → k_R → Prop} {x0 : Nat} {x1 : Int32} {P : k_H → Prop} (c : k_ctv (tX11_requireField G l) [vI x1] h P) (K : ∀ h1, P h1 → k_X (jX11_rankAnew G l h0) h1 4 [(0, vR (some x0)), (1, vI x1)] [] Q) : k_X (jX11_rankAnew G l h0) h 0 [(0, vR (some x0)), (1, vI x1)] [] Q := by
  obtain ⟨h1, c, p⟩ := c
  obtain ⟨h', r, K, q⟩ := K h1 p
  exact ⟨h', r, j_iload_n dX11_rankAnew_0 rfl rfl <| j_callS (v := none) (as := [vI x1]) dX11_rankAnew_1 kc_X11_290 rfl rfl (by decide) (Nat.le_of_ble_eq_true rfl) c K, q⟩
theorem bX11_rankAnew_0x {h0 h : k_H} {Q : k_H → k_R → Prop} {x0 : Nat} {x1 : Int32} {E : String} {P : k_H → Prop} (c : k_ctx (tX11_requireField G l) [vI x1] h E P) (q : ∀ h1, P h1 → Q h1 (.inr E)) : k_X (jX11_rankAnew G l h0) h 0 [(0, vR (some x0)), (1, vI x1)] [] Q := by
  obtain ⟨h1, c, p⟩ := c
  exact ⟨h1, _, j_iload_n dX11_rankAnew_0 rfl rfl <| j_callSx (as := [vI x1]) dX11_rankAnew_1 kc_X11_290 rfl rfl (by decide) (Nat.le_of_ble_eq_true rfl) c, q h1 p⟩
theorem bX11_rankAnew_4 {h0 h : k_H} {Q : k_H → k_R → Prop} {x0 : Nat} {x1 : Int32} (K : k_X (jX11_rankAnew G l h0) h 8 [(0, vR (some x0)), (1, vI x1), (2, vI 0), (3, vI 0)] [] Q) : k_X (jX11_rankAnew G l h0) h 4 [(0, vR (some x0)), (1, vI x1)] [] Q := by
  obtain ⟨h', r, K, q⟩ := K
  exact ⟨h', r, j_iconst (v := 0) dX11_rankAnew_4 (by decide) <| j_istore_n dX11_rankAnew_5 rfl (by decide) rfl <| j_iconst (v := 0) dX11_rankAnew_6 (by decide) <| j_istore_n dX11_rankAnew_7 rfl (by decide) rfl <| K, q⟩
theorem bX11_rankAnew_8 {h0 h : k_H} {Q : k_H → k_R → Prop} {x0 : Nat} {x1 x2 x3 : Int32} (K1 : 99 < x3 → k_X (jX11_rankAnew G l h0) h 70 [(2, vI x2)] [] Q) (K2 : ¬ (99 < x3) → k_X (jX11_rankAnew G l h0) h 14 [(0, vR (some x0)), (1, vI x1), (2, vI x2), (3, vI x3)] [] Q) : k_X (jX11_rankAnew G l h0) h 8 [(0, vR (some x0)), (1, vI x1), (2, vI x2), (3, vI x3)] [] Q := by
  by_cases hc : 99 < x3
  · skip
    obtain ⟨h', r, K, q⟩ := K1 hc
    exact ⟨h', r, j_iload_n dX11_rankAnew_8 rfl rfl <| j_bipush (v := 99) dX11_rankAnew_9 (by decide) <| j_icmp_gt_t (tgt := 70) dX11_rankAnew_11 (by decide) hc (j_pick [2] rfl K), q⟩
  · skip
    obtain ⟨h', r, K, q⟩ := K2 hc
    exact ⟨h', r, j_iload_n dX11_rankAnew_8 rfl rfl <| j_bipush (v := 99) dX11_rankAnew_9 (by decide) <| j_icmp_gt_f dX11_rankAnew_11 70 (by decide) hc K, q⟩
theorem bX11_rankAnew_14 {h0 h : k_H} {Q : k_H → k_R → Prop} {x0 : Nat} {x1 x2 x3 : Int32} {f1_2 f1_0 : Option Nat} {fs1 : List k_V} (o1 : h.1 x0 = some (k_o 14 fs1)) (g1_2 : fs1[2]? = some (vR f1_2)) (g1_0 : fs1[0]? = some (vR f1_0)) {P : k_H → Int64 → Prop} (c : k_ctj (tX11_codeOf_ G l) [vI (-1), vI x3] h P) (K : ∀ h1 v, P h1 v → k_X (jX11_rankAnew G l h0) h1 27 [(0, vR (some x0)), (1, vI x1), (2, vI x2), (3, vI x3)] [vJ v, vR f1_0, vR f1_2] Q) : k_X (jX11_rankAnew G l h0) h 14 [(0, vR (some x0)), (1, vI x1), (2, vI x2), (3, vI x3)] [] Q := by
  obtain ⟨h1, v, c, p⟩ := c
  obtain ⟨h', r, K, q⟩ := K h1 v p
  exact ⟨h', r, j_aload_n dX11_rankAnew_14 rfl rfl <| j_getf dX11_rankAnew_15 kf_X11_28 o1 g1_2 <| j_aload_n dX11_rankAnew_18 rfl rfl <| j_getf dX11_rankAnew_19 kf_X11_14 o1 g1_0 <| j_iconst (v := (-1)) dX11_rankAnew_22 (by decide) <| j_iload_n dX11_rankAnew_23 rfl rfl <| j_callS (v := some (vJ v)) (as := [vI (-1), vI x3]) dX11_rankAnew_24 kc_X11_302 rfl rfl (by decide) (Nat.le_of_ble_eq_true rfl) c K, q⟩
theorem bX11_rankAnew_27 {h0 h : k_H} {Q : k_H → k_R → Prop} {x0 s1 f1_0 : Nat} {x1 x2 x3 f2_6 : Int32} {s0 : Option Nat} {s2 : Int64} {fs1 : List k_V} (o1 : h.1 x0 = some (k_o 14 fs1)) (g1_0 : fs1[0]? = some (vR (some f1_0))) {fs2 : List k_V} (o2 : h.1 f1_0 = some (k_o 11 fs2)) (g2_6 : fs2[6]? = some (vI f2_6)) (w : k_is h s1 11) {P : k_H → Option Nat → Prop} (c : k_ctr (tX8_entryIn G l) [vR (some s1), vJ s2, vI f2_6] h P) (K : ∀ h1 v, P h1 v → k_X (jX11_rankAnew G l h0) h1 37 [(0, vR (some x0)), (1, vI x1), (2, vI x2), (3, vI x3)] [vR v, vR s0] Q) : k_X (jX11_rankAnew G l h0) h 27 [(0, vR (some x0)), (1, vI x1), (2, vI x2), (3, vI x3)] [vJ s2, vR (some s1), vR s0] Q := by
  obtain ⟨h1, v, c, p⟩ := c
  obtain ⟨h', r, K, q⟩ := K h1 v p
  exact ⟨h', r, j_aload_n dX11_rankAnew_27 rfl rfl <| j_getf dX11_rankAnew_28 kf_X11_14 o1 g1_0 <| j_getf dX11_rankAnew_31 kf_X11_85 o2 g2_6 <| j_callV (v := some (vR v)) (as := [vJ s2, vI f2_6]) dX11_rankAnew_34 kc_X11_107 rfl rfl w (by decide) (Nat.le_of_ble_eq_true rfl) c K, q⟩
theorem bX11_rankAnew_37 {h0 h : k_H} {Q : k_H → k_R → Prop} {x0 s0 : Nat} {x1 x2 x3 : Int32} {s1 : Option Nat} (w : k_is h s0 3) {P : k_H → Prop} (c : k_ctv (tX0_load G l) [vR (some s0), vR s1] h P) (K : ∀ h1, P h1 → k_X (jX11_rankAnew G l h0) h1 40 [(0, vR (some x0)), (1, vI x1), (2, vI x2), (3, vI x3)] [] Q) : k_X (jX11_rankAnew G l h0) h 37 [(0, vR (some x0)), (1, vI x1), (2, vI x2), (3, vI x3)] [vR s1, vR (some s0)] Q := by
  obtain ⟨h1, c, p⟩ := c
  obtain ⟨h', r, K, q⟩ := K h1 p
  exact ⟨h', r, j_callV (v := none) (as := [vR s1]) dX11_rankAnew_37 kc_X11_230 rfl rfl w (by decide) (Nat.le_of_ble_eq_true rfl) c K, q⟩
theorem bX11_rankAnew_40 {h0 h : k_H} {Q : k_H → k_R → Prop} {x0 f1_2 : Nat} {x1 x2 x3 f2_0 : Int32} {fs1 : List k_V} (o1 : h.1 x0 = some (k_o 14 fs1)) (g1_2 : fs1[2]? = some (vR (some f1_2))) {fs2 : List k_V} (o2 : h.1 f1_2 = some (k_o 3 fs2)) (g2_0 : fs2[0]? = some (vI f2_0)) (K1 : f2_0 = 0 → k_X (jX11_rankAnew G l h0) h 64 [(0, vR (some x0)), (1, vI x1), (2, vI x2), (3, vI x3)] [] Q) (K2 : ¬ (f2_0 = 0) → k_X (jX11_rankAnew G l h0) h 50 [(0, vR (some x0)), (1, vI x1), (2, vI x2), (3, vI x3)] [] Q) : k_X (jX11_rankAnew G l h0) h 40 [(0, vR (some x0)), (1, vI x1), (2, vI x2), (3, vI x3)] [] Q := by
  by_cases hc : f2_0 = 0
  · skip
    obtain ⟨h', r, K, q⟩ := K1 hc
    exact ⟨h', r, j_aload_n dX11_rankAnew_40 rfl rfl <| j_getf dX11_rankAnew_41 kf_X11_28 o1 g1_2 <| j_getf dX11_rankAnew_44 kf_X11_335 o2 g2_0 <| j_if_eq_t (tgt := 64) dX11_rankAnew_47 (by decide) hc K, q⟩
  · skip
    obtain ⟨h', r, K, q⟩ := K2 hc
    exact ⟨h', r, j_aload_n dX11_rankAnew_40 rfl rfl <| j_getf dX11_rankAnew_41 kf_X11_28 o1 g1_2 <| j_getf dX11_rankAnew_44 kf_X11_335 o2 g2_0 <| j_if_eq_f dX11_rankAnew_47 64 (by decide) hc K, q⟩
theorem bX11_rankAnew_50 {h0 h : k_H} {Q : k_H → k_R → Prop} {x0 f1_2 : Nat} {x1 x2 x3 f2_2 : Int32} {fs1 : List k_V} (o1 : h.1 x0 = some (k_o 14 fs1)) (g1_2 : fs1[2]? = some (vR (some f1_2))) {fs2 : List k_V} (o2 : h.1 f1_2 = some (k_o 3 fs2)) (g2_2 : fs2[2]? = some (vI f2_2)) (K1 : x1 ≤ f2_2 → k_X (jX11_rankAnew G l h0) h 64 [(0, vR (some x0)), (1, vI x1), (2, vI x2), (3, vI x3)] [] Q) (K2 : ¬ (x1 ≤ f2_2) → k_X (jX11_rankAnew G l h0) h 61 [(0, vR (some x0)), (1, vI x1), (2, vI x2), (3, vI x3)] [] Q) : k_X (jX11_rankAnew G l h0) h 50 [(0, vR (some x0)), (1, vI x1), (2, vI x2), (3, vI x3)] [] Q := by
  by_cases hc : x1 ≤ f2_2
  · skip
    obtain ⟨h', r, K, q⟩ := K1 hc
    exact ⟨h', r, j_aload_n dX11_rankAnew_50 rfl rfl <| j_getf dX11_rankAnew_51 kf_X11_28 o1 g1_2 <| j_getf dX11_rankAnew_54 kf_X11_332 o2 g2_2 <| j_iload_n dX11_rankAnew_57 rfl rfl <| j_icmp_ge_t (tgt := 64) dX11_rankAnew_58 (by decide) hc K, q⟩
  · skip
    obtain ⟨h', r, K, q⟩ := K2 hc
    exact ⟨h', r, j_aload_n dX11_rankAnew_50 rfl rfl <| j_getf dX11_rankAnew_51 kf_X11_28 o1 g1_2 <| j_getf dX11_rankAnew_54 kf_X11_332 o2 g2_2 <| j_iload_n dX11_rankAnew_57 rfl rfl <| j_icmp_ge_f dX11_rankAnew_58 64 (by decide) hc K, q⟩
theorem bX11_rankAnew_61 {h0 h : k_H} {Q : k_H → k_R → Prop} {x0 : Nat} {x1 x2 x3 : Int32} (K : k_X (jX11_rankAnew G l h0) h 64 [(0, vR (some x0)), (1, vI x1), (2, vI (x2 + 1)), (3, vI x3)] [] Q) : k_X (jX11_rankAnew G l h0) h 61 [(0, vR (some x0)), (1, vI x1), (2, vI x2), (3, vI x3)] [] Q := by
  obtain ⟨h', r, K, q⟩ := K
  exact ⟨h', r, j_iinc (v := x2 + 1) dX11_rankAnew_61 rfl (by decide) rfl rfl <| K, q⟩
theorem bX11_rankAnew_64 {h0 h : k_H} {Q : k_H → k_R → Prop} {x0 : Nat} {x1 x2 x3 : Int32} (K : k_X (jX11_rankAnew G l h0) h 8 [(0, vR (some x0)), (1, vI x1), (2, vI x2), (3, vI (x3 + 1))] [] Q) : k_X (jX11_rankAnew G l h0) h 64 [(0, vR (some x0)), (1, vI x1), (2, vI x2), (3, vI x3)] [] Q := by
  obtain ⟨h', r, K, q⟩ := K
  exact ⟨h', r, j_iinc (v := x3 + 1) dX11_rankAnew_64 rfl (by decide) rfl rfl <| j_goto (tgt := 8) dX11_rankAnew_67 (by decide) <| K, q⟩
theorem bX11_rankAnew_70 {h0 h : k_H} {Q : k_H → k_R → Prop} {x2 : Int32} (q : Q h (.inl (some (vI x2)))) : k_X (jX11_rankAnew G l h0) h 70 [(2, vI x2)] [] Q := by
  exact ⟨_, _, j_iload_n dX11_rankAnew_70 rfl rfl <| j_iret dX11_rankAnew_71 rfl, q⟩
theorem eX11_watch {G : k_G} {l : Launch} (hfl : l.flags = flags0) {h : k_H} {Q : k_H → k_R → Prop} {x0 : Nat} {x1 : Int32} {x2 : Int32} {x3 : Int32} (K : k_X (jX11_watch G l h) h 0 [(0, vR (some x0)), (1, vI x1), (2, vI x2), (3, vI x3)] [] Q) : k_ct (tX11_watch G l) [vR (some x0), vI x1, vI x2, vI x3] h Q := by
  obtain ⟨h', r, K, q⟩ := K
  exact ⟨h', r, k_CtOf (by decide +kernel) (Nat.le_of_ble_eq_true rfl) K hfl, q⟩

theorem bX11_watch_0 {h0 h : k_H} {Q : k_H → k_R → Prop} {x0 : Nat} {x1 x2 x3 : Int32} {P : k_H → Prop} (c : k_ctv (tX11_requireKey G l) [vI x1, vI x2, vI x3] h P) (K : ∀ h1, P h1 → k_X (jX11_watch G l h0) h1 6 [(0, vR (some x0)), (1, vI x1), (2, vI x2), (3, vI x3)] [] Q) : k_X (jX11_watch G l h0) h 0 [(0, vR (some x0)), (1, vI x1), (2, vI x2), (3, vI x3)] [] Q := by
  obtain ⟨h1, c, p⟩ := c
  obtain ⟨h', r, K, q⟩ := K h1 p
  exact ⟨h', r, j_iload_n dX11_watch_0 rfl rfl <| j_iload_n dX11_watch_1 rfl rfl <| j_iload_n dX11_watch_2 rfl rfl <| j_callS (v := none) (as := [vI x1, vI x2, vI x3]) dX11_watch_3 kc_X11_92 rfl rfl (by decide) (Nat.le_of_ble_eq_true rfl) c K, q⟩
theorem bX11_watch_0x {h0 h : k_H} {Q : k_H → k_R → Prop} {x0 : Nat} {x1 x2 x3 : Int32} {E : String} {P : k_H → Prop} (c : k_ctx (tX11_requireKey G l) [vI x1, vI x2, vI x3] h E P) (q : ∀ h1, P h1 → Q h1 (.inr E)) : k_X (jX11_watch G l h0) h 0 [(0, vR (some x0)), (1, vI x1), (2, vI x2), (3, vI x3)] [] Q := by
  obtain ⟨h1, c, p⟩ := c
  exact ⟨h1, _, j_iload_n dX11_watch_0 rfl rfl <| j_iload_n dX11_watch_1 rfl rfl <| j_iload_n dX11_watch_2 rfl rfl <| j_callSx (as := [vI x1, vI x2, vI x3]) dX11_watch_3 kc_X11_92 rfl rfl (by decide) (Nat.le_of_ble_eq_true rfl) c, q h1 p⟩
theorem bX11_watch_6 {h0 h : k_H} {Q : k_H → k_R → Prop} {x0 f1_6 : Nat} {x1 x2 x3 : Int32} {fs1 : List k_V} (o1 : h.1 x0 = some (k_o 14 fs1)) (g1_6 : fs1[6]? = some (vR (some f1_6))) (w : k_is h f1_6 2) {P : k_H → Int32 → Prop} (c : k_cti (tAL_size G l) [vR (some f1_6)] h P) (K : ∀ h1 v, P h1 v → k_X (jX11_watch G l h0) h1 13 [(0, vR (some x0)), (1, vI x1), (2, vI x2), (3, vI x3)] [vI v] Q) : k_X (jX11_watch G l h0) h 6 [(0, vR (some x0)), (1, vI x1), (2, vI x2), (3, vI x3)] [] Q := by
  obtain ⟨h1, v, c, p⟩ := c
  obtain ⟨h', r, K, q⟩ := K h1 v p
  exact ⟨h', r, j_aload_n dX11_watch_6 rfl rfl <| j_getf dX11_watch_7 kf_X11_45 o1 g1_6 <| j_callV (v := some (vI v)) (as := []) dX11_watch_10 kc_X11_153 rfl rfl w (by decide) (Nat.le_of_ble_eq_true rfl) c K, q⟩
theorem bX11_watch_13 {h0 h : k_H} {Q : k_H → k_R → Prop} {x0 : Nat} {x1 x2 x3 s0 : Int32} (K1 : s0 < 20 → k_X (jX11_watch G l h0) h 29 [(0, vR (some x0)), (1, vI x1), (2, vI x2), (3, vI x3)] [] Q) (K2 : ¬ (s0 < 20) → k_X (jX11_watch G l h0) h 18 [] [] Q) : k_X (jX11_watch G l h0) h 13 [(0, vR (some x0)), (1, vI x1), (2, vI x2), (3, vI x3)] [vI s0] Q := by
  by_cases hc : s0 < 20
  · skip
    obtain ⟨h', r, K, q⟩ := K1 hc
    exact ⟨h', r, j_bipush (v := 20) dX11_watch_13 (by decide) <| j_icmp_lt_t (tgt := 29) dX11_watch_15 (by decide) hc K, q⟩
  · skip
    obtain ⟨h', r, K, q⟩ := K2 hc
    exact ⟨h', r, j_bipush (v := 20) dX11_watch_13 (by decide) <| j_icmp_lt_f dX11_watch_15 29 (by decide) hc (j_pick [] rfl K), q⟩
theorem bX11_watch_18 {h0 h : k_H} {Q : k_H → k_R → Prop} (q : Q (k_sk h 1 6) (.inr "java/lang/IllegalStateException")) : k_X (jX11_watch G l h0) h 18 [] [] Q := by
  exact ⟨_, _, j_throwSW kt_X11_119_338_123 dX11_watch_18 dX11_watch_21 dX11_watch_22 dX11_watch_25 dX11_watch_28 (by decide) (Nat.le_of_ble_eq_true rfl), q⟩
theorem bX11_watch_29 {h0 h : k_H} {Q : k_H → k_R → Prop} {x0 : Nat} {x1 x2 x3 : Int32} {f1_6 : Option Nat} {fs1 : List k_V} (o1 : h.1 x0 = some (k_o 14 fs1)) (g1_6 : fs1[6]? = some (vR f1_6)) (K : k_X (jX11_watch G l h0) (k_nw h 2 (k_o 13 [vR none, vI 0])) 36 [(0, vR (some x0)), (1, vI x1), (2, vI x2), (3, vI x3)] [vR (some h.2.1), vR f1_6] Q) : k_X (jX11_watch G l h0) h 29 [(0, vR (some x0)), (1, vI x1), (2, vI x2), (3, vI x3)] [] Q := by
  obtain ⟨h', r, K, q⟩ := K
  exact ⟨h', r, j_aload_n dX11_watch_29 rfl rfl <| j_getf dX11_watch_30 kf_X11_45 o1 g1_6 <| j_new dX11_watch_33 kn_X11_340 <| K, q⟩
theorem bX11_watch_36 {h0 h : k_H} {Q : k_H → k_R → Prop} {x0 : Nat} {x1 x2 x3 : Int32} {s0 s1 f1_0 : Option Nat} {fs1 : List k_V} (o1 : h.1 x0 = some (k_o 14 fs1)) (g1_0 : fs1[0]? = some (vR f1_0)) {P : k_H → Int64 → Prop} (c : k_ctj (tX11_codeOf G l) [vI x1, vI x2, vI x3] h P) (K : ∀ h1 v, P h1 v → k_X (jX11_watch G l h0) h1 47 [(0, vR (some x0))] [vJ v, vR f1_0, vR s1, vR s1, vR s0] Q) : k_X (jX11_watch G l h0) h 36 [(0, vR (some x0)), (1, vI x1), (2, vI x2), (3, vI x3)] [vR s1, vR s0] Q := by
  obtain ⟨h1, v, c, p⟩ := c
  obtain ⟨h', r, K, q⟩ := K h1 v p
  exact ⟨h', r, j_dup dX11_watch_36 rfl <| j_aload_n dX11_watch_37 rfl rfl <| j_getf dX11_watch_38 kf_X11_14 o1 g1_0 <| j_iload_n dX11_watch_41 rfl rfl <| j_iload_n dX11_watch_42 rfl rfl <| j_iload_n dX11_watch_43 rfl rfl <| j_callS (v := some (vJ v)) (as := [vI x1, vI x2, vI x3]) dX11_watch_44 kc_X11_100 rfl rfl (by decide) (Nat.le_of_ble_eq_true rfl) c (j_pick [0] rfl K), q⟩
theorem bX11_watch_47 {h0 h : k_H} {Q : k_H → k_R → Prop} {x0 s3 : Nat} {s0 s1 s2 : Option Nat} {s4 : Int64} (w : k_is h s3 11) {P : k_H → Option Nat → Prop} (c : k_ctr (tX8_keyFor G l) [vR (some s3), vJ s4] h P) (K : ∀ h1 v, P h1 v → k_X (jX11_watch G l h0) h1 50 [(0, vR (some x0))] [vR v, vR s2, vR s1, vR s0] Q) : k_X (jX11_watch G l h0) h 47 [(0, vR (some x0))] [vJ s4, vR (some s3), vR s2, vR s1, vR s0] Q := by
  obtain ⟨h1, v, c, p⟩ := c
  obtain ⟨h', r, K, q⟩ := K h1 v p
  exact ⟨h', r, j_callV (v := some (vR v)) (as := [vJ s4]) dX11_watch_47 kc_X11_342 rfl rfl w (by decide) (Nat.le_of_ble_eq_true rfl) c K, q⟩
theorem bX11_watch_50 {h0 h : k_H} {Q : k_H → k_R → Prop} {x0 s2 : Nat} {s0 s1 s3 : Option Nat} {P : k_H → Prop} (c : k_ctv (tX10_init G l) [vR (some s2), vR s3] h P) (K : ∀ h1, P h1 → k_X (jX11_watch G l h0) h1 53 [(0, vR (some x0))] [vR s1, vR s0] Q) : k_X (jX11_watch G l h0) h 50 [(0, vR (some x0))] [vR s3, vR (some s2), vR s1, vR s0] Q := by
  obtain ⟨h1, c, p⟩ := c
  obtain ⟨h', r, K, q⟩ := K h1 p
  exact ⟨h', r, j_callI (v := none) (as := [vR s3]) dX11_watch_50 kc_X11_346 rfl rfl (by decide) (Nat.le_of_ble_eq_true rfl) c K, q⟩
theorem bX11_watch_53 {h0 h : k_H} {Q : k_H → k_R → Prop} {x0 s0 : Nat} {s1 : Option Nat} (w : k_is h s0 2) {P : k_H → Int32 → Prop} (c : k_cti (tAL_add G l) [vR (some s0), vR s1] h P) (K : ∀ h1 v, P h1 v → k_X (jX11_watch G l h0) h1 56 [(0, vR (some x0))] [vI v] Q) : k_X (jX11_watch G l h0) h 53 [(0, vR (some x0))] [vR s1, vR (some s0)] Q := by
  obtain ⟨h1, v, c, p⟩ := c
  obtain ⟨h', r, K, q⟩ := K h1 v p
  exact ⟨h', r, j_callV (v := some (vI v)) (as := [vR s1]) dX11_watch_53 kc_X11_72 rfl rfl w (by decide) (Nat.le_of_ble_eq_true rfl) c K, q⟩
theorem bX11_watch_56 {h0 h : k_H} {Q : k_H → k_R → Prop} {x0 f1_6 : Nat} {s0 : Int32} {fs1 : List k_V} (o1 : h.1 x0 = some (k_o 14 fs1)) (g1_6 : fs1[6]? = some (vR (some f1_6))) (w : k_is h f1_6 2) {P : k_H → Int32 → Prop} (c : k_cti (tAL_size G l) [vR (some f1_6)] h P) (K : ∀ h1 v, P h1 v → k_X (jX11_watch G l h0) h1 64 [] [vI v] Q) : k_X (jX11_watch G l h0) h 56 [(0, vR (some x0))] [vI s0] Q := by
  obtain ⟨h1, v, c, p⟩ := c
  obtain ⟨h', r, K, q⟩ := K h1 v p
  exact ⟨h', r, j_pop dX11_watch_56 rfl <| j_aload_n dX11_watch_57 rfl rfl <| j_getf dX11_watch_58 kf_X11_45 o1 g1_6 <| j_callV (v := some (vI v)) (as := []) dX11_watch_61 kc_X11_153 rfl rfl w (by decide) (Nat.le_of_ble_eq_true rfl) c (j_pick [] rfl K), q⟩
theorem bX11_watch_64 {h0 h : k_H} {Q : k_H → k_R → Prop} {s0 : Int32} (q : Q h (.inl (some (vI (s0 - 1))))) : k_X (jX11_watch G l h0) h 64 [] [vI s0] Q := by
  exact ⟨_, _, j_iconst (v := 1) dX11_watch_64 (by decide) <| j_isub dX11_watch_65 <| j_iret dX11_watch_66 rfl, q⟩
theorem eX11_fired {G : k_G} {l : Launch} (hfl : l.flags = flags0) {h : k_H} {Q : k_H → k_R → Prop} {x0 : Nat} {x1 : Int32} (K : k_X (jX11_fired G l h) h 0 [(0, vR (some x0)), (1, vI x1)] [] Q) : k_ct (tX11_fired G l) [vR (some x0), vI x1] h Q := by
  obtain ⟨h', r, K, q⟩ := K
  exact ⟨h', r, k_CtOf (by decide +kernel) (Nat.le_of_ble_eq_true rfl) K hfl, q⟩

theorem bX11_fired_0 {h0 h : k_H} {Q : k_H → k_R → Prop} {x0 : Nat} {x1 : Int32} (K1 : x1 < 0 → k_X (jX11_fired G l h0) h 15 [] [] Q) (K2 : ¬ (x1 < 0) → k_X (jX11_fired G l h0) h 4 [(0, vR (some x0)), (1, vI x1)] [] Q) : k_X (jX11_fired G l h0) h 0 [(0, vR (some x0)), (1, vI x1)] [] Q := by
  by_cases hc : x1 < 0
  · skip
    obtain ⟨h', r, K, q⟩ := K1 hc
    exact ⟨h', r, j_iload_n dX11_fired_0 rfl rfl <| j_if_lt_t (tgt := 15) dX11_fired_1 (by decide) hc (j_pick [] rfl K), q⟩
  · skip
    obtain ⟨h', r, K, q⟩ := K2 hc
    exact ⟨h', r, j_iload_n dX11_fired_0 rfl rfl <| j_if_lt_f dX11_fired_1 15 (by decide) hc K, q⟩
theorem bX11_fired_4 {h0 h : k_H} {Q : k_H → k_R → Prop} {x0 f1_6 : Nat} {x1 : Int32} {fs1 : List k_V} (o1 : h.1 x0 = some (k_o 14 fs1)) (g1_6 : fs1[6]? = some (vR (some f1_6))) (w : k_is h f1_6 2) {P : k_H → Int32 → Prop} (c : k_cti (tAL_size G l) [vR (some f1_6)] h P) (K : ∀ h1 v, P h1 v → k_X (jX11_fired G l h0) h1 12 [(0, vR (some x0)), (1, vI x1)] [vI v, vI x1] Q) : k_X (jX11_fired G l h0) h 4 [(0, vR (some x0)), (1, vI x1)] [] Q := by
  obtain ⟨h1, v, c, p⟩ := c
  obtain ⟨h', r, K, q⟩ := K h1 v p
  exact ⟨h', r, j_iload_n dX11_fired_4 rfl rfl <| j_aload_n dX11_fired_5 rfl rfl <| j_getf dX11_fired_6 kf_X11_45 o1 g1_6 <| j_callV (v := some (vI v)) (as := []) dX11_fired_9 kc_X11_153 rfl rfl w (by decide) (Nat.le_of_ble_eq_true rfl) c K, q⟩
theorem bX11_fired_12 {h0 h : k_H} {Q : k_H → k_R → Prop} {x0 : Nat} {x1 s0 s1 : Int32} (K1 : s0 < s1 → k_X (jX11_fired G l h0) h 26 [(0, vR (some x0)), (1, vI x1)] [] Q) (K2 : ¬ (s0 < s1) → k_X (jX11_fired G l h0) h 15 [] [] Q) : k_X (jX11_fired G l h0) h 12 [(0, vR (some x0)), (1, vI x1)] [vI s1, vI s0] Q := by
  by_cases hc : s0 < s1
  · skip
    obtain ⟨h', r, K, q⟩ := K1 hc
    exact ⟨h', r, j_icmp_lt_t (tgt := 26) dX11_fired_12 (by decide) hc K, q⟩
  · skip
    obtain ⟨h', r, K, q⟩ := K2 hc
    exact ⟨h', r, j_icmp_lt_f dX11_fired_12 26 (by decide) hc (j_pick [] rfl K), q⟩
theorem bX11_fired_15 {h0 h : k_H} {Q : k_H → k_R → Prop} (q : Q (k_sk h 1 6) (.inr "java/lang/IndexOutOfBoundsException")) : k_X (jX11_fired G l h0) h 15 [] [] Q := by
  exact ⟨_, _, j_throwSW kt_X11_156_349_160 dX11_fired_15 dX11_fired_18 dX11_fired_19 dX11_fired_22 dX11_fired_25 (by decide) (Nat.le_of_ble_eq_true rfl), q⟩
theorem bX11_fired_26 {h0 h : k_H} {Q : k_H → k_R → Prop} {x0 f1_6 : Nat} {x1 : Int32} {fs1 : List k_V} (o1 : h.1 x0 = some (k_o 14 fs1)) (g1_6 : fs1[6]? = some (vR (some f1_6))) (w : k_is h f1_6 2) {P : k_H → Option Nat → Prop} (c : k_ctr (tAL_get G l) [vR (some f1_6), vI x1] h P) (K : ∀ h1 v, P h1 v → k_X (jX11_fired G l h0) h1 34 [] [vR v] Q) : k_X (jX11_fired G l h0) h 26 [(0, vR (some x0)), (1, vI x1)] [] Q := by
  obtain ⟨h1, v, c, p⟩ := c
  obtain ⟨h', r, K, q⟩ := K h1 v p
  exact ⟨h', r, j_aload_n dX11_fired_26 rfl rfl <| j_getf dX11_fired_27 kf_X11_45 o1 g1_6 <| j_iload_n dX11_fired_30 rfl rfl <| j_callV (v := some (vR v)) (as := [vI x1]) dX11_fired_31 kc_X11_166 rfl rfl w (by decide) (Nat.le_of_ble_eq_true rfl) c (j_pick [] rfl K), q⟩
theorem bX11_fired_34 {h0 h : k_H} {Q : k_H → k_R → Prop} {s0 : Nat} {f1_1 : Int32} {fs1 : List k_V} (o1 : h.1 s0 = some (k_o 13 fs1)) (g1_1 : fs1[1]? = some (vI f1_1)) (q : Q h (.inl (some (vI f1_1)))) : k_X (jX11_fired G l h0) h 34 [] [vR (some s0)] Q := by
  exact ⟨_, _, j_cast dX11_fired_34 kk_X11_340 o1 <| j_getf dX11_fired_37 kf_X11_351 o1 g1_1 <| j_iret dX11_fired_40 rfl, q⟩
theorem eX11_offer {G : k_G} {l : Launch} (hfl : l.flags = flags0) {h : k_H} {Q : k_H → k_R → Prop} {x0 : Nat} {x1 : Int32} {x2 : Int32} (K : k_X (jX11_offer G l h) h 0 [(0, vR (some x0)), (1, vI x1), (2, vI x2)] [] Q) : k_ct (tX11_offer G l) [vR (some x0), vI x1, vI x2] h Q := by
  obtain ⟨h', r, K, q⟩ := K
  exact ⟨h', r, k_CtOf (by decide +kernel) (Nat.le_of_ble_eq_true rfl) K hfl, q⟩

theorem bX11_offer_0 {h0 h : k_H} {Q : k_H → k_R → Prop} {x0 : Nat} {x1 x2 : Int32} (w : k_is h x0 14) {P : k_H → Option Nat → Prop} (c : k_ctr (tX11_transactionAt G l) [vR (some x0), vI x1] h P) (K : ∀ h1 v, P h1 v → k_X (jX11_offer G l h0) h1 5 [(2, vI x2)] [vR v] Q) : k_X (jX11_offer G l h0) h 0 [(0, vR (some x0)), (1, vI x1), (2, vI x2)] [] Q := by
  obtain ⟨h1, v, c, p⟩ := c
  obtain ⟨h', r, K, q⟩ := K h1 v p
  exact ⟨h', r, j_aload_n dX11_offer_0 rfl rfl <| j_iload_n dX11_offer_1 rfl rfl <| j_callV (v := some (vR v)) (as := [vI x1]) dX11_offer_2 kc_X11_81 rfl rfl w (by decide) (Nat.le_of_ble_eq_true rfl) c (j_pick [2] rfl K), q⟩
theorem bX11_offer_0x {h0 h : k_H} {Q : k_H → k_R → Prop} {x0 : Nat} {x1 x2 : Int32} (w : k_is h x0 14) {E : String} {P : k_H → Prop} (c : k_ctx (tX11_transactionAt G l) [vR (some x0), vI x1] h E P) (q : ∀ h1, P h1 → Q h1 (.inr E)) : k_X (jX11_offer G l h0) h 0 [(0, vR (some x0)), (1, vI x1), (2, vI x2)] [] Q := by
  obtain ⟨h1, c, p⟩ := c
  exact ⟨h1, _, j_aload_n dX11_offer_0 rfl rfl <| j_iload_n dX11_offer_1 rfl rfl <| j_callVx (as := [vI x1]) dX11_offer_2 kc_X11_81 rfl rfl w (by decide) (Nat.le_of_ble_eq_true rfl) c, q h1 p⟩
theorem bX11_offer_5 {h0 h : k_H} {Q : k_H → k_R → Prop} {x2 : Int32} {s0 : Option Nat} (K1 : x2 < 0 → k_X (jX11_offer G l h0) h 16 [] [] Q) (K2 : ¬ (x2 < 0) → k_X (jX11_offer G l h0) h 10 [(2, vI x2), (3, vR s0)] [] Q) : k_X (jX11_offer G l h0) h 5 [(2, vI x2)] [vR s0] Q := by
  by_cases hc : x2 < 0
  · skip
    obtain ⟨h', r, K, q⟩ := K1 hc
    exact ⟨h', r, j_astore_n dX11_offer_5 rfl (by decide) rfl <| j_iload_n dX11_offer_6 rfl rfl <| j_if_lt_t (tgt := 16) dX11_offer_7 (by decide) hc (j_pick [] rfl K), q⟩
  · skip
    obtain ⟨h', r, K, q⟩ := K2 hc
    exact ⟨h', r, j_astore_n dX11_offer_5 rfl (by decide) rfl <| j_iload_n dX11_offer_6 rfl rfl <| j_if_lt_f dX11_offer_7 16 (by decide) hc K, q⟩
theorem bX11_offer_10 {h0 h : k_H} {Q : k_H → k_R → Prop} {x2 : Int32} {x3 : Option Nat} (K1 : x2 ≤ 1000000 → k_X (jX11_offer G l h0) h 26 [(2, vI x2), (3, vR x3)] [] Q) (K2 : ¬ (x2 ≤ 1000000) → k_X (jX11_offer G l h0) h 16 [] [] Q) : k_X (jX11_offer G l h0) h 10 [(2, vI x2), (3, vR x3)] [] Q := by
  by_cases hc : x2 ≤ 1000000
  · skip
    obtain ⟨h', r, K, q⟩ := K1 hc
    exact ⟨h', r, j_iload_n dX11_offer_10 rfl rfl <| j_ldc (v := 1000000) dX11_offer_11 ki_X11_183 <| j_icmp_le_t (tgt := 26) dX11_offer_13 (by decide) hc K, q⟩
  · skip
    obtain ⟨h', r, K, q⟩ := K2 hc
    exact ⟨h', r, j_iload_n dX11_offer_10 rfl rfl <| j_ldc (v := 1000000) dX11_offer_11 ki_X11_183 <| j_icmp_le_f dX11_offer_13 26 (by decide) hc (j_pick [] rfl K), q⟩
theorem bX11_offer_16 {h0 h : k_H} {Q : k_H → k_R → Prop} (q : Q (k_sk h 1 6) (.inr "java/lang/IllegalArgumentException")) : k_X (jX11_offer G l h0) h 16 [] [] Q := by
  exact ⟨_, _, j_throwS kt_X11_161_184_165 dX11_offer_16 dX11_offer_19 dX11_offer_20 dX11_offer_22 dX11_offer_25 (by decide) (Nat.le_of_ble_eq_true rfl), q⟩
theorem bX11_offer_26 {h0 h : k_H} {Q : k_H → k_R → Prop} {x2 : Int32} {x3 : Option Nat} {P : k_H → Prop} (c : k_ctv (tX11_requireRoom G l) [vR x3] h P) (K : ∀ h1, P h1 → k_X (jX11_offer G l h0) h1 30 [(2, vI x2), (3, vR x3)] [] Q) : k_X (jX11_offer G l h0) h 26 [(2, vI x2), (3, vR x3)] [] Q := by
  obtain ⟨h1, c, p⟩ := c
  obtain ⟨h', r, K, q⟩ := K h1 p
  exact ⟨h', r, j_aload_n dX11_offer_26 rfl rfl <| j_callS (v := none) (as := [vR x3]) dX11_offer_27 kc_X11_190 rfl rfl (by decide) (Nat.le_of_ble_eq_true rfl) c K, q⟩
theorem bX11_offer_26x {h0 h : k_H} {Q : k_H → k_R → Prop} {x2 : Int32} {x3 : Option Nat} {E : String} {P : k_H → Prop} (c : k_ctx (tX11_requireRoom G l) [vR x3] h E P) (q : ∀ h1, P h1 → Q h1 (.inr E)) : k_X (jX11_offer G l h0) h 26 [(2, vI x2), (3, vR x3)] [] Q := by
  obtain ⟨h1, c, p⟩ := c
  exact ⟨h1, _, j_aload_n dX11_offer_26 rfl rfl <| j_callSx (as := [vR x3]) dX11_offer_27 kc_X11_190 rfl rfl (by decide) (Nat.le_of_ble_eq_true rfl) c, q h1 p⟩
theorem bX11_offer_30 {h0 h : k_H} {Q : k_H → k_R → Prop} {x2 : Int32} {x3 : Option Nat} {P : k_H → Int64 → Prop} (c : k_ctj (tX11_codeOf_ G l) [vI (-5), vI 0] h P) (K : ∀ h1 v, P h1 v → k_X (jX11_offer G l h0) h1 37 [(2, vI x2), (3, vR x3)] [vJ v, vR x3] Q) : k_X (jX11_offer G l h0) h 30 [(2, vI x2), (3, vR x3)] [] Q := by
  obtain ⟨h1, v, c, p⟩ := c
  obtain ⟨h', r, K, q⟩ := K h1 v p
  exact ⟨h', r, j_aload_n dX11_offer_30 rfl rfl <| j_bipush (v := (-5)) dX11_offer_31 (by decide) <| j_iconst (v := 0) dX11_offer_33 (by decide) <| j_callS (v := some (vJ v)) (as := [vI (-5), vI 0]) dX11_offer_34 kc_X11_302 rfl rfl (by decide) (Nat.le_of_ble_eq_true rfl) c K, q⟩
theorem bX11_offer_37 {h0 h : k_H} {Q : k_H → k_R → Prop} {x2 : Int32} {x3 : Option Nat} {s0 : Nat} {s1 : Int64} (w : k_is h s0 12) {P : k_H → Prop} (c : k_ctv (tX9_keepStamped G l) [vR (some s0), vJ s1, vI 1, vI x2] h P) (K : ∀ h1, P h1 → k_X (jX11_offer G l h0) h1 42 [(3, vR x3)] [] Q) : k_X (jX11_offer G l h0) h 37 [(2, vI x2), (3, vR x3)] [vJ s1, vR (some s0)] Q := by
  obtain ⟨h1, c, p⟩ := c
  obtain ⟨h', r, K, q⟩ := K h1 p
  exact ⟨h', r, j_iconst (v := 1) dX11_offer_37 (by decide) <| j_iload_n dX11_offer_38 rfl rfl <| j_callV (v := none) (as := [vJ s1, vI 1, vI x2]) dX11_offer_39 kc_X11_197 rfl rfl w (by decide) (Nat.le_of_ble_eq_true rfl) c (j_pick [1] rfl K), q⟩
theorem bX11_offer_42 {h0 h : k_H} {Q : k_H → k_R → Prop} {x3 : Nat} {f1_7 : Int32} {fs1 : List k_V} (o1 : h.1 x3 = some (k_o 12 fs1)) (g1_7 : fs1[7]? = some (vI f1_7)) (q : Q h (.inl (some (vI f1_7)))) : k_X (jX11_offer G l h0) h 42 [(3, vR (some x3))] [] Q := by
  exact ⟨_, _, j_aload_n dX11_offer_42 rfl rfl <| j_getf dX11_offer_43 kf_X11_205 o1 g1_7 <| j_iret dX11_offer_46 rfl, q⟩
theorem eX11_take {G : k_G} {l : Launch} (hfl : l.flags = flags0) {h : k_H} {Q : k_H → k_R → Prop} {x0 : Nat} {x1 : Int32} (K : k_X (jX11_take G l h) h 0 [(0, vR (some x0)), (1, vI x1)] [] Q) : k_ct (tX11_take G l) [vR (some x0), vI x1] h Q := by
  obtain ⟨h', r, K, q⟩ := K
  exact ⟨h', r, k_CtOf (by decide +kernel) (Nat.le_of_ble_eq_true rfl) K hfl, q⟩

theorem bX11_take_0 {h0 h : k_H} {Q : k_H → k_R → Prop} {x0 : Nat} {x1 : Int32} {P : k_H → Prop} (c : k_ctv (tX11_requireWorker G l) [vI x1] h P) (K : ∀ h1, P h1 → k_X (jX11_take G l h0) h1 4 [(0, vR (some x0)), (1, vI x1)] [] Q) : k_X (jX11_take G l h0) h 0 [(0, vR (some x0)), (1, vI x1)] [] Q := by
  obtain ⟨h1, c, p⟩ := c
  obtain ⟨h', r, K, q⟩ := K h1 p
  exact ⟨h', r, j_iload_n dX11_take_0 rfl rfl <| j_callS (v := none) (as := [vI x1]) dX11_take_1 kc_X11_354 rfl rfl (by decide) (Nat.le_of_ble_eq_true rfl) c K, q⟩
theorem bX11_take_0x {h0 h : k_H} {Q : k_H → k_R → Prop} {x0 : Nat} {x1 : Int32} {E : String} {P : k_H → Prop} (c : k_ctx (tX11_requireWorker G l) [vI x1] h E P) (q : ∀ h1, P h1 → Q h1 (.inr E)) : k_X (jX11_take G l h0) h 0 [(0, vR (some x0)), (1, vI x1)] [] Q := by
  obtain ⟨h1, c, p⟩ := c
  exact ⟨h1, _, j_iload_n dX11_take_0 rfl rfl <| j_callSx (as := [vI x1]) dX11_take_1 kc_X11_354 rfl rfl (by decide) (Nat.le_of_ble_eq_true rfl) c, q h1 p⟩
theorem bX11_take_4 {h0 h : k_H} {Q : k_H → k_R → Prop} {x0 : Nat} {x1 : Int32} (w : k_is h x0 14) {P : k_H → Option Nat → Prop} (c : k_ctr (tX11_firstWork G l) [vR (some x0), vI (-2147483648)] h P) (K : ∀ h1 v, P h1 v → k_X (jX11_take G l h0) h1 10 [(0, vR (some x0)), (1, vI x1)] [vR v] Q) : k_X (jX11_take G l h0) h 4 [(0, vR (some x0)), (1, vI x1)] [] Q := by
  obtain ⟨h1, v, c, p⟩ := c
  obtain ⟨h', r, K, q⟩ := K h1 v p
  exact ⟨h', r, j_aload_n dX11_take_4 rfl rfl <| j_ldc (v := (-2147483648)) dX11_take_5 ki_X11_62 <| j_callV (v := some (vR v)) (as := [vI (-2147483648)]) dX11_take_7 kc_X11_357 rfl rfl w (by decide) (Nat.le_of_ble_eq_true rfl) c K, q⟩
theorem bX11_take_10 {h0 h : k_H} {Q : k_H → k_R → Prop} {x0 : Nat} {x1 : Int32} {s0 : Option Nat} (K1 : s0 = none → k_X (jX11_take G l h0) h 15 [] [] Q) (K2 : ∀ a, s0 = some a → k_X (jX11_take G l h0) h 18 [(0, vR (some x0)), (1, vI x1), (2, vR s0)] [] Q) : k_X (jX11_take G l h0) h 10 [(0, vR (some x0)), (1, vI x1)] [vR s0] Q := by
  rcases e9 : s0 with _ | a
  · obtain ⟨h', r, K, q⟩ := K1 e9
    subst e9
    exact ⟨h', r, j_astore_n dX11_take_10 rfl (by decide) rfl <| j_aload_n dX11_take_11 rfl rfl <| j_ifnonnull_f dX11_take_12 (j_pick [] rfl K), q⟩
  · obtain ⟨h', r, K, q⟩ := K2 a e9
    subst e9
    exact ⟨h', r, j_astore_n dX11_take_10 rfl (by decide) rfl <| j_aload_n dX11_take_11 rfl rfl <| j_ifnonnull_t (tgt := 18) dX11_take_12 (by decide) K, q⟩
theorem bX11_take_15 {h0 h : k_H} {Q : k_H → k_R → Prop} (q : Q h (.inl (some (vI (-2147483648))))) : k_X (jX11_take G l h0) h 15 [] [] Q := by
  exact ⟨_, _, j_ldc (v := (-2147483648)) dX11_take_15 ki_X11_62 <| j_iret dX11_take_17 rfl, q⟩
theorem bX11_take_18 {h0 h : k_H} {Q : k_H → k_R → Prop} {x0 f1_0 : Nat} {x1 : Int32} {x2 : Option Nat} {fs1 : List k_V} (o1 : h.1 x0 = some (k_o 14 fs1)) (g1_0 : fs1[0]? = some (vR (some f1_0))) (w : k_is h f1_0 11) {P : k_H → Prop} (c : k_ctv (tX8_advance G l) [vR (some f1_0), vI 1] h P) (K : ∀ h1, P h1 → k_X (jX11_take G l h0) h1 26 [(0, vR (some x0)), (1, vI x1), (2, vR x2)] [] Q) : k_X (jX11_take G l h0) h 18 [(0, vR (some x0)), (1, vI x1), (2, vR x2)] [] Q := by
  obtain ⟨h1, c, p⟩ := c
  obtain ⟨h', r, K, q⟩ := K h1 p
  exact ⟨h', r, j_aload_n dX11_take_18 rfl rfl <| j_getf dX11_take_19 kf_X11_14 o1 g1_0 <| j_iconst (v := 1) dX11_take_22 (by decide) <| j_callV (v := none) (as := [vI 1]) dX11_take_23 kc_X11_223 rfl rfl w (by decide) (Nat.le_of_ble_eq_true rfl) c K, q⟩
theorem bX11_take_26 {h0 h : k_H} {Q : k_H → k_R → Prop} {x0 : Nat} {x1 : Int32} {x2 f1_0 : Option Nat} {fs1 : List k_V} (o1 : h.1 x0 = some (k_o 14 fs1)) (g1_0 : fs1[0]? = some (vR f1_0)) {P : k_H → Int64 → Prop} (c : k_ctj (tX11_leaseOf G l) [vR x2] h P) (K : ∀ h1 v, P h1 v → k_X (jX11_take G l h0) h1 35 [(0, vR (some x0)), (1, vI x1), (2, vR x2)] [vJ v, vI 0, vR f1_0] Q) : k_X (jX11_take G l h0) h 26 [(0, vR (some x0)), (1, vI x1), (2, vR x2)] [] Q := by
  obtain ⟨h1, v, c, p⟩ := c
  obtain ⟨h', r, K, q⟩ := K h1 v p
  exact ⟨h', r, j_aload_n dX11_take_26 rfl rfl <| j_getf dX11_take_27 kf_X11_14 o1 g1_0 <| j_iconst (v := 0) dX11_take_30 (by decide) <| j_aload_n dX11_take_31 rfl rfl <| j_callS (v := some (vJ v)) (as := [vR x2]) dX11_take_32 kc_X11_361 rfl rfl (by decide) (Nat.le_of_ble_eq_true rfl) c K, q⟩
theorem bX11_take_35 {h0 h : k_H} {Q : k_H → k_R → Prop} {x0 s0 f1_0 : Nat} {x1 s1 f2_6 : Int32} {x2 : Option Nat} {s2 : Int64} {fs1 : List k_V} (o1 : h.1 x0 = some (k_o 14 fs1)) (g1_0 : fs1[0]? = some (vR (some f1_0))) {fs2 : List k_V} (o2 : h.1 f1_0 = some (k_o 11 fs2)) (g2_6 : fs2[6]? = some (vI f2_6)) (w : k_is h s0 11) {P : k_H → Prop} (c : k_ctv (tX8_alter G l) [vR (some s0), vI s1, vJ s2, vI (((10000 * x1) + f2_6) + 10)] h P) (K : ∀ h1, P h1 → k_X (jX11_take G l h0) h1 54 [(0, vR (some x0)), (2, vR x2)] [] Q) : k_X (jX11_take G l h0) h 35 [(0, vR (some x0)), (1, vI x1), (2, vR x2)] [vJ s2, vI s1, vR (some s0)] Q := by
  obtain ⟨h1, c, p⟩ := c
  obtain ⟨h', r, K, q⟩ := K h1 p
  exact ⟨h', r, j_sipush (v := 10000) dX11_take_35 (by decide) <| j_iload_n dX11_take_38 rfl rfl <| j_imul dX11_take_39 <| j_aload_n dX11_take_40 rfl rfl <| j_getf dX11_take_41 kf_X11_14 o1 g1_0 <| j_getf dX11_take_44 kf_X11_85 o2 g2_6 <| j_iadd dX11_take_47 <| j_bipush (v := 10) dX11_take_48 (by decide) <| j_iadd dX11_take_50 <| j_callV (v := none) (as := [vI s1, vJ s2, vI (((10000 * x1) + f2_6) + 10)]) dX11_take_51 kc_X11_325 rfl rfl w (by decide) (Nat.le_of_ble_eq_true rfl) c (j_pick [0, 2] rfl K), q⟩
theorem bX11_take_54 {h0 h : k_H} {Q : k_H → k_R → Prop} {x0 : Nat} {x2 : Option Nat} (w : k_is h x0 14) {P : k_H → Prop} (c : k_ctv (tX11_closeCommit G l) [vR (some x0)] h P) (K : ∀ h1, P h1 → k_X (jX11_take G l h0) h1 58 [(0, vR (some x0)), (2, vR x2)] [] Q) : k_X (jX11_take G l h0) h 54 [(0, vR (some x0)), (2, vR x2)] [] Q := by
  obtain ⟨h1, c, p⟩ := c
  obtain ⟨h', r, K, q⟩ := K h1 p
  exact ⟨h', r, j_aload_n dX11_take_54 rfl rfl <| j_callV (v := none) (as := []) dX11_take_55 kc_X11_329 rfl rfl w (by decide) (Nat.le_of_ble_eq_true rfl) c K, q⟩
theorem bX11_take_58 {h0 h : k_H} {Q : k_H → k_R → Prop} {x0 x2 f1_0 : Nat} {f2_0 : Int64} {fs1 : List k_V} (o1 : h.1 x0 = some (k_o 14 fs1)) (g1_0 : fs1[0]? = some (vR (some f1_0))) {fs2 : List k_V} (o2 : h.1 x2 = some (k_o 7 fs2)) (g2_0 : fs2[0]? = some (vJ f2_0)) (w : k_is h f1_0 11) {P : k_H → Int32 → Prop} (c : k_cti (tX8_valueNow G l) [vR (some f1_0), vJ f2_0] h P) (K : ∀ h1 v, P h1 v → k_X (jX11_take G l h0) h1 69 [] [vI v] Q) : k_X (jX11_take G l h0) h 58 [(0, vR (some x0)), (2, vR (some x2))] [] Q := by
  obtain ⟨h1, v, c, p⟩ := c
  obtain ⟨h', r, K, q⟩ := K h1 v p
  exact ⟨h', r, j_aload_n dX11_take_58 rfl rfl <| j_getf dX11_take_59 kf_X11_14 o1 g1_0 <| j_aload_n dX11_take_62 rfl rfl <| j_getf dX11_take_63 kf_X11_172 o2 g2_0 <| j_callV (v := some (vI v)) (as := [vJ f2_0]) dX11_take_66 kc_X11_304 rfl rfl w (by decide) (Nat.le_of_ble_eq_true rfl) c (j_pick [] rfl K), q⟩
theorem bX11_take_69 {h0 h : k_H} {Q : k_H → k_R → Prop} {s0 : Int32} (q : Q h (.inl (some (vI s0)))) : k_X (jX11_take G l h0) h 69 [] [vI s0] Q := by
  exact ⟨_, _, j_iret dX11_take_69 rfl, q⟩
theorem eX11_finish {G : k_G} {l : Launch} (hfl : l.flags = flags0) {h : k_H} {Q : k_H → k_R → Prop} {x0 : Nat} {x1 : Int32} (K : k_X (jX11_finish G l h) h 0 [(0, vR (some x0)), (1, vI x1)] [] Q) : k_ct (tX11_finish G l) [vR (some x0), vI x1] h Q := by
  obtain ⟨h', r, K, q⟩ := K
  exact ⟨h', r, k_CtOf (by decide +kernel) (Nat.le_of_ble_eq_true rfl) K hfl, q⟩

theorem bX11_finish_0 {h0 h : k_H} {Q : k_H → k_R → Prop} {x0 : Nat} {x1 : Int32} {P : k_H → Prop} (c : k_ctv (tX11_requireWorker G l) [vI x1] h P) (K : ∀ h1, P h1 → k_X (jX11_finish G l h0) h1 4 [(0, vR (some x0)), (1, vI x1)] [] Q) : k_X (jX11_finish G l h0) h 0 [(0, vR (some x0)), (1, vI x1)] [] Q := by
  obtain ⟨h1, c, p⟩ := c
  obtain ⟨h', r, K, q⟩ := K h1 p
  exact ⟨h', r, j_iload_n dX11_finish_0 rfl rfl <| j_callS (v := none) (as := [vI x1]) dX11_finish_1 kc_X11_354 rfl rfl (by decide) (Nat.le_of_ble_eq_true rfl) c K, q⟩
theorem bX11_finish_0x {h0 h : k_H} {Q : k_H → k_R → Prop} {x0 : Nat} {x1 : Int32} {E : String} {P : k_H → Prop} (c : k_ctx (tX11_requireWorker G l) [vI x1] h E P) (q : ∀ h1, P h1 → Q h1 (.inr E)) : k_X (jX11_finish G l h0) h 0 [(0, vR (some x0)), (1, vI x1)] [] Q := by
  obtain ⟨h1, c, p⟩ := c
  exact ⟨h1, _, j_iload_n dX11_finish_0 rfl rfl <| j_callSx (as := [vI x1]) dX11_finish_1 kc_X11_354 rfl rfl (by decide) (Nat.le_of_ble_eq_true rfl) c, q h1 p⟩
theorem bX11_finish_4 {h0 h : k_H} {Q : k_H → k_R → Prop} {x0 : Nat} {x1 : Int32} (w : k_is h x0 14) {P : k_H → Option Nat → Prop} (c : k_ctr (tX11_firstWork G l) [vR (some x0), vI x1] h P) (K : ∀ h1 v, P h1 v → k_X (jX11_finish G l h0) h1 9 [(0, vR (some x0))] [vR v] Q) : k_X (jX11_finish G l h0) h 4 [(0, vR (some x0)), (1, vI x1)] [] Q := by
  obtain ⟨h1, v, c, p⟩ := c
  obtain ⟨h', r, K, q⟩ := K h1 v p
  exact ⟨h', r, j_aload_n dX11_finish_4 rfl rfl <| j_iload_n dX11_finish_5 rfl rfl <| j_callV (v := some (vR v)) (as := [vI x1]) dX11_finish_6 kc_X11_357 rfl rfl w (by decide) (Nat.le_of_ble_eq_true rfl) c (j_pick [0] rfl K), q⟩
theorem bX11_finish_9 {h0 h : k_H} {Q : k_H → k_R → Prop} {x0 : Nat} {s0 : Option Nat} (K1 : s0 = none → k_X (jX11_finish G l h0) h 14 [] [] Q) (K2 : ∀ a, s0 = some a → k_X (jX11_finish G l h0) h 17 [(0, vR (some x0)), (2, vR s0)] [] Q) : k_X (jX11_finish G l h0) h 9 [(0, vR (some x0))] [vR s0] Q := by
  rcases e9 : s0 with _ | a
  · obtain ⟨h', r, K, q⟩ := K1 e9
    subst e9
    exact ⟨h', r, j_astore_n dX11_finish_9 rfl (by decide) rfl <| j_aload_n dX11_finish_10 rfl rfl <| j_ifnonnull_f dX11_finish_11 (j_pick [] rfl K), q⟩
  · obtain ⟨h', r, K, q⟩ := K2 a e9
    subst e9
    exact ⟨h', r, j_astore_n dX11_finish_9 rfl (by decide) rfl <| j_aload_n dX11_finish_10 rfl rfl <| j_ifnonnull_t (tgt := 17) dX11_finish_11 (by decide) K, q⟩
theorem bX11_finish_14 {h0 h : k_H} {Q : k_H → k_R → Prop} (q : Q h (.inl (some (vI (-2147483648))))) : k_X (jX11_finish G l h0) h 14 [] [] Q := by
  exact ⟨_, _, j_ldc (v := (-2147483648)) dX11_finish_14 ki_X11_62 <| j_iret dX11_finish_16 rfl, q⟩
theorem bX11_finish_17 {h0 h : k_H} {Q : k_H → k_R → Prop} {x0 x2 f1_0 : Nat} {f2_0 : Int64} {fs1 : List k_V} (o1 : h.1 x0 = some (k_o 14 fs1)) (g1_0 : fs1[0]? = some (vR (some f1_0))) {fs2 : List k_V} (o2 : h.1 x2 = some (k_o 7 fs2)) (g2_0 : fs2[0]? = some (vJ f2_0)) (w : k_is h f1_0 11) {P : k_H → Int32 → Prop} (c : k_cti (tX8_valueNow G l) [vR (some f1_0), vJ f2_0] h P) (K : ∀ h1 v, P h1 v → k_X (jX11_finish G l h0) h1 28 [(0, vR (some x0)), (2, vR (some x2))] [vI v] Q) : k_X (jX11_finish G l h0) h 17 [(0, vR (some x0)), (2, vR (some x2))] [] Q := by
  obtain ⟨h1, v, c, p⟩ := c
  obtain ⟨h', r, K, q⟩ := K h1 v p
  exact ⟨h', r, j_aload_n dX11_finish_17 rfl rfl <| j_getf dX11_finish_18 kf_X11_14 o1 g1_0 <| j_aload_n dX11_finish_21 rfl rfl <| j_getf dX11_finish_22 kf_X11_172 o2 g2_0 <| j_callV (v := some (vI v)) (as := [vJ f2_0]) dX11_finish_25 kc_X11_304 rfl rfl w (by decide) (Nat.le_of_ble_eq_true rfl) c K, q⟩
theorem bX11_finish_28 {h0 h : k_H} {Q : k_H → k_R → Prop} {x0 f1_0 : Nat} {x2 : Option Nat} {s0 : Int32} {fs1 : List k_V} (o1 : h.1 x0 = some (k_o 14 fs1)) (g1_0 : fs1[0]? = some (vR (some f1_0))) (w : k_is h f1_0 11) {P : k_H → Prop} (c : k_ctv (tX8_advance G l) [vR (some f1_0), vI 1] h P) (K : ∀ h1, P h1 → k_X (jX11_finish G l h0) h1 37 [(0, vR (some x0)), (2, vR x2), (3, vI s0)] [] Q) : k_X (jX11_finish G l h0) h 28 [(0, vR (some x0)), (2, vR x2)] [vI s0] Q := by
  obtain ⟨h1, c, p⟩ := c
  obtain ⟨h', r, K, q⟩ := K h1 p
  exact ⟨h', r, j_istore_n dX11_finish_28 rfl (by decide) rfl <| j_aload_n dX11_finish_29 rfl rfl <| j_getf dX11_finish_30 kf_X11_14 o1 g1_0 <| j_iconst (v := 1) dX11_finish_33 (by decide) <| j_callV (v := none) (as := [vI 1]) dX11_finish_34 kc_X11_223 rfl rfl w (by decide) (Nat.le_of_ble_eq_true rfl) c K, q⟩
theorem bX11_finish_37 {h0 h : k_H} {Q : k_H → k_R → Prop} {x0 x2 f1_0 : Nat} {x3 : Int32} {f2_0 : Int64} {fs1 : List k_V} (o1 : h.1 x0 = some (k_o 14 fs1)) (g1_0 : fs1[0]? = some (vR (some f1_0))) {fs2 : List k_V} (o2 : h.1 x2 = some (k_o 7 fs2)) (g2_0 : fs2[0]? = some (vJ f2_0)) (w : k_is h f1_0 11) {P : k_H → Prop} (c : k_ctv (tX8_alter G l) [vR (some f1_0), vI 1, vJ f2_0, vI 0] h P) (K : ∀ h1, P h1 → k_X (jX11_finish G l h0) h1 50 [(0, vR (some x0)), (2, vR (some x2)), (3, vI x3)] [] Q) : k_X (jX11_finish G l h0) h 37 [(0, vR (some x0)), (2, vR (some x2)), (3, vI x3)] [] Q := by
  obtain ⟨h1, c, p⟩ := c
  obtain ⟨h', r, K, q⟩ := K h1 p
  exact ⟨h', r, j_aload_n dX11_finish_37 rfl rfl <| j_getf dX11_finish_38 kf_X11_14 o1 g1_0 <| j_iconst (v := 1) dX11_finish_41 (by decide) <| j_aload_n dX11_finish_42 rfl rfl <| j_getf dX11_finish_43 kf_X11_172 o2 g2_0 <| j_iconst (v := 0) dX11_finish_46 (by decide) <| j_callV (v := none) (as := [vI 1, vJ f2_0, vI 0]) dX11_finish_47 kc_X11_325 rfl rfl w (by decide) (Nat.le_of_ble_eq_true rfl) c K, q⟩
theorem bX11_finish_50 {h0 h : k_H} {Q : k_H → k_R → Prop} {x0 : Nat} {x2 f1_0 : Option Nat} {x3 : Int32} {fs1 : List k_V} (o1 : h.1 x0 = some (k_o 14 fs1)) (g1_0 : fs1[0]? = some (vR f1_0)) {P : k_H → Int64 → Prop} (c : k_ctj (tX11_leaseOf G l) [vR x2] h P) (K : ∀ h1 v, P h1 v → k_X (jX11_finish G l h0) h1 59 [(0, vR (some x0)), (3, vI x3)] [vJ v, vI 1, vR f1_0] Q) : k_X (jX11_finish G l h0) h 50 [(0, vR (some x0)), (2, vR x2), (3, vI x3)] [] Q := by
  obtain ⟨h1, v, c, p⟩ := c
  obtain ⟨h', r, K, q⟩ := K h1 v p
  exact ⟨h', r, j_aload_n dX11_finish_50 rfl rfl <| j_getf dX11_finish_51 kf_X11_14 o1 g1_0 <| j_iconst (v := 1) dX11_finish_54 (by decide) <| j_aload_n dX11_finish_55 rfl rfl <| j_callS (v := some (vJ v)) (as := [vR x2]) dX11_finish_56 kc_X11_361 rfl rfl (by decide) (Nat.le_of_ble_eq_true rfl) c (j_pick [0, 2] rfl K), q⟩
theorem bX11_finish_59 {h0 h : k_H} {Q : k_H → k_R → Prop} {x0 s0 : Nat} {x3 s1 : Int32} {s2 : Int64} (w : k_is h s0 11) {P : k_H → Prop} (c : k_ctv (tX8_alter G l) [vR (some s0), vI s1, vJ s2, vI 0] h P) (K : ∀ h1, P h1 → k_X (jX11_finish G l h0) h1 63 [(0, vR (some x0)), (3, vI x3)] [] Q) : k_X (jX11_finish G l h0) h 59 [(0, vR (some x0)), (3, vI x3)] [vJ s2, vI s1, vR (some s0)] Q := by
  obtain ⟨h1, c, p⟩ := c
  obtain ⟨h', r, K, q⟩ := K h1 p
  exact ⟨h', r, j_iconst (v := 0) dX11_finish_59 (by decide) <| j_callV (v := none) (as := [vI s1, vJ s2, vI 0]) dX11_finish_60 kc_X11_325 rfl rfl w (by decide) (Nat.le_of_ble_eq_true rfl) c K, q⟩
theorem bX11_finish_63 {h0 h : k_H} {Q : k_H → k_R → Prop} {x0 : Nat} {x3 : Int32} (w : k_is h x0 14) {P : k_H → Prop} (c : k_ctv (tX11_closeCommit G l) [vR (some x0)] h P) (K : ∀ h1, P h1 → k_X (jX11_finish G l h0) h1 67 [(3, vI x3)] [] Q) : k_X (jX11_finish G l h0) h 63 [(0, vR (some x0)), (3, vI x3)] [] Q := by
  obtain ⟨h1, c, p⟩ := c
  obtain ⟨h', r, K, q⟩ := K h1 p
  exact ⟨h', r, j_aload_n dX11_finish_63 rfl rfl <| j_callV (v := none) (as := []) dX11_finish_64 kc_X11_329 rfl rfl w (by decide) (Nat.le_of_ble_eq_true rfl) c (j_pick [1] rfl K), q⟩
theorem bX11_finish_67 {h0 h : k_H} {Q : k_H → k_R → Prop} {x3 : Int32} (q : Q h (.inl (some (vI x3)))) : k_X (jX11_finish G l h0) h 67 [(3, vI x3)] [] Q := by
  exact ⟨_, _, j_iload_n dX11_finish_67 rfl rfl <| j_iret dX11_finish_68 rfl, q⟩
theorem eX11_parts {G : k_G} {l : Launch} (hfl : l.flags = flags0) {h : k_H} {Q : k_H → k_R → Prop} {x0 : Nat} (K : k_X (jX11_parts G l h) h 0 [(0, vR (some x0))] [] Q) : k_ct (tX11_parts G l) [vR (some x0)] h Q := by
  obtain ⟨h', r, K, q⟩ := K
  exact ⟨h', r, k_CtOf (by decide +kernel) (Nat.le_of_ble_eq_true rfl) K hfl, q⟩

theorem bX11_parts_0 {h0 h : k_H} {Q : k_H → k_R → Prop} {x0 f1_1 f2_0 : Nat} {fs1 : List k_V} (o1 : h.1 x0 = some (k_o 14 fs1)) (g1_1 : fs1[1]? = some (vR (some f1_1))) {fs2 : List k_V} (o2 : h.1 f1_1 = some (k_o 9 fs2)) (g2_0 : fs2[0]? = some (vR (some f2_0))) (w : k_is h f2_0 2) {P : k_H → Int32 → Prop} (c : k_cti (tAL_size G l) [vR (some f2_0)] h P) (K : ∀ h1 v, P h1 v → k_X (jX11_parts G l h0) h1 10 [] [vI v] Q) : k_X (jX11_parts G l h0) h 0 [(0, vR (some x0))] [] Q := by
  obtain ⟨h1, v, c, p⟩ := c
  obtain ⟨h', r, K, q⟩ := K h1 v p
  exact ⟨h', r, j_aload_n dX11_parts_0 rfl rfl <| j_getf dX11_parts_1 kf_X11_21 o1 g1_1 <| j_getf dX11_parts_4 kf_X11_365 o2 g2_0 <| j_callV (v := some (vI v)) (as := []) dX11_parts_7 kc_X11_153 rfl rfl w (by decide) (Nat.le_of_ble_eq_true rfl) c (j_pick [] rfl K), q⟩
theorem bX11_parts_10 {h0 h : k_H} {Q : k_H → k_R → Prop} {s0 : Int32} (q : Q h (.inl (some (vI s0)))) : k_X (jX11_parts G l h0) h 10 [] [vI s0] Q := by
  exact ⟨_, _, j_iret dX11_parts_10 rfl, q⟩
theorem eX11_part {G : k_G} {l : Launch} (hfl : l.flags = flags0) {h : k_H} {Q : k_H → k_R → Prop} {x0 : Nat} {x1 : Int32} {x2 : Int32} (K : k_X (jX11_part G l h) h 0 [(0, vR (some x0)), (1, vI x1), (2, vI x2)] [] Q) : k_ct (tX11_part G l) [vR (some x0), vI x1, vI x2] h Q := by
  obtain ⟨h', r, K, q⟩ := K
  exact ⟨h', r, k_CtOf (by decide +kernel) (Nat.le_of_ble_eq_true rfl) K hfl, q⟩

theorem bX11_part_0 {h0 h : k_H} {Q : k_H → k_R → Prop} {x0 : Nat} {x1 x2 : Int32} (K1 : x1 < 0 → k_X (jX11_part G l h0) h 18 [] [] Q) (K2 : ¬ (x1 < 0) → k_X (jX11_part G l h0) h 4 [(0, vR (some x0)), (1, vI x1), (2, vI x2)] [] Q) : k_X (jX11_part G l h0) h 0 [(0, vR (some x0)), (1, vI x1), (2, vI x2)] [] Q := by
  by_cases hc : x1 < 0
  · skip
    obtain ⟨h', r, K, q⟩ := K1 hc
    exact ⟨h', r, j_iload_n dX11_part_0 rfl rfl <| j_if_lt_t (tgt := 18) dX11_part_1 (by decide) hc (j_pick [] rfl K), q⟩
  · skip
    obtain ⟨h', r, K, q⟩ := K2 hc
    exact ⟨h', r, j_iload_n dX11_part_0 rfl rfl <| j_if_lt_f dX11_part_1 18 (by decide) hc K, q⟩
theorem bX11_part_4 {h0 h : k_H} {Q : k_H → k_R → Prop} {x0 f1_1 f2_0 : Nat} {x1 x2 : Int32} {fs1 : List k_V} (o1 : h.1 x0 = some (k_o 14 fs1)) (g1_1 : fs1[1]? = some (vR (some f1_1))) {fs2 : List k_V} (o2 : h.1 f1_1 = some (k_o 9 fs2)) (g2_0 : fs2[0]? = some (vR (some f2_0))) (w : k_is h f2_0 2) {P : k_H → Int32 → Prop} (c : k_cti (tAL_size G l) [vR (some f2_0)] h P) (K : ∀ h1 v, P h1 v → k_X (jX11_part G l h0) h1 15 [(0, vR (some x0)), (1, vI x1), (2, vI x2)] [vI v, vI x1] Q) : k_X (jX11_part G l h0) h 4 [(0, vR (some x0)), (1, vI x1), (2, vI x2)] [] Q := by
  obtain ⟨h1, v, c, p⟩ := c
  obtain ⟨h', r, K, q⟩ := K h1 v p
  exact ⟨h', r, j_iload_n dX11_part_4 rfl rfl <| j_aload_n dX11_part_5 rfl rfl <| j_getf dX11_part_6 kf_X11_21 o1 g1_1 <| j_getf dX11_part_9 kf_X11_365 o2 g2_0 <| j_callV (v := some (vI v)) (as := []) dX11_part_12 kc_X11_153 rfl rfl w (by decide) (Nat.le_of_ble_eq_true rfl) c K, q⟩
theorem bX11_part_15 {h0 h : k_H} {Q : k_H → k_R → Prop} {x0 : Nat} {x1 x2 s0 s1 : Int32} (K1 : s0 < s1 → k_X (jX11_part G l h0) h 28 [(0, vR (some x0)), (1, vI x1), (2, vI x2)] [] Q) (K2 : ¬ (s0 < s1) → k_X (jX11_part G l h0) h 18 [] [] Q) : k_X (jX11_part G l h0) h 15 [(0, vR (some x0)), (1, vI x1), (2, vI x2)] [vI s1, vI s0] Q := by
  by_cases hc : s0 < s1
  · skip
    obtain ⟨h', r, K, q⟩ := K1 hc
    exact ⟨h', r, j_icmp_lt_t (tgt := 28) dX11_part_15 (by decide) hc K, q⟩
  · skip
    obtain ⟨h', r, K, q⟩ := K2 hc
    exact ⟨h', r, j_icmp_lt_f dX11_part_15 28 (by decide) hc (j_pick [] rfl K), q⟩
theorem bX11_part_18 {h0 h : k_H} {Q : k_H → k_R → Prop} (q : Q (k_sk h 1 6) (.inr "java/lang/IndexOutOfBoundsException")) : k_X (jX11_part G l h0) h 18 [] [] Q := by
  exact ⟨_, _, j_throwS kt_X11_156_158_160 dX11_part_18 dX11_part_21 dX11_part_22 dX11_part_24 dX11_part_27 (by decide) (Nat.le_of_ble_eq_true rfl), q⟩
theorem bX11_part_28 {h0 h : k_H} {Q : k_H → k_R → Prop} {x0 : Nat} {x1 x2 : Int32} (K1 : x2 < 0 → k_X (jX11_part G l h0) h 37 [] [] Q) (K2 : ¬ (x2 < 0) → k_X (jX11_part G l h0) h 32 [(0, vR (some x0)), (1, vI x1), (2, vI x2)] [] Q) : k_X (jX11_part G l h0) h 28 [(0, vR (some x0)), (1, vI x1), (2, vI x2)] [] Q := by
  by_cases hc : x2 < 0
  · skip
    obtain ⟨h', r, K, q⟩ := K1 hc
    exact ⟨h', r, j_iload_n dX11_part_28 rfl rfl <| j_if_lt_t (tgt := 37) dX11_part_29 (by decide) hc (j_pick [] rfl K), q⟩
  · skip
    obtain ⟨h', r, K, q⟩ := K2 hc
    exact ⟨h', r, j_iload_n dX11_part_28 rfl rfl <| j_if_lt_f dX11_part_29 37 (by decide) hc K, q⟩
theorem bX11_part_32 {h0 h : k_H} {Q : k_H → k_R → Prop} {x0 : Nat} {x1 x2 : Int32} (K1 : x2 ≤ 4 → k_X (jX11_part G l h0) h 47 [(0, vR (some x0)), (1, vI x1), (2, vI x2)] [] Q) (K2 : ¬ (x2 ≤ 4) → k_X (jX11_part G l h0) h 37 [] [] Q) : k_X (jX11_part G l h0) h 32 [(0, vR (some x0)), (1, vI x1), (2, vI x2)] [] Q := by
  by_cases hc : x2 ≤ 4
  · skip
    obtain ⟨h', r, K, q⟩ := K1 hc
    exact ⟨h', r, j_iload_n dX11_part_32 rfl rfl <| j_iconst (v := 4) dX11_part_33 (by decide) <| j_icmp_le_t (tgt := 47) dX11_part_34 (by decide) hc K, q⟩
  · skip
    obtain ⟨h', r, K, q⟩ := K2 hc
    exact ⟨h', r, j_iload_n dX11_part_32 rfl rfl <| j_iconst (v := 4) dX11_part_33 (by decide) <| j_icmp_le_f dX11_part_34 47 (by decide) hc (j_pick [] rfl K), q⟩
theorem bX11_part_37 {h0 h : k_H} {Q : k_H → k_R → Prop} (q : Q (k_sk h 1 6) (.inr "java/lang/IllegalArgumentException")) : k_X (jX11_part G l h0) h 37 [] [] Q := by
  exact ⟨_, _, j_throwS kt_X11_161_163_165 dX11_part_37 dX11_part_40 dX11_part_41 dX11_part_43 dX11_part_46 (by decide) (Nat.le_of_ble_eq_true rfl), q⟩
theorem bX11_part_47 {h0 h : k_H} {Q : k_H → k_R → Prop} {x0 f1_1 f2_0 : Nat} {x1 x2 : Int32} {fs1 : List k_V} (o1 : h.1 x0 = some (k_o 14 fs1)) (g1_1 : fs1[1]? = some (vR (some f1_1))) {fs2 : List k_V} (o2 : h.1 f1_1 = some (k_o 9 fs2)) (g2_0 : fs2[0]? = some (vR (some f2_0))) (w : k_is h f2_0 2) {P : k_H → Option Nat → Prop} (c : k_ctr (tAL_get G l) [vR (some f2_0), vI x1] h P) (K : ∀ h1 v, P h1 v → k_X (jX11_part G l h0) h1 58 [(1, vI x1), (2, vI x2)] [vR v] Q) : k_X (jX11_part G l h0) h 47 [(0, vR (some x0)), (1, vI x1), (2, vI x2)] [] Q := by
  obtain ⟨h1, v, c, p⟩ := c
  obtain ⟨h', r, K, q⟩ := K h1 v p
  exact ⟨h', r, j_aload_n dX11_part_47 rfl rfl <| j_getf dX11_part_48 kf_X11_21 o1 g1_1 <| j_getf dX11_part_51 kf_X11_365 o2 g2_0 <| j_iload_n dX11_part_54 rfl rfl <| j_callV (v := some (vR v)) (as := [vI x1]) dX11_part_55 kc_X11_166 rfl rfl w (by decide) (Nat.le_of_ble_eq_true rfl) c (j_pick [1, 2] rfl K), q⟩
theorem bX11_part_58 {h0 h : k_H} {Q : k_H → k_R → Prop} {x1 x2 : Int32} {s0 : Nat} {fs1 : List k_V} (o1 : h.1 s0 = some (k_o 8 fs1)) (K1 : ¬ (x2 = 0) → k_X (jX11_part G l h0) h 71 [(1, vI x1), (2, vI x2), (3, vR (some s0))] [] Q) (K2 : x2 = 0 → k_X (jX11_part G l h0) h 66 [(3, vR (some s0))] [] Q) : k_X (jX11_part G l h0) h 58 [(1, vI x1), (2, vI x2)] [vR (some s0)] Q := by
  by_cases hc : x2 = 0
  · skip
    obtain ⟨h', r, K, q⟩ := K2 hc
    exact ⟨h', r, j_cast dX11_part_58 kk_X11_368 o1 <| j_astore_n dX11_part_61 rfl (by decide) rfl <| j_iload_n dX11_part_62 rfl rfl <| j_if_ne_f dX11_part_63 71 (by decide) hc (j_pick [2] rfl K), q⟩
  · skip
    obtain ⟨h', r, K, q⟩ := K1 hc
    exact ⟨h', r, j_cast dX11_part_58 kk_X11_368 o1 <| j_astore_n dX11_part_61 rfl (by decide) rfl <| j_iload_n dX11_part_62 rfl rfl <| j_if_ne_t (tgt := 71) dX11_part_63 (by decide) hc K, q⟩
theorem bX11_part_66 {h0 h : k_H} {Q : k_H → k_R → Prop} {x3 : Nat} {f1_1 : Int32} {fs1 : List k_V} (o1 : h.1 x3 = some (k_o 8 fs1)) (g1_1 : fs1[1]? = some (vI f1_1)) (q : Q h (.inl (some (vI f1_1)))) : k_X (jX11_part G l h0) h 66 [(3, vR (some x3))] [] Q := by
  exact ⟨_, _, j_aload_n dX11_part_66 rfl rfl <| j_getf dX11_part_67 kf_X11_370 o1 g1_1 <| j_iret dX11_part_70 rfl, q⟩
theorem bX11_part_71 {h0 h : k_H} {Q : k_H → k_R → Prop} {x1 x2 : Int32} {x3 : Option Nat} (K1 : ¬ (x2 = 1) → k_X (jX11_part G l h0) h 81 [(1, vI x1), (2, vI x2), (3, vR x3)] [] Q) (K2 : x2 = 1 → k_X (jX11_part G l h0) h 76 [(3, vR x3)] [] Q) : k_X (jX11_part G l h0) h 71 [(1, vI x1), (2, vI x2), (3, vR x3)] [] Q := by
  by_cases hc : x2 = 1
  · skip
    obtain ⟨h', r, K, q⟩ := K2 hc
    exact ⟨h', r, j_iload_n dX11_part_71 rfl rfl <| j_iconst (v := 1) dX11_part_72 (by decide) <| j_icmp_ne_f dX11_part_73 81 (by decide) hc (j_pick [2] rfl K), q⟩
  · skip
    obtain ⟨h', r, K, q⟩ := K1 hc
    exact ⟨h', r, j_iload_n dX11_part_71 rfl rfl <| j_iconst (v := 1) dX11_part_72 (by decide) <| j_icmp_ne_t (tgt := 81) dX11_part_73 (by decide) hc K, q⟩
theorem bX11_part_76 {h0 h : k_H} {Q : k_H → k_R → Prop} {x3 : Nat} {f1_2 : Int32} {fs1 : List k_V} (o1 : h.1 x3 = some (k_o 8 fs1)) (g1_2 : fs1[2]? = some (vI f1_2)) (q : Q h (.inl (some (vI f1_2)))) : k_X (jX11_part G l h0) h 76 [(3, vR (some x3))] [] Q := by
  exact ⟨_, _, j_aload_n dX11_part_76 rfl rfl <| j_getf dX11_part_77 kf_X11_373 o1 g1_2 <| j_iret dX11_part_80 rfl, q⟩
theorem bX11_part_81 {h0 h : k_H} {Q : k_H → k_R → Prop} {x1 x2 : Int32} {x3 : Option Nat} (K1 : ¬ (x1 = 0) → k_X (jX11_part G l h0) h 90 [(2, vI x2), (3, vR x3)] [] Q) (K2 : x1 = 0 → k_X (jX11_part G l h0) h 85 [] [] Q) : k_X (jX11_part G l h0) h 81 [(1, vI x1), (2, vI x2), (3, vR x3)] [] Q := by
  by_cases hc : x1 = 0
  · skip
    obtain ⟨h', r, K, q⟩ := K2 hc
    exact ⟨h', r, j_iload_n dX11_part_81 rfl rfl <| j_if_ne_f dX11_part_82 90 (by decide) hc (j_pick [] rfl K), q⟩
  · skip
    obtain ⟨h', r, K, q⟩ := K1 hc
    exact ⟨h', r, j_iload_n dX11_part_81 rfl rfl <| j_if_ne_t (tgt := 90) dX11_part_82 (by decide) hc (j_pick [1, 2] rfl K), q⟩
theorem bX11_part_85 {h0 h : k_H} {Q : k_H → k_R → Prop} (K : k_X (jX11_part G l h0) h 100 [] [vI (-2147483648)] Q) : k_X (jX11_part G l h0) h 85 [] [] Q := by
  obtain ⟨h', r, K, q⟩ := K
  exact ⟨h', r, j_ldc (v := (-2147483648)) dX11_part_85 ki_X11_62 <| j_goto (tgt := 100) dX11_part_87 (by decide) <| K, q⟩
theorem bX11_part_90 {h0 h : k_H} {Q : k_H → k_R → Prop} {x2 : Int32} {x3 : Nat} {f1_0 : Int64} {fs1 : List k_V} (o1 : h.1 x3 = some (k_o 8 fs1)) (g1_0 : fs1[0]? = some (vJ f1_0)) {P : k_H → Int32 → Prop} (c : k_cti (tX11_numberOf G l) [vJ f1_0, vI (x2 - 2)] h P) (K : ∀ h1 v, P h1 v → k_X (jX11_part G l h0) h1 100 [] [vI v] Q) : k_X (jX11_part G l h0) h 90 [(2, vI x2), (3, vR (some x3))] [] Q := by
  obtain ⟨h1, v, c, p⟩ := c
  obtain ⟨h', r, K, q⟩ := K h1 v p
  exact ⟨h', r, j_aload_n dX11_part_90 rfl rfl <| j_getf dX11_part_91 kf_X11_376 o1 g1_0 <| j_iload_n dX11_part_94 rfl rfl <| j_iconst (v := 2) dX11_part_95 (by decide) <| j_isub dX11_part_96 <| j_callS (v := some (vI v)) (as := [vJ f1_0, vI (x2 - 2)]) dX11_part_97 kc_X11_176 rfl rfl (by decide) (Nat.le_of_ble_eq_true rfl) c (j_pick [] rfl K), q⟩
theorem bX11_part_100 {h0 h : k_H} {Q : k_H → k_R → Prop} {s0 : Int32} (q : Q h (.inl (some (vI s0)))) : k_X (jX11_part G l h0) h 100 [] [vI s0] Q := by
  exact ⟨_, _, j_iret dX11_part_100 rfl, q⟩
theorem eX11_mark {G : k_G} {l : Launch} (hfl : l.flags = flags0) {h : k_H} {Q : k_H → k_R → Prop} {x0 : Nat} (K : k_X (jX11_mark G l h) h 0 [(0, vR (some x0))] [] Q) : k_ct (tX11_mark G l) [vR (some x0)] h Q := by
  obtain ⟨h', r, K, q⟩ := K
  exact ⟨h', r, k_CtOf (by decide +kernel) (Nat.le_of_ble_eq_true rfl) K hfl, q⟩

theorem bX11_mark_0 {h0 h : k_H} {Q : k_H → k_R → Prop} {x0 : Nat} {f1_8 : Int32} {fs1 : List k_V} (o1 : h.1 x0 = some (k_o 14 fs1)) (g1_8 : fs1[8]? = some (vI f1_8)) (K1 : f1_8 < 0 → k_X (jX11_mark G l h0) h 19 [] [] Q) (K2 : ¬ (f1_8 < 0) → k_X (jX11_mark G l h0) h 7 [(0, vR (some x0))] [] Q) : k_X (jX11_mark G l h0) h 0 [(0, vR (some x0))] [] Q := by
  by_cases hc : f1_8 < 0
  · skip
    obtain ⟨h', r, K, q⟩ := K1 hc
    exact ⟨h', r, j_aload_n dX11_mark_0 rfl rfl <| j_getf dX11_mark_1 kf_X11_52 o1 g1_8 <| j_if_lt_t (tgt := 19) dX11_mark_4 (by decide) hc (j_pick [] rfl K), q⟩
  · skip
    obtain ⟨h', r, K, q⟩ := K2 hc
    exact ⟨h', r, j_aload_n dX11_mark_0 rfl rfl <| j_getf dX11_mark_1 kf_X11_52 o1 g1_8 <| j_if_lt_f dX11_mark_4 19 (by decide) hc K, q⟩
theorem bX11_mark_7 {h0 h : k_H} {Q : k_H → k_R → Prop} {x0 f1_7 : Nat} {f1_8 : Int32} {fs1 : List k_V} (o1 : h.1 x0 = some (k_o 14 fs1)) (g1_8 : fs1[8]? = some (vI f1_8)) (g1_7 : fs1[7]? = some (vR (some f1_7))) {n2 : Nat} {w2 : Nat → Int32} (o2 : h.1 f1_7 = some (k_i n2 w2)) (K1 : f1_8 < (nI n2) → k_X (jX11_mark G l h0) h 30 [(0, vR (some x0))] [] Q) (K2 : ¬ (f1_8 < (nI n2)) → k_X (jX11_mark G l h0) h 19 [] [] Q) : k_X (jX11_mark G l h0) h 7 [(0, vR (some x0))] [] Q := by
  by_cases hc : f1_8 < (nI n2)
  · skip
    obtain ⟨h', r, K, q⟩ := K1 hc
    exact ⟨h', r, j_aload_n dX11_mark_7 rfl rfl <| j_getf dX11_mark_8 kf_X11_52 o1 g1_8 <| j_aload_n dX11_mark_11 rfl rfl <| j_getf dX11_mark_12 kf_X11_48 o1 g1_7 <| j_alen dX11_mark_15 o2 <| j_icmp_lt_t (tgt := 30) dX11_mark_16 (by decide) hc K, q⟩
  · skip
    obtain ⟨h', r, K, q⟩ := K2 hc
    exact ⟨h', r, j_aload_n dX11_mark_7 rfl rfl <| j_getf dX11_mark_8 kf_X11_52 o1 g1_8 <| j_aload_n dX11_mark_11 rfl rfl <| j_getf dX11_mark_12 kf_X11_48 o1 g1_7 <| j_alen dX11_mark_15 o2 <| j_icmp_lt_f dX11_mark_16 30 (by decide) hc (j_pick [] rfl K), q⟩
theorem bX11_mark_19 {h0 h : k_H} {Q : k_H → k_R → Prop} (q : Q (k_sk h 1 6) (.inr "java/lang/IllegalStateException")) : k_X (jX11_mark G l h0) h 19 [] [] Q := by
  exact ⟨_, _, j_throwSW kt_X11_119_379_123 dX11_mark_19 dX11_mark_22 dX11_mark_23 dX11_mark_26 dX11_mark_29 (by decide) (Nat.le_of_ble_eq_true rfl), q⟩
theorem bX11_mark_30 {h0 h : k_H} {Q : k_H → k_R → Prop} {x0 f1_7 f1_0 : Nat} {f1_8 f2_6 : Int32} {fs1 : List k_V} (o1 : h.1 x0 = some (k_o 14 fs1)) (g1_7 : fs1[7]? = some (vR (some f1_7))) (g1_8 : fs1[8]? = some (vI f1_8)) (g1_0 : fs1[0]? = some (vR (some f1_0))) {fs2 : List k_V} (o2 : h.1 f1_0 = some (k_o 11 fs2)) (g2_6 : fs2[6]? = some (vI f2_6)) {n3 : Nat} {w3 : Nat → Int32} (o3 : h.1 f1_7 = some (k_i n3 w3)) (y4 : vp_in f1_8 n3) (K : k_X (jX11_mark G l h0) (k_up h f1_7 (k_i n3 (va_up w3 (f1_8).toNatClampNeg f2_6))) 46 [(0, vR (some x0))] [] Q) : k_X (jX11_mark G l h0) h 30 [(0, vR (some x0))] [] Q := by
  obtain ⟨h', r, K, q⟩ := K
  exact ⟨h', r, j_aload_n dX11_mark_30 rfl rfl <| j_getf dX11_mark_31 kf_X11_48 o1 g1_7 <| j_aload_n dX11_mark_34 rfl rfl <| j_getf dX11_mark_35 kf_X11_52 o1 g1_8 <| j_aload_n dX11_mark_38 rfl rfl <| j_getf dX11_mark_39 kf_X11_14 o1 g1_0 <| j_getf dX11_mark_42 kf_X11_85 o2 g2_6 <| j_iast dX11_mark_45 o3 y4 <| K, q⟩
theorem bX11_mark_46 {h0 h : k_H} {Q : k_H → k_R → Prop} {x0 : Nat} {f1_8 : Int32} {fs1 : List k_V} (o1 : h.1 x0 = some (k_o 14 fs1)) (g1_8 : fs1[8]? = some (vI f1_8)) (z1 : fs1.length = 13) (K : k_X (jX11_mark G l h0) (k_up h x0 (k_o 14 (fs1.set 8 (vI (f1_8 + 1))))) 56 [(0, vR (some x0))] [] Q) : k_X (jX11_mark G l h0) h 46 [(0, vR (some x0))] [] Q := by
  obtain ⟨h', r, K, q⟩ := K
  exact ⟨h', r, j_aload_n dX11_mark_46 rfl rfl <| j_dup dX11_mark_47 rfl <| j_getf dX11_mark_48 kf_X11_52 o1 g1_8 <| j_iconst (v := 1) dX11_mark_51 (by decide) <| j_iadd dX11_mark_52 <| j_putf dX11_mark_53 kp_X11_52 o1 (k_ln z1 (by decide)) (k_fit_i _) rfl <| K, q⟩
theorem bX11_mark_56 {h0 h : k_H} {Q : k_H → k_R → Prop} {x0 : Nat} {f1_8 : Int32} {fs1 : List k_V} (o1 : h.1 x0 = some (k_o 14 fs1)) (g1_8 : fs1[8]? = some (vI f1_8)) (q : Q h (.inl (some (vI (f1_8 - 1))))) : k_X (jX11_mark G l h0) h 56 [(0, vR (some x0))] [] Q := by
  exact ⟨_, _, j_aload_n dX11_mark_56 rfl rfl <| j_getf dX11_mark_57 kf_X11_52 o1 g1_8 <| j_iconst (v := 1) dX11_mark_60 (by decide) <| j_isub dX11_mark_61 <| j_iret dX11_mark_62 rfl, q⟩
theorem eX11_bringBack {G : k_G} {l : Launch} (hfl : l.flags = flags0) {h : k_H} {Q : k_H → k_R → Prop} {x0 : Nat} {x1 : Int32} (K : k_X (jX11_bringBack G l h) h 0 [(0, vR (some x0)), (1, vI x1)] [] Q) : k_ct (tX11_bringBack G l) [vR (some x0), vI x1] h Q := by
  obtain ⟨h', r, K, q⟩ := K
  exact ⟨h', r, k_CtOf (by decide +kernel) (Nat.le_of_ble_eq_true rfl) K hfl, q⟩

theorem bX11_bringBack_0 {h0 h : k_H} {Q : k_H → k_R → Prop} {x0 : Nat} {x1 : Int32} (K1 : x1 < 0 → k_X (jX11_bringBack G l h0) h 21 [] [] Q) (K2 : ¬ (x1 < 0) → k_X (jX11_bringBack G l h0) h 4 [(0, vR (some x0)), (1, vI x1)] [] Q) : k_X (jX11_bringBack G l h0) h 0 [(0, vR (some x0)), (1, vI x1)] [] Q := by
  by_cases hc : x1 < 0
  · skip
    obtain ⟨h', r, K, q⟩ := K1 hc
    exact ⟨h', r, j_iload_n dX11_bringBack_0 rfl rfl <| j_if_lt_t (tgt := 21) dX11_bringBack_1 (by decide) hc (j_pick [] rfl K), q⟩
  · skip
    obtain ⟨h', r, K, q⟩ := K2 hc
    exact ⟨h', r, j_iload_n dX11_bringBack_0 rfl rfl <| j_if_lt_f dX11_bringBack_1 21 (by decide) hc K, q⟩
theorem bX11_bringBack_4 {h0 h : k_H} {Q : k_H → k_R → Prop} {x0 : Nat} {x1 f1_8 : Int32} {fs1 : List k_V} (o1 : h.1 x0 = some (k_o 14 fs1)) (g1_8 : fs1[8]? = some (vI f1_8)) (K1 : f1_8 ≤ x1 → k_X (jX11_bringBack G l h0) h 21 [] [] Q) (K2 : ¬ (f1_8 ≤ x1) → k_X (jX11_bringBack G l h0) h 12 [(0, vR (some x0)), (1, vI x1)] [] Q) : k_X (jX11_bringBack G l h0) h 4 [(0, vR (some x0)), (1, vI x1)] [] Q := by
  by_cases hc : f1_8 ≤ x1
  · skip
    obtain ⟨h', r, K, q⟩ := K1 hc
    exact ⟨h', r, j_iload_n dX11_bringBack_4 rfl rfl <| j_aload_n dX11_bringBack_5 rfl rfl <| j_getf dX11_bringBack_6 kf_X11_52 o1 g1_8 <| j_icmp_ge_t (tgt := 21) dX11_bringBack_9 (by decide) hc (j_pick [] rfl K), q⟩
  · skip
    obtain ⟨h', r, K, q⟩ := K2 hc
    exact ⟨h', r, j_iload_n dX11_bringBack_4 rfl rfl <| j_aload_n dX11_bringBack_5 rfl rfl <| j_getf dX11_bringBack_6 kf_X11_52 o1 g1_8 <| j_icmp_ge_f dX11_bringBack_9 21 (by decide) hc K, q⟩
theorem bX11_bringBack_12 {h0 h : k_H} {Q : k_H → k_R → Prop} {x0 f1_7 : Nat} {x1 : Int32} {fs1 : List k_V} (o1 : h.1 x0 = some (k_o 14 fs1)) (g1_7 : fs1[7]? = some (vR (some f1_7))) {n2 : Nat} {w2 : Nat → Int32} (o2 : h.1 f1_7 = some (k_i n2 w2)) (K1 : x1 < (nI n2) → k_X (jX11_bringBack G l h0) h 32 [(0, vR (some x0)), (1, vI x1)] [] Q) (K2 : ¬ (x1 < (nI n2)) → k_X (jX11_bringBack G l h0) h 21 [] [] Q) : k_X (jX11_bringBack G l h0) h 12 [(0, vR (some x0)), (1, vI x1)] [] Q := by
  by_cases hc : x1 < (nI n2)
  · skip
    obtain ⟨h', r, K, q⟩ := K1 hc
    exact ⟨h', r, j_iload_n dX11_bringBack_12 rfl rfl <| j_aload_n dX11_bringBack_13 rfl rfl <| j_getf dX11_bringBack_14 kf_X11_48 o1 g1_7 <| j_alen dX11_bringBack_17 o2 <| j_icmp_lt_t (tgt := 32) dX11_bringBack_18 (by decide) hc K, q⟩
  · skip
    obtain ⟨h', r, K, q⟩ := K2 hc
    exact ⟨h', r, j_iload_n dX11_bringBack_12 rfl rfl <| j_aload_n dX11_bringBack_13 rfl rfl <| j_getf dX11_bringBack_14 kf_X11_48 o1 g1_7 <| j_alen dX11_bringBack_17 o2 <| j_icmp_lt_f dX11_bringBack_18 32 (by decide) hc (j_pick [] rfl K), q⟩
theorem bX11_bringBack_21 {h0 h : k_H} {Q : k_H → k_R → Prop} (q : Q (k_sk h 1 6) (.inr "java/lang/IndexOutOfBoundsException")) : k_X (jX11_bringBack G l h0) h 21 [] [] Q := by
  exact ⟨_, _, j_throwSW kt_X11_156_381_160 dX11_bringBack_21 dX11_bringBack_24 dX11_bringBack_25 dX11_bringBack_28 dX11_bringBack_31 (by decide) (Nat.le_of_ble_eq_true rfl), q⟩
theorem bX11_bringBack_32 {h0 h : k_H} {Q : k_H → k_R → Prop} {x0 f1_7 f1_0 : Nat} {x1 : Int32} {fs1 : List k_V} (o1 : h.1 x0 = some (k_o 14 fs1)) (g1_7 : fs1[7]? = some (vR (some f1_7))) {n2 : Nat} {w2 : Nat → Int32} (o2 : h.1 f1_7 = some (k_i n2 w2)) (y3 : vp_in x1 n2) (g1_0 : fs1[0]? = some (vR (some f1_0))) (w : k_is h f1_0 11) {P : k_H → Int32 → Prop} (c : k_cti (tX8_countDiffering G l) [vR (some f1_0), vI (w2 (x1).toNatClampNeg)] h P) (K : ∀ h1 v, P h1 v → k_X (jX11_bringBack G l h0) h1 47 [(0, vR (some x0)), (2, vI (w2 (x1).toNatClampNeg))] [vI v] Q) : k_X (jX11_bringBack G l h0) h 32 [(0, vR (some x0)), (1, vI x1)] [] Q := by
  obtain ⟨h1, v, c, p⟩ := c
  obtain ⟨h', r, K, q⟩ := K h1 v p
  exact ⟨h', r, j_aload_n dX11_bringBack_32 rfl rfl <| j_getf dX11_bringBack_33 kf_X11_48 o1 g1_7 <| j_iload_n dX11_bringBack_36 rfl rfl <| j_iald dX11_bringBack_37 o2 y3 <| j_istore_n dX11_bringBack_38 rfl (by decide) rfl <| j_aload_n dX11_bringBack_39 rfl rfl <| j_getf dX11_bringBack_40 kf_X11_14 o1 g1_0 <| j_iload_n dX11_bringBack_43 rfl rfl <| j_callV (v := some (vI v)) (as := [vI (w2 (x1).toNatClampNeg)]) dX11_bringBack_44 kc_X11_383 rfl rfl w (by decide) (Nat.le_of_ble_eq_true rfl) c (j_pick [0, 2] rfl K), q⟩
theorem bX11_bringBack_47 {h0 h : k_H} {Q : k_H → k_R → Prop} {x0 : Nat} {x2 s0 : Int32} (K1 : s0 ≤ 0 → k_X (jX11_bringBack G l h0) h 72 [(3, vI s0)] [] Q) (K2 : ¬ (s0 ≤ 0) → k_X (jX11_bringBack G l h0) h 52 [(0, vR (some x0)), (2, vI x2), (3, vI s0)] [] Q) : k_X (jX11_bringBack G l h0) h 47 [(0, vR (some x0)), (2, vI x2)] [vI s0] Q := by
  by_cases hc : s0 ≤ 0
  · skip
    obtain ⟨h', r, K, q⟩ := K1 hc
    exact ⟨h', r, j_istore_n dX11_bringBack_47 rfl (by decide) rfl <| j_iload_n dX11_bringBack_48 rfl rfl <| j_if_le_t (tgt := 72) dX11_bringBack_49 (by decide) hc (j_pick [2] rfl K), q⟩
  · skip
    obtain ⟨h', r, K, q⟩ := K2 hc
    exact ⟨h', r, j_istore_n dX11_bringBack_47 rfl (by decide) rfl <| j_iload_n dX11_bringBack_48 rfl rfl <| j_if_le_f dX11_bringBack_49 72 (by decide) hc K, q⟩
theorem bX11_bringBack_52 {h0 h : k_H} {Q : k_H → k_R → Prop} {x0 f1_0 : Nat} {x2 x3 : Int32} {fs1 : List k_V} (o1 : h.1 x0 = some (k_o 14 fs1)) (g1_0 : fs1[0]? = some (vR (some f1_0))) (w : k_is h f1_0 11) {P : k_H → Prop} (c : k_ctv (tX8_advance G l) [vR (some f1_0), vI 1] h P) (K : ∀ h1, P h1 → k_X (jX11_bringBack G l h0) h1 60 [(0, vR (some x0)), (2, vI x2), (3, vI x3)] [] Q) : k_X (jX11_bringBack G l h0) h 52 [(0, vR (some x0)), (2, vI x2), (3, vI x3)] [] Q := by
  obtain ⟨h1, c, p⟩ := c
  obtain ⟨h', r, K, q⟩ := K h1 p
  exact ⟨h', r, j_aload_n dX11_bringBack_52 rfl rfl <| j_getf dX11_bringBack_53 kf_X11_14 o1 g1_0 <| j_iconst (v := 1) dX11_bringBack_56 (by decide) <| j_callV (v := none) (as := [vI 1]) dX11_bringBack_57 kc_X11_223 rfl rfl w (by decide) (Nat.le_of_ble_eq_true rfl) c K, q⟩
theorem bX11_bringBack_60 {h0 h : k_H} {Q : k_H → k_R → Prop} {x0 f1_0 : Nat} {x2 x3 : Int32} {fs1 : List k_V} (o1 : h.1 x0 = some (k_o 14 fs1)) (g1_0 : fs1[0]? = some (vR (some f1_0))) (w : k_is h f1_0 11) {P : k_H → Prop} (c : k_ctv (tX8_restore G l) [vR (some f1_0), vI x2] h P) (K : ∀ h1, P h1 → k_X (jX11_bringBack G l h0) h1 68 [(0, vR (some x0)), (3, vI x3)] [] Q) : k_X (jX11_bringBack G l h0) h 60 [(0, vR (some x0)), (2, vI x2), (3, vI x3)] [] Q := by
  obtain ⟨h1, c, p⟩ := c
  obtain ⟨h', r, K, q⟩ := K h1 p
  exact ⟨h', r, j_aload_n dX11_bringBack_60 rfl rfl <| j_getf dX11_bringBack_61 kf_X11_14 o1 g1_0 <| j_iload_n dX11_bringBack_64 rfl rfl <| j_callV (v := none) (as := [vI x2]) dX11_bringBack_65 kc_X11_386 rfl rfl w (by decide) (Nat.le_of_ble_eq_true rfl) c (j_pick [0, 2] rfl K), q⟩
theorem bX11_bringBack_68 {h0 h : k_H} {Q : k_H → k_R → Prop} {x0 : Nat} {x3 : Int32} (w : k_is h x0 14) {P : k_H → Prop} (c : k_ctv (tX11_closeCommit G l) [vR (some x0)] h P) (K : ∀ h1, P h1 → k_X (jX11_bringBack G l h0) h1 72 [(3, vI x3)] [] Q) : k_X (jX11_bringBack G l h0) h 68 [(0, vR (some x0)), (3, vI x3)] [] Q := by
  obtain ⟨h1, c, p⟩ := c
  obtain ⟨h', r, K, q⟩ := K h1 p
  exact ⟨h', r, j_aload_n dX11_bringBack_68 rfl rfl <| j_callV (v := none) (as := []) dX11_bringBack_69 kc_X11_329 rfl rfl w (by decide) (Nat.le_of_ble_eq_true rfl) c (j_pick [1] rfl K), q⟩
theorem bX11_bringBack_72 {h0 h : k_H} {Q : k_H → k_R → Prop} {x3 : Int32} (q : Q h (.inl (some (vI x3)))) : k_X (jX11_bringBack G l h0) h 72 [(3, vI x3)] [] Q := by
  exact ⟨_, _, j_iload_n dX11_bringBack_72 rfl rfl <| j_iret dX11_bringBack_73 rfl, q⟩
theorem eX11_transactionAt {G : k_G} {l : Launch} (hfl : l.flags = flags0) {h : k_H} {Q : k_H → k_R → Prop} {x0 : Nat} {x1 : Int32} (K : k_X (jX11_transactionAt G l h) h 0 [(0, vR (some x0)), (1, vI x1)] [] Q) : k_ct (tX11_transactionAt G l) [vR (some x0), vI x1] h Q := by
  obtain ⟨h', r, K, q⟩ := K
  exact ⟨h', r, k_CtOf (by decide +kernel) (Nat.le_of_ble_eq_true rfl) K hfl, q⟩

theorem bX11_transactionAt_0 {h0 h : k_H} {Q : k_H → k_R → Prop} {x0 : Nat} {x1 : Int32} (K1 : x1 < 0 → k_X (jX11_transactionAt G l h0) h 15 [] [] Q) (K2 : ¬ (x1 < 0) → k_X (jX11_transactionAt G l h0) h 4 [(0, vR (some x0)), (1, vI x1)] [] Q) : k_X (jX11_transactionAt G l h0) h 0 [(0, vR (some x0)), (1, vI x1)] [] Q := by
  by_cases hc : x1 < 0
  · skip
    obtain ⟨h', r, K, q⟩ := K1 hc
    exact ⟨h', r, j_iload_n dX11_transactionAt_0 rfl rfl <| j_if_lt_t (tgt := 15) dX11_transactionAt_1 (by decide) hc (j_pick [] rfl K), q⟩
  · skip
    obtain ⟨h', r, K, q⟩ := K2 hc
    exact ⟨h', r, j_iload_n dX11_transactionAt_0 rfl rfl <| j_if_lt_f dX11_transactionAt_1 15 (by decide) hc K, q⟩
theorem bX11_transactionAt_4 {h0 h : k_H} {Q : k_H → k_R → Prop} {x0 f1_3 : Nat} {x1 : Int32} {fs1 : List k_V} (o1 : h.1 x0 = some (k_o 14 fs1)) (g1_3 : fs1[3]? = some (vR (some f1_3))) (w : k_is h f1_3 2) {P : k_H → Int32 → Prop} (c : k_cti (tAL_size G l) [vR (some f1_3)] h P) (K : ∀ h1 v, P h1 v → k_X (jX11_transactionAt G l h0) h1 12 [(0, vR (some x0)), (1, vI x1)] [vI v, vI x1] Q) : k_X (jX11_transactionAt G l h0) h 4 [(0, vR (some x0)), (1, vI x1)] [] Q := by
  obtain ⟨h1, v, c, p⟩ := c
  obtain ⟨h', r, K, q⟩ := K h1 v p
  exact ⟨h', r, j_iload_n dX11_transactionAt_4 rfl rfl <| j_aload_n dX11_transactionAt_5 rfl rfl <| j_getf dX11_transactionAt_6 kf_X11_35 o1 g1_3 <| j_callV (v := some (vI v)) (as := []) dX11_transactionAt_9 kc_X11_153 rfl rfl w (by decide) (Nat.le_of_ble_eq_true rfl) c K, q⟩
theorem bX11_transactionAt_12 {h0 h : k_H} {Q : k_H → k_R → Prop} {x0 : Nat} {x1 s0 s1 : Int32} (K1 : s0 < s1 → k_X (jX11_transactionAt G l h0) h 26 [(0, vR (some x0)), (1, vI x1)] [] Q) (K2 : ¬ (s0 < s1) → k_X (jX11_transactionAt G l h0) h 15 [] [] Q) : k_X (jX11_transactionAt G l h0) h 12 [(0, vR (some x0)), (1, vI x1)] [vI s1, vI s0] Q := by
  by_cases hc : s0 < s1
  · skip
    obtain ⟨h', r, K, q⟩ := K1 hc
    exact ⟨h', r, j_icmp_lt_t (tgt := 26) dX11_transactionAt_12 (by decide) hc K, q⟩
  · skip
    obtain ⟨h', r, K, q⟩ := K2 hc
    exact ⟨h', r, j_icmp_lt_f dX11_transactionAt_12 26 (by decide) hc (j_pick [] rfl K), q⟩
theorem bX11_transactionAt_15 {h0 h : k_H} {Q : k_H → k_R → Prop} (q : Q (k_sk h 1 6) (.inr "java/lang/IndexOutOfBoundsException")) : k_X (jX11_transactionAt G l h0) h 15 [] [] Q := by
  exact ⟨_, _, j_throwSW kt_X11_156_389_160 dX11_transactionAt_15 dX11_transactionAt_18 dX11_transactionAt_19 dX11_transactionAt_22 dX11_transactionAt_25 (by decide) (Nat.le_of_ble_eq_true rfl), q⟩
theorem bX11_transactionAt_26 {h0 h : k_H} {Q : k_H → k_R → Prop} {x0 f1_3 : Nat} {x1 : Int32} {fs1 : List k_V} (o1 : h.1 x0 = some (k_o 14 fs1)) (g1_3 : fs1[3]? = some (vR (some f1_3))) (w : k_is h f1_3 2) {P : k_H → Option Nat → Prop} (c : k_ctr (tAL_get G l) [vR (some f1_3), vI x1] h P) (K : ∀ h1 v, P h1 v → k_X (jX11_transactionAt G l h0) h1 34 [] [vR v] Q) : k_X (jX11_transactionAt G l h0) h 26 [(0, vR (some x0)), (1, vI x1)] [] Q := by
  obtain ⟨h1, v, c, p⟩ := c
  obtain ⟨h', r, K, q⟩ := K h1 v p
  exact ⟨h', r, j_aload_n dX11_transactionAt_26 rfl rfl <| j_getf dX11_transactionAt_27 kf_X11_35 o1 g1_3 <| j_iload_n dX11_transactionAt_30 rfl rfl <| j_callV (v := some (vR v)) (as := [vI x1]) dX11_transactionAt_31 kc_X11_166 rfl rfl w (by decide) (Nat.le_of_ble_eq_true rfl) c (j_pick [] rfl K), q⟩
theorem bX11_transactionAt_34 {h0 h : k_H} {Q : k_H → k_R → Prop} {s0 : Nat} {fs1 : List k_V} (o1 : h.1 s0 = some (k_o 12 fs1)) (q : Q h (.inl (some (vR (some s0))))) : k_X (jX11_transactionAt G l h0) h 34 [] [vR (some s0)] Q := by
  exact ⟨_, _, j_cast dX11_transactionAt_34 kk_X11_69 o1 <| j_aret dX11_transactionAt_37 rfl (Or.inl ⟨_, rfl⟩), q⟩
theorem eX11_directoryAt {G : k_G} {l : Launch} (hfl : l.flags = flags0) {h : k_H} {Q : k_H → k_R → Prop} {x0 : Nat} {x1 : Int32} (K : k_X (jX11_directoryAt G l h) h 0 [(0, vR (some x0)), (1, vI x1)] [] Q) : k_ct (tX11_directoryAt G l) [vR (some x0), vI x1] h Q := by
  obtain ⟨h', r, K, q⟩ := K
  exact ⟨h', r, k_CtOf (by decide +kernel) (Nat.le_of_ble_eq_true rfl) K hfl, q⟩

theorem bX11_directoryAt_0 {h0 h : k_H} {Q : k_H → k_R → Prop} {x0 : Nat} {x1 : Int32} (w : k_is h x0 14) {P : k_H → Option Nat → Prop} (c : k_ctr (tX11_findDirectory G l) [vR (some x0), vI x1] h P) (K : ∀ h1 v, P h1 v → k_X (jX11_directoryAt G l h0) h1 5 [] [vR v] Q) : k_X (jX11_directoryAt G l h0) h 0 [(0, vR (some x0)), (1, vI x1)] [] Q := by
  obtain ⟨h1, v, c, p⟩ := c
  obtain ⟨h', r, K, q⟩ := K h1 v p
  exact ⟨h', r, j_aload_n dX11_directoryAt_0 rfl rfl <| j_iload_n dX11_directoryAt_1 rfl rfl <| j_callV (v := some (vR v)) (as := [vI x1]) dX11_directoryAt_2 kc_X11_391 rfl rfl w (by decide) (Nat.le_of_ble_eq_true rfl) c (j_pick [] rfl K), q⟩
theorem bX11_directoryAt_5 {h0 h : k_H} {Q : k_H → k_R → Prop} {s0 : Option Nat} (K1 : s0 = none → k_X (jX11_directoryAt G l h0) h 10 [] [] Q) (K2 : ∀ a, s0 = some a → k_X (jX11_directoryAt G l h0) h 21 [(2, vR s0)] [] Q) : k_X (jX11_directoryAt G l h0) h 5 [] [vR s0] Q := by
  rcases e9 : s0 with _ | a
  · obtain ⟨h', r, K, q⟩ := K1 e9
    subst e9
    exact ⟨h', r, j_astore_n dX11_directoryAt_5 rfl (by decide) rfl <| j_aload_n dX11_directoryAt_6 rfl rfl <| j_ifnonnull_f dX11_directoryAt_7 (j_pick [] rfl K), q⟩
  · obtain ⟨h', r, K, q⟩ := K2 a e9
    subst e9
    exact ⟨h', r, j_astore_n dX11_directoryAt_5 rfl (by decide) rfl <| j_aload_n dX11_directoryAt_6 rfl rfl <| j_ifnonnull_t (tgt := 21) dX11_directoryAt_7 (by decide) K, q⟩
theorem bX11_directoryAt_10 {h0 h : k_H} {Q : k_H → k_R → Prop} (q : Q (k_sk h 1 6) (.inr "java/lang/IndexOutOfBoundsException")) : k_X (jX11_directoryAt G l h0) h 10 [] [] Q := by
  exact ⟨_, _, j_throwSW kt_X11_156_394_160 dX11_directoryAt_10 dX11_directoryAt_13 dX11_directoryAt_14 dX11_directoryAt_17 dX11_directoryAt_20 (by decide) (Nat.le_of_ble_eq_true rfl), q⟩
theorem bX11_directoryAt_21 {h0 h : k_H} {Q : k_H → k_R → Prop} {x2 : Option Nat} (q : Q h (.inl (some (vR x2)))) : k_X (jX11_directoryAt G l h0) h 21 [(2, vR x2)] [] Q := by
  exact ⟨_, _, j_aload_n dX11_directoryAt_21 rfl rfl <| j_aret dX11_directoryAt_22 rfl (Or.inl ⟨_, rfl⟩), q⟩
theorem eX11_requireIndex {G : k_G} {l : Launch} (hfl : l.flags = flags0) {h : k_H} {Q : k_H → k_R → Prop} {x0 : Int32} (K : k_X (jX11_requireIndex G l h) h 0 [(0, vI x0)] [] Q) : k_ct (tX11_requireIndex G l) [vI x0] h Q := by
  obtain ⟨h', r, K, q⟩ := K
  exact ⟨h', r, k_CtOf (by decide +kernel) (Nat.le_of_ble_eq_true rfl) K hfl, q⟩

theorem bX11_requireIndex_0 {h0 h : k_H} {Q : k_H → k_R → Prop} {x0 : Int32} (K1 : x0 < 0 → k_X (jX11_requireIndex G l h0) h 9 [] [] Q) (K2 : ¬ (x0 < 0) → k_X (jX11_requireIndex G l h0) h 4 [(0, vI x0)] [] Q) : k_X (jX11_requireIndex G l h0) h 0 [(0, vI x0)] [] Q := by
  by_cases hc : x0 < 0
  · skip
    obtain ⟨h', r, K, q⟩ := K1 hc
    exact ⟨h', r, j_iload_n dX11_requireIndex_0 rfl rfl <| j_if_lt_t (tgt := 9) dX11_requireIndex_1 (by decide) hc (j_pick [] rfl K), q⟩
  · skip
    obtain ⟨h', r, K, q⟩ := K2 hc
    exact ⟨h', r, j_iload_n dX11_requireIndex_0 rfl rfl <| j_if_lt_f dX11_requireIndex_1 9 (by decide) hc K, q⟩
theorem bX11_requireIndex_4 {h0 h : k_H} {Q : k_H → k_R → Prop} {x0 : Int32} (K1 : x0 < 3 → k_X (jX11_requireIndex G l h0) h 20 [] [] Q) (K2 : ¬ (x0 < 3) → k_X (jX11_requireIndex G l h0) h 9 [] [] Q) : k_X (jX11_requireIndex G l h0) h 4 [(0, vI x0)] [] Q := by
  by_cases hc : x0 < 3
  · skip
    obtain ⟨h', r, K, q⟩ := K1 hc
    exact ⟨h', r, j_iload_n dX11_requireIndex_4 rfl rfl <| j_iconst (v := 3) dX11_requireIndex_5 (by decide) <| j_icmp_lt_t (tgt := 20) dX11_requireIndex_6 (by decide) hc (j_pick [] rfl K), q⟩
  · skip
    obtain ⟨h', r, K, q⟩ := K2 hc
    exact ⟨h', r, j_iload_n dX11_requireIndex_4 rfl rfl <| j_iconst (v := 3) dX11_requireIndex_5 (by decide) <| j_icmp_lt_f dX11_requireIndex_6 20 (by decide) hc (j_pick [] rfl K), q⟩
theorem bX11_requireIndex_9 {h0 h : k_H} {Q : k_H → k_R → Prop} (q : Q (k_sk h 1 6) (.inr "java/lang/IndexOutOfBoundsException")) : k_X (jX11_requireIndex G l h0) h 9 [] [] Q := by
  exact ⟨_, _, j_throwSW kt_X11_156_396_160 dX11_requireIndex_9 dX11_requireIndex_12 dX11_requireIndex_13 dX11_requireIndex_16 dX11_requireIndex_19 (by decide) (Nat.le_of_ble_eq_true rfl), q⟩
theorem bX11_requireIndex_20 {h0 h : k_H} {Q : k_H → k_R → Prop} (q : Q h (.inl none)) : k_X (jX11_requireIndex G l h0) h 20 [] [] Q := by
  exact ⟨_, _, j_vret dX11_requireIndex_20 rfl, q⟩
theorem eX11_requireWorker {G : k_G} {l : Launch} (hfl : l.flags = flags0) {h : k_H} {Q : k_H → k_R → Prop} {x0 : Int32} (K : k_X (jX11_requireWorker G l h) h 0 [(0, vI x0)] [] Q) : k_ct (tX11_requireWorker G l) [vI x0] h Q := by
  obtain ⟨h', r, K, q⟩ := K
  exact ⟨h', r, k_CtOf (by decide +kernel) (Nat.le_of_ble_eq_true rfl) K hfl, q⟩

theorem bX11_requireWorker_0 {h0 h : k_H} {Q : k_H → k_R → Prop} {x0 : Int32} (K1 : x0 < 0 → k_X (jX11_requireWorker G l h0) h 9 [] [] Q) (K2 : ¬ (x0 < 0) → k_X (jX11_requireWorker G l h0) h 4 [(0, vI x0)] [] Q) : k_X (jX11_requireWorker G l h0) h 0 [(0, vI x0)] [] Q := by
  by_cases hc : x0 < 0
  · skip
    obtain ⟨h', r, K, q⟩ := K1 hc
    exact ⟨h', r, j_iload_n dX11_requireWorker_0 rfl rfl <| j_if_lt_t (tgt := 9) dX11_requireWorker_1 (by decide) hc (j_pick [] rfl K), q⟩
  · skip
    obtain ⟨h', r, K, q⟩ := K2 hc
    exact ⟨h', r, j_iload_n dX11_requireWorker_0 rfl rfl <| j_if_lt_f dX11_requireWorker_1 9 (by decide) hc K, q⟩
theorem bX11_requireWorker_4 {h0 h : k_H} {Q : k_H → k_R → Prop} {x0 : Int32} (K1 : x0 < 3 → k_X (jX11_requireWorker G l h0) h 20 [] [] Q) (K2 : ¬ (x0 < 3) → k_X (jX11_requireWorker G l h0) h 9 [] [] Q) : k_X (jX11_requireWorker G l h0) h 4 [(0, vI x0)] [] Q := by
  by_cases hc : x0 < 3
  · skip
    obtain ⟨h', r, K, q⟩ := K1 hc
    exact ⟨h', r, j_iload_n dX11_requireWorker_4 rfl rfl <| j_iconst (v := 3) dX11_requireWorker_5 (by decide) <| j_icmp_lt_t (tgt := 20) dX11_requireWorker_6 (by decide) hc (j_pick [] rfl K), q⟩
  · skip
    obtain ⟨h', r, K, q⟩ := K2 hc
    exact ⟨h', r, j_iload_n dX11_requireWorker_4 rfl rfl <| j_iconst (v := 3) dX11_requireWorker_5 (by decide) <| j_icmp_lt_f dX11_requireWorker_6 20 (by decide) hc (j_pick [] rfl K), q⟩
theorem bX11_requireWorker_9 {h0 h : k_H} {Q : k_H → k_R → Prop} (q : Q (k_sk h 1 6) (.inr "java/lang/IndexOutOfBoundsException")) : k_X (jX11_requireWorker G l h0) h 9 [] [] Q := by
  exact ⟨_, _, j_throwSW kt_X11_156_398_160 dX11_requireWorker_9 dX11_requireWorker_12 dX11_requireWorker_13 dX11_requireWorker_16 dX11_requireWorker_19 (by decide) (Nat.le_of_ble_eq_true rfl), q⟩
theorem bX11_requireWorker_20 {h0 h : k_H} {Q : k_H → k_R → Prop} (q : Q h (.inl none)) : k_X (jX11_requireWorker G l h0) h 20 [] [] Q := by
  exact ⟨_, _, j_vret dX11_requireWorker_20 rfl, q⟩
theorem eX11_requireKey {G : k_G} {l : Launch} (hfl : l.flags = flags0) {h : k_H} {Q : k_H → k_R → Prop} {x0 : Int32} {x1 : Int32} {x2 : Int32} (K : k_X (jX11_requireKey G l h) h 0 [(0, vI x0), (1, vI x1), (2, vI x2)] [] Q) : k_ct (tX11_requireKey G l) [vI x0, vI x1, vI x2] h Q := by
  obtain ⟨h', r, K, q⟩ := K
  exact ⟨h', r, k_CtOf (by decide +kernel) (Nat.le_of_ble_eq_true rfl) K hfl, q⟩

theorem bX11_requireKey_0 {h0 h : k_H} {Q : k_H → k_R → Prop} {x0 x1 x2 : Int32} {P : k_H → Int32 → Prop} (c : k_cti (tX11_isKey G l) [vI x0, vI x1, vI x2] h P) (K : ∀ h1 v, P h1 v → k_X (jX11_requireKey G l h0) h1 6 [] [vI v] Q) : k_X (jX11_requireKey G l h0) h 0 [(0, vI x0), (1, vI x1), (2, vI x2)] [] Q := by
  obtain ⟨h1, v, c, p⟩ := c
  obtain ⟨h', r, K, q⟩ := K h1 v p
  exact ⟨h', r, j_iload_n dX11_requireKey_0 rfl rfl <| j_iload_n dX11_requireKey_1 rfl rfl <| j_iload_n dX11_requireKey_2 rfl rfl <| j_callS (v := some (vI v)) (as := [vI x0, vI x1, vI x2]) dX11_requireKey_3 kc_X11_400 rfl rfl (by decide) (Nat.le_of_ble_eq_true rfl) c (j_pick [] rfl K), q⟩
theorem bX11_requireKey_6 {h0 h : k_H} {Q : k_H → k_R → Prop} {s0 : Int32} (K1 : ¬ (s0 = 0) → k_X (jX11_requireKey G l h0) h 20 [] [] Q) (K2 : s0 = 0 → k_X (jX11_requireKey G l h0) h 9 [] [] Q) : k_X (jX11_requireKey G l h0) h 6 [] [vI s0] Q := by
  by_cases hc : s0 = 0
  · skip
    obtain ⟨h', r, K, q⟩ := K2 hc
    exact ⟨h', r, j_if_ne_f dX11_requireKey_6 20 (by decide) hc K, q⟩
  · skip
    obtain ⟨h', r, K, q⟩ := K1 hc
    exact ⟨h', r, j_if_ne_t (tgt := 20) dX11_requireKey_6 (by decide) hc K, q⟩
theorem bX11_requireKey_9 {h0 h : k_H} {Q : k_H → k_R → Prop} (q : Q (k_sk h 1 6) (.inr "java/lang/IllegalArgumentException")) : k_X (jX11_requireKey G l h0) h 9 [] [] Q := by
  exact ⟨_, _, j_throwSW kt_X11_161_404_165 dX11_requireKey_9 dX11_requireKey_12 dX11_requireKey_13 dX11_requireKey_16 dX11_requireKey_19 (by decide) (Nat.le_of_ble_eq_true rfl), q⟩
theorem bX11_requireKey_20 {h0 h : k_H} {Q : k_H → k_R → Prop} (q : Q h (.inl none)) : k_X (jX11_requireKey G l h0) h 20 [] [] Q := by
  exact ⟨_, _, j_vret dX11_requireKey_20 rfl, q⟩
theorem eX11_requireRange {G : k_G} {l : Launch} (hfl : l.flags = flags0) {h : k_H} {Q : k_H → k_R → Prop} {x0 : Int32} {x1 : Int32} (K : k_X (jX11_requireRange G l h) h 0 [(0, vI x0), (1, vI x1)] [] Q) : k_ct (tX11_requireRange G l) [vI x0, vI x1] h Q := by
  obtain ⟨h', r, K, q⟩ := K
  exact ⟨h', r, k_CtOf (by decide +kernel) (Nat.le_of_ble_eq_true rfl) K hfl, q⟩

theorem bX11_requireRange_0 {h0 h : k_H} {Q : k_H → k_R → Prop} {x0 x1 : Int32} {P : k_H → Int32 → Prop} (c : k_cti (tX11_isRange G l) [vI x0, vI x1] h P) (K : ∀ h1 v, P h1 v → k_X (jX11_requireRange G l h0) h1 5 [] [vI v] Q) : k_X (jX11_requireRange G l h0) h 0 [(0, vI x0), (1, vI x1)] [] Q := by
  obtain ⟨h1, v, c, p⟩ := c
  obtain ⟨h', r, K, q⟩ := K h1 v p
  exact ⟨h', r, j_iload_n dX11_requireRange_0 rfl rfl <| j_iload_n dX11_requireRange_1 rfl rfl <| j_callS (v := some (vI v)) (as := [vI x0, vI x1]) dX11_requireRange_2 kc_X11_406 rfl rfl (by decide) (Nat.le_of_ble_eq_true rfl) c (j_pick [] rfl K), q⟩
theorem bX11_requireRange_5 {h0 h : k_H} {Q : k_H → k_R → Prop} {s0 : Int32} (K1 : ¬ (s0 = 0) → k_X (jX11_requireRange G l h0) h 19 [] [] Q) (K2 : s0 = 0 → k_X (jX11_requireRange G l h0) h 8 [] [] Q) : k_X (jX11_requireRange G l h0) h 5 [] [vI s0] Q := by
  by_cases hc : s0 = 0
  · skip
    obtain ⟨h', r, K, q⟩ := K2 hc
    exact ⟨h', r, j_if_ne_f dX11_requireRange_5 19 (by decide) hc K, q⟩
  · skip
    obtain ⟨h', r, K, q⟩ := K1 hc
    exact ⟨h', r, j_if_ne_t (tgt := 19) dX11_requireRange_5 (by decide) hc K, q⟩
theorem bX11_requireRange_8 {h0 h : k_H} {Q : k_H → k_R → Prop} (q : Q (k_sk h 1 6) (.inr "java/lang/IllegalArgumentException")) : k_X (jX11_requireRange G l h0) h 8 [] [] Q := by
  exact ⟨_, _, j_throwSW kt_X11_161_410_165 dX11_requireRange_8 dX11_requireRange_11 dX11_requireRange_12 dX11_requireRange_15 dX11_requireRange_18 (by decide) (Nat.le_of_ble_eq_true rfl), q⟩
theorem bX11_requireRange_19 {h0 h : k_H} {Q : k_H → k_R → Prop} (q : Q h (.inl none)) : k_X (jX11_requireRange G l h0) h 19 [] [] Q := by
  exact ⟨_, _, j_vret dX11_requireRange_19 rfl, q⟩
theorem eX11_requireAboveLayers {G : k_G} {l : Launch} (hfl : l.flags = flags0) {h : k_H} {Q : k_H → k_R → Prop} {x0 : Int32} (K : k_X (jX11_requireAboveLayers G l h) h 0 [(0, vI x0)] [] Q) : k_ct (tX11_requireAboveLayers G l) [vI x0] h Q := by
  obtain ⟨h', r, K, q⟩ := K
  exact ⟨h', r, k_CtOf (by decide +kernel) (Nat.le_of_ble_eq_true rfl) K hfl, q⟩

theorem bX11_requireAboveLayers_0 {h0 h : k_H} {Q : k_H → k_R → Prop} {x0 : Int32} (K1 : x0 < (-7) → k_X (jX11_requireAboveLayers G l h0) h 22 [] [] Q) (K2 : ¬ (x0 < (-7)) → k_X (jX11_requireAboveLayers G l h0) h 6 [(0, vI x0)] [] Q) : k_X (jX11_requireAboveLayers G l h0) h 0 [(0, vI x0)] [] Q := by
  by_cases hc : x0 < (-7)
  · skip
    obtain ⟨h', r, K, q⟩ := K1 hc
    exact ⟨h', r, j_iload_n dX11_requireAboveLayers_0 rfl rfl <| j_bipush (v := (-7)) dX11_requireAboveLayers_1 (by decide) <| j_icmp_lt_t (tgt := 22) dX11_requireAboveLayers_3 (by decide) hc (j_pick [] rfl K), q⟩
  · skip
    obtain ⟨h', r, K, q⟩ := K2 hc
    exact ⟨h', r, j_iload_n dX11_requireAboveLayers_0 rfl rfl <| j_bipush (v := (-7)) dX11_requireAboveLayers_1 (by decide) <| j_icmp_lt_f dX11_requireAboveLayers_3 22 (by decide) hc K, q⟩
theorem bX11_requireAboveLayers_6 {h0 h : k_H} {Q : k_H → k_R → Prop} {x0 : Int32} (K1 : (-1) < x0 → k_X (jX11_requireAboveLayers G l h0) h 22 [] [] Q) (K2 : ¬ ((-1) < x0) → k_X (jX11_requireAboveLayers G l h0) h 11 [] [] Q) : k_X (jX11_requireAboveLayers G l h0) h 6 [(0, vI x0)] [] Q := by
  by_cases hc : (-1) < x0
  · skip
    obtain ⟨h', r, K, q⟩ := K1 hc
    exact ⟨h', r, j_iload_n dX11_requireAboveLayers_6 rfl rfl <| j_iconst (v := (-1)) dX11_requireAboveLayers_7 (by decide) <| j_icmp_gt_t (tgt := 22) dX11_requireAboveLayers_8 (by decide) hc (j_pick [] rfl K), q⟩
  · skip
    obtain ⟨h', r, K, q⟩ := K2 hc
    exact ⟨h', r, j_iload_n dX11_requireAboveLayers_6 rfl rfl <| j_iconst (v := (-1)) dX11_requireAboveLayers_7 (by decide) <| j_icmp_gt_f dX11_requireAboveLayers_8 22 (by decide) hc (j_pick [] rfl K), q⟩
theorem bX11_requireAboveLayers_11 {h0 h : k_H} {Q : k_H → k_R → Prop} (q : Q (k_sk h 1 6) (.inr "java/lang/IllegalArgumentException")) : k_X (jX11_requireAboveLayers G l h0) h 11 [] [] Q := by
  exact ⟨_, _, j_throwSW kt_X11_161_412_165 dX11_requireAboveLayers_11 dX11_requireAboveLayers_14 dX11_requireAboveLayers_15 dX11_requireAboveLayers_18 dX11_requireAboveLayers_21 (by decide) (Nat.le_of_ble_eq_true rfl), q⟩
theorem bX11_requireAboveLayers_22 {h0 h : k_H} {Q : k_H → k_R → Prop} (q : Q h (.inl none)) : k_X (jX11_requireAboveLayers G l h0) h 22 [] [] Q := by
  exact ⟨_, _, j_vret dX11_requireAboveLayers_22 rfl, q⟩
theorem eX11_requireName {G : k_G} {l : Launch} (hfl : l.flags = flags0) {h : k_H} {Q : k_H → k_R → Prop} {x0 : Int32} (K : k_X (jX11_requireName G l h) h 0 [(0, vI x0)] [] Q) : k_ct (tX11_requireName G l) [vI x0] h Q := by
  obtain ⟨h', r, K, q⟩ := K
  exact ⟨h', r, k_CtOf (by decide +kernel) (Nat.le_of_ble_eq_true rfl) K hfl, q⟩

theorem bX11_requireName_0 {h0 h : k_H} {Q : k_H → k_R → Prop} {x0 : Int32} (K1 : x0 < 0 → k_X (jX11_requireName G l h0) h 10 [] [] Q) (K2 : ¬ (x0 < 0) → k_X (jX11_requireName G l h0) h 4 [(0, vI x0)] [] Q) : k_X (jX11_requireName G l h0) h 0 [(0, vI x0)] [] Q := by
  by_cases hc : x0 < 0
  · skip
    obtain ⟨h', r, K, q⟩ := K1 hc
    exact ⟨h', r, j_iload_n dX11_requireName_0 rfl rfl <| j_if_lt_t (tgt := 10) dX11_requireName_1 (by decide) hc (j_pick [] rfl K), q⟩
  · skip
    obtain ⟨h', r, K, q⟩ := K2 hc
    exact ⟨h', r, j_iload_n dX11_requireName_0 rfl rfl <| j_if_lt_f dX11_requireName_1 10 (by decide) hc K, q⟩
theorem bX11_requireName_4 {h0 h : k_H} {Q : k_H → k_R → Prop} {x0 : Int32} (K1 : x0 ≤ 9 → k_X (jX11_requireName G l h0) h 21 [] [] Q) (K2 : ¬ (x0 ≤ 9) → k_X (jX11_requireName G l h0) h 10 [] [] Q) : k_X (jX11_requireName G l h0) h 4 [(0, vI x0)] [] Q := by
  by_cases hc : x0 ≤ 9
  · skip
    obtain ⟨h', r, K, q⟩ := K1 hc
    exact ⟨h', r, j_iload_n dX11_requireName_4 rfl rfl <| j_bipush (v := 9) dX11_requireName_5 (by decide) <| j_icmp_le_t (tgt := 21) dX11_requireName_7 (by decide) hc (j_pick [] rfl K), q⟩
  · skip
    obtain ⟨h', r, K, q⟩ := K2 hc
    exact ⟨h', r, j_iload_n dX11_requireName_4 rfl rfl <| j_bipush (v := 9) dX11_requireName_5 (by decide) <| j_icmp_le_f dX11_requireName_7 21 (by decide) hc (j_pick [] rfl K), q⟩
theorem bX11_requireName_10 {h0 h : k_H} {Q : k_H → k_R → Prop} (q : Q (k_sk h 1 6) (.inr "java/lang/IllegalArgumentException")) : k_X (jX11_requireName G l h0) h 10 [] [] Q := by
  exact ⟨_, _, j_throwSW kt_X11_161_414_165 dX11_requireName_10 dX11_requireName_13 dX11_requireName_14 dX11_requireName_17 dX11_requireName_20 (by decide) (Nat.le_of_ble_eq_true rfl), q⟩
theorem bX11_requireName_21 {h0 h : k_H} {Q : k_H → k_R → Prop} (q : Q h (.inl none)) : k_X (jX11_requireName G l h0) h 21 [] [] Q := by
  exact ⟨_, _, j_vret dX11_requireName_21 rfl, q⟩
theorem eX11_requireRecord {G : k_G} {l : Launch} (hfl : l.flags = flags0) {h : k_H} {Q : k_H → k_R → Prop} {x0 : Int32} (K : k_X (jX11_requireRecord G l h) h 0 [(0, vI x0)] [] Q) : k_ct (tX11_requireRecord G l) [vI x0] h Q := by
  obtain ⟨h', r, K, q⟩ := K
  exact ⟨h', r, k_CtOf (by decide +kernel) (Nat.le_of_ble_eq_true rfl) K hfl, q⟩

theorem bX11_requireRecord_0 {h0 h : k_H} {Q : k_H → k_R → Prop} {x0 : Int32} (K1 : x0 < 0 → k_X (jX11_requireRecord G l h0) h 10 [] [] Q) (K2 : ¬ (x0 < 0) → k_X (jX11_requireRecord G l h0) h 4 [(0, vI x0)] [] Q) : k_X (jX11_requireRecord G l h0) h 0 [(0, vI x0)] [] Q := by
  by_cases hc : x0 < 0
  · skip
    obtain ⟨h', r, K, q⟩ := K1 hc
    exact ⟨h', r, j_iload_n dX11_requireRecord_0 rfl rfl <| j_if_lt_t (tgt := 10) dX11_requireRecord_1 (by decide) hc (j_pick [] rfl K), q⟩
  · skip
    obtain ⟨h', r, K, q⟩ := K2 hc
    exact ⟨h', r, j_iload_n dX11_requireRecord_0 rfl rfl <| j_if_lt_f dX11_requireRecord_1 10 (by decide) hc K, q⟩
theorem bX11_requireRecord_4 {h0 h : k_H} {Q : k_H → k_R → Prop} {x0 : Int32} (K1 : x0 ≤ 99 → k_X (jX11_requireRecord G l h0) h 21 [] [] Q) (K2 : ¬ (x0 ≤ 99) → k_X (jX11_requireRecord G l h0) h 10 [] [] Q) : k_X (jX11_requireRecord G l h0) h 4 [(0, vI x0)] [] Q := by
  by_cases hc : x0 ≤ 99
  · skip
    obtain ⟨h', r, K, q⟩ := K1 hc
    exact ⟨h', r, j_iload_n dX11_requireRecord_4 rfl rfl <| j_bipush (v := 99) dX11_requireRecord_5 (by decide) <| j_icmp_le_t (tgt := 21) dX11_requireRecord_7 (by decide) hc (j_pick [] rfl K), q⟩
  · skip
    obtain ⟨h', r, K, q⟩ := K2 hc
    exact ⟨h', r, j_iload_n dX11_requireRecord_4 rfl rfl <| j_bipush (v := 99) dX11_requireRecord_5 (by decide) <| j_icmp_le_f dX11_requireRecord_7 21 (by decide) hc (j_pick [] rfl K), q⟩
theorem bX11_requireRecord_10 {h0 h : k_H} {Q : k_H → k_R → Prop} (q : Q (k_sk h 1 6) (.inr "java/lang/IllegalArgumentException")) : k_X (jX11_requireRecord G l h0) h 10 [] [] Q := by
  exact ⟨_, _, j_throwSW kt_X11_161_416_165 dX11_requireRecord_10 dX11_requireRecord_13 dX11_requireRecord_14 dX11_requireRecord_17 dX11_requireRecord_20 (by decide) (Nat.le_of_ble_eq_true rfl), q⟩
theorem bX11_requireRecord_21 {h0 h : k_H} {Q : k_H → k_R → Prop} (q : Q h (.inl none)) : k_X (jX11_requireRecord G l h0) h 21 [] [] Q := by
  exact ⟨_, _, j_vret dX11_requireRecord_21 rfl, q⟩
theorem eX11_requireField {G : k_G} {l : Launch} (hfl : l.flags = flags0) {h : k_H} {Q : k_H → k_R → Prop} {x0 : Int32} (K : k_X (jX11_requireField G l h) h 0 [(0, vI x0)] [] Q) : k_ct (tX11_requireField G l) [vI x0] h Q := by
  obtain ⟨h', r, K, q⟩ := K
  exact ⟨h', r, k_CtOf (by decide +kernel) (Nat.le_of_ble_eq_true rfl) K hfl, q⟩

theorem bX11_requireField_0 {h0 h : k_H} {Q : k_H → k_R → Prop} {x0 : Int32} (K1 : x0 < 0 → k_X (jX11_requireField G l h0) h 10 [] [] Q) (K2 : ¬ (x0 < 0) → k_X (jX11_requireField G l h0) h 4 [(0, vI x0)] [] Q) : k_X (jX11_requireField G l h0) h 0 [(0, vI x0)] [] Q := by
  by_cases hc : x0 < 0
  · skip
    obtain ⟨h', r, K, q⟩ := K1 hc
    exact ⟨h', r, j_iload_n dX11_requireField_0 rfl rfl <| j_if_lt_t (tgt := 10) dX11_requireField_1 (by decide) hc (j_pick [] rfl K), q⟩
  · skip
    obtain ⟨h', r, K, q⟩ := K2 hc
    exact ⟨h', r, j_iload_n dX11_requireField_0 rfl rfl <| j_if_lt_f dX11_requireField_1 10 (by decide) hc K, q⟩
theorem bX11_requireField_4 {h0 h : k_H} {Q : k_H → k_R → Prop} {x0 : Int32} (K1 : x0 ≤ 99 → k_X (jX11_requireField G l h0) h 21 [] [] Q) (K2 : ¬ (x0 ≤ 99) → k_X (jX11_requireField G l h0) h 10 [] [] Q) : k_X (jX11_requireField G l h0) h 4 [(0, vI x0)] [] Q := by
  by_cases hc : x0 ≤ 99
  · skip
    obtain ⟨h', r, K, q⟩ := K1 hc
    exact ⟨h', r, j_iload_n dX11_requireField_4 rfl rfl <| j_bipush (v := 99) dX11_requireField_5 (by decide) <| j_icmp_le_t (tgt := 21) dX11_requireField_7 (by decide) hc (j_pick [] rfl K), q⟩
  · skip
    obtain ⟨h', r, K, q⟩ := K2 hc
    exact ⟨h', r, j_iload_n dX11_requireField_4 rfl rfl <| j_bipush (v := 99) dX11_requireField_5 (by decide) <| j_icmp_le_f dX11_requireField_7 21 (by decide) hc (j_pick [] rfl K), q⟩
theorem bX11_requireField_10 {h0 h : k_H} {Q : k_H → k_R → Prop} (q : Q (k_sk h 1 6) (.inr "java/lang/IllegalArgumentException")) : k_X (jX11_requireField G l h0) h 10 [] [] Q := by
  exact ⟨_, _, j_throwSW kt_X11_161_418_165 dX11_requireField_10 dX11_requireField_13 dX11_requireField_14 dX11_requireField_17 dX11_requireField_20 (by decide) (Nat.le_of_ble_eq_true rfl), q⟩
theorem bX11_requireField_21 {h0 h : k_H} {Q : k_H → k_R → Prop} (q : Q h (.inl none)) : k_X (jX11_requireField G l h0) h 21 [] [] Q := by
  exact ⟨_, _, j_vret dX11_requireField_21 rfl, q⟩
theorem eX11_requireBegun {G : k_G} {l : Launch} (hfl : l.flags = flags0) {h : k_H} {Q : k_H → k_R → Prop} {x0 : Option Nat} (K : k_X (jX11_requireBegun G l h) h 0 [(0, vR x0)] [] Q) : k_ct (tX11_requireBegun G l) [vR x0] h Q := by
  obtain ⟨h', r, K, q⟩ := K
  exact ⟨h', r, k_CtOf (by decide +kernel) (Nat.le_of_ble_eq_true rfl) K hfl, q⟩

theorem bX11_requireBegun_0 {h0 h : k_H} {Q : k_H → k_R → Prop} {x0 : Nat} {f1_2 : Int32} {fs1 : List k_V} (o1 : h.1 x0 = some (k_o 12 fs1)) (g1_2 : fs1[2]? = some (vI f1_2)) (K1 : ¬ (f1_2 = 0) → k_X (jX11_requireBegun G l h0) h 18 [] [] Q) (K2 : f1_2 = 0 → k_X (jX11_requireBegun G l h0) h 7 [] [] Q) : k_X (jX11_requireBegun G l h0) h 0 [(0, vR (some x0))] [] Q := by
  by_cases hc : f1_2 = 0
  · skip
    obtain ⟨h', r, K, q⟩ := K2 hc
    exact ⟨h', r, j_aload_n dX11_requireBegun_0 rfl rfl <| j_getf dX11_requireBegun_1 kf_X11_217 o1 g1_2 <| j_if_ne_f dX11_requireBegun_4 18 (by decide) hc (j_pick [] rfl K), q⟩
  · skip
    obtain ⟨h', r, K, q⟩ := K1 hc
    exact ⟨h', r, j_aload_n dX11_requireBegun_0 rfl rfl <| j_getf dX11_requireBegun_1 kf_X11_217 o1 g1_2 <| j_if_ne_t (tgt := 18) dX11_requireBegun_4 (by decide) hc (j_pick [] rfl K), q⟩
theorem bX11_requireBegun_7 {h0 h : k_H} {Q : k_H → k_R → Prop} (q : Q (k_sk h 1 6) (.inr "java/lang/IllegalStateException")) : k_X (jX11_requireBegun G l h0) h 7 [] [] Q := by
  exact ⟨_, _, j_throwSW kt_X11_119_420_123 dX11_requireBegun_7 dX11_requireBegun_10 dX11_requireBegun_11 dX11_requireBegun_14 dX11_requireBegun_17 (by decide) (Nat.le_of_ble_eq_true rfl), q⟩
theorem bX11_requireBegun_18 {h0 h : k_H} {Q : k_H → k_R → Prop} (q : Q h (.inl none)) : k_X (jX11_requireBegun G l h0) h 18 [] [] Q := by
  exact ⟨_, _, j_vret dX11_requireBegun_18 rfl, q⟩
theorem eX11_requireRoom {G : k_G} {l : Launch} (hfl : l.flags = flags0) {h : k_H} {Q : k_H → k_R → Prop} {x0 : Option Nat} (K : k_X (jX11_requireRoom G l h) h 0 [(0, vR x0)] [] Q) : k_ct (tX11_requireRoom G l) [vR x0] h Q := by
  obtain ⟨h', r, K, q⟩ := K
  exact ⟨h', r, k_CtOf (by decide +kernel) (Nat.le_of_ble_eq_true rfl) K hfl, q⟩

theorem bX11_requireRoom_0 {h0 h : k_H} {Q : k_H → k_R → Prop} {x0 : Option Nat} {P : k_H → Prop} (c : k_ctv (tX11_requireBegun G l) [vR x0] h P) (K : ∀ h1, P h1 → k_X (jX11_requireRoom G l h0) h1 4 [(0, vR x0)] [] Q) : k_X (jX11_requireRoom G l h0) h 0 [(0, vR x0)] [] Q := by
  obtain ⟨h1, c, p⟩ := c
  obtain ⟨h', r, K, q⟩ := K h1 p
  exact ⟨h', r, j_aload_n dX11_requireRoom_0 rfl rfl <| j_callS (v := none) (as := [vR x0]) dX11_requireRoom_1 kc_X11_96 rfl rfl (by decide) (Nat.le_of_ble_eq_true rfl) c K, q⟩
theorem bX11_requireRoom_0x {h0 h : k_H} {Q : k_H → k_R → Prop} {x0 : Option Nat} {E : String} {P : k_H → Prop} (c : k_ctx (tX11_requireBegun G l) [vR x0] h E P) (q : ∀ h1, P h1 → Q h1 (.inr E)) : k_X (jX11_requireRoom G l h0) h 0 [(0, vR x0)] [] Q := by
  obtain ⟨h1, c, p⟩ := c
  exact ⟨h1, _, j_aload_n dX11_requireRoom_0 rfl rfl <| j_callSx (as := [vR x0]) dX11_requireRoom_1 kc_X11_96 rfl rfl (by decide) (Nat.le_of_ble_eq_true rfl) c, q h1 p⟩
theorem bX11_requireRoom_4 {h0 h : k_H} {Q : k_H → k_R → Prop} {x0 : Nat} {f1_7 : Int32} {fs1 : List k_V} (o1 : h.1 x0 = some (k_o 12 fs1)) (g1_7 : fs1[7]? = some (vI f1_7)) (K1 : f1_7 < 12 → k_X (jX11_requireRoom G l h0) h 24 [] [] Q) (K2 : ¬ (f1_7 < 12) → k_X (jX11_requireRoom G l h0) h 13 [] [] Q) : k_X (jX11_requireRoom G l h0) h 4 [(0, vR (some x0))] [] Q := by
  by_cases hc : f1_7 < 12
  · skip
    obtain ⟨h', r, K, q⟩ := K1 hc
    exact ⟨h', r, j_aload_n dX11_requireRoom_4 rfl rfl <| j_getf dX11_requireRoom_5 kf_X11_205 o1 g1_7 <| j_bipush (v := 12) dX11_requireRoom_8 (by decide) <| j_icmp_lt_t (tgt := 24) dX11_requireRoom_10 (by decide) hc (j_pick [] rfl K), q⟩
  · skip
    obtain ⟨h', r, K, q⟩ := K2 hc
    exact ⟨h', r, j_aload_n dX11_requireRoom_4 rfl rfl <| j_getf dX11_requireRoom_5 kf_X11_205 o1 g1_7 <| j_bipush (v := 12) dX11_requireRoom_8 (by decide) <| j_icmp_lt_f dX11_requireRoom_10 24 (by decide) hc (j_pick [] rfl K), q⟩
theorem bX11_requireRoom_13 {h0 h : k_H} {Q : k_H → k_R → Prop} (q : Q (k_sk h 1 6) (.inr "java/lang/IllegalStateException")) : k_X (jX11_requireRoom G l h0) h 13 [] [] Q := by
  exact ⟨_, _, j_throwSW kt_X11_119_422_123 dX11_requireRoom_13 dX11_requireRoom_16 dX11_requireRoom_17 dX11_requireRoom_20 dX11_requireRoom_23 (by decide) (Nat.le_of_ble_eq_true rfl), q⟩
theorem bX11_requireRoom_24 {h0 h : k_H} {Q : k_H → k_R → Prop} (q : Q h (.inl none)) : k_X (jX11_requireRoom G l h0) h 24 [] [] Q := by
  exact ⟨_, _, j_vret dX11_requireRoom_24 rfl, q⟩
theorem eX11_isNumber {G : k_G} {l : Launch} (hfl : l.flags = flags0) {h : k_H} {Q : k_H → k_R → Prop} {x0 : Int32} (K : k_X (jX11_isNumber G l h) h 0 [(0, vI x0)] [] Q) : k_ct (tX11_isNumber G l) [vI x0] h Q := by
  obtain ⟨h', r, K, q⟩ := K
  exact ⟨h', r, k_CtOf (by decide +kernel) (Nat.le_of_ble_eq_true rfl) K hfl, q⟩

theorem bX11_isNumber_0 {h0 h : k_H} {Q : k_H → k_R → Prop} {x0 : Int32} (K1 : x0 < (-999) → k_X (jX11_isNumber G l h0) h 18 [] [] Q) (K2 : ¬ (x0 < (-999)) → k_X (jX11_isNumber G l h0) h 7 [(0, vI x0)] [] Q) : k_X (jX11_isNumber G l h0) h 0 [(0, vI x0)] [] Q := by
  by_cases hc : x0 < (-999)
  · skip
    obtain ⟨h', r, K, q⟩ := K1 hc
    exact ⟨h', r, j_iload_n dX11_isNumber_0 rfl rfl <| j_sipush (v := (-999)) dX11_isNumber_1 (by decide) <| j_icmp_lt_t (tgt := 18) dX11_isNumber_4 (by decide) hc (j_pick [] rfl K), q⟩
  · skip
    obtain ⟨h', r, K, q⟩ := K2 hc
    exact ⟨h', r, j_iload_n dX11_isNumber_0 rfl rfl <| j_sipush (v := (-999)) dX11_isNumber_1 (by decide) <| j_icmp_lt_f dX11_isNumber_4 18 (by decide) hc K, q⟩
theorem bX11_isNumber_7 {h0 h : k_H} {Q : k_H → k_R → Prop} {x0 : Int32} (K1 : 9999 < x0 → k_X (jX11_isNumber G l h0) h 18 [] [] Q) (K2 : ¬ (9999 < x0) → k_X (jX11_isNumber G l h0) h 14 [] [] Q) : k_X (jX11_isNumber G l h0) h 7 [(0, vI x0)] [] Q := by
  by_cases hc : 9999 < x0
  · skip
    obtain ⟨h', r, K, q⟩ := K1 hc
    exact ⟨h', r, j_iload_n dX11_isNumber_7 rfl rfl <| j_sipush (v := 9999) dX11_isNumber_8 (by decide) <| j_icmp_gt_t (tgt := 18) dX11_isNumber_11 (by decide) hc (j_pick [] rfl K), q⟩
  · skip
    obtain ⟨h', r, K, q⟩ := K2 hc
    exact ⟨h', r, j_iload_n dX11_isNumber_7 rfl rfl <| j_sipush (v := 9999) dX11_isNumber_8 (by decide) <| j_icmp_gt_f dX11_isNumber_11 18 (by decide) hc (j_pick [] rfl K), q⟩
theorem bX11_isNumber_14 {h0 h : k_H} {Q : k_H → k_R → Prop} (K : k_X (jX11_isNumber G l h0) h 19 [] [vI 1] Q) : k_X (jX11_isNumber G l h0) h 14 [] [] Q := by
  obtain ⟨h', r, K, q⟩ := K
  exact ⟨h', r, j_iconst (v := 1) dX11_isNumber_14 (by decide) <| j_goto (tgt := 19) dX11_isNumber_15 (by decide) <| K, q⟩
theorem bX11_isNumber_18 {h0 h : k_H} {Q : k_H → k_R → Prop} (K : k_X (jX11_isNumber G l h0) h 19 [] [vI 0] Q) : k_X (jX11_isNumber G l h0) h 18 [] [] Q := by
  obtain ⟨h', r, K, q⟩ := K
  exact ⟨h', r, j_iconst (v := 0) dX11_isNumber_18 (by decide) <| K, q⟩
theorem bX11_isNumber_19 {h0 h : k_H} {Q : k_H → k_R → Prop} {s0 : Int32} (y1 : k_bl s0) (q : Q h (.inl (some (vI s0)))) : k_X (jX11_isNumber G l h0) h 19 [] [vI s0] Q := by
  exact ⟨_, _, j_zret dX11_isNumber_19 rfl y1, q⟩
theorem eX11_isKey {G : k_G} {l : Launch} (hfl : l.flags = flags0) {h : k_H} {Q : k_H → k_R → Prop} {x0 : Int32} {x1 : Int32} {x2 : Int32} (K : k_X (jX11_isKey G l h) h 0 [(0, vI x0), (1, vI x1), (2, vI x2)] [] Q) : k_ct (tX11_isKey G l) [vI x0, vI x1, vI x2] h Q := by
  obtain ⟨h', r, K, q⟩ := K
  exact ⟨h', r, k_CtOf (by decide +kernel) (Nat.le_of_ble_eq_true rfl) K hfl, q⟩

theorem bX11_isKey_0 {h0 h : k_H} {Q : k_H → k_R → Prop} {x0 x1 x2 : Int32} (K1 : ¬ (x1 = 10000) → k_X (jX11_isKey G l h0) h 27 [(0, vI x0), (1, vI x1), (2, vI x2)] [] Q) (K2 : x1 = 10000 → k_X (jX11_isKey G l h0) h 7 [(0, vI x0), (2, vI x2)] [] Q) : k_X (jX11_isKey G l h0) h 0 [(0, vI x0), (1, vI x1), (2, vI x2)] [] Q := by
  by_cases hc : x1 = 10000
  · skip
    obtain ⟨h', r, K, q⟩ := K2 hc
    exact ⟨h', r, j_iload_n dX11_isKey_0 rfl rfl <| j_sipush (v := 10000) dX11_isKey_1 (by decide) <| j_icmp_ne_f dX11_isKey_4 27 (by decide) hc (j_pick [0, 2] rfl K), q⟩
  · skip
    obtain ⟨h', r, K, q⟩ := K1 hc
    exact ⟨h', r, j_iload_n dX11_isKey_0 rfl rfl <| j_sipush (v := 10000) dX11_isKey_1 (by decide) <| j_icmp_ne_t (tgt := 27) dX11_isKey_4 (by decide) hc K, q⟩
theorem bX11_isKey_7 {h0 h : k_H} {Q : k_H → k_R → Prop} {x0 x2 : Int32} {P : k_H → Int32 → Prop} (c : k_cti (tX11_isNumber G l) [vI x0] h P) (K : ∀ h1 v, P h1 v → k_X (jX11_isKey G l h0) h1 11 [(2, vI x2)] [vI v] Q) : k_X (jX11_isKey G l h0) h 7 [(0, vI x0), (2, vI x2)] [] Q := by
  obtain ⟨h1, v, c, p⟩ := c
  obtain ⟨h', r, K, q⟩ := K h1 v p
  exact ⟨h', r, j_iload_n dX11_isKey_7 rfl rfl <| j_callS (v := some (vI v)) (as := [vI x0]) dX11_isKey_8 kc_X11_424 rfl rfl (by decide) (Nat.le_of_ble_eq_true rfl) c (j_pick [1] rfl K), q⟩
theorem bX11_isKey_11 {h0 h : k_H} {Q : k_H → k_R → Prop} {x2 s0 : Int32} (K1 : s0 = 0 → k_X (jX11_isKey G l h0) h 25 [] [] Q) (K2 : ¬ (s0 = 0) → k_X (jX11_isKey G l h0) h 14 [(2, vI x2)] [] Q) : k_X (jX11_isKey G l h0) h 11 [(2, vI x2)] [vI s0] Q := by
  by_cases hc : s0 = 0
  · skip
    obtain ⟨h', r, K, q⟩ := K1 hc
    exact ⟨h', r, j_if_eq_t (tgt := 25) dX11_isKey_11 (by decide) hc (j_pick [] rfl K), q⟩
  · skip
    obtain ⟨h', r, K, q⟩ := K2 hc
    exact ⟨h', r, j_if_eq_f dX11_isKey_11 25 (by decide) hc K, q⟩
theorem bX11_isKey_14 {h0 h : k_H} {Q : k_H → k_R → Prop} {x2 : Int32} (K1 : ¬ (x2 = 10000) → k_X (jX11_isKey G l h0) h 25 [] [] Q) (K2 : x2 = 10000 → k_X (jX11_isKey G l h0) h 21 [] [] Q) : k_X (jX11_isKey G l h0) h 14 [(2, vI x2)] [] Q := by
  by_cases hc : x2 = 10000
  · skip
    obtain ⟨h', r, K, q⟩ := K2 hc
    exact ⟨h', r, j_iload_n dX11_isKey_14 rfl rfl <| j_sipush (v := 10000) dX11_isKey_15 (by decide) <| j_icmp_ne_f dX11_isKey_18 25 (by decide) hc (j_pick [] rfl K), q⟩
  · skip
    obtain ⟨h', r, K, q⟩ := K1 hc
    exact ⟨h', r, j_iload_n dX11_isKey_14 rfl rfl <| j_sipush (v := 10000) dX11_isKey_15 (by decide) <| j_icmp_ne_t (tgt := 25) dX11_isKey_18 (by decide) hc (j_pick [] rfl K), q⟩
theorem bX11_isKey_21 {h0 h : k_H} {Q : k_H → k_R → Prop} (K : k_X (jX11_isKey G l h0) h 26 [] [vI 1] Q) : k_X (jX11_isKey G l h0) h 21 [] [] Q := by
  obtain ⟨h', r, K, q⟩ := K
  exact ⟨h', r, j_iconst (v := 1) dX11_isKey_21 (by decide) <| j_goto (tgt := 26) dX11_isKey_22 (by decide) <| K, q⟩
theorem bX11_isKey_25 {h0 h : k_H} {Q : k_H → k_R → Prop} (K : k_X (jX11_isKey G l h0) h 26 [] [vI 0] Q) : k_X (jX11_isKey G l h0) h 25 [] [] Q := by
  obtain ⟨h', r, K, q⟩ := K
  exact ⟨h', r, j_iconst (v := 0) dX11_isKey_25 (by decide) <| K, q⟩
theorem bX11_isKey_26 {h0 h : k_H} {Q : k_H → k_R → Prop} {s0 : Int32} (y1 : k_bl s0) (q : Q h (.inl (some (vI s0)))) : k_X (jX11_isKey G l h0) h 26 [] [vI s0] Q := by
  exact ⟨_, _, j_zret dX11_isKey_26 rfl y1, q⟩
theorem bX11_isKey_27 {h0 h : k_H} {Q : k_H → k_R → Prop} {x0 x1 x2 : Int32} {P : k_H → Int32 → Prop} (c : k_cti (tX11_isNumber G l) [vI x0] h P) (K : ∀ h1 v, P h1 v → k_X (jX11_isKey G l h0) h1 31 [(1, vI x1), (2, vI x2)] [vI v] Q) : k_X (jX11_isKey G l h0) h 27 [(0, vI x0), (1, vI x1), (2, vI x2)] [] Q := by
  obtain ⟨h1, v, c, p⟩ := c
  obtain ⟨h', r, K, q⟩ := K h1 v p
  exact ⟨h', r, j_iload_n dX11_isKey_27 rfl rfl <| j_callS (v := some (vI v)) (as := [vI x0]) dX11_isKey_28 kc_X11_424 rfl rfl (by decide) (Nat.le_of_ble_eq_true rfl) c (j_pick [1, 2] rfl K), q⟩
theorem bX11_isKey_31 {h0 h : k_H} {Q : k_H → k_R → Prop} {x1 x2 s0 : Int32} (K1 : s0 = 0 → k_X (jX11_isKey G l h0) h 59 [] [] Q) (K2 : ¬ (s0 = 0) → k_X (jX11_isKey G l h0) h 34 [(1, vI x1), (2, vI x2)] [] Q) : k_X (jX11_isKey G l h0) h 31 [(1, vI x1), (2, vI x2)] [vI s0] Q := by
  by_cases hc : s0 = 0
  · skip
    obtain ⟨h', r, K, q⟩ := K1 hc
    exact ⟨h', r, j_if_eq_t (tgt := 59) dX11_isKey_31 (by decide) hc (j_pick [] rfl K), q⟩
  · skip
    obtain ⟨h', r, K, q⟩ := K2 hc
    exact ⟨h', r, j_if_eq_f dX11_isKey_31 59 (by decide) hc K, q⟩
theorem bX11_isKey_34 {h0 h : k_H} {Q : k_H → k_R → Prop} {x1 x2 : Int32} {P : k_H → Int32 → Prop} (c : k_cti (tX11_isNumber G l) [vI x1] h P) (K : ∀ h1 v, P h1 v → k_X (jX11_isKey G l h0) h1 38 [(2, vI x2)] [vI v] Q) : k_X (jX11_isKey G l h0) h 34 [(1, vI x1), (2, vI x2)] [] Q := by
  obtain ⟨h1, v, c, p⟩ := c
  obtain ⟨h', r, K, q⟩ := K h1 v p
  exact ⟨h', r, j_iload_n dX11_isKey_34 rfl rfl <| j_callS (v := some (vI v)) (as := [vI x1]) dX11_isKey_35 kc_X11_424 rfl rfl (by decide) (Nat.le_of_ble_eq_true rfl) c (j_pick [1] rfl K), q⟩
theorem bX11_isKey_38 {h0 h : k_H} {Q : k_H → k_R → Prop} {x2 s0 : Int32} (K1 : s0 = 0 → k_X (jX11_isKey G l h0) h 59 [] [] Q) (K2 : ¬ (s0 = 0) → k_X (jX11_isKey G l h0) h 41 [(2, vI x2)] [] Q) : k_X (jX11_isKey G l h0) h 38 [(2, vI x2)] [vI s0] Q := by
  by_cases hc : s0 = 0
  · skip
    obtain ⟨h', r, K, q⟩ := K1 hc
    exact ⟨h', r, j_if_eq_t (tgt := 59) dX11_isKey_38 (by decide) hc (j_pick [] rfl K), q⟩
  · skip
    obtain ⟨h', r, K, q⟩ := K2 hc
    exact ⟨h', r, j_if_eq_f dX11_isKey_38 59 (by decide) hc K, q⟩
theorem bX11_isKey_41 {h0 h : k_H} {Q : k_H → k_R → Prop} {x2 : Int32} (K1 : x2 = 10000 → k_X (jX11_isKey G l h0) h 55 [] [] Q) (K2 : ¬ (x2 = 10000) → k_X (jX11_isKey G l h0) h 48 [(2, vI x2)] [] Q) : k_X (jX11_isKey G l h0) h 41 [(2, vI x2)] [] Q := by
  by_cases hc : x2 = 10000
  · skip
    obtain ⟨h', r, K, q⟩ := K1 hc
    exact ⟨h', r, j_iload_n dX11_isKey_41 rfl rfl <| j_sipush (v := 10000) dX11_isKey_42 (by decide) <| j_icmp_eq_t (tgt := 55) dX11_isKey_45 (by decide) hc (j_pick [] rfl K), q⟩
  · skip
    obtain ⟨h', r, K, q⟩ := K2 hc
    exact ⟨h', r, j_iload_n dX11_isKey_41 rfl rfl <| j_sipush (v := 10000) dX11_isKey_42 (by decide) <| j_icmp_eq_f dX11_isKey_45 55 (by decide) hc K, q⟩
theorem bX11_isKey_48 {h0 h : k_H} {Q : k_H → k_R → Prop} {x2 : Int32} {P : k_H → Int32 → Prop} (c : k_cti (tX11_isNumber G l) [vI x2] h P) (K : ∀ h1 v, P h1 v → k_X (jX11_isKey G l h0) h1 52 [] [vI v] Q) : k_X (jX11_isKey G l h0) h 48 [(2, vI x2)] [] Q := by
  obtain ⟨h1, v, c, p⟩ := c
  obtain ⟨h', r, K, q⟩ := K h1 v p
  exact ⟨h', r, j_iload_n dX11_isKey_48 rfl rfl <| j_callS (v := some (vI v)) (as := [vI x2]) dX11_isKey_49 kc_X11_424 rfl rfl (by decide) (Nat.le_of_ble_eq_true rfl) c (j_pick [] rfl K), q⟩
theorem bX11_isKey_52 {h0 h : k_H} {Q : k_H → k_R → Prop} {s0 : Int32} (K1 : s0 = 0 → k_X (jX11_isKey G l h0) h 59 [] [] Q) (K2 : ¬ (s0 = 0) → k_X (jX11_isKey G l h0) h 55 [] [] Q) : k_X (jX11_isKey G l h0) h 52 [] [vI s0] Q := by
  by_cases hc : s0 = 0
  · skip
    obtain ⟨h', r, K, q⟩ := K1 hc
    exact ⟨h', r, j_if_eq_t (tgt := 59) dX11_isKey_52 (by decide) hc K, q⟩
  · skip
    obtain ⟨h', r, K, q⟩ := K2 hc
    exact ⟨h', r, j_if_eq_f dX11_isKey_52 59 (by decide) hc K, q⟩
theorem bX11_isKey_55 {h0 h : k_H} {Q : k_H → k_R → Prop} (K : k_X (jX11_isKey G l h0) h 60 [] [vI 1] Q) : k_X (jX11_isKey G l h0) h 55 [] [] Q := by
  obtain ⟨h', r, K, q⟩ := K
  exact ⟨h', r, j_iconst (v := 1) dX11_isKey_55 (by decide) <| j_goto (tgt := 60) dX11_isKey_56 (by decide) <| K, q⟩
theorem bX11_isKey_59 {h0 h : k_H} {Q : k_H → k_R → Prop} (K : k_X (jX11_isKey G l h0) h 60 [] [vI 0] Q) : k_X (jX11_isKey G l h0) h 59 [] [] Q := by
  obtain ⟨h', r, K, q⟩ := K
  exact ⟨h', r, j_iconst (v := 0) dX11_isKey_59 (by decide) <| K, q⟩
theorem bX11_isKey_60 {h0 h : k_H} {Q : k_H → k_R → Prop} {s0 : Int32} (y1 : k_bl s0) (q : Q h (.inl (some (vI s0)))) : k_X (jX11_isKey G l h0) h 60 [] [vI s0] Q := by
  exact ⟨_, _, j_zret dX11_isKey_60 rfl y1, q⟩
theorem eX11_isRange {G : k_G} {l : Launch} (hfl : l.flags = flags0) {h : k_H} {Q : k_H → k_R → Prop} {x0 : Int32} {x1 : Int32} (K : k_X (jX11_isRange G l h) h 0 [(0, vI x0), (1, vI x1)] [] Q) : k_ct (tX11_isRange G l) [vI x0, vI x1] h Q := by
  obtain ⟨h', r, K, q⟩ := K
  exact ⟨h', r, k_CtOf (by decide +kernel) (Nat.le_of_ble_eq_true rfl) K hfl, q⟩

theorem bX11_isRange_0 {h0 h : k_H} {Q : k_H → k_R → Prop} {x0 x1 : Int32} (K1 : ¬ (x0 = 10000) → k_X (jX11_isRange G l h0) h 20 [(0, vI x0), (1, vI x1)] [] Q) (K2 : x0 = 10000 → k_X (jX11_isRange G l h0) h 7 [(1, vI x1)] [] Q) : k_X (jX11_isRange G l h0) h 0 [(0, vI x0), (1, vI x1)] [] Q := by
  by_cases hc : x0 = 10000
  · skip
    obtain ⟨h', r, K, q⟩ := K2 hc
    exact ⟨h', r, j_iload_n dX11_isRange_0 rfl rfl <| j_sipush (v := 10000) dX11_isRange_1 (by decide) <| j_icmp_ne_f dX11_isRange_4 20 (by decide) hc (j_pick [1] rfl K), q⟩
  · skip
    obtain ⟨h', r, K, q⟩ := K1 hc
    exact ⟨h', r, j_iload_n dX11_isRange_0 rfl rfl <| j_sipush (v := 10000) dX11_isRange_1 (by decide) <| j_icmp_ne_t (tgt := 20) dX11_isRange_4 (by decide) hc K, q⟩
theorem bX11_isRange_7 {h0 h : k_H} {Q : k_H → k_R → Prop} {x1 : Int32} (K1 : ¬ (x1 = 10000) → k_X (jX11_isRange G l h0) h 18 [] [] Q) (K2 : x1 = 10000 → k_X (jX11_isRange G l h0) h 14 [] [] Q) : k_X (jX11_isRange G l h0) h 7 [(1, vI x1)] [] Q := by
  by_cases hc : x1 = 10000
  · skip
    obtain ⟨h', r, K, q⟩ := K2 hc
    exact ⟨h', r, j_iload_n dX11_isRange_7 rfl rfl <| j_sipush (v := 10000) dX11_isRange_8 (by decide) <| j_icmp_ne_f dX11_isRange_11 18 (by decide) hc (j_pick [] rfl K), q⟩
  · skip
    obtain ⟨h', r, K, q⟩ := K1 hc
    exact ⟨h', r, j_iload_n dX11_isRange_7 rfl rfl <| j_sipush (v := 10000) dX11_isRange_8 (by decide) <| j_icmp_ne_t (tgt := 18) dX11_isRange_11 (by decide) hc (j_pick [] rfl K), q⟩
theorem bX11_isRange_14 {h0 h : k_H} {Q : k_H → k_R → Prop} (K : k_X (jX11_isRange G l h0) h 19 [] [vI 1] Q) : k_X (jX11_isRange G l h0) h 14 [] [] Q := by
  obtain ⟨h', r, K, q⟩ := K
  exact ⟨h', r, j_iconst (v := 1) dX11_isRange_14 (by decide) <| j_goto (tgt := 19) dX11_isRange_15 (by decide) <| K, q⟩
theorem bX11_isRange_18 {h0 h : k_H} {Q : k_H → k_R → Prop} (K : k_X (jX11_isRange G l h0) h 19 [] [vI 0] Q) : k_X (jX11_isRange G l h0) h 18 [] [] Q := by
  obtain ⟨h', r, K, q⟩ := K
  exact ⟨h', r, j_iconst (v := 0) dX11_isRange_18 (by decide) <| K, q⟩
theorem bX11_isRange_19 {h0 h : k_H} {Q : k_H → k_R → Prop} {s0 : Int32} (y1 : k_bl s0) (q : Q h (.inl (some (vI s0)))) : k_X (jX11_isRange G l h0) h 19 [] [vI s0] Q := by
  exact ⟨_, _, j_zret dX11_isRange_19 rfl y1, q⟩
theorem bX11_isRange_20 {h0 h : k_H} {Q : k_H → k_R → Prop} {x0 x1 : Int32} {P : k_H → Int32 → Prop} (c : k_cti (tX11_isNumber G l) [vI x0] h P) (K : ∀ h1 v, P h1 v → k_X (jX11_isRange G l h0) h1 24 [(1, vI x1)] [vI v] Q) : k_X (jX11_isRange G l h0) h 20 [(0, vI x0), (1, vI x1)] [] Q := by
  obtain ⟨h1, v, c, p⟩ := c
  obtain ⟨h', r, K, q⟩ := K h1 v p
  exact ⟨h', r, j_iload_n dX11_isRange_20 rfl rfl <| j_callS (v := some (vI v)) (as := [vI x0]) dX11_isRange_21 kc_X11_424 rfl rfl (by decide) (Nat.le_of_ble_eq_true rfl) c (j_pick [1] rfl K), q⟩
theorem bX11_isRange_24 {h0 h : k_H} {Q : k_H → k_R → Prop} {x1 s0 : Int32} (K1 : s0 = 0 → k_X (jX11_isRange G l h0) h 45 [] [] Q) (K2 : ¬ (s0 = 0) → k_X (jX11_isRange G l h0) h 27 [(1, vI x1)] [] Q) : k_X (jX11_isRange G l h0) h 24 [(1, vI x1)] [vI s0] Q := by
  by_cases hc : s0 = 0
  · skip
    obtain ⟨h', r, K, q⟩ := K1 hc
    exact ⟨h', r, j_if_eq_t (tgt := 45) dX11_isRange_24 (by decide) hc (j_pick [] rfl K), q⟩
  · skip
    obtain ⟨h', r, K, q⟩ := K2 hc
    exact ⟨h', r, j_if_eq_f dX11_isRange_24 45 (by decide) hc K, q⟩
theorem bX11_isRange_27 {h0 h : k_H} {Q : k_H → k_R → Prop} {x1 : Int32} (K1 : x1 = 10000 → k_X (jX11_isRange G l h0) h 41 [] [] Q) (K2 : ¬ (x1 = 10000) → k_X (jX11_isRange G l h0) h 34 [(1, vI x1)] [] Q) : k_X (jX11_isRange G l h0) h 27 [(1, vI x1)] [] Q := by
  by_cases hc : x1 = 10000
  · skip
    obtain ⟨h', r, K, q⟩ := K1 hc
    exact ⟨h', r, j_iload_n dX11_isRange_27 rfl rfl <| j_sipush (v := 10000) dX11_isRange_28 (by decide) <| j_icmp_eq_t (tgt := 41) dX11_isRange_31 (by decide) hc (j_pick [] rfl K), q⟩
  · skip
    obtain ⟨h', r, K, q⟩ := K2 hc
    exact ⟨h', r, j_iload_n dX11_isRange_27 rfl rfl <| j_sipush (v := 10000) dX11_isRange_28 (by decide) <| j_icmp_eq_f dX11_isRange_31 41 (by decide) hc K, q⟩
theorem bX11_isRange_34 {h0 h : k_H} {Q : k_H → k_R → Prop} {x1 : Int32} {P : k_H → Int32 → Prop} (c : k_cti (tX11_isNumber G l) [vI x1] h P) (K : ∀ h1 v, P h1 v → k_X (jX11_isRange G l h0) h1 38 [] [vI v] Q) : k_X (jX11_isRange G l h0) h 34 [(1, vI x1)] [] Q := by
  obtain ⟨h1, v, c, p⟩ := c
  obtain ⟨h', r, K, q⟩ := K h1 v p
  exact ⟨h', r, j_iload_n dX11_isRange_34 rfl rfl <| j_callS (v := some (vI v)) (as := [vI x1]) dX11_isRange_35 kc_X11_424 rfl rfl (by decide) (Nat.le_of_ble_eq_true rfl) c (j_pick [] rfl K), q⟩
theorem bX11_isRange_38 {h0 h : k_H} {Q : k_H → k_R → Prop} {s0 : Int32} (K1 : s0 = 0 → k_X (jX11_isRange G l h0) h 45 [] [] Q) (K2 : ¬ (s0 = 0) → k_X (jX11_isRange G l h0) h 41 [] [] Q) : k_X (jX11_isRange G l h0) h 38 [] [vI s0] Q := by
  by_cases hc : s0 = 0
  · skip
    obtain ⟨h', r, K, q⟩ := K1 hc
    exact ⟨h', r, j_if_eq_t (tgt := 45) dX11_isRange_38 (by decide) hc K, q⟩
  · skip
    obtain ⟨h', r, K, q⟩ := K2 hc
    exact ⟨h', r, j_if_eq_f dX11_isRange_38 45 (by decide) hc K, q⟩
theorem bX11_isRange_41 {h0 h : k_H} {Q : k_H → k_R → Prop} (K : k_X (jX11_isRange G l h0) h 46 [] [vI 1] Q) : k_X (jX11_isRange G l h0) h 41 [] [] Q := by
  obtain ⟨h', r, K, q⟩ := K
  exact ⟨h', r, j_iconst (v := 1) dX11_isRange_41 (by decide) <| j_goto (tgt := 46) dX11_isRange_42 (by decide) <| K, q⟩
theorem bX11_isRange_45 {h0 h : k_H} {Q : k_H → k_R → Prop} (K : k_X (jX11_isRange G l h0) h 46 [] [vI 0] Q) : k_X (jX11_isRange G l h0) h 45 [] [] Q := by
  obtain ⟨h', r, K, q⟩ := K
  exact ⟨h', r, j_iconst (v := 0) dX11_isRange_45 (by decide) <| K, q⟩
theorem bX11_isRange_46 {h0 h : k_H} {Q : k_H → k_R → Prop} {s0 : Int32} (y1 : k_bl s0) (q : Q h (.inl (some (vI s0)))) : k_X (jX11_isRange G l h0) h 46 [] [vI s0] Q := by
  exact ⟨_, _, j_zret dX11_isRange_46 rfl y1, q⟩
theorem eX11_lastPlace {G : k_G} {l : Launch} (hfl : l.flags = flags0) {h : k_H} {Q : k_H → k_R → Prop} {x0 : Int32} {x1 : Int32} (K : k_X (jX11_lastPlace G l h) h 0 [(0, vI x0), (1, vI x1)] [] Q) : k_ct (tX11_lastPlace G l) [vI x0, vI x1] h Q := by
  obtain ⟨h', r, K, q⟩ := K
  exact ⟨h', r, k_CtOf (by decide +kernel) (Nat.le_of_ble_eq_true rfl) K hfl, q⟩

theorem bX11_lastPlace_0 {h0 h : k_H} {Q : k_H → k_R → Prop} {x0 x1 : Int32} (K1 : ¬ (x0 = 10000) → k_X (jX11_lastPlace G l h0) h 9 [(1, vI x1)] [] Q) (K2 : x0 = 10000 → k_X (jX11_lastPlace G l h0) h 7 [] [] Q) : k_X (jX11_lastPlace G l h0) h 0 [(0, vI x0), (1, vI x1)] [] Q := by
  by_cases hc : x0 = 10000
  · skip
    obtain ⟨h', r, K, q⟩ := K2 hc
    exact ⟨h', r, j_iload_n dX11_lastPlace_0 rfl rfl <| j_sipush (v := 10000) dX11_lastPlace_1 (by decide) <| j_icmp_ne_f dX11_lastPlace_4 9 (by decide) hc (j_pick [] rfl K), q⟩
  · skip
    obtain ⟨h', r, K, q⟩ := K1 hc
    exact ⟨h', r, j_iload_n dX11_lastPlace_0 rfl rfl <| j_sipush (v := 10000) dX11_lastPlace_1 (by decide) <| j_icmp_ne_t (tgt := 9) dX11_lastPlace_4 (by decide) hc (j_pick [1] rfl K), q⟩
theorem bX11_lastPlace_7 {h0 h : k_H} {Q : k_H → k_R → Prop} (q : Q h (.inl (some (vI 0)))) : k_X (jX11_lastPlace G l h0) h 7 [] [] Q := by
  exact ⟨_, _, j_iconst (v := 0) dX11_lastPlace_7 (by decide) <| j_iret dX11_lastPlace_8 rfl, q⟩
theorem bX11_lastPlace_9 {h0 h : k_H} {Q : k_H → k_R → Prop} {x1 : Int32} (K1 : ¬ (x1 = 10000) → k_X (jX11_lastPlace G l h0) h 20 [] [] Q) (K2 : x1 = 10000 → k_X (jX11_lastPlace G l h0) h 16 [] [] Q) : k_X (jX11_lastPlace G l h0) h 9 [(1, vI x1)] [] Q := by
  by_cases hc : x1 = 10000
  · skip
    obtain ⟨h', r, K, q⟩ := K2 hc
    exact ⟨h', r, j_iload_n dX11_lastPlace_9 rfl rfl <| j_sipush (v := 10000) dX11_lastPlace_10 (by decide) <| j_icmp_ne_f dX11_lastPlace_13 20 (by decide) hc (j_pick [] rfl K), q⟩
  · skip
    obtain ⟨h', r, K, q⟩ := K1 hc
    exact ⟨h', r, j_iload_n dX11_lastPlace_9 rfl rfl <| j_sipush (v := 10000) dX11_lastPlace_10 (by decide) <| j_icmp_ne_t (tgt := 20) dX11_lastPlace_13 (by decide) hc (j_pick [] rfl K), q⟩
theorem bX11_lastPlace_16 {h0 h : k_H} {Q : k_H → k_R → Prop} (K : k_X (jX11_lastPlace G l h0) h 21 [] [vI 1] Q) : k_X (jX11_lastPlace G l h0) h 16 [] [] Q := by
  obtain ⟨h', r, K, q⟩ := K
  exact ⟨h', r, j_iconst (v := 1) dX11_lastPlace_16 (by decide) <| j_goto (tgt := 21) dX11_lastPlace_17 (by decide) <| K, q⟩
theorem bX11_lastPlace_20 {h0 h : k_H} {Q : k_H → k_R → Prop} (K : k_X (jX11_lastPlace G l h0) h 21 [] [vI 2] Q) : k_X (jX11_lastPlace G l h0) h 20 [] [] Q := by
  obtain ⟨h', r, K, q⟩ := K
  exact ⟨h', r, j_iconst (v := 2) dX11_lastPlace_20 (by decide) <| K, q⟩
theorem bX11_lastPlace_21 {h0 h : k_H} {Q : k_H → k_R → Prop} {s0 : Int32} (q : Q h (.inl (some (vI s0)))) : k_X (jX11_lastPlace G l h0) h 21 [] [vI s0] Q := by
  exact ⟨_, _, j_iret dX11_lastPlace_21 rfl, q⟩
theorem eX11_digitOf {G : k_G} {l : Launch} (hfl : l.flags = flags0) {h : k_H} {Q : k_H → k_R → Prop} {x0 : Int32} (K : k_X (jX11_digitOf G l h) h 0 [(0, vI x0)] [] Q) : k_ct (tX11_digitOf G l) [vI x0] h Q := by
  obtain ⟨h', r, K, q⟩ := K
  exact ⟨h', r, k_CtOf (by decide +kernel) (Nat.le_of_ble_eq_true rfl) K hfl, q⟩

theorem bX11_digitOf_0 {h0 h : k_H} {Q : k_H → k_R → Prop} {x0 : Int32} (K1 : ¬ (x0 = 10000) → k_X (jX11_digitOf G l h0) h 11 [(0, vI x0)] [] Q) (K2 : x0 = 10000 → k_X (jX11_digitOf G l h0) h 7 [] [] Q) : k_X (jX11_digitOf G l h0) h 0 [(0, vI x0)] [] Q := by
  by_cases hc : x0 = 10000
  · skip
    obtain ⟨h', r, K, q⟩ := K2 hc
    exact ⟨h', r, j_iload_n dX11_digitOf_0 rfl rfl <| j_sipush (v := 10000) dX11_digitOf_1 (by decide) <| j_icmp_ne_f dX11_digitOf_4 11 (by decide) hc (j_pick [] rfl K), q⟩
  · skip
    obtain ⟨h', r, K, q⟩ := K1 hc
    exact ⟨h', r, j_iload_n dX11_digitOf_0 rfl rfl <| j_sipush (v := 10000) dX11_digitOf_1 (by decide) <| j_icmp_ne_t (tgt := 11) dX11_digitOf_4 (by decide) hc K, q⟩
theorem bX11_digitOf_7 {h0 h : k_H} {Q : k_H → k_R → Prop} (K : k_X (jX11_digitOf G l h0) h 17 [] [vJ 0] Q) : k_X (jX11_digitOf G l h0) h 7 [] [] Q := by
  obtain ⟨h', r, K, q⟩ := K
  exact ⟨h', r, j_lconst (v := 0) dX11_digitOf_7 (by decide) <| j_goto (tgt := 17) dX11_digitOf_8 (by decide) <| K, q⟩
theorem bX11_digitOf_11 {h0 h : k_H} {Q : k_H → k_R → Prop} {x0 : Int32} (K : k_X (jX11_digitOf G l h0) h 17 [] [vJ (x0.toInt64 + 1000)] Q) : k_X (jX11_digitOf G l h0) h 11 [(0, vI x0)] [] Q := by
  obtain ⟨h', r, K, q⟩ := K
  exact ⟨h', r, j_iload_n dX11_digitOf_11 rfl rfl <| j_i2l dX11_digitOf_12 <| j_ldc2 (v := 1000) dX11_digitOf_13 ki_X11_428 <| j_ladd dX11_digitOf_16 <| (j_pick [] rfl K), q⟩
theorem bX11_digitOf_17 {h0 h : k_H} {Q : k_H → k_R → Prop} {s0 : Int64} (q : Q h (.inl (some (vJ s0)))) : k_X (jX11_digitOf G l h0) h 17 [] [vJ s0] Q := by
  exact ⟨_, _, j_lret dX11_digitOf_17 rfl, q⟩
theorem eX11_codeOf {G : k_G} {l : Launch} (hfl : l.flags = flags0) {h : k_H} {Q : k_H → k_R → Prop} {x0 : Int32} {x1 : Int32} {x2 : Int32} (K : k_X (jX11_codeOf G l h) h 0 [(0, vI x0), (1, vI x1), (2, vI x2)] [] Q) : k_ct (tX11_codeOf G l) [vI x0, vI x1, vI x2] h Q := by
  obtain ⟨h', r, K, q⟩ := K
  exact ⟨h', r, k_CtOf (by decide +kernel) (Nat.le_of_ble_eq_true rfl) K hfl, q⟩

theorem bX11_codeOf_0 {h0 h : k_H} {Q : k_H → k_R → Prop} {x0 x1 x2 : Int32} {P : k_H → Int64 → Prop} (c : k_ctj (tX11_digitOf G l) [vI x0] h P) (K : ∀ h1 v, P h1 v → k_X (jX11_codeOf G l h0) h1 4 [(1, vI x1), (2, vI x2)] [vJ v] Q) : k_X (jX11_codeOf G l h0) h 0 [(0, vI x0), (1, vI x1), (2, vI x2)] [] Q := by
  obtain ⟨h1, v, c, p⟩ := c
  obtain ⟨h', r, K, q⟩ := K h1 v p
  exact ⟨h', r, j_iload_n dX11_codeOf_0 rfl rfl <| j_callS (v := some (vJ v)) (as := [vI x0]) dX11_codeOf_1 kc_X11_430 rfl rfl (by decide) (Nat.le_of_ble_eq_true rfl) c (j_pick [1, 2] rfl K), q⟩
theorem bX11_codeOf_4 {h0 h : k_H} {Q : k_H → k_R → Prop} {x1 x2 : Int32} {s0 : Int64} {P : k_H → Int64 → Prop} (c : k_ctj (tX11_digitOf G l) [vI x1] h P) (K : ∀ h1 v, P h1 v → k_X (jX11_codeOf G l h0) h1 12 [(2, vI x2)] [vJ v, vJ (s0 * 11000)] Q) : k_X (jX11_codeOf G l h0) h 4 [(1, vI x1), (2, vI x2)] [vJ s0] Q := by
  obtain ⟨h1, v, c, p⟩ := c
  obtain ⟨h', r, K, q⟩ := K h1 v p
  exact ⟨h', r, j_ldc2 (v := 11000) dX11_codeOf_4 ki_X11_434 <| j_lmul dX11_codeOf_7 <| j_iload_n dX11_codeOf_8 rfl rfl <| j_callS (v := some (vJ v)) (as := [vI x1]) dX11_codeOf_9 kc_X11_430 rfl rfl (by decide) (Nat.le_of_ble_eq_true rfl) c (j_pick [1] rfl K), q⟩
theorem bX11_codeOf_12 {h0 h : k_H} {Q : k_H → k_R → Prop} {x2 : Int32} {s0 s1 : Int64} {P : k_H → Int64 → Prop} (c : k_ctj (tX11_digitOf G l) [vI x2] h P) (K : ∀ h1 v, P h1 v → k_X (jX11_codeOf G l h0) h1 21 [] [vJ v, vJ ((s0 + s1) * 11000)] Q) : k_X (jX11_codeOf G l h0) h 12 [(2, vI x2)] [vJ s1, vJ s0] Q := by
  obtain ⟨h1, v, c, p⟩ := c
  obtain ⟨h', r, K, q⟩ := K h1 v p
  exact ⟨h', r, j_ladd dX11_codeOf_12 <| j_ldc2 (v := 11000) dX11_codeOf_13 ki_X11_434 <| j_lmul dX11_codeOf_16 <| j_iload_n dX11_codeOf_17 rfl rfl <| j_callS (v := some (vJ v)) (as := [vI x2]) dX11_codeOf_18 kc_X11_430 rfl rfl (by decide) (Nat.le_of_ble_eq_true rfl) c (j_pick [] rfl K), q⟩
theorem bX11_codeOf_21 {h0 h : k_H} {Q : k_H → k_R → Prop} {s0 s1 : Int64} (q : Q h (.inl (some (vJ (s0 + s1))))) : k_X (jX11_codeOf G l h0) h 21 [] [vJ s1, vJ s0] Q := by
  exact ⟨_, _, j_ladd dX11_codeOf_21 <| j_lret dX11_codeOf_22 rfl, q⟩
theorem eX11_codeOf_ {G : k_G} {l : Launch} (hfl : l.flags = flags0) {h : k_H} {Q : k_H → k_R → Prop} {x0 : Int32} {x1 : Int32} (K : k_X (jX11_codeOf_ G l h) h 0 [(0, vI x0), (1, vI x1)] [] Q) : k_ct (tX11_codeOf_ G l) [vI x0, vI x1] h Q := by
  obtain ⟨h', r, K, q⟩ := K
  exact ⟨h', r, k_CtOf (by decide +kernel) (Nat.le_of_ble_eq_true rfl) K hfl, q⟩

theorem bX11_codeOf__0 {h0 h : k_H} {Q : k_H → k_R → Prop} {x0 x1 : Int32} {P : k_H → Int64 → Prop} (c : k_ctj (tX11_codeOf G l) [vI x0, vI x1, vI 10000] h P) (K : ∀ h1 v, P h1 v → k_X (jX11_codeOf_ G l h0) h1 8 [] [vJ v] Q) : k_X (jX11_codeOf_ G l h0) h 0 [(0, vI x0), (1, vI x1)] [] Q := by
  obtain ⟨h1, v, c, p⟩ := c
  obtain ⟨h', r, K, q⟩ := K h1 v p
  exact ⟨h', r, j_iload_n dX11_codeOf__0 rfl rfl <| j_iload_n dX11_codeOf__1 rfl rfl <| j_sipush (v := 10000) dX11_codeOf__2 (by decide) <| j_callS (v := some (vJ v)) (as := [vI x0, vI x1, vI 10000]) dX11_codeOf__5 kc_X11_100 rfl rfl (by decide) (Nat.le_of_ble_eq_true rfl) c (j_pick [] rfl K), q⟩
theorem bX11_codeOf__8 {h0 h : k_H} {Q : k_H → k_R → Prop} {s0 : Int64} (q : Q h (.inl (some (vJ s0)))) : k_X (jX11_codeOf_ G l h0) h 8 [] [vJ s0] Q := by
  exact ⟨_, _, j_lret dX11_codeOf__8 rfl, q⟩
theorem eX11_unitOf {G : k_G} {l : Launch} (hfl : l.flags = flags0) {h : k_H} {Q : k_H → k_R → Prop} {x0 : Int32} (K : k_X (jX11_unitOf G l h) h 0 [(0, vI x0)] [] Q) : k_ct (tX11_unitOf G l) [vI x0] h Q := by
  obtain ⟨h', r, K, q⟩ := K
  exact ⟨h', r, k_CtOf (by decide +kernel) (Nat.le_of_ble_eq_true rfl) K hfl, q⟩

theorem bX11_unitOf_0 {h0 h : k_H} {Q : k_H → k_R → Prop} {x0 : Int32} (K1 : ¬ (x0 = 0) → k_X (jX11_unitOf G l h0) h 8 [(0, vI x0)] [] Q) (K2 : x0 = 0 → k_X (jX11_unitOf G l h0) h 4 [] [] Q) : k_X (jX11_unitOf G l h0) h 0 [(0, vI x0)] [] Q := by
  by_cases hc : x0 = 0
  · skip
    obtain ⟨h', r, K, q⟩ := K2 hc
    exact ⟨h', r, j_iload_n dX11_unitOf_0 rfl rfl <| j_if_ne_f dX11_unitOf_1 8 (by decide) hc (j_pick [] rfl K), q⟩
  · skip
    obtain ⟨h', r, K, q⟩ := K1 hc
    exact ⟨h', r, j_iload_n dX11_unitOf_0 rfl rfl <| j_if_ne_t (tgt := 8) dX11_unitOf_1 (by decide) hc K, q⟩
theorem bX11_unitOf_4 {h0 h : k_H} {Q : k_H → k_R → Prop} (q : Q h (.inl (some (vJ 121000000)))) : k_X (jX11_unitOf G l h0) h 4 [] [] Q := by
  exact ⟨_, _, j_ldc2 (v := 121000000) dX11_unitOf_4 ki_X11_436 <| j_lret dX11_unitOf_7 rfl, q⟩
theorem bX11_unitOf_8 {h0 h : k_H} {Q : k_H → k_R → Prop} {x0 : Int32} (K1 : ¬ (x0 = 1) → k_X (jX11_unitOf G l h0) h 19 [] [] Q) (K2 : x0 = 1 → k_X (jX11_unitOf G l h0) h 13 [] [] Q) : k_X (jX11_unitOf G l h0) h 8 [(0, vI x0)] [] Q := by
  by_cases hc : x0 = 1
  · skip
    obtain ⟨h', r, K, q⟩ := K2 hc
    exact ⟨h', r, j_iload_n dX11_unitOf_8 rfl rfl <| j_iconst (v := 1) dX11_unitOf_9 (by decide) <| j_icmp_ne_f dX11_unitOf_10 19 (by decide) hc (j_pick [] rfl K), q⟩
  · skip
    obtain ⟨h', r, K, q⟩ := K1 hc
    exact ⟨h', r, j_iload_n dX11_unitOf_8 rfl rfl <| j_iconst (v := 1) dX11_unitOf_9 (by decide) <| j_icmp_ne_t (tgt := 19) dX11_unitOf_10 (by decide) hc (j_pick [] rfl K), q⟩
theorem bX11_unitOf_13 {h0 h : k_H} {Q : k_H → k_R → Prop} (K : k_X (jX11_unitOf G l h0) h 20 [] [vJ 11000] Q) : k_X (jX11_unitOf G l h0) h 13 [] [] Q := by
  obtain ⟨h', r, K, q⟩ := K
  exact ⟨h', r, j_ldc2 (v := 11000) dX11_unitOf_13 ki_X11_434 <| j_goto (tgt := 20) dX11_unitOf_16 (by decide) <| K, q⟩
theorem bX11_unitOf_19 {h0 h : k_H} {Q : k_H → k_R → Prop} (K : k_X (jX11_unitOf G l h0) h 20 [] [vJ 1] Q) : k_X (jX11_unitOf G l h0) h 19 [] [] Q := by
  obtain ⟨h', r, K, q⟩ := K
  exact ⟨h', r, j_lconst (v := 1) dX11_unitOf_19 (by decide) <| K, q⟩
theorem bX11_unitOf_20 {h0 h : k_H} {Q : k_H → k_R → Prop} {s0 : Int64} (q : Q h (.inl (some (vJ s0)))) : k_X (jX11_unitOf G l h0) h 20 [] [vJ s0] Q := by
  exact ⟨_, _, j_lret dX11_unitOf_20 rfl, q⟩
theorem eX11_numberOf {G : k_G} {l : Launch} (hfl : l.flags = flags0) {h : k_H} {Q : k_H → k_R → Prop} {x0 : Int64} {x2 : Int32} (K : k_X (jX11_numberOf G l h) h 0 [(0, vJ x0), (2, vI x2)] [] Q) : k_ct (tX11_numberOf G l) [vJ x0, vI x2] h Q := by
  obtain ⟨h', r, K, q⟩ := K
  exact ⟨h', r, k_CtOf (by decide +kernel) (Nat.le_of_ble_eq_true rfl) K hfl, q⟩

theorem bX11_numberOf_0 {h0 h : k_H} {Q : k_H → k_R → Prop} {x0 : Int64} {x2 : Int32} (K1 : ¬ (x2 = 0) → k_X (jX11_numberOf G l h0) h 23 [(0, vJ x0), (2, vI x2), (3, vJ (x0 - (x0 / 11000) * 11000))] [] Q) (K2 : x2 = 0 → k_X (jX11_numberOf G l h0) h 10 [(0, vJ x0)] [] Q) : k_X (jX11_numberOf G l h0) h 0 [(0, vJ x0), (2, vI x2)] [] Q := by
  by_cases hc : x2 = 0
  · skip
    obtain ⟨h', r, K, q⟩ := K2 hc
    exact ⟨h', r, j_lload_n dX11_numberOf_0 rfl rfl <| j_ldc2 (v := 11000) dX11_numberOf_1 ki_X11_434 <| j_lrem dX11_numberOf_4 (by decide) <| j_lstore_n dX11_numberOf_5 rfl (by decide) rfl <| j_iload_n dX11_numberOf_6 rfl rfl <| j_if_ne_f dX11_numberOf_7 23 (by decide) hc (j_pick [0] rfl K), q⟩
  · skip
    obtain ⟨h', r, K, q⟩ := K1 hc
    exact ⟨h', r, j_lload_n dX11_numberOf_0 rfl rfl <| j_ldc2 (v := 11000) dX11_numberOf_1 ki_X11_434 <| j_lrem dX11_numberOf_4 (by decide) <| j_lstore_n dX11_numberOf_5 rfl (by decide) rfl <| j_iload_n dX11_numberOf_6 rfl rfl <| j_if_ne_t (tgt := 23) dX11_numberOf_7 (by decide) hc K, q⟩
theorem bX11_numberOf_10 {h0 h : k_H} {Q : k_H → k_R → Prop} {x0 : Int64} (K : k_X (jX11_numberOf G l h0) h 38 [(3, vJ ((x0 / 121000000) - ((x0 / 121000000) / 11000) * 11000))] [] Q) : k_X (jX11_numberOf G l h0) h 10 [(0, vJ x0)] [] Q := by
  obtain ⟨h', r, K, q⟩ := K
  exact ⟨h', r, j_lload_n dX11_numberOf_10 rfl rfl <| j_ldc2 (v := 121000000) dX11_numberOf_11 ki_X11_436 <| j_ldiv dX11_numberOf_14 (by decide) <| j_ldc2 (v := 11000) dX11_numberOf_15 ki_X11_434 <| j_lrem dX11_numberOf_18 (by decide) <| j_lstore_n dX11_numberOf_19 rfl (by decide) rfl <| j_goto (tgt := 38) dX11_numberOf_20 (by decide) <| (j_pick [1] rfl K), q⟩
theorem bX11_numberOf_23 {h0 h : k_H} {Q : k_H → k_R → Prop} {x0 x3 : Int64} {x2 : Int32} (K1 : ¬ (x2 = 1) → k_X (jX11_numberOf G l h0) h 38 [(3, vJ x3)] [] Q) (K2 : x2 = 1 → k_X (jX11_numberOf G l h0) h 28 [(0, vJ x0)] [] Q) : k_X (jX11_numberOf G l h0) h 23 [(0, vJ x0), (2, vI x2), (3, vJ x3)] [] Q := by
  by_cases hc : x2 = 1
  · skip
    obtain ⟨h', r, K, q⟩ := K2 hc
    exact ⟨h', r, j_iload_n dX11_numberOf_23 rfl rfl <| j_iconst (v := 1) dX11_numberOf_24 (by decide) <| j_icmp_ne_f dX11_numberOf_25 38 (by decide) hc (j_pick [0] rfl K), q⟩
  · skip
    obtain ⟨h', r, K, q⟩ := K1 hc
    exact ⟨h', r, j_iload_n dX11_numberOf_23 rfl rfl <| j_iconst (v := 1) dX11_numberOf_24 (by decide) <| j_icmp_ne_t (tgt := 38) dX11_numberOf_25 (by decide) hc (j_pick [2] rfl K), q⟩
theorem bX11_numberOf_28 {h0 h : k_H} {Q : k_H → k_R → Prop} {x0 : Int64} (K : k_X (jX11_numberOf G l h0) h 38 [(3, vJ ((x0 / 11000) - ((x0 / 11000) / 11000) * 11000))] [] Q) : k_X (jX11_numberOf G l h0) h 28 [(0, vJ x0)] [] Q := by
  obtain ⟨h', r, K, q⟩ := K
  exact ⟨h', r, j_lload_n dX11_numberOf_28 rfl rfl <| j_ldc2 (v := 11000) dX11_numberOf_29 ki_X11_434 <| j_ldiv dX11_numberOf_32 (by decide) <| j_ldc2 (v := 11000) dX11_numberOf_33 ki_X11_434 <| j_lrem dX11_numberOf_36 (by decide) <| j_lstore_n dX11_numberOf_37 rfl (by decide) rfl <| (j_pick [1] rfl K), q⟩
theorem bX11_numberOf_38 {h0 h : k_H} {Q : k_H → k_R → Prop} {x3 : Int64} (K1 : ¬ (x3 = 0) → k_X (jX11_numberOf G l h0) h 50 [(3, vJ x3)] [] Q) (K2 : x3 = 0 → k_X (jX11_numberOf G l h0) h 44 [] [] Q) : k_X (jX11_numberOf G l h0) h 38 [(3, vJ x3)] [] Q := by
  by_cases hc : x3 = 0
  · skip
    obtain ⟨h', r, K, q⟩ := K2 hc
    exact ⟨h', r, j_lload_n dX11_numberOf_38 rfl rfl <| j_lconst (v := 0) dX11_numberOf_39 (by decide) <| j_lcmp dX11_numberOf_40 <| j_if_ne_f dX11_numberOf_41 50 (by decide) ((lg_cmp_eq _ _).mpr hc) (j_pick [] rfl K), q⟩
  · skip
    obtain ⟨h', r, K, q⟩ := K1 hc
    exact ⟨h', r, j_lload_n dX11_numberOf_38 rfl rfl <| j_lconst (v := 0) dX11_numberOf_39 (by decide) <| j_lcmp dX11_numberOf_40 <| j_if_ne_t (tgt := 50) dX11_numberOf_41 (by decide) ((not_congr (lg_cmp_eq _ _)).mpr hc) K, q⟩
theorem bX11_numberOf_44 {h0 h : k_H} {Q : k_H → k_R → Prop} (K : k_X (jX11_numberOf G l h0) h 56 [] [vI 10000] Q) : k_X (jX11_numberOf G l h0) h 44 [] [] Q := by
  obtain ⟨h', r, K, q⟩ := K
  exact ⟨h', r, j_sipush (v := 10000) dX11_numberOf_44 (by decide) <| j_goto (tgt := 56) dX11_numberOf_47 (by decide) <| K, q⟩
theorem bX11_numberOf_50 {h0 h : k_H} {Q : k_H → k_R → Prop} {x3 : Int64} (K : k_X (jX11_numberOf G l h0) h 56 [] [vI ((x3 - 1000).toInt32)] Q) : k_X (jX11_numberOf G l h0) h 50 [(3, vJ x3)] [] Q := by
  obtain ⟨h', r, K, q⟩ := K
  exact ⟨h', r, j_lload_n dX11_numberOf_50 rfl rfl <| j_ldc2 (v := 1000) dX11_numberOf_51 ki_X11_428 <| j_lsub dX11_numberOf_54 <| j_l2i dX11_numberOf_55 <| (j_pick [] rfl K), q⟩
theorem bX11_numberOf_56 {h0 h : k_H} {Q : k_H → k_R → Prop} {s0 : Int32} (q : Q h (.inl (some (vI s0)))) : k_X (jX11_numberOf G l h0) h 56 [] [vI s0] Q := by
  exact ⟨_, _, j_iret dX11_numberOf_56 rfl, q⟩
theorem eX11_withNumber {G : k_G} {l : Launch} (hfl : l.flags = flags0) {h : k_H} {Q : k_H → k_R → Prop} {x0 : Int64} {x2 : Int32} {x3 : Int32} (K : k_X (jX11_withNumber G l h) h 0 [(0, vJ x0), (2, vI x2), (3, vI x3)] [] Q) : k_ct (tX11_withNumber G l) [vJ x0, vI x2, vI x3] h Q := by
  obtain ⟨h', r, K, q⟩ := K
  exact ⟨h', r, k_CtOf (by decide +kernel) (Nat.le_of_ble_eq_true rfl) K hfl, q⟩

theorem bX11_withNumber_0 {h0 h : k_H} {Q : k_H → k_R → Prop} {x0 : Int64} {x2 x3 : Int32} {P : k_H → Int64 → Prop} (c : k_ctj (tX11_digitOf G l) [vI x3] h P) (K : ∀ h1 v, P h1 v → k_X (jX11_withNumber G l h0) h1 5 [(0, vJ x0), (2, vI x2)] [vJ v, vJ x0] Q) : k_X (jX11_withNumber G l h0) h 0 [(0, vJ x0), (2, vI x2), (3, vI x3)] [] Q := by
  obtain ⟨h1, v, c, p⟩ := c
  obtain ⟨h', r, K, q⟩ := K h1 v p
  exact ⟨h', r, j_lload_n dX11_withNumber_0 rfl rfl <| j_iload_n dX11_withNumber_1 rfl rfl <| j_callS (v := some (vJ v)) (as := [vI x3]) dX11_withNumber_2 kc_X11_430 rfl rfl (by decide) (Nat.le_of_ble_eq_true rfl) c (j_pick [0, 1] rfl K), q⟩
theorem bX11_withNumber_5 {h0 h : k_H} {Q : k_H → k_R → Prop} {x0 s0 s1 : Int64} {x2 : Int32} {P : k_H → Int32 → Prop} (c : k_cti (tX11_numberOf G l) [vJ x0, vI x2] h P) (K : ∀ h1 v, P h1 v → k_X (jX11_withNumber G l h0) h1 10 [(2, vI x2)] [vI v, vJ s1, vJ s0] Q) : k_X (jX11_withNumber G l h0) h 5 [(0, vJ x0), (2, vI x2)] [vJ s1, vJ s0] Q := by
  obtain ⟨h1, v, c, p⟩ := c
  obtain ⟨h', r, K, q⟩ := K h1 v p
  exact ⟨h', r, j_lload_n dX11_withNumber_5 rfl rfl <| j_iload_n dX11_withNumber_6 rfl rfl <| j_callS (v := some (vI v)) (as := [vJ x0, vI x2]) dX11_withNumber_7 kc_X11_176 rfl rfl (by decide) (Nat.le_of_ble_eq_true rfl) c (j_pick [1] rfl K), q⟩
theorem bX11_withNumber_10 {h0 h : k_H} {Q : k_H → k_R → Prop} {x2 s2 : Int32} {s0 s1 : Int64} {P : k_H → Int64 → Prop} (c : k_ctj (tX11_digitOf G l) [vI s2] h P) (K : ∀ h1 v, P h1 v → k_X (jX11_withNumber G l h0) h1 13 [(2, vI x2)] [vJ v, vJ s1, vJ s0] Q) : k_X (jX11_withNumber G l h0) h 10 [(2, vI x2)] [vI s2, vJ s1, vJ s0] Q := by
  obtain ⟨h1, v, c, p⟩ := c
  obtain ⟨h', r, K, q⟩ := K h1 v p
  exact ⟨h', r, j_callS (v := some (vJ v)) (as := [vI s2]) dX11_withNumber_10 kc_X11_430 rfl rfl (by decide) (Nat.le_of_ble_eq_true rfl) c K, q⟩
theorem bX11_withNumber_13 {h0 h : k_H} {Q : k_H → k_R → Prop} {x2 : Int32} {s0 s1 s2 : Int64} {P : k_H → Int64 → Prop} (c : k_ctj (tX11_unitOf G l) [vI x2] h P) (K : ∀ h1 v, P h1 v → k_X (jX11_withNumber G l h0) h1 18 [] [vJ v, vJ (s1 - s2), vJ s0] Q) : k_X (jX11_withNumber G l h0) h 13 [(2, vI x2)] [vJ s2, vJ s1, vJ s0] Q := by
  obtain ⟨h1, v, c, p⟩ := c
  obtain ⟨h', r, K, q⟩ := K h1 v p
  exact ⟨h', r, j_lsub dX11_withNumber_13 <| j_iload_n dX11_withNumber_14 rfl rfl <| j_callS (v := some (vJ v)) (as := [vI x2]) dX11_withNumber_15 kc_X11_438 rfl rfl (by decide) (Nat.le_of_ble_eq_true rfl) c (j_pick [] rfl K), q⟩
theorem bX11_withNumber_18 {h0 h : k_H} {Q : k_H → k_R → Prop} {s0 s1 s2 : Int64} (q : Q h (.inl (some (vJ (s0 + (s1 * s2)))))) : k_X (jX11_withNumber G l h0) h 18 [] [vJ s2, vJ s1, vJ s0] Q := by
  exact ⟨_, _, j_lmul dX11_withNumber_18 <| j_ladd dX11_withNumber_19 <| j_lret dX11_withNumber_20 rfl, q⟩
theorem eX11_lowOf {G : k_G} {l : Launch} (hfl : l.flags = flags0) {h : k_H} {Q : k_H → k_R → Prop} {x0 : Int32} {x1 : Int32} (K : k_X (jX11_lowOf G l h) h 0 [(0, vI x0), (1, vI x1)] [] Q) : k_ct (tX11_lowOf G l) [vI x0, vI x1] h Q := by
  obtain ⟨h', r, K, q⟩ := K
  exact ⟨h', r, k_CtOf (by decide +kernel) (Nat.le_of_ble_eq_true rfl) K hfl, q⟩

theorem bX11_lowOf_0 {h0 h : k_H} {Q : k_H → k_R → Prop} {x0 x1 : Int32} (K1 : ¬ (x0 = 10000) → k_X (jX11_lowOf G l h0) h 11 [(0, vI x0), (1, vI x1)] [] Q) (K2 : x0 = 10000 → k_X (jX11_lowOf G l h0) h 7 [] [] Q) : k_X (jX11_lowOf G l h0) h 0 [(0, vI x0), (1, vI x1)] [] Q := by
  by_cases hc : x0 = 10000
  · skip
    obtain ⟨h', r, K, q⟩ := K2 hc
    exact ⟨h', r, j_iload_n dX11_lowOf_0 rfl rfl <| j_sipush (v := 10000) dX11_lowOf_1 (by decide) <| j_icmp_ne_f dX11_lowOf_4 11 (by decide) hc (j_pick [] rfl K), q⟩
  · skip
    obtain ⟨h', r, K, q⟩ := K1 hc
    exact ⟨h', r, j_iload_n dX11_lowOf_0 rfl rfl <| j_sipush (v := 10000) dX11_lowOf_1 (by decide) <| j_icmp_ne_t (tgt := 11) dX11_lowOf_4 (by decide) hc K, q⟩
theorem bX11_lowOf_7 {h0 h : k_H} {Q : k_H → k_R → Prop} (K : k_X (jX11_lowOf G l h0) h 16 [] [vJ 0] Q) : k_X (jX11_lowOf G l h0) h 7 [] [] Q := by
  obtain ⟨h', r, K, q⟩ := K
  exact ⟨h', r, j_lconst (v := 0) dX11_lowOf_7 (by decide) <| j_goto (tgt := 16) dX11_lowOf_8 (by decide) <| K, q⟩
theorem bX11_lowOf_11 {h0 h : k_H} {Q : k_H → k_R → Prop} {x0 x1 : Int32} {P : k_H → Int64 → Prop} (c : k_ctj (tX11_codeOf_ G l) [vI x0, vI x1] h P) (K : ∀ h1 v, P h1 v → k_X (jX11_lowOf G l h0) h1 16 [] [vJ v] Q) : k_X (jX11_lowOf G l h0) h 11 [(0, vI x0), (1, vI x1)] [] Q := by
  obtain ⟨h1, v, c, p⟩ := c
  obtain ⟨h', r, K, q⟩ := K h1 v p
  exact ⟨h', r, j_iload_n dX11_lowOf_11 rfl rfl <| j_iload_n dX11_lowOf_12 rfl rfl <| j_callS (v := some (vJ v)) (as := [vI x0, vI x1]) dX11_lowOf_13 kc_X11_302 rfl rfl (by decide) (Nat.le_of_ble_eq_true rfl) c (j_pick [] rfl K), q⟩
theorem bX11_lowOf_16 {h0 h : k_H} {Q : k_H → k_R → Prop} {s0 : Int64} (q : Q h (.inl (some (vJ s0)))) : k_X (jX11_lowOf G l h0) h 16 [] [vJ s0] Q := by
  exact ⟨_, _, j_lret dX11_lowOf_16 rfl, q⟩
theorem eX11_highOf {G : k_G} {l : Launch} (hfl : l.flags = flags0) {h : k_H} {Q : k_H → k_R → Prop} {x0 : Int32} {x1 : Int32} (K : k_X (jX11_highOf G l h) h 0 [(0, vI x0), (1, vI x1)] [] Q) : k_ct (tX11_highOf G l) [vI x0, vI x1] h Q := by
  obtain ⟨h', r, K, q⟩ := K
  exact ⟨h', r, k_CtOf (by decide +kernel) (Nat.le_of_ble_eq_true rfl) K hfl, q⟩

theorem bX11_highOf_0 {h0 h : k_H} {Q : k_H → k_R → Prop} {x0 x1 : Int32} (K1 : ¬ (x0 = 10000) → k_X (jX11_highOf G l h0) h 11 [(0, vI x0), (1, vI x1)] [] Q) (K2 : x0 = 10000 → k_X (jX11_highOf G l h0) h 7 [] [] Q) : k_X (jX11_highOf G l h0) h 0 [(0, vI x0), (1, vI x1)] [] Q := by
  by_cases hc : x0 = 10000
  · skip
    obtain ⟨h', r, K, q⟩ := K2 hc
    exact ⟨h', r, j_iload_n dX11_highOf_0 rfl rfl <| j_sipush (v := 10000) dX11_highOf_1 (by decide) <| j_icmp_ne_f dX11_highOf_4 11 (by decide) hc (j_pick [] rfl K), q⟩
  · skip
    obtain ⟨h', r, K, q⟩ := K1 hc
    exact ⟨h', r, j_iload_n dX11_highOf_0 rfl rfl <| j_sipush (v := 10000) dX11_highOf_1 (by decide) <| j_icmp_ne_t (tgt := 11) dX11_highOf_4 (by decide) hc K, q⟩
theorem bX11_highOf_7 {h0 h : k_H} {Q : k_H → k_R → Prop} (q : Q h (.inl (some (vJ 1331000000000)))) : k_X (jX11_highOf G l h0) h 7 [] [] Q := by
  exact ⟨_, _, j_ldc2 (v := 1331000000000) dX11_highOf_7 ki_X11_441 <| j_lret dX11_highOf_10 rfl, q⟩
theorem bX11_highOf_11 {h0 h : k_H} {Q : k_H → k_R → Prop} {x0 x1 : Int32} {P : k_H → Int64 → Prop} (c : k_ctj (tX11_codeOf_ G l) [vI x0, vI x1] h P) (K : ∀ h1 v, P h1 v → k_X (jX11_highOf G l h0) h1 16 [(1, vI x1)] [vJ v] Q) : k_X (jX11_highOf G l h0) h 11 [(0, vI x0), (1, vI x1)] [] Q := by
  obtain ⟨h1, v, c, p⟩ := c
  obtain ⟨h', r, K, q⟩ := K h1 v p
  exact ⟨h', r, j_iload_n dX11_highOf_11 rfl rfl <| j_iload_n dX11_highOf_12 rfl rfl <| j_callS (v := some (vJ v)) (as := [vI x0, vI x1]) dX11_highOf_13 kc_X11_302 rfl rfl (by decide) (Nat.le_of_ble_eq_true rfl) c (j_pick [1] rfl K), q⟩
theorem bX11_highOf_16 {h0 h : k_H} {Q : k_H → k_R → Prop} {x1 : Int32} {s0 : Int64} (K1 : ¬ (x1 = 10000) → k_X (jX11_highOf G l h0) h 27 [] [vJ s0] Q) (K2 : x1 = 10000 → k_X (jX11_highOf G l h0) h 23 [] [vJ s0] Q) : k_X (jX11_highOf G l h0) h 16 [(1, vI x1)] [vJ s0] Q := by
  by_cases hc : x1 = 10000
  · skip
    obtain ⟨h', r, K, q⟩ := K2 hc
    exact ⟨h', r, j_iload_n dX11_highOf_16 rfl rfl <| j_sipush (v := 10000) dX11_highOf_17 (by decide) <| j_icmp_ne_f dX11_highOf_20 27 (by decide) hc (j_pick [] rfl K), q⟩
  · skip
    obtain ⟨h', r, K, q⟩ := K1 hc
    exact ⟨h', r, j_iload_n dX11_highOf_16 rfl rfl <| j_sipush (v := 10000) dX11_highOf_17 (by decide) <| j_icmp_ne_t (tgt := 27) dX11_highOf_20 (by decide) hc (j_pick [] rfl K), q⟩
theorem bX11_highOf_23 {h0 h : k_H} {Q : k_H → k_R → Prop} {s0 : Int64} (K : k_X (jX11_highOf G l h0) h 28 [] [vI 0, vJ s0] Q) : k_X (jX11_highOf G l h0) h 23 [] [vJ s0] Q := by
  obtain ⟨h', r, K, q⟩ := K
  exact ⟨h', r, j_iconst (v := 0) dX11_highOf_23 (by decide) <| j_goto (tgt := 28) dX11_highOf_24 (by decide) <| K, q⟩
theorem bX11_highOf_27 {h0 h : k_H} {Q : k_H → k_R → Prop} {s0 : Int64} (K : k_X (jX11_highOf G l h0) h 28 [] [vI 1, vJ s0] Q) : k_X (jX11_highOf G l h0) h 27 [] [vJ s0] Q := by
  obtain ⟨h', r, K, q⟩ := K
  exact ⟨h', r, j_iconst (v := 1) dX11_highOf_27 (by decide) <| K, q⟩
theorem bX11_highOf_28 {h0 h : k_H} {Q : k_H → k_R → Prop} {s0 : Int64} {s1 : Int32} {P : k_H → Int64 → Prop} (c : k_ctj (tX11_unitOf G l) [vI s1] h P) (K : ∀ h1 v, P h1 v → k_X (jX11_highOf G l h0) h1 31 [] [vJ v, vJ s0] Q) : k_X (jX11_highOf G l h0) h 28 [] [vI s1, vJ s0] Q := by
  obtain ⟨h1, v, c, p⟩ := c
  obtain ⟨h', r, K, q⟩ := K h1 v p
  exact ⟨h', r, j_callS (v := some (vJ v)) (as := [vI s1]) dX11_highOf_28 kc_X11_438 rfl rfl (by decide) (Nat.le_of_ble_eq_true rfl) c K, q⟩
theorem bX11_highOf_31 {h0 h : k_H} {Q : k_H → k_R → Prop} {s0 s1 : Int64} (q : Q h (.inl (some (vJ (s0 + s1))))) : k_X (jX11_highOf G l h0) h 31 [] [vJ s1, vJ s0] Q := by
  exact ⟨_, _, j_ladd dX11_highOf_31 <| j_lret dX11_highOf_32 rfl, q⟩
theorem eX11_byteOf {G : k_G} {l : Launch} (hfl : l.flags = flags0) {h : k_H} {Q : k_H → k_R → Prop} {x0 : Int32} {x1 : Int32} (K : k_X (jX11_byteOf G l h) h 0 [(0, vI x0), (1, vI x1)] [] Q) : k_ct (tX11_byteOf G l) [vI x0, vI x1] h Q := by
  obtain ⟨h', r, K, q⟩ := K
  exact ⟨h', r, k_CtOf (by decide +kernel) (Nat.le_of_ble_eq_true rfl) K hfl, q⟩

theorem bX11_byteOf_0 {h0 h : k_H} {Q : k_H → k_R → Prop} {x0 x1 : Int32} (K1 : ¬ (x1 = 0) → k_X (jX11_byteOf G l h0) h 14 [(0, vI x0), (1, vI x1)] [] Q) (K2 : x1 = 0 → k_X (jX11_byteOf G l h0) h 4 [(0, vI x0)] [] Q) : k_X (jX11_byteOf G l h0) h 0 [(0, vI x0), (1, vI x1)] [] Q := by
  by_cases hc : x1 = 0
  · skip
    obtain ⟨h', r, K, q⟩ := K2 hc
    exact ⟨h', r, j_iload_n dX11_byteOf_0 rfl rfl <| j_if_ne_f dX11_byteOf_1 14 (by decide) hc (j_pick [0] rfl K), q⟩
  · skip
    obtain ⟨h', r, K, q⟩ := K1 hc
    exact ⟨h', r, j_iload_n dX11_byteOf_0 rfl rfl <| j_if_ne_t (tgt := 14) dX11_byteOf_1 (by decide) hc K, q⟩
theorem bX11_byteOf_4 {h0 h : k_H} {Q : k_H → k_R → Prop} {x0 : Int32} (K1 : 0 ≤ x0 → k_X (jX11_byteOf G l h0) h 12 [] [] Q) (K2 : ¬ (0 ≤ x0) → k_X (jX11_byteOf G l h0) h 8 [] [] Q) : k_X (jX11_byteOf G l h0) h 4 [(0, vI x0)] [] Q := by
  by_cases hc : 0 ≤ x0
  · skip
    obtain ⟨h', r, K, q⟩ := K1 hc
    exact ⟨h', r, j_iload_n dX11_byteOf_4 rfl rfl <| j_if_ge_t (tgt := 12) dX11_byteOf_5 (by decide) hc (j_pick [] rfl K), q⟩
  · skip
    obtain ⟨h', r, K, q⟩ := K2 hc
    exact ⟨h', r, j_iload_n dX11_byteOf_4 rfl rfl <| j_if_ge_f dX11_byteOf_5 12 (by decide) hc (j_pick [] rfl K), q⟩
theorem bX11_byteOf_8 {h0 h : k_H} {Q : k_H → k_R → Prop} (K : k_X (jX11_byteOf G l h0) h 13 [] [vI 1] Q) : k_X (jX11_byteOf G l h0) h 8 [] [] Q := by
  obtain ⟨h', r, K, q⟩ := K
  exact ⟨h', r, j_iconst (v := 1) dX11_byteOf_8 (by decide) <| j_goto (tgt := 13) dX11_byteOf_9 (by decide) <| K, q⟩
theorem bX11_byteOf_12 {h0 h : k_H} {Q : k_H → k_R → Prop} (K : k_X (jX11_byteOf G l h0) h 13 [] [vI 2] Q) : k_X (jX11_byteOf G l h0) h 12 [] [] Q := by
  obtain ⟨h', r, K, q⟩ := K
  exact ⟨h', r, j_iconst (v := 2) dX11_byteOf_12 (by decide) <| K, q⟩
theorem bX11_byteOf_13 {h0 h : k_H} {Q : k_H → k_R → Prop} {s0 : Int32} (q : Q h (.inl (some (vI s0)))) : k_X (jX11_byteOf G l h0) h 13 [] [vI s0] Q := by
  exact ⟨_, _, j_iret dX11_byteOf_13 rfl, q⟩
theorem bX11_byteOf_14 {h0 h : k_H} {Q : k_H → k_R → Prop} {x0 x1 : Int32} (K1 : 0 ≤ x0 → k_X (jX11_byteOf G l h0) h 26 [(0, vI x0), (1, vI x1)] [] Q) (K2 : ¬ (0 ≤ x0) → k_X (jX11_byteOf G l h0) h 18 [(0, vI x0), (1, vI x1)] [] Q) : k_X (jX11_byteOf G l h0) h 14 [(0, vI x0), (1, vI x1)] [] Q := by
  by_cases hc : 0 ≤ x0
  · skip
    obtain ⟨h', r, K, q⟩ := K1 hc
    exact ⟨h', r, j_iload_n dX11_byteOf_14 rfl rfl <| j_if_ge_t (tgt := 26) dX11_byteOf_15 (by decide) hc K, q⟩
  · skip
    obtain ⟨h', r, K, q⟩ := K2 hc
    exact ⟨h', r, j_iload_n dX11_byteOf_14 rfl rfl <| j_if_ge_f dX11_byteOf_15 26 (by decide) hc K, q⟩
theorem bX11_byteOf_18 {h0 h : k_H} {Q : k_H → k_R → Prop} {x0 x1 : Int32} (K : k_X (jX11_byteOf G l h0) h 27 [(1, vI x1)] [vI (x0 + 1000)] Q) : k_X (jX11_byteOf G l h0) h 18 [(0, vI x0), (1, vI x1)] [] Q := by
  obtain ⟨h', r, K, q⟩ := K
  exact ⟨h', r, j_iload_n dX11_byteOf_18 rfl rfl <| j_sipush (v := 1000) dX11_byteOf_19 (by decide) <| j_iadd dX11_byteOf_22 <| j_goto (tgt := 27) dX11_byteOf_23 (by decide) <| (j_pick [1] rfl K), q⟩
theorem bX11_byteOf_26 {h0 h : k_H} {Q : k_H → k_R → Prop} {x0 x1 : Int32} (K : k_X (jX11_byteOf G l h0) h 27 [(1, vI x1)] [vI x0] Q) : k_X (jX11_byteOf G l h0) h 26 [(0, vI x0), (1, vI x1)] [] Q := by
  obtain ⟨h', r, K, q⟩ := K
  exact ⟨h', r, j_iload_n dX11_byteOf_26 rfl rfl <| (j_pick [1] rfl K), q⟩
theorem bX11_byteOf_27 {h0 h : k_H} {Q : k_H → k_R → Prop} {x1 s0 : Int32} (K1 : ¬ (x1 = 1) → k_X (jX11_byteOf G l h0) h 40 [(2, vI s0)] [] Q) (K2 : x1 = 1 → k_X (jX11_byteOf G l h0) h 33 [(2, vI s0)] [] Q) : k_X (jX11_byteOf G l h0) h 27 [(1, vI x1)] [vI s0] Q := by
  by_cases hc : x1 = 1
  · skip
    obtain ⟨h', r, K, q⟩ := K2 hc
    exact ⟨h', r, j_istore_n dX11_byteOf_27 rfl (by decide) rfl <| j_iload_n dX11_byteOf_28 rfl rfl <| j_iconst (v := 1) dX11_byteOf_29 (by decide) <| j_icmp_ne_f dX11_byteOf_30 40 (by decide) hc (j_pick [1] rfl K), q⟩
  · skip
    obtain ⟨h', r, K, q⟩ := K1 hc
    exact ⟨h', r, j_istore_n dX11_byteOf_27 rfl (by decide) rfl <| j_iload_n dX11_byteOf_28 rfl rfl <| j_iconst (v := 1) dX11_byteOf_29 (by decide) <| j_icmp_ne_t (tgt := 40) dX11_byteOf_30 (by decide) hc (j_pick [1] rfl K), q⟩
theorem bX11_byteOf_33 {h0 h : k_H} {Q : k_H → k_R → Prop} {x2 : Int32} (K : k_X (jX11_byteOf G l h0) h 44 [] [vI (x2 / 100)] Q) : k_X (jX11_byteOf G l h0) h 33 [(2, vI x2)] [] Q := by
  obtain ⟨h', r, K, q⟩ := K
  exact ⟨h', r, j_iload_n dX11_byteOf_33 rfl rfl <| j_bipush (v := 100) dX11_byteOf_34 (by decide) <| j_idiv dX11_byteOf_36 (by decide) <| j_goto (tgt := 44) dX11_byteOf_37 (by decide) <| (j_pick [] rfl K), q⟩
theorem bX11_byteOf_40 {h0 h : k_H} {Q : k_H → k_R → Prop} {x2 : Int32} (K : k_X (jX11_byteOf G l h0) h 44 [] [vI (x2 - (x2 / 100) * 100)] Q) : k_X (jX11_byteOf G l h0) h 40 [(2, vI x2)] [] Q := by
  obtain ⟨h', r, K, q⟩ := K
  exact ⟨h', r, j_iload_n dX11_byteOf_40 rfl rfl <| j_bipush (v := 100) dX11_byteOf_41 (by decide) <| j_irem dX11_byteOf_43 (by decide) <| (j_pick [] rfl K), q⟩
theorem bX11_byteOf_44 {h0 h : k_H} {Q : k_H → k_R → Prop} {s0 : Int32} (q : Q h (.inl (some (vI s0)))) : k_X (jX11_byteOf G l h0) h 44 [] [vI s0] Q := by
  exact ⟨_, _, j_iret dX11_byteOf_44 rfl, q⟩
theorem eX11_listSeen {G : k_G} {l : Launch} (hfl : l.flags = flags0) {h : k_H} {Q : k_H → k_R → Prop} {x0 : Nat} {x1 : Option Nat} {x2 : Int64} {x4 : Int64} (K : k_X (jX11_listSeen G l h) h 0 [(0, vR (some x0)), (1, vR x1), (2, vJ x2), (4, vJ x4)] [] Q) : k_ct (tX11_listSeen G l) [vR (some x0), vR x1, vJ x2, vJ x4] h Q := by
  obtain ⟨h', r, K, q⟩ := K
  exact ⟨h', r, k_CtOf (by decide +kernel) (Nat.le_of_ble_eq_true rfl) K hfl, q⟩

theorem bX11_listSeen_0 {h0 h : k_H} {Q : k_H → k_R → Prop} {x0 f1_4 : Nat} {x1 : Option Nat} {x2 x4 : Int64} {fs1 : List k_V} (o1 : h.1 x0 = some (k_o 14 fs1)) (g1_4 : fs1[4]? = some (vR (some f1_4))) (w : k_is h f1_4 2) {P : k_H → Prop} (c : k_ctv (tAL_clear G l) [vR (some f1_4)] h P) (K : ∀ h1, P h1 → k_X (jX11_listSeen G l h0) h1 7 [(0, vR (some x0)), (1, vR x1), (2, vJ x2), (4, vJ x4)] [] Q) : k_X (jX11_listSeen G l h0) h 0 [(0, vR (some x0)), (1, vR x1), (2, vJ x2), (4, vJ x4)] [] Q := by
  obtain ⟨h1, c, p⟩ := c
  obtain ⟨h', r, K, q⟩ := K h1 p
  exact ⟨h', r, j_aload_n dX11_listSeen_0 rfl rfl <| j_getf dX11_listSeen_1 kf_X11_39 o1 g1_4 <| j_callV (v := none) (as := []) dX11_listSeen_4 kc_X11_443 rfl rfl w (by decide) (Nat.le_of_ble_eq_true rfl) c K, q⟩
theorem bX11_listSeen_7 {h0 h : k_H} {Q : k_H → k_R → Prop} {x0 f1_0 : Nat} {x1 : Option Nat} {x2 x4 : Int64} {fs1 : List k_V} (o1 : h.1 x0 = some (k_o 14 fs1)) (g1_0 : fs1[0]? = some (vR (some f1_0))) (w : k_is h f1_0 11) {P : k_H → Int32 → Prop} (c : k_cti (tX8_placeFrom G l) [vR (some f1_0), vJ x2] h P) (K : ∀ h1 v, P h1 v → k_X (jX11_listSeen G l h0) h1 15 [(0, vR (some x0)), (1, vR x1), (4, vJ x4)] [vI v] Q) : k_X (jX11_listSeen G l h0) h 7 [(0, vR (some x0)), (1, vR x1), (2, vJ x2), (4, vJ x4)] [] Q := by
  obtain ⟨h1, v, c, p⟩ := c
  obtain ⟨h', r, K, q⟩ := K h1 v p
  exact ⟨h', r, j_aload_n dX11_listSeen_7 rfl rfl <| j_getf dX11_listSeen_8 kf_X11_14 o1 g1_0 <| j_lload_n dX11_listSeen_11 rfl rfl <| j_callV (v := some (vI v)) (as := [vJ x2]) dX11_listSeen_12 kc_X11_446 rfl rfl w (by decide) (Nat.le_of_ble_eq_true rfl) c (j_pick [0, 1, 3] rfl K), q⟩
theorem bX11_listSeen_15 {h0 h : k_H} {Q : k_H → k_R → Prop} {x0 : Nat} {x1 : Option Nat} {x4 : Int64} {s0 : Int32} (K : k_X (jX11_listSeen G l h0) h 17 [(0, vR (some x0)), (1, vR x1), (4, vJ x4), (6, vI s0)] [] Q) : k_X (jX11_listSeen G l h0) h 15 [(0, vR (some x0)), (1, vR x1), (4, vJ x4)] [vI s0] Q := by
  obtain ⟨h', r, K, q⟩ := K
  exact ⟨h', r, j_istore dX11_listSeen_15 (by decide) rfl <| K, q⟩
theorem bX11_listSeen_17 {h0 h : k_H} {Q : k_H → k_R → Prop} {x0 f1_0 f2_0 : Nat} {x1 : Option Nat} {x4 : Int64} {x6 : Int32} {fs1 : List k_V} (o1 : h.1 x0 = some (k_o 14 fs1)) (g1_0 : fs1[0]? = some (vR (some f1_0))) {fs2 : List k_V} (o2 : h.1 f1_0 = some (k_o 11 fs2)) (g2_0 : fs2[0]? = some (vR (some f2_0))) (w : k_is h f2_0 2) {P : k_H → Int32 → Prop} (c : k_cti (tAL_size G l) [vR (some f2_0)] h P) (K : ∀ h1 v, P h1 v → k_X (jX11_listSeen G l h0) h1 29 [(0, vR (some x0)), (1, vR x1), (4, vJ x4), (6, vI x6)] [vI v, vI x6] Q) : k_X (jX11_listSeen G l h0) h 17 [(0, vR (some x0)), (1, vR x1), (4, vJ x4), (6, vI x6)] [] Q := by
  obtain ⟨h1, v, c, p⟩ := c
  obtain ⟨h', r, K, q⟩ := K h1 v p
  exact ⟨h', r, j_iload dX11_listSeen_17 rfl <| j_aload_n dX11_listSeen_19 rfl rfl <| j_getf dX11_listSeen_20 kf_X11_14 o1 g1_0 <| j_getf dX11_listSeen_23 kf_X11_449 o2 g2_0 <| j_callV (v := some (vI v)) (as := []) dX11_listSeen_26 kc_X11_153 rfl rfl w (by decide) (Nat.le_of_ble_eq_true rfl) c K, q⟩
theorem bX11_listSeen_29 {h0 h : k_H} {Q : k_H → k_R → Prop} {x0 : Nat} {x1 : Option Nat} {x4 : Int64} {x6 s0 s1 : Int32} (K1 : s1 ≤ s0 → k_X (jX11_listSeen G l h0) h 119 [] [] Q) (K2 : ¬ (s1 ≤ s0) → k_X (jX11_listSeen G l h0) h 32 [(0, vR (some x0)), (1, vR x1), (4, vJ x4), (6, vI x6)] [] Q) : k_X (jX11_listSeen G l h0) h 29 [(0, vR (some x0)), (1, vR x1), (4, vJ x4), (6, vI x6)] [vI s1, vI s0] Q := by
  by_cases hc : s1 ≤ s0
  · skip
    obtain ⟨h', r, K, q⟩ := K1 hc
    exact ⟨h', r, j_icmp_ge_t (tgt := 119) dX11_listSeen_29 (by decide) hc (j_pick [] rfl K), q⟩
  · skip
    obtain ⟨h', r, K, q⟩ := K2 hc
    exact ⟨h', r, j_icmp_ge_f dX11_listSeen_29 119 (by decide) hc K, q⟩
theorem bX11_listSeen_32 {h0 h : k_H} {Q : k_H → k_R → Prop} {x0 f1_0 f2_0 : Nat} {x1 : Option Nat} {x4 : Int64} {x6 : Int32} {fs1 : List k_V} (o1 : h.1 x0 = some (k_o 14 fs1)) (g1_0 : fs1[0]? = some (vR (some f1_0))) {fs2 : List k_V} (o2 : h.1 f1_0 = some (k_o 11 fs2)) (g2_0 : fs2[0]? = some (vR (some f2_0))) (w : k_is h f2_0 2) {P : k_H → Option Nat → Prop} (c : k_ctr (tAL_get G l) [vR (some f2_0), vI x6] h P) (K : ∀ h1 v, P h1 v → k_X (jX11_listSeen G l h0) h1 44 [(0, vR (some x0)), (1, vR x1), (4, vJ x4), (6, vI x6)] [vR v] Q) : k_X (jX11_listSeen G l h0) h 32 [(0, vR (some x0)), (1, vR x1), (4, vJ x4), (6, vI x6)] [] Q := by
  obtain ⟨h1, v, c, p⟩ := c
  obtain ⟨h', r, K, q⟩ := K h1 v p
  exact ⟨h', r, j_aload_n dX11_listSeen_32 rfl rfl <| j_getf dX11_listSeen_33 kf_X11_14 o1 g1_0 <| j_getf dX11_listSeen_36 kf_X11_449 o2 g2_0 <| j_iload dX11_listSeen_39 rfl <| j_callV (v := some (vR v)) (as := [vI x6]) dX11_listSeen_41 kc_X11_166 rfl rfl w (by decide) (Nat.le_of_ble_eq_true rfl) c K, q⟩
theorem bX11_listSeen_44 {h0 h : k_H} {Q : k_H → k_R → Prop} {x0 s0 : Nat} {x1 : Option Nat} {x4 f1_0 : Int64} {x6 : Int32} {fs1 : List k_V} (o1 : h.1 s0 = some (k_o 7 fs1)) (g1_0 : fs1[0]? = some (vJ f1_0)) (K1 : f1_0 < x4 → k_X (jX11_listSeen G l h0) h 61 [(0, vR (some x0)), (1, vR x1), (4, vJ x4), (6, vI x6), (7, vR (some s0))] [] Q) (K2 : ¬ (f1_0 < x4) → k_X (jX11_listSeen G l h0) h 60 [] [] Q) : k_X (jX11_listSeen G l h0) h 44 [(0, vR (some x0)), (1, vR x1), (4, vJ x4), (6, vI x6)] [vR (some s0)] Q := by
  by_cases hc : f1_0 < x4
  · skip
    obtain ⟨h', r, K, q⟩ := K1 hc
    exact ⟨h', r, j_cast dX11_listSeen_44 kk_X11_170 o1 <| j_astore dX11_listSeen_47 (by decide) rfl <| j_aload dX11_listSeen_49 rfl <| j_getf dX11_listSeen_51 kf_X11_172 o1 g1_0 <| j_lload dX11_listSeen_54 rfl <| j_lcmp dX11_listSeen_56 <| j_if_lt_t (tgt := 61) dX11_listSeen_57 (by decide) ((lg_cmp_lt _ _).mpr hc) K, q⟩
  · skip
    obtain ⟨h', r, K, q⟩ := K2 hc
    exact ⟨h', r, j_cast dX11_listSeen_44 kk_X11_170 o1 <| j_astore dX11_listSeen_47 (by decide) rfl <| j_aload dX11_listSeen_49 rfl <| j_getf dX11_listSeen_51 kf_X11_172 o1 g1_0 <| j_lload dX11_listSeen_54 rfl <| j_lcmp dX11_listSeen_56 <| j_if_lt_f dX11_listSeen_57 61 (by decide) ((not_congr (lg_cmp_lt _ _)).mpr hc) (j_pick [] rfl K), q⟩
theorem bX11_listSeen_60 {h0 h : k_H} {Q : k_H → k_R → Prop} (q : Q h (.inl none)) : k_X (jX11_listSeen G l h0) h 60 [] [] Q := by
  exact ⟨_, _, j_vret dX11_listSeen_60 rfl, q⟩
theorem bX11_listSeen_61 {h0 h : k_H} {Q : k_H → k_R → Prop} {x0 x1 x7 : Nat} {x4 f2_0 : Int64} {x6 f3_4 : Int32} {f1_2 : Option Nat} {fs1 : List k_V} (o1 : h.1 x0 = some (k_o 14 fs1)) (g1_2 : fs1[2]? = some (vR f1_2)) {fs2 : List k_V} (o2 : h.1 x7 = some (k_o 7 fs2)) (g2_0 : fs2[0]? = some (vJ f2_0)) {fs3 : List k_V} (o3 : h.1 x1 = some (k_o 12 fs3)) (g3_4 : fs3[4]? = some (vI f3_4)) {P : k_H → Option Nat → Prop} (c : k_ctr (tX4_entryIn G l) [vR (some x7), vI f3_4] h P) (K : ∀ h1 v, P h1 v → k_X (jX11_listSeen G l h0) h1 80 [(0, vR (some x0)), (1, vR (some x1)), (4, vJ x4), (6, vI x6), (7, vR (some x7))] [vR v, vJ f2_0, vR f1_2, vR (some x1)] Q) : k_X (jX11_listSeen G l h0) h 61 [(0, vR (some x0)), (1, vR (some x1)), (4, vJ x4), (6, vI x6), (7, vR (some x7))] [] Q := by
  obtain ⟨h1, v, c, p⟩ := c
  obtain ⟨h', r, K, q⟩ := K h1 v p
  exact ⟨h', r, j_aload_n dX11_listSeen_61 rfl rfl <| j_aload_n dX11_listSeen_62 rfl rfl <| j_getf dX11_listSeen_63 kf_X11_28 o1 g1_2 <| j_aload dX11_listSeen_66 rfl <| j_getf dX11_listSeen_68 kf_X11_172 o2 g2_0 <| j_aload dX11_listSeen_71 rfl <| j_aload_n dX11_listSeen_73 rfl rfl <| j_getf dX11_listSeen_74 kf_X11_104 o3 g3_4 <| j_callV (v := some (vR v)) (as := [vI f3_4]) dX11_listSeen_77 kc_X11_452 rfl rfl (k_is_o o2) (by decide) (Nat.le_of_ble_eq_true rfl) c K, q⟩
theorem bX11_listSeen_80 {h0 h : k_H} {Q : k_H → k_R → Prop} {x0 s0 : Nat} {x1 x7 s1 s3 : Option Nat} {x4 s2 : Int64} {x6 : Int32} (w : k_is h s0 12) {P : k_H → Prop} (c : k_ctv (tX9_look G l) [vR (some s0), vR s1, vJ s2, vR s3] h P) (K : ∀ h1, P h1 → k_X (jX11_listSeen G l h0) h1 83 [(0, vR (some x0)), (1, vR x1), (4, vJ x4), (6, vI x6), (7, vR x7)] [] Q) : k_X (jX11_listSeen G l h0) h 80 [(0, vR (some x0)), (1, vR x1), (4, vJ x4), (6, vI x6), (7, vR x7)] [vR s3, vJ s2, vR s1, vR (some s0)] Q := by
  obtain ⟨h1, c, p⟩ := c
  obtain ⟨h', r, K, q⟩ := K h1 p
  exact ⟨h', r, j_callV (v := none) (as := [vR s1, vJ s2, vR s3]) dX11_listSeen_80 kc_X11_111 rfl rfl w (by decide) (Nat.le_of_ble_eq_true rfl) c K, q⟩
theorem bX11_listSeen_83 {h0 h : k_H} {Q : k_H → k_R → Prop} {x0 f1_2 : Nat} {x1 x7 : Option Nat} {x4 : Int64} {x6 f2_0 : Int32} {fs1 : List k_V} (o1 : h.1 x0 = some (k_o 14 fs1)) (g1_2 : fs1[2]? = some (vR (some f1_2))) {fs2 : List k_V} (o2 : h.1 f1_2 = some (k_o 3 fs2)) (g2_0 : fs2[0]? = some (vI f2_0)) (K1 : f2_0 = 0 → k_X (jX11_listSeen G l h0) h 113 [(0, vR (some x0)), (1, vR x1), (4, vJ x4), (6, vI x6)] [] Q) (K2 : ¬ (f2_0 = 0) → k_X (jX11_listSeen G l h0) h 93 [(0, vR (some x0)), (1, vR x1), (4, vJ x4), (6, vI x6), (7, vR x7)] [] Q) : k_X (jX11_listSeen G l h0) h 83 [(0, vR (some x0)), (1, vR x1), (4, vJ x4), (6, vI x6), (7, vR x7)] [] Q := by
  by_cases hc : f2_0 = 0
  · skip
    obtain ⟨h', r, K, q⟩ := K1 hc
    exact ⟨h', r, j_aload_n dX11_listSeen_83 rfl rfl <| j_getf dX11_listSeen_84 kf_X11_28 o1 g1_2 <| j_getf dX11_listSeen_87 kf_X11_335 o2 g2_0 <| j_if_eq_t (tgt := 113) dX11_listSeen_90 (by decide) hc (j_pick [0, 1, 2, 3] rfl K), q⟩
  · skip
    obtain ⟨h', r, K, q⟩ := K2 hc
    exact ⟨h', r, j_aload_n dX11_listSeen_83 rfl rfl <| j_getf dX11_listSeen_84 kf_X11_28 o1 g1_2 <| j_getf dX11_listSeen_87 kf_X11_335 o2 g2_0 <| j_if_eq_f dX11_listSeen_90 113 (by decide) hc K, q⟩
theorem bX11_listSeen_93 {h0 h : k_H} {Q : k_H → k_R → Prop} {x0 f1_2 : Nat} {x1 x7 : Option Nat} {x4 : Int64} {x6 f2_1 : Int32} {fs1 : List k_V} (o1 : h.1 x0 = some (k_o 14 fs1)) (g1_2 : fs1[2]? = some (vR (some f1_2))) {fs2 : List k_V} (o2 : h.1 f1_2 = some (k_o 3 fs2)) (g2_1 : fs2[1]? = some (vI f2_1)) (K1 : ¬ (f2_1 = 0) → k_X (jX11_listSeen G l h0) h 113 [(0, vR (some x0)), (1, vR x1), (4, vJ x4), (6, vI x6)] [] Q) (K2 : f2_1 = 0 → k_X (jX11_listSeen G l h0) h 103 [(0, vR (some x0)), (1, vR x1), (4, vJ x4), (6, vI x6), (7, vR x7)] [] Q) : k_X (jX11_listSeen G l h0) h 93 [(0, vR (some x0)), (1, vR x1), (4, vJ x4), (6, vI x6), (7, vR x7)] [] Q := by
  by_cases hc : f2_1 = 0
  · skip
    obtain ⟨h', r, K, q⟩ := K2 hc
    exact ⟨h', r, j_aload_n dX11_listSeen_93 rfl rfl <| j_getf dX11_listSeen_94 kf_X11_28 o1 g1_2 <| j_getf dX11_listSeen_97 kf_X11_115 o2 g2_1 <| j_if_ne_f dX11_listSeen_100 113 (by decide) hc K, q⟩
  · skip
    obtain ⟨h', r, K, q⟩ := K1 hc
    exact ⟨h', r, j_aload_n dX11_listSeen_93 rfl rfl <| j_getf dX11_listSeen_94 kf_X11_28 o1 g1_2 <| j_getf dX11_listSeen_97 kf_X11_115 o2 g2_1 <| j_if_ne_t (tgt := 113) dX11_listSeen_100 (by decide) hc (j_pick [0, 1, 2, 3] rfl K), q⟩
theorem bX11_listSeen_103 {h0 h : k_H} {Q : k_H → k_R → Prop} {x0 f1_4 : Nat} {x1 x7 : Option Nat} {x4 : Int64} {x6 : Int32} {fs1 : List k_V} (o1 : h.1 x0 = some (k_o 14 fs1)) (g1_4 : fs1[4]? = some (vR (some f1_4))) (w : k_is h f1_4 2) {P : k_H → Int32 → Prop} (c : k_cti (tAL_add G l) [vR (some f1_4), vR x7] h P) (K : ∀ h1 v, P h1 v → k_X (jX11_listSeen G l h0) h1 112 [(0, vR (some x0)), (1, vR x1), (4, vJ x4), (6, vI x6)] [vI v] Q) : k_X (jX11_listSeen G l h0) h 103 [(0, vR (some x0)), (1, vR x1), (4, vJ x4), (6, vI x6), (7, vR x7)] [] Q := by
  obtain ⟨h1, v, c, p⟩ := c
  obtain ⟨h', r, K, q⟩ := K h1 v p
  exact ⟨h', r, j_aload_n dX11_listSeen_103 rfl rfl <| j_getf dX11_listSeen_104 kf_X11_39 o1 g1_4 <| j_aload dX11_listSeen_107 rfl <| j_callV (v := some (vI v)) (as := [vR x7]) dX11_listSeen_109 kc_X11_72 rfl rfl w (by decide) (Nat.le_of_ble_eq_true rfl) c (j_pick [0, 1, 2, 3] rfl K), q⟩
theorem bX11_listSeen_112 {h0 h : k_H} {Q : k_H → k_R → Prop} {x0 : Nat} {x1 : Option Nat} {x4 : Int64} {x6 s0 : Int32} (K : k_X (jX11_listSeen G l h0) h 113 [(0, vR (some x0)), (1, vR x1), (4, vJ x4), (6, vI x6)] [] Q) : k_X (jX11_listSeen G l h0) h 112 [(0, vR (some x0)), (1, vR x1), (4, vJ x4), (6, vI x6)] [vI s0] Q := by
  obtain ⟨h', r, K, q⟩ := K
  exact ⟨h', r, j_pop dX11_listSeen_112 rfl <| K, q⟩
theorem bX11_listSeen_113 {h0 h : k_H} {Q : k_H → k_R → Prop} {x0 : Nat} {x1 : Option Nat} {x4 : Int64} {x6 : Int32} (K : k_X (jX11_listSeen G l h0) h 17 [(0, vR (some x0)), (1, vR x1), (4, vJ x4), (6, vI (x6 + 1))] [] Q) : k_X (jX11_listSeen G l h0) h 113 [(0, vR (some x0)), (1, vR x1), (4, vJ x4), (6, vI x6)] [] Q := by
  obtain ⟨h', r, K, q⟩ := K
  exact ⟨h', r, j_iinc (v := x6 + 1) dX11_listSeen_113 rfl (by decide) rfl rfl <| j_goto (tgt := 17) dX11_listSeen_116 (by decide) <| K, q⟩
theorem bX11_listSeen_119 {h0 h : k_H} {Q : k_H → k_R → Prop} (q : Q h (.inl none)) : k_X (jX11_listSeen G l h0) h 119 [] [] Q := by
  exact ⟨_, _, j_vret dX11_listSeen_119 rfl, q⟩
theorem eX11_keep {G : k_G} {l : Launch} (hfl : l.flags = flags0) {h : k_H} {Q : k_H → k_R → Prop} {x0 : Nat} {x1 : Option Nat} {x2 : Int32} {x3 : Int64} {x5 : Int32} (K : k_X (jX11_keep G l h) h 0 [(0, vR (some x0)), (1, vR x1), (2, vI x2), (3, vJ x3), (5, vI x5)] [] Q) : k_ct (tX11_keep G l) [vR (some x0), vR x1, vI x2, vJ x3, vI x5] h Q := by
  obtain ⟨h', r, K, q⟩ := K
  exact ⟨h', r, k_CtOf (by decide +kernel) (Nat.le_of_ble_eq_true rfl) K hfl, q⟩

theorem bX11_keep_0 {h0 h : k_H} {Q : k_H → k_R → Prop} {x0 f1_0 : Nat} {x1 : Option Nat} {x2 x5 : Int32} {x3 : Int64} {fs1 : List k_V} (o1 : h.1 x0 = some (k_o 14 fs1)) (g1_0 : fs1[0]? = some (vR (some f1_0))) (w : k_is h f1_0 11) {P : k_H → Option Nat → Prop} (c : k_ctr (tX8_keyFor G l) [vR (some f1_0), vJ x3] h P) (K : ∀ h1 v, P h1 v → k_X (jX11_keep G l h0) h1 8 [(1, vR x1), (2, vI x2), (3, vJ x3), (5, vI x5)] [vR v] Q) : k_X (jX11_keep G l h0) h 0 [(0, vR (some x0)), (1, vR x1), (2, vI x2), (3, vJ x3), (5, vI x5)] [] Q := by
  obtain ⟨h1, v, c, p⟩ := c
  obtain ⟨h', r, K, q⟩ := K h1 v p
  exact ⟨h', r, j_aload_n dX11_keep_0 rfl rfl <| j_getf dX11_keep_1 kf_X11_14 o1 g1_0 <| j_lload_n dX11_keep_4 rfl rfl <| j_callV (v := some (vR v)) (as := [vJ x3]) dX11_keep_5 kc_X11_342 rfl rfl w (by decide) (Nat.le_of_ble_eq_true rfl) c (j_pick [1, 2, 3, 4] rfl K), q⟩
theorem bX11_keep_8 {h0 h : k_H} {Q : k_H → k_R → Prop} {x1 : Nat} {x2 x5 : Int32} {x3 : Int64} {s0 : Option Nat} (w : k_is h x1 12) {P : k_H → Prop} (c : k_ctv (tX9_keepKey G l) [vR (some x1), vI x2, vJ x3, vI x5] h P) (K : ∀ h1, P h1 → k_X (jX11_keep G l h0) h1 17 [] [] Q) : k_X (jX11_keep G l h0) h 8 [(1, vR (some x1)), (2, vI x2), (3, vJ x3), (5, vI x5)] [vR s0] Q := by
  obtain ⟨h1, c, p⟩ := c
  obtain ⟨h', r, K, q⟩ := K h1 p
  exact ⟨h', r, j_pop dX11_keep_8 rfl <| j_aload_n dX11_keep_9 rfl rfl <| j_iload_n dX11_keep_10 rfl rfl <| j_lload_n dX11_keep_11 rfl rfl <| j_iload dX11_keep_12 rfl <| j_callV (v := none) (as := [vI x2, vJ x3, vI x5]) dX11_keep_14 kc_X11_455 rfl rfl w (by decide) (Nat.le_of_ble_eq_true rfl) c (j_pick [] rfl K), q⟩
theorem bX11_keep_17 {h0 h : k_H} {Q : k_H → k_R → Prop} (q : Q h (.inl none)) : k_X (jX11_keep G l h0) h 17 [] [] Q := by
  exact ⟨_, _, j_vret dX11_keep_17 rfl, q⟩
theorem eX11_toldUndone {G : k_G} {l : Launch} (hfl : l.flags = flags0) {h : k_H} {Q : k_H → k_R → Prop} {x0 : Nat} {x1 : Option Nat} (K : k_X (jX11_toldUndone G l h) h 0 [(0, vR (some x0)), (1, vR x1)] [] Q) : k_ct (tX11_toldUndone G l) [vR (some x0), vR x1] h Q := by
  obtain ⟨h', r, K, q⟩ := K
  exact ⟨h', r, k_CtOf (by decide +kernel) (Nat.le_of_ble_eq_true rfl) K hfl, q⟩

theorem bX11_toldUndone_0 {h0 h : k_H} {Q : k_H → k_R → Prop} {x0 x1 : Nat} {f1_3 : Int32} {fs1 : List k_V} (o1 : h.1 x1 = some (k_o 12 fs1)) (g1_3 : fs1[3]? = some (vI f1_3)) (K1 : f1_3 = 0 → k_X (jX11_toldUndone G l h0) h 21 [(0, vR (some x0)), (1, vR (some x1))] [] Q) (K2 : ¬ (f1_3 = 0) → k_X (jX11_toldUndone G l h0) h 7 [(0, vR (some x0)), (1, vR (some x1))] [] Q) : k_X (jX11_toldUndone G l h0) h 0 [(0, vR (some x0)), (1, vR (some x1))] [] Q := by
  by_cases hc : f1_3 = 0
  · skip
    obtain ⟨h', r, K, q⟩ := K1 hc
    exact ⟨h', r, j_aload_n dX11_toldUndone_0 rfl rfl <| j_getf dX11_toldUndone_1 kf_X11_458 o1 g1_3 <| j_if_eq_t (tgt := 21) dX11_toldUndone_4 (by decide) hc K, q⟩
  · skip
    obtain ⟨h', r, K, q⟩ := K2 hc
    exact ⟨h', r, j_aload_n dX11_toldUndone_0 rfl rfl <| j_getf dX11_toldUndone_1 kf_X11_458 o1 g1_3 <| j_if_eq_f dX11_toldUndone_4 21 (by decide) hc K, q⟩
theorem bX11_toldUndone_7 {h0 h : k_H} {Q : k_H → k_R → Prop} {x0 x1 : Nat} {f1_6 : Int32} {fs1 : List k_V} (o1 : h.1 x1 = some (k_o 12 fs1)) (g1_6 : fs1[6]? = some (vI f1_6)) (K1 : f1_6 = (-2147483648) → k_X (jX11_toldUndone G l h0) h 21 [(0, vR (some x0)), (1, vR (some x1))] [] Q) (K2 : ¬ (f1_6 = (-2147483648)) → k_X (jX11_toldUndone G l h0) h 16 [(1, vR (some x1))] [] Q) : k_X (jX11_toldUndone G l h0) h 7 [(0, vR (some x0)), (1, vR (some x1))] [] Q := by
  by_cases hc : f1_6 = (-2147483648)
  · skip
    obtain ⟨h', r, K, q⟩ := K1 hc
    exact ⟨h', r, j_aload_n dX11_toldUndone_7 rfl rfl <| j_getf dX11_toldUndone_8 kf_X11_461 o1 g1_6 <| j_ldc (v := (-2147483648)) dX11_toldUndone_11 ki_X11_62 <| j_icmp_eq_t (tgt := 21) dX11_toldUndone_13 (by decide) hc K, q⟩
  · skip
    obtain ⟨h', r, K, q⟩ := K2 hc
    exact ⟨h', r, j_aload_n dX11_toldUndone_7 rfl rfl <| j_getf dX11_toldUndone_8 kf_X11_461 o1 g1_6 <| j_ldc (v := (-2147483648)) dX11_toldUndone_11 ki_X11_62 <| j_icmp_eq_f dX11_toldUndone_13 21 (by decide) hc (j_pick [1] rfl K), q⟩
theorem bX11_toldUndone_16 {h0 h : k_H} {Q : k_H → k_R → Prop} {x1 : Nat} {f1_6 : Int32} {fs1 : List k_V} (o1 : h.1 x1 = some (k_o 12 fs1)) (g1_6 : fs1[6]? = some (vI f1_6)) (q : Q h (.inl (some (vI f1_6)))) : k_X (jX11_toldUndone G l h0) h 16 [(1, vR (some x1))] [] Q := by
  exact ⟨_, _, j_aload_n dX11_toldUndone_16 rfl rfl <| j_getf dX11_toldUndone_17 kf_X11_461 o1 g1_6 <| j_iret dX11_toldUndone_20 rfl, q⟩
theorem bX11_toldUndone_21 {h0 h : k_H} {Q : k_H → k_R → Prop} {x0 x1 : Nat} {f1_7 : Int32} {fs1 : List k_V} (o1 : h.1 x1 = some (k_o 12 fs1)) (g1_7 : fs1[7]? = some (vI f1_7)) (K1 : ¬ (f1_7 = 0) → k_X (jX11_toldUndone G l h0) h 33 [(0, vR (some x0)), (1, vR (some x1))] [] Q) (K2 : f1_7 = 0 → k_X (jX11_toldUndone G l h0) h 28 [(1, vR (some x1))] [] Q) : k_X (jX11_toldUndone G l h0) h 21 [(0, vR (some x0)), (1, vR (some x1))] [] Q := by
  by_cases hc : f1_7 = 0
  · skip
    obtain ⟨h', r, K, q⟩ := K2 hc
    exact ⟨h', r, j_aload_n dX11_toldUndone_21 rfl rfl <| j_getf dX11_toldUndone_22 kf_X11_205 o1 g1_7 <| j_if_ne_f dX11_toldUndone_25 33 (by decide) hc (j_pick [1] rfl K), q⟩
  · skip
    obtain ⟨h', r, K, q⟩ := K1 hc
    exact ⟨h', r, j_aload_n dX11_toldUndone_21 rfl rfl <| j_getf dX11_toldUndone_22 kf_X11_205 o1 g1_7 <| j_if_ne_t (tgt := 33) dX11_toldUndone_25 (by decide) hc K, q⟩
theorem bX11_toldUndone_28 {h0 h : k_H} {Q : k_H → k_R → Prop} {x1 : Nat} {f1_4 : Int32} {fs1 : List k_V} (o1 : h.1 x1 = some (k_o 12 fs1)) (g1_4 : fs1[4]? = some (vI f1_4)) (q : Q h (.inl (some (vI f1_4)))) : k_X (jX11_toldUndone G l h0) h 28 [(1, vR (some x1))] [] Q := by
  exact ⟨_, _, j_aload_n dX11_toldUndone_28 rfl rfl <| j_getf dX11_toldUndone_29 kf_X11_104 o1 g1_4 <| j_iret dX11_toldUndone_32 rfl, q⟩
theorem bX11_toldUndone_33 {h0 h : k_H} {Q : k_H → k_R → Prop} {x0 x1 f1_0 : Nat} {f2_6 f3_4 : Int32} {fs1 : List k_V} (o1 : h.1 x0 = some (k_o 14 fs1)) (g1_0 : fs1[0]? = some (vR (some f1_0))) {fs2 : List k_V} (o2 : h.1 f1_0 = some (k_o 11 fs2)) (g2_6 : fs2[6]? = some (vI f2_6)) {fs3 : List k_V} (o3 : h.1 x1 = some (k_o 12 fs3)) (g3_4 : fs3[4]? = some (vI f3_4)) (K1 : 30 < (f2_6 - f3_4) → k_X (jX11_toldUndone G l h0) h 61 [] [] Q) (K2 : ¬ (30 < (f2_6 - f3_4)) → k_X (jX11_toldUndone G l h0) h 50 [(0, vR (some x0)), (1, vR (some x1))] [] Q) : k_X (jX11_toldUndone G l h0) h 33 [(0, vR (some x0)), (1, vR (some x1))] [] Q := by
  by_cases hc : 30 < (f2_6 - f3_4)
  · skip
    obtain ⟨h', r, K, q⟩ := K1 hc
    exact ⟨h', r, j_aload_n dX11_toldUndone_33 rfl rfl <| j_getf dX11_toldUndone_34 kf_X11_14 o1 g1_0 <| j_getf dX11_toldUndone_37 kf_X11_85 o2 g2_6 <| j_aload_n dX11_toldUndone_40 rfl rfl <| j_getf dX11_toldUndone_41 kf_X11_104 o3 g3_4 <| j_isub dX11_toldUndone_44 <| j_bipush (v := 30) dX11_toldUndone_45 (by decide) <| j_icmp_gt_t (tgt := 61) dX11_toldUndone_47 (by decide) hc (j_pick [] rfl K), q⟩
  · skip
    obtain ⟨h', r, K, q⟩ := K2 hc
    exact ⟨h', r, j_aload_n dX11_toldUndone_33 rfl rfl <| j_getf dX11_toldUndone_34 kf_X11_14 o1 g1_0 <| j_getf dX11_toldUndone_37 kf_X11_85 o2 g2_6 <| j_aload_n dX11_toldUndone_40 rfl rfl <| j_getf dX11_toldUndone_41 kf_X11_104 o3 g3_4 <| j_isub dX11_toldUndone_44 <| j_bipush (v := 30) dX11_toldUndone_45 (by decide) <| j_icmp_gt_f dX11_toldUndone_47 61 (by decide) hc K, q⟩
theorem bX11_toldUndone_50 {h0 h : k_H} {Q : k_H → k_R → Prop} {x0 x1 : Nat} {f1_5 f2_9 : Int32} {fs1 : List k_V} (o1 : h.1 x1 = some (k_o 12 fs1)) (g1_5 : fs1[5]? = some (vI f1_5)) {fs2 : List k_V} (o2 : h.1 x0 = some (k_o 14 fs2)) (g2_9 : fs2[9]? = some (vI f2_9)) (K1 : f1_5 = f2_9 → k_X (jX11_toldUndone G l h0) h 64 [(0, vR (some x0)), (1, vR (some x1))] [] Q) (K2 : ¬ (f1_5 = f2_9) → k_X (jX11_toldUndone G l h0) h 61 [] [] Q) : k_X (jX11_toldUndone G l h0) h 50 [(0, vR (some x0)), (1, vR (some x1))] [] Q := by
  by_cases hc : f1_5 = f2_9
  · skip
    obtain ⟨h', r, K, q⟩ := K1 hc
    exact ⟨h', r, j_aload_n dX11_toldUndone_50 rfl rfl <| j_getf dX11_toldUndone_51 kf_X11_464 o1 g1_5 <| j_aload_n dX11_toldUndone_54 rfl rfl <| j_getf dX11_toldUndone_55 kf_X11_56 o2 g2_9 <| j_icmp_eq_t (tgt := 64) dX11_toldUndone_58 (by decide) hc K, q⟩
  · skip
    obtain ⟨h', r, K, q⟩ := K2 hc
    exact ⟨h', r, j_aload_n dX11_toldUndone_50 rfl rfl <| j_getf dX11_toldUndone_51 kf_X11_464 o1 g1_5 <| j_aload_n dX11_toldUndone_54 rfl rfl <| j_getf dX11_toldUndone_55 kf_X11_56 o2 g2_9 <| j_icmp_eq_f dX11_toldUndone_58 64 (by decide) hc (j_pick [] rfl K), q⟩
theorem bX11_toldUndone_61 {h0 h : k_H} {Q : k_H → k_R → Prop} (q : Q h (.inl (some (vI (-2))))) : k_X (jX11_toldUndone G l h0) h 61 [] [] Q := by
  exact ⟨_, _, j_bipush (v := (-2)) dX11_toldUndone_61 (by decide) <| j_iret dX11_toldUndone_63 rfl, q⟩
theorem bX11_toldUndone_64 {h0 h : k_H} {Q : k_H → k_R → Prop} {x0 : Nat} {x1 : Option Nat} (w : k_is h x0 14) {P : k_H → Int32 → Prop} (c : k_cti (tX11_firstMet G l) [vR (some x0), vR x1] h P) (K : ∀ h1 v, P h1 v → k_X (jX11_toldUndone G l h0) h1 69 [(0, vR (some x0))] [vI v] Q) : k_X (jX11_toldUndone G l h0) h 64 [(0, vR (some x0)), (1, vR x1)] [] Q := by
  obtain ⟨h1, v, c, p⟩ := c
  obtain ⟨h', r, K, q⟩ := K h1 v p
  exact ⟨h', r, j_aload_n dX11_toldUndone_64 rfl rfl <| j_aload_n dX11_toldUndone_65 rfl rfl <| j_callV (v := some (vI v)) (as := [vR x1]) dX11_toldUndone_66 kc_X11_465 rfl rfl w (by decide) (Nat.le_of_ble_eq_true rfl) c (j_pick [0] rfl K), q⟩
theorem bX11_toldUndone_69 {h0 h : k_H} {Q : k_H → k_R → Prop} {x0 : Nat} {s0 : Int32} (K1 : ¬ (s0 = (-2147483648)) → k_X (jX11_toldUndone G l h0) h 79 [(0, vR (some x0)), (2, vI s0)] [] Q) (K2 : s0 = (-2147483648) → k_X (jX11_toldUndone G l h0) h 76 [] [] Q) : k_X (jX11_toldUndone G l h0) h 69 [(0, vR (some x0))] [vI s0] Q := by
  by_cases hc : s0 = (-2147483648)
  · skip
    obtain ⟨h', r, K, q⟩ := K2 hc
    exact ⟨h', r, j_istore_n dX11_toldUndone_69 rfl (by decide) rfl <| j_iload_n dX11_toldUndone_70 rfl rfl <| j_ldc (v := (-2147483648)) dX11_toldUndone_71 ki_X11_62 <| j_icmp_ne_f dX11_toldUndone_73 79 (by decide) hc (j_pick [] rfl K), q⟩
  · skip
    obtain ⟨h', r, K, q⟩ := K1 hc
    exact ⟨h', r, j_istore_n dX11_toldUndone_69 rfl (by decide) rfl <| j_iload_n dX11_toldUndone_70 rfl rfl <| j_ldc (v := (-2147483648)) dX11_toldUndone_71 ki_X11_62 <| j_icmp_ne_t (tgt := 79) dX11_toldUndone_73 (by decide) hc K, q⟩
theorem bX11_toldUndone_76 {h0 h : k_H} {Q : k_H → k_R → Prop} (q : Q h (.inl (some (vI (-2147483648))))) : k_X (jX11_toldUndone G l h0) h 76 [] [] Q := by
  exact ⟨_, _, j_ldc (v := (-2147483648)) dX11_toldUndone_76 ki_X11_62 <| j_iret dX11_toldUndone_78 rfl, q⟩
theorem bX11_toldUndone_79 {h0 h : k_H} {Q : k_H → k_R → Prop} {x0 : Nat} {x2 : Int32} {fs1 : List k_V} (o1 : h.1 x0 = some (k_o 14 fs1)) (z1 : fs1.length = 13) (K : k_X (jX11_toldUndone G l h0) (k_up h x0 (k_o 14 (fs1.set 11 (vI x2)))) 84 [] [] Q) : k_X (jX11_toldUndone G l h0) h 79 [(0, vR (some x0)), (2, vI x2)] [] Q := by
  obtain ⟨h', r, K, q⟩ := K
  exact ⟨h', r, j_aload_n dX11_toldUndone_79 rfl rfl <| j_iload_n dX11_toldUndone_80 rfl rfl <| j_putf dX11_toldUndone_81 kp_X11_63 o1 (k_ln z1 (by decide)) (k_fit_i _) rfl <| (j_pick [] rfl K), q⟩
theorem bX11_toldUndone_84 {h0 h : k_H} {Q : k_H → k_R → Prop} (q : Q h (.inl (some (vI (-1))))) : k_X (jX11_toldUndone G l h0) h 84 [] [] Q := by
  exact ⟨_, _, j_iconst (v := (-1)) dX11_toldUndone_84 (by decide) <| j_iret dX11_toldUndone_85 rfl, q⟩
theorem eX11_settle {G : k_G} {l : Launch} (hfl : l.flags = flags0) {h : k_H} {Q : k_H → k_R → Prop} {x0 : Nat} {x1 : Option Nat} (K : k_X (jX11_settle G l h) h 0 [(0, vR (some x0)), (1, vR x1)] [] Q) : k_ct (tX11_settle G l) [vR (some x0), vR x1] h Q := by
  obtain ⟨h', r, K, q⟩ := K
  exact ⟨h', r, k_CtOf (by decide +kernel) (Nat.le_of_ble_eq_true rfl) K hfl, q⟩

theorem bX11_settle_0 {h0 h : k_H} {Q : k_H → k_R → Prop} {x0 f1_0 : Nat} {x1 : Option Nat} {fs1 : List k_V} (o1 : h.1 x0 = some (k_o 14 fs1)) (g1_0 : fs1[0]? = some (vR (some f1_0))) (w : k_is h f1_0 11) {P : k_H → Prop} (c : k_ctv (tX8_advance G l) [vR (some f1_0), vI 1] h P) (K : ∀ h1, P h1 → k_X (jX11_settle G l h0) h1 8 [(0, vR (some x0)), (1, vR x1)] [] Q) : k_X (jX11_settle G l h0) h 0 [(0, vR (some x0)), (1, vR x1)] [] Q := by
  obtain ⟨h1, c, p⟩ := c
  obtain ⟨h', r, K, q⟩ := K h1 p
  exact ⟨h', r, j_aload_n dX11_settle_0 rfl rfl <| j_getf dX11_settle_1 kf_X11_14 o1 g1_0 <| j_iconst (v := 1) dX11_settle_4 (by decide) <| j_callV (v := none) (as := [vI 1]) dX11_settle_5 kc_X11_223 rfl rfl w (by decide) (Nat.le_of_ble_eq_true rfl) c K, q⟩
theorem bX11_settle_8 {h0 h : k_H} {Q : k_H → k_R → Prop} {x0 : Nat} {x1 : Option Nat} (K : k_X (jX11_settle G l h0) h 10 [(0, vR (some x0)), (1, vR x1), (2, vI 0)] [] Q) : k_X (jX11_settle G l h0) h 8 [(0, vR (some x0)), (1, vR x1)] [] Q := by
  obtain ⟨h', r, K, q⟩ := K
  exact ⟨h', r, j_iconst (v := 0) dX11_settle_8 (by decide) <| j_istore_n dX11_settle_9 rfl (by decide) rfl <| K, q⟩
theorem bX11_settle_10 {h0 h : k_H} {Q : k_H → k_R → Prop} {x0 x1 f1_0 : Nat} {x2 : Int32} {fs1 : List k_V} (o1 : h.1 x1 = some (k_o 12 fs1)) (g1_0 : fs1[0]? = some (vR (some f1_0))) (w : k_is h f1_0 2) {P : k_H → Int32 → Prop} (c : k_cti (tAL_size G l) [vR (some f1_0)] h P) (K : ∀ h1 v, P h1 v → k_X (jX11_settle G l h0) h1 18 [(0, vR (some x0)), (1, vR (some x1)), (2, vI x2)] [vI v, vI x2] Q) : k_X (jX11_settle G l h0) h 10 [(0, vR (some x0)), (1, vR (some x1)), (2, vI x2)] [] Q := by
  obtain ⟨h1, v, c, p⟩ := c
  obtain ⟨h', r, K, q⟩ := K h1 v p
  exact ⟨h', r, j_iload_n dX11_settle_10 rfl rfl <| j_aload_n dX11_settle_11 rfl rfl <| j_getf dX11_settle_12 kf_X11_468 o1 g1_0 <| j_callV (v := some (vI v)) (as := []) dX11_settle_15 kc_X11_153 rfl rfl w (by decide) (Nat.le_of_ble_eq_true rfl) c K, q⟩
theorem bX11_settle_18 {h0 h : k_H} {Q : k_H → k_R → Prop} {x0 : Nat} {x1 : Option Nat} {x2 s0 s1 : Int32} (K1 : s1 ≤ s0 → k_X (jX11_settle G l h0) h 45 [(0, vR (some x0)), (1, vR x1)] [] Q) (K2 : ¬ (s1 ≤ s0) → k_X (jX11_settle G l h0) h 21 [(0, vR (some x0)), (1, vR x1), (2, vI x2)] [] Q) : k_X (jX11_settle G l h0) h 18 [(0, vR (some x0)), (1, vR x1), (2, vI x2)] [vI s1, vI s0] Q := by
  by_cases hc : s1 ≤ s0
  · skip
    obtain ⟨h', r, K, q⟩ := K1 hc
    exact ⟨h', r, j_icmp_ge_t (tgt := 45) dX11_settle_18 (by decide) hc (j_pick [0, 1] rfl K), q⟩
  · skip
    obtain ⟨h', r, K, q⟩ := K2 hc
    exact ⟨h', r, j_icmp_ge_f dX11_settle_18 45 (by decide) hc K, q⟩
theorem bX11_settle_21 {h0 h : k_H} {Q : k_H → k_R → Prop} {x0 x1 f2_0 : Nat} {x2 : Int32} {f1_0 : Option Nat} {fs1 : List k_V} (o1 : h.1 x0 = some (k_o 14 fs1)) (g1_0 : fs1[0]? = some (vR f1_0)) {fs2 : List k_V} (o2 : h.1 x1 = some (k_o 12 fs2)) (g2_0 : fs2[0]? = some (vR (some f2_0))) (w : k_is h f2_0 2) {P : k_H → Option Nat → Prop} (c : k_ctr (tAL_get G l) [vR (some f2_0), vI x2] h P) (K : ∀ h1 v, P h1 v → k_X (jX11_settle G l h0) h1 33 [(0, vR (some x0)), (1, vR (some x1)), (2, vI x2)] [vR v, vR f1_0] Q) : k_X (jX11_settle G l h0) h 21 [(0, vR (some x0)), (1, vR (some x1)), (2, vI x2)] [] Q := by
  obtain ⟨h1, v, c, p⟩ := c
  obtain ⟨h', r, K, q⟩ := K h1 v p
  exact ⟨h', r, j_aload_n dX11_settle_21 rfl rfl <| j_getf dX11_settle_22 kf_X11_14 o1 g1_0 <| j_aload_n dX11_settle_25 rfl rfl <| j_getf dX11_settle_26 kf_X11_468 o2 g2_0 <| j_iload_n dX11_settle_29 rfl rfl <| j_callV (v := some (vR v)) (as := [vI x2]) dX11_settle_30 kc_X11_166 rfl rfl w (by decide) (Nat.le_of_ble_eq_true rfl) c K, q⟩
theorem bX11_settle_33 {h0 h : k_H} {Q : k_H → k_R → Prop} {x0 s0 s1 : Nat} {x1 : Option Nat} {x2 : Int32} {fs1 : List k_V} (o1 : h.1 s1 = some (k_o 4 fs1)) (w : k_is h s0 11) {P : k_H → Prop} (c : k_ctv (tX8_applyInOrder G l) [vR (some s0), vR (some s1)] h P) (K : ∀ h1, P h1 → k_X (jX11_settle G l h0) h1 39 [(0, vR (some x0)), (1, vR x1), (2, vI x2)] [] Q) : k_X (jX11_settle G l h0) h 33 [(0, vR (some x0)), (1, vR x1), (2, vI x2)] [vR (some s1), vR (some s0)] Q := by
  obtain ⟨h1, c, p⟩ := c
  obtain ⟨h', r, K, q⟩ := K h1 p
  exact ⟨h', r, j_cast dX11_settle_33 kk_X11_471 o1 <| j_callV (v := none) (as := [vR (some s1)]) dX11_settle_36 kc_X11_473 rfl rfl w (by decide) (Nat.le_of_ble_eq_true rfl) c K, q⟩
theorem bX11_settle_39 {h0 h : k_H} {Q : k_H → k_R → Prop} {x0 : Nat} {x1 : Option Nat} {x2 : Int32} (K : k_X (jX11_settle G l h0) h 10 [(0, vR (some x0)), (1, vR x1), (2, vI (x2 + 1))] [] Q) : k_X (jX11_settle G l h0) h 39 [(0, vR (some x0)), (1, vR x1), (2, vI x2)] [] Q := by
  obtain ⟨h', r, K, q⟩ := K
  exact ⟨h', r, j_iinc (v := x2 + 1) dX11_settle_39 rfl (by decide) rfl rfl <| j_goto (tgt := 10) dX11_settle_42 (by decide) <| K, q⟩
theorem bX11_settle_45 {h0 h : k_H} {Q : k_H → k_R → Prop} {x0 : Nat} {x1 : Option Nat} (K : k_X (jX11_settle G l h0) h 47 [(0, vR (some x0)), (1, vR x1), (2, vI 0)] [] Q) : k_X (jX11_settle G l h0) h 45 [(0, vR (some x0)), (1, vR x1)] [] Q := by
  obtain ⟨h', r, K, q⟩ := K
  exact ⟨h', r, j_iconst (v := 0) dX11_settle_45 (by decide) <| j_istore_n dX11_settle_46 rfl (by decide) rfl <| K, q⟩
theorem bX11_settle_47 {h0 h : k_H} {Q : k_H → k_R → Prop} {x0 x1 f1_0 : Nat} {x2 : Int32} {fs1 : List k_V} (o1 : h.1 x1 = some (k_o 12 fs1)) (g1_0 : fs1[0]? = some (vR (some f1_0))) (w : k_is h f1_0 2) {P : k_H → Int32 → Prop} (c : k_cti (tAL_size G l) [vR (some f1_0)] h P) (K : ∀ h1 v, P h1 v → k_X (jX11_settle G l h0) h1 55 [(0, vR (some x0)), (1, vR (some x1)), (2, vI x2)] [vI v, vI x2] Q) : k_X (jX11_settle G l h0) h 47 [(0, vR (some x0)), (1, vR (some x1)), (2, vI x2)] [] Q := by
  obtain ⟨h1, v, c, p⟩ := c
  obtain ⟨h', r, K, q⟩ := K h1 v p
  exact ⟨h', r, j_iload_n dX11_settle_47 rfl rfl <| j_aload_n dX11_settle_48 rfl rfl <| j_getf dX11_settle_49 kf_X11_468 o1 g1_0 <| j_callV (v := some (vI v)) (as := []) dX11_settle_52 kc_X11_153 rfl rfl w (by decide) (Nat.le_of_ble_eq_true rfl) c K, q⟩
theorem bX11_settle_55 {h0 h : k_H} {Q : k_H → k_R → Prop} {x0 : Nat} {x1 : Option Nat} {x2 s0 s1 : Int32} (K1 : s1 ≤ s0 → k_X (jX11_settle G l h0) h 82 [(0, vR (some x0)), (1, vR x1)] [] Q) (K2 : ¬ (s1 ≤ s0) → k_X (jX11_settle G l h0) h 58 [(0, vR (some x0)), (1, vR x1), (2, vI x2)] [] Q) : k_X (jX11_settle G l h0) h 55 [(0, vR (some x0)), (1, vR x1), (2, vI x2)] [vI s1, vI s0] Q := by
  by_cases hc : s1 ≤ s0
  · skip
    obtain ⟨h', r, K, q⟩ := K1 hc
    exact ⟨h', r, j_icmp_ge_t (tgt := 82) dX11_settle_55 (by decide) hc (j_pick [0, 1] rfl K), q⟩
  · skip
    obtain ⟨h', r, K, q⟩ := K2 hc
    exact ⟨h', r, j_icmp_ge_f dX11_settle_55 82 (by decide) hc K, q⟩
theorem bX11_settle_58 {h0 h : k_H} {Q : k_H → k_R → Prop} {x0 x1 f2_0 : Nat} {x2 : Int32} {f1_0 : Option Nat} {fs1 : List k_V} (o1 : h.1 x0 = some (k_o 14 fs1)) (g1_0 : fs1[0]? = some (vR f1_0)) {fs2 : List k_V} (o2 : h.1 x1 = some (k_o 12 fs2)) (g2_0 : fs2[0]? = some (vR (some f2_0))) (w : k_is h f2_0 2) {P : k_H → Option Nat → Prop} (c : k_ctr (tAL_get G l) [vR (some f2_0), vI x2] h P) (K : ∀ h1 v, P h1 v → k_X (jX11_settle G l h0) h1 70 [(0, vR (some x0)), (1, vR (some x1)), (2, vI x2)] [vR v, vR f1_0] Q) : k_X (jX11_settle G l h0) h 58 [(0, vR (some x0)), (1, vR (some x1)), (2, vI x2)] [] Q := by
  obtain ⟨h1, v, c, p⟩ := c
  obtain ⟨h', r, K, q⟩ := K h1 v p
  exact ⟨h', r, j_aload_n dX11_settle_58 rfl rfl <| j_getf dX11_settle_59 kf_X11_14 o1 g1_0 <| j_aload_n dX11_settle_62 rfl rfl <| j_getf dX11_settle_63 kf_X11_468 o2 g2_0 <| j_iload_n dX11_settle_66 rfl rfl <| j_callV (v := some (vR v)) (as := [vI x2]) dX11_settle_67 kc_X11_166 rfl rfl w (by decide) (Nat.le_of_ble_eq_true rfl) c K, q⟩
theorem bX11_settle_70 {h0 h : k_H} {Q : k_H → k_R → Prop} {x0 s0 s1 : Nat} {x1 : Option Nat} {x2 : Int32} {fs1 : List k_V} (o1 : h.1 s1 = some (k_o 4 fs1)) (w : k_is h s0 11) {P : k_H → Prop} (c : k_ctv (tX8_applyStamped G l) [vR (some s0), vR (some s1)] h P) (K : ∀ h1, P h1 → k_X (jX11_settle G l h0) h1 76 [(0, vR (some x0)), (1, vR x1), (2, vI x2)] [] Q) : k_X (jX11_settle G l h0) h 70 [(0, vR (some x0)), (1, vR x1), (2, vI x2)] [vR (some s1), vR (some s0)] Q := by
  obtain ⟨h1, c, p⟩ := c
  obtain ⟨h', r, K, q⟩ := K h1 p
  exact ⟨h', r, j_cast dX11_settle_70 kk_X11_471 o1 <| j_callV (v := none) (as := [vR (some s1)]) dX11_settle_73 kc_X11_477 rfl rfl w (by decide) (Nat.le_of_ble_eq_true rfl) c K, q⟩
theorem bX11_settle_76 {h0 h : k_H} {Q : k_H → k_R → Prop} {x0 : Nat} {x1 : Option Nat} {x2 : Int32} (K : k_X (jX11_settle G l h0) h 47 [(0, vR (some x0)), (1, vR x1), (2, vI (x2 + 1))] [] Q) : k_X (jX11_settle G l h0) h 76 [(0, vR (some x0)), (1, vR x1), (2, vI x2)] [] Q := by
  obtain ⟨h', r, K, q⟩ := K
  exact ⟨h', r, j_iinc (v := x2 + 1) dX11_settle_76 rfl (by decide) rfl rfl <| j_goto (tgt := 47) dX11_settle_79 (by decide) <| K, q⟩
theorem bX11_settle_82 {h0 h : k_H} {Q : k_H → k_R → Prop} {x0 x1 f1_0 : Nat} {f2_6 : Int32} {fs1 : List k_V} (o1 : h.1 x0 = some (k_o 14 fs1)) (g1_0 : fs1[0]? = some (vR (some f1_0))) {fs2 : List k_V} (o2 : h.1 f1_0 = some (k_o 11 fs2)) (g2_6 : fs2[6]? = some (vI f2_6)) {fs3 : List k_V} (o3 : h.1 x1 = some (k_o 12 fs3)) (z3 : fs3.length = 8) (K : k_X (jX11_settle G l h0) (k_up h x1 (k_o 12 (fs3.set 6 (vI f2_6)))) 93 [(0, vR (some x0))] [] Q) : k_X (jX11_settle G l h0) h 82 [(0, vR (some x0)), (1, vR (some x1))] [] Q := by
  obtain ⟨h', r, K, q⟩ := K
  exact ⟨h', r, j_aload_n dX11_settle_82 rfl rfl <| j_aload_n dX11_settle_83 rfl rfl <| j_getf dX11_settle_84 kf_X11_14 o1 g1_0 <| j_getf dX11_settle_87 kf_X11_85 o2 g2_6 <| j_putf dX11_settle_90 kp_X11_461 o3 (k_ln z3 (by decide)) (k_fit_i _) rfl <| (j_pick [0] rfl K), q⟩
theorem bX11_settle_93 {h0 h : k_H} {Q : k_H → k_R → Prop} {x0 : Nat} (w : k_is h x0 14) {P : k_H → Prop} (c : k_ctv (tX11_closeCommit G l) [vR (some x0)] h P) (K : ∀ h1, P h1 → k_X (jX11_settle G l h0) h1 97 [] [] Q) : k_X (jX11_settle G l h0) h 93 [(0, vR (some x0))] [] Q := by
  obtain ⟨h1, c, p⟩ := c
  obtain ⟨h', r, K, q⟩ := K h1 p
  exact ⟨h', r, j_aload_n dX11_settle_93 rfl rfl <| j_callV (v := none) (as := []) dX11_settle_94 kc_X11_329 rfl rfl w (by decide) (Nat.le_of_ble_eq_true rfl) c (j_pick [] rfl K), q⟩
theorem bX11_settle_97 {h0 h : k_H} {Q : k_H → k_R → Prop} (q : Q h (.inl none)) : k_X (jX11_settle G l h0) h 97 [] [] Q := by
  exact ⟨_, _, j_vret dX11_settle_97 rfl, q⟩
theorem eX11_closeCommit {G : k_G} {l : Launch} (hfl : l.flags = flags0) {h : k_H} {Q : k_H → k_R → Prop} {x0 : Nat} (K : k_X (jX11_closeCommit G l h) h 0 [(0, vR (some x0))] [] Q) : k_ct (tX11_closeCommit G l) [vR (some x0)] h Q := by
  obtain ⟨h', r, K, q⟩ := K
  exact ⟨h', r, k_CtOf (by decide +kernel) (Nat.le_of_ble_eq_true rfl) K hfl, q⟩

theorem bX11_closeCommit_0 {h0 h : k_H} {Q : k_H → k_R → Prop} {x0 : Nat} (K : k_X (jX11_closeCommit G l h0) h 2 [(0, vR (some x0)), (1, vI 0)] [] Q) : k_X (jX11_closeCommit G l h0) h 0 [(0, vR (some x0))] [] Q := by
  obtain ⟨h', r, K, q⟩ := K
  exact ⟨h', r, j_iconst (v := 0) dX11_closeCommit_0 (by decide) <| j_istore_n dX11_closeCommit_1 rfl (by decide) rfl <| K, q⟩
theorem bX11_closeCommit_2 {h0 h : k_H} {Q : k_H → k_R → Prop} {x0 f1_6 : Nat} {x1 : Int32} {fs1 : List k_V} (o1 : h.1 x0 = some (k_o 14 fs1)) (g1_6 : fs1[6]? = some (vR (some f1_6))) (w : k_is h f1_6 2) {P : k_H → Int32 → Prop} (c : k_cti (tAL_size G l) [vR (some f1_6)] h P) (K : ∀ h1 v, P h1 v → k_X (jX11_closeCommit G l h0) h1 10 [(0, vR (some x0)), (1, vI x1)] [vI v, vI x1] Q) : k_X (jX11_closeCommit G l h0) h 2 [(0, vR (some x0)), (1, vI x1)] [] Q := by
  obtain ⟨h1, v, c, p⟩ := c
  obtain ⟨h', r, K, q⟩ := K h1 v p
  exact ⟨h', r, j_iload_n dX11_closeCommit_2 rfl rfl <| j_aload_n dX11_closeCommit_3 rfl rfl <| j_getf dX11_closeCommit_4 kf_X11_45 o1 g1_6 <| j_callV (v := some (vI v)) (as := []) dX11_closeCommit_7 kc_X11_153 rfl rfl w (by decide) (Nat.le_of_ble_eq_true rfl) c K, q⟩
theorem bX11_closeCommit_10 {h0 h : k_H} {Q : k_H → k_R → Prop} {x0 : Nat} {x1 s0 s1 : Int32} (K1 : s1 ≤ s0 → k_X (jX11_closeCommit G l h0) h 75 [(0, vR (some x0))] [] Q) (K2 : ¬ (s1 ≤ s0) → k_X (jX11_closeCommit G l h0) h 13 [(0, vR (some x0)), (1, vI x1)] [] Q) : k_X (jX11_closeCommit G l h0) h 10 [(0, vR (some x0)), (1, vI x1)] [vI s1, vI s0] Q := by
  by_cases hc : s1 ≤ s0
  · skip
    obtain ⟨h', r, K, q⟩ := K1 hc
    exact ⟨h', r, j_icmp_ge_t (tgt := 75) dX11_closeCommit_10 (by decide) hc (j_pick [0] rfl K), q⟩
  · skip
    obtain ⟨h', r, K, q⟩ := K2 hc
    exact ⟨h', r, j_icmp_ge_f dX11_closeCommit_10 75 (by decide) hc K, q⟩
theorem bX11_closeCommit_13 {h0 h : k_H} {Q : k_H → k_R → Prop} {x0 f1_6 : Nat} {x1 : Int32} {fs1 : List k_V} (o1 : h.1 x0 = some (k_o 14 fs1)) (g1_6 : fs1[6]? = some (vR (some f1_6))) (w : k_is h f1_6 2) {P : k_H → Option Nat → Prop} (c : k_ctr (tAL_get G l) [vR (some f1_6), vI x1] h P) (K : ∀ h1 v, P h1 v → k_X (jX11_closeCommit G l h0) h1 21 [(0, vR (some x0)), (1, vI x1)] [vR v] Q) : k_X (jX11_closeCommit G l h0) h 13 [(0, vR (some x0)), (1, vI x1)] [] Q := by
  obtain ⟨h1, v, c, p⟩ := c
  obtain ⟨h', r, K, q⟩ := K h1 v p
  exact ⟨h', r, j_aload_n dX11_closeCommit_13 rfl rfl <| j_getf dX11_closeCommit_14 kf_X11_45 o1 g1_6 <| j_iload_n dX11_closeCommit_17 rfl rfl <| j_callV (v := some (vR v)) (as := [vI x1]) dX11_closeCommit_18 kc_X11_166 rfl rfl w (by decide) (Nat.le_of_ble_eq_true rfl) c K, q⟩
theorem bX11_closeCommit_21 {h0 h : k_H} {Q : k_H → k_R → Prop} {x0 s0 : Nat} {x1 f1_1 : Int32} {fs1 : List k_V} (o1 : h.1 s0 = some (k_o 13 fs1)) (g1_1 : fs1[1]? = some (vI f1_1)) (K1 : ¬ (f1_1 = (-2147483648)) → k_X (jX11_closeCommit G l h0) h 69 [(0, vR (some x0)), (1, vI x1)] [] Q) (K2 : f1_1 = (-2147483648) → k_X (jX11_closeCommit G l h0) h 34 [(0, vR (some x0)), (1, vI x1), (2, vR (some s0))] [] Q) : k_X (jX11_closeCommit G l h0) h 21 [(0, vR (some x0)), (1, vI x1)] [vR (some s0)] Q := by
  by_cases hc : f1_1 = (-2147483648)
  · skip
    obtain ⟨h', r, K, q⟩ := K2 hc
    exact ⟨h', r, j_cast dX11_closeCommit_21 kk_X11_340 o1 <| j_astore_n dX11_closeCommit_24 rfl (by decide) rfl <| j_aload_n dX11_closeCommit_25 rfl rfl <| j_getf dX11_closeCommit_26 kf_X11_351 o1 g1_1 <| j_ldc (v := (-2147483648)) dX11_closeCommit_29 ki_X11_62 <| j_icmp_ne_f dX11_closeCommit_31 69 (by decide) hc K, q⟩
  · skip
    obtain ⟨h', r, K, q⟩ := K1 hc
    exact ⟨h', r, j_cast dX11_closeCommit_21 kk_X11_340 o1 <| j_astore_n dX11_closeCommit_24 rfl (by decide) rfl <| j_aload_n dX11_closeCommit_25 rfl rfl <| j_getf dX11_closeCommit_26 kf_X11_351 o1 g1_1 <| j_ldc (v := (-2147483648)) dX11_closeCommit_29 ki_X11_62 <| j_icmp_ne_t (tgt := 69) dX11_closeCommit_31 (by decide) hc (j_pick [0, 1] rfl K), q⟩
theorem bX11_closeCommit_34 {h0 h : k_H} {Q : k_H → k_R → Prop} {x0 x2 : Nat} {x1 : Int32} {f1_0 : Option Nat} {fs1 : List k_V} (o1 : h.1 x2 = some (k_o 13 fs1)) (g1_0 : fs1[0]? = some (vR f1_0)) (K1 : f1_0 = none → k_X (jX11_closeCommit G l h0) h 69 [(0, vR (some x0)), (1, vI x1)] [] Q) (K2 : ∀ a, f1_0 = some a → k_X (jX11_closeCommit G l h0) h 41 [(0, vR (some x0)), (1, vI x1), (2, vR (some x2))] [] Q) : k_X (jX11_closeCommit G l h0) h 34 [(0, vR (some x0)), (1, vI x1), (2, vR (some x2))] [] Q := by
  rcases e9 : f1_0 with _ | a
  · obtain ⟨h', r, K, q⟩ := K1 e9
    subst e9
    exact ⟨h', r, j_aload_n dX11_closeCommit_34 rfl rfl <| j_getf dX11_closeCommit_35 kf_X11_480 o1 g1_0 <| j_ifnull_t (tgt := 69) dX11_closeCommit_38 (by decide) (j_pick [0, 1] rfl K), q⟩
  · obtain ⟨h', r, K, q⟩ := K2 a e9
    subst e9
    exact ⟨h', r, j_aload_n dX11_closeCommit_34 rfl rfl <| j_getf dX11_closeCommit_35 kf_X11_480 o1 g1_0 <| j_ifnull_f dX11_closeCommit_38 K, q⟩
theorem bX11_closeCommit_41 {h0 h : k_H} {Q : k_H → k_R → Prop} {x0 x2 f1_0 f2_0 : Nat} {x1 f3_6 : Int32} {fs1 : List k_V} (o1 : h.1 x2 = some (k_o 13 fs1)) (g1_0 : fs1[0]? = some (vR (some f1_0))) {fs2 : List k_V} (o2 : h.1 x0 = some (k_o 14 fs2)) (g2_0 : fs2[0]? = some (vR (some f2_0))) {fs3 : List k_V} (o3 : h.1 f2_0 = some (k_o 11 fs3)) (g3_6 : fs3[6]? = some (vI f3_6)) (w : k_is h f1_0 7) {P : k_H → Int32 → Prop} (c : k_cti (tX4_turnedIn G l) [vR (some f1_0), vI f3_6] h P) (K : ∀ h1 v, P h1 v → k_X (jX11_closeCommit G l h0) h1 55 [(0, vR (some x0)), (1, vI x1), (2, vR (some x2))] [vI v] Q) : k_X (jX11_closeCommit G l h0) h 41 [(0, vR (some x0)), (1, vI x1), (2, vR (some x2))] [] Q := by
  obtain ⟨h1, v, c, p⟩ := c
  obtain ⟨h', r, K, q⟩ := K h1 v p
  exact ⟨h', r, j_aload_n dX11_closeCommit_41 rfl rfl <| j_getf dX11_closeCommit_42 kf_X11_480 o1 g1_0 <| j_aload_n dX11_closeCommit_45 rfl rfl <| j_getf dX11_closeCommit_46 kf_X11_14 o2 g2_0 <| j_getf dX11_closeCommit_49 kf_X11_85 o3 g3_6 <| j_callV (v := some (vI v)) (as := [vI f3_6]) dX11_closeCommit_52 kc_X11_484 rfl rfl w (by decide) (Nat.le_of_ble_eq_true rfl) c K, q⟩
theorem bX11_closeCommit_55 {h0 h : k_H} {Q : k_H → k_R → Prop} {x0 : Nat} {x1 s0 : Int32} {x2 : Option Nat} (K1 : s0 = 0 → k_X (jX11_closeCommit G l h0) h 69 [(0, vR (some x0)), (1, vI x1)] [] Q) (K2 : ¬ (s0 = 0) → k_X (jX11_closeCommit G l h0) h 58 [(0, vR (some x0)), (1, vI x1), (2, vR x2)] [] Q) : k_X (jX11_closeCommit G l h0) h 55 [(0, vR (some x0)), (1, vI x1), (2, vR x2)] [vI s0] Q := by
  by_cases hc : s0 = 0
  · skip
    obtain ⟨h', r, K, q⟩ := K1 hc
    exact ⟨h', r, j_if_eq_t (tgt := 69) dX11_closeCommit_55 (by decide) hc (j_pick [0, 1] rfl K), q⟩
  · skip
    obtain ⟨h', r, K, q⟩ := K2 hc
    exact ⟨h', r, j_if_eq_f dX11_closeCommit_55 69 (by decide) hc K, q⟩
theorem bX11_closeCommit_58 {h0 h : k_H} {Q : k_H → k_R → Prop} {x0 x2 f1_0 : Nat} {x1 f2_6 : Int32} {fs1 : List k_V} (o1 : h.1 x0 = some (k_o 14 fs1)) (g1_0 : fs1[0]? = some (vR (some f1_0))) {fs2 : List k_V} (o2 : h.1 f1_0 = some (k_o 11 fs2)) (g2_6 : fs2[6]? = some (vI f2_6)) {fs3 : List k_V} (o3 : h.1 x2 = some (k_o 13 fs3)) (z3 : fs3.length = 2) (K : k_X (jX11_closeCommit G l h0) (k_up h x2 (k_o 13 (fs3.set 1 (vI f2_6)))) 69 [(0, vR (some x0)), (1, vI x1)] [] Q) : k_X (jX11_closeCommit G l h0) h 58 [(0, vR (some x0)), (1, vI x1), (2, vR (some x2))] [] Q := by
  obtain ⟨h', r, K, q⟩ := K
  exact ⟨h', r, j_aload_n dX11_closeCommit_58 rfl rfl <| j_aload_n dX11_closeCommit_59 rfl rfl <| j_getf dX11_closeCommit_60 kf_X11_14 o1 g1_0 <| j_getf dX11_closeCommit_63 kf_X11_85 o2 g2_6 <| j_putf dX11_closeCommit_66 kp_X11_351 o3 (k_ln z3 (by decide)) (k_fit_i _) rfl <| (j_pick [0, 1] rfl K), q⟩
theorem bX11_closeCommit_69 {h0 h : k_H} {Q : k_H → k_R → Prop} {x0 : Nat} {x1 : Int32} (K : k_X (jX11_closeCommit G l h0) h 2 [(0, vR (some x0)), (1, vI (x1 + 1))] [] Q) : k_X (jX11_closeCommit G l h0) h 69 [(0, vR (some x0)), (1, vI x1)] [] Q := by
  obtain ⟨h', r, K, q⟩ := K
  exact ⟨h', r, j_iinc (v := x1 + 1) dX11_closeCommit_69 rfl (by decide) rfl rfl <| j_goto (tgt := 2) dX11_closeCommit_72 (by decide) <| K, q⟩
theorem bX11_closeCommit_75 {h0 h : k_H} {Q : k_H → k_R → Prop} {x0 f1_0 : Nat} {f1_1 : Option Nat} {fs1 : List k_V} (o1 : h.1 x0 = some (k_o 14 fs1)) (g1_1 : fs1[1]? = some (vR f1_1)) (g1_0 : fs1[0]? = some (vR (some f1_0))) (w : k_is h f1_0 11) {P : k_H → Option Nat → Prop} (c : k_ctr (tX8_listHeld G l) [vR (some f1_0), vJ 0, vJ 1331000000000] h P) (K : ∀ h1 v, P h1 v → k_X (jX11_closeCommit G l h0) h1 90 [(0, vR (some x0))] [vR v, vR f1_1] Q) : k_X (jX11_closeCommit G l h0) h 75 [(0, vR (some x0))] [] Q := by
  obtain ⟨h1, v, c, p⟩ := c
  obtain ⟨h', r, K, q⟩ := K h1 v p
  exact ⟨h', r, j_aload_n dX11_closeCommit_75 rfl rfl <| j_getf dX11_closeCommit_76 kf_X11_21 o1 g1_1 <| j_aload_n dX11_closeCommit_79 rfl rfl <| j_getf dX11_closeCommit_80 kf_X11_14 o1 g1_0 <| j_lconst (v := 0) dX11_closeCommit_83 (by decide) <| j_ldc2 (v := 1331000000000) dX11_closeCommit_84 ki_X11_441 <| j_callV (v := some (vR v)) (as := [vJ 0, vJ 1331000000000]) dX11_closeCommit_87 kc_X11_318 rfl rfl w (by decide) (Nat.le_of_ble_eq_true rfl) c K, q⟩
theorem bX11_closeCommit_90 {h0 h : k_H} {Q : k_H → k_R → Prop} {x0 s0 : Nat} {s1 : Option Nat} (w : k_is h s0 9) {P : k_H → Prop} (c : k_ctv (tX6_split G l) [vR (some s0), vR s1] h P) (K : ∀ h1, P h1 → k_X (jX11_closeCommit G l h0) h1 93 [(0, vR (some x0))] [] Q) : k_X (jX11_closeCommit G l h0) h 90 [(0, vR (some x0))] [vR s1, vR (some s0)] Q := by
  obtain ⟨h1, c, p⟩ := c
  obtain ⟨h', r, K, q⟩ := K h1 p
  exact ⟨h', r, j_callV (v := none) (as := [vR s1]) dX11_closeCommit_90 kc_X11_487 rfl rfl w (by decide) (Nat.le_of_ble_eq_true rfl) c K, q⟩
theorem bX11_closeCommit_93 {h0 h : k_H} {Q : k_H → k_R → Prop} {x0 f1_1 : Nat} {fs1 : List k_V} (o1 : h.1 x0 = some (k_o 14 fs1)) (g1_1 : fs1[1]? = some (vR (some f1_1))) (w : k_is h f1_1 9) {P : k_H → Prop} (c : k_ctv (tX6_join G l) [vR (some f1_1)] h P) (K : ∀ h1, P h1 → k_X (jX11_closeCommit G l h0) h1 100 [] [] Q) : k_X (jX11_closeCommit G l h0) h 93 [(0, vR (some x0))] [] Q := by
  obtain ⟨h1, c, p⟩ := c
  obtain ⟨h', r, K, q⟩ := K h1 p
  exact ⟨h', r, j_aload_n dX11_closeCommit_93 rfl rfl <| j_getf dX11_closeCommit_94 kf_X11_21 o1 g1_1 <| j_callV (v := none) (as := []) dX11_closeCommit_97 kc_X11_491 rfl rfl w (by decide) (Nat.le_of_ble_eq_true rfl) c (j_pick [] rfl K), q⟩
theorem bX11_closeCommit_100 {h0 h : k_H} {Q : k_H → k_R → Prop} (q : Q h (.inl none)) : k_X (jX11_closeCommit G l h0) h 100 [] [] Q := by
  exact ⟨_, _, j_vret dX11_closeCommit_100 rfl, q⟩
theorem eX11_firstMet {G : k_G} {l : Launch} (hfl : l.flags = flags0) {h : k_H} {Q : k_H → k_R → Prop} {x0 : Nat} {x1 : Option Nat} (K : k_X (jX11_firstMet G l h) h 0 [(0, vR (some x0)), (1, vR x1)] [] Q) : k_ct (tX11_firstMet G l) [vR (some x0), vR x1] h Q := by
  obtain ⟨h', r, K, q⟩ := K
  exact ⟨h', r, k_CtOf (by decide +kernel) (Nat.le_of_ble_eq_true rfl) K hfl, q⟩

theorem bX11_firstMet_0 {h0 h : k_H} {Q : k_H → k_R → Prop} {x0 : Nat} {x1 : Option Nat} (K : k_X (jX11_firstMet G l h0) h 2 [(0, vR (some x0)), (1, vR x1), (2, vI 0)] [] Q) : k_X (jX11_firstMet G l h0) h 0 [(0, vR (some x0)), (1, vR x1)] [] Q := by
  obtain ⟨h', r, K, q⟩ := K
  exact ⟨h', r, j_iconst (v := 0) dX11_firstMet_0 (by decide) <| j_istore_n dX11_firstMet_1 rfl (by decide) rfl <| K, q⟩
theorem bX11_firstMet_2 {h0 h : k_H} {Q : k_H → k_R → Prop} {x0 x1 f1_1 : Nat} {x2 : Int32} {fs1 : List k_V} (o1 : h.1 x1 = some (k_o 12 fs1)) (g1_1 : fs1[1]? = some (vR (some f1_1))) (w : k_is h f1_1 2) {P : k_H → Int32 → Prop} (c : k_cti (tAL_size G l) [vR (some f1_1)] h P) (K : ∀ h1 v, P h1 v → k_X (jX11_firstMet G l h0) h1 10 [(0, vR (some x0)), (1, vR (some x1)), (2, vI x2)] [vI v, vI x2] Q) : k_X (jX11_firstMet G l h0) h 2 [(0, vR (some x0)), (1, vR (some x1)), (2, vI x2)] [] Q := by
  obtain ⟨h1, v, c, p⟩ := c
  obtain ⟨h', r, K, q⟩ := K h1 v p
  exact ⟨h', r, j_iload_n dX11_firstMet_2 rfl rfl <| j_aload_n dX11_firstMet_3 rfl rfl <| j_getf dX11_firstMet_4 kf_X11_494 o1 g1_1 <| j_callV (v := some (vI v)) (as := []) dX11_firstMet_7 kc_X11_153 rfl rfl w (by decide) (Nat.le_of_ble_eq_true rfl) c K, q⟩
theorem bX11_firstMet_10 {h0 h : k_H} {Q : k_H → k_R → Prop} {x0 : Nat} {x1 : Option Nat} {x2 s0 s1 : Int32} (K1 : s1 ≤ s0 → k_X (jX11_firstMet G l h0) h 51 [] [] Q) (K2 : ¬ (s1 ≤ s0) → k_X (jX11_firstMet G l h0) h 13 [(0, vR (some x0)), (1, vR x1), (2, vI x2)] [] Q) : k_X (jX11_firstMet G l h0) h 10 [(0, vR (some x0)), (1, vR x1), (2, vI x2)] [vI s1, vI s0] Q := by
  by_cases hc : s1 ≤ s0
  · skip
    obtain ⟨h', r, K, q⟩ := K1 hc
    exact ⟨h', r, j_icmp_ge_t (tgt := 51) dX11_firstMet_10 (by decide) hc (j_pick [] rfl K), q⟩
  · skip
    obtain ⟨h', r, K, q⟩ := K2 hc
    exact ⟨h', r, j_icmp_ge_f dX11_firstMet_10 51 (by decide) hc K, q⟩
theorem bX11_firstMet_13 {h0 h : k_H} {Q : k_H → k_R → Prop} {x0 x1 f1_1 : Nat} {x2 : Int32} {fs1 : List k_V} (o1 : h.1 x1 = some (k_o 12 fs1)) (g1_1 : fs1[1]? = some (vR (some f1_1))) (w : k_is h f1_1 2) {P : k_H → Option Nat → Prop} (c : k_ctr (tAL_get G l) [vR (some f1_1), vI x2] h P) (K : ∀ h1 v, P h1 v → k_X (jX11_firstMet G l h0) h1 21 [(0, vR (some x0)), (1, vR (some x1)), (2, vI x2)] [vR v] Q) : k_X (jX11_firstMet G l h0) h 13 [(0, vR (some x0)), (1, vR (some x1)), (2, vI x2)] [] Q := by
  obtain ⟨h1, v, c, p⟩ := c
  obtain ⟨h', r, K, q⟩ := K h1 v p
  exact ⟨h', r, j_aload_n dX11_firstMet_13 rfl rfl <| j_getf dX11_firstMet_14 kf_X11_494 o1 g1_1 <| j_iload_n dX11_firstMet_17 rfl rfl <| j_callV (v := some (vR v)) (as := [vI x2]) dX11_firstMet_18 kc_X11_166 rfl rfl w (by decide) (Nat.le_of_ble_eq_true rfl) c K, q⟩
theorem bX11_firstMet_21 {h0 h : k_H} {Q : k_H → k_R → Prop} {x0 s0 : Nat} {x1 : Option Nat} {x2 : Int32} {fs1 : List k_V} (o1 : h.1 s0 = some (k_o 10 fs1)) (w : k_is h x0 14) {P : k_H → Int32 → Prop} (c : k_cti (tX11_keyMet G l) [vR (some x0), vR x1, vR (some s0)] h P) (K : ∀ h1 v, P h1 v → k_X (jX11_firstMet G l h0) h1 31 [(0, vR (some x0)), (1, vR x1), (2, vI x2), (3, vR (some s0))] [vI v] Q) : k_X (jX11_firstMet G l h0) h 21 [(0, vR (some x0)), (1, vR x1), (2, vI x2)] [vR (some s0)] Q := by
  obtain ⟨h1, v, c, p⟩ := c
  obtain ⟨h', r, K, q⟩ := K h1 v p
  exact ⟨h', r, j_cast dX11_firstMet_21 kk_X11_497 o1 <| j_astore_n dX11_firstMet_24 rfl (by decide) rfl <| j_aload_n dX11_firstMet_25 rfl rfl <| j_aload_n dX11_firstMet_26 rfl rfl <| j_aload_n dX11_firstMet_27 rfl rfl <| j_callV (v := some (vI v)) (as := [vR x1, vR (some s0)]) dX11_firstMet_28 kc_X11_499 rfl rfl w (by decide) (Nat.le_of_ble_eq_true rfl) c K, q⟩
theorem bX11_firstMet_31 {h0 h : k_H} {Q : k_H → k_R → Prop} {x0 : Nat} {x1 x3 : Option Nat} {x2 s0 : Int32} (K1 : ¬ (s0 = 0) → k_X (jX11_firstMet G l h0) h 43 [(2, vI x2)] [] Q) (K2 : s0 = 0 → k_X (jX11_firstMet G l h0) h 34 [(0, vR (some x0)), (1, vR x1), (2, vI x2), (3, vR x3)] [] Q) : k_X (jX11_firstMet G l h0) h 31 [(0, vR (some x0)), (1, vR x1), (2, vI x2), (3, vR x3)] [vI s0] Q := by
  by_cases hc : s0 = 0
  · skip
    obtain ⟨h', r, K, q⟩ := K2 hc
    exact ⟨h', r, j_if_ne_f dX11_firstMet_31 43 (by decide) hc K, q⟩
  · skip
    obtain ⟨h', r, K, q⟩ := K1 hc
    exact ⟨h', r, j_if_ne_t (tgt := 43) dX11_firstMet_31 (by decide) hc (j_pick [2] rfl K), q⟩
theorem bX11_firstMet_34 {h0 h : k_H} {Q : k_H → k_R → Prop} {x0 : Nat} {x1 x3 : Option Nat} {x2 : Int32} (w : k_is h x0 14) {P : k_H → Int32 → Prop} (c : k_cti (tX11_wipeMet G l) [vR (some x0), vR x1, vR x3] h P) (K : ∀ h1 v, P h1 v → k_X (jX11_firstMet G l h0) h1 40 [(0, vR (some x0)), (1, vR x1), (2, vI x2)] [vI v] Q) : k_X (jX11_firstMet G l h0) h 34 [(0, vR (some x0)), (1, vR x1), (2, vI x2), (3, vR x3)] [] Q := by
  obtain ⟨h1, v, c, p⟩ := c
  obtain ⟨h', r, K, q⟩ := K h1 v p
  exact ⟨h', r, j_aload_n dX11_firstMet_34 rfl rfl <| j_aload_n dX11_firstMet_35 rfl rfl <| j_aload_n dX11_firstMet_36 rfl rfl <| j_callV (v := some (vI v)) (as := [vR x1, vR x3]) dX11_firstMet_37 kc_X11_503 rfl rfl w (by decide) (Nat.le_of_ble_eq_true rfl) c (j_pick [0, 1, 2] rfl K), q⟩
theorem bX11_firstMet_40 {h0 h : k_H} {Q : k_H → k_R → Prop} {x0 : Nat} {x1 : Option Nat} {x2 s0 : Int32} (K1 : s0 = 0 → k_X (jX11_firstMet G l h0) h 45 [(0, vR (some x0)), (1, vR x1), (2, vI x2)] [] Q) (K2 : ¬ (s0 = 0) → k_X (jX11_firstMet G l h0) h 43 [(2, vI x2)] [] Q) : k_X (jX11_firstMet G l h0) h 40 [(0, vR (some x0)), (1, vR x1), (2, vI x2)] [vI s0] Q := by
  by_cases hc : s0 = 0
  · skip
    obtain ⟨h', r, K, q⟩ := K1 hc
    exact ⟨h', r, j_if_eq_t (tgt := 45) dX11_firstMet_40 (by decide) hc K, q⟩
  · skip
    obtain ⟨h', r, K, q⟩ := K2 hc
    exact ⟨h', r, j_if_eq_f dX11_firstMet_40 45 (by decide) hc (j_pick [2] rfl K), q⟩
theorem bX11_firstMet_43 {h0 h : k_H} {Q : k_H → k_R → Prop} {x2 : Int32} (q : Q h (.inl (some (vI x2)))) : k_X (jX11_firstMet G l h0) h 43 [(2, vI x2)] [] Q := by
  exact ⟨_, _, j_iload_n dX11_firstMet_43 rfl rfl <| j_iret dX11_firstMet_44 rfl, q⟩
theorem bX11_firstMet_45 {h0 h : k_H} {Q : k_H → k_R → Prop} {x0 : Nat} {x1 : Option Nat} {x2 : Int32} (K : k_X (jX11_firstMet G l h0) h 2 [(0, vR (some x0)), (1, vR x1), (2, vI (x2 + 1))] [] Q) : k_X (jX11_firstMet G l h0) h 45 [(0, vR (some x0)), (1, vR x1), (2, vI x2)] [] Q := by
  obtain ⟨h', r, K, q⟩ := K
  exact ⟨h', r, j_iinc (v := x2 + 1) dX11_firstMet_45 rfl (by decide) rfl rfl <| j_goto (tgt := 2) dX11_firstMet_48 (by decide) <| K, q⟩
theorem bX11_firstMet_51 {h0 h : k_H} {Q : k_H → k_R → Prop} (q : Q h (.inl (some (vI (-2147483648))))) : k_X (jX11_firstMet G l h0) h 51 [] [] Q := by
  exact ⟨_, _, j_ldc (v := (-2147483648)) dX11_firstMet_51 ki_X11_62 <| j_iret dX11_firstMet_53 rfl, q⟩
theorem eX11_keyMet {G : k_G} {l : Launch} (hfl : l.flags = flags0) {h : k_H} {Q : k_H → k_R → Prop} {x0 : Nat} {x1 : Option Nat} {x2 : Option Nat} (K : k_X (jX11_keyMet G l h) h 0 [(0, vR (some x0)), (1, vR x1), (2, vR x2)] [] Q) : k_ct (tX11_keyMet G l) [vR (some x0), vR x1, vR x2] h Q := by
  obtain ⟨h', r, K, q⟩ := K
  exact ⟨h', r, k_CtOf (by decide +kernel) (Nat.le_of_ble_eq_true rfl) K hfl, q⟩

theorem bX11_keyMet_0 {h0 h : k_H} {Q : k_H → k_R → Prop} {x0 f1_0 : Nat} {x1 x2 f2_5 : Option Nat} {fs1 : List k_V} (o1 : h.1 x0 = some (k_o 14 fs1)) (g1_0 : fs1[0]? = some (vR (some f1_0))) {fs2 : List k_V} (o2 : h.1 f1_0 = some (k_o 11 fs2)) (g2_5 : fs2[5]? = some (vR f2_5)) (K : k_X (jX11_keyMet G l h0) h 8 [(1, vR x1), (2, vR x2), (3, vR f2_5)] [] Q) : k_X (jX11_keyMet G l h0) h 0 [(0, vR (some x0)), (1, vR x1), (2, vR x2)] [] Q := by
  obtain ⟨h', r, K, q⟩ := K
  exact ⟨h', r, j_aload_n dX11_keyMet_0 rfl rfl <| j_getf dX11_keyMet_1 kf_X11_14 o1 g1_0 <| j_getf dX11_keyMet_4 kf_X11_506 o2 g2_5 <| j_astore_n dX11_keyMet_7 rfl (by decide) rfl <| (j_pick [1, 2, 3] rfl K), q⟩
theorem bX11_keyMet_8 {h0 h : k_H} {Q : k_H → k_R → Prop} {x1 x2 x3 : Option Nat} (K1 : x3 = none → k_X (jX11_keyMet G l h0) h 79 [] [] Q) (K2 : ∀ a, x3 = some a → k_X (jX11_keyMet G l h0) h 12 [(1, vR x1), (2, vR x2), (3, vR x3)] [] Q) : k_X (jX11_keyMet G l h0) h 8 [(1, vR x1), (2, vR x2), (3, vR x3)] [] Q := by
  rcases e9 : x3 with _ | a
  · obtain ⟨h', r, K, q⟩ := K1 e9
    subst e9
    exact ⟨h', r, j_aload_n dX11_keyMet_8 rfl rfl <| j_ifnull_t (tgt := 79) dX11_keyMet_9 (by decide) (j_pick [] rfl K), q⟩
  · obtain ⟨h', r, K, q⟩ := K2 a e9
    subst e9
    exact ⟨h', r, j_aload_n dX11_keyMet_8 rfl rfl <| j_ifnull_f dX11_keyMet_9 K, q⟩
theorem bX11_keyMet_12 {h0 h : k_H} {Q : k_H → k_R → Prop} {x1 x3 : Nat} {x2 : Option Nat} {f1_1 f2_4 : Int32} {fs1 : List k_V} (o1 : h.1 x3 = some (k_o 6 fs1)) (g1_1 : fs1[1]? = some (vI f1_1)) {fs2 : List k_V} (o2 : h.1 x1 = some (k_o 12 fs2)) (g2_4 : fs2[4]? = some (vI f2_4)) (K1 : f1_1 ≤ f2_4 → k_X (jX11_keyMet G l h0) h 79 [] [] Q) (K2 : ¬ (f1_1 ≤ f2_4) → k_X (jX11_keyMet G l h0) h 23 [(1, vR (some x1)), (2, vR x2), (3, vR (some x3))] [] Q) : k_X (jX11_keyMet G l h0) h 12 [(1, vR (some x1)), (2, vR x2), (3, vR (some x3))] [] Q := by
  by_cases hc : f1_1 ≤ f2_4
  · skip
    obtain ⟨h', r, K, q⟩ := K1 hc
    exact ⟨h', r, j_aload_n dX11_keyMet_12 rfl rfl <| j_getf dX11_keyMet_13 kf_X11_510 o1 g1_1 <| j_aload_n dX11_keyMet_16 rfl rfl <| j_getf dX11_keyMet_17 kf_X11_104 o2 g2_4 <| j_icmp_le_t (tgt := 79) dX11_keyMet_20 (by decide) hc (j_pick [] rfl K), q⟩
  · skip
    obtain ⟨h', r, K, q⟩ := K2 hc
    exact ⟨h', r, j_aload_n dX11_keyMet_12 rfl rfl <| j_getf dX11_keyMet_13 kf_X11_510 o1 g1_1 <| j_aload_n dX11_keyMet_16 rfl rfl <| j_getf dX11_keyMet_17 kf_X11_104 o2 g2_4 <| j_icmp_le_f dX11_keyMet_20 79 (by decide) hc K, q⟩
theorem bX11_keyMet_23 {h0 h : k_H} {Q : k_H → k_R → Prop} {x1 : Option Nat} {x2 x3 f1_0 : Nat} {f2_0 f3_0 : Int64} {fs1 : List k_V} (o1 : h.1 x3 = some (k_o 6 fs1)) (g1_0 : fs1[0]? = some (vR (some f1_0))) {fs2 : List k_V} (o2 : h.1 f1_0 = some (k_o 7 fs2)) (g2_0 : fs2[0]? = some (vJ f2_0)) {fs3 : List k_V} (o3 : h.1 x2 = some (k_o 10 fs3)) (g3_0 : fs3[0]? = some (vJ f3_0)) (K1 : f2_0 < f3_0 → k_X (jX11_keyMet G l h0) h 71 [(1, vR x1), (2, vR (some x2)), (3, vR (some x3))] [] Q) (K2 : ¬ (f2_0 < f3_0) → k_X (jX11_keyMet G l h0) h 42 [(1, vR x1), (2, vR (some x2)), (3, vR (some x3)), (4, vJ f2_0)] [] Q) : k_X (jX11_keyMet G l h0) h 23 [(1, vR x1), (2, vR (some x2)), (3, vR (some x3))] [] Q := by
  by_cases hc : f2_0 < f3_0
  · skip
    obtain ⟨h', r, K, q⟩ := K1 hc
    exact ⟨h', r, j_aload_n dX11_keyMet_23 rfl rfl <| j_getf dX11_keyMet_24 kf_X11_515 o1 g1_0 <| j_getf dX11_keyMet_27 kf_X11_172 o2 g2_0 <| j_lstore dX11_keyMet_30 (by decide) rfl <| j_aload_n dX11_keyMet_32 rfl rfl <| j_getf dX11_keyMet_33 kf_X11_516 o3 g3_0 <| j_lload dX11_keyMet_36 rfl <| j_lcmp dX11_keyMet_38 <| j_if_gt_t (tgt := 71) dX11_keyMet_39 (by decide) ((lg_cmp_gt _ _).mpr hc) (j_pick [0, 1, 2] rfl K), q⟩
  · skip
    obtain ⟨h', r, K, q⟩ := K2 hc
    exact ⟨h', r, j_aload_n dX11_keyMet_23 rfl rfl <| j_getf dX11_keyMet_24 kf_X11_515 o1 g1_0 <| j_getf dX11_keyMet_27 kf_X11_172 o2 g2_0 <| j_lstore dX11_keyMet_30 (by decide) rfl <| j_aload_n dX11_keyMet_32 rfl rfl <| j_getf dX11_keyMet_33 kf_X11_516 o3 g3_0 <| j_lload dX11_keyMet_36 rfl <| j_lcmp dX11_keyMet_38 <| j_if_gt_f dX11_keyMet_39 71 (by decide) ((not_congr (lg_cmp_gt _ _)).mpr hc) K, q⟩
theorem bX11_keyMet_42 {h0 h : k_H} {Q : k_H → k_R → Prop} {x1 x3 : Option Nat} {x2 : Nat} {x4 f1_1 : Int64} {fs1 : List k_V} (o1 : h.1 x2 = some (k_o 10 fs1)) (g1_1 : fs1[1]? = some (vJ f1_1)) (K1 : f1_1 ≤ x4 → k_X (jX11_keyMet G l h0) h 71 [(1, vR x1), (2, vR (some x2)), (3, vR x3)] [] Q) (K2 : ¬ (f1_1 ≤ x4) → k_X (jX11_keyMet G l h0) h 52 [(1, vR x1), (2, vR (some x2)), (3, vR x3), (4, vJ x4)] [] Q) : k_X (jX11_keyMet G l h0) h 42 [(1, vR x1), (2, vR (some x2)), (3, vR x3), (4, vJ x4)] [] Q := by
  by_cases hc : f1_1 ≤ x4
  · skip
    obtain ⟨h', r, K, q⟩ := K1 hc
    exact ⟨h', r, j_lload dX11_keyMet_42 rfl <| j_aload_n dX11_keyMet_44 rfl rfl <| j_getf dX11_keyMet_45 kf_X11_517 o1 g1_1 <| j_lcmp dX11_keyMet_48 <| j_if_ge_t (tgt := 71) dX11_keyMet_49 (by decide) ((lg_cmp_ge _ _).mpr hc) (j_pick [0, 1, 2] rfl K), q⟩
  · skip
    obtain ⟨h', r, K, q⟩ := K2 hc
    exact ⟨h', r, j_lload dX11_keyMet_42 rfl <| j_aload_n dX11_keyMet_44 rfl rfl <| j_getf dX11_keyMet_45 kf_X11_517 o1 g1_1 <| j_lcmp dX11_keyMet_48 <| j_if_ge_f dX11_keyMet_49 71 (by decide) ((not_congr (lg_cmp_ge _ _)).mpr hc) K, q⟩
theorem bX11_keyMet_52 {h0 h : k_H} {Q : k_H → k_R → Prop} {x1 x2 : Nat} {x3 : Option Nat} {x4 : Int64} {f1_2 : Int32} {fs1 : List k_V} (o1 : h.1 x2 = some (k_o 10 fs1)) (g1_2 : fs1[2]? = some (vI f1_2)) (w : k_is h x1 12) {P : k_H → Int32 → Prop} (c : k_cti (tX9_owns G l) [vR (some x1), vJ x4, vJ (x4 + 1), vI f1_2] h P) (K : ∀ h1 v, P h1 v → k_X (jX11_keyMet G l h0) h1 66 [(1, vR (some x1)), (2, vR (some x2)), (3, vR x3)] [vI v] Q) : k_X (jX11_keyMet G l h0) h 52 [(1, vR (some x1)), (2, vR (some x2)), (3, vR x3), (4, vJ x4)] [] Q := by
  obtain ⟨h1, v, c, p⟩ := c
  obtain ⟨h', r, K, q⟩ := K h1 v p
  exact ⟨h', r, j_aload_n dX11_keyMet_52 rfl rfl <| j_lload dX11_keyMet_53 rfl <| j_lload dX11_keyMet_55 rfl <| j_lconst (v := 1) dX11_keyMet_57 (by decide) <| j_ladd dX11_keyMet_58 <| j_aload_n dX11_keyMet_59 rfl rfl <| j_getf dX11_keyMet_60 kf_X11_520 o1 g1_2 <| j_callV (v := some (vI v)) (as := [vJ x4, vJ (x4 + 1), vI f1_2]) dX11_keyMet_63 kc_X11_523 rfl rfl w (by decide) (Nat.le_of_ble_eq_true rfl) c (j_pick [0, 1, 2] rfl K), q⟩
theorem bX11_keyMet_66 {h0 h : k_H} {Q : k_H → k_R → Prop} {x1 x2 x3 : Option Nat} {s0 : Int32} (K1 : ¬ (s0 = 0) → k_X (jX11_keyMet G l h0) h 71 [(1, vR x1), (2, vR x2), (3, vR x3)] [] Q) (K2 : s0 = 0 → k_X (jX11_keyMet G l h0) h 69 [] [] Q) : k_X (jX11_keyMet G l h0) h 66 [(1, vR x1), (2, vR x2), (3, vR x3)] [vI s0] Q := by
  by_cases hc : s0 = 0
  · skip
    obtain ⟨h', r, K, q⟩ := K2 hc
    exact ⟨h', r, j_if_ne_f dX11_keyMet_66 71 (by decide) hc (j_pick [] rfl K), q⟩
  · skip
    obtain ⟨h', r, K, q⟩ := K1 hc
    exact ⟨h', r, j_if_ne_t (tgt := 71) dX11_keyMet_66 (by decide) hc K, q⟩
theorem bX11_keyMet_69 {h0 h : k_H} {Q : k_H → k_R → Prop} (q : Q h (.inl (some (vI 1)))) : k_X (jX11_keyMet G l h0) h 69 [] [] Q := by
  exact ⟨_, _, j_iconst (v := 1) dX11_keyMet_69 (by decide) <| j_zret dX11_keyMet_70 rfl (by decide), q⟩
theorem bX11_keyMet_71 {h0 h : k_H} {Q : k_H → k_R → Prop} {x1 x2 f1_3 : Option Nat} {x3 : Nat} {fs1 : List k_V} (o1 : h.1 x3 = some (k_o 6 fs1)) (g1_3 : fs1[3]? = some (vR f1_3)) (K : k_X (jX11_keyMet G l h0) h 8 [(1, vR x1), (2, vR x2), (3, vR f1_3)] [] Q) : k_X (jX11_keyMet G l h0) h 71 [(1, vR x1), (2, vR x2), (3, vR (some x3))] [] Q := by
  obtain ⟨h', r, K, q⟩ := K
  exact ⟨h', r, j_aload_n dX11_keyMet_71 rfl rfl <| j_getf dX11_keyMet_72 kf_X11_527 o1 g1_3 <| j_astore_n dX11_keyMet_75 rfl (by decide) rfl <| j_goto (tgt := 8) dX11_keyMet_76 (by decide) <| K, q⟩
theorem bX11_keyMet_79 {h0 h : k_H} {Q : k_H → k_R → Prop} (q : Q h (.inl (some (vI 0)))) : k_X (jX11_keyMet G l h0) h 79 [] [] Q := by
  exact ⟨_, _, j_iconst (v := 0) dX11_keyMet_79 (by decide) <| j_zret dX11_keyMet_80 rfl (by decide), q⟩
theorem eX11_wipeMet {G : k_G} {l : Launch} (hfl : l.flags = flags0) {h : k_H} {Q : k_H → k_R → Prop} {x0 : Nat} {x1 : Option Nat} {x2 : Option Nat} (K : k_X (jX11_wipeMet G l h) h 0 [(0, vR (some x0)), (1, vR x1), (2, vR x2)] [] Q) : k_ct (tX11_wipeMet G l) [vR (some x0), vR x1, vR x2] h Q := by
  obtain ⟨h', r, K, q⟩ := K
  exact ⟨h', r, k_CtOf (by decide +kernel) (Nat.le_of_ble_eq_true rfl) K hfl, q⟩

theorem bX11_wipeMet_0 {h0 h : k_H} {Q : k_H → k_R → Prop} {x0 f1_0 f2_1 : Nat} {x1 x2 : Option Nat} {fs1 : List k_V} (o1 : h.1 x0 = some (k_o 14 fs1)) (g1_0 : fs1[0]? = some (vR (some f1_0))) {fs2 : List k_V} (o2 : h.1 f1_0 = some (k_o 11 fs2)) (g2_1 : fs2[1]? = some (vR (some f2_1))) (w : k_is h f2_1 2) {P : k_H → Int32 → Prop} (c : k_cti (tAL_size G l) [vR (some f2_1)] h P) (K : ∀ h1 v, P h1 v → k_X (jX11_wipeMet G l h0) h1 10 [(0, vR (some x0)), (1, vR x1), (2, vR x2)] [vI v] Q) : k_X (jX11_wipeMet G l h0) h 0 [(0, vR (some x0)), (1, vR x1), (2, vR x2)] [] Q := by
  obtain ⟨h1, v, c, p⟩ := c
  obtain ⟨h', r, K, q⟩ := K h1 v p
  exact ⟨h', r, j_aload_n dX11_wipeMet_0 rfl rfl <| j_getf dX11_wipeMet_1 kf_X11_14 o1 g1_0 <| j_getf dX11_wipeMet_4 kf_X11_530 o2 g2_1 <| j_callV (v := some (vI v)) (as := []) dX11_wipeMet_7 kc_X11_153 rfl rfl w (by decide) (Nat.le_of_ble_eq_true rfl) c K, q⟩
theorem bX11_wipeMet_10 {h0 h : k_H} {Q : k_H → k_R → Prop} {x0 : Nat} {x1 x2 : Option Nat} {s0 : Int32} (K : k_X (jX11_wipeMet G l h0) h 13 [(0, vR (some x0)), (1, vR x1), (2, vR x2), (3, vI (s0 - 1))] [] Q) : k_X (jX11_wipeMet G l h0) h 10 [(0, vR (some x0)), (1, vR x1), (2, vR x2)] [vI s0] Q := by
  obtain ⟨h', r, K, q⟩ := K
  exact ⟨h', r, j_iconst (v := 1) dX11_wipeMet_10 (by decide) <| j_isub dX11_wipeMet_11 <| j_istore_n dX11_wipeMet_12 rfl (by decide) rfl <| K, q⟩
theorem bX11_wipeMet_13 {h0 h : k_H} {Q : k_H → k_R → Prop} {x0 : Nat} {x1 x2 : Option Nat} {x3 : Int32} (K1 : x3 < 0 → k_X (jX11_wipeMet G l h0) h 106 [] [] Q) (K2 : ¬ (x3 < 0) → k_X (jX11_wipeMet G l h0) h 17 [(0, vR (some x0)), (1, vR x1), (2, vR x2), (3, vI x3)] [] Q) : k_X (jX11_wipeMet G l h0) h 13 [(0, vR (some x0)), (1, vR x1), (2, vR x2), (3, vI x3)] [] Q := by
  by_cases hc : x3 < 0
  · skip
    obtain ⟨h', r, K, q⟩ := K1 hc
    exact ⟨h', r, j_iload_n dX11_wipeMet_13 rfl rfl <| j_if_lt_t (tgt := 106) dX11_wipeMet_14 (by decide) hc (j_pick [] rfl K), q⟩
  · skip
    obtain ⟨h', r, K, q⟩ := K2 hc
    exact ⟨h', r, j_iload_n dX11_wipeMet_13 rfl rfl <| j_if_lt_f dX11_wipeMet_14 106 (by decide) hc K, q⟩
theorem bX11_wipeMet_17 {h0 h : k_H} {Q : k_H → k_R → Prop} {x0 f1_0 f2_1 : Nat} {x1 x2 : Option Nat} {x3 : Int32} {fs1 : List k_V} (o1 : h.1 x0 = some (k_o 14 fs1)) (g1_0 : fs1[0]? = some (vR (some f1_0))) {fs2 : List k_V} (o2 : h.1 f1_0 = some (k_o 11 fs2)) (g2_1 : fs2[1]? = some (vR (some f2_1))) (w : k_is h f2_1 2) {P : k_H → Option Nat → Prop} (c : k_ctr (tAL_get G l) [vR (some f2_1), vI x3] h P) (K : ∀ h1 v, P h1 v → k_X (jX11_wipeMet G l h0) h1 28 [(0, vR (some x0)), (1, vR x1), (2, vR x2), (3, vI x3)] [vR v] Q) : k_X (jX11_wipeMet G l h0) h 17 [(0, vR (some x0)), (1, vR x1), (2, vR x2), (3, vI x3)] [] Q := by
  obtain ⟨h1, v, c, p⟩ := c
  obtain ⟨h', r, K, q⟩ := K h1 v p
  exact ⟨h', r, j_aload_n dX11_wipeMet_17 rfl rfl <| j_getf dX11_wipeMet_18 kf_X11_14 o1 g1_0 <| j_getf dX11_wipeMet_21 kf_X11_530 o2 g2_1 <| j_iload_n dX11_wipeMet_24 rfl rfl <| j_callV (v := some (vR v)) (as := [vI x3]) dX11_wipeMet_25 kc_X11_166 rfl rfl w (by decide) (Nat.le_of_ble_eq_true rfl) c K, q⟩
theorem bX11_wipeMet_28 {h0 h : k_H} {Q : k_H → k_R → Prop} {x0 x1 s0 : Nat} {x2 : Option Nat} {x3 f1_2 f2_4 : Int32} {fs1 : List k_V} (o1 : h.1 s0 = some (k_o 10 fs1)) (g1_2 : fs1[2]? = some (vI f1_2)) {fs2 : List k_V} (o2 : h.1 x1 = some (k_o 12 fs2)) (g2_4 : fs2[4]? = some (vI f2_4)) (K1 : f2_4 < f1_2 → k_X (jX11_wipeMet G l h0) h 47 [(0, vR (some x0)), (1, vR (some x1)), (2, vR x2), (3, vI x3), (4, vR (some s0))] [] Q) (K2 : ¬ (f2_4 < f1_2) → k_X (jX11_wipeMet G l h0) h 45 [] [] Q) : k_X (jX11_wipeMet G l h0) h 28 [(0, vR (some x0)), (1, vR (some x1)), (2, vR x2), (3, vI x3)] [vR (some s0)] Q := by
  by_cases hc : f2_4 < f1_2
  · skip
    obtain ⟨h', r, K, q⟩ := K1 hc
    exact ⟨h', r, j_cast dX11_wipeMet_28 kk_X11_497 o1 <| j_astore dX11_wipeMet_31 (by decide) rfl <| j_aload dX11_wipeMet_33 rfl <| j_getf dX11_wipeMet_35 kf_X11_520 o1 g1_2 <| j_aload_n dX11_wipeMet_38 rfl rfl <| j_getf dX11_wipeMet_39 kf_X11_104 o2 g2_4 <| j_icmp_gt_t (tgt := 47) dX11_wipeMet_42 (by decide) hc K, q⟩
  · skip
    obtain ⟨h', r, K, q⟩ := K2 hc
    exact ⟨h', r, j_cast dX11_wipeMet_28 kk_X11_497 o1 <| j_astore dX11_wipeMet_31 (by decide) rfl <| j_aload dX11_wipeMet_33 rfl <| j_getf dX11_wipeMet_35 kf_X11_520 o1 g1_2 <| j_aload_n dX11_wipeMet_38 rfl rfl <| j_getf dX11_wipeMet_39 kf_X11_104 o2 g2_4 <| j_icmp_gt_f dX11_wipeMet_42 47 (by decide) hc (j_pick [] rfl K), q⟩
theorem bX11_wipeMet_45 {h0 h : k_H} {Q : k_H → k_R → Prop} (q : Q h (.inl (some (vI 0)))) : k_X (jX11_wipeMet G l h0) h 45 [] [] Q := by
  exact ⟨_, _, j_iconst (v := 0) dX11_wipeMet_45 (by decide) <| j_zret dX11_wipeMet_46 rfl (by decide), q⟩
theorem bX11_wipeMet_47 {h0 h : k_H} {Q : k_H → k_R → Prop} {x0 x2 x4 : Nat} {x1 : Option Nat} {x3 : Int32} {f1_0 f2_0 f1_1 f2_1 : Int64} {fs1 : List k_V} (o1 : h.1 x2 = some (k_o 10 fs1)) (g1_0 : fs1[0]? = some (vJ f1_0)) {fs2 : List k_V} (o2 : h.1 x4 = some (k_o 10 fs2)) (g2_0 : fs2[0]? = some (vJ f2_0)) (g1_1 : fs1[1]? = some (vJ f1_1)) (g2_1 : fs2[1]? = some (vJ f2_1)) (K1 : (if f2_1 < f1_1 then f2_1 else f1_1) ≤ (if f2_0 < f1_0 then f1_0 else f2_0) → k_X (jX11_wipeMet G l h0) h 100 [(0, vR (some x0)), (1, vR x1), (2, vR (some x2)), (3, vI x3)] [] Q) (K2 : ¬ ((if f2_1 < f1_1 then f2_1 else f1_1) ≤ (if f2_0 < f1_0 then f1_0 else f2_0)) → k_X (jX11_wipeMet G l h0) h 83 [(0, vR (some x0)), (1, vR x1), (2, vR (some x2)), (3, vI x3), (5, vJ (if f2_0 < f1_0 then f1_0 else f2_0)), (7, vJ (if f2_1 < f1_1 then f2_1 else f1_1))] [] Q) : k_X (jX11_wipeMet G l h0) h 47 [(0, vR (some x0)), (1, vR x1), (2, vR (some x2)), (3, vI x3), (4, vR (some x4))] [] Q := by
  by_cases hc : (if f2_1 < f1_1 then f2_1 else f1_1) ≤ (if f2_0 < f1_0 then f1_0 else f2_0)
  · skip
    obtain ⟨h', r, K, q⟩ := K1 hc
    exact ⟨h', r, j_aload_n dX11_wipeMet_47 rfl rfl <| j_getf dX11_wipeMet_48 kf_X11_516 o1 g1_0 <| j_aload dX11_wipeMet_51 rfl <| j_getf dX11_wipeMet_53 kf_X11_516 o2 g2_0 <| j_mmaxL dX11_wipeMet_56 km_X11_533 km_st_maxL km_init km_co_maxL (by decide) (Nat.le_of_ble_eq_true rfl) <| j_lstore dX11_wipeMet_59 (by decide) rfl <| j_aload_n dX11_wipeMet_61 rfl rfl <| j_getf dX11_wipeMet_62 kf_X11_517 o1 g1_1 <| j_aload dX11_wipeMet_65 rfl <| j_getf dX11_wipeMet_67 kf_X11_517 o2 g2_1 <| j_mminL dX11_wipeMet_70 km_X11_539 km_st_minL km_init km_co_minL (by decide) (Nat.le_of_ble_eq_true rfl) <| j_lstore dX11_wipeMet_73 (by decide) rfl <| j_lload dX11_wipeMet_75 rfl <| j_lload dX11_wipeMet_77 rfl <| j_lcmp dX11_wipeMet_79 <| j_if_ge_t (tgt := 100) dX11_wipeMet_80 (by decide) ((lg_cmp_ge _ _).mpr hc) (j_pick [0, 1, 2, 3] rfl K), q⟩
  · skip
    obtain ⟨h', r, K, q⟩ := K2 hc
    exact ⟨h', r, j_aload_n dX11_wipeMet_47 rfl rfl <| j_getf dX11_wipeMet_48 kf_X11_516 o1 g1_0 <| j_aload dX11_wipeMet_51 rfl <| j_getf dX11_wipeMet_53 kf_X11_516 o2 g2_0 <| j_mmaxL dX11_wipeMet_56 km_X11_533 km_st_maxL km_init km_co_maxL (by decide) (Nat.le_of_ble_eq_true rfl) <| j_lstore dX11_wipeMet_59 (by decide) rfl <| j_aload_n dX11_wipeMet_61 rfl rfl <| j_getf dX11_wipeMet_62 kf_X11_517 o1 g1_1 <| j_aload dX11_wipeMet_65 rfl <| j_getf dX11_wipeMet_67 kf_X11_517 o2 g2_1 <| j_mminL dX11_wipeMet_70 km_X11_539 km_st_minL km_init km_co_minL (by decide) (Nat.le_of_ble_eq_true rfl) <| j_lstore dX11_wipeMet_73 (by decide) rfl <| j_lload dX11_wipeMet_75 rfl <| j_lload dX11_wipeMet_77 rfl <| j_lcmp dX11_wipeMet_79 <| j_if_ge_f dX11_wipeMet_80 100 (by decide) ((not_congr (lg_cmp_ge _ _)).mpr hc) (j_pick [0, 1, 2, 3, 5, 6] rfl K), q⟩
theorem bX11_wipeMet_83 {h0 h : k_H} {Q : k_H → k_R → Prop} {x0 x1 x2 : Nat} {x3 f1_2 : Int32} {x5 x7 : Int64} {fs1 : List k_V} (o1 : h.1 x2 = some (k_o 10 fs1)) (g1_2 : fs1[2]? = some (vI f1_2)) (w : k_is h x1 12) {P : k_H → Int32 → Prop} (c : k_cti (tX9_owns G l) [vR (some x1), vJ x5, vJ x7, vI f1_2] h P) (K : ∀ h1 v, P h1 v → k_X (jX11_wipeMet G l h0) h1 95 [(0, vR (some x0)), (1, vR (some x1)), (2, vR (some x2)), (3, vI x3)] [vI v] Q) : k_X (jX11_wipeMet G l h0) h 83 [(0, vR (some x0)), (1, vR (some x1)), (2, vR (some x2)), (3, vI x3), (5, vJ x5), (7, vJ x7)] [] Q := by
  obtain ⟨h1, v, c, p⟩ := c
  obtain ⟨h', r, K, q⟩ := K h1 v p
  exact ⟨h', r, j_aload_n dX11_wipeMet_83 rfl rfl <| j_lload dX11_wipeMet_84 rfl <| j_lload dX11_wipeMet_86 rfl <| j_aload_n dX11_wipeMet_88 rfl rfl <| j_getf dX11_wipeMet_89 kf_X11_520 o1 g1_2 <| j_callV (v := some (vI v)) (as := [vJ x5, vJ x7, vI f1_2]) dX11_wipeMet_92 kc_X11_523 rfl rfl w (by decide) (Nat.le_of_ble_eq_true rfl) c (j_pick [0, 1, 2, 3] rfl K), q⟩
theorem bX11_wipeMet_95 {h0 h : k_H} {Q : k_H → k_R → Prop} {x0 : Nat} {x1 x2 : Option Nat} {x3 s0 : Int32} (K1 : ¬ (s0 = 0) → k_X (jX11_wipeMet G l h0) h 100 [(0, vR (some x0)), (1, vR x1), (2, vR x2), (3, vI x3)] [] Q) (K2 : s0 = 0 → k_X (jX11_wipeMet G l h0) h 98 [] [] Q) : k_X (jX11_wipeMet G l h0) h 95 [(0, vR (some x0)), (1, vR x1), (2, vR x2), (3, vI x3)] [vI s0] Q := by
  by_cases hc : s0 = 0
  · skip
    obtain ⟨h', r, K, q⟩ := K2 hc
    exact ⟨h', r, j_if_ne_f dX11_wipeMet_95 100 (by decide) hc (j_pick [] rfl K), q⟩
  · skip
    obtain ⟨h', r, K, q⟩ := K1 hc
    exact ⟨h', r, j_if_ne_t (tgt := 100) dX11_wipeMet_95 (by decide) hc K, q⟩
theorem bX11_wipeMet_98 {h0 h : k_H} {Q : k_H → k_R → Prop} (q : Q h (.inl (some (vI 1)))) : k_X (jX11_wipeMet G l h0) h 98 [] [] Q := by
  exact ⟨_, _, j_iconst (v := 1) dX11_wipeMet_98 (by decide) <| j_zret dX11_wipeMet_99 rfl (by decide), q⟩
theorem bX11_wipeMet_100 {h0 h : k_H} {Q : k_H → k_R → Prop} {x0 : Nat} {x1 x2 : Option Nat} {x3 : Int32} (K : k_X (jX11_wipeMet G l h0) h 13 [(0, vR (some x0)), (1, vR x1), (2, vR x2), (3, vI (x3 + (-1)))] [] Q) : k_X (jX11_wipeMet G l h0) h 100 [(0, vR (some x0)), (1, vR x1), (2, vR x2), (3, vI x3)] [] Q := by
  obtain ⟨h', r, K, q⟩ := K
  exact ⟨h', r, j_iinc (v := x3 + (-1)) dX11_wipeMet_100 rfl (by decide) rfl rfl <| j_goto (tgt := 13) dX11_wipeMet_103 (by decide) <| K, q⟩
theorem bX11_wipeMet_106 {h0 h : k_H} {Q : k_H → k_R → Prop} (q : Q h (.inl (some (vI 0)))) : k_X (jX11_wipeMet G l h0) h 106 [] [] Q := by
  exact ⟨_, _, j_iconst (v := 0) dX11_wipeMet_106 (by decide) <| j_zret dX11_wipeMet_107 rfl (by decide), q⟩
theorem eX11_findDirectory {G : k_G} {l : Launch} (hfl : l.flags = flags0) {h : k_H} {Q : k_H → k_R → Prop} {x0 : Nat} {x1 : Int32} (K : k_X (jX11_findDirectory G l h) h 0 [(0, vR (some x0)), (1, vI x1)] [] Q) : k_ct (tX11_findDirectory G l) [vR (some x0), vI x1] h Q := by
  obtain ⟨h', r, K, q⟩ := K
  exact ⟨h', r, k_CtOf (by decide +kernel) (Nat.le_of_ble_eq_true rfl) K hfl, q⟩

theorem bX11_findDirectory_0 {h0 h : k_H} {Q : k_H → k_R → Prop} {x0 : Nat} {x1 : Int32} (K : k_X (jX11_findDirectory G l h0) h 2 [(0, vR (some x0)), (1, vI x1), (2, vI 0)] [] Q) : k_X (jX11_findDirectory G l h0) h 0 [(0, vR (some x0)), (1, vI x1)] [] Q := by
  obtain ⟨h', r, K, q⟩ := K
  exact ⟨h', r, j_iconst (v := 0) dX11_findDirectory_0 (by decide) <| j_istore_n dX11_findDirectory_1 rfl (by decide) rfl <| K, q⟩
theorem bX11_findDirectory_2 {h0 h : k_H} {Q : k_H → k_R → Prop} {x0 f1_5 : Nat} {x1 x2 : Int32} {fs1 : List k_V} (o1 : h.1 x0 = some (k_o 14 fs1)) (g1_5 : fs1[5]? = some (vR (some f1_5))) (w : k_is h f1_5 2) {P : k_H → Int32 → Prop} (c : k_cti (tAL_size G l) [vR (some f1_5)] h P) (K : ∀ h1 v, P h1 v → k_X (jX11_findDirectory G l h0) h1 10 [(0, vR (some x0)), (1, vI x1), (2, vI x2)] [vI v, vI x2] Q) : k_X (jX11_findDirectory G l h0) h 2 [(0, vR (some x0)), (1, vI x1), (2, vI x2)] [] Q := by
  obtain ⟨h1, v, c, p⟩ := c
  obtain ⟨h', r, K, q⟩ := K h1 v p
  exact ⟨h', r, j_iload_n dX11_findDirectory_2 rfl rfl <| j_aload_n dX11_findDirectory_3 rfl rfl <| j_getf dX11_findDirectory_4 kf_X11_42 o1 g1_5 <| j_callV (v := some (vI v)) (as := []) dX11_findDirectory_7 kc_X11_153 rfl rfl w (by decide) (Nat.le_of_ble_eq_true rfl) c K, q⟩
theorem bX11_findDirectory_10 {h0 h : k_H} {Q : k_H → k_R → Prop} {x0 : Nat} {x1 x2 s0 s1 : Int32} (K1 : s1 ≤ s0 → k_X (jX11_findDirectory G l h0) h 41 [] [] Q) (K2 : ¬ (s1 ≤ s0) → k_X (jX11_findDirectory G l h0) h 13 [(0, vR (some x0)), (1, vI x1), (2, vI x2)] [] Q) : k_X (jX11_findDirectory G l h0) h 10 [(0, vR (some x0)), (1, vI x1), (2, vI x2)] [vI s1, vI s0] Q := by
  by_cases hc : s1 ≤ s0
  · skip
    obtain ⟨h', r, K, q⟩ := K1 hc
    exact ⟨h', r, j_icmp_ge_t (tgt := 41) dX11_findDirectory_10 (by decide) hc (j_pick [] rfl K), q⟩
  · skip
    obtain ⟨h', r, K, q⟩ := K2 hc
    exact ⟨h', r, j_icmp_ge_f dX11_findDirectory_10 41 (by decide) hc K, q⟩
theorem bX11_findDirectory_13 {h0 h : k_H} {Q : k_H → k_R → Prop} {x0 f1_5 : Nat} {x1 x2 : Int32} {fs1 : List k_V} (o1 : h.1 x0 = some (k_o 14 fs1)) (g1_5 : fs1[5]? = some (vR (some f1_5))) (w : k_is h f1_5 2) {P : k_H → Option Nat → Prop} (c : k_ctr (tAL_get G l) [vR (some f1_5), vI x2] h P) (K : ∀ h1 v, P h1 v → k_X (jX11_findDirectory G l h0) h1 21 [(0, vR (some x0)), (1, vI x1), (2, vI x2)] [vR v] Q) : k_X (jX11_findDirectory G l h0) h 13 [(0, vR (some x0)), (1, vI x1), (2, vI x2)] [] Q := by
  obtain ⟨h1, v, c, p⟩ := c
  obtain ⟨h', r, K, q⟩ := K h1 v p
  exact ⟨h', r, j_aload_n dX11_findDirectory_13 rfl rfl <| j_getf dX11_findDirectory_14 kf_X11_42 o1 g1_5 <| j_iload_n dX11_findDirectory_17 rfl rfl <| j_callV (v := some (vR v)) (as := [vI x2]) dX11_findDirectory_18 kc_X11_166 rfl rfl w (by decide) (Nat.le_of_ble_eq_true rfl) c K, q⟩
theorem bX11_findDirectory_21 {h0 h : k_H} {Q : k_H → k_R → Prop} {x0 s0 : Nat} {x1 x2 f1_0 : Int32} {fs1 : List k_V} (o1 : h.1 s0 = some (k_o 5 fs1)) (g1_0 : fs1[0]? = some (vI f1_0)) (K1 : ¬ (f1_0 = x1) → k_X (jX11_findDirectory G l h0) h 35 [(0, vR (some x0)), (1, vI x1), (2, vI x2)] [] Q) (K2 : f1_0 = x1 → k_X (jX11_findDirectory G l h0) h 33 [(3, vR (some s0))] [] Q) : k_X (jX11_findDirectory G l h0) h 21 [(0, vR (some x0)), (1, vI x1), (2, vI x2)] [vR (some s0)] Q := by
  by_cases hc : f1_0 = x1
  · skip
    obtain ⟨h', r, K, q⟩ := K2 hc
    exact ⟨h', r, j_cast dX11_findDirectory_21 kk_X11_76 o1 <| j_astore_n dX11_findDirectory_24 rfl (by decide) rfl <| j_aload_n dX11_findDirectory_25 rfl rfl <| j_getf dX11_findDirectory_26 kf_X11_253 o1 g1_0 <| j_iload_n dX11_findDirectory_29 rfl rfl <| j_icmp_ne_f dX11_findDirectory_30 35 (by decide) hc (j_pick [3] rfl K), q⟩
  · skip
    obtain ⟨h', r, K, q⟩ := K1 hc
    exact ⟨h', r, j_cast dX11_findDirectory_21 kk_X11_76 o1 <| j_astore_n dX11_findDirectory_24 rfl (by decide) rfl <| j_aload_n dX11_findDirectory_25 rfl rfl <| j_getf dX11_findDirectory_26 kf_X11_253 o1 g1_0 <| j_iload_n dX11_findDirectory_29 rfl rfl <| j_icmp_ne_t (tgt := 35) dX11_findDirectory_30 (by decide) hc (j_pick [0, 1, 2] rfl K), q⟩
theorem bX11_findDirectory_33 {h0 h : k_H} {Q : k_H → k_R → Prop} {x3 : Option Nat} (q : Q h (.inl (some (vR x3)))) : k_X (jX11_findDirectory G l h0) h 33 [(3, vR x3)] [] Q := by
  exact ⟨_, _, j_aload_n dX11_findDirectory_33 rfl rfl <| j_aret dX11_findDirectory_34 rfl (Or.inl ⟨_, rfl⟩), q⟩
theorem bX11_findDirectory_35 {h0 h : k_H} {Q : k_H → k_R → Prop} {x0 : Nat} {x1 x2 : Int32} (K : k_X (jX11_findDirectory G l h0) h 2 [(0, vR (some x0)), (1, vI x1), (2, vI (x2 + 1))] [] Q) : k_X (jX11_findDirectory G l h0) h 35 [(0, vR (some x0)), (1, vI x1), (2, vI x2)] [] Q := by
  obtain ⟨h', r, K, q⟩ := K
  exact ⟨h', r, j_iinc (v := x2 + 1) dX11_findDirectory_35 rfl (by decide) rfl rfl <| j_goto (tgt := 2) dX11_findDirectory_38 (by decide) <| K, q⟩
theorem bX11_findDirectory_41 {h0 h : k_H} {Q : k_H → k_R → Prop} (q : Q h (.inl (some (vR none)))) : k_X (jX11_findDirectory G l h0) h 41 [] [] Q := by
  exact ⟨_, _, j_null dX11_findDirectory_41 <| j_aret dX11_findDirectory_42 rfl (Or.inl ⟨_, rfl⟩), q⟩
theorem eX11_childOf {G : k_G} {l : Launch} (hfl : l.flags = flags0) {h : k_H} {Q : k_H → k_R → Prop} {x0 : Nat} {x1 : Option Nat} {x2 : Int32} (K : k_X (jX11_childOf G l h) h 0 [(0, vR (some x0)), (1, vR x1), (2, vI x2)] [] Q) : k_ct (tX11_childOf G l) [vR (some x0), vR x1, vI x2] h Q := by
  obtain ⟨h', r, K, q⟩ := K
  exact ⟨h', r, k_CtOf (by decide +kernel) (Nat.le_of_ble_eq_true rfl) K hfl, q⟩

theorem bX11_childOf_0 {h0 h : k_H} {Q : k_H → k_R → Prop} {x0 : Nat} {x1 : Option Nat} {x2 : Int32} (K : k_X (jX11_childOf G l h0) h 2 [(0, vR (some x0)), (1, vR x1), (2, vI x2), (3, vI 0)] [] Q) : k_X (jX11_childOf G l h0) h 0 [(0, vR (some x0)), (1, vR x1), (2, vI x2)] [] Q := by
  obtain ⟨h', r, K, q⟩ := K
  exact ⟨h', r, j_iconst (v := 0) dX11_childOf_0 (by decide) <| j_istore_n dX11_childOf_1 rfl (by decide) rfl <| K, q⟩
theorem bX11_childOf_2 {h0 h : k_H} {Q : k_H → k_R → Prop} {x0 f1_5 : Nat} {x1 : Option Nat} {x2 x3 : Int32} {fs1 : List k_V} (o1 : h.1 x0 = some (k_o 14 fs1)) (g1_5 : fs1[5]? = some (vR (some f1_5))) (w : k_is h f1_5 2) {P : k_H → Int32 → Prop} (c : k_cti (tAL_size G l) [vR (some f1_5)] h P) (K : ∀ h1 v, P h1 v → k_X (jX11_childOf G l h0) h1 10 [(0, vR (some x0)), (1, vR x1), (2, vI x2), (3, vI x3)] [vI v, vI x3] Q) : k_X (jX11_childOf G l h0) h 2 [(0, vR (some x0)), (1, vR x1), (2, vI x2), (3, vI x3)] [] Q := by
  obtain ⟨h1, v, c, p⟩ := c
  obtain ⟨h', r, K, q⟩ := K h1 v p
  exact ⟨h', r, j_iload_n dX11_childOf_2 rfl rfl <| j_aload_n dX11_childOf_3 rfl rfl <| j_getf dX11_childOf_4 kf_X11_42 o1 g1_5 <| j_callV (v := some (vI v)) (as := []) dX11_childOf_7 kc_X11_153 rfl rfl w (by decide) (Nat.le_of_ble_eq_true rfl) c K, q⟩
theorem bX11_childOf_10 {h0 h : k_H} {Q : k_H → k_R → Prop} {x0 : Nat} {x1 : Option Nat} {x2 x3 s0 s1 : Int32} (K1 : s1 ≤ s0 → k_X (jX11_childOf G l h0) h 53 [] [] Q) (K2 : ¬ (s1 ≤ s0) → k_X (jX11_childOf G l h0) h 13 [(0, vR (some x0)), (1, vR x1), (2, vI x2), (3, vI x3)] [] Q) : k_X (jX11_childOf G l h0) h 10 [(0, vR (some x0)), (1, vR x1), (2, vI x2), (3, vI x3)] [vI s1, vI s0] Q := by
  by_cases hc : s1 ≤ s0
  · skip
    obtain ⟨h', r, K, q⟩ := K1 hc
    exact ⟨h', r, j_icmp_ge_t (tgt := 53) dX11_childOf_10 (by decide) hc (j_pick [] rfl K), q⟩
  · skip
    obtain ⟨h', r, K, q⟩ := K2 hc
    exact ⟨h', r, j_icmp_ge_f dX11_childOf_10 53 (by decide) hc K, q⟩
theorem bX11_childOf_13 {h0 h : k_H} {Q : k_H → k_R → Prop} {x0 f1_5 : Nat} {x1 : Option Nat} {x2 x3 : Int32} {fs1 : List k_V} (o1 : h.1 x0 = some (k_o 14 fs1)) (g1_5 : fs1[5]? = some (vR (some f1_5))) (w : k_is h f1_5 2) {P : k_H → Option Nat → Prop} (c : k_ctr (tAL_get G l) [vR (some f1_5), vI x3] h P) (K : ∀ h1 v, P h1 v → k_X (jX11_childOf G l h0) h1 21 [(0, vR (some x0)), (1, vR x1), (2, vI x2), (3, vI x3)] [vR v] Q) : k_X (jX11_childOf G l h0) h 13 [(0, vR (some x0)), (1, vR x1), (2, vI x2), (3, vI x3)] [] Q := by
  obtain ⟨h1, v, c, p⟩ := c
  obtain ⟨h', r, K, q⟩ := K h1 v p
  exact ⟨h', r, j_aload_n dX11_childOf_13 rfl rfl <| j_getf dX11_childOf_14 kf_X11_42 o1 g1_5 <| j_iload_n dX11_childOf_17 rfl rfl <| j_callV (v := some (vR v)) (as := [vI x3]) dX11_childOf_18 kc_X11_166 rfl rfl w (by decide) (Nat.le_of_ble_eq_true rfl) c K, q⟩
theorem bX11_childOf_21 {h0 h : k_H} {Q : k_H → k_R → Prop} {x0 s0 : Nat} {x1 f1_2 : Option Nat} {x2 x3 : Int32} {fs1 : List k_V} (o1 : h.1 s0 = some (k_o 5 fs1)) (g1_2 : fs1[2]? = some (vR f1_2)) (K1 : ¬ (f1_2 = x1) → k_X (jX11_childOf G l h0) h 47 [(0, vR (some x0)), (1, vR x1), (2, vI x2), (3, vI x3)] [] Q) (K2 : f1_2 = x1 → k_X (jX11_childOf G l h0) h 35 [(0, vR (some x0)), (1, vR x1), (2, vI x2), (3, vI x3), (4, vR (some s0))] [] Q) : k_X (jX11_childOf G l h0) h 21 [(0, vR (some x0)), (1, vR x1), (2, vI x2), (3, vI x3)] [vR (some s0)] Q := by
  by_cases hc : f1_2 = x1
  · skip
    obtain ⟨h', r, K, q⟩ := K2 hc
    revert K q
    first | subst hc | (rw [hc]) | skip
    intro K q
    exact ⟨h', r, j_cast dX11_childOf_21 kk_X11_76 o1 <| j_astore dX11_childOf_24 (by decide) rfl <| j_aload dX11_childOf_26 rfl <| j_getf dX11_childOf_28 kf_X11_264 o1 g1_2 <| j_aload_n dX11_childOf_31 rfl rfl <| j_acmp_ne_f dX11_childOf_32 47 (by decide) K, q⟩
  · skip
    obtain ⟨h', r, K, q⟩ := K1 hc
    exact ⟨h', r, j_cast dX11_childOf_21 kk_X11_76 o1 <| j_astore dX11_childOf_24 (by decide) rfl <| j_aload dX11_childOf_26 rfl <| j_getf dX11_childOf_28 kf_X11_264 o1 g1_2 <| j_aload_n dX11_childOf_31 rfl rfl <| j_acmp_ne_t (tgt := 47) dX11_childOf_32 (by decide) hc (j_pick [0, 1, 2, 3] rfl K), q⟩
theorem bX11_childOf_35 {h0 h : k_H} {Q : k_H → k_R → Prop} {x0 x4 : Nat} {x1 : Option Nat} {x2 x3 f1_3 : Int32} {fs1 : List k_V} (o1 : h.1 x4 = some (k_o 5 fs1)) (g1_3 : fs1[3]? = some (vI f1_3)) (K1 : ¬ (f1_3 = x2) → k_X (jX11_childOf G l h0) h 47 [(0, vR (some x0)), (1, vR x1), (2, vI x2), (3, vI x3)] [] Q) (K2 : f1_3 = x2 → k_X (jX11_childOf G l h0) h 44 [(4, vR (some x4))] [] Q) : k_X (jX11_childOf G l h0) h 35 [(0, vR (some x0)), (1, vR x1), (2, vI x2), (3, vI x3), (4, vR (some x4))] [] Q := by
  by_cases hc : f1_3 = x2
  · skip
    obtain ⟨h', r, K, q⟩ := K2 hc
    exact ⟨h', r, j_aload dX11_childOf_35 rfl <| j_getf dX11_childOf_37 kf_X11_268 o1 g1_3 <| j_iload_n dX11_childOf_40 rfl rfl <| j_icmp_ne_f dX11_childOf_41 47 (by decide) hc (j_pick [4] rfl K), q⟩
  · skip
    obtain ⟨h', r, K, q⟩ := K1 hc
    exact ⟨h', r, j_aload dX11_childOf_35 rfl <| j_getf dX11_childOf_37 kf_X11_268 o1 g1_3 <| j_iload_n dX11_childOf_40 rfl rfl <| j_icmp_ne_t (tgt := 47) dX11_childOf_41 (by decide) hc (j_pick [0, 1, 2, 3] rfl K), q⟩
theorem bX11_childOf_44 {h0 h : k_H} {Q : k_H → k_R → Prop} {x4 : Option Nat} (q : Q h (.inl (some (vR x4)))) : k_X (jX11_childOf G l h0) h 44 [(4, vR x4)] [] Q := by
  exact ⟨_, _, j_aload dX11_childOf_44 rfl <| j_aret dX11_childOf_46 rfl (Or.inl ⟨_, rfl⟩), q⟩
theorem bX11_childOf_47 {h0 h : k_H} {Q : k_H → k_R → Prop} {x0 : Nat} {x1 : Option Nat} {x2 x3 : Int32} (K : k_X (jX11_childOf G l h0) h 2 [(0, vR (some x0)), (1, vR x1), (2, vI x2), (3, vI (x3 + 1))] [] Q) : k_X (jX11_childOf G l h0) h 47 [(0, vR (some x0)), (1, vR x1), (2, vI x2), (3, vI x3)] [] Q := by
  obtain ⟨h', r, K, q⟩ := K
  exact ⟨h', r, j_iinc (v := x3 + 1) dX11_childOf_47 rfl (by decide) rfl rfl <| j_goto (tgt := 2) dX11_childOf_50 (by decide) <| K, q⟩
theorem bX11_childOf_53 {h0 h : k_H} {Q : k_H → k_R → Prop} (q : Q h (.inl (some (vR none)))) : k_X (jX11_childOf G l h0) h 53 [] [] Q := by
  exact ⟨_, _, j_null dX11_childOf_53 <| j_aret dX11_childOf_54 rfl (Or.inl ⟨_, rfl⟩), q⟩
theorem eX11_isWithin {G : k_G} {l : Launch} (hfl : l.flags = flags0) {h : k_H} {Q : k_H → k_R → Prop} {x0 : Option Nat} {x1 : Option Nat} (K : k_X (jX11_isWithin G l h) h 0 [(0, vR x0), (1, vR x1)] [] Q) : k_ct (tX11_isWithin G l) [vR x0, vR x1] h Q := by
  obtain ⟨h', r, K, q⟩ := K
  exact ⟨h', r, k_CtOf (by decide +kernel) (Nat.le_of_ble_eq_true rfl) K hfl, q⟩

theorem bX11_isWithin_0 {h0 h : k_H} {Q : k_H → k_R → Prop} {x0 x1 : Option Nat} (K : k_X (jX11_isWithin G l h0) h 2 [(1, vR x1), (2, vR x0)] [] Q) : k_X (jX11_isWithin G l h0) h 0 [(0, vR x0), (1, vR x1)] [] Q := by
  obtain ⟨h', r, K, q⟩ := K
  exact ⟨h', r, j_aload_n dX11_isWithin_0 rfl rfl <| j_astore_n dX11_isWithin_1 rfl (by decide) rfl <| (j_pick [1, 2] rfl K), q⟩
theorem bX11_isWithin_2 {h0 h : k_H} {Q : k_H → k_R → Prop} {x1 x2 : Option Nat} (K1 : x2 = none → k_X (jX11_isWithin G l h0) h 21 [] [] Q) (K2 : ∀ a, x2 = some a → k_X (jX11_isWithin G l h0) h 6 [(1, vR x1), (2, vR x2)] [] Q) : k_X (jX11_isWithin G l h0) h 2 [(1, vR x1), (2, vR x2)] [] Q := by
  rcases e9 : x2 with _ | a
  · obtain ⟨h', r, K, q⟩ := K1 e9
    subst e9
    exact ⟨h', r, j_aload_n dX11_isWithin_2 rfl rfl <| j_ifnull_t (tgt := 21) dX11_isWithin_3 (by decide) (j_pick [] rfl K), q⟩
  · obtain ⟨h', r, K, q⟩ := K2 a e9
    subst e9
    exact ⟨h', r, j_aload_n dX11_isWithin_2 rfl rfl <| j_ifnull_f dX11_isWithin_3 K, q⟩
theorem bX11_isWithin_6 {h0 h : k_H} {Q : k_H → k_R → Prop} {x1 x2 : Option Nat} (K1 : ¬ (x2 = x1) → k_X (jX11_isWithin G l h0) h 13 [(1, vR x1), (2, vR x2)] [] Q) (K2 : x2 = x1 → k_X (jX11_isWithin G l h0) h 11 [] [] Q) : k_X (jX11_isWithin G l h0) h 6 [(1, vR x1), (2, vR x2)] [] Q := by
  by_cases hc : x2 = x1
  · skip
    obtain ⟨h', r, K, q⟩ := K2 hc
    revert K q
    first | subst hc | (rw [hc]) | skip
    intro K q
    exact ⟨h', r, j_aload_n dX11_isWithin_6 rfl rfl <| j_aload_n dX11_isWithin_7 rfl rfl <| j_acmp_ne_f dX11_isWithin_8 13 (by decide) (j_pick [] rfl K), q⟩
  · skip
    obtain ⟨h', r, K, q⟩ := K1 hc
    exact ⟨h', r, j_aload_n dX11_isWithin_6 rfl rfl <| j_aload_n dX11_isWithin_7 rfl rfl <| j_acmp_ne_t (tgt := 13) dX11_isWithin_8 (by decide) hc K, q⟩
theorem bX11_isWithin_11 {h0 h : k_H} {Q : k_H → k_R → Prop} (q : Q h (.inl (some (vI 1)))) : k_X (jX11_isWithin G l h0) h 11 [] [] Q := by
  exact ⟨_, _, j_iconst (v := 1) dX11_isWithin_11 (by decide) <| j_zret dX11_isWithin_12 rfl (by decide), q⟩
theorem bX11_isWithin_13 {h0 h : k_H} {Q : k_H → k_R → Prop} {x1 f1_2 : Option Nat} {x2 : Nat} {fs1 : List k_V} (o1 : h.1 x2 = some (k_o 5 fs1)) (g1_2 : fs1[2]? = some (vR f1_2)) (K : k_X (jX11_isWithin G l h0) h 2 [(1, vR x1), (2, vR f1_2)] [] Q) : k_X (jX11_isWithin G l h0) h 13 [(1, vR x1), (2, vR (some x2))] [] Q := by
  obtain ⟨h', r, K, q⟩ := K
  exact ⟨h', r, j_aload_n dX11_isWithin_13 rfl rfl <| j_getf dX11_isWithin_14 kf_X11_264 o1 g1_2 <| j_astore_n dX11_isWithin_17 rfl (by decide) rfl <| j_goto (tgt := 2) dX11_isWithin_18 (by decide) <| K, q⟩
theorem bX11_isWithin_21 {h0 h : k_H} {Q : k_H → k_R → Prop} (q : Q h (.inl (some (vI 0)))) : k_X (jX11_isWithin G l h0) h 21 [] [] Q := by
  exact ⟨_, _, j_iconst (v := 0) dX11_isWithin_21 (by decide) <| j_zret dX11_isWithin_22 rfl (by decide), q⟩
theorem eX11_freeShortName {G : k_G} {l : Launch} (hfl : l.flags = flags0) {h : k_H} {Q : k_H → k_R → Prop} {x0 : Nat} (K : k_X (jX11_freeShortName G l h) h 0 [(0, vR (some x0))] [] Q) : k_ct (tX11_freeShortName G l) [vR (some x0)] h Q := by
  obtain ⟨h', r, K, q⟩ := K
  exact ⟨h', r, k_CtOf (by decide +kernel) (Nat.le_of_ble_eq_true rfl) K hfl, q⟩

theorem bX11_freeShortName_0 {h0 h : k_H} {Q : k_H → k_R → Prop} {x0 : Nat} (K : k_X (jX11_freeShortName G l h0) h 2 [(0, vR (some x0)), (1, vI 1)] [] Q) : k_X (jX11_freeShortName G l h0) h 0 [(0, vR (some x0))] [] Q := by
  obtain ⟨h', r, K, q⟩ := K
  exact ⟨h', r, j_iconst (v := 1) dX11_freeShortName_0 (by decide) <| j_istore_n dX11_freeShortName_1 rfl (by decide) rfl <| K, q⟩
theorem bX11_freeShortName_2 {h0 h : k_H} {Q : k_H → k_R → Prop} {x0 : Nat} {x1 : Int32} (K1 : 9 < x1 → k_X (jX11_freeShortName G l h0) h 24 [] [] Q) (K2 : ¬ (9 < x1) → k_X (jX11_freeShortName G l h0) h 8 [(0, vR (some x0)), (1, vI x1)] [] Q) : k_X (jX11_freeShortName G l h0) h 2 [(0, vR (some x0)), (1, vI x1)] [] Q := by
  by_cases hc : 9 < x1
  · skip
    obtain ⟨h', r, K, q⟩ := K1 hc
    exact ⟨h', r, j_iload_n dX11_freeShortName_2 rfl rfl <| j_bipush (v := 9) dX11_freeShortName_3 (by decide) <| j_icmp_gt_t (tgt := 24) dX11_freeShortName_5 (by decide) hc (j_pick [] rfl K), q⟩
  · skip
    obtain ⟨h', r, K, q⟩ := K2 hc
    exact ⟨h', r, j_iload_n dX11_freeShortName_2 rfl rfl <| j_bipush (v := 9) dX11_freeShortName_3 (by decide) <| j_icmp_gt_f dX11_freeShortName_5 24 (by decide) hc K, q⟩
theorem bX11_freeShortName_8 {h0 h : k_H} {Q : k_H → k_R → Prop} {x0 : Nat} {x1 : Int32} (w : k_is h x0 14) {P : k_H → Int32 → Prop} (c : k_cti (tX11_hasShortName G l) [vR (some x0), vI x1] h P) (K : ∀ h1 v, P h1 v → k_X (jX11_freeShortName G l h0) h1 13 [(0, vR (some x0)), (1, vI x1)] [vI v] Q) : k_X (jX11_freeShortName G l h0) h 8 [(0, vR (some x0)), (1, vI x1)] [] Q := by
  obtain ⟨h1, v, c, p⟩ := c
  obtain ⟨h', r, K, q⟩ := K h1 v p
  exact ⟨h', r, j_aload_n dX11_freeShortName_8 rfl rfl <| j_iload_n dX11_freeShortName_9 rfl rfl <| j_callV (v := some (vI v)) (as := [vI x1]) dX11_freeShortName_10 kc_X11_542 rfl rfl w (by decide) (Nat.le_of_ble_eq_true rfl) c K, q⟩
theorem bX11_freeShortName_13 {h0 h : k_H} {Q : k_H → k_R → Prop} {x0 : Nat} {x1 s0 : Int32} (K1 : ¬ (s0 = 0) → k_X (jX11_freeShortName G l h0) h 18 [(0, vR (some x0)), (1, vI x1)] [] Q) (K2 : s0 = 0 → k_X (jX11_freeShortName G l h0) h 16 [(1, vI x1)] [] Q) : k_X (jX11_freeShortName G l h0) h 13 [(0, vR (some x0)), (1, vI x1)] [vI s0] Q := by
  by_cases hc : s0 = 0
  · skip
    obtain ⟨h', r, K, q⟩ := K2 hc
    exact ⟨h', r, j_if_ne_f dX11_freeShortName_13 18 (by decide) hc (j_pick [1] rfl K), q⟩
  · skip
    obtain ⟨h', r, K, q⟩ := K1 hc
    exact ⟨h', r, j_if_ne_t (tgt := 18) dX11_freeShortName_13 (by decide) hc K, q⟩
theorem bX11_freeShortName_16 {h0 h : k_H} {Q : k_H → k_R → Prop} {x1 : Int32} (q : Q h (.inl (some (vI x1)))) : k_X (jX11_freeShortName G l h0) h 16 [(1, vI x1)] [] Q := by
  exact ⟨_, _, j_iload_n dX11_freeShortName_16 rfl rfl <| j_iret dX11_freeShortName_17 rfl, q⟩
theorem bX11_freeShortName_18 {h0 h : k_H} {Q : k_H → k_R → Prop} {x0 : Nat} {x1 : Int32} (K : k_X (jX11_freeShortName G l h0) h 2 [(0, vR (some x0)), (1, vI (x1 + 1))] [] Q) : k_X (jX11_freeShortName G l h0) h 18 [(0, vR (some x0)), (1, vI x1)] [] Q := by
  obtain ⟨h', r, K, q⟩ := K
  exact ⟨h', r, j_iinc (v := x1 + 1) dX11_freeShortName_18 rfl (by decide) rfl rfl <| j_goto (tgt := 2) dX11_freeShortName_21 (by decide) <| K, q⟩
theorem bX11_freeShortName_24 {h0 h : k_H} {Q : k_H → k_R → Prop} (q : Q h (.inl (some (vI 9)))) : k_X (jX11_freeShortName G l h0) h 24 [] [] Q := by
  exact ⟨_, _, j_bipush (v := 9) dX11_freeShortName_24 (by decide) <| j_iret dX11_freeShortName_26 rfl, q⟩
theorem eX11_hasShortName {G : k_G} {l : Launch} (hfl : l.flags = flags0) {h : k_H} {Q : k_H → k_R → Prop} {x0 : Nat} {x1 : Int32} (K : k_X (jX11_hasShortName G l h) h 0 [(0, vR (some x0)), (1, vI x1)] [] Q) : k_ct (tX11_hasShortName G l) [vR (some x0), vI x1] h Q := by
  obtain ⟨h', r, K, q⟩ := K
  exact ⟨h', r, k_CtOf (by decide +kernel) (Nat.le_of_ble_eq_true rfl) K hfl, q⟩

theorem bX11_hasShortName_0 {h0 h : k_H} {Q : k_H → k_R → Prop} {x0 : Nat} {x1 : Int32} (K : k_X (jX11_hasShortName G l h0) h 2 [(0, vR (some x0)), (1, vI x1), (2, vI 0)] [] Q) : k_X (jX11_hasShortName G l h0) h 0 [(0, vR (some x0)), (1, vI x1)] [] Q := by
  obtain ⟨h', r, K, q⟩ := K
  exact ⟨h', r, j_iconst (v := 0) dX11_hasShortName_0 (by decide) <| j_istore_n dX11_hasShortName_1 rfl (by decide) rfl <| K, q⟩
theorem bX11_hasShortName_2 {h0 h : k_H} {Q : k_H → k_R → Prop} {x0 f1_5 : Nat} {x1 x2 : Int32} {fs1 : List k_V} (o1 : h.1 x0 = some (k_o 14 fs1)) (g1_5 : fs1[5]? = some (vR (some f1_5))) (w : k_is h f1_5 2) {P : k_H → Int32 → Prop} (c : k_cti (tAL_size G l) [vR (some f1_5)] h P) (K : ∀ h1 v, P h1 v → k_X (jX11_hasShortName G l h0) h1 10 [(0, vR (some x0)), (1, vI x1), (2, vI x2)] [vI v, vI x2] Q) : k_X (jX11_hasShortName G l h0) h 2 [(0, vR (some x0)), (1, vI x1), (2, vI x2)] [] Q := by
  obtain ⟨h1, v, c, p⟩ := c
  obtain ⟨h', r, K, q⟩ := K h1 v p
  exact ⟨h', r, j_iload_n dX11_hasShortName_2 rfl rfl <| j_aload_n dX11_hasShortName_3 rfl rfl <| j_getf dX11_hasShortName_4 kf_X11_42 o1 g1_5 <| j_callV (v := some (vI v)) (as := []) dX11_hasShortName_7 kc_X11_153 rfl rfl w (by decide) (Nat.le_of_ble_eq_true rfl) c K, q⟩
theorem bX11_hasShortName_10 {h0 h : k_H} {Q : k_H → k_R → Prop} {x0 : Nat} {x1 x2 s0 s1 : Int32} (K1 : s1 ≤ s0 → k_X (jX11_hasShortName G l h0) h 39 [] [] Q) (K2 : ¬ (s1 ≤ s0) → k_X (jX11_hasShortName G l h0) h 13 [(0, vR (some x0)), (1, vI x1), (2, vI x2)] [] Q) : k_X (jX11_hasShortName G l h0) h 10 [(0, vR (some x0)), (1, vI x1), (2, vI x2)] [vI s1, vI s0] Q := by
  by_cases hc : s1 ≤ s0
  · skip
    obtain ⟨h', r, K, q⟩ := K1 hc
    exact ⟨h', r, j_icmp_ge_t (tgt := 39) dX11_hasShortName_10 (by decide) hc (j_pick [] rfl K), q⟩
  · skip
    obtain ⟨h', r, K, q⟩ := K2 hc
    exact ⟨h', r, j_icmp_ge_f dX11_hasShortName_10 39 (by decide) hc K, q⟩
theorem bX11_hasShortName_13 {h0 h : k_H} {Q : k_H → k_R → Prop} {x0 f1_5 : Nat} {x1 x2 : Int32} {fs1 : List k_V} (o1 : h.1 x0 = some (k_o 14 fs1)) (g1_5 : fs1[5]? = some (vR (some f1_5))) (w : k_is h f1_5 2) {P : k_H → Option Nat → Prop} (c : k_ctr (tAL_get G l) [vR (some f1_5), vI x2] h P) (K : ∀ h1 v, P h1 v → k_X (jX11_hasShortName G l h0) h1 21 [(0, vR (some x0)), (1, vI x1), (2, vI x2)] [vR v] Q) : k_X (jX11_hasShortName G l h0) h 13 [(0, vR (some x0)), (1, vI x1), (2, vI x2)] [] Q := by
  obtain ⟨h1, v, c, p⟩ := c
  obtain ⟨h', r, K, q⟩ := K h1 v p
  exact ⟨h', r, j_aload_n dX11_hasShortName_13 rfl rfl <| j_getf dX11_hasShortName_14 kf_X11_42 o1 g1_5 <| j_iload_n dX11_hasShortName_17 rfl rfl <| j_callV (v := some (vR v)) (as := [vI x2]) dX11_hasShortName_18 kc_X11_166 rfl rfl w (by decide) (Nat.le_of_ble_eq_true rfl) c K, q⟩
theorem bX11_hasShortName_21 {h0 h : k_H} {Q : k_H → k_R → Prop} {x0 s0 : Nat} {x1 x2 f1_1 : Int32} {fs1 : List k_V} (o1 : h.1 s0 = some (k_o 5 fs1)) (g1_1 : fs1[1]? = some (vI f1_1)) (K1 : ¬ (f1_1 = x1) → k_X (jX11_hasShortName G l h0) h 33 [(0, vR (some x0)), (1, vI x1), (2, vI x2)] [] Q) (K2 : f1_1 = x1 → k_X (jX11_hasShortName G l h0) h 31 [] [] Q) : k_X (jX11_hasShortName G l h0) h 21 [(0, vR (some x0)), (1, vI x1), (2, vI x2)] [vR (some s0)] Q := by
  by_cases hc : f1_1 = x1
  · skip
    obtain ⟨h', r, K, q⟩ := K2 hc
    exact ⟨h', r, j_cast dX11_hasShortName_21 kk_X11_76 o1 <| j_getf dX11_hasShortName_24 kf_X11_284 o1 g1_1 <| j_iload_n dX11_hasShortName_27 rfl rfl <| j_icmp_ne_f dX11_hasShortName_28 33 (by decide) hc (j_pick [] rfl K), q⟩
  · skip
    obtain ⟨h', r, K, q⟩ := K1 hc
    exact ⟨h', r, j_cast dX11_hasShortName_21 kk_X11_76 o1 <| j_getf dX11_hasShortName_24 kf_X11_284 o1 g1_1 <| j_iload_n dX11_hasShortName_27 rfl rfl <| j_icmp_ne_t (tgt := 33) dX11_hasShortName_28 (by decide) hc K, q⟩
theorem bX11_hasShortName_31 {h0 h : k_H} {Q : k_H → k_R → Prop} (q : Q h (.inl (some (vI 1)))) : k_X (jX11_hasShortName G l h0) h 31 [] [] Q := by
  exact ⟨_, _, j_iconst (v := 1) dX11_hasShortName_31 (by decide) <| j_zret dX11_hasShortName_32 rfl (by decide), q⟩
theorem bX11_hasShortName_33 {h0 h : k_H} {Q : k_H → k_R → Prop} {x0 : Nat} {x1 x2 : Int32} (K : k_X (jX11_hasShortName G l h0) h 2 [(0, vR (some x0)), (1, vI x1), (2, vI (x2 + 1))] [] Q) : k_X (jX11_hasShortName G l h0) h 33 [(0, vR (some x0)), (1, vI x1), (2, vI x2)] [] Q := by
  obtain ⟨h', r, K, q⟩ := K
  exact ⟨h', r, j_iinc (v := x2 + 1) dX11_hasShortName_33 rfl (by decide) rfl rfl <| j_goto (tgt := 2) dX11_hasShortName_36 (by decide) <| K, q⟩
theorem bX11_hasShortName_39 {h0 h : k_H} {Q : k_H → k_R → Prop} (q : Q h (.inl (some (vI 0)))) : k_X (jX11_hasShortName G l h0) h 39 [] [] Q := by
  exact ⟨_, _, j_iconst (v := 0) dX11_hasShortName_39 (by decide) <| j_zret dX11_hasShortName_40 rfl (by decide), q⟩
theorem eX11_heldWithin {G : k_G} {l : Launch} (hfl : l.flags = flags0) {h : k_H} {Q : k_H → k_R → Prop} {x0 : Nat} {x1 : Option Nat} (K : k_X (jX11_heldWithin G l h) h 0 [(0, vR (some x0)), (1, vR x1)] [] Q) : k_ct (tX11_heldWithin G l) [vR (some x0), vR x1] h Q := by
  obtain ⟨h', r, K, q⟩ := K
  exact ⟨h', r, k_CtOf (by decide +kernel) (Nat.le_of_ble_eq_true rfl) K hfl, q⟩

theorem bX11_heldWithin_0 {h0 h : k_H} {Q : k_H → k_R → Prop} {x0 : Nat} {x1 : Option Nat} (K : k_X (jX11_heldWithin G l h0) h 4 [(0, vR (some x0)), (1, vR x1), (2, vI 0), (3, vI 0)] [] Q) : k_X (jX11_heldWithin G l h0) h 0 [(0, vR (some x0)), (1, vR x1)] [] Q := by
  obtain ⟨h', r, K, q⟩ := K
  exact ⟨h', r, j_iconst (v := 0) dX11_heldWithin_0 (by decide) <| j_istore_n dX11_heldWithin_1 rfl (by decide) rfl <| j_iconst (v := 0) dX11_heldWithin_2 (by decide) <| j_istore_n dX11_heldWithin_3 rfl (by decide) rfl <| K, q⟩
theorem bX11_heldWithin_4 {h0 h : k_H} {Q : k_H → k_R → Prop} {x0 f1_5 : Nat} {x1 : Option Nat} {x2 x3 : Int32} {fs1 : List k_V} (o1 : h.1 x0 = some (k_o 14 fs1)) (g1_5 : fs1[5]? = some (vR (some f1_5))) (w : k_is h f1_5 2) {P : k_H → Int32 → Prop} (c : k_cti (tAL_size G l) [vR (some f1_5)] h P) (K : ∀ h1 v, P h1 v → k_X (jX11_heldWithin G l h0) h1 12 [(0, vR (some x0)), (1, vR x1), (2, vI x2), (3, vI x3)] [vI v, vI x3] Q) : k_X (jX11_heldWithin G l h0) h 4 [(0, vR (some x0)), (1, vR x1), (2, vI x2), (3, vI x3)] [] Q := by
  obtain ⟨h1, v, c, p⟩ := c
  obtain ⟨h', r, K, q⟩ := K h1 v p
  exact ⟨h', r, j_iload_n dX11_heldWithin_4 rfl rfl <| j_aload_n dX11_heldWithin_5 rfl rfl <| j_getf dX11_heldWithin_6 kf_X11_42 o1 g1_5 <| j_callV (v := some (vI v)) (as := []) dX11_heldWithin_9 kc_X11_153 rfl rfl w (by decide) (Nat.le_of_ble_eq_true rfl) c K, q⟩
theorem bX11_heldWithin_12 {h0 h : k_H} {Q : k_H → k_R → Prop} {x0 : Nat} {x1 : Option Nat} {x2 x3 s0 s1 : Int32} (K1 : s1 ≤ s0 → k_X (jX11_heldWithin G l h0) h 66 [(2, vI x2)] [] Q) (K2 : ¬ (s1 ≤ s0) → k_X (jX11_heldWithin G l h0) h 15 [(0, vR (some x0)), (1, vR x1), (2, vI x2), (3, vI x3)] [] Q) : k_X (jX11_heldWithin G l h0) h 12 [(0, vR (some x0)), (1, vR x1), (2, vI x2), (3, vI x3)] [vI s1, vI s0] Q := by
  by_cases hc : s1 ≤ s0
  · skip
    obtain ⟨h', r, K, q⟩ := K1 hc
    exact ⟨h', r, j_icmp_ge_t (tgt := 66) dX11_heldWithin_12 (by decide) hc (j_pick [2] rfl K), q⟩
  · skip
    obtain ⟨h', r, K, q⟩ := K2 hc
    exact ⟨h', r, j_icmp_ge_f dX11_heldWithin_12 66 (by decide) hc K, q⟩
theorem bX11_heldWithin_15 {h0 h : k_H} {Q : k_H → k_R → Prop} {x0 f1_5 : Nat} {x1 : Option Nat} {x2 x3 : Int32} {fs1 : List k_V} (o1 : h.1 x0 = some (k_o 14 fs1)) (g1_5 : fs1[5]? = some (vR (some f1_5))) (w : k_is h f1_5 2) {P : k_H → Option Nat → Prop} (c : k_ctr (tAL_get G l) [vR (some f1_5), vI x3] h P) (K : ∀ h1 v, P h1 v → k_X (jX11_heldWithin G l h0) h1 23 [(0, vR (some x0)), (1, vR x1), (2, vI x2), (3, vI x3)] [vR v] Q) : k_X (jX11_heldWithin G l h0) h 15 [(0, vR (some x0)), (1, vR x1), (2, vI x2), (3, vI x3)] [] Q := by
  obtain ⟨h1, v, c, p⟩ := c
  obtain ⟨h', r, K, q⟩ := K h1 v p
  exact ⟨h', r, j_aload_n dX11_heldWithin_15 rfl rfl <| j_getf dX11_heldWithin_16 kf_X11_42 o1 g1_5 <| j_iload_n dX11_heldWithin_19 rfl rfl <| j_callV (v := some (vR v)) (as := [vI x3]) dX11_heldWithin_20 kc_X11_166 rfl rfl w (by decide) (Nat.le_of_ble_eq_true rfl) c K, q⟩
theorem bX11_heldWithin_23 {h0 h : k_H} {Q : k_H → k_R → Prop} {x0 s0 : Nat} {x1 : Option Nat} {x2 x3 : Int32} {fs1 : List k_V} (o1 : h.1 s0 = some (k_o 5 fs1)) {P : k_H → Int32 → Prop} (c : k_cti (tX11_isWithin G l) [vR (some s0), vR x1] h P) (K : ∀ h1 v, P h1 v → k_X (jX11_heldWithin G l h0) h1 34 [(0, vR (some x0)), (1, vR x1), (2, vI x2), (3, vI x3), (4, vR (some s0))] [vI v] Q) : k_X (jX11_heldWithin G l h0) h 23 [(0, vR (some x0)), (1, vR x1), (2, vI x2), (3, vI x3)] [vR (some s0)] Q := by
  obtain ⟨h1, v, c, p⟩ := c
  obtain ⟨h', r, K, q⟩ := K h1 v p
  exact ⟨h', r, j_cast dX11_heldWithin_23 kk_X11_76 o1 <| j_astore dX11_heldWithin_26 (by decide) rfl <| j_aload dX11_heldWithin_28 rfl <| j_aload_n dX11_heldWithin_30 rfl rfl <| j_callS (v := some (vI v)) (as := [vR (some s0), vR x1]) dX11_heldWithin_31 kc_X11_256 rfl rfl (by decide) (Nat.le_of_ble_eq_true rfl) c K, q⟩
theorem bX11_heldWithin_34 {h0 h : k_H} {Q : k_H → k_R → Prop} {x0 : Nat} {x1 x4 : Option Nat} {x2 x3 s0 : Int32} (K1 : s0 = 0 → k_X (jX11_heldWithin G l h0) h 60 [(0, vR (some x0)), (1, vR x1), (2, vI x2), (3, vI x3)] [] Q) (K2 : ¬ (s0 = 0) → k_X (jX11_heldWithin G l h0) h 37 [(0, vR (some x0)), (1, vR x1), (2, vI x2), (3, vI x3), (4, vR x4)] [] Q) : k_X (jX11_heldWithin G l h0) h 34 [(0, vR (some x0)), (1, vR x1), (2, vI x2), (3, vI x3), (4, vR x4)] [vI s0] Q := by
  by_cases hc : s0 = 0
  · skip
    obtain ⟨h', r, K, q⟩ := K1 hc
    exact ⟨h', r, j_if_eq_t (tgt := 60) dX11_heldWithin_34 (by decide) hc (j_pick [0, 1, 2, 3] rfl K), q⟩
  · skip
    obtain ⟨h', r, K, q⟩ := K2 hc
    exact ⟨h', r, j_if_eq_f dX11_heldWithin_34 60 (by decide) hc K, q⟩
theorem bX11_heldWithin_37 {h0 h : k_H} {Q : k_H → k_R → Prop} {x0 x4 : Nat} {x1 f1_0 : Option Nat} {x2 x3 : Int32} {fs1 : List k_V} (o1 : h.1 x0 = some (k_o 14 fs1)) (g1_0 : fs1[0]? = some (vR f1_0)) (w : k_is h x4 5) {P : k_H → Int64 → Prop} (c : k_ctj (tX2_low G l) [vR (some x4)] h P) (K : ∀ h1 v, P h1 v → k_X (jX11_heldWithin G l h0) h1 47 [(0, vR (some x0)), (1, vR x1), (3, vI x3), (4, vR (some x4))] [vJ v, vR f1_0, vI x2] Q) : k_X (jX11_heldWithin G l h0) h 37 [(0, vR (some x0)), (1, vR x1), (2, vI x2), (3, vI x3), (4, vR (some x4))] [] Q := by
  obtain ⟨h1, v, c, p⟩ := c
  obtain ⟨h', r, K, q⟩ := K h1 v p
  exact ⟨h', r, j_iload_n dX11_heldWithin_37 rfl rfl <| j_aload_n dX11_heldWithin_38 rfl rfl <| j_getf dX11_heldWithin_39 kf_X11_14 o1 g1_0 <| j_aload dX11_heldWithin_42 rfl <| j_callV (v := some (vJ v)) (as := []) dX11_heldWithin_44 kc_X11_545 rfl rfl w (by decide) (Nat.le_of_ble_eq_true rfl) c (j_pick [0, 1, 3, 4] rfl K), q⟩
theorem bX11_heldWithin_47 {h0 h : k_H} {Q : k_H → k_R → Prop} {x0 x4 : Nat} {x1 s1 : Option Nat} {x3 s0 : Int32} {s2 : Int64} (w : k_is h x4 5) {P : k_H → Int64 → Prop} (c : k_ctj (tX2_high G l) [vR (some x4)] h P) (K : ∀ h1 v, P h1 v → k_X (jX11_heldWithin G l h0) h1 52 [(0, vR (some x0)), (1, vR x1), (3, vI x3)] [vJ v, vJ s2, vR s1, vI s0] Q) : k_X (jX11_heldWithin G l h0) h 47 [(0, vR (some x0)), (1, vR x1), (3, vI x3), (4, vR (some x4))] [vJ s2, vR s1, vI s0] Q := by
  obtain ⟨h1, v, c, p⟩ := c
  obtain ⟨h', r, K, q⟩ := K h1 v p
  exact ⟨h', r, j_aload dX11_heldWithin_47 rfl <| j_callV (v := some (vJ v)) (as := []) dX11_heldWithin_49 kc_X11_548 rfl rfl w (by decide) (Nat.le_of_ble_eq_true rfl) c (j_pick [0, 1, 2] rfl K), q⟩
theorem bX11_heldWithin_52 {h0 h : k_H} {Q : k_H → k_R → Prop} {x0 s1 : Nat} {x1 : Option Nat} {x3 s0 : Int32} {s2 s3 : Int64} (w : k_is h s1 11) {P : k_H → Option Nat → Prop} (c : k_ctr (tX8_listHeld G l) [vR (some s1), vJ s2, vJ s3] h P) (K : ∀ h1 v, P h1 v → k_X (jX11_heldWithin G l h0) h1 55 [(0, vR (some x0)), (1, vR x1), (3, vI x3)] [vR v, vI s0] Q) : k_X (jX11_heldWithin G l h0) h 52 [(0, vR (some x0)), (1, vR x1), (3, vI x3)] [vJ s3, vJ s2, vR (some s1), vI s0] Q := by
  obtain ⟨h1, v, c, p⟩ := c
  obtain ⟨h', r, K, q⟩ := K h1 v p
  exact ⟨h', r, j_callV (v := some (vR v)) (as := [vJ s2, vJ s3]) dX11_heldWithin_52 kc_X11_318 rfl rfl w (by decide) (Nat.le_of_ble_eq_true rfl) c K, q⟩
theorem bX11_heldWithin_55 {h0 h : k_H} {Q : k_H → k_R → Prop} {x0 s1 : Nat} {x1 : Option Nat} {x3 s0 : Int32} (w : k_is h s1 2) {P : k_H → Int32 → Prop} (c : k_cti (tAL_size G l) [vR (some s1)] h P) (K : ∀ h1 v, P h1 v → k_X (jX11_heldWithin G l h0) h1 58 [(0, vR (some x0)), (1, vR x1), (3, vI x3)] [vI v, vI s0] Q) : k_X (jX11_heldWithin G l h0) h 55 [(0, vR (some x0)), (1, vR x1), (3, vI x3)] [vR (some s1), vI s0] Q := by
  obtain ⟨h1, v, c, p⟩ := c
  obtain ⟨h', r, K, q⟩ := K h1 v p
  exact ⟨h', r, j_callV (v := some (vI v)) (as := []) dX11_heldWithin_55 kc_X11_153 rfl rfl w (by decide) (Nat.le_of_ble_eq_true rfl) c K, q⟩
theorem bX11_heldWithin_58 {h0 h : k_H} {Q : k_H → k_R → Prop} {x0 : Nat} {x1 : Option Nat} {x3 s0 s1 : Int32} (K : k_X (jX11_heldWithin G l h0) h 60 [(0, vR (some x0)), (1, vR x1), (2, vI (s0 + s1)), (3, vI x3)] [] Q) : k_X (jX11_heldWithin G l h0) h 58 [(0, vR (some x0)), (1, vR x1), (3, vI x3)] [vI s1, vI s0] Q := by
  obtain ⟨h', r, K, q⟩ := K
  exact ⟨h', r, j_iadd dX11_heldWithin_58 <| j_istore_n dX11_heldWithin_59 rfl (by decide) rfl <| K, q⟩
theorem bX11_heldWithin_60 {h0 h : k_H} {Q : k_H → k_R → Prop} {x0 : Nat} {x1 : Option Nat} {x2 x3 : Int32} (K : k_X (jX11_heldWithin G l h0) h 4 [(0, vR (some x0)), (1, vR x1), (2, vI x2), (3, vI (x3 + 1))] [] Q) : k_X (jX11_heldWithin G l h0) h 60 [(0, vR (some x0)), (1, vR x1), (2, vI x2), (3, vI x3)] [] Q := by
  obtain ⟨h', r, K, q⟩ := K
  exact ⟨h', r, j_iinc (v := x3 + 1) dX11_heldWithin_60 rfl (by decide) rfl rfl <| j_goto (tgt := 4) dX11_heldWithin_63 (by decide) <| K, q⟩
theorem bX11_heldWithin_66 {h0 h : k_H} {Q : k_H → k_R → Prop} {x2 : Int32} (q : Q h (.inl (some (vI x2)))) : k_X (jX11_heldWithin G l h0) h 66 [(2, vI x2)] [] Q := by
  exact ⟨_, _, j_iload_n dX11_heldWithin_66 rfl rfl <| j_iret dX11_heldWithin_67 rfl, q⟩
theorem eX11_wipeWithin {G : k_G} {l : Launch} (hfl : l.flags = flags0) {h : k_H} {Q : k_H → k_R → Prop} {x0 : Nat} {x1 : Option Nat} (K : k_X (jX11_wipeWithin G l h) h 0 [(0, vR (some x0)), (1, vR x1)] [] Q) : k_ct (tX11_wipeWithin G l) [vR (some x0), vR x1] h Q := by
  obtain ⟨h', r, K, q⟩ := K
  exact ⟨h', r, k_CtOf (by decide +kernel) (Nat.le_of_ble_eq_true rfl) K hfl, q⟩

theorem bX11_wipeWithin_0 {h0 h : k_H} {Q : k_H → k_R → Prop} {x0 f1_0 : Nat} {x1 : Option Nat} {fs1 : List k_V} (o1 : h.1 x0 = some (k_o 14 fs1)) (g1_0 : fs1[0]? = some (vR (some f1_0))) (w : k_is h f1_0 11) {P : k_H → Prop} (c : k_ctv (tX8_advance G l) [vR (some f1_0), vI 1] h P) (K : ∀ h1, P h1 → k_X (jX11_wipeWithin G l h0) h1 8 [(0, vR (some x0)), (1, vR x1)] [] Q) : k_X (jX11_wipeWithin G l h0) h 0 [(0, vR (some x0)), (1, vR x1)] [] Q := by
  obtain ⟨h1, c, p⟩ := c
  obtain ⟨h', r, K, q⟩ := K h1 p
  exact ⟨h', r, j_aload_n dX11_wipeWithin_0 rfl rfl <| j_getf dX11_wipeWithin_1 kf_X11_14 o1 g1_0 <| j_iconst (v := 1) dX11_wipeWithin_4 (by decide) <| j_callV (v := none) (as := [vI 1]) dX11_wipeWithin_5 kc_X11_223 rfl rfl w (by decide) (Nat.le_of_ble_eq_true rfl) c K, q⟩
theorem bX11_wipeWithin_8 {h0 h : k_H} {Q : k_H → k_R → Prop} {x0 : Nat} {x1 : Option Nat} (K : k_X (jX11_wipeWithin G l h0) h 10 [(0, vR (some x0)), (1, vR x1), (2, vI 0)] [] Q) : k_X (jX11_wipeWithin G l h0) h 8 [(0, vR (some x0)), (1, vR x1)] [] Q := by
  obtain ⟨h', r, K, q⟩ := K
  exact ⟨h', r, j_iconst (v := 0) dX11_wipeWithin_8 (by decide) <| j_istore_n dX11_wipeWithin_9 rfl (by decide) rfl <| K, q⟩
theorem bX11_wipeWithin_10 {h0 h : k_H} {Q : k_H → k_R → Prop} {x0 f1_5 : Nat} {x1 : Option Nat} {x2 : Int32} {fs1 : List k_V} (o1 : h.1 x0 = some (k_o 14 fs1)) (g1_5 : fs1[5]? = some (vR (some f1_5))) (w : k_is h f1_5 2) {P : k_H → Int32 → Prop} (c : k_cti (tAL_size G l) [vR (some f1_5)] h P) (K : ∀ h1 v, P h1 v → k_X (jX11_wipeWithin G l h0) h1 18 [(0, vR (some x0)), (1, vR x1), (2, vI x2)] [vI v, vI x2] Q) : k_X (jX11_wipeWithin G l h0) h 10 [(0, vR (some x0)), (1, vR x1), (2, vI x2)] [] Q := by
  obtain ⟨h1, v, c, p⟩ := c
  obtain ⟨h', r, K, q⟩ := K h1 v p
  exact ⟨h', r, j_iload_n dX11_wipeWithin_10 rfl rfl <| j_aload_n dX11_wipeWithin_11 rfl rfl <| j_getf dX11_wipeWithin_12 kf_X11_42 o1 g1_5 <| j_callV (v := some (vI v)) (as := []) dX11_wipeWithin_15 kc_X11_153 rfl rfl w (by decide) (Nat.le_of_ble_eq_true rfl) c K, q⟩
theorem bX11_wipeWithin_18 {h0 h : k_H} {Q : k_H → k_R → Prop} {x0 : Nat} {x1 : Option Nat} {x2 s0 s1 : Int32} (K1 : s1 ≤ s0 → k_X (jX11_wipeWithin G l h0) h 62 [(0, vR (some x0))] [] Q) (K2 : ¬ (s1 ≤ s0) → k_X (jX11_wipeWithin G l h0) h 21 [(0, vR (some x0)), (1, vR x1), (2, vI x2)] [] Q) : k_X (jX11_wipeWithin G l h0) h 18 [(0, vR (some x0)), (1, vR x1), (2, vI x2)] [vI s1, vI s0] Q := by
  by_cases hc : s1 ≤ s0
  · skip
    obtain ⟨h', r, K, q⟩ := K1 hc
    exact ⟨h', r, j_icmp_ge_t (tgt := 62) dX11_wipeWithin_18 (by decide) hc (j_pick [0] rfl K), q⟩
  · skip
    obtain ⟨h', r, K, q⟩ := K2 hc
    exact ⟨h', r, j_icmp_ge_f dX11_wipeWithin_18 62 (by decide) hc K, q⟩
theorem bX11_wipeWithin_21 {h0 h : k_H} {Q : k_H → k_R → Prop} {x0 f1_5 : Nat} {x1 : Option Nat} {x2 : Int32} {fs1 : List k_V} (o1 : h.1 x0 = some (k_o 14 fs1)) (g1_5 : fs1[5]? = some (vR (some f1_5))) (w : k_is h f1_5 2) {P : k_H → Option Nat → Prop} (c : k_ctr (tAL_get G l) [vR (some f1_5), vI x2] h P) (K : ∀ h1 v, P h1 v → k_X (jX11_wipeWithin G l h0) h1 29 [(0, vR (some x0)), (1, vR x1), (2, vI x2)] [vR v] Q) : k_X (jX11_wipeWithin G l h0) h 21 [(0, vR (some x0)), (1, vR x1), (2, vI x2)] [] Q := by
  obtain ⟨h1, v, c, p⟩ := c
  obtain ⟨h', r, K, q⟩ := K h1 v p
  exact ⟨h', r, j_aload_n dX11_wipeWithin_21 rfl rfl <| j_getf dX11_wipeWithin_22 kf_X11_42 o1 g1_5 <| j_iload_n dX11_wipeWithin_25 rfl rfl <| j_callV (v := some (vR v)) (as := [vI x2]) dX11_wipeWithin_26 kc_X11_166 rfl rfl w (by decide) (Nat.le_of_ble_eq_true rfl) c K, q⟩
theorem bX11_wipeWithin_29 {h0 h : k_H} {Q : k_H → k_R → Prop} {x0 s0 : Nat} {x1 : Option Nat} {x2 : Int32} {fs1 : List k_V} (o1 : h.1 s0 = some (k_o 5 fs1)) {P : k_H → Int32 → Prop} (c : k_cti (tX11_isWithin G l) [vR (some s0), vR x1] h P) (K : ∀ h1 v, P h1 v → k_X (jX11_wipeWithin G l h0) h1 38 [(0, vR (some x0)), (1, vR x1), (2, vI x2), (3, vR (some s0))] [vI v] Q) : k_X (jX11_wipeWithin G l h0) h 29 [(0, vR (some x0)), (1, vR x1), (2, vI x2)] [vR (some s0)] Q := by
  obtain ⟨h1, v, c, p⟩ := c
  obtain ⟨h', r, K, q⟩ := K h1 v p
  exact ⟨h', r, j_cast dX11_wipeWithin_29 kk_X11_76 o1 <| j_astore_n dX11_wipeWithin_32 rfl (by decide) rfl <| j_aload_n dX11_wipeWithin_33 rfl rfl <| j_aload_n dX11_wipeWithin_34 rfl rfl <| j_callS (v := some (vI v)) (as := [vR (some s0), vR x1]) dX11_wipeWithin_35 kc_X11_256 rfl rfl (by decide) (Nat.le_of_ble_eq_true rfl) c K, q⟩
theorem bX11_wipeWithin_38 {h0 h : k_H} {Q : k_H → k_R → Prop} {x0 : Nat} {x1 x3 : Option Nat} {x2 s0 : Int32} (K1 : s0 = 0 → k_X (jX11_wipeWithin G l h0) h 56 [(0, vR (some x0)), (1, vR x1), (2, vI x2)] [] Q) (K2 : ¬ (s0 = 0) → k_X (jX11_wipeWithin G l h0) h 41 [(0, vR (some x0)), (1, vR x1), (2, vI x2), (3, vR x3)] [] Q) : k_X (jX11_wipeWithin G l h0) h 38 [(0, vR (some x0)), (1, vR x1), (2, vI x2), (3, vR x3)] [vI s0] Q := by
  by_cases hc : s0 = 0
  · skip
    obtain ⟨h', r, K, q⟩ := K1 hc
    exact ⟨h', r, j_if_eq_t (tgt := 56) dX11_wipeWithin_38 (by decide) hc (j_pick [0, 1, 2] rfl K), q⟩
  · skip
    obtain ⟨h', r, K, q⟩ := K2 hc
    exact ⟨h', r, j_if_eq_f dX11_wipeWithin_38 56 (by decide) hc K, q⟩
theorem bX11_wipeWithin_41 {h0 h : k_H} {Q : k_H → k_R → Prop} {x0 x3 : Nat} {x1 f1_0 : Option Nat} {x2 : Int32} {fs1 : List k_V} (o1 : h.1 x0 = some (k_o 14 fs1)) (g1_0 : fs1[0]? = some (vR f1_0)) (w : k_is h x3 5) {P : k_H → Int64 → Prop} (c : k_ctj (tX2_low G l) [vR (some x3)] h P) (K : ∀ h1 v, P h1 v → k_X (jX11_wipeWithin G l h0) h1 49 [(0, vR (some x0)), (1, vR x1), (2, vI x2), (3, vR (some x3))] [vJ v, vR f1_0] Q) : k_X (jX11_wipeWithin G l h0) h 41 [(0, vR (some x0)), (1, vR x1), (2, vI x2), (3, vR (some x3))] [] Q := by
  obtain ⟨h1, v, c, p⟩ := c
  obtain ⟨h', r, K, q⟩ := K h1 v p
  exact ⟨h', r, j_aload_n dX11_wipeWithin_41 rfl rfl <| j_getf dX11_wipeWithin_42 kf_X11_14 o1 g1_0 <| j_aload_n dX11_wipeWithin_45 rfl rfl <| j_callV (v := some (vJ v)) (as := []) dX11_wipeWithin_46 kc_X11_545 rfl rfl w (by decide) (Nat.le_of_ble_eq_true rfl) c K, q⟩
theorem bX11_wipeWithin_49 {h0 h : k_H} {Q : k_H → k_R → Prop} {x0 x3 : Nat} {x1 s0 : Option Nat} {x2 : Int32} {s1 : Int64} (w : k_is h x3 5) {P : k_H → Int64 → Prop} (c : k_ctj (tX2_high G l) [vR (some x3)] h P) (K : ∀ h1 v, P h1 v → k_X (jX11_wipeWithin G l h0) h1 53 [(0, vR (some x0)), (1, vR x1), (2, vI x2)] [vJ v, vJ s1, vR s0] Q) : k_X (jX11_wipeWithin G l h0) h 49 [(0, vR (some x0)), (1, vR x1), (2, vI x2), (3, vR (some x3))] [vJ s1, vR s0] Q := by
  obtain ⟨h1, v, c, p⟩ := c
  obtain ⟨h', r, K, q⟩ := K h1 v p
  exact ⟨h', r, j_aload_n dX11_wipeWithin_49 rfl rfl <| j_callV (v := some (vJ v)) (as := []) dX11_wipeWithin_50 kc_X11_548 rfl rfl w (by decide) (Nat.le_of_ble_eq_true rfl) c (j_pick [0, 1, 2] rfl K), q⟩
theorem bX11_wipeWithin_53 {h0 h : k_H} {Q : k_H → k_R → Prop} {x0 s0 : Nat} {x1 : Option Nat} {x2 : Int32} {s1 s2 : Int64} (w : k_is h s0 11) {P : k_H → Prop} (c : k_ctv (tX8_wipe G l) [vR (some s0), vJ s1, vJ s2] h P) (K : ∀ h1, P h1 → k_X (jX11_wipeWithin G l h0) h1 56 [(0, vR (some x0)), (1, vR x1), (2, vI x2)] [] Q) : k_X (jX11_wipeWithin G l h0) h 53 [(0, vR (some x0)), (1, vR x1), (2, vI x2)] [vJ s2, vJ s1, vR (some s0)] Q := by
  obtain ⟨h1, c, p⟩ := c
  obtain ⟨h', r, K, q⟩ := K h1 p
  exact ⟨h', r, j_callV (v := none) (as := [vJ s1, vJ s2]) dX11_wipeWithin_53 kc_X11_322 rfl rfl w (by decide) (Nat.le_of_ble_eq_true rfl) c K, q⟩
theorem bX11_wipeWithin_56 {h0 h : k_H} {Q : k_H → k_R → Prop} {x0 : Nat} {x1 : Option Nat} {x2 : Int32} (K : k_X (jX11_wipeWithin G l h0) h 10 [(0, vR (some x0)), (1, vR x1), (2, vI (x2 + 1))] [] Q) : k_X (jX11_wipeWithin G l h0) h 56 [(0, vR (some x0)), (1, vR x1), (2, vI x2)] [] Q := by
  obtain ⟨h', r, K, q⟩ := K
  exact ⟨h', r, j_iinc (v := x2 + 1) dX11_wipeWithin_56 rfl (by decide) rfl rfl <| j_goto (tgt := 10) dX11_wipeWithin_59 (by decide) <| K, q⟩
theorem bX11_wipeWithin_62 {h0 h : k_H} {Q : k_H → k_R → Prop} {x0 : Nat} (w : k_is h x0 14) {P : k_H → Prop} (c : k_ctv (tX11_closeCommit G l) [vR (some x0)] h P) (K : ∀ h1, P h1 → k_X (jX11_wipeWithin G l h0) h1 66 [] [] Q) : k_X (jX11_wipeWithin G l h0) h 62 [(0, vR (some x0))] [] Q := by
  obtain ⟨h1, c, p⟩ := c
  obtain ⟨h', r, K, q⟩ := K h1 p
  exact ⟨h', r, j_aload_n dX11_wipeWithin_62 rfl rfl <| j_callV (v := none) (as := []) dX11_wipeWithin_63 kc_X11_329 rfl rfl w (by decide) (Nat.le_of_ble_eq_true rfl) c (j_pick [] rfl K), q⟩
theorem bX11_wipeWithin_66 {h0 h : k_H} {Q : k_H → k_R → Prop} (q : Q h (.inl none)) : k_X (jX11_wipeWithin G l h0) h 66 [] [] Q := by
  exact ⟨_, _, j_vret dX11_wipeWithin_66 rfl, q⟩
theorem eX11_indexGoesTo {G : k_G} {l : Launch} (hfl : l.flags = flags0) {h : k_H} {Q : k_H → k_R → Prop} {x0 : Int32} (K : k_X (jX11_indexGoesTo G l h) h 0 [(0, vI x0)] [] Q) : k_ct (tX11_indexGoesTo G l) [vI x0] h Q := by
  obtain ⟨h', r, K, q⟩ := K
  exact ⟨h', r, k_CtOf (by decide +kernel) (Nat.le_of_ble_eq_true rfl) K hfl, q⟩

theorem bX11_indexGoesTo_0 {h0 h : k_H} {Q : k_H → k_R → Prop} {x0 : Int32} (K1 : ¬ (x0 = (-2147483648)) → k_X (jX11_indexGoesTo G l h0) h 12 [(0, vI x0)] [] Q) (K2 : x0 = (-2147483648) → k_X (jX11_indexGoesTo G l h0) h 6 [] [] Q) : k_X (jX11_indexGoesTo G l h0) h 0 [(0, vI x0)] [] Q := by
  by_cases hc : x0 = (-2147483648)
  · skip
    obtain ⟨h', r, K, q⟩ := K2 hc
    exact ⟨h', r, j_iload_n dX11_indexGoesTo_0 rfl rfl <| j_ldc (v := (-2147483648)) dX11_indexGoesTo_1 ki_X11_62 <| j_icmp_ne_f dX11_indexGoesTo_3 12 (by decide) hc (j_pick [] rfl K), q⟩
  · skip
    obtain ⟨h', r, K, q⟩ := K1 hc
    exact ⟨h', r, j_iload_n dX11_indexGoesTo_0 rfl rfl <| j_ldc (v := (-2147483648)) dX11_indexGoesTo_1 ki_X11_62 <| j_icmp_ne_t (tgt := 12) dX11_indexGoesTo_3 (by decide) hc K, q⟩
theorem bX11_indexGoesTo_6 {h0 h : k_H} {Q : k_H → k_R → Prop} (K : k_X (jX11_indexGoesTo G l h0) h 13 [] [vI 1000] Q) : k_X (jX11_indexGoesTo G l h0) h 6 [] [] Q := by
  obtain ⟨h', r, K, q⟩ := K
  exact ⟨h', r, j_sipush (v := 1000) dX11_indexGoesTo_6 (by decide) <| j_goto (tgt := 13) dX11_indexGoesTo_9 (by decide) <| K, q⟩
theorem bX11_indexGoesTo_12 {h0 h : k_H} {Q : k_H → k_R → Prop} {x0 : Int32} (K : k_X (jX11_indexGoesTo G l h0) h 13 [] [vI x0] Q) : k_X (jX11_indexGoesTo G l h0) h 12 [(0, vI x0)] [] Q := by
  obtain ⟨h', r, K, q⟩ := K
  exact ⟨h', r, j_iload_n dX11_indexGoesTo_12 rfl rfl <| (j_pick [] rfl K), q⟩
theorem bX11_indexGoesTo_13 {h0 h : k_H} {Q : k_H → k_R → Prop} {s0 : Int32} (q : Q h (.inl (some (vI s0)))) : k_X (jX11_indexGoesTo G l h0) h 13 [] [vI s0] Q := by
  exact ⟨_, _, j_iret dX11_indexGoesTo_13 rfl, q⟩
theorem eX11_readCounting {G : k_G} {l : Launch} (hfl : l.flags = flags0) {h : k_H} {Q : k_H → k_R → Prop} {x0 : Nat} {x1 : Option Nat} {x2 : Int64} (K : k_X (jX11_readCounting G l h) h 0 [(0, vR (some x0)), (1, vR x1), (2, vJ x2)] [] Q) : k_ct (tX11_readCounting G l) [vR (some x0), vR x1, vJ x2] h Q := by
  obtain ⟨h', r, K, q⟩ := K
  exact ⟨h', r, k_CtOf (by decide +kernel) (Nat.le_of_ble_eq_true rfl) K hfl, q⟩

theorem bX11_readCounting_0 {h0 h : k_H} {Q : k_H → k_R → Prop} {x0 x1 f1_0 : Nat} {x2 : Int64} {f1_2 : Option Nat} {f2_4 : Int32} {fs1 : List k_V} (o1 : h.1 x0 = some (k_o 14 fs1)) (g1_2 : fs1[2]? = some (vR f1_2)) (g1_0 : fs1[0]? = some (vR (some f1_0))) {fs2 : List k_V} (o2 : h.1 x1 = some (k_o 12 fs2)) (g2_4 : fs2[4]? = some (vI f2_4)) (w : k_is h f1_0 11) {P : k_H → Option Nat → Prop} (c : k_ctr (tX8_entryIn G l) [vR (some f1_0), vJ x2, vI f2_4] h P) (K : ∀ h1 v, P h1 v → k_X (jX11_readCounting G l h0) h1 18 [(0, vR (some x0)), (1, vR (some x1)), (2, vJ x2)] [vR v, vJ x2, vR f1_2, vR (some x1)] Q) : k_X (jX11_readCounting G l h0) h 0 [(0, vR (some x0)), (1, vR (some x1)), (2, vJ x2)] [] Q := by
  obtain ⟨h1, v, c, p⟩ := c
  obtain ⟨h', r, K, q⟩ := K h1 v p
  exact ⟨h', r, j_aload_n dX11_readCounting_0 rfl rfl <| j_aload_n dX11_readCounting_1 rfl rfl <| j_getf dX11_readCounting_2 kf_X11_28 o1 g1_2 <| j_lload_n dX11_readCounting_5 rfl rfl <| j_aload_n dX11_readCounting_6 rfl rfl <| j_getf dX11_readCounting_7 kf_X11_14 o1 g1_0 <| j_lload_n dX11_readCounting_10 rfl rfl <| j_aload_n dX11_readCounting_11 rfl rfl <| j_getf dX11_readCounting_12 kf_X11_104 o2 g2_4 <| j_callV (v := some (vR v)) (as := [vJ x2, vI f2_4]) dX11_readCounting_15 kc_X11_107 rfl rfl w (by decide) (Nat.le_of_ble_eq_true rfl) c K, q⟩
theorem bX11_readCounting_18 {h0 h : k_H} {Q : k_H → k_R → Prop} {x0 s0 : Nat} {x1 s1 s3 : Option Nat} {x2 s2 : Int64} (w : k_is h s0 12) {P : k_H → Prop} (c : k_ctv (tX9_look G l) [vR (some s0), vR s1, vJ s2, vR s3] h P) (K : ∀ h1, P h1 → k_X (jX11_readCounting G l h0) h1 21 [(0, vR (some x0)), (1, vR x1), (2, vJ x2)] [] Q) : k_X (jX11_readCounting G l h0) h 18 [(0, vR (some x0)), (1, vR x1), (2, vJ x2)] [vR s3, vJ s2, vR s1, vR (some s0)] Q := by
  obtain ⟨h1, c, p⟩ := c
  obtain ⟨h', r, K, q⟩ := K h1 p
  exact ⟨h', r, j_callV (v := none) (as := [vR s1, vJ s2, vR s3]) dX11_readCounting_18 kc_X11_111 rfl rfl w (by decide) (Nat.le_of_ble_eq_true rfl) c K, q⟩
theorem bX11_readCounting_21 {h0 h : k_H} {Q : k_H → k_R → Prop} {x0 x1 : Nat} {x2 : Int64} (w : k_is h x1 12) {P : k_H → Prop} (c : k_ctv (tX9_putDownKey G l) [vR (some x1), vJ x2] h P) (K : ∀ h1, P h1 → k_X (jX11_readCounting G l h0) h1 26 [(0, vR (some x0))] [] Q) : k_X (jX11_readCounting G l h0) h 21 [(0, vR (some x0)), (1, vR (some x1)), (2, vJ x2)] [] Q := by
  obtain ⟨h1, c, p⟩ := c
  obtain ⟨h', r, K, q⟩ := K h1 p
  exact ⟨h', r, j_aload_n dX11_readCounting_21 rfl rfl <| j_lload_n dX11_readCounting_22 rfl rfl <| j_callV (v := none) (as := [vJ x2]) dX11_readCounting_23 kc_X11_126 rfl rfl w (by decide) (Nat.le_of_ble_eq_true rfl) c (j_pick [0] rfl K), q⟩
theorem bX11_readCounting_26 {h0 h : k_H} {Q : k_H → k_R → Prop} {x0 f1_2 : Nat} {fs1 : List k_V} (o1 : h.1 x0 = some (k_o 14 fs1)) (g1_2 : fs1[2]? = some (vR (some f1_2))) (w : k_is h f1_2 3) {P : k_H → Int32 → Prop} (c : k_cti (tX0_told G l) [vR (some f1_2)] h P) (K : ∀ h1 v, P h1 v → k_X (jX11_readCounting G l h0) h1 33 [] [vI v] Q) : k_X (jX11_readCounting G l h0) h 26 [(0, vR (some x0))] [] Q := by
  obtain ⟨h1, v, c, p⟩ := c
  obtain ⟨h', r, K, q⟩ := K h1 v p
  exact ⟨h', r, j_aload_n dX11_readCounting_26 rfl rfl <| j_getf dX11_readCounting_27 kf_X11_28 o1 g1_2 <| j_callV (v := some (vI v)) (as := []) dX11_readCounting_30 kc_X11_130 rfl rfl w (by decide) (Nat.le_of_ble_eq_true rfl) c (j_pick [] rfl K), q⟩
theorem bX11_readCounting_33 {h0 h : k_H} {Q : k_H → k_R → Prop} {s0 : Int32} (q : Q h (.inl (some (vI s0)))) : k_X (jX11_readCounting G l h0) h 33 [] [vI s0] Q := by
  exact ⟨_, _, j_iret dX11_readCounting_33 rfl, q⟩
theorem eX11_readIndexes {G : k_G} {l : Launch} (hfl : l.flags = flags0) {h : k_H} {Q : k_H → k_R → Prop} {x0 : Nat} {x1 : Option Nat} {x2 : Int32} (K : k_X (jX11_readIndexes G l h) h 0 [(0, vR (some x0)), (1, vR x1), (2, vI x2)] [] Q) : k_ct (tX11_readIndexes G l) [vR (some x0), vR x1, vI x2] h Q := by
  obtain ⟨h', r, K, q⟩ := K
  exact ⟨h', r, k_CtOf (by decide +kernel) (Nat.le_of_ble_eq_true rfl) K hfl, q⟩

theorem bX11_readIndexes_0 {h0 h : k_H} {Q : k_H → k_R → Prop} {x0 : Nat} {x1 : Option Nat} {x2 : Int32} (K : k_X (jX11_readIndexes G l h0) h 5 [(0, vR (some x0)), (1, vR x1), (2, vI x2), (3, vI 0), (4, vI 0)] [] Q) : k_X (jX11_readIndexes G l h0) h 0 [(0, vR (some x0)), (1, vR x1), (2, vI x2)] [] Q := by
  obtain ⟨h', r, K, q⟩ := K
  exact ⟨h', r, j_iconst (v := 0) dX11_readIndexes_0 (by decide) <| j_istore_n dX11_readIndexes_1 rfl (by decide) rfl <| j_iconst (v := 0) dX11_readIndexes_2 (by decide) <| j_istore dX11_readIndexes_3 (by decide) rfl <| K, q⟩
theorem bX11_readIndexes_5 {h0 h : k_H} {Q : k_H → k_R → Prop} {x0 : Nat} {x1 : Option Nat} {x2 x3 x4 : Int32} (K1 : 3 ≤ x4 → k_X (jX11_readIndexes G l h0) h 43 [(3, vI x3)] [] Q) (K2 : ¬ (3 ≤ x4) → k_X (jX11_readIndexes G l h0) h 11 [(0, vR (some x0)), (1, vR x1), (2, vI x2), (3, vI x3), (4, vI x4)] [] Q) : k_X (jX11_readIndexes G l h0) h 5 [(0, vR (some x0)), (1, vR x1), (2, vI x2), (3, vI x3), (4, vI x4)] [] Q := by
  by_cases hc : 3 ≤ x4
  · skip
    obtain ⟨h', r, K, q⟩ := K1 hc
    exact ⟨h', r, j_iload dX11_readIndexes_5 rfl <| j_iconst (v := 3) dX11_readIndexes_7 (by decide) <| j_icmp_ge_t (tgt := 43) dX11_readIndexes_8 (by decide) hc (j_pick [3] rfl K), q⟩
  · skip
    obtain ⟨h', r, K, q⟩ := K2 hc
    exact ⟨h', r, j_iload dX11_readIndexes_5 rfl <| j_iconst (v := 3) dX11_readIndexes_7 (by decide) <| j_icmp_ge_f dX11_readIndexes_8 43 (by decide) hc K, q⟩
theorem bX11_readIndexes_11 {h0 h : k_H} {Q : k_H → k_R → Prop} {x0 : Nat} {x1 : Option Nat} {x2 x3 x4 : Int32} {P : k_H → Int64 → Prop} (c : k_ctj (tX11_codeOf_ G l) [vI (-6), vI x4] h P) (K : ∀ h1 v, P h1 v → k_X (jX11_readIndexes G l h0) h1 20 [(0, vR (some x0)), (1, vR x1), (2, vI x2), (3, vI x3), (4, vI x4)] [vJ v, vR x1, vR (some x0)] Q) : k_X (jX11_readIndexes G l h0) h 11 [(0, vR (some x0)), (1, vR x1), (2, vI x2), (3, vI x3), (4, vI x4)] [] Q := by
  obtain ⟨h1, v, c, p⟩ := c
  obtain ⟨h', r, K, q⟩ := K h1 v p
  exact ⟨h', r, j_aload_n dX11_readIndexes_11 rfl rfl <| j_aload_n dX11_readIndexes_12 rfl rfl <| j_bipush (v := (-6)) dX11_readIndexes_13 (by decide) <| j_iload dX11_readIndexes_15 rfl <| j_callS (v := some (vJ v)) (as := [vI (-6), vI x4]) dX11_readIndexes_17 kc_X11_302 rfl rfl (by decide) (Nat.le_of_ble_eq_true rfl) c K, q⟩
theorem bX11_readIndexes_20 {h0 h : k_H} {Q : k_H → k_R → Prop} {x0 s0 : Nat} {x1 s1 : Option Nat} {x2 x3 x4 : Int32} {s2 : Int64} (w : k_is h s0 14) {P : k_H → Int32 → Prop} (c : k_cti (tX11_readCounting G l) [vR (some s0), vR s1, vJ s2] h P) (K : ∀ h1 v, P h1 v → k_X (jX11_readIndexes G l h0) h1 23 [(0, vR (some x0)), (1, vR x1), (2, vI x2), (3, vI x3), (4, vI x4)] [vI v] Q) : k_X (jX11_readIndexes G l h0) h 20 [(0, vR (some x0)), (1, vR x1), (2, vI x2), (3, vI x3), (4, vI x4)] [vJ s2, vR s1, vR (some s0)] Q := by
  obtain ⟨h1, v, c, p⟩ := c
  obtain ⟨h', r, K, q⟩ := K h1 v p
  exact ⟨h', r, j_callV (v := some (vI v)) (as := [vR s1, vJ s2]) dX11_readIndexes_20 kc_X11_550 rfl rfl w (by decide) (Nat.le_of_ble_eq_true rfl) c K, q⟩
theorem bX11_readIndexes_23 {h0 h : k_H} {Q : k_H → k_R → Prop} {x0 : Nat} {x1 : Option Nat} {x2 x3 x4 s0 : Int32} {P : k_H → Int32 → Prop} (c : k_cti (tX11_indexGoesTo G l) [vI s0] h P) (K : ∀ h1 v, P h1 v → k_X (jX11_readIndexes G l h0) h1 26 [(0, vR (some x0)), (1, vR x1), (2, vI x2), (3, vI x3), (4, vI x4)] [vI v] Q) : k_X (jX11_readIndexes G l h0) h 23 [(0, vR (some x0)), (1, vR x1), (2, vI x2), (3, vI x3), (4, vI x4)] [vI s0] Q := by
  obtain ⟨h1, v, c, p⟩ := c
  obtain ⟨h', r, K, q⟩ := K h1 v p
  exact ⟨h', r, j_callS (v := some (vI v)) (as := [vI s0]) dX11_readIndexes_23 kc_X11_308 rfl rfl (by decide) (Nat.le_of_ble_eq_true rfl) c K, q⟩
theorem bX11_readIndexes_26 {h0 h : k_H} {Q : k_H → k_R → Prop} {x0 : Nat} {x1 : Option Nat} {x2 x3 x4 s0 : Int32} (K1 : s0 < x2 → k_X (jX11_readIndexes G l h0) h 37 [(0, vR (some x0)), (1, vR x1), (2, vI x2), (3, vI x3), (4, vI x4)] [] Q) (K2 : ¬ (s0 < x2) → k_X (jX11_readIndexes G l h0) h 30 [(0, vR (some x0)), (1, vR x1), (2, vI x2), (3, vI x3), (4, vI x4)] [] Q) : k_X (jX11_readIndexes G l h0) h 26 [(0, vR (some x0)), (1, vR x1), (2, vI x2), (3, vI x3), (4, vI x4)] [vI s0] Q := by
  by_cases hc : s0 < x2
  · skip
    obtain ⟨h', r, K, q⟩ := K1 hc
    exact ⟨h', r, j_iload_n dX11_readIndexes_26 rfl rfl <| j_icmp_lt_t (tgt := 37) dX11_readIndexes_27 (by decide) hc K, q⟩
  · skip
    obtain ⟨h', r, K, q⟩ := K2 hc
    exact ⟨h', r, j_iload_n dX11_readIndexes_26 rfl rfl <| j_icmp_lt_f dX11_readIndexes_27 37 (by decide) hc K, q⟩
theorem bX11_readIndexes_30 {h0 h : k_H} {Q : k_H → k_R → Prop} {x0 : Nat} {x1 : Option Nat} {x2 x3 x4 : Int32} (K : k_X (jX11_readIndexes G l h0) h 37 [(0, vR (some x0)), (1, vR x1), (2, vI x2), (3, vI (x3 ||| (1 <<< (x4 &&& 31)))), (4, vI x4)] [] Q) : k_X (jX11_readIndexes G l h0) h 30 [(0, vR (some x0)), (1, vR x1), (2, vI x2), (3, vI x3), (4, vI x4)] [] Q := by
  obtain ⟨h', r, K, q⟩ := K
  exact ⟨h', r, j_iload_n dX11_readIndexes_30 rfl rfl <| j_iconst (v := 1) dX11_readIndexes_31 (by decide) <| j_iload dX11_readIndexes_32 rfl <| j_ishl dX11_readIndexes_34 <| j_ior dX11_readIndexes_35 <| j_istore_n dX11_readIndexes_36 rfl (by decide) rfl <| K, q⟩
theorem bX11_readIndexes_37 {h0 h : k_H} {Q : k_H → k_R → Prop} {x0 : Nat} {x1 : Option Nat} {x2 x3 x4 : Int32} (K : k_X (jX11_readIndexes G l h0) h 5 [(0, vR (some x0)), (1, vR x1), (2, vI x2), (3, vI x3), (4, vI (x4 + 1))] [] Q) : k_X (jX11_readIndexes G l h0) h 37 [(0, vR (some x0)), (1, vR x1), (2, vI x2), (3, vI x3), (4, vI x4)] [] Q := by
  obtain ⟨h', r, K, q⟩ := K
  exact ⟨h', r, j_iinc (v := x4 + 1) dX11_readIndexes_37 rfl (by decide) rfl rfl <| j_goto (tgt := 5) dX11_readIndexes_40 (by decide) <| K, q⟩
theorem bX11_readIndexes_43 {h0 h : k_H} {Q : k_H → k_R → Prop} {x3 : Int32} (q : Q h (.inl (some (vI x3)))) : k_X (jX11_readIndexes G l h0) h 43 [(3, vI x3)] [] Q := by
  exact ⟨_, _, j_iload_n dX11_readIndexes_43 rfl rfl <| j_iret dX11_readIndexes_44 rfl, q⟩
theorem eX11_writeRecord {G : k_G} {l : Launch} (hfl : l.flags = flags0) {h : k_H} {Q : k_H → k_R → Prop} {x0 : Nat} {x1 : Option Nat} {x2 : Int32} {x3 : Int32} (K : k_X (jX11_writeRecord G l h) h 0 [(0, vR (some x0)), (1, vR x1), (2, vI x2), (3, vI x3)] [] Q) : k_ct (tX11_writeRecord G l) [vR (some x0), vR x1, vI x2, vI x3] h Q := by
  obtain ⟨h', r, K, q⟩ := K
  exact ⟨h', r, k_CtOf (by decide +kernel) (Nat.le_of_ble_eq_true rfl) K hfl, q⟩

theorem bX11_writeRecord_0 {h0 h : k_H} {Q : k_H → k_R → Prop} {x0 : Nat} {x1 : Option Nat} {x2 x3 : Int32} (w : k_is h x0 14) {P : k_H → Int32 → Prop} (c : k_cti (tX11_readIndexes G l) [vR (some x0), vR x1, vI x2] h P) (K : ∀ h1 v, P h1 v → k_X (jX11_writeRecord G l h0) h1 6 [(0, vR (some x0)), (1, vR x1), (2, vI x2), (3, vI x3)] [vI v] Q) : k_X (jX11_writeRecord G l h0) h 0 [(0, vR (some x0)), (1, vR x1), (2, vI x2), (3, vI x3)] [] Q := by
  obtain ⟨h1, v, c, p⟩ := c
  obtain ⟨h', r, K, q⟩ := K h1 v p
  exact ⟨h', r, j_aload_n dX11_writeRecord_0 rfl rfl <| j_aload_n dX11_writeRecord_1 rfl rfl <| j_iload_n dX11_writeRecord_2 rfl rfl <| j_callV (v := some (vI v)) (as := [vR x1, vI x2]) dX11_writeRecord_3 kc_X11_554 rfl rfl w (by decide) (Nat.le_of_ble_eq_true rfl) c K, q⟩
theorem bX11_writeRecord_6 {h0 h : k_H} {Q : k_H → k_R → Prop} {x0 : Nat} {x1 : Option Nat} {x2 x3 s0 : Int32} {P : k_H → Int64 → Prop} (c : k_ctj (tX11_codeOf_ G l) [vI (-1), vI x2] h P) (K : ∀ h1 v, P h1 v → k_X (jX11_writeRecord G l h0) h1 15 [(0, vR (some x0)), (1, vR x1), (2, vI x2), (3, vI x3), (4, vI s0)] [vJ v, vR x1, vR (some x0)] Q) : k_X (jX11_writeRecord G l h0) h 6 [(0, vR (some x0)), (1, vR x1), (2, vI x2), (3, vI x3)] [vI s0] Q := by
  obtain ⟨h1, v, c, p⟩ := c
  obtain ⟨h', r, K, q⟩ := K h1 v p
  exact ⟨h', r, j_istore dX11_writeRecord_6 (by decide) rfl <| j_aload_n dX11_writeRecord_8 rfl rfl <| j_aload_n dX11_writeRecord_9 rfl rfl <| j_iconst (v := (-1)) dX11_writeRecord_10 (by decide) <| j_iload_n dX11_writeRecord_11 rfl rfl <| j_callS (v := some (vJ v)) (as := [vI (-1), vI x2]) dX11_writeRecord_12 kc_X11_302 rfl rfl (by decide) (Nat.le_of_ble_eq_true rfl) c K, q⟩
theorem bX11_writeRecord_15 {h0 h : k_H} {Q : k_H → k_R → Prop} {x0 s0 : Nat} {x1 s1 : Option Nat} {x2 x3 x4 : Int32} {s2 : Int64} (w : k_is h s0 14) {P : k_H → Int32 → Prop} (c : k_cti (tX11_readCounting G l) [vR (some s0), vR s1, vJ s2] h P) (K : ∀ h1 v, P h1 v → k_X (jX11_writeRecord G l h0) h1 18 [(0, vR (some x0)), (1, vR x1), (2, vI x2), (3, vI x3), (4, vI x4)] [vI v] Q) : k_X (jX11_writeRecord G l h0) h 15 [(0, vR (some x0)), (1, vR x1), (2, vI x2), (3, vI x3), (4, vI x4)] [vJ s2, vR s1, vR (some s0)] Q := by
  obtain ⟨h1, v, c, p⟩ := c
  obtain ⟨h', r, K, q⟩ := K h1 v p
  exact ⟨h', r, j_callV (v := some (vI v)) (as := [vR s1, vJ s2]) dX11_writeRecord_15 kc_X11_550 rfl rfl w (by decide) (Nat.le_of_ble_eq_true rfl) c K, q⟩
theorem bX11_writeRecord_18 {h0 h : k_H} {Q : k_H → k_R → Prop} {x0 : Nat} {x1 : Option Nat} {x2 x3 x4 s0 : Int32} (K1 : ¬ (s0 = (-2147483648)) → k_X (jX11_writeRecord G l h0) h 36 [(0, vR (some x0)), (1, vR x1), (2, vI x2), (3, vI x3), (4, vI x4), (5, vI s0)] [] Q) (K2 : s0 = (-2147483648) → k_X (jX11_writeRecord G l h0) h 27 [(0, vR (some x0)), (1, vR x1), (2, vI x2), (3, vI x3), (4, vI x4), (5, vI s0)] [] Q) : k_X (jX11_writeRecord G l h0) h 18 [(0, vR (some x0)), (1, vR x1), (2, vI x2), (3, vI x3), (4, vI x4)] [vI s0] Q := by
  by_cases hc : s0 = (-2147483648)
  · skip
    obtain ⟨h', r, K, q⟩ := K2 hc
    exact ⟨h', r, j_istore dX11_writeRecord_18 (by decide) rfl <| j_iload dX11_writeRecord_20 rfl <| j_ldc (v := (-2147483648)) dX11_writeRecord_22 ki_X11_62 <| j_icmp_ne_f dX11_writeRecord_24 36 (by decide) hc K, q⟩
  · skip
    obtain ⟨h', r, K, q⟩ := K1 hc
    exact ⟨h', r, j_istore dX11_writeRecord_18 (by decide) rfl <| j_iload dX11_writeRecord_20 rfl <| j_ldc (v := (-2147483648)) dX11_writeRecord_22 ki_X11_62 <| j_icmp_ne_t (tgt := 36) dX11_writeRecord_24 (by decide) hc K, q⟩
theorem bX11_writeRecord_27 {h0 h : k_H} {Q : k_H → k_R → Prop} {x0 : Nat} {x1 : Option Nat} {x2 x3 x4 x5 : Int32} (K1 : ¬ (x3 = (-2147483648)) → k_X (jX11_writeRecord G l h0) h 36 [(0, vR (some x0)), (1, vR x1), (2, vI x2), (3, vI x3), (4, vI x4), (5, vI x5)] [] Q) (K2 : x3 = (-2147483648) → k_X (jX11_writeRecord G l h0) h 33 [] [] Q) : k_X (jX11_writeRecord G l h0) h 27 [(0, vR (some x0)), (1, vR x1), (2, vI x2), (3, vI x3), (4, vI x4), (5, vI x5)] [] Q := by
  by_cases hc : x3 = (-2147483648)
  · skip
    obtain ⟨h', r, K, q⟩ := K2 hc
    exact ⟨h', r, j_iload_n dX11_writeRecord_27 rfl rfl <| j_ldc (v := (-2147483648)) dX11_writeRecord_28 ki_X11_62 <| j_icmp_ne_f dX11_writeRecord_30 36 (by decide) hc (j_pick [] rfl K), q⟩
  · skip
    obtain ⟨h', r, K, q⟩ := K1 hc
    exact ⟨h', r, j_iload_n dX11_writeRecord_27 rfl rfl <| j_ldc (v := (-2147483648)) dX11_writeRecord_28 ki_X11_62 <| j_icmp_ne_t (tgt := 36) dX11_writeRecord_30 (by decide) hc K, q⟩
theorem bX11_writeRecord_33 {h0 h : k_H} {Q : k_H → k_R → Prop} (q : Q h (.inl (some (vI (-2147483648))))) : k_X (jX11_writeRecord G l h0) h 33 [] [] Q := by
  exact ⟨_, _, j_ldc (v := (-2147483648)) dX11_writeRecord_33 ki_X11_62 <| j_iret dX11_writeRecord_35 rfl, q⟩
theorem bX11_writeRecord_36 {h0 h : k_H} {Q : k_H → k_R → Prop} {x0 : Nat} {x1 : Option Nat} {x2 x3 x4 x5 : Int32} (K : k_X (jX11_writeRecord G l h0) h 39 [(0, vR (some x0)), (1, vR x1), (2, vI x2), (3, vI x3), (4, vI x4), (5, vI x5), (6, vI 0)] [] Q) : k_X (jX11_writeRecord G l h0) h 36 [(0, vR (some x0)), (1, vR x1), (2, vI x2), (3, vI x3), (4, vI x4), (5, vI x5)] [] Q := by
  obtain ⟨h', r, K, q⟩ := K
  exact ⟨h', r, j_iconst (v := 0) dX11_writeRecord_36 (by decide) <| j_istore dX11_writeRecord_37 (by decide) rfl <| K, q⟩
theorem bX11_writeRecord_39 {h0 h : k_H} {Q : k_H → k_R → Prop} {x0 : Nat} {x1 : Option Nat} {x2 x3 x4 x5 x6 : Int32} (K1 : 3 ≤ x6 → k_X (jX11_writeRecord G l h0) h 110 [(0, vR (some x0)), (1, vR x1), (2, vI x2), (3, vI x3), (5, vI x5)] [] Q) (K2 : ¬ (3 ≤ x6) → k_X (jX11_writeRecord G l h0) h 45 [(0, vR (some x0)), (1, vR x1), (2, vI x2), (3, vI x3), (4, vI x4), (5, vI x5), (6, vI x6)] [] Q) : k_X (jX11_writeRecord G l h0) h 39 [(0, vR (some x0)), (1, vR x1), (2, vI x2), (3, vI x3), (4, vI x4), (5, vI x5), (6, vI x6)] [] Q := by
  by_cases hc : 3 ≤ x6
  · skip
    obtain ⟨h', r, K, q⟩ := K1 hc
    exact ⟨h', r, j_iload dX11_writeRecord_39 rfl <| j_iconst (v := 3) dX11_writeRecord_41 (by decide) <| j_icmp_ge_t (tgt := 110) dX11_writeRecord_42 (by decide) hc (j_pick [0, 1, 2, 3, 5] rfl K), q⟩
  · skip
    obtain ⟨h', r, K, q⟩ := K2 hc
    exact ⟨h', r, j_iload dX11_writeRecord_39 rfl <| j_iconst (v := 3) dX11_writeRecord_41 (by decide) <| j_icmp_ge_f dX11_writeRecord_42 110 (by decide) hc K, q⟩
theorem bX11_writeRecord_45 {h0 h : k_H} {Q : k_H → k_R → Prop} {x0 : Nat} {x1 : Option Nat} {x2 x3 x4 x5 x6 : Int32} (K1 : (x4 &&& (1 <<< (x6 &&& 31))) = 0 → k_X (jX11_writeRecord G l h0) h 59 [(0, vR (some x0)), (1, vR x1), (2, vI x2), (3, vI x3), (4, vI x4), (5, vI x5), (6, vI x6)] [] Q) (K2 : ¬ ((x4 &&& (1 <<< (x6 &&& 31))) = 0) → k_X (jX11_writeRecord G l h0) h 55 [(0, vR (some x0)), (1, vR x1), (2, vI x2), (3, vI x3), (4, vI x4), (5, vI x5), (6, vI x6)] [] Q) : k_X (jX11_writeRecord G l h0) h 45 [(0, vR (some x0)), (1, vR x1), (2, vI x2), (3, vI x3), (4, vI x4), (5, vI x5), (6, vI x6)] [] Q := by
  by_cases hc : (x4 &&& (1 <<< (x6 &&& 31))) = 0
  · skip
    obtain ⟨h', r, K, q⟩ := K1 hc
    exact ⟨h', r, j_iload dX11_writeRecord_45 rfl <| j_iconst (v := 1) dX11_writeRecord_47 (by decide) <| j_iload dX11_writeRecord_48 rfl <| j_ishl dX11_writeRecord_50 <| j_iand dX11_writeRecord_51 <| j_if_eq_t (tgt := 59) dX11_writeRecord_52 (by decide) hc K, q⟩
  · skip
    obtain ⟨h', r, K, q⟩ := K2 hc
    exact ⟨h', r, j_iload dX11_writeRecord_45 rfl <| j_iconst (v := 1) dX11_writeRecord_47 (by decide) <| j_iload dX11_writeRecord_48 rfl <| j_ishl dX11_writeRecord_50 <| j_iand dX11_writeRecord_51 <| j_if_eq_f dX11_writeRecord_52 59 (by decide) hc K, q⟩
theorem bX11_writeRecord_55 {h0 h : k_H} {Q : k_H → k_R → Prop} {x0 : Nat} {x1 : Option Nat} {x2 x3 x4 x5 x6 : Int32} (K : k_X (jX11_writeRecord G l h0) h 60 [(0, vR (some x0)), (1, vR x1), (2, vI x2), (3, vI x3), (4, vI x4), (5, vI x5), (6, vI x6)] [vI 1] Q) : k_X (jX11_writeRecord G l h0) h 55 [(0, vR (some x0)), (1, vR x1), (2, vI x2), (3, vI x3), (4, vI x4), (5, vI x5), (6, vI x6)] [] Q := by
  obtain ⟨h', r, K, q⟩ := K
  exact ⟨h', r, j_iconst (v := 1) dX11_writeRecord_55 (by decide) <| j_goto (tgt := 60) dX11_writeRecord_56 (by decide) <| K, q⟩
theorem bX11_writeRecord_59 {h0 h : k_H} {Q : k_H → k_R → Prop} {x0 : Nat} {x1 : Option Nat} {x2 x3 x4 x5 x6 : Int32} (K : k_X (jX11_writeRecord G l h0) h 60 [(0, vR (some x0)), (1, vR x1), (2, vI x2), (3, vI x3), (4, vI x4), (5, vI x5), (6, vI x6)] [vI 0] Q) : k_X (jX11_writeRecord G l h0) h 59 [(0, vR (some x0)), (1, vR x1), (2, vI x2), (3, vI x3), (4, vI x4), (5, vI x5), (6, vI x6)] [] Q := by
  obtain ⟨h', r, K, q⟩ := K
  exact ⟨h', r, j_iconst (v := 0) dX11_writeRecord_59 (by decide) <| K, q⟩
theorem bX11_writeRecord_60 {h0 h : k_H} {Q : k_H → k_R → Prop} {x0 : Nat} {x1 : Option Nat} {x2 x3 x4 x5 x6 s0 : Int32} (K1 : s0 = 0 → k_X (jX11_writeRecord G l h0) h 84 [(0, vR (some x0)), (1, vR x1), (2, vI x2), (3, vI x3), (4, vI x4), (5, vI x5), (6, vI x6), (7, vI s0)] [] Q) (K2 : ¬ (s0 = 0) → k_X (jX11_writeRecord G l h0) h 67 [(0, vR (some x0)), (1, vR x1), (2, vI x2), (3, vI x3), (4, vI x4), (5, vI x5), (6, vI x6), (7, vI s0)] [] Q) : k_X (jX11_writeRecord G l h0) h 60 [(0, vR (some x0)), (1, vR x1), (2, vI x2), (3, vI x3), (4, vI x4), (5, vI x5), (6, vI x6)] [vI s0] Q := by
  by_cases hc : s0 = 0
  · skip
    obtain ⟨h', r, K, q⟩ := K1 hc
    exact ⟨h', r, j_istore dX11_writeRecord_60 (by decide) rfl <| j_iload dX11_writeRecord_62 rfl <| j_if_eq_t (tgt := 84) dX11_writeRecord_64 (by decide) hc K, q⟩
  · skip
    obtain ⟨h', r, K, q⟩ := K2 hc
    exact ⟨h', r, j_istore dX11_writeRecord_60 (by decide) rfl <| j_iload dX11_writeRecord_62 rfl <| j_if_eq_f dX11_writeRecord_64 84 (by decide) hc K, q⟩
theorem bX11_writeRecord_67 {h0 h : k_H} {Q : k_H → k_R → Prop} {x0 : Nat} {x1 : Option Nat} {x2 x3 x4 x5 x6 x7 : Int32} (K1 : x5 = (-2147483648) → k_X (jX11_writeRecord G l h0) h 84 [(0, vR (some x0)), (1, vR x1), (2, vI x2), (3, vI x3), (4, vI x4), (5, vI x5), (6, vI x6), (7, vI x7)] [] Q) (K2 : ¬ (x5 = (-2147483648)) → k_X (jX11_writeRecord G l h0) h 74 [(0, vR (some x0)), (1, vR x1), (2, vI x2), (3, vI x3), (4, vI x4), (5, vI x5), (6, vI x6), (7, vI x7)] [] Q) : k_X (jX11_writeRecord G l h0) h 67 [(0, vR (some x0)), (1, vR x1), (2, vI x2), (3, vI x3), (4, vI x4), (5, vI x5), (6, vI x6), (7, vI x7)] [] Q := by
  by_cases hc : x5 = (-2147483648)
  · skip
    obtain ⟨h', r, K, q⟩ := K1 hc
    exact ⟨h', r, j_iload dX11_writeRecord_67 rfl <| j_ldc (v := (-2147483648)) dX11_writeRecord_69 ki_X11_62 <| j_icmp_eq_t (tgt := 84) dX11_writeRecord_71 (by decide) hc K, q⟩
  · skip
    obtain ⟨h', r, K, q⟩ := K2 hc
    exact ⟨h', r, j_iload dX11_writeRecord_67 rfl <| j_ldc (v := (-2147483648)) dX11_writeRecord_69 ki_X11_62 <| j_icmp_eq_f dX11_writeRecord_71 84 (by decide) hc K, q⟩
theorem bX11_writeRecord_74 {h0 h : k_H} {Q : k_H → k_R → Prop} {x0 : Nat} {x1 : Option Nat} {x2 x3 x4 x5 x6 x7 : Int32} (w : k_is h x0 14) {P : k_H → Prop} (c : k_ctv (tX11_takeAway G l) [vR (some x0), vR x1, vI x6, vI x2, vI x5] h P) (K : ∀ h1, P h1 → k_X (jX11_writeRecord G l h0) h1 84 [(0, vR (some x0)), (1, vR x1), (2, vI x2), (3, vI x3), (4, vI x4), (5, vI x5), (6, vI x6), (7, vI x7)] [] Q) : k_X (jX11_writeRecord G l h0) h 74 [(0, vR (some x0)), (1, vR x1), (2, vI x2), (3, vI x3), (4, vI x4), (5, vI x5), (6, vI x6), (7, vI x7)] [] Q := by
  obtain ⟨h1, c, p⟩ := c
  obtain ⟨h', r, K, q⟩ := K h1 p
  exact ⟨h', r, j_aload_n dX11_writeRecord_74 rfl rfl <| j_aload_n dX11_writeRecord_75 rfl rfl <| j_iload dX11_writeRecord_76 rfl <| j_iload_n dX11_writeRecord_78 rfl rfl <| j_iload dX11_writeRecord_79 rfl <| j_callV (v := none) (as := [vR x1, vI x6, vI x2, vI x5]) dX11_writeRecord_81 kc_X11_558 rfl rfl w (by decide) (Nat.le_of_ble_eq_true rfl) c K, q⟩
theorem bX11_writeRecord_84 {h0 h : k_H} {Q : k_H → k_R → Prop} {x0 : Nat} {x1 : Option Nat} {x2 x3 x4 x5 x6 x7 : Int32} (K1 : x7 = 0 → k_X (jX11_writeRecord G l h0) h 104 [(0, vR (some x0)), (1, vR x1), (2, vI x2), (3, vI x3), (4, vI x4), (5, vI x5), (6, vI x6)] [] Q) (K2 : ¬ (x7 = 0) → k_X (jX11_writeRecord G l h0) h 89 [(0, vR (some x0)), (1, vR x1), (2, vI x2), (3, vI x3), (4, vI x4), (5, vI x5), (6, vI x6)] [] Q) : k_X (jX11_writeRecord G l h0) h 84 [(0, vR (some x0)), (1, vR x1), (2, vI x2), (3, vI x3), (4, vI x4), (5, vI x5), (6, vI x6), (7, vI x7)] [] Q := by
  by_cases hc : x7 = 0
  · skip
    obtain ⟨h', r, K, q⟩ := K1 hc
    exact ⟨h', r, j_iload dX11_writeRecord_84 rfl <| j_if_eq_t (tgt := 104) dX11_writeRecord_86 (by decide) hc (j_pick [0, 1, 2, 3, 4, 5, 6] rfl K), q⟩
  · skip
    obtain ⟨h', r, K, q⟩ := K2 hc
    exact ⟨h', r, j_iload dX11_writeRecord_84 rfl <| j_if_eq_f dX11_writeRecord_86 104 (by decide) hc (j_pick [0, 1, 2, 3, 4, 5, 6] rfl K), q⟩
theorem bX11_writeRecord_89 {h0 h : k_H} {Q : k_H → k_R → Prop} {x0 : Nat} {x1 : Option Nat} {x2 x3 x4 x5 x6 : Int32} (K1 : x3 = (-2147483648) → k_X (jX11_writeRecord G l h0) h 104 [(0, vR (some x0)), (1, vR x1), (2, vI x2), (3, vI x3), (4, vI x4), (5, vI x5), (6, vI x6)] [] Q) (K2 : ¬ (x3 = (-2147483648)) → k_X (jX11_writeRecord G l h0) h 95 [(0, vR (some x0)), (1, vR x1), (2, vI x2), (3, vI x3), (4, vI x4), (5, vI x5), (6, vI x6)] [] Q) : k_X (jX11_writeRecord G l h0) h 89 [(0, vR (some x0)), (1, vR x1), (2, vI x2), (3, vI x3), (4, vI x4), (5, vI x5), (6, vI x6)] [] Q := by
  by_cases hc : x3 = (-2147483648)
  · skip
    obtain ⟨h', r, K, q⟩ := K1 hc
    exact ⟨h', r, j_iload_n dX11_writeRecord_89 rfl rfl <| j_ldc (v := (-2147483648)) dX11_writeRecord_90 ki_X11_62 <| j_icmp_eq_t (tgt := 104) dX11_writeRecord_92 (by decide) hc K, q⟩
  · skip
    obtain ⟨h', r, K, q⟩ := K2 hc
    exact ⟨h', r, j_iload_n dX11_writeRecord_89 rfl rfl <| j_ldc (v := (-2147483648)) dX11_writeRecord_90 ki_X11_62 <| j_icmp_eq_f dX11_writeRecord_92 104 (by decide) hc K, q⟩
theorem bX11_writeRecord_95 {h0 h : k_H} {Q : k_H → k_R → Prop} {x0 : Nat} {x1 : Option Nat} {x2 x3 x4 x5 x6 : Int32} (w : k_is h x0 14) {P : k_H → Prop} (c : k_ctv (tX11_putThere G l) [vR (some x0), vR x1, vI x6, vI x2, vI x3] h P) (K : ∀ h1, P h1 → k_X (jX11_writeRecord G l h0) h1 104 [(0, vR (some x0)), (1, vR x1), (2, vI x2), (3, vI x3), (4, vI x4), (5, vI x5), (6, vI x6)] [] Q) : k_X (jX11_writeRecord G l h0) h 95 [(0, vR (some x0)), (1, vR x1), (2, vI x2), (3, vI x3), (4, vI x4), (5, vI x5), (6, vI x6)] [] Q := by
  obtain ⟨h1, c, p⟩ := c
  obtain ⟨h', r, K, q⟩ := K h1 p
  exact ⟨h', r, j_aload_n dX11_writeRecord_95 rfl rfl <| j_aload_n dX11_writeRecord_96 rfl rfl <| j_iload dX11_writeRecord_97 rfl <| j_iload_n dX11_writeRecord_99 rfl rfl <| j_iload_n dX11_writeRecord_100 rfl rfl <| j_callV (v := none) (as := [vR x1, vI x6, vI x2, vI x3]) dX11_writeRecord_101 kc_X11_562 rfl rfl w (by decide) (Nat.le_of_ble_eq_true rfl) c K, q⟩
theorem bX11_writeRecord_104 {h0 h : k_H} {Q : k_H → k_R → Prop} {x0 : Nat} {x1 : Option Nat} {x2 x3 x4 x5 x6 : Int32} (K : k_X (jX11_writeRecord G l h0) h 39 [(0, vR (some x0)), (1, vR x1), (2, vI x2), (3, vI x3), (4, vI x4), (5, vI x5), (6, vI (x6 + 1))] [] Q) : k_X (jX11_writeRecord G l h0) h 104 [(0, vR (some x0)), (1, vR x1), (2, vI x2), (3, vI x3), (4, vI x4), (5, vI x5), (6, vI x6)] [] Q := by
  obtain ⟨h', r, K, q⟩ := K
  exact ⟨h', r, j_iinc (v := x6 + 1) dX11_writeRecord_104 rfl (by decide) rfl rfl <| j_goto (tgt := 39) dX11_writeRecord_107 (by decide) <| K, q⟩
theorem bX11_writeRecord_110 {h0 h : k_H} {Q : k_H → k_R → Prop} {x0 : Nat} {x1 : Option Nat} {x2 x3 x5 : Int32} (K1 : ¬ (x3 = (-2147483648)) → k_X (jX11_writeRecord G l h0) h 122 [(2, vI x2), (3, vI x3), (5, vI x5)] [vR x1, vR (some x0)] Q) (K2 : x3 = (-2147483648) → k_X (jX11_writeRecord G l h0) h 118 [(2, vI x2), (3, vI x3), (5, vI x5)] [vR x1, vR (some x0)] Q) : k_X (jX11_writeRecord G l h0) h 110 [(0, vR (some x0)), (1, vR x1), (2, vI x2), (3, vI x3), (5, vI x5)] [] Q := by
  by_cases hc : x3 = (-2147483648)
  · skip
    obtain ⟨h', r, K, q⟩ := K2 hc
    exact ⟨h', r, j_aload_n dX11_writeRecord_110 rfl rfl <| j_aload_n dX11_writeRecord_111 rfl rfl <| j_iload_n dX11_writeRecord_112 rfl rfl <| j_ldc (v := (-2147483648)) dX11_writeRecord_113 ki_X11_62 <| j_icmp_ne_f dX11_writeRecord_115 122 (by decide) hc (j_pick [2, 3, 4] rfl K), q⟩
  · skip
    obtain ⟨h', r, K, q⟩ := K1 hc
    exact ⟨h', r, j_aload_n dX11_writeRecord_110 rfl rfl <| j_aload_n dX11_writeRecord_111 rfl rfl <| j_iload_n dX11_writeRecord_112 rfl rfl <| j_ldc (v := (-2147483648)) dX11_writeRecord_113 ki_X11_62 <| j_icmp_ne_t (tgt := 122) dX11_writeRecord_115 (by decide) hc (j_pick [2, 3, 4] rfl K), q⟩
theorem bX11_writeRecord_118 {h0 h : k_H} {Q : k_H → k_R → Prop} {x2 x3 x5 : Int32} {s0 s1 : Option Nat} (K : k_X (jX11_writeRecord G l h0) h 123 [(2, vI x2), (3, vI x3), (5, vI x5)] [vI 1, vR s1, vR s0] Q) : k_X (jX11_writeRecord G l h0) h 118 [(2, vI x2), (3, vI x3), (5, vI x5)] [vR s1, vR s0] Q := by
  obtain ⟨h', r, K, q⟩ := K
  exact ⟨h', r, j_iconst (v := 1) dX11_writeRecord_118 (by decide) <| j_goto (tgt := 123) dX11_writeRecord_119 (by decide) <| K, q⟩
theorem bX11_writeRecord_122 {h0 h : k_H} {Q : k_H → k_R → Prop} {x2 x3 x5 : Int32} {s0 s1 : Option Nat} (K : k_X (jX11_writeRecord G l h0) h 123 [(2, vI x2), (3, vI x3), (5, vI x5)] [vI 0, vR s1, vR s0] Q) : k_X (jX11_writeRecord G l h0) h 122 [(2, vI x2), (3, vI x3), (5, vI x5)] [vR s1, vR s0] Q := by
  obtain ⟨h', r, K, q⟩ := K
  exact ⟨h', r, j_iconst (v := 0) dX11_writeRecord_122 (by decide) <| K, q⟩
theorem bX11_writeRecord_123 {h0 h : k_H} {Q : k_H → k_R → Prop} {x2 x3 x5 s2 : Int32} {s0 s1 : Option Nat} {P : k_H → Int64 → Prop} (c : k_ctj (tX11_codeOf_ G l) [vI (-1), vI x2] h P) (K : ∀ h1 v, P h1 v → k_X (jX11_writeRecord G l h0) h1 128 [(3, vI x3), (5, vI x5)] [vJ v, vI s2, vR s1, vR s0] Q) : k_X (jX11_writeRecord G l h0) h 123 [(2, vI x2), (3, vI x3), (5, vI x5)] [vI s2, vR s1, vR s0] Q := by
  obtain ⟨h1, v, c, p⟩ := c
  obtain ⟨h', r, K, q⟩ := K h1 v p
  exact ⟨h', r, j_iconst (v := (-1)) dX11_writeRecord_123 (by decide) <| j_iload_n dX11_writeRecord_124 rfl rfl <| j_callS (v := some (vJ v)) (as := [vI (-1), vI x2]) dX11_writeRecord_125 kc_X11_302 rfl rfl (by decide) (Nat.le_of_ble_eq_true rfl) c (j_pick [1, 2] rfl K), q⟩
theorem bX11_writeRecord_128 {h0 h : k_H} {Q : k_H → k_R → Prop} {x3 x5 s2 : Int32} {s0 : Nat} {s1 : Option Nat} {s3 : Int64} (w : k_is h s0 14) {P : k_H → Prop} (c : k_ctv (tX11_keep G l) [vR (some s0), vR s1, vI s2, vJ s3, vI x3] h P) (K : ∀ h1, P h1 → k_X (jX11_writeRecord G l h0) h1 132 [(5, vI x5)] [] Q) : k_X (jX11_writeRecord G l h0) h 128 [(3, vI x3), (5, vI x5)] [vJ s3, vI s2, vR s1, vR (some s0)] Q := by
  obtain ⟨h1, c, p⟩ := c
  obtain ⟨h', r, K, q⟩ := K h1 p
  exact ⟨h', r, j_iload_n dX11_writeRecord_128 rfl rfl <| j_callV (v := none) (as := [vR s1, vI s2, vJ s3, vI x3]) dX11_writeRecord_129 kc_X11_201 rfl rfl w (by decide) (Nat.le_of_ble_eq_true rfl) c (j_pick [1] rfl K), q⟩
theorem bX11_writeRecord_132 {h0 h : k_H} {Q : k_H → k_R → Prop} {x5 : Int32} (q : Q h (.inl (some (vI x5)))) : k_X (jX11_writeRecord G l h0) h 132 [(5, vI x5)] [] Q := by
  exact ⟨_, _, j_iload dX11_writeRecord_132 rfl <| j_iret dX11_writeRecord_134 rfl, q⟩
theorem eX11_takeAway {G : k_G} {l : Launch} (hfl : l.flags = flags0) {h : k_H} {Q : k_H → k_R → Prop} {x0 : Nat} {x1 : Option Nat} {x2 : Int32} {x3 : Int32} {x4 : Int32} (K : k_X (jX11_takeAway G l h) h 0 [(0, vR (some x0)), (1, vR x1), (2, vI x2), (3, vI x3), (4, vI x4)] [] Q) : k_ct (tX11_takeAway G l) [vR (some x0), vR x1, vI x2, vI x3, vI x4] h Q := by
  obtain ⟨h', r, K, q⟩ := K
  exact ⟨h', r, k_CtOf (by decide +kernel) (Nat.le_of_ble_eq_true rfl) K hfl, q⟩

theorem bX11_takeAway_0 {h0 h : k_H} {Q : k_H → k_R → Prop} {x0 : Nat} {x1 : Option Nat} {x2 x3 x4 : Int32} (K1 : ¬ (x2 = 0) → k_X (jX11_takeAway G l h0) h 22 [(0, vR (some x0)), (1, vR x1), (2, vI x2), (3, vI x3), (4, vI x4)] [] Q) (K2 : x2 = 0 → k_X (jX11_takeAway G l h0) h 4 [(0, vR (some x0)), (1, vR x1), (3, vI x3), (4, vI x4)] [] Q) : k_X (jX11_takeAway G l h0) h 0 [(0, vR (some x0)), (1, vR x1), (2, vI x2), (3, vI x3), (4, vI x4)] [] Q := by
  by_cases hc : x2 = 0
  · skip
    obtain ⟨h', r, K, q⟩ := K2 hc
    exact ⟨h', r, j_iload_n dX11_takeAway_0 rfl rfl <| j_if_ne_f dX11_takeAway_1 22 (by decide) hc (j_pick [0, 1, 3, 4] rfl K), q⟩
  · skip
    obtain ⟨h', r, K, q⟩ := K1 hc
    exact ⟨h', r, j_iload_n dX11_takeAway_0 rfl rfl <| j_if_ne_t (tgt := 22) dX11_takeAway_1 (by decide) hc K, q⟩
theorem bX11_takeAway_4 {h0 h : k_H} {Q : k_H → k_R → Prop} {x0 : Nat} {x1 : Option Nat} {x3 x4 : Int32} {P : k_H → Int64 → Prop} (c : k_ctj (tX11_codeOf G l) [vI (-2), vI x4, vI x3] h P) (K : ∀ h1 v, P h1 v → k_X (jX11_takeAway G l h0) h1 15 [] [vJ v, vI 1, vR x1, vR (some x0)] Q) : k_X (jX11_takeAway G l h0) h 4 [(0, vR (some x0)), (1, vR x1), (3, vI x3), (4, vI x4)] [] Q := by
  obtain ⟨h1, v, c, p⟩ := c
  obtain ⟨h', r, K, q⟩ := K h1 v p
  exact ⟨h', r, j_aload_n dX11_takeAway_4 rfl rfl <| j_aload_n dX11_takeAway_5 rfl rfl <| j_iconst (v := 1) dX11_takeAway_6 (by decide) <| j_bipush (v := (-2)) dX11_takeAway_7 (by decide) <| j_iload dX11_takeAway_9 rfl <| j_iload_n dX11_takeAway_11 rfl rfl <| j_callS (v := some (vJ v)) (as := [vI (-2), vI x4, vI x3]) dX11_takeAway_12 kc_X11_100 rfl rfl (by decide) (Nat.le_of_ble_eq_true rfl) c (j_pick [] rfl K), q⟩
theorem bX11_takeAway_15 {h0 h : k_H} {Q : k_H → k_R → Prop} {s0 : Nat} {s1 : Option Nat} {s2 : Int32} {s3 : Int64} (w : k_is h s0 14) {P : k_H → Prop} (c : k_ctv (tX11_keep G l) [vR (some s0), vR s1, vI s2, vJ s3, vI 0] h P) (K : ∀ h1, P h1 → k_X (jX11_takeAway G l h0) h1 19 [] [] Q) : k_X (jX11_takeAway G l h0) h 15 [] [vJ s3, vI s2, vR s1, vR (some s0)] Q := by
  obtain ⟨h1, c, p⟩ := c
  obtain ⟨h', r, K, q⟩ := K h1 p
  exact ⟨h', r, j_iconst (v := 0) dX11_takeAway_15 (by decide) <| j_callV (v := none) (as := [vR s1, vI s2, vJ s3, vI 0]) dX11_takeAway_16 kc_X11_201 rfl rfl w (by decide) (Nat.le_of_ble_eq_true rfl) c K, q⟩
theorem bX11_takeAway_19 {h0 h : k_H} {Q : k_H → k_R → Prop} (K : k_X (jX11_takeAway G l h0) h 50 [] [] Q) : k_X (jX11_takeAway G l h0) h 19 [] [] Q := by
  obtain ⟨h', r, K, q⟩ := K
  exact ⟨h', r, j_goto (tgt := 50) dX11_takeAway_19 (by decide) <| K, q⟩
theorem bX11_takeAway_22 {h0 h : k_H} {Q : k_H → k_R → Prop} {x0 : Nat} {x1 : Option Nat} {x2 x3 x4 : Int32} (K1 : ¬ (x2 = 1) → k_X (jX11_takeAway G l h0) h 44 [(0, vR (some x0)), (1, vR x1), (3, vI x3)] [] Q) (K2 : x2 = 1 → k_X (jX11_takeAway G l h0) h 27 [(0, vR (some x0)), (1, vR x1), (4, vI x4)] [] Q) : k_X (jX11_takeAway G l h0) h 22 [(0, vR (some x0)), (1, vR x1), (2, vI x2), (3, vI x3), (4, vI x4)] [] Q := by
  by_cases hc : x2 = 1
  · skip
    obtain ⟨h', r, K, q⟩ := K2 hc
    exact ⟨h', r, j_iload_n dX11_takeAway_22 rfl rfl <| j_iconst (v := 1) dX11_takeAway_23 (by decide) <| j_icmp_ne_f dX11_takeAway_24 44 (by decide) hc (j_pick [0, 1, 4] rfl K), q⟩
  · skip
    obtain ⟨h', r, K, q⟩ := K1 hc
    exact ⟨h', r, j_iload_n dX11_takeAway_22 rfl rfl <| j_iconst (v := 1) dX11_takeAway_23 (by decide) <| j_icmp_ne_t (tgt := 44) dX11_takeAway_24 (by decide) hc (j_pick [0, 1, 3] rfl K), q⟩
theorem bX11_takeAway_27 {h0 h : k_H} {Q : k_H → k_R → Prop} {x0 : Nat} {x1 : Option Nat} {x4 : Int32} {P : k_H → Int64 → Prop} (c : k_ctj (tX11_codeOf_ G l) [vI (-3), vI x4] h P) (K : ∀ h1 v, P h1 v → k_X (jX11_takeAway G l h0) h1 37 [] [vJ v, vI 2, vR x1, vR (some x0)] Q) : k_X (jX11_takeAway G l h0) h 27 [(0, vR (some x0)), (1, vR x1), (4, vI x4)] [] Q := by
  obtain ⟨h1, v, c, p⟩ := c
  obtain ⟨h', r, K, q⟩ := K h1 v p
  exact ⟨h', r, j_aload_n dX11_takeAway_27 rfl rfl <| j_aload_n dX11_takeAway_28 rfl rfl <| j_iconst (v := 2) dX11_takeAway_29 (by decide) <| j_bipush (v := (-3)) dX11_takeAway_30 (by decide) <| j_iload dX11_takeAway_32 rfl <| j_callS (v := some (vJ v)) (as := [vI (-3), vI x4]) dX11_takeAway_34 kc_X11_302 rfl rfl (by decide) (Nat.le_of_ble_eq_true rfl) c (j_pick [] rfl K), q⟩
theorem bX11_takeAway_37 {h0 h : k_H} {Q : k_H → k_R → Prop} {s0 : Nat} {s1 : Option Nat} {s2 : Int32} {s3 : Int64} (w : k_is h s0 14) {P : k_H → Prop} (c : k_ctv (tX11_keep G l) [vR (some s0), vR s1, vI s2, vJ s3, vI (-1)] h P) (K : ∀ h1, P h1 → k_X (jX11_takeAway G l h0) h1 41 [] [] Q) : k_X (jX11_takeAway G l h0) h 37 [] [vJ s3, vI s2, vR s1, vR (some s0)] Q := by
  obtain ⟨h1, c, p⟩ := c
  obtain ⟨h', r, K, q⟩ := K h1 p
  exact ⟨h', r, j_iconst (v := (-1)) dX11_takeAway_37 (by decide) <| j_callV (v := none) (as := [vR s1, vI s2, vJ s3, vI (-1)]) dX11_takeAway_38 kc_X11_201 rfl rfl w (by decide) (Nat.le_of_ble_eq_true rfl) c K, q⟩
theorem bX11_takeAway_41 {h0 h : k_H} {Q : k_H → k_R → Prop} (K : k_X (jX11_takeAway G l h0) h 50 [] [] Q) : k_X (jX11_takeAway G l h0) h 41 [] [] Q := by
  obtain ⟨h', r, K, q⟩ := K
  exact ⟨h', r, j_goto (tgt := 50) dX11_takeAway_41 (by decide) <| K, q⟩
theorem bX11_takeAway_44 {h0 h : k_H} {Q : k_H → k_R → Prop} {x0 : Nat} {x1 : Option Nat} {x3 : Int32} (w : k_is h x0 14) {P : k_H → Prop} (c : k_ctv (tX11_takeAwayVersions G l) [vR (some x0), vR x1, vI x3] h P) (K : ∀ h1, P h1 → k_X (jX11_takeAway G l h0) h1 50 [] [] Q) : k_X (jX11_takeAway G l h0) h 44 [(0, vR (some x0)), (1, vR x1), (3, vI x3)] [] Q := by
  obtain ⟨h1, c, p⟩ := c
  obtain ⟨h', r, K, q⟩ := K h1 p
  exact ⟨h', r, j_aload_n dX11_takeAway_44 rfl rfl <| j_aload_n dX11_takeAway_45 rfl rfl <| j_iload_n dX11_takeAway_46 rfl rfl <| j_callV (v := none) (as := [vR x1, vI x3]) dX11_takeAway_47 kc_X11_565 rfl rfl w (by decide) (Nat.le_of_ble_eq_true rfl) c (j_pick [] rfl K), q⟩
theorem bX11_takeAway_50 {h0 h : k_H} {Q : k_H → k_R → Prop} (q : Q h (.inl none)) : k_X (jX11_takeAway G l h0) h 50 [] [] Q := by
  exact ⟨_, _, j_vret dX11_takeAway_50 rfl, q⟩
theorem eX11_takeAwayVersions {G : k_G} {l : Launch} (hfl : l.flags = flags0) {h : k_H} {Q : k_H → k_R → Prop} {x0 : Nat} {x1 : Option Nat} {x2 : Int32} (K : k_X (jX11_takeAwayVersions G l h) h 0 [(0, vR (some x0)), (1, vR x1), (2, vI x2)] [] Q) : k_ct (tX11_takeAwayVersions G l) [vR (some x0), vR x1, vI x2] h Q := by
  obtain ⟨h', r, K, q⟩ := K
  exact ⟨h', r, k_CtOf (by decide +kernel) (Nat.le_of_ble_eq_true rfl) K hfl, q⟩

theorem bX11_takeAwayVersions_0 {h0 h : k_H} {Q : k_H → k_R → Prop} {x0 : Nat} {x1 : Option Nat} {x2 : Int32} {P : k_H → Int64 → Prop} (c : k_ctj (tX11_lowOf G l) [vI (-4), vI 10000] h P) (K : ∀ h1 v, P h1 v → k_X (jX11_takeAwayVersions G l h0) h1 10 [(0, vR (some x0)), (1, vR x1), (2, vI x2)] [vJ v, vR x1, vR (some x0)] Q) : k_X (jX11_takeAwayVersions G l h0) h 0 [(0, vR (some x0)), (1, vR x1), (2, vI x2)] [] Q := by
  obtain ⟨h1, v, c, p⟩ := c
  obtain ⟨h', r, K, q⟩ := K h1 v p
  exact ⟨h', r, j_aload_n dX11_takeAwayVersions_0 rfl rfl <| j_aload_n dX11_takeAwayVersions_1 rfl rfl <| j_bipush (v := (-4)) dX11_takeAwayVersions_2 (by decide) <| j_sipush (v := 10000) dX11_takeAwayVersions_4 (by decide) <| j_callS (v := some (vJ v)) (as := [vI (-4), vI 10000]) dX11_takeAwayVersions_7 kc_X11_138 rfl rfl (by decide) (Nat.le_of_ble_eq_true rfl) c K, q⟩
theorem bX11_takeAwayVersions_10 {h0 h : k_H} {Q : k_H → k_R → Prop} {x0 : Nat} {x1 s0 s1 : Option Nat} {x2 : Int32} {s2 : Int64} {P : k_H → Int64 → Prop} (c : k_ctj (tX11_highOf G l) [vI (-4), vI 10000] h P) (K : ∀ h1 v, P h1 v → k_X (jX11_takeAwayVersions G l h0) h1 18 [(0, vR (some x0)), (1, vR x1), (2, vI x2)] [vJ v, vJ s2, vR s1, vR s0] Q) : k_X (jX11_takeAwayVersions G l h0) h 10 [(0, vR (some x0)), (1, vR x1), (2, vI x2)] [vJ s2, vR s1, vR s0] Q := by
  obtain ⟨h1, v, c, p⟩ := c
  obtain ⟨h', r, K, q⟩ := K h1 v p
  exact ⟨h', r, j_bipush (v := (-4)) dX11_takeAwayVersions_10 (by decide) <| j_sipush (v := 10000) dX11_takeAwayVersions_12 (by decide) <| j_callS (v := some (vJ v)) (as := [vI (-4), vI 10000]) dX11_takeAwayVersions_15 kc_X11_142 rfl rfl (by decide) (Nat.le_of_ble_eq_true rfl) c K, q⟩
theorem bX11_takeAwayVersions_18 {h0 h : k_H} {Q : k_H → k_R → Prop} {x0 s0 : Nat} {x1 s1 : Option Nat} {x2 : Int32} {s2 s3 : Int64} (w : k_is h s0 14) {P : k_H → Prop} (c : k_ctv (tX11_listSeen G l) [vR (some s0), vR s1, vJ s2, vJ s3] h P) (K : ∀ h1, P h1 → k_X (jX11_takeAwayVersions G l h0) h1 21 [(0, vR (some x0)), (1, vR x1), (2, vI x2)] [] Q) : k_X (jX11_takeAwayVersions G l h0) h 18 [(0, vR (some x0)), (1, vR x1), (2, vI x2)] [vJ s3, vJ s2, vR s1, vR (some s0)] Q := by
  obtain ⟨h1, c, p⟩ := c
  obtain ⟨h', r, K, q⟩ := K h1 p
  exact ⟨h', r, j_callV (v := none) (as := [vR s1, vJ s2, vJ s3]) dX11_takeAwayVersions_18 kc_X11_145 rfl rfl w (by decide) (Nat.le_of_ble_eq_true rfl) c K, q⟩
theorem bX11_takeAwayVersions_21 {h0 h : k_H} {Q : k_H → k_R → Prop} {x0 : Nat} {x1 : Option Nat} {x2 : Int32} (K : k_X (jX11_takeAwayVersions G l h0) h 23 [(0, vR (some x0)), (1, vR x1), (2, vI x2), (3, vI 0)] [] Q) : k_X (jX11_takeAwayVersions G l h0) h 21 [(0, vR (some x0)), (1, vR x1), (2, vI x2)] [] Q := by
  obtain ⟨h', r, K, q⟩ := K
  exact ⟨h', r, j_iconst (v := 0) dX11_takeAwayVersions_21 (by decide) <| j_istore_n dX11_takeAwayVersions_22 rfl (by decide) rfl <| K, q⟩
theorem bX11_takeAwayVersions_23 {h0 h : k_H} {Q : k_H → k_R → Prop} {x0 f1_4 : Nat} {x1 : Option Nat} {x2 x3 : Int32} {fs1 : List k_V} (o1 : h.1 x0 = some (k_o 14 fs1)) (g1_4 : fs1[4]? = some (vR (some f1_4))) (w : k_is h f1_4 2) {P : k_H → Int32 → Prop} (c : k_cti (tAL_size G l) [vR (some f1_4)] h P) (K : ∀ h1 v, P h1 v → k_X (jX11_takeAwayVersions G l h0) h1 31 [(0, vR (some x0)), (1, vR x1), (2, vI x2), (3, vI x3)] [vI v, vI x3] Q) : k_X (jX11_takeAwayVersions G l h0) h 23 [(0, vR (some x0)), (1, vR x1), (2, vI x2), (3, vI x3)] [] Q := by
  obtain ⟨h1, v, c, p⟩ := c
  obtain ⟨h', r, K, q⟩ := K h1 v p
  exact ⟨h', r, j_iload_n dX11_takeAwayVersions_23 rfl rfl <| j_aload_n dX11_takeAwayVersions_24 rfl rfl <| j_getf dX11_takeAwayVersions_25 kf_X11_39 o1 g1_4 <| j_callV (v := some (vI v)) (as := []) dX11_takeAwayVersions_28 kc_X11_153 rfl rfl w (by decide) (Nat.le_of_ble_eq_true rfl) c K, q⟩
theorem bX11_takeAwayVersions_31 {h0 h : k_H} {Q : k_H → k_R → Prop} {x0 : Nat} {x1 : Option Nat} {x2 x3 s0 s1 : Int32} (K1 : s1 ≤ s0 → k_X (jX11_takeAwayVersions G l h0) h 75 [(1, vR x1), (2, vI x2)] [] Q) (K2 : ¬ (s1 ≤ s0) → k_X (jX11_takeAwayVersions G l h0) h 34 [(0, vR (some x0)), (1, vR x1), (2, vI x2), (3, vI x3)] [] Q) : k_X (jX11_takeAwayVersions G l h0) h 31 [(0, vR (some x0)), (1, vR x1), (2, vI x2), (3, vI x3)] [vI s1, vI s0] Q := by
  by_cases hc : s1 ≤ s0
  · skip
    obtain ⟨h', r, K, q⟩ := K1 hc
    exact ⟨h', r, j_icmp_ge_t (tgt := 75) dX11_takeAwayVersions_31 (by decide) hc (j_pick [1, 2] rfl K), q⟩
  · skip
    obtain ⟨h', r, K, q⟩ := K2 hc
    exact ⟨h', r, j_icmp_ge_f dX11_takeAwayVersions_31 75 (by decide) hc K, q⟩
theorem bX11_takeAwayVersions_34 {h0 h : k_H} {Q : k_H → k_R → Prop} {x0 f1_4 : Nat} {x1 : Option Nat} {x2 x3 : Int32} {fs1 : List k_V} (o1 : h.1 x0 = some (k_o 14 fs1)) (g1_4 : fs1[4]? = some (vR (some f1_4))) (w : k_is h f1_4 2) {P : k_H → Option Nat → Prop} (c : k_ctr (tAL_get G l) [vR (some f1_4), vI x3] h P) (K : ∀ h1 v, P h1 v → k_X (jX11_takeAwayVersions G l h0) h1 42 [(0, vR (some x0)), (1, vR x1), (2, vI x2), (3, vI x3)] [vR v] Q) : k_X (jX11_takeAwayVersions G l h0) h 34 [(0, vR (some x0)), (1, vR x1), (2, vI x2), (3, vI x3)] [] Q := by
  obtain ⟨h1, v, c, p⟩ := c
  obtain ⟨h', r, K, q⟩ := K h1 v p
  exact ⟨h', r, j_aload_n dX11_takeAwayVersions_34 rfl rfl <| j_getf dX11_takeAwayVersions_35 kf_X11_39 o1 g1_4 <| j_iload_n dX11_takeAwayVersions_38 rfl rfl <| j_callV (v := some (vR v)) (as := [vI x3]) dX11_takeAwayVersions_39 kc_X11_166 rfl rfl w (by decide) (Nat.le_of_ble_eq_true rfl) c K, q⟩
theorem bX11_takeAwayVersions_42 {h0 h : k_H} {Q : k_H → k_R → Prop} {x0 s0 : Nat} {x1 : Option Nat} {x2 x3 : Int32} {f1_0 : Int64} {fs1 : List k_V} (o1 : h.1 s0 = some (k_o 7 fs1)) (g1_0 : fs1[0]? = some (vJ f1_0)) {P : k_H → Int32 → Prop} (c : k_cti (tX11_numberOf G l) [vJ f1_0, vI 2] h P) (K : ∀ h1 v, P h1 v → k_X (jX11_takeAwayVersions G l h0) h1 56 [(0, vR (some x0)), (1, vR x1), (2, vI x2), (3, vI x3), (4, vJ f1_0)] [vI v] Q) : k_X (jX11_takeAwayVersions G l h0) h 42 [(0, vR (some x0)), (1, vR x1), (2, vI x2), (3, vI x3)] [vR (some s0)] Q := by
  obtain ⟨h1, v, c, p⟩ := c
  obtain ⟨h', r, K, q⟩ := K h1 v p
  exact ⟨h', r, j_cast dX11_takeAwayVersions_42 kk_X11_170 o1 <| j_getf dX11_takeAwayVersions_45 kf_X11_172 o1 g1_0 <| j_lstore dX11_takeAwayVersions_48 (by decide) rfl <| j_lload dX11_takeAwayVersions_50 rfl <| j_iconst (v := 2) dX11_takeAwayVersions_52 (by decide) <| j_callS (v := some (vI v)) (as := [vJ f1_0, vI 2]) dX11_takeAwayVersions_53 kc_X11_176 rfl rfl (by decide) (Nat.le_of_ble_eq_true rfl) c K, q⟩
theorem bX11_takeAwayVersions_56 {h0 h : k_H} {Q : k_H → k_R → Prop} {x0 : Nat} {x1 : Option Nat} {x2 x3 s0 : Int32} {x4 : Int64} (K1 : ¬ (s0 = x2) → k_X (jX11_takeAwayVersions G l h0) h 69 [(0, vR (some x0)), (1, vR x1), (2, vI x2), (3, vI x3)] [] Q) (K2 : s0 = x2 → k_X (jX11_takeAwayVersions G l h0) h 60 [(0, vR (some x0)), (1, vR x1), (2, vI x2), (3, vI x3), (4, vJ x4)] [] Q) : k_X (jX11_takeAwayVersions G l h0) h 56 [(0, vR (some x0)), (1, vR x1), (2, vI x2), (3, vI x3), (4, vJ x4)] [vI s0] Q := by
  by_cases hc : s0 = x2
  · skip
    obtain ⟨h', r, K, q⟩ := K2 hc
    exact ⟨h', r, j_iload_n dX11_takeAwayVersions_56 rfl rfl <| j_icmp_ne_f dX11_takeAwayVersions_57 69 (by decide) hc K, q⟩
  · skip
    obtain ⟨h', r, K, q⟩ := K1 hc
    exact ⟨h', r, j_iload_n dX11_takeAwayVersions_56 rfl rfl <| j_icmp_ne_t (tgt := 69) dX11_takeAwayVersions_57 (by decide) hc (j_pick [0, 1, 2, 3] rfl K), q⟩
theorem bX11_takeAwayVersions_60 {h0 h : k_H} {Q : k_H → k_R → Prop} {x0 : Nat} {x1 : Option Nat} {x2 x3 : Int32} {x4 : Int64} (w : k_is h x0 14) {P : k_H → Prop} (c : k_ctv (tX11_keep G l) [vR (some x0), vR x1, vI 1, vJ x4, vI 0] h P) (K : ∀ h1, P h1 → k_X (jX11_takeAwayVersions G l h0) h1 69 [(0, vR (some x0)), (1, vR x1), (2, vI x2), (3, vI x3)] [] Q) : k_X (jX11_takeAwayVersions G l h0) h 60 [(0, vR (some x0)), (1, vR x1), (2, vI x2), (3, vI x3), (4, vJ x4)] [] Q := by
  obtain ⟨h1, c, p⟩ := c
  obtain ⟨h', r, K, q⟩ := K h1 p
  exact ⟨h', r, j_aload_n dX11_takeAwayVersions_60 rfl rfl <| j_aload_n dX11_takeAwayVersions_61 rfl rfl <| j_iconst (v := 1) dX11_takeAwayVersions_62 (by decide) <| j_lload dX11_takeAwayVersions_63 rfl <| j_iconst (v := 0) dX11_takeAwayVersions_65 (by decide) <| j_callV (v := none) (as := [vR x1, vI 1, vJ x4, vI 0]) dX11_takeAwayVersions_66 kc_X11_201 rfl rfl w (by decide) (Nat.le_of_ble_eq_true rfl) c (j_pick [0, 1, 2, 3] rfl K), q⟩
theorem bX11_takeAwayVersions_69 {h0 h : k_H} {Q : k_H → k_R → Prop} {x0 : Nat} {x1 : Option Nat} {x2 x3 : Int32} (K : k_X (jX11_takeAwayVersions G l h0) h 23 [(0, vR (some x0)), (1, vR x1), (2, vI x2), (3, vI (x3 + 1))] [] Q) : k_X (jX11_takeAwayVersions G l h0) h 69 [(0, vR (some x0)), (1, vR x1), (2, vI x2), (3, vI x3)] [] Q := by
  obtain ⟨h', r, K, q⟩ := K
  exact ⟨h', r, j_iinc (v := x3 + 1) dX11_takeAwayVersions_69 rfl (by decide) rfl rfl <| j_goto (tgt := 23) dX11_takeAwayVersions_72 (by decide) <| K, q⟩
theorem bX11_takeAwayVersions_75 {h0 h : k_H} {Q : k_H → k_R → Prop} {x1 : Option Nat} {x2 : Int32} {P : k_H → Int64 → Prop} (c : k_ctj (tX11_codeOf G l) [vI (-4), vI 0, vI x2] h P) (K : ∀ h1 v, P h1 v → k_X (jX11_takeAwayVersions G l h0) h1 83 [] [vJ v, vR x1] Q) : k_X (jX11_takeAwayVersions G l h0) h 75 [(1, vR x1), (2, vI x2)] [] Q := by
  obtain ⟨h1, v, c, p⟩ := c
  obtain ⟨h', r, K, q⟩ := K h1 v p
  exact ⟨h', r, j_aload_n dX11_takeAwayVersions_75 rfl rfl <| j_bipush (v := (-4)) dX11_takeAwayVersions_76 (by decide) <| j_iconst (v := 0) dX11_takeAwayVersions_78 (by decide) <| j_iload_n dX11_takeAwayVersions_79 rfl rfl <| j_callS (v := some (vJ v)) (as := [vI (-4), vI 0, vI x2]) dX11_takeAwayVersions_80 kc_X11_100 rfl rfl (by decide) (Nat.le_of_ble_eq_true rfl) c (j_pick [] rfl K), q⟩
theorem bX11_takeAwayVersions_83 {h0 h : k_H} {Q : k_H → k_R → Prop} {s0 : Nat} {s1 : Int64} (w : k_is h s0 12) {P : k_H → Prop} (c : k_ctv (tX9_forgetStamped G l) [vR (some s0), vJ s1] h P) (K : ∀ h1, P h1 → k_X (jX11_takeAwayVersions G l h0) h1 86 [] [] Q) : k_X (jX11_takeAwayVersions G l h0) h 83 [] [vJ s1, vR (some s0)] Q := by
  obtain ⟨h1, c, p⟩ := c
  obtain ⟨h', r, K, q⟩ := K h1 p
  exact ⟨h', r, j_callV (v := none) (as := [vJ s1]) dX11_takeAwayVersions_83 kc_X11_569 rfl rfl w (by decide) (Nat.le_of_ble_eq_true rfl) c K, q⟩
theorem bX11_takeAwayVersions_86 {h0 h : k_H} {Q : k_H → k_R → Prop} (q : Q h (.inl none)) : k_X (jX11_takeAwayVersions G l h0) h 86 [] [] Q := by
  exact ⟨_, _, j_vret dX11_takeAwayVersions_86 rfl, q⟩
theorem eX11_putThere {G : k_G} {l : Launch} (hfl : l.flags = flags0) {h : k_H} {Q : k_H → k_R → Prop} {x0 : Nat} {x1 : Option Nat} {x2 : Int32} {x3 : Int32} {x4 : Int32} (K : k_X (jX11_putThere G l h) h 0 [(0, vR (some x0)), (1, vR x1), (2, vI x2), (3, vI x3), (4, vI x4)] [] Q) : k_ct (tX11_putThere G l) [vR (some x0), vR x1, vI x2, vI x3, vI x4] h Q := by
  obtain ⟨h', r, K, q⟩ := K
  exact ⟨h', r, k_CtOf (by decide +kernel) (Nat.le_of_ble_eq_true rfl) K hfl, q⟩

theorem bX11_putThere_0 {h0 h : k_H} {Q : k_H → k_R → Prop} {x0 : Nat} {x1 : Option Nat} {x2 x3 x4 : Int32} (K1 : ¬ (x2 = 0) → k_X (jX11_putThere G l h0) h 22 [(0, vR (some x0)), (1, vR x1), (2, vI x2), (3, vI x3), (4, vI x4)] [] Q) (K2 : x2 = 0 → k_X (jX11_putThere G l h0) h 4 [(0, vR (some x0)), (1, vR x1), (3, vI x3), (4, vI x4)] [] Q) : k_X (jX11_putThere G l h0) h 0 [(0, vR (some x0)), (1, vR x1), (2, vI x2), (3, vI x3), (4, vI x4)] [] Q := by
  by_cases hc : x2 = 0
  · skip
    obtain ⟨h', r, K, q⟩ := K2 hc
    exact ⟨h', r, j_iload_n dX11_putThere_0 rfl rfl <| j_if_ne_f dX11_putThere_1 22 (by decide) hc (j_pick [0, 1, 3, 4] rfl K), q⟩
  · skip
    obtain ⟨h', r, K, q⟩ := K1 hc
    exact ⟨h', r, j_iload_n dX11_putThere_0 rfl rfl <| j_if_ne_t (tgt := 22) dX11_putThere_1 (by decide) hc K, q⟩
theorem bX11_putThere_4 {h0 h : k_H} {Q : k_H → k_R → Prop} {x0 : Nat} {x1 : Option Nat} {x3 x4 : Int32} {P : k_H → Int64 → Prop} (c : k_ctj (tX11_codeOf G l) [vI (-2), vI x4, vI x3] h P) (K : ∀ h1 v, P h1 v → k_X (jX11_putThere G l h0) h1 15 [] [vJ v, vI 0, vR x1, vR (some x0)] Q) : k_X (jX11_putThere G l h0) h 4 [(0, vR (some x0)), (1, vR x1), (3, vI x3), (4, vI x4)] [] Q := by
  obtain ⟨h1, v, c, p⟩ := c
  obtain ⟨h', r, K, q⟩ := K h1 v p
  exact ⟨h', r, j_aload_n dX11_putThere_4 rfl rfl <| j_aload_n dX11_putThere_5 rfl rfl <| j_iconst (v := 0) dX11_putThere_6 (by decide) <| j_bipush (v := (-2)) dX11_putThere_7 (by decide) <| j_iload dX11_putThere_9 rfl <| j_iload_n dX11_putThere_11 rfl rfl <| j_callS (v := some (vJ v)) (as := [vI (-2), vI x4, vI x3]) dX11_putThere_12 kc_X11_100 rfl rfl (by decide) (Nat.le_of_ble_eq_true rfl) c (j_pick [] rfl K), q⟩
theorem bX11_putThere_15 {h0 h : k_H} {Q : k_H → k_R → Prop} {s0 : Nat} {s1 : Option Nat} {s2 : Int32} {s3 : Int64} (w : k_is h s0 14) {P : k_H → Prop} (c : k_ctv (tX11_keep G l) [vR (some s0), vR s1, vI s2, vJ s3, vI 0] h P) (K : ∀ h1, P h1 → k_X (jX11_putThere G l h0) h1 19 [] [] Q) : k_X (jX11_putThere G l h0) h 15 [] [vJ s3, vI s2, vR s1, vR (some s0)] Q := by
  obtain ⟨h1, c, p⟩ := c
  obtain ⟨h', r, K, q⟩ := K h1 p
  exact ⟨h', r, j_iconst (v := 0) dX11_putThere_15 (by decide) <| j_callV (v := none) (as := [vR s1, vI s2, vJ s3, vI 0]) dX11_putThere_16 kc_X11_201 rfl rfl w (by decide) (Nat.le_of_ble_eq_true rfl) c K, q⟩
theorem bX11_putThere_19 {h0 h : k_H} {Q : k_H → k_R → Prop} (K : k_X (jX11_putThere G l h0) h 58 [] [] Q) : k_X (jX11_putThere G l h0) h 19 [] [] Q := by
  obtain ⟨h', r, K, q⟩ := K
  exact ⟨h', r, j_goto (tgt := 58) dX11_putThere_19 (by decide) <| K, q⟩
theorem bX11_putThere_22 {h0 h : k_H} {Q : k_H → k_R → Prop} {x0 : Nat} {x1 : Option Nat} {x2 x3 x4 : Int32} (K1 : ¬ (x2 = 1) → k_X (jX11_putThere G l h0) h 44 [(1, vR x1), (3, vI x3), (4, vI x4)] [] Q) (K2 : x2 = 1 → k_X (jX11_putThere G l h0) h 27 [(0, vR (some x0)), (1, vR x1), (4, vI x4)] [] Q) : k_X (jX11_putThere G l h0) h 22 [(0, vR (some x0)), (1, vR x1), (2, vI x2), (3, vI x3), (4, vI x4)] [] Q := by
  by_cases hc : x2 = 1
  · skip
    obtain ⟨h', r, K, q⟩ := K2 hc
    exact ⟨h', r, j_iload_n dX11_putThere_22 rfl rfl <| j_iconst (v := 1) dX11_putThere_23 (by decide) <| j_icmp_ne_f dX11_putThere_24 44 (by decide) hc (j_pick [0, 1, 4] rfl K), q⟩
  · skip
    obtain ⟨h', r, K, q⟩ := K1 hc
    exact ⟨h', r, j_iload_n dX11_putThere_22 rfl rfl <| j_iconst (v := 1) dX11_putThere_23 (by decide) <| j_icmp_ne_t (tgt := 44) dX11_putThere_24 (by decide) hc (j_pick [1, 3, 4] rfl K), q⟩
theorem bX11_putThere_27 {h0 h : k_H} {Q : k_H → k_R → Prop} {x0 : Nat} {x1 : Option Nat} {x4 : Int32} {P : k_H → Int64 → Prop} (c : k_ctj (tX11_codeOf_ G l) [vI (-3), vI x4] h P) (K : ∀ h1 v, P h1 v → k_X (jX11_putThere G l h0) h1 37 [] [vJ v, vI 2, vR x1, vR (some x0)] Q) : k_X (jX11_putThere G l h0) h 27 [(0, vR (some x0)), (1, vR x1), (4, vI x4)] [] Q := by
  obtain ⟨h1, v, c, p⟩ := c
  obtain ⟨h', r, K, q⟩ := K h1 v p
  exact ⟨h', r, j_aload_n dX11_putThere_27 rfl rfl <| j_aload_n dX11_putThere_28 rfl rfl <| j_iconst (v := 2) dX11_putThere_29 (by decide) <| j_bipush (v := (-3)) dX11_putThere_30 (by decide) <| j_iload dX11_putThere_32 rfl <| j_callS (v := some (vJ v)) (as := [vI (-3), vI x4]) dX11_putThere_34 kc_X11_302 rfl rfl (by decide) (Nat.le_of_ble_eq_true rfl) c (j_pick [] rfl K), q⟩
theorem bX11_putThere_37 {h0 h : k_H} {Q : k_H → k_R → Prop} {s0 : Nat} {s1 : Option Nat} {s2 : Int32} {s3 : Int64} (w : k_is h s0 14) {P : k_H → Prop} (c : k_ctv (tX11_keep G l) [vR (some s0), vR s1, vI s2, vJ s3, vI 1] h P) (K : ∀ h1, P h1 → k_X (jX11_putThere G l h0) h1 41 [] [] Q) : k_X (jX11_putThere G l h0) h 37 [] [vJ s3, vI s2, vR s1, vR (some s0)] Q := by
  obtain ⟨h1, c, p⟩ := c
  obtain ⟨h', r, K, q⟩ := K h1 p
  exact ⟨h', r, j_iconst (v := 1) dX11_putThere_37 (by decide) <| j_callV (v := none) (as := [vR s1, vI s2, vJ s3, vI 1]) dX11_putThere_38 kc_X11_201 rfl rfl w (by decide) (Nat.le_of_ble_eq_true rfl) c K, q⟩
theorem bX11_putThere_41 {h0 h : k_H} {Q : k_H → k_R → Prop} (K : k_X (jX11_putThere G l h0) h 58 [] [] Q) : k_X (jX11_putThere G l h0) h 41 [] [] Q := by
  obtain ⟨h', r, K, q⟩ := K
  exact ⟨h', r, j_goto (tgt := 58) dX11_putThere_41 (by decide) <| K, q⟩
theorem bX11_putThere_44 {h0 h : k_H} {Q : k_H → k_R → Prop} {x1 : Option Nat} {x3 x4 : Int32} {P : k_H → Int64 → Prop} (c : k_ctj (tX11_codeOf G l) [vI (-4), vI 0, vI x3] h P) (K : ∀ h1 v, P h1 v → k_X (jX11_putThere G l h0) h1 52 [(4, vI x4)] [vJ v, vR x1] Q) : k_X (jX11_putThere G l h0) h 44 [(1, vR x1), (3, vI x3), (4, vI x4)] [] Q := by
  obtain ⟨h1, v, c, p⟩ := c
  obtain ⟨h', r, K, q⟩ := K h1 v p
  exact ⟨h', r, j_aload_n dX11_putThere_44 rfl rfl <| j_bipush (v := (-4)) dX11_putThere_45 (by decide) <| j_iconst (v := 0) dX11_putThere_47 (by decide) <| j_iload_n dX11_putThere_48 rfl rfl <| j_callS (v := some (vJ v)) (as := [vI (-4), vI 0, vI x3]) dX11_putThere_49 kc_X11_100 rfl rfl (by decide) (Nat.le_of_ble_eq_true rfl) c (j_pick [2] rfl K), q⟩
theorem bX11_putThere_52 {h0 h : k_H} {Q : k_H → k_R → Prop} {x4 : Int32} {s0 : Nat} {s1 : Int64} (w : k_is h s0 12) {P : k_H → Prop} (c : k_ctv (tX9_keepStamped G l) [vR (some s0), vJ s1, vI 1, vI x4] h P) (K : ∀ h1, P h1 → k_X (jX11_putThere G l h0) h1 58 [] [] Q) : k_X (jX11_putThere G l h0) h 52 [(4, vI x4)] [vJ s1, vR (some s0)] Q := by
  obtain ⟨h1, c, p⟩ := c
  obtain ⟨h', r, K, q⟩ := K h1 p
  exact ⟨h', r, j_iconst (v := 1) dX11_putThere_52 (by decide) <| j_iload dX11_putThere_53 rfl <| j_callV (v := none) (as := [vJ s1, vI 1, vI x4]) dX11_putThere_55 kc_X11_197 rfl rfl w (by decide) (Nat.le_of_ble_eq_true rfl) c (j_pick [] rfl K), q⟩
theorem bX11_putThere_58 {h0 h : k_H} {Q : k_H → k_R → Prop} (q : Q h (.inl none)) : k_X (jX11_putThere G l h0) h 58 [] [] Q := by
  exact ⟨_, _, j_vret dX11_putThere_58 rfl, q⟩
theorem eX11_buildBehind {G : k_G} {l : Launch} (hfl : l.flags = flags0) {h : k_H} {Q : k_H → k_R → Prop} {x0 : Nat} {x1 : Int32} {x2 : Int32} {x3 : Int32} (K : k_X (jX11_buildBehind G l h) h 0 [(0, vR (some x0)), (1, vI x1), (2, vI x2), (3, vI x3)] [] Q) : k_ct (tX11_buildBehind G l) [vR (some x0), vI x1, vI x2, vI x3] h Q := by
  obtain ⟨h', r, K, q⟩ := K
  exact ⟨h', r, k_CtOf (by decide +kernel) (Nat.le_of_ble_eq_true rfl) K hfl, q⟩

theorem bX11_buildBehind_0 {h0 h : k_H} {Q : k_H → k_R → Prop} {x0 f1_0 : Nat} {x1 x2 x3 : Int32} {fs1 : List k_V} (o1 : h.1 x0 = some (k_o 14 fs1)) (g1_0 : fs1[0]? = some (vR (some f1_0))) (w : k_is h f1_0 11) {P : k_H → Prop} (c : k_ctv (tX8_advance G l) [vR (some f1_0), vI 1] h P) (K : ∀ h1, P h1 → k_X (jX11_buildBehind G l h0) h1 8 [(0, vR (some x0)), (1, vI x1), (2, vI x2), (3, vI x3)] [] Q) : k_X (jX11_buildBehind G l h0) h 0 [(0, vR (some x0)), (1, vI x1), (2, vI x2), (3, vI x3)] [] Q := by
  obtain ⟨h1, c, p⟩ := c
  obtain ⟨h', r, K, q⟩ := K h1 p
  exact ⟨h', r, j_aload_n dX11_buildBehind_0 rfl rfl <| j_getf dX11_buildBehind_1 kf_X11_14 o1 g1_0 <| j_iconst (v := 1) dX11_buildBehind_4 (by decide) <| j_callV (v := none) (as := [vI 1]) dX11_buildBehind_5 kc_X11_223 rfl rfl w (by decide) (Nat.le_of_ble_eq_true rfl) c K, q⟩
theorem bX11_buildBehind_8 {h0 h : k_H} {Q : k_H → k_R → Prop} {x0 : Nat} {x1 x2 x3 : Int32} (K : k_X (jX11_buildBehind G l h0) h 26 [(0, vR (some x0)), (1, vI x1), (3, vI x3), (4, vI 0), (5, vI x2), (6, vI 0), (7, vI (if (x2 + 1) < 0 then 0 else (x2 + 1)))] [] Q) : k_X (jX11_buildBehind G l h0) h 8 [(0, vR (some x0)), (1, vI x1), (2, vI x2), (3, vI x3)] [] Q := by
  obtain ⟨h', r, K, q⟩ := K
  exact ⟨h', r, j_iconst (v := 0) dX11_buildBehind_8 (by decide) <| j_istore dX11_buildBehind_9 (by decide) rfl <| j_iload_n dX11_buildBehind_11 rfl rfl <| j_istore dX11_buildBehind_12 (by decide) rfl <| j_iconst (v := 0) dX11_buildBehind_14 (by decide) <| j_istore dX11_buildBehind_15 (by decide) rfl <| j_iload_n dX11_buildBehind_17 rfl rfl <| j_iconst (v := 1) dX11_buildBehind_18 (by decide) <| j_iadd dX11_buildBehind_19 <| j_iconst (v := 0) dX11_buildBehind_20 (by decide) <| j_mmax dX11_buildBehind_21 km_X11_572 km_st_max km_init km_co_max (by decide) (Nat.le_of_ble_eq_true rfl) <| j_istore dX11_buildBehind_24 (by decide) rfl <| (j_pick [0, 1, 3, 4, 5, 6, 7] rfl K), q⟩
theorem bX11_buildBehind_26 {h0 h : k_H} {Q : k_H → k_R → Prop} {x0 : Nat} {x1 x3 x4 x5 x6 x7 : Int32} (K1 : 99 < x7 → k_X (jX11_buildBehind G l h0) h 101 [(0, vR (some x0)), (1, vI x1), (4, vI x4), (5, vI x5), (6, vI x6)] [] Q) (K2 : ¬ (99 < x7) → k_X (jX11_buildBehind G l h0) h 33 [(0, vR (some x0)), (1, vI x1), (3, vI x3), (4, vI x4), (5, vI x5), (6, vI x6), (7, vI x7)] [] Q) : k_X (jX11_buildBehind G l h0) h 26 [(0, vR (some x0)), (1, vI x1), (3, vI x3), (4, vI x4), (5, vI x5), (6, vI x6), (7, vI x7)] [] Q := by
  by_cases hc : 99 < x7
  · skip
    obtain ⟨h', r, K, q⟩ := K1 hc
    exact ⟨h', r, j_iload dX11_buildBehind_26 rfl <| j_bipush (v := 99) dX11_buildBehind_28 (by decide) <| j_icmp_gt_t (tgt := 101) dX11_buildBehind_30 (by decide) hc (j_pick [0, 1, 3, 4, 5] rfl K), q⟩
  · skip
    obtain ⟨h', r, K, q⟩ := K2 hc
    exact ⟨h', r, j_iload dX11_buildBehind_26 rfl <| j_bipush (v := 99) dX11_buildBehind_28 (by decide) <| j_icmp_gt_f dX11_buildBehind_30 101 (by decide) hc K, q⟩
theorem bX11_buildBehind_33 {h0 h : k_H} {Q : k_H → k_R → Prop} {x0 : Nat} {x1 x3 x4 x5 x6 x7 : Int32} (K1 : ¬ (x6 = 0) → k_X (jX11_buildBehind G l h0) h 101 [(0, vR (some x0)), (1, vI x1), (4, vI x4), (5, vI x5), (6, vI x6)] [] Q) (K2 : x6 = 0 → k_X (jX11_buildBehind G l h0) h 38 [(0, vR (some x0)), (1, vI x1), (3, vI x3), (4, vI x4), (5, vI x5), (6, vI x6), (7, vI x7)] [] Q) : k_X (jX11_buildBehind G l h0) h 33 [(0, vR (some x0)), (1, vI x1), (3, vI x3), (4, vI x4), (5, vI x5), (6, vI x6), (7, vI x7)] [] Q := by
  by_cases hc : x6 = 0
  · skip
    obtain ⟨h', r, K, q⟩ := K2 hc
    exact ⟨h', r, j_iload dX11_buildBehind_33 rfl <| j_if_ne_f dX11_buildBehind_35 101 (by decide) hc K, q⟩
  · skip
    obtain ⟨h', r, K, q⟩ := K1 hc
    exact ⟨h', r, j_iload dX11_buildBehind_33 rfl <| j_if_ne_t (tgt := 101) dX11_buildBehind_35 (by decide) hc (j_pick [0, 1, 3, 4, 5] rfl K), q⟩
theorem bX11_buildBehind_38 {h0 h : k_H} {Q : k_H → k_R → Prop} {x0 : Nat} {x1 x3 x4 x5 x6 x7 : Int32} {f1_0 : Option Nat} {fs1 : List k_V} (o1 : h.1 x0 = some (k_o 14 fs1)) (g1_0 : fs1[0]? = some (vR f1_0)) {P : k_H → Int64 → Prop} (c : k_ctj (tX11_codeOf_ G l) [vI (-1), vI x7] h P) (K : ∀ h1 v, P h1 v → k_X (jX11_buildBehind G l h0) h1 48 [(0, vR (some x0)), (1, vI x1), (3, vI x3), (4, vI x4), (5, vI x5), (6, vI x6), (7, vI x7)] [vJ v, vR f1_0] Q) : k_X (jX11_buildBehind G l h0) h 38 [(0, vR (some x0)), (1, vI x1), (3, vI x3), (4, vI x4), (5, vI x5), (6, vI x6), (7, vI x7)] [] Q := by
  obtain ⟨h1, v, c, p⟩ := c
  obtain ⟨h', r, K, q⟩ := K h1 v p
  exact ⟨h', r, j_aload_n dX11_buildBehind_38 rfl rfl <| j_getf dX11_buildBehind_39 kf_X11_14 o1 g1_0 <| j_iconst (v := (-1)) dX11_buildBehind_42 (by decide) <| j_iload dX11_buildBehind_43 rfl <| j_callS (v := some (vJ v)) (as := [vI (-1), vI x7]) dX11_buildBehind_45 kc_X11_302 rfl rfl (by decide) (Nat.le_of_ble_eq_true rfl) c K, q⟩
theorem bX11_buildBehind_48 {h0 h : k_H} {Q : k_H → k_R → Prop} {x0 s0 : Nat} {x1 x3 x4 x5 x6 x7 : Int32} {s1 : Int64} (w : k_is h s0 11) {P : k_H → Int32 → Prop} (c : k_cti (tX8_valueNow G l) [vR (some s0), vJ s1] h P) (K : ∀ h1 v, P h1 v → k_X (jX11_buildBehind G l h0) h1 51 [(0, vR (some x0)), (1, vI x1), (3, vI x3), (4, vI x4), (5, vI x5), (6, vI x6), (7, vI x7)] [vI v] Q) : k_X (jX11_buildBehind G l h0) h 48 [(0, vR (some x0)), (1, vI x1), (3, vI x3), (4, vI x4), (5, vI x5), (6, vI x6), (7, vI x7)] [vJ s1, vR (some s0)] Q := by
  obtain ⟨h1, v, c, p⟩ := c
  obtain ⟨h', r, K, q⟩ := K h1 v p
  exact ⟨h', r, j_callV (v := some (vI v)) (as := [vJ s1]) dX11_buildBehind_48 kc_X11_304 rfl rfl w (by decide) (Nat.le_of_ble_eq_true rfl) c K, q⟩
theorem bX11_buildBehind_51 {h0 h : k_H} {Q : k_H → k_R → Prop} {x0 : Nat} {x1 x3 x4 x5 x6 x7 s0 : Int32} (K1 : s0 = (-2147483648) → k_X (jX11_buildBehind G l h0) h 72 [(0, vR (some x0)), (1, vI x1), (3, vI x3), (4, vI x4), (5, vI x5), (6, vI x6), (7, vI x7), (8, vI s0)] [] Q) (K2 : ¬ (s0 = (-2147483648)) → k_X (jX11_buildBehind G l h0) h 60 [(0, vR (some x0)), (1, vI x1), (3, vI x3), (4, vI x4), (5, vI x5), (6, vI x6), (7, vI x7), (8, vI s0)] [] Q) : k_X (jX11_buildBehind G l h0) h 51 [(0, vR (some x0)), (1, vI x1), (3, vI x3), (4, vI x4), (5, vI x5), (6, vI x6), (7, vI x7)] [vI s0] Q := by
  by_cases hc : s0 = (-2147483648)
  · skip
    obtain ⟨h', r, K, q⟩ := K1 hc
    exact ⟨h', r, j_istore dX11_buildBehind_51 (by decide) rfl <| j_iload dX11_buildBehind_53 rfl <| j_ldc (v := (-2147483648)) dX11_buildBehind_55 ki_X11_62 <| j_icmp_eq_t (tgt := 72) dX11_buildBehind_57 (by decide) hc K, q⟩
  · skip
    obtain ⟨h', r, K, q⟩ := K2 hc
    exact ⟨h', r, j_istore dX11_buildBehind_51 (by decide) rfl <| j_iload dX11_buildBehind_53 rfl <| j_ldc (v := (-2147483648)) dX11_buildBehind_55 ki_X11_62 <| j_icmp_eq_f dX11_buildBehind_57 72 (by decide) hc K, q⟩
theorem bX11_buildBehind_60 {h0 h : k_H} {Q : k_H → k_R → Prop} {x0 : Nat} {x1 x3 x4 x5 x6 x7 x8 : Int32} (K1 : ¬ (x4 = x3) → k_X (jX11_buildBehind G l h0) h 72 [(0, vR (some x0)), (1, vI x1), (3, vI x3), (4, vI x4), (5, vI x5), (6, vI x6), (7, vI x7), (8, vI x8)] [] Q) (K2 : x4 = x3 → k_X (jX11_buildBehind G l h0) h 66 [(0, vR (some x0)), (1, vI x1), (3, vI x3), (4, vI x4), (5, vI x5), (7, vI x7)] [] Q) : k_X (jX11_buildBehind G l h0) h 60 [(0, vR (some x0)), (1, vI x1), (3, vI x3), (4, vI x4), (5, vI x5), (6, vI x6), (7, vI x7), (8, vI x8)] [] Q := by
  by_cases hc : x4 = x3
  · skip
    obtain ⟨h', r, K, q⟩ := K2 hc
    exact ⟨h', r, j_iload dX11_buildBehind_60 rfl <| j_iload_n dX11_buildBehind_62 rfl rfl <| j_icmp_ne_f dX11_buildBehind_63 72 (by decide) hc (j_pick [0, 1, 2, 3, 4, 6] rfl K), q⟩
  · skip
    obtain ⟨h', r, K, q⟩ := K1 hc
    exact ⟨h', r, j_iload dX11_buildBehind_60 rfl <| j_iload_n dX11_buildBehind_62 rfl rfl <| j_icmp_ne_t (tgt := 72) dX11_buildBehind_63 (by decide) hc K, q⟩
theorem bX11_buildBehind_66 {h0 h : k_H} {Q : k_H → k_R → Prop} {x0 : Nat} {x1 x3 x4 x5 x7 : Int32} (K : k_X (jX11_buildBehind G l h0) h 95 [(0, vR (some x0)), (1, vI x1), (3, vI x3), (4, vI x4), (5, vI x5), (6, vI 1), (7, vI x7)] [] Q) : k_X (jX11_buildBehind G l h0) h 66 [(0, vR (some x0)), (1, vI x1), (3, vI x3), (4, vI x4), (5, vI x5), (7, vI x7)] [] Q := by
  obtain ⟨h', r, K, q⟩ := K
  exact ⟨h', r, j_iconst (v := 1) dX11_buildBehind_66 (by decide) <| j_istore dX11_buildBehind_67 (by decide) rfl <| j_goto (tgt := 95) dX11_buildBehind_69 (by decide) <| K, q⟩
theorem bX11_buildBehind_72 {h0 h : k_H} {Q : k_H → k_R → Prop} {x0 : Nat} {x1 x3 x4 x5 x6 x7 x8 : Int32} (K1 : x8 = (-2147483648) → k_X (jX11_buildBehind G l h0) h 95 [(0, vR (some x0)), (1, vI x1), (3, vI x3), (4, vI x4), (5, vI x5), (6, vI x6), (7, vI x7)] [] Q) (K2 : ¬ (x8 = (-2147483648)) → k_X (jX11_buildBehind G l h0) h 79 [(0, vR (some x0)), (1, vI x1), (3, vI x3), (4, vI x4), (6, vI x6), (7, vI x7), (8, vI x8)] [] Q) : k_X (jX11_buildBehind G l h0) h 72 [(0, vR (some x0)), (1, vI x1), (3, vI x3), (4, vI x4), (5, vI x5), (6, vI x6), (7, vI x7), (8, vI x8)] [] Q := by
  by_cases hc : x8 = (-2147483648)
  · skip
    obtain ⟨h', r, K, q⟩ := K1 hc
    exact ⟨h', r, j_iload dX11_buildBehind_72 rfl <| j_ldc (v := (-2147483648)) dX11_buildBehind_74 ki_X11_62 <| j_icmp_eq_t (tgt := 95) dX11_buildBehind_76 (by decide) hc (j_pick [0, 1, 2, 3, 4, 5, 6] rfl K), q⟩
  · skip
    obtain ⟨h', r, K, q⟩ := K2 hc
    exact ⟨h', r, j_iload dX11_buildBehind_72 rfl <| j_ldc (v := (-2147483648)) dX11_buildBehind_74 ki_X11_62 <| j_icmp_eq_f dX11_buildBehind_76 95 (by decide) hc (j_pick [0, 1, 2, 3, 5, 6, 7] rfl K), q⟩
theorem bX11_buildBehind_79 {h0 h : k_H} {Q : k_H → k_R → Prop} {x0 : Nat} {x1 x3 x4 x6 x7 x8 : Int32} (w : k_is h x0 14) {P : k_H → Prop} (c : k_ctv (tX11_putNow G l) [vR (some x0), vI x1, vI x7, vI x8] h P) (K : ∀ h1, P h1 → k_X (jX11_buildBehind G l h0) h1 88 [(0, vR (some x0)), (1, vI x1), (3, vI x3), (4, vI x4), (6, vI x6), (7, vI x7)] [] Q) : k_X (jX11_buildBehind G l h0) h 79 [(0, vR (some x0)), (1, vI x1), (3, vI x3), (4, vI x4), (6, vI x6), (7, vI x7), (8, vI x8)] [] Q := by
  obtain ⟨h1, c, p⟩ := c
  obtain ⟨h', r, K, q⟩ := K h1 p
  exact ⟨h', r, j_aload_n dX11_buildBehind_79 rfl rfl <| j_iload_n dX11_buildBehind_80 rfl rfl <| j_iload dX11_buildBehind_81 rfl <| j_iload dX11_buildBehind_83 rfl <| j_callV (v := none) (as := [vI x1, vI x7, vI x8]) dX11_buildBehind_85 kc_X11_574 rfl rfl w (by decide) (Nat.le_of_ble_eq_true rfl) c (j_pick [0, 1, 2, 3, 4, 5] rfl K), q⟩
theorem bX11_buildBehind_88 {h0 h : k_H} {Q : k_H → k_R → Prop} {x0 : Nat} {x1 x3 x4 x6 x7 : Int32} (K : k_X (jX11_buildBehind G l h0) h 95 [(0, vR (some x0)), (1, vI x1), (3, vI x3), (4, vI (x4 + 1)), (5, vI x7), (6, vI x6), (7, vI x7)] [] Q) : k_X (jX11_buildBehind G l h0) h 88 [(0, vR (some x0)), (1, vI x1), (3, vI x3), (4, vI x4), (6, vI x6), (7, vI x7)] [] Q := by
  obtain ⟨h', r, K, q⟩ := K
  exact ⟨h', r, j_iload dX11_buildBehind_88 rfl <| j_istore dX11_buildBehind_90 (by decide) rfl <| j_iinc (v := x4 + 1) dX11_buildBehind_92 rfl (by decide) rfl rfl <| K, q⟩
theorem bX11_buildBehind_95 {h0 h : k_H} {Q : k_H → k_R → Prop} {x0 : Nat} {x1 x3 x4 x5 x6 x7 : Int32} (K : k_X (jX11_buildBehind G l h0) h 26 [(0, vR (some x0)), (1, vI x1), (3, vI x3), (4, vI x4), (5, vI x5), (6, vI x6), (7, vI (x7 + 1))] [] Q) : k_X (jX11_buildBehind G l h0) h 95 [(0, vR (some x0)), (1, vI x1), (3, vI x3), (4, vI x4), (5, vI x5), (6, vI x6), (7, vI x7)] [] Q := by
  obtain ⟨h', r, K, q⟩ := K
  exact ⟨h', r, j_iinc (v := x7 + 1) dX11_buildBehind_95 rfl (by decide) rfl rfl <| j_goto (tgt := 26) dX11_buildBehind_98 (by decide) <| K, q⟩
theorem bX11_buildBehind_101 {h0 h : k_H} {Q : k_H → k_R → Prop} {x0 : Nat} {x1 x4 x5 x6 : Int32} {f1_0 : Option Nat} {fs1 : List k_V} (o1 : h.1 x0 = some (k_o 14 fs1)) (g1_0 : fs1[0]? = some (vR f1_0)) {P : k_H → Int64 → Prop} (c : k_ctj (tX11_codeOf_ G l) [vI (-6), vI x1] h P) (K : ∀ h1 v, P h1 v → k_X (jX11_buildBehind G l h0) h1 112 [(0, vR (some x0)), (4, vI x4), (5, vI x5), (6, vI x6)] [vJ v, vI 0, vR f1_0] Q) : k_X (jX11_buildBehind G l h0) h 101 [(0, vR (some x0)), (1, vI x1), (4, vI x4), (5, vI x5), (6, vI x6)] [] Q := by
  obtain ⟨h1, v, c, p⟩ := c
  obtain ⟨h', r, K, q⟩ := K h1 v p
  exact ⟨h', r, j_aload_n dX11_buildBehind_101 rfl rfl <| j_getf dX11_buildBehind_102 kf_X11_14 o1 g1_0 <| j_iconst (v := 0) dX11_buildBehind_105 (by decide) <| j_bipush (v := (-6)) dX11_buildBehind_106 (by decide) <| j_iload_n dX11_buildBehind_108 rfl rfl <| j_callS (v := some (vJ v)) (as := [vI (-6), vI x1]) dX11_buildBehind_109 kc_X11_302 rfl rfl (by decide) (Nat.le_of_ble_eq_true rfl) c (j_pick [0, 2, 3, 4] rfl K), q⟩
theorem bX11_buildBehind_112 {h0 h : k_H} {Q : k_H → k_R → Prop} {x0 : Nat} {x4 x5 x6 s1 : Int32} {s0 : Option Nat} {s2 : Int64} (K1 : x6 = 0 → k_X (jX11_buildBehind G l h0) h 122 [(0, vR (some x0)), (4, vI x4)] [vJ s2, vI s1, vR s0] Q) (K2 : ¬ (x6 = 0) → k_X (jX11_buildBehind G l h0) h 117 [(0, vR (some x0)), (4, vI x4), (5, vI x5)] [vJ s2, vI s1, vR s0] Q) : k_X (jX11_buildBehind G l h0) h 112 [(0, vR (some x0)), (4, vI x4), (5, vI x5), (6, vI x6)] [vJ s2, vI s1, vR s0] Q := by
  by_cases hc : x6 = 0
  · skip
    obtain ⟨h', r, K, q⟩ := K1 hc
    exact ⟨h', r, j_iload dX11_buildBehind_112 rfl <| j_if_eq_t (tgt := 122) dX11_buildBehind_114 (by decide) hc (j_pick [0, 1] rfl K), q⟩
  · skip
    obtain ⟨h', r, K, q⟩ := K2 hc
    exact ⟨h', r, j_iload dX11_buildBehind_112 rfl <| j_if_eq_f dX11_buildBehind_114 122 (by decide) hc (j_pick [0, 1, 2] rfl K), q⟩
theorem bX11_buildBehind_117 {h0 h : k_H} {Q : k_H → k_R → Prop} {x0 : Nat} {x4 x5 s1 : Int32} {s0 : Option Nat} {s2 : Int64} (K : k_X (jX11_buildBehind G l h0) h 125 [(0, vR (some x0)), (4, vI x4)] [vI x5, vJ s2, vI s1, vR s0] Q) : k_X (jX11_buildBehind G l h0) h 117 [(0, vR (some x0)), (4, vI x4), (5, vI x5)] [vJ s2, vI s1, vR s0] Q := by
  obtain ⟨h', r, K, q⟩ := K
  exact ⟨h', r, j_iload dX11_buildBehind_117 rfl <| j_goto (tgt := 125) dX11_buildBehind_119 (by decide) <| (j_pick [0, 1] rfl K), q⟩
theorem bX11_buildBehind_122 {h0 h : k_H} {Q : k_H → k_R → Prop} {x0 : Nat} {x4 s1 : Int32} {s0 : Option Nat} {s2 : Int64} (K : k_X (jX11_buildBehind G l h0) h 125 [(0, vR (some x0)), (4, vI x4)] [vI 1000, vJ s2, vI s1, vR s0] Q) : k_X (jX11_buildBehind G l h0) h 122 [(0, vR (some x0)), (4, vI x4)] [vJ s2, vI s1, vR s0] Q := by
  obtain ⟨h', r, K, q⟩ := K
  exact ⟨h', r, j_sipush (v := 1000) dX11_buildBehind_122 (by decide) <| K, q⟩
theorem bX11_buildBehind_125 {h0 h : k_H} {Q : k_H → k_R → Prop} {x0 s0 : Nat} {x4 s1 s3 : Int32} {s2 : Int64} (w : k_is h s0 11) {P : k_H → Prop} (c : k_ctv (tX8_alter G l) [vR (some s0), vI s1, vJ s2, vI s3] h P) (K : ∀ h1, P h1 → k_X (jX11_buildBehind G l h0) h1 128 [(0, vR (some x0)), (4, vI x4)] [] Q) : k_X (jX11_buildBehind G l h0) h 125 [(0, vR (some x0)), (4, vI x4)] [vI s3, vJ s2, vI s1, vR (some s0)] Q := by
  obtain ⟨h1, c, p⟩ := c
  obtain ⟨h', r, K, q⟩ := K h1 p
  exact ⟨h', r, j_callV (v := none) (as := [vI s1, vJ s2, vI s3]) dX11_buildBehind_125 kc_X11_325 rfl rfl w (by decide) (Nat.le_of_ble_eq_true rfl) c K, q⟩
theorem bX11_buildBehind_128 {h0 h : k_H} {Q : k_H → k_R → Prop} {x0 : Nat} {x4 : Int32} (w : k_is h x0 14) {P : k_H → Prop} (c : k_ctv (tX11_closeCommit G l) [vR (some x0)] h P) (K : ∀ h1, P h1 → k_X (jX11_buildBehind G l h0) h1 132 [(4, vI x4)] [] Q) : k_X (jX11_buildBehind G l h0) h 128 [(0, vR (some x0)), (4, vI x4)] [] Q := by
  obtain ⟨h1, c, p⟩ := c
  obtain ⟨h', r, K, q⟩ := K h1 p
  exact ⟨h', r, j_aload_n dX11_buildBehind_128 rfl rfl <| j_callV (v := none) (as := []) dX11_buildBehind_129 kc_X11_329 rfl rfl w (by decide) (Nat.le_of_ble_eq_true rfl) c (j_pick [1] rfl K), q⟩
theorem bX11_buildBehind_132 {h0 h : k_H} {Q : k_H → k_R → Prop} {x4 : Int32} (q : Q h (.inl (some (vI x4)))) : k_X (jX11_buildBehind G l h0) h 132 [(4, vI x4)] [] Q := by
  exact ⟨_, _, j_iload dX11_buildBehind_132 rfl <| j_iret dX11_buildBehind_134 rfl, q⟩
theorem eX11_putNow {G : k_G} {l : Launch} (hfl : l.flags = flags0) {h : k_H} {Q : k_H → k_R → Prop} {x0 : Nat} {x1 : Int32} {x2 : Int32} {x3 : Int32} (K : k_X (jX11_putNow G l h) h 0 [(0, vR (some x0)), (1, vI x1), (2, vI x2), (3, vI x3)] [] Q) : k_ct (tX11_putNow G l) [vR (some x0), vI x1, vI x2, vI x3] h Q := by
  obtain ⟨h', r, K, q⟩ := K
  exact ⟨h', r, k_CtOf (by decide +kernel) (Nat.le_of_ble_eq_true rfl) K hfl, q⟩

theorem bX11_putNow_0 {h0 h : k_H} {Q : k_H → k_R → Prop} {x0 : Nat} {x1 x2 x3 : Int32} (K1 : ¬ (x1 = 0) → k_X (jX11_putNow G l h0) h 23 [(0, vR (some x0)), (1, vI x1), (2, vI x2), (3, vI x3)] [] Q) (K2 : x1 = 0 → k_X (jX11_putNow G l h0) h 4 [(0, vR (some x0)), (2, vI x2), (3, vI x3)] [] Q) : k_X (jX11_putNow G l h0) h 0 [(0, vR (some x0)), (1, vI x1), (2, vI x2), (3, vI x3)] [] Q := by
  by_cases hc : x1 = 0
  · skip
    obtain ⟨h', r, K, q⟩ := K2 hc
    exact ⟨h', r, j_iload_n dX11_putNow_0 rfl rfl <| j_if_ne_f dX11_putNow_1 23 (by decide) hc (j_pick [0, 2, 3] rfl K), q⟩
  · skip
    obtain ⟨h', r, K, q⟩ := K1 hc
    exact ⟨h', r, j_iload_n dX11_putNow_0 rfl rfl <| j_if_ne_t (tgt := 23) dX11_putNow_1 (by decide) hc K, q⟩
theorem bX11_putNow_4 {h0 h : k_H} {Q : k_H → k_R → Prop} {x0 : Nat} {x2 x3 : Int32} {f1_0 : Option Nat} {fs1 : List k_V} (o1 : h.1 x0 = some (k_o 14 fs1)) (g1_0 : fs1[0]? = some (vR f1_0)) {P : k_H → Int64 → Prop} (c : k_ctj (tX11_codeOf G l) [vI (-2), vI x3, vI x2] h P) (K : ∀ h1 v, P h1 v → k_X (jX11_putNow G l h0) h1 16 [] [vJ v, vI 0, vR f1_0] Q) : k_X (jX11_putNow G l h0) h 4 [(0, vR (some x0)), (2, vI x2), (3, vI x3)] [] Q := by
  obtain ⟨h1, v, c, p⟩ := c
  obtain ⟨h', r, K, q⟩ := K h1 v p
  exact ⟨h', r, j_aload_n dX11_putNow_4 rfl rfl <| j_getf dX11_putNow_5 kf_X11_14 o1 g1_0 <| j_iconst (v := 0) dX11_putNow_8 (by decide) <| j_bipush (v := (-2)) dX11_putNow_9 (by decide) <| j_iload_n dX11_putNow_11 rfl rfl <| j_iload_n dX11_putNow_12 rfl rfl <| j_callS (v := some (vJ v)) (as := [vI (-2), vI x3, vI x2]) dX11_putNow_13 kc_X11_100 rfl rfl (by decide) (Nat.le_of_ble_eq_true rfl) c (j_pick [] rfl K), q⟩
theorem bX11_putNow_16 {h0 h : k_H} {Q : k_H → k_R → Prop} {s0 : Nat} {s1 : Int32} {s2 : Int64} (w : k_is h s0 11) {P : k_H → Prop} (c : k_ctv (tX8_alter G l) [vR (some s0), vI s1, vJ s2, vI 0] h P) (K : ∀ h1, P h1 → k_X (jX11_putNow G l h0) h1 20 [] [] Q) : k_X (jX11_putNow G l h0) h 16 [] [vJ s2, vI s1, vR (some s0)] Q := by
  obtain ⟨h1, c, p⟩ := c
  obtain ⟨h', r, K, q⟩ := K h1 p
  exact ⟨h', r, j_iconst (v := 0) dX11_putNow_16 (by decide) <| j_callV (v := none) (as := [vI s1, vJ s2, vI 0]) dX11_putNow_17 kc_X11_325 rfl rfl w (by decide) (Nat.le_of_ble_eq_true rfl) c K, q⟩
theorem bX11_putNow_20 {h0 h : k_H} {Q : k_H → k_R → Prop} (K : k_X (jX11_putNow G l h0) h 68 [] [] Q) : k_X (jX11_putNow G l h0) h 20 [] [] Q := by
  obtain ⟨h', r, K, q⟩ := K
  exact ⟨h', r, j_goto (tgt := 68) dX11_putNow_20 (by decide) <| K, q⟩
theorem bX11_putNow_23 {h0 h : k_H} {Q : k_H → k_R → Prop} {x0 : Nat} {x1 x2 x3 : Int32} (K1 : ¬ (x1 = 1) → k_X (jX11_putNow G l h0) h 46 [(0, vR (some x0)), (2, vI x2), (3, vI x3)] [] Q) (K2 : x1 = 1 → k_X (jX11_putNow G l h0) h 28 [(0, vR (some x0)), (3, vI x3)] [] Q) : k_X (jX11_putNow G l h0) h 23 [(0, vR (some x0)), (1, vI x1), (2, vI x2), (3, vI x3)] [] Q := by
  by_cases hc : x1 = 1
  · skip
    obtain ⟨h', r, K, q⟩ := K2 hc
    exact ⟨h', r, j_iload_n dX11_putNow_23 rfl rfl <| j_iconst (v := 1) dX11_putNow_24 (by decide) <| j_icmp_ne_f dX11_putNow_25 46 (by decide) hc (j_pick [0, 3] rfl K), q⟩
  · skip
    obtain ⟨h', r, K, q⟩ := K1 hc
    exact ⟨h', r, j_iload_n dX11_putNow_23 rfl rfl <| j_iconst (v := 1) dX11_putNow_24 (by decide) <| j_icmp_ne_t (tgt := 46) dX11_putNow_25 (by decide) hc (j_pick [0, 2, 3] rfl K), q⟩
theorem bX11_putNow_28 {h0 h : k_H} {Q : k_H → k_R → Prop} {x0 : Nat} {x3 : Int32} {f1_0 : Option Nat} {fs1 : List k_V} (o1 : h.1 x0 = some (k_o 14 fs1)) (g1_0 : fs1[0]? = some (vR f1_0)) {P : k_H → Int64 → Prop} (c : k_ctj (tX11_codeOf_ G l) [vI (-3), vI x3] h P) (K : ∀ h1 v, P h1 v → k_X (jX11_putNow G l h0) h1 39 [] [vJ v, vI 2, vR f1_0] Q) : k_X (jX11_putNow G l h0) h 28 [(0, vR (some x0)), (3, vI x3)] [] Q := by
  obtain ⟨h1, v, c, p⟩ := c
  obtain ⟨h', r, K, q⟩ := K h1 v p
  exact ⟨h', r, j_aload_n dX11_putNow_28 rfl rfl <| j_getf dX11_putNow_29 kf_X11_14 o1 g1_0 <| j_iconst (v := 2) dX11_putNow_32 (by decide) <| j_bipush (v := (-3)) dX11_putNow_33 (by decide) <| j_iload_n dX11_putNow_35 rfl rfl <| j_callS (v := some (vJ v)) (as := [vI (-3), vI x3]) dX11_putNow_36 kc_X11_302 rfl rfl (by decide) (Nat.le_of_ble_eq_true rfl) c (j_pick [] rfl K), q⟩
theorem bX11_putNow_39 {h0 h : k_H} {Q : k_H → k_R → Prop} {s0 : Nat} {s1 : Int32} {s2 : Int64} (w : k_is h s0 11) {P : k_H → Prop} (c : k_ctv (tX8_alter G l) [vR (some s0), vI s1, vJ s2, vI 1] h P) (K : ∀ h1, P h1 → k_X (jX11_putNow G l h0) h1 43 [] [] Q) : k_X (jX11_putNow G l h0) h 39 [] [vJ s2, vI s1, vR (some s0)] Q := by
  obtain ⟨h1, c, p⟩ := c
  obtain ⟨h', r, K, q⟩ := K h1 p
  exact ⟨h', r, j_iconst (v := 1) dX11_putNow_39 (by decide) <| j_callV (v := none) (as := [vI s1, vJ s2, vI 1]) dX11_putNow_40 kc_X11_325 rfl rfl w (by decide) (Nat.le_of_ble_eq_true rfl) c K, q⟩
theorem bX11_putNow_43 {h0 h : k_H} {Q : k_H → k_R → Prop} (K : k_X (jX11_putNow G l h0) h 68 [] [] Q) : k_X (jX11_putNow G l h0) h 43 [] [] Q := by
  obtain ⟨h', r, K, q⟩ := K
  exact ⟨h', r, j_goto (tgt := 68) dX11_putNow_43 (by decide) <| K, q⟩
theorem bX11_putNow_46 {h0 h : k_H} {Q : k_H → k_R → Prop} {x0 f1_0 : Nat} {x2 x3 f2_6 : Int32} {fs1 : List k_V} (o1 : h.1 x0 = some (k_o 14 fs1)) (g1_0 : fs1[0]? = some (vR (some f1_0))) {fs2 : List k_V} (o2 : h.1 f1_0 = some (k_o 11 fs2)) (g2_6 : fs2[6]? = some (vI f2_6)) {P : k_H → Int64 → Prop} (c : k_ctj (tX11_codeOf G l) [vI (-4), vI f2_6, vI x2] h P) (K : ∀ h1 v, P h1 v → k_X (jX11_putNow G l h0) h1 64 [(3, vI x3)] [vJ v, vI 0, vR (some f1_0)] Q) : k_X (jX11_putNow G l h0) h 46 [(0, vR (some x0)), (2, vI x2), (3, vI x3)] [] Q := by
  obtain ⟨h1, v, c, p⟩ := c
  obtain ⟨h', r, K, q⟩ := K h1 v p
  exact ⟨h', r, j_aload_n dX11_putNow_46 rfl rfl <| j_getf dX11_putNow_47 kf_X11_14 o1 g1_0 <| j_iconst (v := 0) dX11_putNow_50 (by decide) <| j_bipush (v := (-4)) dX11_putNow_51 (by decide) <| j_aload_n dX11_putNow_53 rfl rfl <| j_getf dX11_putNow_54 kf_X11_14 o1 g1_0 <| j_getf dX11_putNow_57 kf_X11_85 o2 g2_6 <| j_iload_n dX11_putNow_60 rfl rfl <| j_callS (v := some (vJ v)) (as := [vI (-4), vI f2_6, vI x2]) dX11_putNow_61 kc_X11_100 rfl rfl (by decide) (Nat.le_of_ble_eq_true rfl) c (j_pick [2] rfl K), q⟩
theorem bX11_putNow_64 {h0 h : k_H} {Q : k_H → k_R → Prop} {x3 s1 : Int32} {s0 : Nat} {s2 : Int64} (w : k_is h s0 11) {P : k_H → Prop} (c : k_ctv (tX8_alter G l) [vR (some s0), vI s1, vJ s2, vI x3] h P) (K : ∀ h1, P h1 → k_X (jX11_putNow G l h0) h1 68 [] [] Q) : k_X (jX11_putNow G l h0) h 64 [(3, vI x3)] [vJ s2, vI s1, vR (some s0)] Q := by
  obtain ⟨h1, c, p⟩ := c
  obtain ⟨h', r, K, q⟩ := K h1 p
  exact ⟨h', r, j_iload_n dX11_putNow_64 rfl rfl <| j_callV (v := none) (as := [vI s1, vJ s2, vI x3]) dX11_putNow_65 kc_X11_325 rfl rfl w (by decide) (Nat.le_of_ble_eq_true rfl) c (j_pick [] rfl K), q⟩
theorem bX11_putNow_68 {h0 h : k_H} {Q : k_H → k_R → Prop} (q : Q h (.inl none)) : k_X (jX11_putNow G l h0) h 68 [] [] Q := by
  exact ⟨_, _, j_vret dX11_putNow_68 rfl, q⟩
theorem eX11_leaseOf {G : k_G} {l : Launch} (hfl : l.flags = flags0) {h : k_H} {Q : k_H → k_R → Prop} {x0 : Option Nat} (K : k_X (jX11_leaseOf G l h) h 0 [(0, vR x0)] [] Q) : k_ct (tX11_leaseOf G l) [vR x0] h Q := by
  obtain ⟨h', r, K, q⟩ := K
  exact ⟨h', r, k_CtOf (by decide +kernel) (Nat.le_of_ble_eq_true rfl) K hfl, q⟩

theorem bX11_leaseOf_0 {h0 h : k_H} {Q : k_H → k_R → Prop} {x0 : Nat} {f1_0 : Int64} {fs1 : List k_V} (o1 : h.1 x0 = some (k_o 7 fs1)) (g1_0 : fs1[0]? = some (vJ f1_0)) {P : k_H → Int32 → Prop} (c : k_cti (tX11_numberOf G l) [vJ f1_0, vI 1] h P) (K : ∀ h1 v, P h1 v → k_X (jX11_leaseOf G l h0) h1 10 [] [vI v, vI (-7)] Q) : k_X (jX11_leaseOf G l h0) h 0 [(0, vR (some x0))] [] Q := by
  obtain ⟨h1, v, c, p⟩ := c
  obtain ⟨h', r, K, q⟩ := K h1 v p
  exact ⟨h', r, j_bipush (v := (-7)) dX11_leaseOf_0 (by decide) <| j_aload_n dX11_leaseOf_2 rfl rfl <| j_getf dX11_leaseOf_3 kf_X11_172 o1 g1_0 <| j_iconst (v := 1) dX11_leaseOf_6 (by decide) <| j_callS (v := some (vI v)) (as := [vJ f1_0, vI 1]) dX11_leaseOf_7 kc_X11_176 rfl rfl (by decide) (Nat.le_of_ble_eq_true rfl) c (j_pick [] rfl K), q⟩
theorem bX11_leaseOf_10 {h0 h : k_H} {Q : k_H → k_R → Prop} {s0 s1 : Int32} {P : k_H → Int64 → Prop} (c : k_ctj (tX11_codeOf_ G l) [vI s0, vI s1] h P) (K : ∀ h1 v, P h1 v → k_X (jX11_leaseOf G l h0) h1 13 [] [vJ v] Q) : k_X (jX11_leaseOf G l h0) h 10 [] [vI s1, vI s0] Q := by
  obtain ⟨h1, v, c, p⟩ := c
  obtain ⟨h', r, K, q⟩ := K h1 v p
  exact ⟨h', r, j_callS (v := some (vJ v)) (as := [vI s0, vI s1]) dX11_leaseOf_10 kc_X11_302 rfl rfl (by decide) (Nat.le_of_ble_eq_true rfl) c K, q⟩
theorem bX11_leaseOf_13 {h0 h : k_H} {Q : k_H → k_R → Prop} {s0 : Int64} (q : Q h (.inl (some (vJ s0)))) : k_X (jX11_leaseOf G l h0) h 13 [] [vJ s0] Q := by
  exact ⟨_, _, j_lret dX11_leaseOf_13 rfl, q⟩
theorem eX11_firstWork {G : k_G} {l : Launch} (hfl : l.flags = flags0) {h : k_H} {Q : k_H → k_R → Prop} {x0 : Nat} {x1 : Int32} (K : k_X (jX11_firstWork G l h) h 0 [(0, vR (some x0)), (1, vI x1)] [] Q) : k_ct (tX11_firstWork G l) [vR (some x0), vI x1] h Q := by
  obtain ⟨h', r, K, q⟩ := K
  exact ⟨h', r, k_CtOf (by decide +kernel) (Nat.le_of_ble_eq_true rfl) K hfl, q⟩

theorem bX11_firstWork_0 {h0 h : k_H} {Q : k_H → k_R → Prop} {x0 : Nat} {x1 : Int32} {f1_0 : Option Nat} {fs1 : List k_V} (o1 : h.1 x0 = some (k_o 14 fs1)) (g1_0 : fs1[0]? = some (vR f1_0)) {P : k_H → Int64 → Prop} (c : k_ctj (tX11_lowOf G l) [vI (-5), vI 10000] h P) (K : ∀ h1 v, P h1 v → k_X (jX11_firstWork G l h0) h1 12 [(0, vR (some x0)), (1, vI x1)] [vJ v, vR f1_0] Q) : k_X (jX11_firstWork G l h0) h 0 [(0, vR (some x0)), (1, vI x1)] [] Q := by
  obtain ⟨h1, v, c, p⟩ := c
  obtain ⟨h', r, K, q⟩ := K h1 v p
  exact ⟨h', r, j_aload_n dX11_firstWork_0 rfl rfl <| j_getf dX11_firstWork_1 kf_X11_14 o1 g1_0 <| j_bipush (v := (-5)) dX11_firstWork_4 (by decide) <| j_sipush (v := 10000) dX11_firstWork_6 (by decide) <| j_callS (v := some (vJ v)) (as := [vI (-5), vI 10000]) dX11_firstWork_9 kc_X11_138 rfl rfl (by decide) (Nat.le_of_ble_eq_true rfl) c K, q⟩
theorem bX11_firstWork_12 {h0 h : k_H} {Q : k_H → k_R → Prop} {x0 : Nat} {x1 : Int32} {s0 : Option Nat} {s1 : Int64} {P : k_H → Int64 → Prop} (c : k_ctj (tX11_highOf G l) [vI (-5), vI 10000] h P) (K : ∀ h1 v, P h1 v → k_X (jX11_firstWork G l h0) h1 20 [(0, vR (some x0)), (1, vI x1)] [vJ v, vJ s1, vR s0] Q) : k_X (jX11_firstWork G l h0) h 12 [(0, vR (some x0)), (1, vI x1)] [vJ s1, vR s0] Q := by
  obtain ⟨h1, v, c, p⟩ := c
  obtain ⟨h', r, K, q⟩ := K h1 v p
  exact ⟨h', r, j_bipush (v := (-5)) dX11_firstWork_12 (by decide) <| j_sipush (v := 10000) dX11_firstWork_14 (by decide) <| j_callS (v := some (vJ v)) (as := [vI (-5), vI 10000]) dX11_firstWork_17 kc_X11_142 rfl rfl (by decide) (Nat.le_of_ble_eq_true rfl) c K, q⟩
theorem bX11_firstWork_20 {h0 h : k_H} {Q : k_H → k_R → Prop} {x0 s0 : Nat} {x1 : Int32} {s1 s2 : Int64} (w : k_is h s0 11) {P : k_H → Option Nat → Prop} (c : k_ctr (tX8_listHeld G l) [vR (some s0), vJ s1, vJ s2] h P) (K : ∀ h1 v, P h1 v → k_X (jX11_firstWork G l h0) h1 23 [(0, vR (some x0)), (1, vI x1)] [vR v] Q) : k_X (jX11_firstWork G l h0) h 20 [(0, vR (some x0)), (1, vI x1)] [vJ s2, vJ s1, vR (some s0)] Q := by
  obtain ⟨h1, v, c, p⟩ := c
  obtain ⟨h', r, K, q⟩ := K h1 v p
  exact ⟨h', r, j_callV (v := some (vR v)) (as := [vJ s1, vJ s2]) dX11_firstWork_20 kc_X11_318 rfl rfl w (by decide) (Nat.le_of_ble_eq_true rfl) c K, q⟩
theorem bX11_firstWork_23 {h0 h : k_H} {Q : k_H → k_R → Prop} {x0 : Nat} {x1 : Int32} {s0 : Option Nat} (K : k_X (jX11_firstWork G l h0) h 26 [(0, vR (some x0)), (1, vI x1), (2, vR s0), (3, vI 0)] [] Q) : k_X (jX11_firstWork G l h0) h 23 [(0, vR (some x0)), (1, vI x1)] [vR s0] Q := by
  obtain ⟨h', r, K, q⟩ := K
  exact ⟨h', r, j_astore_n dX11_firstWork_23 rfl (by decide) rfl <| j_iconst (v := 0) dX11_firstWork_24 (by decide) <| j_istore_n dX11_firstWork_25 rfl (by decide) rfl <| K, q⟩
theorem bX11_firstWork_26 {h0 h : k_H} {Q : k_H → k_R → Prop} {x0 x2 : Nat} {x1 x3 : Int32} (w : k_is h x2 2) {P : k_H → Int32 → Prop} (c : k_cti (tAL_size G l) [vR (some x2)] h P) (K : ∀ h1 v, P h1 v → k_X (jX11_firstWork G l h0) h1 31 [(0, vR (some x0)), (1, vI x1), (2, vR (some x2)), (3, vI x3)] [vI v, vI x3] Q) : k_X (jX11_firstWork G l h0) h 26 [(0, vR (some x0)), (1, vI x1), (2, vR (some x2)), (3, vI x3)] [] Q := by
  obtain ⟨h1, v, c, p⟩ := c
  obtain ⟨h', r, K, q⟩ := K h1 v p
  exact ⟨h', r, j_iload_n dX11_firstWork_26 rfl rfl <| j_aload_n dX11_firstWork_27 rfl rfl <| j_callV (v := some (vI v)) (as := []) dX11_firstWork_28 kc_X11_153 rfl rfl w (by decide) (Nat.le_of_ble_eq_true rfl) c K, q⟩
theorem bX11_firstWork_31 {h0 h : k_H} {Q : k_H → k_R → Prop} {x0 : Nat} {x1 x3 s0 s1 : Int32} {x2 : Option Nat} (K1 : s1 ≤ s0 → k_X (jX11_firstWork G l h0) h 73 [] [] Q) (K2 : ¬ (s1 ≤ s0) → k_X (jX11_firstWork G l h0) h 34 [(0, vR (some x0)), (1, vI x1), (2, vR x2), (3, vI x3)] [] Q) : k_X (jX11_firstWork G l h0) h 31 [(0, vR (some x0)), (1, vI x1), (2, vR x2), (3, vI x3)] [vI s1, vI s0] Q := by
  by_cases hc : s1 ≤ s0
  · skip
    obtain ⟨h', r, K, q⟩ := K1 hc
    exact ⟨h', r, j_icmp_ge_t (tgt := 73) dX11_firstWork_31 (by decide) hc (j_pick [] rfl K), q⟩
  · skip
    obtain ⟨h', r, K, q⟩ := K2 hc
    exact ⟨h', r, j_icmp_ge_f dX11_firstWork_31 73 (by decide) hc K, q⟩
theorem bX11_firstWork_34 {h0 h : k_H} {Q : k_H → k_R → Prop} {x0 x2 : Nat} {x1 x3 : Int32} (w : k_is h x2 2) {P : k_H → Option Nat → Prop} (c : k_ctr (tAL_get G l) [vR (some x2), vI x3] h P) (K : ∀ h1 v, P h1 v → k_X (jX11_firstWork G l h0) h1 39 [(0, vR (some x0)), (1, vI x1), (2, vR (some x2)), (3, vI x3)] [vR v] Q) : k_X (jX11_firstWork G l h0) h 34 [(0, vR (some x0)), (1, vI x1), (2, vR (some x2)), (3, vI x3)] [] Q := by
  obtain ⟨h1, v, c, p⟩ := c
  obtain ⟨h', r, K, q⟩ := K h1 v p
  exact ⟨h', r, j_aload_n dX11_firstWork_34 rfl rfl <| j_iload_n dX11_firstWork_35 rfl rfl <| j_callV (v := some (vR v)) (as := [vI x3]) dX11_firstWork_36 kc_X11_166 rfl rfl w (by decide) (Nat.le_of_ble_eq_true rfl) c K, q⟩
theorem bX11_firstWork_39 {h0 h : k_H} {Q : k_H → k_R → Prop} {x0 s0 : Nat} {x1 x3 : Int32} {x2 f2_0 : Option Nat} {fs1 : List k_V} (o1 : h.1 s0 = some (k_o 7 fs1)) {fs2 : List k_V} (o2 : h.1 x0 = some (k_o 14 fs2)) (g2_0 : fs2[0]? = some (vR f2_0)) {P : k_H → Int64 → Prop} (c : k_ctj (tX11_leaseOf G l) [vR (some s0)] h P) (K : ∀ h1 v, P h1 v → k_X (jX11_firstWork G l h0) h1 54 [(0, vR (some x0)), (1, vI x1), (2, vR x2), (3, vI x3), (4, vR (some s0))] [vJ v, vR f2_0, vR (some x0)] Q) : k_X (jX11_firstWork G l h0) h 39 [(0, vR (some x0)), (1, vI x1), (2, vR x2), (3, vI x3)] [vR (some s0)] Q := by
  obtain ⟨h1, v, c, p⟩ := c
  obtain ⟨h', r, K, q⟩ := K h1 v p
  exact ⟨h', r, j_cast dX11_firstWork_39 kk_X11_170 o1 <| j_astore dX11_firstWork_42 (by decide) rfl <| j_aload_n dX11_firstWork_44 rfl rfl <| j_aload_n dX11_firstWork_45 rfl rfl <| j_getf dX11_firstWork_46 kf_X11_14 o2 g2_0 <| j_aload dX11_firstWork_49 rfl <| j_callS (v := some (vJ v)) (as := [vR (some s0)]) dX11_firstWork_51 kc_X11_361 rfl rfl (by decide) (Nat.le_of_ble_eq_true rfl) c K, q⟩
theorem bX11_firstWork_54 {h0 h : k_H} {Q : k_H → k_R → Prop} {x0 s1 : Nat} {x1 x3 : Int32} {x2 x4 s0 : Option Nat} {s2 : Int64} (w : k_is h s1 11) {P : k_H → Int32 → Prop} (c : k_cti (tX8_valueNow G l) [vR (some s1), vJ s2] h P) (K : ∀ h1 v, P h1 v → k_X (jX11_firstWork G l h0) h1 57 [(0, vR (some x0)), (1, vI x1), (2, vR x2), (3, vI x3), (4, vR x4)] [vI v, vR s0] Q) : k_X (jX11_firstWork G l h0) h 54 [(0, vR (some x0)), (1, vI x1), (2, vR x2), (3, vI x3), (4, vR x4)] [vJ s2, vR (some s1), vR s0] Q := by
  obtain ⟨h1, v, c, p⟩ := c
  obtain ⟨h', r, K, q⟩ := K h1 v p
  exact ⟨h', r, j_callV (v := some (vI v)) (as := [vJ s2]) dX11_firstWork_54 kc_X11_304 rfl rfl w (by decide) (Nat.le_of_ble_eq_true rfl) c K, q⟩
theorem bX11_firstWork_57 {h0 h : k_H} {Q : k_H → k_R → Prop} {x0 s0 : Nat} {x1 x3 s1 : Int32} {x2 x4 : Option Nat} (w : k_is h s0 14) {P : k_H → Int32 → Prop} (c : k_cti (tX11_holderOf G l) [vR (some s0), vI s1] h P) (K : ∀ h1 v, P h1 v → k_X (jX11_firstWork G l h0) h1 60 [(0, vR (some x0)), (1, vI x1), (2, vR x2), (3, vI x3), (4, vR x4)] [vI v] Q) : k_X (jX11_firstWork G l h0) h 57 [(0, vR (some x0)), (1, vI x1), (2, vR x2), (3, vI x3), (4, vR x4)] [vI s1, vR (some s0)] Q := by
  obtain ⟨h1, v, c, p⟩ := c
  obtain ⟨h', r, K, q⟩ := K h1 v p
  exact ⟨h', r, j_callV (v := some (vI v)) (as := [vI s1]) dX11_firstWork_57 kc_X11_577 rfl rfl w (by decide) (Nat.le_of_ble_eq_true rfl) c K, q⟩
theorem bX11_firstWork_60 {h0 h : k_H} {Q : k_H → k_R → Prop} {x0 : Nat} {x1 x3 s0 : Int32} {x2 x4 : Option Nat} (K1 : ¬ (s0 = x1) → k_X (jX11_firstWork G l h0) h 67 [(0, vR (some x0)), (1, vI x1), (2, vR x2), (3, vI x3)] [] Q) (K2 : s0 = x1 → k_X (jX11_firstWork G l h0) h 64 [(4, vR x4)] [] Q) : k_X (jX11_firstWork G l h0) h 60 [(0, vR (some x0)), (1, vI x1), (2, vR x2), (3, vI x3), (4, vR x4)] [vI s0] Q := by
  by_cases hc : s0 = x1
  · skip
    obtain ⟨h', r, K, q⟩ := K2 hc
    exact ⟨h', r, j_iload_n dX11_firstWork_60 rfl rfl <| j_icmp_ne_f dX11_firstWork_61 67 (by decide) hc (j_pick [4] rfl K), q⟩
  · skip
    obtain ⟨h', r, K, q⟩ := K1 hc
    exact ⟨h', r, j_iload_n dX11_firstWork_60 rfl rfl <| j_icmp_ne_t (tgt := 67) dX11_firstWork_61 (by decide) hc (j_pick [0, 1, 2, 3] rfl K), q⟩
theorem bX11_firstWork_64 {h0 h : k_H} {Q : k_H → k_R → Prop} {x4 : Option Nat} (q : Q h (.inl (some (vR x4)))) : k_X (jX11_firstWork G l h0) h 64 [(4, vR x4)] [] Q := by
  exact ⟨_, _, j_aload dX11_firstWork_64 rfl <| j_aret dX11_firstWork_66 rfl (Or.inl ⟨_, rfl⟩), q⟩
theorem bX11_firstWork_67 {h0 h : k_H} {Q : k_H → k_R → Prop} {x0 : Nat} {x1 x3 : Int32} {x2 : Option Nat} (K : k_X (jX11_firstWork G l h0) h 26 [(0, vR (some x0)), (1, vI x1), (2, vR x2), (3, vI (x3 + 1))] [] Q) : k_X (jX11_firstWork G l h0) h 67 [(0, vR (some x0)), (1, vI x1), (2, vR x2), (3, vI x3)] [] Q := by
  obtain ⟨h', r, K, q⟩ := K
  exact ⟨h', r, j_iinc (v := x3 + 1) dX11_firstWork_67 rfl (by decide) rfl rfl <| j_goto (tgt := 26) dX11_firstWork_70 (by decide) <| K, q⟩
theorem bX11_firstWork_73 {h0 h : k_H} {Q : k_H → k_R → Prop} (q : Q h (.inl (some (vR none)))) : k_X (jX11_firstWork G l h0) h 73 [] [] Q := by
  exact ⟨_, _, j_null dX11_firstWork_73 <| j_aret dX11_firstWork_74 rfl (Or.inl ⟨_, rfl⟩), q⟩
theorem eX11_holderOf {G : k_G} {l : Launch} (hfl : l.flags = flags0) {h : k_H} {Q : k_H → k_R → Prop} {x0 : Nat} {x1 : Int32} (K : k_X (jX11_holderOf G l h) h 0 [(0, vR (some x0)), (1, vI x1)] [] Q) : k_ct (tX11_holderOf G l) [vR (some x0), vI x1] h Q := by
  obtain ⟨h', r, K, q⟩ := K
  exact ⟨h', r, k_CtOf (by decide +kernel) (Nat.le_of_ble_eq_true rfl) K hfl, q⟩

theorem bX11_holderOf_0 {h0 h : k_H} {Q : k_H → k_R → Prop} {x0 : Nat} {x1 : Int32} (K1 : x1 = (-2147483648) → k_X (jX11_holderOf G l h0) h 21 [] [] Q) (K2 : ¬ (x1 = (-2147483648)) → k_X (jX11_holderOf G l h0) h 6 [(0, vR (some x0)), (1, vI x1)] [] Q) : k_X (jX11_holderOf G l h0) h 0 [(0, vR (some x0)), (1, vI x1)] [] Q := by
  by_cases hc : x1 = (-2147483648)
  · skip
    obtain ⟨h', r, K, q⟩ := K1 hc
    exact ⟨h', r, j_iload_n dX11_holderOf_0 rfl rfl <| j_ldc (v := (-2147483648)) dX11_holderOf_1 ki_X11_62 <| j_icmp_eq_t (tgt := 21) dX11_holderOf_3 (by decide) hc (j_pick [] rfl K), q⟩
  · skip
    obtain ⟨h', r, K, q⟩ := K2 hc
    exact ⟨h', r, j_iload_n dX11_holderOf_0 rfl rfl <| j_ldc (v := (-2147483648)) dX11_holderOf_1 ki_X11_62 <| j_icmp_eq_f dX11_holderOf_3 21 (by decide) hc K, q⟩
theorem bX11_holderOf_6 {h0 h : k_H} {Q : k_H → k_R → Prop} {x0 f1_0 : Nat} {x1 f2_6 : Int32} {fs1 : List k_V} (o1 : h.1 x0 = some (k_o 14 fs1)) (g1_0 : fs1[0]? = some (vR (some f1_0))) {fs2 : List k_V} (o2 : h.1 f1_0 = some (k_o 11 fs2)) (g2_6 : fs2[6]? = some (vI f2_6)) (K1 : f2_6 < (x1 - (x1 / 10000) * 10000) → k_X (jX11_holderOf G l h0) h 24 [(1, vI x1)] [] Q) (K2 : ¬ (f2_6 < (x1 - (x1 / 10000) * 10000)) → k_X (jX11_holderOf G l h0) h 21 [] [] Q) : k_X (jX11_holderOf G l h0) h 6 [(0, vR (some x0)), (1, vI x1)] [] Q := by
  by_cases hc : f2_6 < (x1 - (x1 / 10000) * 10000)
  · skip
    obtain ⟨h', r, K, q⟩ := K1 hc
    exact ⟨h', r, j_aload_n dX11_holderOf_6 rfl rfl <| j_getf dX11_holderOf_7 kf_X11_14 o1 g1_0 <| j_getf dX11_holderOf_10 kf_X11_85 o2 g2_6 <| j_iload_n dX11_holderOf_13 rfl rfl <| j_sipush (v := 10000) dX11_holderOf_14 (by decide) <| j_irem dX11_holderOf_17 (by decide) <| j_icmp_lt_t (tgt := 24) dX11_holderOf_18 (by decide) hc (j_pick [1] rfl K), q⟩
  · skip
    obtain ⟨h', r, K, q⟩ := K2 hc
    exact ⟨h', r, j_aload_n dX11_holderOf_6 rfl rfl <| j_getf dX11_holderOf_7 kf_X11_14 o1 g1_0 <| j_getf dX11_holderOf_10 kf_X11_85 o2 g2_6 <| j_iload_n dX11_holderOf_13 rfl rfl <| j_sipush (v := 10000) dX11_holderOf_14 (by decide) <| j_irem dX11_holderOf_17 (by decide) <| j_icmp_lt_f dX11_holderOf_18 24 (by decide) hc (j_pick [] rfl K), q⟩
theorem bX11_holderOf_21 {h0 h : k_H} {Q : k_H → k_R → Prop} (q : Q h (.inl (some (vI (-2147483648))))) : k_X (jX11_holderOf G l h0) h 21 [] [] Q := by
  exact ⟨_, _, j_ldc (v := (-2147483648)) dX11_holderOf_21 ki_X11_62 <| j_iret dX11_holderOf_23 rfl, q⟩
theorem bX11_holderOf_24 {h0 h : k_H} {Q : k_H → k_R → Prop} {x1 : Int32} (q : Q h (.inl (some (vI (x1 / 10000))))) : k_X (jX11_holderOf G l h0) h 24 [(1, vI x1)] [] Q := by
  exact ⟨_, _, j_iload_n dX11_holderOf_24 rfl rfl <| j_sipush (v := 10000) dX11_holderOf_25 (by decide) <| j_idiv dX11_holderOf_28 (by decide) <| j_iret dX11_holderOf_29 rfl, q⟩
end BB
