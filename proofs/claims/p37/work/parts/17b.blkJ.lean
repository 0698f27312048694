section BJ
variable {G : k_G} {l : Launch}

theorem eJxa1e45_init_da8c8 {G : k_G} {l : Launch} (hfl : l.flags = flags0) {h : k_H} {Q : k_H → k_R → Prop} {x0 : Nat} (K : k_X (jJxa1e45_init_da8c8 G l h) h 0 [(0, vR (some x0))] [] Q) : k_ct (tJxa1e45_init_da8c8 G l) [vR (some x0)] h Q := by
  obtain ⟨h', r, K, q⟩ := K
  exact ⟨h', r, k_CtOf (by decide +kernel) (Nat.le_of_ble_eq_true rfl) K hfl, q⟩

theorem bJxa1e45_init_da8c8_0 {h0 h : k_H} {Q : k_H → k_R → Prop} {x0 : Nat} (q : Q h (.inl none)) : k_X (jJxa1e45_init_da8c8 G l h0) h 0 [(0, vR (some x0))] [] Q := by
  exact ⟨_, _, j_aload_n dJxa1e45_init_da8c8_0 rfl rfl <| j_objInit dJxa1e45_init_da8c8_1 ko_Jxa1e45_1 ko_inst ko_code (by decide) (Nat.le_of_ble_eq_true rfl) <| j_vret dJxa1e45_init_da8c8_4 rfl, q⟩
theorem eJxc12de_init_da8c8 {G : k_G} {l : Launch} (hfl : l.flags = flags0) {h : k_H} {Q : k_H → k_R → Prop} {x0 : Nat} (K : k_X (jJxc12de_init_da8c8 G l h) h 0 [(0, vR (some x0))] [] Q) : k_ct (tJxc12de_init_da8c8 G l) [vR (some x0)] h Q := by
  obtain ⟨h', r, K, q⟩ := K
  exact ⟨h', r, k_CtOf (by decide +kernel) (Nat.le_of_ble_eq_true rfl) K hfl, q⟩

theorem bJxc12de_init_da8c8_0 {h0 h : k_H} {Q : k_H → k_R → Prop} {x0 : Nat} {P : k_H → Prop} (c : k_ctv (tJxa1e45_init_da8c8 G l) [vR (some x0)] h P) (K : ∀ h1, P h1 → k_X (jJxc12de_init_da8c8 G l h0) h1 4 [(0, vR (some x0))] [] Q) : k_X (jJxc12de_init_da8c8 G l h0) h 0 [(0, vR (some x0))] [] Q := by
  obtain ⟨h1, c, p⟩ := c
  obtain ⟨h', r, K, q⟩ := K h1 p
  exact ⟨h', r, j_aload_n dJxc12de_init_da8c8_0 rfl rfl <| j_callI (v := none) (as := []) dJxc12de_init_da8c8_1 kc_Jxc12de_1 rfl rfl (by decide) (Nat.le_of_ble_eq_true rfl) c K, q⟩
theorem bJxc12de_init_da8c8_4 {h0 h : k_H} {Q : k_H → k_R → Prop} {x0 : Nat} {fs1 : List k_V} (o1 : h.1 x0 = some (k_o 2 fs1)) (z1 : fs1.length = 3) (K : k_X (jJxc12de_init_da8c8 G l h0) (k_up h x0 (k_o 2 (fs1.set 0 (vI 0)))) 9 [] [] Q) : k_X (jJxc12de_init_da8c8 G l h0) h 4 [(0, vR (some x0))] [] Q := by
  obtain ⟨h', r, K, q⟩ := K
  exact ⟨h', r, j_aload_n dJxc12de_init_da8c8_4 rfl rfl <| j_iconst (v := 0) dJxc12de_init_da8c8_5 (by decide) <| j_putf dJxc12de_init_da8c8_6 kp_Jxc12de_7 o1 (k_ln z1 (by decide)) (k_fit_i _) rfl <| (j_pick [] rfl K), q⟩
theorem bJxc12de_init_da8c8_9 {h0 h : k_H} {Q : k_H → k_R → Prop} (q : Q h (.inl none)) : k_X (jJxc12de_init_da8c8 G l h0) h 9 [] [] Q := by
  exact ⟨_, _, j_vret dJxc12de_init_da8c8_9 rfl, q⟩
theorem eJx4a65c_init_da8c8 {G : k_G} {l : Launch} (hfl : l.flags = flags0) {h : k_H} {Q : k_H → k_R → Prop} {x0 : Nat} (K : k_X (jJx4a65c_init_da8c8 G l h) h 0 [(0, vR (some x0))] [] Q) : k_ct (tJx4a65c_init_da8c8 G l) [vR (some x0)] h Q := by
  obtain ⟨h', r, K, q⟩ := K
  exact ⟨h', r, k_CtOf (by decide +kernel) (Nat.le_of_ble_eq_true rfl) K hfl, q⟩

theorem bJx4a65c_init_da8c8_0 {h0 h : k_H} {Q : k_H → k_R → Prop} {x0 : Nat} {P : k_H → Prop} (c : k_ctv (tJxc12de_init_da8c8 G l) [vR (some x0)] h P) (K : ∀ h1, P h1 → k_X (jJx4a65c_init_da8c8 G l h0) h1 4 [(0, vR (some x0))] [] Q) : k_X (jJx4a65c_init_da8c8 G l h0) h 0 [(0, vR (some x0))] [] Q := by
  obtain ⟨h1, c, p⟩ := c
  obtain ⟨h', r, K, q⟩ := K h1 p
  exact ⟨h', r, j_aload_n dJx4a65c_init_da8c8_0 rfl rfl <| j_callI (v := none) (as := []) dJx4a65c_init_da8c8_1 kc_Jx4a65c_1 rfl rfl (by decide) (Nat.le_of_ble_eq_true rfl) c K, q⟩
theorem bJx4a65c_init_da8c8_4 {h0 h : k_H} {Q : k_H → k_R → Prop} {x0 : Nat} {fs1 : List k_V} (o1 : h.1 x0 = some (k_o 2 fs1)) (z1 : fs1.length = 3) (K : k_X (jJx4a65c_init_da8c8 G l h0) (k_up h x0 (k_o 2 (fs1.set 1 (vR (some (k_z0 G)))))) 11 [] [] Q) : k_X (jJx4a65c_init_da8c8 G l h0) h 4 [(0, vR (some x0))] [] Q := by
  obtain ⟨h', r, K, q⟩ := K
  exact ⟨h', r, j_aload_n dJx4a65c_init_da8c8_4 rfl rfl <| j_getsE dJx4a65c_init_da8c8_5 kg_Jx4a65c_39 <| j_putf dJx4a65c_init_da8c8_8 kp_Jx4a65c_9 o1 (k_ln z1 (by decide)) (k_fit_a _ _) rfl <| (j_pick [] rfl K), q⟩
theorem bJx4a65c_init_da8c8_11 {h0 h : k_H} {Q : k_H → k_R → Prop} (q : Q h (.inl none)) : k_X (jJx4a65c_init_da8c8 G l h0) h 11 [] [] Q := by
  exact ⟨_, _, j_vret dJx4a65c_init_da8c8_11 rfl, q⟩
theorem eJx4a65c_grow_92f84 {G : k_G} {l : Launch} (hfl : l.flags = flags0) {h : k_H} {Q : k_H → k_R → Prop} {x0 : Nat} {x1 : Int32} (K : k_X (jJx4a65c_grow_92f84 G l h) h 0 [(0, vR (some x0)), (1, vI x1)] [] Q) : k_ct (tJx4a65c_grow_92f84 G l) [vR (some x0), vI x1] h Q := by
  obtain ⟨h', r, K, q⟩ := K
  exact ⟨h', r, k_CtOf (by decide +kernel) (Nat.le_of_ble_eq_true rfl) K hfl, q⟩

theorem bJx4a65c_grow_92f84_0 {h0 h : k_H} {Q : k_H → k_R → Prop} {x0 : Nat} {x1 : Int32} {f1_1 : Option Nat} {fs1 : List k_V} (o1 : h.1 x0 = some (k_o 2 fs1)) (g1_1 : fs1[1]? = some (vR f1_1)) (K : k_X (jJx4a65c_grow_92f84 G l h0) h 4 [(0, vR (some x0)), (1, vI x1)] [vR f1_1] Q) : k_X (jJx4a65c_grow_92f84 G l h0) h 0 [(0, vR (some x0)), (1, vI x1)] [] Q := by
  obtain ⟨h', r, K, q⟩ := K
  exact ⟨h', r, j_aload_n dJx4a65c_grow_92f84_0 rfl rfl <| j_getf dJx4a65c_grow_92f84_1 kf_Jx4a65c_9 o1 g1_1 <| K, q⟩
theorem bJx4a65c_grow_92f84_4 {h0 h : k_H} {Q : k_H → k_R → Prop} {x0 s0 : Nat} {x1 : Int32} {n1 : Nat} {w1 : Nat → Option Nat} (o1 : h.1 s0 = some (k_q n1 w1)) (K : k_X (jJx4a65c_grow_92f84 G l h0) h 5 [(0, vR (some x0)), (1, vI x1)] [vI (nI n1)] Q) : k_X (jJx4a65c_grow_92f84 G l h0) h 4 [(0, vR (some x0)), (1, vI x1)] [vR (some s0)] Q := by
  obtain ⟨h', r, K, q⟩ := K
  exact ⟨h', r, j_qlen dJx4a65c_grow_92f84_4 o1 <| K, q⟩
theorem bJx4a65c_grow_92f84_4z {h0 h : k_H} {Q : k_H → k_R → Prop} {x0  : Nat} {x1 : Int32} (K : k_X (jJx4a65c_grow_92f84 G l h0) h 5 [(0, vR (some x0)), (1, vI x1)] [vI 0] Q) : k_X (jJx4a65c_grow_92f84 G l h0) h 4 [(0, vR (some x0)), (1, vI x1)] [vR (some (k_z0 G))] Q := by
  obtain ⟨h', r, K, q⟩ := K
  exact ⟨h', r, j_zlen dJx4a65c_grow_92f84_4 <| K, q⟩
theorem bJx4a65c_grow_92f84_5 {h0 h : k_H} {Q : k_H → k_R → Prop} {x0 : Nat} {x1 s0 : Int32} (K1 : 0 < s0 → k_X (jJx4a65c_grow_92f84 G l h0) h 20 [(0, vR (some x0)), (1, vI x1), (2, vI s0)] [] Q) (K2 : ¬ (0 < s0) → k_X (jJx4a65c_grow_92f84 G l h0) h 10 [(0, vR (some x0)), (1, vI x1), (2, vI s0)] [] Q) : k_X (jJx4a65c_grow_92f84 G l h0) h 5 [(0, vR (some x0)), (1, vI x1)] [vI s0] Q := by
  by_cases hc : 0 < s0
  · skip
    obtain ⟨h', r, K, q⟩ := K1 hc
    exact ⟨h', r, j_istore_n dJx4a65c_grow_92f84_5 rfl (by decide) rfl <| j_iload_n dJx4a65c_grow_92f84_6 rfl rfl <| j_if_gt_t (tgt := 20) dJx4a65c_grow_92f84_7 (by decide) hc K, q⟩
  · skip
    obtain ⟨h', r, K, q⟩ := K2 hc
    exact ⟨h', r, j_istore_n dJx4a65c_grow_92f84_5 rfl (by decide) rfl <| j_iload_n dJx4a65c_grow_92f84_6 rfl rfl <| j_if_gt_f dJx4a65c_grow_92f84_7 20 (by decide) hc K, q⟩
theorem bJx4a65c_grow_92f84_10 {h0 h : k_H} {Q : k_H → k_R → Prop} {x0 : Nat} {x1 x2 : Int32} {f1_1 : Option Nat} {fs1 : List k_V} (o1 : h.1 x0 = some (k_o 2 fs1)) (g1_1 : fs1[1]? = some (vR f1_1)) (K1 : f1_1 = (some (k_z0 G)) → k_X (jJx4a65c_grow_92f84 G l h0) h 45 [(0, vR (some x0)), (1, vI x1)] [] Q) (K2 : ¬ (f1_1 = (some (k_z0 G))) → k_X (jJx4a65c_grow_92f84 G l h0) h 20 [(0, vR (some x0)), (1, vI x1), (2, vI x2)] [] Q) : k_X (jJx4a65c_grow_92f84 G l h0) h 10 [(0, vR (some x0)), (1, vI x1), (2, vI x2)] [] Q := by
  by_cases hc : f1_1 = (some (k_z0 G))
  · skip
    obtain ⟨h', r, K, q⟩ := K1 hc
    revert K q
    first | subst hc | (rw [hc]) | skip
    intro K q
    exact ⟨h', r, j_aload_n dJx4a65c_grow_92f84_10 rfl rfl <| j_getf dJx4a65c_grow_92f84_11 kf_Jx4a65c_9 o1 g1_1 <| j_getsE dJx4a65c_grow_92f84_14 kg_Jx4a65c_39 <| j_acmp_eq_t (tgt := 45) dJx4a65c_grow_92f84_17 (by decide) (j_pick [0, 1] rfl K), q⟩
  · skip
    obtain ⟨h', r, K, q⟩ := K2 hc
    exact ⟨h', r, j_aload_n dJx4a65c_grow_92f84_10 rfl rfl <| j_getf dJx4a65c_grow_92f84_11 kf_Jx4a65c_9 o1 g1_1 <| j_getsE dJx4a65c_grow_92f84_14 kg_Jx4a65c_39 <| j_acmp_eq_f dJx4a65c_grow_92f84_17 45 (by decide) hc K, q⟩
theorem bJx4a65c_grow_92f84_20 {h0 h : k_H} {Q : k_H → k_R → Prop} {x0 : Nat} {x1 x2 : Int32} {P : k_H → Int32 → Prop} (c : k_cti (tJ8_newLength_cabcc G l) [vI x2, vI (x1 - x2), vI (x2 >>> (1 &&& 31))] h P) (K : ∀ h1 v, P h1 v → k_X (jJx4a65c_grow_92f84 G l h0) h1 30 [(0, vR (some x0))] [vI v] Q) : k_X (jJx4a65c_grow_92f84 G l h0) h 20 [(0, vR (some x0)), (1, vI x1), (2, vI x2)] [] Q := by
  obtain ⟨h1, v, c, p⟩ := c
  obtain ⟨h', r, K, q⟩ := K h1 v p
  exact ⟨h', r, j_iload_n dJx4a65c_grow_92f84_20 rfl rfl <| j_iload_n dJx4a65c_grow_92f84_21 rfl rfl <| j_iload_n dJx4a65c_grow_92f84_22 rfl rfl <| j_isub dJx4a65c_grow_92f84_23 <| j_iload_n dJx4a65c_grow_92f84_24 rfl rfl <| j_iconst (v := 1) dJx4a65c_grow_92f84_25 (by decide) <| j_ishr dJx4a65c_grow_92f84_26 <| j_callS (v := some (vI v)) (as := [vI x2, vI (x1 - x2), vI (x2 >>> (1 &&& 31))]) dJx4a65c_grow_92f84_27 kc_Jx4a65c_73 rfl rfl (by decide) (Nat.le_of_ble_eq_true rfl) c (j_pick [0] rfl K), q⟩
theorem bJx4a65c_grow_92f84_30 {h0 h : k_H} {Q : k_H → k_R → Prop} {x0 : Nat} {s0 : Int32} {f1_1 : Option Nat} {fs1 : List k_V} (o1 : h.1 x0 = some (k_o 2 fs1)) (g1_1 : fs1[1]? = some (vR f1_1)) {P : k_H → Option Nat → Prop} (c : k_ctr (tJ7_copyOf_1904c G l) [vR f1_1, vI s0] h P) (K : ∀ h1 v, P h1 v → k_X (jJx4a65c_grow_92f84 G l h0) h1 40 [] [vR v, vR (some x0)] Q) : k_X (jJx4a65c_grow_92f84 G l h0) h 30 [(0, vR (some x0))] [vI s0] Q := by
  obtain ⟨h1, v, c, p⟩ := c
  obtain ⟨h', r, K, q⟩ := K h1 v p
  exact ⟨h', r, j_istore_n dJx4a65c_grow_92f84_30 rfl (by decide) rfl <| j_aload_n dJx4a65c_grow_92f84_31 rfl rfl <| j_aload_n dJx4a65c_grow_92f84_32 rfl rfl <| j_getf dJx4a65c_grow_92f84_33 kf_Jx4a65c_9 o1 g1_1 <| j_iload_n dJx4a65c_grow_92f84_36 rfl rfl <| j_callS (v := some (vR v)) (as := [vR f1_1, vI s0]) dJx4a65c_grow_92f84_37 kc_Jx4a65c_66 rfl rfl (by decide) (Nat.le_of_ble_eq_true rfl) c (j_pick [] rfl K), q⟩
theorem bJx4a65c_grow_92f84_40 {h0 h : k_H} {Q : k_H → k_R → Prop} {s0 : Nat} {s1 : Option Nat} {fs1 : List k_V} (o1 : h.1 s0 = some (k_o 2 fs1)) (z1 : fs1.length = 3) (K : k_X (jJx4a65c_grow_92f84 G l h0) (k_up h s0 (k_o 2 (fs1.set 1 (vR s1)))) 44 [] [vR s1] Q) : k_X (jJx4a65c_grow_92f84 G l h0) h 40 [] [vR s1, vR (some s0)] Q := by
  obtain ⟨h', r, K, q⟩ := K
  exact ⟨h', r, j_dup_x1 dJx4a65c_grow_92f84_40 rfl rfl <| j_putf dJx4a65c_grow_92f84_41 kp_Jx4a65c_9 o1 (k_ln z1 (by decide)) (k_fit_a _ _) rfl <| K, q⟩
theorem bJx4a65c_grow_92f84_44 {h0 h : k_H} {Q : k_H → k_R → Prop} {s0 : Option Nat} (q : Q h (.inl (some (vR s0)))) : k_X (jJx4a65c_grow_92f84 G l h0) h 44 [] [vR s0] Q := by
  exact ⟨_, _, j_aret dJx4a65c_grow_92f84_44 rfl (Or.inr ⟨_, rfl⟩), q⟩
theorem bJx4a65c_grow_92f84_45 {h0 h : k_H} {Q : k_H → k_R → Prop} {x0 : Nat} {x1 : Int32} {n1 : Nat} (e1 : (if 10 < x1 then x1 else 10) = nI n1) (m1 : n1 < 2 ^ 20) (K : k_X (jJx4a65c_grow_92f84 G l h0) (k_nw h n1 (k_q n1 (fun _ => none))) 55 [] [vR (some h.2.1), vR (some x0)] Q) : k_X (jJx4a65c_grow_92f84 G l h0) h 45 [(0, vR (some x0)), (1, vI x1)] [] Q := by
  obtain ⟨h', r, K, q⟩ := K
  exact ⟨h', r, j_aload_n dJx4a65c_grow_92f84_45 rfl rfl <| j_bipush (v := 10) dJx4a65c_grow_92f84_46 (by decide) <| j_iload_n dJx4a65c_grow_92f84_48 rfl rfl <| j_mmax dJx4a65c_grow_92f84_49 km_Jx4a65c_79 km_st_max km_init km_co_max (by decide) (Nat.le_of_ble_eq_true rfl) <| j_anew (N := n1) dJx4a65c_grow_92f84_52 kq_Jx4a65c_7 e1 m1 <| (j_pick [] rfl K), q⟩
theorem bJx4a65c_grow_92f84_55 {h0 h : k_H} {Q : k_H → k_R → Prop} {s0 : Nat} {s1 : Option Nat} {fs1 : List k_V} (o1 : h.1 s0 = some (k_o 2 fs1)) (z1 : fs1.length = 3) (K : k_X (jJx4a65c_grow_92f84 G l h0) (k_up h s0 (k_o 2 (fs1.set 1 (vR s1)))) 59 [] [vR s1] Q) : k_X (jJx4a65c_grow_92f84 G l h0) h 55 [] [vR s1, vR (some s0)] Q := by
  obtain ⟨h', r, K, q⟩ := K
  exact ⟨h', r, j_dup_x1 dJx4a65c_grow_92f84_55 rfl rfl <| j_putf dJx4a65c_grow_92f84_56 kp_Jx4a65c_9 o1 (k_ln z1 (by decide)) (k_fit_a _ _) rfl <| K, q⟩
theorem bJx4a65c_grow_92f84_59 {h0 h : k_H} {Q : k_H → k_R → Prop} {s0 : Option Nat} (q : Q h (.inl (some (vR s0)))) : k_X (jJx4a65c_grow_92f84 G l h0) h 59 [] [vR s0] Q := by
  exact ⟨_, _, j_aret dJx4a65c_grow_92f84_59 rfl (Or.inr ⟨_, rfl⟩), q⟩
theorem eJx4a65c_grow_d5877 {G : k_G} {l : Launch} (hfl : l.flags = flags0) {h : k_H} {Q : k_H → k_R → Prop} {x0 : Nat} (K : k_X (jJx4a65c_grow_d5877 G l h) h 0 [(0, vR (some x0))] [] Q) : k_ct (tJx4a65c_grow_d5877 G l) [vR (some x0)] h Q := by
  obtain ⟨h', r, K, q⟩ := K
  exact ⟨h', r, k_CtOf (by decide +kernel) (Nat.le_of_ble_eq_true rfl) K hfl, q⟩

theorem bJx4a65c_grow_d5877_0 {h0 h : k_H} {Q : k_H → k_R → Prop} {x0 : Nat} {f1_2 : Int32} {fs1 : List k_V} (o1 : h.1 x0 = some (k_o 2 fs1)) (g1_2 : fs1[2]? = some (vI f1_2)) {P : k_H → Option Nat → Prop} (c : k_ctr (tJx4a65c_grow_92f84 G l) [vR (some x0), vI (f1_2 + 1)] h P) (K : ∀ h1 v, P h1 v → k_X (jJx4a65c_grow_d5877 G l h0) h1 10 [] [vR v] Q) : k_X (jJx4a65c_grow_d5877 G l h0) h 0 [(0, vR (some x0))] [] Q := by
  obtain ⟨h1, v, c, p⟩ := c
  obtain ⟨h', r, K, q⟩ := K h1 v p
  exact ⟨h', r, j_aload_n dJx4a65c_grow_d5877_0 rfl rfl <| j_aload_n dJx4a65c_grow_d5877_1 rfl rfl <| j_getf dJx4a65c_grow_d5877_2 kf_Jx4a65c_48 o1 g1_2 <| j_iconst (v := 1) dJx4a65c_grow_d5877_5 (by decide) <| j_iadd dJx4a65c_grow_d5877_6 <| j_callV (v := some (vR v)) (as := [vI (f1_2 + 1)]) dJx4a65c_grow_d5877_7 kc_Jx4a65c_69 rfl rfl (k_is_o o1) (by decide) (Nat.le_of_ble_eq_true rfl) c (j_pick [] rfl K), q⟩
theorem bJx4a65c_grow_d5877_10 {h0 h : k_H} {Q : k_H → k_R → Prop} {s0 : Option Nat} (q : Q h (.inl (some (vR s0)))) : k_X (jJx4a65c_grow_d5877 G l h0) h 10 [] [vR s0] Q := by
  exact ⟨_, _, j_aret dJx4a65c_grow_d5877_10 rfl (Or.inr ⟨_, rfl⟩), q⟩
theorem eJx4a65c_size_8abf5 {G : k_G} {l : Launch} (hfl : l.flags = flags0) {h : k_H} {Q : k_H → k_R → Prop} {x0 : Nat} (K : k_X (jJx4a65c_size_8abf5 G l h) h 0 [(0, vR (some x0))] [] Q) : k_ct (tJx4a65c_size_8abf5 G l) [vR (some x0)] h Q := by
  obtain ⟨h', r, K, q⟩ := K
  exact ⟨h', r, k_CtOf (by decide +kernel) (Nat.le_of_ble_eq_true rfl) K hfl, q⟩

theorem bJx4a65c_size_8abf5_0 {h0 h : k_H} {Q : k_H → k_R → Prop} {x0 : Nat} {f1_2 : Int32} {fs1 : List k_V} (o1 : h.1 x0 = some (k_o 2 fs1)) (g1_2 : fs1[2]? = some (vI f1_2)) (q : Q h (.inl (some (vI f1_2)))) : k_X (jJx4a65c_size_8abf5 G l h0) h 0 [(0, vR (some x0))] [] Q := by
  exact ⟨_, _, j_aload_n dJx4a65c_size_8abf5_0 rfl rfl <| j_getf dJx4a65c_size_8abf5_1 kf_Jx4a65c_48 o1 g1_2 <| j_iret dJx4a65c_size_8abf5_4 rfl, q⟩
theorem eJx4a65c_elementData_915e3 {G : k_G} {l : Launch} (hfl : l.flags = flags0) {h : k_H} {Q : k_H → k_R → Prop} {x0 : Nat} {x1 : Int32} (K : k_X (jJx4a65c_elementData_915e3 G l h) h 0 [(0, vR (some x0)), (1, vI x1)] [] Q) : k_ct (tJx4a65c_elementData_915e3 G l) [vR (some x0), vI x1] h Q := by
  obtain ⟨h', r, K, q⟩ := K
  exact ⟨h', r, k_CtOf (by decide +kernel) (Nat.le_of_ble_eq_true rfl) K hfl, q⟩

theorem bJx4a65c_elementData_915e3_0 {h0 h : k_H} {Q : k_H → k_R → Prop} {x0 f1_1 : Nat} {x1 : Int32} {fs1 : List k_V} (o1 : h.1 x0 = some (k_o 2 fs1)) (g1_1 : fs1[1]? = some (vR (some f1_1))) {n2 : Nat} {w2 : Nat → Option Nat} (o2 : h.1 f1_1 = some (k_q n2 w2)) (y3 : vp_in x1 n2) (q : Q h (.inl (some (vR (w2 (x1).toNatClampNeg))))) : k_X (jJx4a65c_elementData_915e3 G l h0) h 0 [(0, vR (some x0)), (1, vI x1)] [] Q := by
  exact ⟨_, _, j_aload_n dJx4a65c_elementData_915e3_0 rfl rfl <| j_getf dJx4a65c_elementData_915e3_1 kf_Jx4a65c_9 o1 g1_1 <| j_iload_n dJx4a65c_elementData_915e3_4 rfl rfl <| j_aald dJx4a65c_elementData_915e3_5 o2 y3 <| j_aret dJx4a65c_elementData_915e3_6 rfl (Or.inl ⟨_, rfl⟩), q⟩
theorem eJx4a65c_get_915e3 {G : k_G} {l : Launch} (hfl : l.flags = flags0) {h : k_H} {Q : k_H → k_R → Prop} {x0 : Nat} {x1 : Int32} (K : k_X (jJx4a65c_get_915e3 G l h) h 0 [(0, vR (some x0)), (1, vI x1)] [] Q) : k_ct (tJx4a65c_get_915e3 G l) [vR (some x0), vI x1] h Q := by
  obtain ⟨h', r, K, q⟩ := K
  exact ⟨h', r, k_CtOf (by decide +kernel) (Nat.le_of_ble_eq_true rfl) K hfl, q⟩

theorem bJx4a65c_get_915e3_0 {h0 h : k_H} {Q : k_H → k_R → Prop} {x0 : Nat} {x1 f1_2 : Int32} {fs1 : List k_V} (o1 : h.1 x0 = some (k_o 2 fs1)) (g1_2 : fs1[2]? = some (vI f1_2)) {P : k_H → Int32 → Prop} (c : k_cti (tJ15_checkIndex_7cf53 G l) [vI x1, vI f1_2] h P) (K : ∀ h1 v, P h1 v → k_X (jJx4a65c_get_915e3 G l h0) h1 8 [(0, vR (some x0)), (1, vI x1)] [vI v] Q) : k_X (jJx4a65c_get_915e3 G l h0) h 0 [(0, vR (some x0)), (1, vI x1)] [] Q := by
  obtain ⟨h1, v, c, p⟩ := c
  obtain ⟨h', r, K, q⟩ := K h1 v p
  exact ⟨h', r, j_iload_n dJx4a65c_get_915e3_0 rfl rfl <| j_aload_n dJx4a65c_get_915e3_1 rfl rfl <| j_getf dJx4a65c_get_915e3_2 kf_Jx4a65c_48 o1 g1_2 <| j_callS (v := some (vI v)) (as := [vI x1, vI f1_2]) dJx4a65c_get_915e3_5 kc_Jx4a65c_118 rfl rfl (by decide) (Nat.le_of_ble_eq_true rfl) c K, q⟩
theorem bJx4a65c_get_915e3_8 {h0 h : k_H} {Q : k_H → k_R → Prop} {x0 : Nat} {x1 s0 : Int32} (w : k_is h x0 2) {P : k_H → Option Nat → Prop} (c : k_ctr (tJx4a65c_elementData_915e3 G l) [vR (some x0), vI x1] h P) (K : ∀ h1 v, P h1 v → k_X (jJx4a65c_get_915e3 G l h0) h1 14 [] [vR v] Q) : k_X (jJx4a65c_get_915e3 G l h0) h 8 [(0, vR (some x0)), (1, vI x1)] [vI s0] Q := by
  obtain ⟨h1, v, c, p⟩ := c
  obtain ⟨h', r, K, q⟩ := K h1 v p
  exact ⟨h', r, j_pop dJx4a65c_get_915e3_8 rfl <| j_aload_n dJx4a65c_get_915e3_9 rfl rfl <| j_iload_n dJx4a65c_get_915e3_10 rfl rfl <| j_callV (v := some (vR v)) (as := [vI x1]) dJx4a65c_get_915e3_11 kc_Jx4a65c_123 rfl rfl w (by decide) (Nat.le_of_ble_eq_true rfl) c (j_pick [] rfl K), q⟩
theorem bJx4a65c_get_915e3_14 {h0 h : k_H} {Q : k_H → k_R → Prop} {s0 : Option Nat} (q : Q h (.inl (some (vR s0)))) : k_X (jJx4a65c_get_915e3 G l h0) h 14 [] [vR s0] Q := by
  exact ⟨_, _, j_aret dJx4a65c_get_915e3_14 rfl (Or.inl ⟨_, rfl⟩), q⟩
theorem eJx4a65c_add_72be8 {G : k_G} {l : Launch} (hfl : l.flags = flags0) {h : k_H} {Q : k_H → k_R → Prop} {x0 : Nat} {x1 : Option Nat} {x2 : Option Nat} {x3 : Int32} (K : k_X (jJx4a65c_add_72be8 G l h) h 0 [(0, vR (some x0)), (1, vR x1), (2, vR x2), (3, vI x3)] [] Q) : k_ct (tJx4a65c_add_72be8 G l) [vR (some x0), vR x1, vR x2, vI x3] h Q := by
  obtain ⟨h', r, K, q⟩ := K
  exact ⟨h', r, k_CtOf (by decide +kernel) (Nat.le_of_ble_eq_true rfl) K hfl, q⟩

theorem bJx4a65c_add_72be8_0 {h0 h : k_H} {Q : k_H → k_R → Prop} {x0 : Nat} {x1 x2 : Option Nat} {x3 : Int32} (K : k_X (jJx4a65c_add_72be8 G l h0) h 2 [(0, vR (some x0)), (1, vR x1), (2, vR x2), (3, vI x3)] [vR x2, vI x3] Q) : k_X (jJx4a65c_add_72be8 G l h0) h 0 [(0, vR (some x0)), (1, vR x1), (2, vR x2), (3, vI x3)] [] Q := by
  obtain ⟨h', r, K, q⟩ := K
  exact ⟨h', r, j_iload_n dJx4a65c_add_72be8_0 rfl rfl <| j_aload_n dJx4a65c_add_72be8_1 rfl rfl <| K, q⟩
theorem bJx4a65c_add_72be8_2 {h0 h : k_H} {Q : k_H → k_R → Prop} {x0 s1 : Nat} {x1 x2 : Option Nat} {x3 s0 : Int32} {n1 : Nat} {w1 : Nat → Option Nat} (o1 : h.1 s1 = some (k_q n1 w1)) (K : k_X (jJx4a65c_add_72be8 G l h0) h 3 [(0, vR (some x0)), (1, vR x1), (2, vR x2), (3, vI x3)] [vI (nI n1), vI s0] Q) : k_X (jJx4a65c_add_72be8 G l h0) h 2 [(0, vR (some x0)), (1, vR x1), (2, vR x2), (3, vI x3)] [vR (some s1), vI s0] Q := by
  obtain ⟨h', r, K, q⟩ := K
  exact ⟨h', r, j_qlen dJx4a65c_add_72be8_2 o1 <| K, q⟩
theorem bJx4a65c_add_72be8_2z {h0 h : k_H} {Q : k_H → k_R → Prop} {x0  : Nat} {x1 x2 : Option Nat} {x3 s0 : Int32} (K : k_X (jJx4a65c_add_72be8 G l h0) h 3 [(0, vR (some x0)), (1, vR x1), (2, vR x2), (3, vI x3)] [vI 0, vI s0] Q) : k_X (jJx4a65c_add_72be8 G l h0) h 2 [(0, vR (some x0)), (1, vR x1), (2, vR x2), (3, vI x3)] [vR (some (k_z0 G)), vI s0] Q := by
  obtain ⟨h', r, K, q⟩ := K
  exact ⟨h', r, j_zlen dJx4a65c_add_72be8_2 <| K, q⟩
theorem bJx4a65c_add_72be8_3 {h0 h : k_H} {Q : k_H → k_R → Prop} {x0 : Nat} {x1 x2 : Option Nat} {x3 s0 s1 : Int32} (K1 : ¬ (s0 = s1) → k_X (jJx4a65c_add_72be8 G l h0) h 11 [(0, vR (some x0)), (1, vR x1), (2, vR x2), (3, vI x3)] [] Q) (K2 : s0 = s1 → k_X (jJx4a65c_add_72be8 G l h0) h 6 [(0, vR (some x0)), (1, vR x1), (3, vI x3)] [] Q) : k_X (jJx4a65c_add_72be8 G l h0) h 3 [(0, vR (some x0)), (1, vR x1), (2, vR x2), (3, vI x3)] [vI s1, vI s0] Q := by
  by_cases hc : s0 = s1
  · skip
    obtain ⟨h', r, K, q⟩ := K2 hc
    exact ⟨h', r, j_icmp_ne_f dJx4a65c_add_72be8_3 11 (by decide) hc (j_pick [0, 1, 3] rfl K), q⟩
  · skip
    obtain ⟨h', r, K, q⟩ := K1 hc
    exact ⟨h', r, j_icmp_ne_t (tgt := 11) dJx4a65c_add_72be8_3 (by decide) hc K, q⟩
theorem bJx4a65c_add_72be8_6 {h0 h : k_H} {Q : k_H → k_R → Prop} {x0 : Nat} {x1 : Option Nat} {x3 : Int32} (w : k_is h x0 2) {P : k_H → Option Nat → Prop} (c : k_ctr (tJx4a65c_grow_d5877 G l) [vR (some x0)] h P) (K : ∀ h1 v, P h1 v → k_X (jJx4a65c_add_72be8 G l h0) h1 10 [(0, vR (some x0)), (1, vR x1), (3, vI x3)] [vR v] Q) : k_X (jJx4a65c_add_72be8 G l h0) h 6 [(0, vR (some x0)), (1, vR x1), (3, vI x3)] [] Q := by
  obtain ⟨h1, v, c, p⟩ := c
  obtain ⟨h', r, K, q⟩ := K h1 v p
  exact ⟨h', r, j_aload_n dJx4a65c_add_72be8_6 rfl rfl <| j_callV (v := some (vR v)) (as := []) dJx4a65c_add_72be8_7 kc_Jx4a65c_129 rfl rfl w (by decide) (Nat.le_of_ble_eq_true rfl) c K, q⟩
theorem bJx4a65c_add_72be8_10 {h0 h : k_H} {Q : k_H → k_R → Prop} {x0 : Nat} {x1 s0 : Option Nat} {x3 : Int32} (K : k_X (jJx4a65c_add_72be8 G l h0) h 11 [(0, vR (some x0)), (1, vR x1), (2, vR s0), (3, vI x3)] [] Q) : k_X (jJx4a65c_add_72be8 G l h0) h 10 [(0, vR (some x0)), (1, vR x1), (3, vI x3)] [vR s0] Q := by
  obtain ⟨h', r, K, q⟩ := K
  exact ⟨h', r, j_astore_n dJx4a65c_add_72be8_10 rfl (by decide) rfl <| K, q⟩
theorem bJx4a65c_add_72be8_11 {h0 h : k_H} {Q : k_H → k_R → Prop} {x0 x2 : Nat} {x1 : Option Nat} {x3 : Int32} {n1 : Nat} {w1 : Nat → Option Nat} (o1 : h.1 x2 = some (k_q n1 w1)) (y2 : vp_in x3 n1) (y3 : ∀ b, x1 = some b → ∃ ci, k_is h b ci ∧ k_toObj ci) (K : k_X (jJx4a65c_add_72be8 G l h0) (k_up h x2 (k_q n1 (va_up w1 (x3).toNatClampNeg x1))) 15 [(0, vR (some x0)), (3, vI x3)] [] Q) : k_X (jJx4a65c_add_72be8 G l h0) h 11 [(0, vR (some x0)), (1, vR x1), (2, vR (some x2)), (3, vI x3)] [] Q := by
  obtain ⟨h', r, K, q⟩ := K
  exact ⟨h', r, j_aload_n dJx4a65c_add_72be8_11 rfl rfl <| j_iload_n dJx4a65c_add_72be8_12 rfl rfl <| j_aload_n dJx4a65c_add_72be8_13 rfl rfl <| j_aast (v := x1) dJx4a65c_add_72be8_14 o1 y2 y3 <| (j_pick [0, 3] rfl K), q⟩
theorem bJx4a65c_add_72be8_15 {h0 h : k_H} {Q : k_H → k_R → Prop} {x0 : Nat} {x3 : Int32} {fs1 : List k_V} (o1 : h.1 x0 = some (k_o 2 fs1)) (z1 : fs1.length = 3) (K : k_X (jJx4a65c_add_72be8 G l h0) (k_up h x0 (k_o 2 (fs1.set 2 (vI (x3 + 1))))) 22 [] [] Q) : k_X (jJx4a65c_add_72be8 G l h0) h 15 [(0, vR (some x0)), (3, vI x3)] [] Q := by
  obtain ⟨h', r, K, q⟩ := K
  exact ⟨h', r, j_aload_n dJx4a65c_add_72be8_15 rfl rfl <| j_iload_n dJx4a65c_add_72be8_16 rfl rfl <| j_iconst (v := 1) dJx4a65c_add_72be8_17 (by decide) <| j_iadd dJx4a65c_add_72be8_18 <| j_putf dJx4a65c_add_72be8_19 kp_Jx4a65c_48 o1 (k_ln z1 (by decide)) (k_fit_i _) rfl <| (j_pick [] rfl K), q⟩
theorem bJx4a65c_add_72be8_22 {h0 h : k_H} {Q : k_H → k_R → Prop} (q : Q h (.inl none)) : k_X (jJx4a65c_add_72be8 G l h0) h 22 [] [] Q := by
  exact ⟨_, _, j_vret dJx4a65c_add_72be8_22 rfl, q⟩
theorem eJx4a65c_add_9ea2d {G : k_G} {l : Launch} (hfl : l.flags = flags0) {h : k_H} {Q : k_H → k_R → Prop} {x0 : Nat} {x1 : Option Nat} (K : k_X (jJx4a65c_add_9ea2d G l h) h 0 [(0, vR (some x0)), (1, vR x1)] [] Q) : k_ct (tJx4a65c_add_9ea2d G l) [vR (some x0), vR x1] h Q := by
  obtain ⟨h', r, K, q⟩ := K
  exact ⟨h', r, k_CtOf (by decide +kernel) (Nat.le_of_ble_eq_true rfl) K hfl, q⟩

theorem bJx4a65c_add_9ea2d_0 {h0 h : k_H} {Q : k_H → k_R → Prop} {x0 : Nat} {x1 : Option Nat} {f1_0 : Int32} {fs1 : List k_V} (o1 : h.1 x0 = some (k_o 2 fs1)) (g1_0 : fs1[0]? = some (vI f1_0)) (z1 : fs1.length = 3) (K : k_X (jJx4a65c_add_9ea2d G l h0) (k_up h x0 (k_o 2 (fs1.set 0 (vI (f1_0 + 1))))) 10 [(0, vR (some x0)), (1, vR x1)] [] Q) : k_X (jJx4a65c_add_9ea2d G l h0) h 0 [(0, vR (some x0)), (1, vR x1)] [] Q := by
  obtain ⟨h', r, K, q⟩ := K
  exact ⟨h', r, j_aload_n dJx4a65c_add_9ea2d_0 rfl rfl <| j_dup dJx4a65c_add_9ea2d_1 rfl <| j_getfS dJx4a65c_add_9ea2d_2 kfS_Jx4a65c_63 o1 g1_0 <| j_iconst (v := 1) dJx4a65c_add_9ea2d_5 (by decide) <| j_iadd dJx4a65c_add_9ea2d_6 <| j_putfS dJx4a65c_add_9ea2d_7 kpS_Jx4a65c_63 o1 (k_ln z1 (by decide)) (k_fit_i _) rfl <| K, q⟩
theorem bJx4a65c_add_9ea2d_10 {h0 h : k_H} {Q : k_H → k_R → Prop} {x0 : Nat} {x1 f1_1 : Option Nat} {f1_2 : Int32} {fs1 : List k_V} (o1 : h.1 x0 = some (k_o 2 fs1)) (g1_1 : fs1[1]? = some (vR f1_1)) (g1_2 : fs1[2]? = some (vI f1_2)) {P : k_H → Prop} (c : k_ctv (tJx4a65c_add_72be8 G l) [vR (some x0), vR x1, vR f1_1, vI f1_2] h P) (K : ∀ h1, P h1 → k_X (jJx4a65c_add_9ea2d G l h0) h1 23 [] [] Q) : k_X (jJx4a65c_add_9ea2d G l h0) h 10 [(0, vR (some x0)), (1, vR x1)] [] Q := by
  obtain ⟨h1, c, p⟩ := c
  obtain ⟨h', r, K, q⟩ := K h1 p
  exact ⟨h', r, j_aload_n dJx4a65c_add_9ea2d_10 rfl rfl <| j_aload_n dJx4a65c_add_9ea2d_11 rfl rfl <| j_aload_n dJx4a65c_add_9ea2d_12 rfl rfl <| j_getf dJx4a65c_add_9ea2d_13 kf_Jx4a65c_9 o1 g1_1 <| j_aload_n dJx4a65c_add_9ea2d_16 rfl rfl <| j_getf dJx4a65c_add_9ea2d_17 kf_Jx4a65c_48 o1 g1_2 <| j_callV (v := none) (as := [vR x1, vR f1_1, vI f1_2]) dJx4a65c_add_9ea2d_20 kc_Jx4a65c_131 rfl rfl (k_is_o o1) (by decide) (Nat.le_of_ble_eq_true rfl) c (j_pick [] rfl K), q⟩
theorem bJx4a65c_add_9ea2d_23 {h0 h : k_H} {Q : k_H → k_R → Prop} (q : Q h (.inl (some (vI 1)))) : k_X (jJx4a65c_add_9ea2d G l h0) h 23 [] [] Q := by
  exact ⟨_, _, j_iconst (v := 1) dJx4a65c_add_9ea2d_23 (by decide) <| j_zret dJx4a65c_add_9ea2d_24 rfl (by decide), q⟩
theorem eJx4a65c_add_7a177 {G : k_G} {l : Launch} (hfl : l.flags = flags0) {h : k_H} {Q : k_H → k_R → Prop} {x0 : Nat} {x1 : Int32} {x2 : Option Nat} (K : k_X (jJx4a65c_add_7a177 G l h) h 0 [(0, vR (some x0)), (1, vI x1), (2, vR x2)] [] Q) : k_ct (tJx4a65c_add_7a177 G l) [vR (some x0), vI x1, vR x2] h Q := by
  obtain ⟨h', r, K, q⟩ := K
  exact ⟨h', r, k_CtOf (by decide +kernel) (Nat.le_of_ble_eq_true rfl) K hfl, q⟩

theorem bJx4a65c_add_7a177_0 {h0 h : k_H} {Q : k_H → k_R → Prop} {x0 : Nat} {x1 : Int32} {x2 : Option Nat} (w : k_is h x0 2) {P : k_H → Prop} (c : k_ctv (tJx4a65c_rangeCheckForAdd_d00df G l) [vR (some x0), vI x1] h P) (K : ∀ h1, P h1 → k_X (jJx4a65c_add_7a177 G l h0) h1 5 [(0, vR (some x0)), (1, vI x1), (2, vR x2)] [] Q) : k_X (jJx4a65c_add_7a177 G l h0) h 0 [(0, vR (some x0)), (1, vI x1), (2, vR x2)] [] Q := by
  obtain ⟨h1, c, p⟩ := c
  obtain ⟨h', r, K, q⟩ := K h1 p
  exact ⟨h', r, j_aload_n dJx4a65c_add_7a177_0 rfl rfl <| j_iload_n dJx4a65c_add_7a177_1 rfl rfl <| j_callV (v := none) (as := [vI x1]) dJx4a65c_add_7a177_2 kc_Jx4a65c_135 rfl rfl w (by decide) (Nat.le_of_ble_eq_true rfl) c K, q⟩
theorem bJx4a65c_add_7a177_5 {h0 h : k_H} {Q : k_H → k_R → Prop} {x0 : Nat} {x1 f1_0 : Int32} {x2 : Option Nat} {fs1 : List k_V} (o1 : h.1 x0 = some (k_o 2 fs1)) (g1_0 : fs1[0]? = some (vI f1_0)) (z1 : fs1.length = 3) (K : k_X (jJx4a65c_add_7a177 G l h0) (k_up h x0 (k_o 2 (fs1.set 0 (vI (f1_0 + 1))))) 15 [(0, vR (some x0)), (1, vI x1), (2, vR x2)] [] Q) : k_X (jJx4a65c_add_7a177 G l h0) h 5 [(0, vR (some x0)), (1, vI x1), (2, vR x2)] [] Q := by
  obtain ⟨h', r, K, q⟩ := K
  exact ⟨h', r, j_aload_n dJx4a65c_add_7a177_5 rfl rfl <| j_dup dJx4a65c_add_7a177_6 rfl <| j_getfS dJx4a65c_add_7a177_7 kfS_Jx4a65c_63 o1 g1_0 <| j_iconst (v := 1) dJx4a65c_add_7a177_10 (by decide) <| j_iadd dJx4a65c_add_7a177_11 <| j_putfS dJx4a65c_add_7a177_12 kpS_Jx4a65c_63 o1 (k_ln z1 (by decide)) (k_fit_i _) rfl <| K, q⟩
theorem bJx4a65c_add_7a177_15 {h0 h : k_H} {Q : k_H → k_R → Prop} {x0 : Nat} {x1 f1_2 : Int32} {x2 f1_1 : Option Nat} {fs1 : List k_V} (o1 : h.1 x0 = some (k_o 2 fs1)) (g1_2 : fs1[2]? = some (vI f1_2)) (g1_1 : fs1[1]? = some (vR f1_1)) (K : k_X (jJx4a65c_add_7a177 G l h0) h 28 [(0, vR (some x0)), (1, vI x1), (2, vR x2), (3, vI f1_2), (4, vR f1_1)] [vR f1_1, vI f1_2] Q) : k_X (jJx4a65c_add_7a177 G l h0) h 15 [(0, vR (some x0)), (1, vI x1), (2, vR x2)] [] Q := by
  obtain ⟨h', r, K, q⟩ := K
  exact ⟨h', r, j_aload_n dJx4a65c_add_7a177_15 rfl rfl <| j_getf dJx4a65c_add_7a177_16 kf_Jx4a65c_48 o1 g1_2 <| j_dup dJx4a65c_add_7a177_19 rfl <| j_istore_n dJx4a65c_add_7a177_20 rfl (by decide) rfl <| j_aload_n dJx4a65c_add_7a177_21 rfl rfl <| j_getf dJx4a65c_add_7a177_22 kf_Jx4a65c_9 o1 g1_1 <| j_dup dJx4a65c_add_7a177_25 rfl <| j_astore dJx4a65c_add_7a177_26 (by decide) rfl <| K, q⟩
theorem bJx4a65c_add_7a177_28 {h0 h : k_H} {Q : k_H → k_R → Prop} {x0 s1 : Nat} {x1 x3 s0 : Int32} {x2 x4 : Option Nat} {n1 : Nat} {w1 : Nat → Option Nat} (o1 : h.1 s1 = some (k_q n1 w1)) (K : k_X (jJx4a65c_add_7a177 G l h0) h 29 [(0, vR (some x0)), (1, vI x1), (2, vR x2), (3, vI x3), (4, vR x4)] [vI (nI n1), vI s0] Q) : k_X (jJx4a65c_add_7a177 G l h0) h 28 [(0, vR (some x0)), (1, vI x1), (2, vR x2), (3, vI x3), (4, vR x4)] [vR (some s1), vI s0] Q := by
  obtain ⟨h', r, K, q⟩ := K
  exact ⟨h', r, j_qlen dJx4a65c_add_7a177_28 o1 <| K, q⟩
theorem bJx4a65c_add_7a177_28z {h0 h : k_H} {Q : k_H → k_R → Prop} {x0  : Nat} {x1 x3 s0 : Int32} {x2 x4 : Option Nat} (K : k_X (jJx4a65c_add_7a177 G l h0) h 29 [(0, vR (some x0)), (1, vI x1), (2, vR x2), (3, vI x3), (4, vR x4)] [vI 0, vI s0] Q) : k_X (jJx4a65c_add_7a177 G l h0) h 28 [(0, vR (some x0)), (1, vI x1), (2, vR x2), (3, vI x3), (4, vR x4)] [vR (some (k_z0 G)), vI s0] Q := by
  obtain ⟨h', r, K, q⟩ := K
  exact ⟨h', r, j_zlen dJx4a65c_add_7a177_28 <| K, q⟩
theorem bJx4a65c_add_7a177_29 {h0 h : k_H} {Q : k_H → k_R → Prop} {x0 : Nat} {x1 x3 s0 s1 : Int32} {x2 x4 : Option Nat} (K1 : ¬ (s0 = s1) → k_X (jJx4a65c_add_7a177 G l h0) h 38 [(0, vR (some x0)), (1, vI x1), (2, vR x2), (3, vI x3), (4, vR x4)] [] Q) (K2 : s0 = s1 → k_X (jJx4a65c_add_7a177 G l h0) h 32 [(0, vR (some x0)), (1, vI x1), (2, vR x2), (3, vI x3)] [] Q) : k_X (jJx4a65c_add_7a177 G l h0) h 29 [(0, vR (some x0)), (1, vI x1), (2, vR x2), (3, vI x3), (4, vR x4)] [vI s1, vI s0] Q := by
  by_cases hc : s0 = s1
  · skip
    obtain ⟨h', r, K, q⟩ := K2 hc
    exact ⟨h', r, j_icmp_ne_f dJx4a65c_add_7a177_29 38 (by decide) hc (j_pick [0, 1, 2, 3] rfl K), q⟩
  · skip
    obtain ⟨h', r, K, q⟩ := K1 hc
    exact ⟨h', r, j_icmp_ne_t (tgt := 38) dJx4a65c_add_7a177_29 (by decide) hc K, q⟩
theorem bJx4a65c_add_7a177_32 {h0 h : k_H} {Q : k_H → k_R → Prop} {x0 : Nat} {x1 x3 : Int32} {x2 : Option Nat} (w : k_is h x0 2) {P : k_H → Option Nat → Prop} (c : k_ctr (tJx4a65c_grow_d5877 G l) [vR (some x0)] h P) (K : ∀ h1 v, P h1 v → k_X (jJx4a65c_add_7a177 G l h0) h1 36 [(0, vR (some x0)), (1, vI x1), (2, vR x2), (3, vI x3)] [vR v] Q) : k_X (jJx4a65c_add_7a177 G l h0) h 32 [(0, vR (some x0)), (1, vI x1), (2, vR x2), (3, vI x3)] [] Q := by
  obtain ⟨h1, v, c, p⟩ := c
  obtain ⟨h', r, K, q⟩ := K h1 v p
  exact ⟨h', r, j_aload_n dJx4a65c_add_7a177_32 rfl rfl <| j_callV (v := some (vR v)) (as := []) dJx4a65c_add_7a177_33 kc_Jx4a65c_129 rfl rfl w (by decide) (Nat.le_of_ble_eq_true rfl) c K, q⟩
theorem bJx4a65c_add_7a177_36 {h0 h : k_H} {Q : k_H → k_R → Prop} {x0 : Nat} {x1 x3 : Int32} {x2 s0 : Option Nat} (K : k_X (jJx4a65c_add_7a177 G l h0) h 38 [(0, vR (some x0)), (1, vI x1), (2, vR x2), (3, vI x3), (4, vR s0)] [] Q) : k_X (jJx4a65c_add_7a177 G l h0) h 36 [(0, vR (some x0)), (1, vI x1), (2, vR x2), (3, vI x3)] [vR s0] Q := by
  obtain ⟨h', r, K, q⟩ := K
  exact ⟨h', r, j_astore dJx4a65c_add_7a177_36 (by decide) rfl <| K, q⟩
theorem bJx4a65c_add_7a177_38 {h0 h : k_H} {Q : k_H → k_R → Prop} {x0 x4 : Nat} {x1 x3 : Int32} {x2 : Option Nat} {n1 : Nat} {w1 : Nat → Option Nat} (o1 : h.1 x4 = some (k_q n1 w1)) (p1 : ¬ (x1 : Int32) < 0) (p2 : ¬ (x1 + 1 : Int32) < 0) (p3 : ¬ (x3 - x1 : Int32) < 0) (p4 : (x1 : Int32).toNatClampNeg + (x3 - x1 : Int32).toNatClampNeg ≤ n1) (p5 : (x1 + 1 : Int32).toNatClampNeg + (x3 - x1 : Int32).toNatClampNeg ≤ n1) (p6 : ∀ i : Nat, i < (x3 - x1 : Int32).toNatClampNeg → ∀ z : Nat, w1 ((x1 : Int32).toNatClampNeg + i) = some z → ∃ ci, k_is h z ci ∧ k_toObj ci) (K : k_X (jJx4a65c_add_7a177 G l h0) (k_up h x4 (k_q n1 (va_cpy w1 w1 (x1 : Int32).toNatClampNeg (x1 + 1 : Int32).toNatClampNeg (x3 - x1 : Int32).toNatClampNeg))) 52 [(0, vR (some x0)), (1, vI x1), (2, vR x2), (3, vI x3), (4, vR (some x4))] [] Q) : k_X (jJx4a65c_add_7a177 G l h0) h 38 [(0, vR (some x0)), (1, vI x1), (2, vR x2), (3, vI x3), (4, vR (some x4))] [] Q := by
  obtain ⟨h', r, K, q⟩ := K
  exact ⟨h', r, j_aload dJx4a65c_add_7a177_38 rfl <| j_iload_n dJx4a65c_add_7a177_40 rfl rfl <| j_aload dJx4a65c_add_7a177_41 rfl <| j_iload_n dJx4a65c_add_7a177_43 rfl rfl <| j_iconst (v := 1) dJx4a65c_add_7a177_44 (by decide) <| j_iadd dJx4a65c_add_7a177_45 <| j_iload_n dJx4a65c_add_7a177_46 rfl rfl <| j_iload_n dJx4a65c_add_7a177_47 rfl rfl <| j_isub dJx4a65c_add_7a177_48 <| j_copy dJx4a65c_add_7a177_49 kx_Jx4a65c_112 kx_acn kx_acs kx_sys o1 o1 p1 p2 p3 p4 p5 p6 (by decide) (Nat.le_of_ble_eq_true rfl) <| K, q⟩
theorem bJx4a65c_add_7a177_52 {h0 h : k_H} {Q : k_H → k_R → Prop} {x0 x4 : Nat} {x1 x3 : Int32} {x2 : Option Nat} {n1 : Nat} {w1 : Nat → Option Nat} (o1 : h.1 x4 = some (k_q n1 w1)) (y2 : vp_in x1 n1) (y3 : ∀ b, x2 = some b → ∃ ci, k_is h b ci ∧ k_toObj ci) (K : k_X (jJx4a65c_add_7a177 G l h0) (k_up h x4 (k_q n1 (va_up w1 (x1).toNatClampNeg x2))) 57 [(0, vR (some x0)), (3, vI x3)] [] Q) : k_X (jJx4a65c_add_7a177 G l h0) h 52 [(0, vR (some x0)), (1, vI x1), (2, vR x2), (3, vI x3), (4, vR (some x4))] [] Q := by
  obtain ⟨h', r, K, q⟩ := K
  exact ⟨h', r, j_aload dJx4a65c_add_7a177_52 rfl <| j_iload_n dJx4a65c_add_7a177_54 rfl rfl <| j_aload_n dJx4a65c_add_7a177_55 rfl rfl <| j_aast (v := x2) dJx4a65c_add_7a177_56 o1 y2 y3 <| (j_pick [0, 3] rfl K), q⟩
theorem bJx4a65c_add_7a177_57 {h0 h : k_H} {Q : k_H → k_R → Prop} {x0 : Nat} {x3 : Int32} {fs1 : List k_V} (o1 : h.1 x0 = some (k_o 2 fs1)) (z1 : fs1.length = 3) (K : k_X (jJx4a65c_add_7a177 G l h0) (k_up h x0 (k_o 2 (fs1.set 2 (vI (x3 + 1))))) 64 [] [] Q) : k_X (jJx4a65c_add_7a177 G l h0) h 57 [(0, vR (some x0)), (3, vI x3)] [] Q := by
  obtain ⟨h', r, K, q⟩ := K
  exact ⟨h', r, j_aload_n dJx4a65c_add_7a177_57 rfl rfl <| j_iload_n dJx4a65c_add_7a177_58 rfl rfl <| j_iconst (v := 1) dJx4a65c_add_7a177_59 (by decide) <| j_iadd dJx4a65c_add_7a177_60 <| j_putf dJx4a65c_add_7a177_61 kp_Jx4a65c_48 o1 (k_ln z1 (by decide)) (k_fit_i _) rfl <| (j_pick [] rfl K), q⟩
theorem bJx4a65c_add_7a177_64 {h0 h : k_H} {Q : k_H → k_R → Prop} (q : Q h (.inl none)) : k_X (jJx4a65c_add_7a177 G l h0) h 64 [] [] Q := by
  exact ⟨_, _, j_vret dJx4a65c_add_7a177_64 rfl, q⟩
theorem eJx4a65c_remove_915e3 {G : k_G} {l : Launch} (hfl : l.flags = flags0) {h : k_H} {Q : k_H → k_R → Prop} {x0 : Nat} {x1 : Int32} (K : k_X (jJx4a65c_remove_915e3 G l h) h 0 [(0, vR (some x0)), (1, vI x1)] [] Q) : k_ct (tJx4a65c_remove_915e3 G l) [vR (some x0), vI x1] h Q := by
  obtain ⟨h', r, K, q⟩ := K
  exact ⟨h', r, k_CtOf (by decide +kernel) (Nat.le_of_ble_eq_true rfl) K hfl, q⟩

theorem bJx4a65c_remove_915e3_0 {h0 h : k_H} {Q : k_H → k_R → Prop} {x0 : Nat} {x1 f1_2 : Int32} {fs1 : List k_V} (o1 : h.1 x0 = some (k_o 2 fs1)) (g1_2 : fs1[2]? = some (vI f1_2)) {P : k_H → Int32 → Prop} (c : k_cti (tJ15_checkIndex_7cf53 G l) [vI x1, vI f1_2] h P) (K : ∀ h1 v, P h1 v → k_X (jJx4a65c_remove_915e3 G l h0) h1 8 [(0, vR (some x0)), (1, vI x1)] [vI v] Q) : k_X (jJx4a65c_remove_915e3 G l h0) h 0 [(0, vR (some x0)), (1, vI x1)] [] Q := by
  obtain ⟨h1, v, c, p⟩ := c
  obtain ⟨h', r, K, q⟩ := K h1 v p
  exact ⟨h', r, j_iload_n dJx4a65c_remove_915e3_0 rfl rfl <| j_aload_n dJx4a65c_remove_915e3_1 rfl rfl <| j_getf dJx4a65c_remove_915e3_2 kf_Jx4a65c_48 o1 g1_2 <| j_callS (v := some (vI v)) (as := [vI x1, vI f1_2]) dJx4a65c_remove_915e3_5 kc_Jx4a65c_118 rfl rfl (by decide) (Nat.le_of_ble_eq_true rfl) c K, q⟩
theorem bJx4a65c_remove_915e3_8 {h0 h : k_H} {Q : k_H → k_R → Prop} {x0 f1_1 : Nat} {x1 s0 : Int32} {fs1 : List k_V} (o1 : h.1 x0 = some (k_o 2 fs1)) (g1_1 : fs1[1]? = some (vR (some f1_1))) {n2 : Nat} {w2 : Nat → Option Nat} (o2 : h.1 f1_1 = some (k_q n2 w2)) (y3 : vp_in x1 n2) {P : k_H → Prop} (c : k_ctv (tJx4a65c_fastRemove_b59b0 G l) [vR (some x0), vR (some f1_1), vI x1] h P) (K : ∀ h1, P h1 → k_X (jJx4a65c_remove_915e3 G l h0) h1 24 [(3, vR (w2 (x1).toNatClampNeg))] [] Q) : k_X (jJx4a65c_remove_915e3 G l h0) h 8 [(0, vR (some x0)), (1, vI x1)] [vI s0] Q := by
  obtain ⟨h1, c, p⟩ := c
  obtain ⟨h', r, K, q⟩ := K h1 p
  exact ⟨h', r, j_pop dJx4a65c_remove_915e3_8 rfl <| j_aload_n dJx4a65c_remove_915e3_9 rfl rfl <| j_getf dJx4a65c_remove_915e3_10 kf_Jx4a65c_9 o1 g1_1 <| j_astore_n dJx4a65c_remove_915e3_13 rfl (by decide) rfl <| j_aload_n dJx4a65c_remove_915e3_14 rfl rfl <| j_iload_n dJx4a65c_remove_915e3_15 rfl rfl <| j_aald dJx4a65c_remove_915e3_16 o2 y3 <| j_astore_n dJx4a65c_remove_915e3_17 rfl (by decide) rfl <| j_aload_n dJx4a65c_remove_915e3_18 rfl rfl <| j_aload_n dJx4a65c_remove_915e3_19 rfl rfl <| j_iload_n dJx4a65c_remove_915e3_20 rfl rfl <| j_callV (v := none) (as := [vR (some f1_1), vI x1]) dJx4a65c_remove_915e3_21 kc_Jx4a65c_144 rfl rfl (k_is_o o1) (by decide) (Nat.le_of_ble_eq_true rfl) c (j_pick [3] rfl K), q⟩
theorem bJx4a65c_remove_915e3_24 {h0 h : k_H} {Q : k_H → k_R → Prop} {x3 : Option Nat} (q : Q h (.inl (some (vR x3)))) : k_X (jJx4a65c_remove_915e3 G l h0) h 24 [(3, vR x3)] [] Q := by
  exact ⟨_, _, j_aload_n dJx4a65c_remove_915e3_24 rfl rfl <| j_aret dJx4a65c_remove_915e3_25 rfl (Or.inl ⟨_, rfl⟩), q⟩
theorem eJx4a65c_fastRemove_b59b0 {G : k_G} {l : Launch} (hfl : l.flags = flags0) {h : k_H} {Q : k_H → k_R → Prop} {x0 : Nat} {x1 : Option Nat} {x2 : Int32} (K : k_X (jJx4a65c_fastRemove_b59b0 G l h) h 0 [(0, vR (some x0)), (1, vR x1), (2, vI x2)] [] Q) : k_ct (tJx4a65c_fastRemove_b59b0 G l) [vR (some x0), vR x1, vI x2] h Q := by
  obtain ⟨h', r, K, q⟩ := K
  exact ⟨h', r, k_CtOf (by decide +kernel) (Nat.le_of_ble_eq_true rfl) K hfl, q⟩

theorem bJx4a65c_fastRemove_b59b0_0 {h0 h : k_H} {Q : k_H → k_R → Prop} {x0 : Nat} {x1 : Option Nat} {x2 f1_0 : Int32} {fs1 : List k_V} (o1 : h.1 x0 = some (k_o 2 fs1)) (g1_0 : fs1[0]? = some (vI f1_0)) (z1 : fs1.length = 3) (K : k_X (jJx4a65c_fastRemove_b59b0 G l h0) (k_up h x0 (k_o 2 (fs1.set 0 (vI (f1_0 + 1))))) 10 [(0, vR (some x0)), (1, vR x1), (2, vI x2)] [] Q) : k_X (jJx4a65c_fastRemove_b59b0 G l h0) h 0 [(0, vR (some x0)), (1, vR x1), (2, vI x2)] [] Q := by
  obtain ⟨h', r, K, q⟩ := K
  exact ⟨h', r, j_aload_n dJx4a65c_fastRemove_b59b0_0 rfl rfl <| j_dup dJx4a65c_fastRemove_b59b0_1 rfl <| j_getfS dJx4a65c_fastRemove_b59b0_2 kfS_Jx4a65c_63 o1 g1_0 <| j_iconst (v := 1) dJx4a65c_fastRemove_b59b0_5 (by decide) <| j_iadd dJx4a65c_fastRemove_b59b0_6 <| j_putfS dJx4a65c_fastRemove_b59b0_7 kpS_Jx4a65c_63 o1 (k_ln z1 (by decide)) (k_fit_i _) rfl <| K, q⟩
theorem bJx4a65c_fastRemove_b59b0_10 {h0 h : k_H} {Q : k_H → k_R → Prop} {x0 : Nat} {x1 : Option Nat} {x2 f1_2 : Int32} {fs1 : List k_V} (o1 : h.1 x0 = some (k_o 2 fs1)) (g1_2 : fs1[2]? = some (vI f1_2)) (K1 : (f1_2 - 1) ≤ x2 → k_X (jJx4a65c_fastRemove_b59b0 G l h0) h 34 [(0, vR (some x0)), (1, vR x1), (3, vI (f1_2 - 1))] [] Q) (K2 : ¬ ((f1_2 - 1) ≤ x2) → k_X (jJx4a65c_fastRemove_b59b0 G l h0) h 22 [(0, vR (some x0)), (1, vR x1), (2, vI x2), (3, vI (f1_2 - 1))] [] Q) : k_X (jJx4a65c_fastRemove_b59b0 G l h0) h 10 [(0, vR (some x0)), (1, vR x1), (2, vI x2)] [] Q := by
  by_cases hc : (f1_2 - 1) ≤ x2
  · skip
    obtain ⟨h', r, K, q⟩ := K1 hc
    exact ⟨h', r, j_aload_n dJx4a65c_fastRemove_b59b0_10 rfl rfl <| j_getf dJx4a65c_fastRemove_b59b0_11 kf_Jx4a65c_48 o1 g1_2 <| j_iconst (v := 1) dJx4a65c_fastRemove_b59b0_14 (by decide) <| j_isub dJx4a65c_fastRemove_b59b0_15 <| j_dup dJx4a65c_fastRemove_b59b0_16 rfl <| j_istore_n dJx4a65c_fastRemove_b59b0_17 rfl (by decide) rfl <| j_iload_n dJx4a65c_fastRemove_b59b0_18 rfl rfl <| j_icmp_le_t (tgt := 34) dJx4a65c_fastRemove_b59b0_19 (by decide) hc (j_pick [0, 1, 3] rfl K), q⟩
  · skip
    obtain ⟨h', r, K, q⟩ := K2 hc
    exact ⟨h', r, j_aload_n dJx4a65c_fastRemove_b59b0_10 rfl rfl <| j_getf dJx4a65c_fastRemove_b59b0_11 kf_Jx4a65c_48 o1 g1_2 <| j_iconst (v := 1) dJx4a65c_fastRemove_b59b0_14 (by decide) <| j_isub dJx4a65c_fastRemove_b59b0_15 <| j_dup dJx4a65c_fastRemove_b59b0_16 rfl <| j_istore_n dJx4a65c_fastRemove_b59b0_17 rfl (by decide) rfl <| j_iload_n dJx4a65c_fastRemove_b59b0_18 rfl rfl <| j_icmp_le_f dJx4a65c_fastRemove_b59b0_19 34 (by decide) hc K, q⟩
theorem bJx4a65c_fastRemove_b59b0_22 {h0 h : k_H} {Q : k_H → k_R → Prop} {x0 x1 : Nat} {x2 x3 : Int32} {n1 : Nat} {w1 : Nat → Option Nat} (o1 : h.1 x1 = some (k_q n1 w1)) (p1 : ¬ (x2 + 1 : Int32) < 0) (p2 : ¬ (x2 : Int32) < 0) (p3 : ¬ (x3 - x2 : Int32) < 0) (p4 : (x2 + 1 : Int32).toNatClampNeg + (x3 - x2 : Int32).toNatClampNeg ≤ n1) (p5 : (x2 : Int32).toNatClampNeg + (x3 - x2 : Int32).toNatClampNeg ≤ n1) (p6 : ∀ i : Nat, i < (x3 - x2 : Int32).toNatClampNeg → ∀ z : Nat, w1 ((x2 + 1 : Int32).toNatClampNeg + i) = some z → ∃ ci, k_is h z ci ∧ k_toObj ci) (K : k_X (jJx4a65c_fastRemove_b59b0 G l h0) (k_up h x1 (k_q n1 (va_cpy w1 w1 (x2 + 1 : Int32).toNatClampNeg (x2 : Int32).toNatClampNeg (x3 - x2 : Int32).toNatClampNeg))) 34 [(0, vR (some x0)), (1, vR (some x1)), (3, vI x3)] [] Q) : k_X (jJx4a65c_fastRemove_b59b0 G l h0) h 22 [(0, vR (some x0)), (1, vR (some x1)), (2, vI x2), (3, vI x3)] [] Q := by
  obtain ⟨h', r, K, q⟩ := K
  exact ⟨h', r, j_aload_n dJx4a65c_fastRemove_b59b0_22 rfl rfl <| j_iload_n dJx4a65c_fastRemove_b59b0_23 rfl rfl <| j_iconst (v := 1) dJx4a65c_fastRemove_b59b0_24 (by decide) <| j_iadd dJx4a65c_fastRemove_b59b0_25 <| j_aload_n dJx4a65c_fastRemove_b59b0_26 rfl rfl <| j_iload_n dJx4a65c_fastRemove_b59b0_27 rfl rfl <| j_iload_n dJx4a65c_fastRemove_b59b0_28 rfl rfl <| j_iload_n dJx4a65c_fastRemove_b59b0_29 rfl rfl <| j_isub dJx4a65c_fastRemove_b59b0_30 <| j_copy dJx4a65c_fastRemove_b59b0_31 kx_Jx4a65c_112 kx_acn kx_acs kx_sys o1 o1 p1 p2 p3 p4 p5 p6 (by decide) (Nat.le_of_ble_eq_true rfl) <| (j_pick [0, 1, 3] rfl K), q⟩
theorem bJx4a65c_fastRemove_b59b0_34 {h0 h : k_H} {Q : k_H → k_R → Prop} {x0 : Nat} {x1 : Option Nat} {x3 : Int32} {fs1 : List k_V} (o1 : h.1 x0 = some (k_o 2 fs1)) (z1 : fs1.length = 3) (K : k_X (jJx4a65c_fastRemove_b59b0 G l h0) (k_up h x0 (k_o 2 (fs1.set 2 (vI x3)))) 41 [] [vI x3, vR x1] Q) : k_X (jJx4a65c_fastRemove_b59b0 G l h0) h 34 [(0, vR (some x0)), (1, vR x1), (3, vI x3)] [] Q := by
  obtain ⟨h', r, K, q⟩ := K
  exact ⟨h', r, j_aload_n dJx4a65c_fastRemove_b59b0_34 rfl rfl <| j_aload_n dJx4a65c_fastRemove_b59b0_35 rfl rfl <| j_iload_n dJx4a65c_fastRemove_b59b0_36 rfl rfl <| j_dup_x1 dJx4a65c_fastRemove_b59b0_37 rfl rfl <| j_putf dJx4a65c_fastRemove_b59b0_38 kp_Jx4a65c_48 o1 (k_ln z1 (by decide)) (k_fit_i _) rfl <| (j_pick [] rfl K), q⟩
theorem bJx4a65c_fastRemove_b59b0_41 {h0 h : k_H} {Q : k_H → k_R → Prop} {s0 : Nat} {s1 : Int32} {n1 : Nat} {w1 : Nat → Option Nat} (o1 : h.1 s0 = some (k_q n1 w1)) (y2 : vp_in s1 n1) (K : k_X (jJx4a65c_fastRemove_b59b0 G l h0) (k_up h s0 (k_q n1 (va_up w1 (s1).toNatClampNeg none))) 43 [] [] Q) : k_X (jJx4a65c_fastRemove_b59b0 G l h0) h 41 [] [vI s1, vR (some s0)] Q := by
  obtain ⟨h', r, K, q⟩ := K
  exact ⟨h', r, j_null dJx4a65c_fastRemove_b59b0_41 <| j_aast (v := none) dJx4a65c_fastRemove_b59b0_42 o1 y2 (fun _ h => nomatch h) <| K, q⟩
theorem bJx4a65c_fastRemove_b59b0_43 {h0 h : k_H} {Q : k_H → k_R → Prop} (q : Q h (.inl none)) : k_X (jJx4a65c_fastRemove_b59b0 G l h0) h 43 [] [] Q := by
  exact ⟨_, _, j_vret dJx4a65c_fastRemove_b59b0_43 rfl, q⟩
theorem eJx4a65c_clear_da8c8 {G : k_G} {l : Launch} (hfl : l.flags = flags0) {h : k_H} {Q : k_H → k_R → Prop} {x0 : Nat} (K : k_X (jJx4a65c_clear_da8c8 G l h) h 0 [(0, vR (some x0))] [] Q) : k_ct (tJx4a65c_clear_da8c8 G l) [vR (some x0)] h Q := by
  obtain ⟨h', r, K, q⟩ := K
  exact ⟨h', r, k_CtOf (by decide +kernel) (Nat.le_of_ble_eq_true rfl) K hfl, q⟩

theorem bJx4a65c_clear_da8c8_0 {h0 h : k_H} {Q : k_H → k_R → Prop} {x0 : Nat} {f1_0 : Int32} {fs1 : List k_V} (o1 : h.1 x0 = some (k_o 2 fs1)) (g1_0 : fs1[0]? = some (vI f1_0)) (z1 : fs1.length = 3) (K : k_X (jJx4a65c_clear_da8c8 G l h0) (k_up h x0 (k_o 2 (fs1.set 0 (vI (f1_0 + 1))))) 10 [(0, vR (some x0))] [] Q) : k_X (jJx4a65c_clear_da8c8 G l h0) h 0 [(0, vR (some x0))] [] Q := by
  obtain ⟨h', r, K, q⟩ := K
  exact ⟨h', r, j_aload_n dJx4a65c_clear_da8c8_0 rfl rfl <| j_dup dJx4a65c_clear_da8c8_1 rfl <| j_getfS dJx4a65c_clear_da8c8_2 kfS_Jx4a65c_63 o1 g1_0 <| j_iconst (v := 1) dJx4a65c_clear_da8c8_5 (by decide) <| j_iadd dJx4a65c_clear_da8c8_6 <| j_putfS dJx4a65c_clear_da8c8_7 kpS_Jx4a65c_63 o1 (k_ln z1 (by decide)) (k_fit_i _) rfl <| K, q⟩
theorem bJx4a65c_clear_da8c8_10 {h0 h : k_H} {Q : k_H → k_R → Prop} {x0 : Nat} {f1_1 : Option Nat} {f1_2 : Int32} {fs1 : List k_V} (o1 : h.1 x0 = some (k_o 2 fs1)) (g1_1 : fs1[1]? = some (vR f1_1)) (g1_2 : fs1[2]? = some (vI f1_2)) (z1 : fs1.length = 3) (K : k_X (jJx4a65c_clear_da8c8 G l h0) (k_up h x0 (k_o 2 (fs1.set 2 (vI 0)))) 26 [(1, vR f1_1), (2, vI f1_2)] [vI 0] Q) : k_X (jJx4a65c_clear_da8c8 G l h0) h 10 [(0, vR (some x0))] [] Q := by
  obtain ⟨h', r, K, q⟩ := K
  exact ⟨h', r, j_aload_n dJx4a65c_clear_da8c8_10 rfl rfl <| j_getf dJx4a65c_clear_da8c8_11 kf_Jx4a65c_9 o1 g1_1 <| j_astore_n dJx4a65c_clear_da8c8_14 rfl (by decide) rfl <| j_aload_n dJx4a65c_clear_da8c8_15 rfl rfl <| j_getf dJx4a65c_clear_da8c8_16 kf_Jx4a65c_48 o1 g1_2 <| j_istore_n dJx4a65c_clear_da8c8_19 rfl (by decide) rfl <| j_aload_n dJx4a65c_clear_da8c8_20 rfl rfl <| j_iconst (v := 0) dJx4a65c_clear_da8c8_21 (by decide) <| j_dup_x1 dJx4a65c_clear_da8c8_22 rfl rfl <| j_putf dJx4a65c_clear_da8c8_23 kp_Jx4a65c_48 o1 (k_ln z1 (by decide)) (k_fit_i _) rfl <| (j_pick [1, 2] rfl K), q⟩
theorem bJx4a65c_clear_da8c8_26 {h0 h : k_H} {Q : k_H → k_R → Prop} {x1 : Option Nat} {x2 s0 : Int32} (K : k_X (jJx4a65c_clear_da8c8 G l h0) h 27 [(1, vR x1), (2, vI x2), (3, vI s0)] [] Q) : k_X (jJx4a65c_clear_da8c8 G l h0) h 26 [(1, vR x1), (2, vI x2)] [vI s0] Q := by
  obtain ⟨h', r, K, q⟩ := K
  exact ⟨h', r, j_istore_n dJx4a65c_clear_da8c8_26 rfl (by decide) rfl <| K, q⟩
theorem bJx4a65c_clear_da8c8_27 {h0 h : k_H} {Q : k_H → k_R → Prop} {x1 : Option Nat} {x2 x3 : Int32} (K1 : x2 ≤ x3 → k_X (jJx4a65c_clear_da8c8 G l h0) h 42 [] [] Q) (K2 : ¬ (x2 ≤ x3) → k_X (jJx4a65c_clear_da8c8 G l h0) h 32 [(1, vR x1), (2, vI x2), (3, vI x3)] [] Q) : k_X (jJx4a65c_clear_da8c8 G l h0) h 27 [(1, vR x1), (2, vI x2), (3, vI x3)] [] Q := by
  by_cases hc : x2 ≤ x3
  · skip
    obtain ⟨h', r, K, q⟩ := K1 hc
    exact ⟨h', r, j_iload_n dJx4a65c_clear_da8c8_27 rfl rfl <| j_iload_n dJx4a65c_clear_da8c8_28 rfl rfl <| j_icmp_ge_t (tgt := 42) dJx4a65c_clear_da8c8_29 (by decide) hc (j_pick [] rfl K), q⟩
  · skip
    obtain ⟨h', r, K, q⟩ := K2 hc
    exact ⟨h', r, j_iload_n dJx4a65c_clear_da8c8_27 rfl rfl <| j_iload_n dJx4a65c_clear_da8c8_28 rfl rfl <| j_icmp_ge_f dJx4a65c_clear_da8c8_29 42 (by decide) hc K, q⟩
theorem bJx4a65c_clear_da8c8_32 {h0 h : k_H} {Q : k_H → k_R → Prop} {x1 : Nat} {x2 x3 : Int32} {n1 : Nat} {w1 : Nat → Option Nat} (o1 : h.1 x1 = some (k_q n1 w1)) (y2 : vp_in x3 n1) (K : k_X (jJx4a65c_clear_da8c8 G l h0) (k_up h x1 (k_q n1 (va_up w1 (x3).toNatClampNeg none))) 36 [(1, vR (some x1)), (2, vI x2), (3, vI x3)] [] Q) : k_X (jJx4a65c_clear_da8c8 G l h0) h 32 [(1, vR (some x1)), (2, vI x2), (3, vI x3)] [] Q := by
  obtain ⟨h', r, K, q⟩ := K
  exact ⟨h', r, j_aload_n dJx4a65c_clear_da8c8_32 rfl rfl <| j_iload_n dJx4a65c_clear_da8c8_33 rfl rfl <| j_null dJx4a65c_clear_da8c8_34 <| j_aast (v := none) dJx4a65c_clear_da8c8_35 o1 y2 (fun _ h => nomatch h) <| K, q⟩
theorem bJx4a65c_clear_da8c8_36 {h0 h : k_H} {Q : k_H → k_R → Prop} {x1 : Option Nat} {x2 x3 : Int32} (K : k_X (jJx4a65c_clear_da8c8 G l h0) h 27 [(1, vR x1), (2, vI x2), (3, vI (x3 + 1))] [] Q) : k_X (jJx4a65c_clear_da8c8 G l h0) h 36 [(1, vR x1), (2, vI x2), (3, vI x3)] [] Q := by
  obtain ⟨h', r, K, q⟩ := K
  exact ⟨h', r, j_iinc (v := x3 + 1) dJx4a65c_clear_da8c8_36 rfl (by decide) rfl rfl <| j_goto (tgt := 27) dJx4a65c_clear_da8c8_39 (by decide) <| K, q⟩
theorem bJx4a65c_clear_da8c8_42 {h0 h : k_H} {Q : k_H → k_R → Prop} (q : Q h (.inl none)) : k_X (jJx4a65c_clear_da8c8 G l h0) h 42 [] [] Q := by
  exact ⟨_, _, j_vret dJx4a65c_clear_da8c8_42 rfl, q⟩
theorem eJx4a65c_rangeCheckForAdd_d00df {G : k_G} {l : Launch} (hfl : l.flags = flags0) {h : k_H} {Q : k_H → k_R → Prop} {x0 : Nat} {x1 : Int32} (K : k_X (jJx4a65c_rangeCheckForAdd_d00df G l h) h 0 [(0, vR (some x0)), (1, vI x1)] [] Q) : k_ct (tJx4a65c_rangeCheckForAdd_d00df G l) [vR (some x0), vI x1] h Q := by
  obtain ⟨h', r, K, q⟩ := K
  exact ⟨h', r, k_CtOf (by decide +kernel) (Nat.le_of_ble_eq_true rfl) K hfl, q⟩

theorem bJx4a65c_rangeCheckForAdd_d00df_0 {h0 h : k_H} {Q : k_H → k_R → Prop} {x0 : Nat} {x1 f1_2 : Int32} {fs1 : List k_V} (o1 : h.1 x0 = some (k_o 2 fs1)) (g1_2 : fs1[2]? = some (vI f1_2)) (K1 : f1_2 < x1 → k_X (jJx4a65c_rangeCheckForAdd_d00df G l h0) h 12 [(0, vR (some x0)), (1, vI x1)] [] Q) (K2 : ¬ (f1_2 < x1) → k_X (jJx4a65c_rangeCheckForAdd_d00df G l h0) h 8 [(0, vR (some x0)), (1, vI x1)] [] Q) : k_X (jJx4a65c_rangeCheckForAdd_d00df G l h0) h 0 [(0, vR (some x0)), (1, vI x1)] [] Q := by
  by_cases hc : f1_2 < x1
  · skip
    obtain ⟨h', r, K, q⟩ := K1 hc
    exact ⟨h', r, j_iload_n dJx4a65c_rangeCheckForAdd_d00df_0 rfl rfl <| j_aload_n dJx4a65c_rangeCheckForAdd_d00df_1 rfl rfl <| j_getf dJx4a65c_rangeCheckForAdd_d00df_2 kf_Jx4a65c_48 o1 g1_2 <| j_icmp_gt_t (tgt := 12) dJx4a65c_rangeCheckForAdd_d00df_5 (by decide) hc K, q⟩
  · skip
    obtain ⟨h', r, K, q⟩ := K2 hc
    exact ⟨h', r, j_iload_n dJx4a65c_rangeCheckForAdd_d00df_0 rfl rfl <| j_aload_n dJx4a65c_rangeCheckForAdd_d00df_1 rfl rfl <| j_getf dJx4a65c_rangeCheckForAdd_d00df_2 kf_Jx4a65c_48 o1 g1_2 <| j_icmp_gt_f dJx4a65c_rangeCheckForAdd_d00df_5 12 (by decide) hc K, q⟩
theorem bJx4a65c_rangeCheckForAdd_d00df_8 {h0 h : k_H} {Q : k_H → k_R → Prop} {x0 : Nat} {x1 : Int32} (K1 : 0 ≤ x1 → k_X (jJx4a65c_rangeCheckForAdd_d00df G l h0) h 25 [] [] Q) (K2 : ¬ (0 ≤ x1) → k_X (jJx4a65c_rangeCheckForAdd_d00df G l h0) h 12 [(0, vR (some x0)), (1, vI x1)] [] Q) : k_X (jJx4a65c_rangeCheckForAdd_d00df G l h0) h 8 [(0, vR (some x0)), (1, vI x1)] [] Q := by
  by_cases hc : 0 ≤ x1
  · skip
    obtain ⟨h', r, K, q⟩ := K1 hc
    exact ⟨h', r, j_iload_n dJx4a65c_rangeCheckForAdd_d00df_8 rfl rfl <| j_if_ge_t (tgt := 25) dJx4a65c_rangeCheckForAdd_d00df_9 (by decide) hc (j_pick [] rfl K), q⟩
  · skip
    obtain ⟨h', r, K, q⟩ := K2 hc
    exact ⟨h', r, j_iload_n dJx4a65c_rangeCheckForAdd_d00df_8 rfl rfl <| j_if_ge_f dJx4a65c_rangeCheckForAdd_d00df_9 25 (by decide) hc K, q⟩
theorem bJx4a65c_rangeCheckForAdd_d00df_25 {h0 h : k_H} {Q : k_H → k_R → Prop} (q : Q h (.inl none)) : k_X (jJx4a65c_rangeCheckForAdd_d00df G l h0) h 25 [] [] Q := by
  exact ⟨_, _, j_vret dJx4a65c_rangeCheckForAdd_d00df_25 rfl, q⟩
theorem eJ7_copyOf_1904c {G : k_G} {l : Launch} (hfl : l.flags = flags0) {h : k_H} {Q : k_H → k_R → Prop} {x0 : Option Nat} {x1 : Int32} (K : k_X (jJ7_copyOf_1904c G l h) h 0 [(0, vR x0), (1, vI x1)] [] Q) : k_ct (tJ7_copyOf_1904c G l) [vR x0, vI x1] h Q := by
  obtain ⟨h', r, K, q⟩ := K
  exact ⟨h', r, k_CtOf (by decide +kernel) (Nat.le_of_ble_eq_true rfl) K hfl, q⟩

theorem bJ7_copyOf_1904c_0 {h0 h : k_H} {Q : k_H → k_R → Prop} {x0 : Nat} {x1 : Int32} {n1 : Nat} {w1 : Nat → Option Nat} (o1 : h.1 x0 = some (k_q n1 w1)) (K : k_X (jJ7_copyOf_1904c G l h0) h 6 [] [vR (some (k_mi G)), vI x1, vR (some x0)] Q) : k_X (jJ7_copyOf_1904c G l h0) h 0 [(0, vR (some x0)), (1, vI x1)] [] Q := by
  obtain ⟨h', r, K, q⟩ := K
  exact ⟨h', r, j_aload_n dJ7_copyOf_1904c_0 rfl rfl <| j_iload_n dJ7_copyOf_1904c_1 rfl rfl <| j_aload_n dJ7_copyOf_1904c_2 rfl rfl <| j_getC dJ7_copyOf_1904c_3 kx_J7_86 kx_sel kx_ins kx_nat o1 (by decide) (Nat.le_of_ble_eq_true rfl) <| (j_pick [] rfl K), q⟩
theorem bJ7_copyOf_1904c_6 {h0 h : k_H} {Q : k_H → k_R → Prop} {s0 s2 : Option Nat} {s1 : Int32} {P : k_H → Option Nat → Prop} (c : k_ctr (tJ7_copyOf_6403c G l) [vR s0, vI s1, vR s2] h P) (K : ∀ h1 v, P h1 v → k_X (jJ7_copyOf_1904c G l h0) h1 9 [] [vR v] Q) : k_X (jJ7_copyOf_1904c G l h0) h 6 [] [vR s2, vI s1, vR s0] Q := by
  obtain ⟨h1, v, c, p⟩ := c
  obtain ⟨h', r, K, q⟩ := K h1 v p
  exact ⟨h', r, j_callS (v := some (vR v)) (as := [vR s0, vI s1, vR s2]) dJ7_copyOf_1904c_6 kc_J7_300 rfl rfl (by decide) (Nat.le_of_ble_eq_true rfl) c K, q⟩
theorem bJ7_copyOf_1904c_9 {h0 h : k_H} {Q : k_H → k_R → Prop} {s0 : Option Nat} (q : Q h (.inl (some (vR s0)))) : k_X (jJ7_copyOf_1904c G l h0) h 9 [] [vR s0] Q := by
  exact ⟨_, _, j_aret dJ7_copyOf_1904c_9 rfl (Or.inr ⟨_, rfl⟩), q⟩
theorem eJ7_copyOf_6403c {G : k_G} {l : Launch} (hfl : l.flags = flags0) {h : k_H} {Q : k_H → k_R → Prop} {x0 : Option Nat} {x1 : Int32} {x2 : Option Nat} (K : k_X (jJ7_copyOf_6403c G l h) h 0 [(0, vR x0), (1, vI x1), (2, vR x2)] [] Q) : k_ct (tJ7_copyOf_6403c G l) [vR x0, vI x1, vR x2] h Q := by
  obtain ⟨h', r, K, q⟩ := K
  exact ⟨h', r, k_CtOf (by decide +kernel) (Nat.le_of_ble_eq_true rfl) K hfl, q⟩

theorem bJ7_copyOf_6403c_0 {h0 h : k_H} {Q : k_H → k_R → Prop} {x0 x2 : Option Nat} {x1 : Int32} (K1 : ¬ (x2 = (some (k_mi G))) → k_X (jJ7_copyOf_6403c G l h0) h 13 [(2, vR x2)] [] Q) (K2 : x2 = (some (k_mi G)) → k_X (jJ7_copyOf_6403c G l h0) h 6 [(0, vR x0), (1, vI x1)] [] Q) : k_X (jJ7_copyOf_6403c G l h0) h 0 [(0, vR x0), (1, vI x1), (2, vR x2)] [] Q := by
  by_cases hc : x2 = (some (k_mi G))
  · skip
    obtain ⟨h', r, K, q⟩ := K2 hc
    revert K q
    first | subst hc | (rw [hc]) | skip
    intro K q
    exact ⟨h', r, j_aload_n dJ7_copyOf_6403c_0 rfl rfl <| j_ldcM dJ7_copyOf_6403c_1 kl_J7_110 <| j_acmp_ne_f dJ7_copyOf_6403c_3 13 (by decide) (j_pick [0, 1] rfl K), q⟩
  · skip
    obtain ⟨h', r, K, q⟩ := K1 hc
    exact ⟨h', r, j_aload_n dJ7_copyOf_6403c_0 rfl rfl <| j_ldcM dJ7_copyOf_6403c_1 kl_J7_110 <| j_acmp_ne_t (tgt := 13) dJ7_copyOf_6403c_3 (by decide) hc (j_pick [2] rfl K), q⟩
theorem bJ7_copyOf_6403c_6 {h0 h : k_H} {Q : k_H → k_R → Prop} {x0 : Option Nat} {x1 : Int32} {n1 : Nat} (e1 : x1 = nI n1) (m1 : n1 < 2 ^ 20) (K : k_X (jJ7_copyOf_6403c G l h0) (k_nw h n1 (k_q n1 (fun _ => none))) 10 [(0, vR x0), (1, vI x1)] [vR (some h.2.1)] Q) : k_X (jJ7_copyOf_6403c G l h0) h 6 [(0, vR x0), (1, vI x1)] [] Q := by
  obtain ⟨h', r, K, q⟩ := K
  exact ⟨h', r, j_iload_n dJ7_copyOf_6403c_6 rfl rfl <| j_anew (N := n1) dJ7_copyOf_6403c_7 kq_J7_2 e1 m1 <| K, q⟩
theorem bJ7_copyOf_6403c_10 {h0 h : k_H} {Q : k_H → k_R → Prop} {x0 s0 : Option Nat} {x1 : Int32} (K : k_X (jJ7_copyOf_6403c G l h0) h 24 [(0, vR x0), (1, vI x1)] [vR s0] Q) : k_X (jJ7_copyOf_6403c G l h0) h 10 [(0, vR x0), (1, vI x1)] [vR s0] Q := by
  obtain ⟨h', r, K, q⟩ := K
  exact ⟨h', r, j_goto (tgt := 24) dJ7_copyOf_6403c_10 (by decide) <| K, q⟩
theorem bJ7_copyOf_6403c_24 {h0 h : k_H} {Q : k_H → k_R → Prop} {x0 s0 : Option Nat} {x1 : Int32} (K : k_X (jJ7_copyOf_6403c G l h0) h 30 [(1, vI x1), (3, vR s0)] [vR x0, vI 0, vR s0, vI 0, vR x0] Q) : k_X (jJ7_copyOf_6403c G l h0) h 24 [(0, vR x0), (1, vI x1)] [vR s0] Q := by
  obtain ⟨h', r, K, q⟩ := K
  exact ⟨h', r, j_astore_n dJ7_copyOf_6403c_24 rfl (by decide) rfl <| j_aload_n dJ7_copyOf_6403c_25 rfl rfl <| j_iconst (v := 0) dJ7_copyOf_6403c_26 (by decide) <| j_aload_n dJ7_copyOf_6403c_27 rfl rfl <| j_iconst (v := 0) dJ7_copyOf_6403c_28 (by decide) <| j_aload_n dJ7_copyOf_6403c_29 rfl rfl <| (j_pick [1, 2] rfl K), q⟩
theorem bJ7_copyOf_6403c_30 {h0 h : k_H} {Q : k_H → k_R → Prop} {x1 s1 s3 : Int32} {x3 s0 s2 : Option Nat} {s4 : Nat} {n1 : Nat} {w1 : Nat → Option Nat} (o1 : h.1 s4 = some (k_q n1 w1)) (K : k_X (jJ7_copyOf_6403c G l h0) h 31 [(1, vI x1), (3, vR x3)] [vI (nI n1), vI s3, vR s2, vI s1, vR s0] Q) : k_X (jJ7_copyOf_6403c G l h0) h 30 [(1, vI x1), (3, vR x3)] [vR (some s4), vI s3, vR s2, vI s1, vR s0] Q := by
  obtain ⟨h', r, K, q⟩ := K
  exact ⟨h', r, j_qlen dJ7_copyOf_6403c_30 o1 <| K, q⟩
theorem bJ7_copyOf_6403c_30z {h0 h : k_H} {Q : k_H → k_R → Prop} {x1 s1 s3 : Int32} {x3 s0 s2 : Option Nat} (K : k_X (jJ7_copyOf_6403c G l h0) h 31 [(1, vI x1), (3, vR x3)] [vI 0, vI s3, vR s2, vI s1, vR s0] Q) : k_X (jJ7_copyOf_6403c G l h0) h 30 [(1, vI x1), (3, vR x3)] [vR (some (k_z0 G)), vI s3, vR s2, vI s1, vR s0] Q := by
  obtain ⟨h', r, K, q⟩ := K
  exact ⟨h', r, j_zlen dJ7_copyOf_6403c_30 <| K, q⟩
theorem bJ7_copyOf_6403c_31 {h0 h : k_H} {Q : k_H → k_R → Prop} {x1 s1 s3 s4 : Int32} {x3 : Option Nat} {s0 s2 : Nat} {n1 : Nat} {w1 : Nat → Option Nat} (o1 : h.1 s0 = some (k_q n1 w1)) {n2 : Nat} {w2 : Nat → Option Nat} (o2 : h.1 s2 = some (k_q n2 w2)) (p1 : ¬ (s1 : Int32) < 0) (p2 : ¬ (s3 : Int32) < 0) (p3 : ¬ (if x1 < s4 then x1 else s4 : Int32) < 0) (p4 : (s1 : Int32).toNatClampNeg + (if x1 < s4 then x1 else s4 : Int32).toNatClampNeg ≤ n1) (p5 : (s3 : Int32).toNatClampNeg + (if x1 < s4 then x1 else s4 : Int32).toNatClampNeg ≤ n2) (p6 : ∀ i : Nat, i < (if x1 < s4 then x1 else s4 : Int32).toNatClampNeg → ∀ z : Nat, w1 ((s1 : Int32).toNatClampNeg + i) = some z → ∃ ci, k_is h z ci ∧ k_toObj ci) (K : k_X (jJ7_copyOf_6403c G l h0) (k_up h s2 (k_q n2 (va_cpy w1 w2 (s1 : Int32).toNatClampNeg (s3 : Int32).toNatClampNeg (if x1 < s4 then x1 else s4 : Int32).toNatClampNeg))) 38 [(3, vR x3)] [] Q) : k_X (jJ7_copyOf_6403c G l h0) h 31 [(1, vI x1), (3, vR x3)] [vI s4, vI s3, vR (some s2), vI s1, vR (some s0)] Q := by
  obtain ⟨h', r, K, q⟩ := K
  exact ⟨h', r, j_iload_n dJ7_copyOf_6403c_31 rfl rfl <| j_mmin dJ7_copyOf_6403c_32 km_J7_304 km_st_min km_init km_co_min (by decide) (Nat.le_of_ble_eq_true rfl) <| j_copy dJ7_copyOf_6403c_35 kx_J7_150 kx_acn kx_acs kx_sys o1 o2 p1 p2 p3 p4 p5 p6 (by decide) (Nat.le_of_ble_eq_true rfl) <| (j_pick [1] rfl K), q⟩
theorem bJ7_copyOf_6403c_38 {h0 h : k_H} {Q : k_H → k_R → Prop} {x3 : Option Nat} (q : Q h (.inl (some (vR x3)))) : k_X (jJ7_copyOf_6403c G l h0) h 38 [(3, vR x3)] [] Q := by
  exact ⟨_, _, j_aload_n dJ7_copyOf_6403c_38 rfl rfl <| j_aret dJ7_copyOf_6403c_39 rfl (Or.inr ⟨_, rfl⟩), q⟩
theorem eJ15_checkIndex_7cf53 {G : k_G} {l : Launch} (hfl : l.flags = flags0) {h : k_H} {Q : k_H → k_R → Prop} {x0 : Int32} {x1 : Int32} (K : k_X (jJ15_checkIndex_7cf53 G l h) h 0 [(0, vI x0), (1, vI x1)] [] Q) : k_ct (tJ15_checkIndex_7cf53 G l) [vI x0, vI x1] h Q := by
  obtain ⟨h', r, K, q⟩ := K
  exact ⟨h', r, k_CtOf (by decide +kernel) (Nat.le_of_ble_eq_true rfl) K hfl, q⟩

theorem bJ15_checkIndex_7cf53_0 {h0 h : k_H} {Q : k_H → k_R → Prop} {x0 x1 : Int32} {P : k_H → Int32 → Prop} (c : k_cti (tJ3_checkIndex_8e157 G l) [vI x0, vI x1, vR none] h P) (K : ∀ h1 v, P h1 v → k_X (jJ15_checkIndex_7cf53 G l h0) h1 6 [] [vI v] Q) : k_X (jJ15_checkIndex_7cf53 G l h0) h 0 [(0, vI x0), (1, vI x1)] [] Q := by
  obtain ⟨h1, v, c, p⟩ := c
  obtain ⟨h', r, K, q⟩ := K h1 v p
  exact ⟨h', r, j_iload_n dJ15_checkIndex_7cf53_0 rfl rfl <| j_iload_n dJ15_checkIndex_7cf53_1 rfl rfl <| j_null dJ15_checkIndex_7cf53_2 <| j_callS (v := some (vI v)) (as := [vI x0, vI x1, vR none]) dJ15_checkIndex_7cf53_3 kc_J15_105 rfl rfl (by decide) (Nat.le_of_ble_eq_true rfl) c (j_pick [] rfl K), q⟩
theorem bJ15_checkIndex_7cf53_6 {h0 h : k_H} {Q : k_H → k_R → Prop} {s0 : Int32} (q : Q h (.inl (some (vI s0)))) : k_X (jJ15_checkIndex_7cf53 G l h0) h 6 [] [vI s0] Q := by
  exact ⟨_, _, j_iret dJ15_checkIndex_7cf53_6 rfl, q⟩
theorem eJ8_newLength_cabcc {G : k_G} {l : Launch} (hfl : l.flags = flags0) {h : k_H} {Q : k_H → k_R → Prop} {x0 : Int32} {x1 : Int32} {x2 : Int32} (K : k_X (jJ8_newLength_cabcc G l h) h 0 [(0, vI x0), (1, vI x1), (2, vI x2)] [] Q) : k_ct (tJ8_newLength_cabcc G l) [vI x0, vI x1, vI x2] h Q := by
  obtain ⟨h', r, K, q⟩ := K
  exact ⟨h', r, k_CtOf (by decide +kernel) (Nat.le_of_ble_eq_true rfl) K hfl, q⟩

theorem bJ8_newLength_cabcc_0 {h0 h : k_H} {Q : k_H → k_R → Prop} {x0 x1 x2 : Int32} (K1 : (x0 + (if x1 < x2 then x2 else x1)) ≤ 0 → k_X (jJ8_newLength_cabcc G l h0) h 21 [(0, vI x0), (1, vI x1)] [] Q) (K2 : ¬ ((x0 + (if x1 < x2 then x2 else x1)) ≤ 0) → k_X (jJ8_newLength_cabcc G l h0) h 13 [(0, vI x0), (1, vI x1), (3, vI (x0 + (if x1 < x2 then x2 else x1)))] [] Q) : k_X (jJ8_newLength_cabcc G l h0) h 0 [(0, vI x0), (1, vI x1), (2, vI x2)] [] Q := by
  by_cases hc : (x0 + (if x1 < x2 then x2 else x1)) ≤ 0
  · skip
    obtain ⟨h', r, K, q⟩ := K1 hc
    exact ⟨h', r, j_iload_n dJ8_newLength_cabcc_0 rfl rfl <| j_iload_n dJ8_newLength_cabcc_1 rfl rfl <| j_iload_n dJ8_newLength_cabcc_2 rfl rfl <| j_mmax dJ8_newLength_cabcc_3 km_J8_194 km_st_max km_init km_co_max (by decide) (Nat.le_of_ble_eq_true rfl) <| j_iadd dJ8_newLength_cabcc_6 <| j_istore_n dJ8_newLength_cabcc_7 rfl (by decide) rfl <| j_iconst (v := 0) dJ8_newLength_cabcc_8 (by decide) <| j_iload_n dJ8_newLength_cabcc_9 rfl rfl <| j_icmp_ge_t (tgt := 21) dJ8_newLength_cabcc_10 (by decide) hc (j_pick [0, 1] rfl K), q⟩
  · skip
    obtain ⟨h', r, K, q⟩ := K2 hc
    exact ⟨h', r, j_iload_n dJ8_newLength_cabcc_0 rfl rfl <| j_iload_n dJ8_newLength_cabcc_1 rfl rfl <| j_iload_n dJ8_newLength_cabcc_2 rfl rfl <| j_mmax dJ8_newLength_cabcc_3 km_J8_194 km_st_max km_init km_co_max (by decide) (Nat.le_of_ble_eq_true rfl) <| j_iadd dJ8_newLength_cabcc_6 <| j_istore_n dJ8_newLength_cabcc_7 rfl (by decide) rfl <| j_iconst (v := 0) dJ8_newLength_cabcc_8 (by decide) <| j_iload_n dJ8_newLength_cabcc_9 rfl rfl <| j_icmp_ge_f dJ8_newLength_cabcc_10 21 (by decide) hc (j_pick [0, 1, 3] rfl K), q⟩
theorem bJ8_newLength_cabcc_13 {h0 h : k_H} {Q : k_H → k_R → Prop} {x0 x1 x3 : Int32} (K1 : 2147483639 < x3 → k_X (jJ8_newLength_cabcc G l h0) h 21 [(0, vI x0), (1, vI x1)] [] Q) (K2 : ¬ (2147483639 < x3) → k_X (jJ8_newLength_cabcc G l h0) h 19 [(3, vI x3)] [] Q) : k_X (jJ8_newLength_cabcc G l h0) h 13 [(0, vI x0), (1, vI x1), (3, vI x3)] [] Q := by
  by_cases hc : 2147483639 < x3
  · skip
    obtain ⟨h', r, K, q⟩ := K1 hc
    exact ⟨h', r, j_iload_n dJ8_newLength_cabcc_13 rfl rfl <| j_ldc (v := 2147483639) dJ8_newLength_cabcc_14 ki_J8_200 <| j_icmp_gt_t (tgt := 21) dJ8_newLength_cabcc_16 (by decide) hc (j_pick [0, 1] rfl K), q⟩
  · skip
    obtain ⟨h', r, K, q⟩ := K2 hc
    exact ⟨h', r, j_iload_n dJ8_newLength_cabcc_13 rfl rfl <| j_ldc (v := 2147483639) dJ8_newLength_cabcc_14 ki_J8_200 <| j_icmp_gt_f dJ8_newLength_cabcc_16 21 (by decide) hc (j_pick [2] rfl K), q⟩
theorem bJ8_newLength_cabcc_19 {h0 h : k_H} {Q : k_H → k_R → Prop} {x3 : Int32} (q : Q h (.inl (some (vI x3)))) : k_X (jJ8_newLength_cabcc G l h0) h 19 [(3, vI x3)] [] Q := by
  exact ⟨_, _, j_iload_n dJ8_newLength_cabcc_19 rfl rfl <| j_iret dJ8_newLength_cabcc_20 rfl, q⟩
theorem bJ8_newLength_cabcc_26 {h0 h : k_H} {Q : k_H → k_R → Prop} {s0 : Int32} (q : Q h (.inl (some (vI s0)))) : k_X (jJ8_newLength_cabcc G l h0) h 26 [] [vI s0] Q := by
  exact ⟨_, _, j_iret dJ8_newLength_cabcc_26 rfl, q⟩
theorem eJ3_checkIndex_8e157 {G : k_G} {l : Launch} (hfl : l.flags = flags0) {h : k_H} {Q : k_H → k_R → Prop} {x0 : Int32} {x1 : Int32} {x2 : Option Nat} (K : k_X (jJ3_checkIndex_8e157 G l h) h 0 [(0, vI x0), (1, vI x1), (2, vR x2)] [] Q) : k_ct (tJ3_checkIndex_8e157 G l) [vI x0, vI x1, vR x2] h Q := by
  obtain ⟨h', r, K, q⟩ := K
  exact ⟨h', r, k_CtOf (by decide +kernel) (Nat.le_of_ble_eq_true rfl) K hfl, q⟩

theorem bJ3_checkIndex_8e157_0 {h0 h : k_H} {Q : k_H → k_R → Prop} {x0 x1 : Int32} {x2 : Option Nat} (K1 : x0 < 0 → k_X (jJ3_checkIndex_8e157 G l h0) h 9 [(0, vI x0), (1, vI x1), (2, vR x2)] [] Q) (K2 : ¬ (x0 < 0) → k_X (jJ3_checkIndex_8e157 G l h0) h 4 [(0, vI x0), (1, vI x1), (2, vR x2)] [] Q) : k_X (jJ3_checkIndex_8e157 G l h0) h 0 [(0, vI x0), (1, vI x1), (2, vR x2)] [] Q := by
  by_cases hc : x0 < 0
  · skip
    obtain ⟨h', r, K, q⟩ := K1 hc
    exact ⟨h', r, j_iload_n dJ3_checkIndex_8e157_0 rfl rfl <| j_if_lt_t (tgt := 9) dJ3_checkIndex_8e157_1 (by decide) hc K, q⟩
  · skip
    obtain ⟨h', r, K, q⟩ := K2 hc
    exact ⟨h', r, j_iload_n dJ3_checkIndex_8e157_0 rfl rfl <| j_if_lt_f dJ3_checkIndex_8e157_1 9 (by decide) hc K, q⟩
theorem bJ3_checkIndex_8e157_4 {h0 h : k_H} {Q : k_H → k_R → Prop} {x0 x1 : Int32} {x2 : Option Nat} (K1 : x0 < x1 → k_X (jJ3_checkIndex_8e157 G l h0) h 16 [(0, vI x0)] [] Q) (K2 : ¬ (x0 < x1) → k_X (jJ3_checkIndex_8e157 G l h0) h 9 [(0, vI x0), (1, vI x1), (2, vR x2)] [] Q) : k_X (jJ3_checkIndex_8e157 G l h0) h 4 [(0, vI x0), (1, vI x1), (2, vR x2)] [] Q := by
  by_cases hc : x0 < x1
  · skip
    obtain ⟨h', r, K, q⟩ := K1 hc
    exact ⟨h', r, j_iload_n dJ3_checkIndex_8e157_4 rfl rfl <| j_iload_n dJ3_checkIndex_8e157_5 rfl rfl <| j_icmp_lt_t (tgt := 16) dJ3_checkIndex_8e157_6 (by decide) hc (j_pick [0] rfl K), q⟩
  · skip
    obtain ⟨h', r, K, q⟩ := K2 hc
    exact ⟨h', r, j_iload_n dJ3_checkIndex_8e157_4 rfl rfl <| j_iload_n dJ3_checkIndex_8e157_5 rfl rfl <| j_icmp_lt_f dJ3_checkIndex_8e157_6 16 (by decide) hc K, q⟩
theorem bJ3_checkIndex_8e157_16 {h0 h : k_H} {Q : k_H → k_R → Prop} {x0 : Int32} (q : Q h (.inl (some (vI x0)))) : k_X (jJ3_checkIndex_8e157 G l h0) h 16 [(0, vI x0)] [] Q := by
  exact ⟨_, _, j_iload_n dJ3_checkIndex_8e157_16 rfl rfl <| j_iret dJ3_checkIndex_8e157_17 rfl, q⟩
end BJ
