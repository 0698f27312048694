section BM
variable {G : k_G} {l : Launch}

theorem eX12_init {G : k_G} {l : Launch} (hfl : l.flags = flags0) {h : k_H} {Q : k_H → k_R → Prop} {x0 : Nat} (K : k_X (jX12_init G l h) h 0 [(0, vR (some x0))] [] Q) : k_ct (tX12_init G l) [vR (some x0)] h Q := by
  obtain ⟨h', r, K, q⟩ := K
  exact ⟨h', r, k_CtOf (by decide +kernel) (Nat.le_of_ble_eq_true rfl) K hfl, q⟩

theorem bX12_init_0 {h0 h : k_H} {Q : k_H → k_R → Prop} {x0 : Nat} (K : k_X (jX12_init G l h0) (k_nw h 12000 (k_j 12000 (fun _ => 0))) 10 [(0, vR (some x0))] [vR (some h.2.1), vR (some x0)] Q) : k_X (jX12_init G l h0) h 0 [(0, vR (some x0))] [] Q := by
  obtain ⟨h', r, K, q⟩ := K
  exact ⟨h', r, j_aload_n dX12_init_0 rfl rfl <| j_objInit dX12_init_1 ko_X12_3 ko_inst ko_code (by decide) (Nat.le_of_ble_eq_true rfl) <| j_aload_n dX12_init_4 rfl rfl <| j_sipush (v := 12000) dX12_init_5 (by decide) <| j_newj (N := 12000) dX12_init_8 ka_long (by decide) (by decide) <| K, q⟩
theorem bX12_init_10 {h0 h : k_H} {Q : k_H → k_R → Prop} {x0 s0 : Nat} {s1 : Option Nat} {fs1 : List k_V} (o1 : h.1 s0 = some (k_o 15 fs1)) (z1 : fs1.length = 53) (K : k_X (jX12_init G l h0) (k_up h s0 (k_o 15 (fs1.set 3 (vR s1)))) 13 [(0, vR (some x0))] [] Q) : k_X (jX12_init G l h0) h 10 [(0, vR (some x0))] [vR s1, vR (some s0)] Q := by
  obtain ⟨h', r, K, q⟩ := K
  exact ⟨h', r, j_putF dX12_init_10 rfl kp_X12_9 o1 (k_ln z1 (by decide)) (k_fit_a _ _) rfl <| K, q⟩
theorem bX12_init_13 {h0 h : k_H} {Q : k_H → k_R → Prop} {x0 : Nat} (K : k_X (jX12_init G l h0) (k_nw h 12000 (k_i 12000 (fun _ => 0))) 19 [(0, vR (some x0))] [vR (some h.2.1), vR (some x0)] Q) : k_X (jX12_init G l h0) h 13 [(0, vR (some x0))] [] Q := by
  obtain ⟨h', r, K, q⟩ := K
  exact ⟨h', r, j_aload_n dX12_init_13 rfl rfl <| j_sipush (v := 12000) dX12_init_14 (by decide) <| j_newi (N := 12000) dX12_init_17 ka_int (by decide) (by decide) <| K, q⟩
theorem bX12_init_19 {h0 h : k_H} {Q : k_H → k_R → Prop} {x0 s0 : Nat} {s1 : Option Nat} {fs1 : List k_V} (o1 : h.1 s0 = some (k_o 15 fs1)) (z1 : fs1.length = 53) (K : k_X (jX12_init G l h0) (k_up h s0 (k_o 15 (fs1.set 4 (vR s1)))) 22 [(0, vR (some x0))] [] Q) : k_X (jX12_init G l h0) h 19 [(0, vR (some x0))] [vR s1, vR (some s0)] Q := by
  obtain ⟨h', r, K, q⟩ := K
  exact ⟨h', r, j_putF dX12_init_19 rfl kp_X12_15 o1 (k_ln z1 (by decide)) (k_fit_a _ _) rfl <| K, q⟩
theorem bX12_init_22 {h0 h : k_H} {Q : k_H → k_R → Prop} {x0 : Nat} (K : k_X (jX12_init G l h0) (k_nw h 420000 (k_i 420000 (fun _ => 0))) 27 [(0, vR (some x0))] [vR (some h.2.1), vR (some x0)] Q) : k_X (jX12_init G l h0) h 22 [(0, vR (some x0))] [] Q := by
  obtain ⟨h', r, K, q⟩ := K
  exact ⟨h', r, j_aload_n dX12_init_22 rfl rfl <| j_ldc (v := 420000) dX12_init_23 ki_X12_19 <| j_newi (N := 420000) dX12_init_25 ka_int (by decide) (by decide) <| K, q⟩
theorem bX12_init_27 {h0 h : k_H} {Q : k_H → k_R → Prop} {x0 s0 : Nat} {s1 : Option Nat} {fs1 : List k_V} (o1 : h.1 s0 = some (k_o 15 fs1)) (z1 : fs1.length = 53) (K : k_X (jX12_init G l h0) (k_up h s0 (k_o 15 (fs1.set 6 (vR s1)))) 30 [(0, vR (some x0))] [] Q) : k_X (jX12_init G l h0) h 27 [(0, vR (some x0))] [vR s1, vR (some s0)] Q := by
  obtain ⟨h', r, K, q⟩ := K
  exact ⟨h', r, j_putF dX12_init_27 rfl kp_X12_20 o1 (k_ln z1 (by decide)) (k_fit_a _ _) rfl <| K, q⟩
theorem bX12_init_30 {h0 h : k_H} {Q : k_H → k_R → Prop} {x0 : Nat} (K : k_X (jX12_init G l h0) (k_nw h 420000 (k_i 420000 (fun _ => 0))) 35 [(0, vR (some x0))] [vR (some h.2.1), vR (some x0)] Q) : k_X (jX12_init G l h0) h 30 [(0, vR (some x0))] [] Q := by
  obtain ⟨h', r, K, q⟩ := K
  exact ⟨h', r, j_aload_n dX12_init_30 rfl rfl <| j_ldc (v := 420000) dX12_init_31 ki_X12_19 <| j_newi (N := 420000) dX12_init_33 ka_int (by decide) (by decide) <| K, q⟩
theorem bX12_init_35 {h0 h : k_H} {Q : k_H → k_R → Prop} {x0 s0 : Nat} {s1 : Option Nat} {fs1 : List k_V} (o1 : h.1 s0 = some (k_o 15 fs1)) (z1 : fs1.length = 53) (K : k_X (jX12_init G l h0) (k_up h s0 (k_o 15 (fs1.set 7 (vR s1)))) 38 [(0, vR (some x0))] [] Q) : k_X (jX12_init G l h0) h 35 [(0, vR (some x0))] [vR s1, vR (some s0)] Q := by
  obtain ⟨h', r, K, q⟩ := K
  exact ⟨h', r, j_putF dX12_init_35 rfl kp_X12_23 o1 (k_ln z1 (by decide)) (k_fit_a _ _) rfl <| K, q⟩
theorem bX12_init_38 {h0 h : k_H} {Q : k_H → k_R → Prop} {x0 : Nat} (K : k_X (jX12_init G l h0) (k_nw h 420000 (k_z 420000 (fun _ => 0))) 43 [(0, vR (some x0))] [vR (some h.2.1), vR (some x0)] Q) : k_X (jX12_init G l h0) h 38 [(0, vR (some x0))] [] Q := by
  obtain ⟨h', r, K, q⟩ := K
  exact ⟨h', r, j_aload_n dX12_init_38 rfl rfl <| j_ldc (v := 420000) dX12_init_39 ki_X12_19 <| j_newz (N := 420000) dX12_init_41 ka_boolean (by decide) (by decide) <| K, q⟩
theorem bX12_init_43 {h0 h : k_H} {Q : k_H → k_R → Prop} {x0 s0 : Nat} {s1 : Option Nat} {fs1 : List k_V} (o1 : h.1 s0 = some (k_o 15 fs1)) (z1 : fs1.length = 53) (K : k_X (jX12_init G l h0) (k_up h s0 (k_o 15 (fs1.set 8 (vR s1)))) 46 [(0, vR (some x0))] [] Q) : k_X (jX12_init G l h0) h 43 [(0, vR (some x0))] [vR s1, vR (some s0)] Q := by
  obtain ⟨h', r, K, q⟩ := K
  exact ⟨h', r, j_putF dX12_init_43 rfl kp_X12_26 o1 (k_ln z1 (by decide)) (k_fit_a _ _) rfl <| K, q⟩
theorem bX12_init_46 {h0 h : k_H} {Q : k_H → k_R → Prop} {x0 : Nat} (K : k_X (jX12_init G l h0) (k_nw h 420000 (k_i 420000 (fun _ => 0))) 51 [(0, vR (some x0))] [vR (some h.2.1), vR (some x0)] Q) : k_X (jX12_init G l h0) h 46 [(0, vR (some x0))] [] Q := by
  obtain ⟨h', r, K, q⟩ := K
  exact ⟨h', r, j_aload_n dX12_init_46 rfl rfl <| j_ldc (v := 420000) dX12_init_47 ki_X12_19 <| j_newi (N := 420000) dX12_init_49 ka_int (by decide) (by decide) <| K, q⟩
theorem bX12_init_51 {h0 h : k_H} {Q : k_H → k_R → Prop} {x0 s0 : Nat} {s1 : Option Nat} {fs1 : List k_V} (o1 : h.1 s0 = some (k_o 15 fs1)) (z1 : fs1.length = 53) (K : k_X (jX12_init G l h0) (k_up h s0 (k_o 15 (fs1.set 9 (vR s1)))) 54 [(0, vR (some x0))] [] Q) : k_X (jX12_init G l h0) h 51 [(0, vR (some x0))] [vR s1, vR (some s0)] Q := by
  obtain ⟨h', r, K, q⟩ := K
  exact ⟨h', r, j_putF dX12_init_51 rfl kp_X12_30 o1 (k_ln z1 (by decide)) (k_fit_a _ _) rfl <| K, q⟩
theorem bX12_init_54 {h0 h : k_H} {Q : k_H → k_R → Prop} {x0 : Nat} (K : k_X (jX12_init G l h0) (k_nw h 8192 (k_i 8192 (fun _ => 0))) 60 [(0, vR (some x0))] [vR (some h.2.1), vR (some x0)] Q) : k_X (jX12_init G l h0) h 54 [(0, vR (some x0))] [] Q := by
  obtain ⟨h', r, K, q⟩ := K
  exact ⟨h', r, j_aload_n dX12_init_54 rfl rfl <| j_sipush (v := 8192) dX12_init_55 (by decide) <| j_newi (N := 8192) dX12_init_58 ka_int (by decide) (by decide) <| K, q⟩
theorem bX12_init_60 {h0 h : k_H} {Q : k_H → k_R → Prop} {x0 s0 : Nat} {s1 : Option Nat} {fs1 : List k_V} (o1 : h.1 s0 = some (k_o 15 fs1)) (z1 : fs1.length = 53) (K : k_X (jX12_init G l h0) (k_up h s0 (k_o 15 (fs1.set 11 (vR s1)))) 63 [(0, vR (some x0))] [] Q) : k_X (jX12_init G l h0) h 60 [(0, vR (some x0))] [vR s1, vR (some s0)] Q := by
  obtain ⟨h', r, K, q⟩ := K
  exact ⟨h', r, j_putF dX12_init_60 rfl kp_X12_33 o1 (k_ln z1 (by decide)) (k_fit_a _ _) rfl <| K, q⟩
theorem bX12_init_63 {h0 h : k_H} {Q : k_H → k_R → Prop} {x0 : Nat} (K : k_X (jX12_init G l h0) (k_nw h 8192 (k_j 8192 (fun _ => 0))) 69 [(0, vR (some x0))] [vR (some h.2.1), vR (some x0)] Q) : k_X (jX12_init G l h0) h 63 [(0, vR (some x0))] [] Q := by
  obtain ⟨h', r, K, q⟩ := K
  exact ⟨h', r, j_aload_n dX12_init_63 rfl rfl <| j_sipush (v := 8192) dX12_init_64 (by decide) <| j_newj (N := 8192) dX12_init_67 ka_long (by decide) (by decide) <| K, q⟩
theorem bX12_init_69 {h0 h : k_H} {Q : k_H → k_R → Prop} {x0 s0 : Nat} {s1 : Option Nat} {fs1 : List k_V} (o1 : h.1 s0 = some (k_o 15 fs1)) (z1 : fs1.length = 53) (K : k_X (jX12_init G l h0) (k_up h s0 (k_o 15 (fs1.set 12 (vR s1)))) 72 [(0, vR (some x0))] [] Q) : k_X (jX12_init G l h0) h 69 [(0, vR (some x0))] [vR s1, vR (some s0)] Q := by
  obtain ⟨h', r, K, q⟩ := K
  exact ⟨h', r, j_putF dX12_init_69 rfl kp_X12_36 o1 (k_ln z1 (by decide)) (k_fit_a _ _) rfl <| K, q⟩
theorem bX12_init_72 {h0 h : k_H} {Q : k_H → k_R → Prop} {x0 : Nat} (K : k_X (jX12_init G l h0) (k_nw h 8192 (k_j 8192 (fun _ => 0))) 78 [(0, vR (some x0))] [vR (some h.2.1), vR (some x0)] Q) : k_X (jX12_init G l h0) h 72 [(0, vR (some x0))] [] Q := by
  obtain ⟨h', r, K, q⟩ := K
  exact ⟨h', r, j_aload_n dX12_init_72 rfl rfl <| j_sipush (v := 8192) dX12_init_73 (by decide) <| j_newj (N := 8192) dX12_init_76 ka_long (by decide) (by decide) <| K, q⟩
theorem bX12_init_78 {h0 h : k_H} {Q : k_H → k_R → Prop} {x0 s0 : Nat} {s1 : Option Nat} {fs1 : List k_V} (o1 : h.1 s0 = some (k_o 15 fs1)) (z1 : fs1.length = 53) (K : k_X (jX12_init G l h0) (k_up h s0 (k_o 15 (fs1.set 13 (vR s1)))) 81 [(0, vR (some x0))] [] Q) : k_X (jX12_init G l h0) h 78 [(0, vR (some x0))] [vR s1, vR (some s0)] Q := by
  obtain ⟨h', r, K, q⟩ := K
  exact ⟨h', r, j_putF dX12_init_78 rfl kp_X12_39 o1 (k_ln z1 (by decide)) (k_fit_a _ _) rfl <| K, q⟩
theorem bX12_init_81 {h0 h : k_H} {Q : k_H → k_R → Prop} {x0 : Nat} (K : k_X (jX12_init G l h0) (k_nw h 4 (k_z 4 (fun _ => 0))) 85 [(0, vR (some x0))] [vR (some h.2.1), vR (some x0)] Q) : k_X (jX12_init G l h0) h 81 [(0, vR (some x0))] [] Q := by
  obtain ⟨h', r, K, q⟩ := K
  exact ⟨h', r, j_aload_n dX12_init_81 rfl rfl <| j_iconst (v := 4) dX12_init_82 (by decide) <| j_newz (N := 4) dX12_init_83 ka_boolean (by decide) (by decide) <| K, q⟩
theorem bX12_init_85 {h0 h : k_H} {Q : k_H → k_R → Prop} {x0 s0 : Nat} {s1 : Option Nat} {fs1 : List k_V} (o1 : h.1 s0 = some (k_o 15 fs1)) (z1 : fs1.length = 53) (K : k_X (jX12_init G l h0) (k_up h s0 (k_o 15 (fs1.set 14 (vR s1)))) 88 [(0, vR (some x0))] [] Q) : k_X (jX12_init G l h0) h 85 [(0, vR (some x0))] [vR s1, vR (some s0)] Q := by
  obtain ⟨h', r, K, q⟩ := K
  exact ⟨h', r, j_putF dX12_init_85 rfl kp_X12_42 o1 (k_ln z1 (by decide)) (k_fit_a _ _) rfl <| K, q⟩
theorem bX12_init_88 {h0 h : k_H} {Q : k_H → k_R → Prop} {x0 : Nat} (K : k_X (jX12_init G l h0) (k_nw h 4 (k_z 4 (fun _ => 0))) 92 [(0, vR (some x0))] [vR (some h.2.1), vR (some x0)] Q) : k_X (jX12_init G l h0) h 88 [(0, vR (some x0))] [] Q := by
  obtain ⟨h', r, K, q⟩ := K
  exact ⟨h', r, j_aload_n dX12_init_88 rfl rfl <| j_iconst (v := 4) dX12_init_89 (by decide) <| j_newz (N := 4) dX12_init_90 ka_boolean (by decide) (by decide) <| K, q⟩
theorem bX12_init_92 {h0 h : k_H} {Q : k_H → k_R → Prop} {x0 s0 : Nat} {s1 : Option Nat} {fs1 : List k_V} (o1 : h.1 s0 = some (k_o 15 fs1)) (z1 : fs1.length = 53) (K : k_X (jX12_init G l h0) (k_up h s0 (k_o 15 (fs1.set 15 (vR s1)))) 95 [(0, vR (some x0))] [] Q) : k_X (jX12_init G l h0) h 92 [(0, vR (some x0))] [vR s1, vR (some s0)] Q := by
  obtain ⟨h', r, K, q⟩ := K
  exact ⟨h', r, j_putF dX12_init_92 rfl kp_X12_45 o1 (k_ln z1 (by decide)) (k_fit_a _ _) rfl <| K, q⟩
theorem bX12_init_95 {h0 h : k_H} {Q : k_H → k_R → Prop} {x0 : Nat} (K : k_X (jX12_init G l h0) (k_nw h 4 (k_i 4 (fun _ => 0))) 99 [(0, vR (some x0))] [vR (some h.2.1), vR (some x0)] Q) : k_X (jX12_init G l h0) h 95 [(0, vR (some x0))] [] Q := by
  obtain ⟨h', r, K, q⟩ := K
  exact ⟨h', r, j_aload_n dX12_init_95 rfl rfl <| j_iconst (v := 4) dX12_init_96 (by decide) <| j_newi (N := 4) dX12_init_97 ka_int (by decide) (by decide) <| K, q⟩
theorem bX12_init_99 {h0 h : k_H} {Q : k_H → k_R → Prop} {x0 s0 : Nat} {s1 : Option Nat} {fs1 : List k_V} (o1 : h.1 s0 = some (k_o 15 fs1)) (z1 : fs1.length = 53) (K : k_X (jX12_init G l h0) (k_up h s0 (k_o 15 (fs1.set 16 (vR s1)))) 102 [(0, vR (some x0))] [] Q) : k_X (jX12_init G l h0) h 99 [(0, vR (some x0))] [vR s1, vR (some s0)] Q := by
  obtain ⟨h', r, K, q⟩ := K
  exact ⟨h', r, j_putF dX12_init_99 rfl kp_X12_48 o1 (k_ln z1 (by decide)) (k_fit_a _ _) rfl <| K, q⟩
theorem bX12_init_102 {h0 h : k_H} {Q : k_H → k_R → Prop} {x0 : Nat} (K : k_X (jX12_init G l h0) (k_nw h 4 (k_i 4 (fun _ => 0))) 106 [(0, vR (some x0))] [vR (some h.2.1), vR (some x0)] Q) : k_X (jX12_init G l h0) h 102 [(0, vR (some x0))] [] Q := by
  obtain ⟨h', r, K, q⟩ := K
  exact ⟨h', r, j_aload_n dX12_init_102 rfl rfl <| j_iconst (v := 4) dX12_init_103 (by decide) <| j_newi (N := 4) dX12_init_104 ka_int (by decide) (by decide) <| K, q⟩
theorem bX12_init_106 {h0 h : k_H} {Q : k_H → k_R → Prop} {x0 s0 : Nat} {s1 : Option Nat} {fs1 : List k_V} (o1 : h.1 s0 = some (k_o 15 fs1)) (z1 : fs1.length = 53) (K : k_X (jX12_init G l h0) (k_up h s0 (k_o 15 (fs1.set 17 (vR s1)))) 109 [(0, vR (some x0))] [] Q) : k_X (jX12_init G l h0) h 106 [(0, vR (some x0))] [vR s1, vR (some s0)] Q := by
  obtain ⟨h', r, K, q⟩ := K
  exact ⟨h', r, j_putF dX12_init_106 rfl kp_X12_51 o1 (k_ln z1 (by decide)) (k_fit_a _ _) rfl <| K, q⟩
theorem bX12_init_109 {h0 h : k_H} {Q : k_H → k_R → Prop} {x0 : Nat} (K : k_X (jX12_init G l h0) (k_nw h 4 (k_i 4 (fun _ => 0))) 113 [(0, vR (some x0))] [vR (some h.2.1), vR (some x0)] Q) : k_X (jX12_init G l h0) h 109 [(0, vR (some x0))] [] Q := by
  obtain ⟨h', r, K, q⟩ := K
  exact ⟨h', r, j_aload_n dX12_init_109 rfl rfl <| j_iconst (v := 4) dX12_init_110 (by decide) <| j_newi (N := 4) dX12_init_111 ka_int (by decide) (by decide) <| K, q⟩
theorem bX12_init_113 {h0 h : k_H} {Q : k_H → k_R → Prop} {x0 s0 : Nat} {s1 : Option Nat} {fs1 : List k_V} (o1 : h.1 s0 = some (k_o 15 fs1)) (z1 : fs1.length = 53) (K : k_X (jX12_init G l h0) (k_up h s0 (k_o 15 (fs1.set 18 (vR s1)))) 116 [(0, vR (some x0))] [] Q) : k_X (jX12_init G l h0) h 113 [(0, vR (some x0))] [vR s1, vR (some s0)] Q := by
  obtain ⟨h', r, K, q⟩ := K
  exact ⟨h', r, j_putF dX12_init_113 rfl kp_X12_54 o1 (k_ln z1 (by decide)) (k_fit_a _ _) rfl <| K, q⟩
theorem bX12_init_116 {h0 h : k_H} {Q : k_H → k_R → Prop} {x0 : Nat} (K : k_X (jX12_init G l h0) (k_nw h 4 (k_i 4 (fun _ => 0))) 120 [(0, vR (some x0))] [vR (some h.2.1), vR (some x0)] Q) : k_X (jX12_init G l h0) h 116 [(0, vR (some x0))] [] Q := by
  obtain ⟨h', r, K, q⟩ := K
  exact ⟨h', r, j_aload_n dX12_init_116 rfl rfl <| j_iconst (v := 4) dX12_init_117 (by decide) <| j_newi (N := 4) dX12_init_118 ka_int (by decide) (by decide) <| K, q⟩
theorem bX12_init_120 {h0 h : k_H} {Q : k_H → k_R → Prop} {x0 s0 : Nat} {s1 : Option Nat} {fs1 : List k_V} (o1 : h.1 s0 = some (k_o 15 fs1)) (z1 : fs1.length = 53) (K : k_X (jX12_init G l h0) (k_up h s0 (k_o 15 (fs1.set 20 (vR s1)))) 123 [(0, vR (some x0))] [] Q) : k_X (jX12_init G l h0) h 120 [(0, vR (some x0))] [vR s1, vR (some s0)] Q := by
  obtain ⟨h', r, K, q⟩ := K
  exact ⟨h', r, j_putF dX12_init_120 rfl kp_X12_57 o1 (k_ln z1 (by decide)) (k_fit_a _ _) rfl <| K, q⟩
theorem bX12_init_123 {h0 h : k_H} {Q : k_H → k_R → Prop} {x0 : Nat} (K : k_X (jX12_init G l h0) (k_nw h 16384 (k_i 16384 (fun _ => 0))) 129 [(0, vR (some x0))] [vR (some h.2.1), vR (some x0)] Q) : k_X (jX12_init G l h0) h 123 [(0, vR (some x0))] [] Q := by
  obtain ⟨h', r, K, q⟩ := K
  exact ⟨h', r, j_aload_n dX12_init_123 rfl rfl <| j_sipush (v := 16384) dX12_init_124 (by decide) <| j_newi (N := 16384) dX12_init_127 ka_int (by decide) (by decide) <| K, q⟩
theorem bX12_init_129 {h0 h : k_H} {Q : k_H → k_R → Prop} {x0 s0 : Nat} {s1 : Option Nat} {fs1 : List k_V} (o1 : h.1 s0 = some (k_o 15 fs1)) (z1 : fs1.length = 53) (K : k_X (jX12_init G l h0) (k_up h s0 (k_o 15 (fs1.set 21 (vR s1)))) 132 [(0, vR (some x0))] [] Q) : k_X (jX12_init G l h0) h 129 [(0, vR (some x0))] [vR s1, vR (some s0)] Q := by
  obtain ⟨h', r, K, q⟩ := K
  exact ⟨h', r, j_putF dX12_init_129 rfl kp_X12_60 o1 (k_ln z1 (by decide)) (k_fit_a _ _) rfl <| K, q⟩
theorem bX12_init_132 {h0 h : k_H} {Q : k_H → k_R → Prop} {x0 : Nat} (K : k_X (jX12_init G l h0) (k_nw h 16384 (k_j 16384 (fun _ => 0))) 138 [(0, vR (some x0))] [vR (some h.2.1), vR (some x0)] Q) : k_X (jX12_init G l h0) h 132 [(0, vR (some x0))] [] Q := by
  obtain ⟨h', r, K, q⟩ := K
  exact ⟨h', r, j_aload_n dX12_init_132 rfl rfl <| j_sipush (v := 16384) dX12_init_133 (by decide) <| j_newj (N := 16384) dX12_init_136 ka_long (by decide) (by decide) <| K, q⟩
theorem bX12_init_138 {h0 h : k_H} {Q : k_H → k_R → Prop} {x0 s0 : Nat} {s1 : Option Nat} {fs1 : List k_V} (o1 : h.1 s0 = some (k_o 15 fs1)) (z1 : fs1.length = 53) (K : k_X (jX12_init G l h0) (k_up h s0 (k_o 15 (fs1.set 22 (vR s1)))) 141 [(0, vR (some x0))] [] Q) : k_X (jX12_init G l h0) h 138 [(0, vR (some x0))] [vR s1, vR (some s0)] Q := by
  obtain ⟨h', r, K, q⟩ := K
  exact ⟨h', r, j_putF dX12_init_138 rfl kp_X12_63 o1 (k_ln z1 (by decide)) (k_fit_a _ _) rfl <| K, q⟩
theorem bX12_init_141 {h0 h : k_H} {Q : k_H → k_R → Prop} {x0 : Nat} (K : k_X (jX12_init G l h0) (k_nw h 16384 (k_j 16384 (fun _ => 0))) 147 [(0, vR (some x0))] [vR (some h.2.1), vR (some x0)] Q) : k_X (jX12_init G l h0) h 141 [(0, vR (some x0))] [] Q := by
  obtain ⟨h', r, K, q⟩ := K
  exact ⟨h', r, j_aload_n dX12_init_141 rfl rfl <| j_sipush (v := 16384) dX12_init_142 (by decide) <| j_newj (N := 16384) dX12_init_145 ka_long (by decide) (by decide) <| K, q⟩
theorem bX12_init_147 {h0 h : k_H} {Q : k_H → k_R → Prop} {x0 s0 : Nat} {s1 : Option Nat} {fs1 : List k_V} (o1 : h.1 s0 = some (k_o 15 fs1)) (z1 : fs1.length = 53) (K : k_X (jX12_init G l h0) (k_up h s0 (k_o 15 (fs1.set 23 (vR s1)))) 150 [(0, vR (some x0))] [] Q) : k_X (jX12_init G l h0) h 147 [(0, vR (some x0))] [vR s1, vR (some s0)] Q := by
  obtain ⟨h', r, K, q⟩ := K
  exact ⟨h', r, j_putF dX12_init_147 rfl kp_X12_66 o1 (k_ln z1 (by decide)) (k_fit_a _ _) rfl <| K, q⟩
theorem bX12_init_150 {h0 h : k_H} {Q : k_H → k_R → Prop} {x0 : Nat} (K : k_X (jX12_init G l h0) (k_nw h 16384 (k_i 16384 (fun _ => 0))) 156 [(0, vR (some x0))] [vR (some h.2.1), vR (some x0)] Q) : k_X (jX12_init G l h0) h 150 [(0, vR (some x0))] [] Q := by
  obtain ⟨h', r, K, q⟩ := K
  exact ⟨h', r, j_aload_n dX12_init_150 rfl rfl <| j_sipush (v := 16384) dX12_init_151 (by decide) <| j_newi (N := 16384) dX12_init_154 ka_int (by decide) (by decide) <| K, q⟩
theorem bX12_init_156 {h0 h : k_H} {Q : k_H → k_R → Prop} {x0 s0 : Nat} {s1 : Option Nat} {fs1 : List k_V} (o1 : h.1 s0 = some (k_o 15 fs1)) (z1 : fs1.length = 53) (K : k_X (jX12_init G l h0) (k_up h s0 (k_o 15 (fs1.set 24 (vR s1)))) 159 [(0, vR (some x0))] [] Q) : k_X (jX12_init G l h0) h 156 [(0, vR (some x0))] [vR s1, vR (some s0)] Q := by
  obtain ⟨h', r, K, q⟩ := K
  exact ⟨h', r, j_putF dX12_init_156 rfl kp_X12_69 o1 (k_ln z1 (by decide)) (k_fit_a _ _) rfl <| K, q⟩
theorem bX12_init_159 {h0 h : k_H} {Q : k_H → k_R → Prop} {x0 : Nat} (K : k_X (jX12_init G l h0) (k_nw h 16384 (k_i 16384 (fun _ => 0))) 165 [(0, vR (some x0))] [vR (some h.2.1), vR (some x0)] Q) : k_X (jX12_init G l h0) h 159 [(0, vR (some x0))] [] Q := by
  obtain ⟨h', r, K, q⟩ := K
  exact ⟨h', r, j_aload_n dX12_init_159 rfl rfl <| j_sipush (v := 16384) dX12_init_160 (by decide) <| j_newi (N := 16384) dX12_init_163 ka_int (by decide) (by decide) <| K, q⟩
theorem bX12_init_165 {h0 h : k_H} {Q : k_H → k_R → Prop} {x0 s0 : Nat} {s1 : Option Nat} {fs1 : List k_V} (o1 : h.1 s0 = some (k_o 15 fs1)) (z1 : fs1.length = 53) (K : k_X (jX12_init G l h0) (k_up h s0 (k_o 15 (fs1.set 25 (vR s1)))) 168 [(0, vR (some x0))] [] Q) : k_X (jX12_init G l h0) h 165 [(0, vR (some x0))] [vR s1, vR (some s0)] Q := by
  obtain ⟨h', r, K, q⟩ := K
  exact ⟨h', r, j_putF dX12_init_165 rfl kp_X12_72 o1 (k_ln z1 (by decide)) (k_fit_a _ _) rfl <| K, q⟩
theorem bX12_init_168 {h0 h : k_H} {Q : k_H → k_R → Prop} {x0 : Nat} (K : k_X (jX12_init G l h0) (k_nw h 4 (k_i 4 (fun _ => 0))) 172 [(0, vR (some x0))] [vR (some h.2.1), vR (some x0)] Q) : k_X (jX12_init G l h0) h 168 [(0, vR (some x0))] [] Q := by
  obtain ⟨h', r, K, q⟩ := K
  exact ⟨h', r, j_aload_n dX12_init_168 rfl rfl <| j_iconst (v := 4) dX12_init_169 (by decide) <| j_newi (N := 4) dX12_init_170 ka_int (by decide) (by decide) <| K, q⟩
theorem bX12_init_172 {h0 h : k_H} {Q : k_H → k_R → Prop} {x0 s0 : Nat} {s1 : Option Nat} {fs1 : List k_V} (o1 : h.1 s0 = some (k_o 15 fs1)) (z1 : fs1.length = 53) (K : k_X (jX12_init G l h0) (k_up h s0 (k_o 15 (fs1.set 26 (vR s1)))) 175 [(0, vR (some x0))] [] Q) : k_X (jX12_init G l h0) h 172 [(0, vR (some x0))] [vR s1, vR (some s0)] Q := by
  obtain ⟨h', r, K, q⟩ := K
  exact ⟨h', r, j_putF dX12_init_172 rfl kp_X12_75 o1 (k_ln z1 (by decide)) (k_fit_a _ _) rfl <| K, q⟩
theorem bX12_init_175 {h0 h : k_H} {Q : k_H → k_R → Prop} {x0 : Nat} (K : k_X (jX12_init G l h0) (k_nw h 8192 (k_j 8192 (fun _ => 0))) 181 [(0, vR (some x0))] [vR (some h.2.1), vR (some x0)] Q) : k_X (jX12_init G l h0) h 175 [(0, vR (some x0))] [] Q := by
  obtain ⟨h', r, K, q⟩ := K
  exact ⟨h', r, j_aload_n dX12_init_175 rfl rfl <| j_sipush (v := 8192) dX12_init_176 (by decide) <| j_newj (N := 8192) dX12_init_179 ka_long (by decide) (by decide) <| K, q⟩
theorem bX12_init_181 {h0 h : k_H} {Q : k_H → k_R → Prop} {x0 s0 : Nat} {s1 : Option Nat} {fs1 : List k_V} (o1 : h.1 s0 = some (k_o 15 fs1)) (z1 : fs1.length = 53) (K : k_X (jX12_init G l h0) (k_up h s0 (k_o 15 (fs1.set 27 (vR s1)))) 184 [(0, vR (some x0))] [] Q) : k_X (jX12_init G l h0) h 181 [(0, vR (some x0))] [vR s1, vR (some s0)] Q := by
  obtain ⟨h', r, K, q⟩ := K
  exact ⟨h', r, j_putF dX12_init_181 rfl kp_X12_78 o1 (k_ln z1 (by decide)) (k_fit_a _ _) rfl <| K, q⟩
theorem bX12_init_184 {h0 h : k_H} {Q : k_H → k_R → Prop} {x0 : Nat} (K : k_X (jX12_init G l h0) (k_nw h 8192 (k_j 8192 (fun _ => 0))) 190 [(0, vR (some x0))] [vR (some h.2.1), vR (some x0)] Q) : k_X (jX12_init G l h0) h 184 [(0, vR (some x0))] [] Q := by
  obtain ⟨h', r, K, q⟩ := K
  exact ⟨h', r, j_aload_n dX12_init_184 rfl rfl <| j_sipush (v := 8192) dX12_init_185 (by decide) <| j_newj (N := 8192) dX12_init_188 ka_long (by decide) (by decide) <| K, q⟩
theorem bX12_init_190 {h0 h : k_H} {Q : k_H → k_R → Prop} {x0 s0 : Nat} {s1 : Option Nat} {fs1 : List k_V} (o1 : h.1 s0 = some (k_o 15 fs1)) (z1 : fs1.length = 53) (K : k_X (jX12_init G l h0) (k_up h s0 (k_o 15 (fs1.set 28 (vR s1)))) 193 [(0, vR (some x0))] [] Q) : k_X (jX12_init G l h0) h 190 [(0, vR (some x0))] [vR s1, vR (some s0)] Q := by
  obtain ⟨h', r, K, q⟩ := K
  exact ⟨h', r, j_putF dX12_init_190 rfl kp_X12_81 o1 (k_ln z1 (by decide)) (k_fit_a _ _) rfl <| K, q⟩
theorem bX12_init_193 {h0 h : k_H} {Q : k_H → k_R → Prop} {x0 : Nat} (K : k_X (jX12_init G l h0) (k_nw h 8192 (k_i 8192 (fun _ => 0))) 199 [(0, vR (some x0))] [vR (some h.2.1), vR (some x0)] Q) : k_X (jX12_init G l h0) h 193 [(0, vR (some x0))] [] Q := by
  obtain ⟨h', r, K, q⟩ := K
  exact ⟨h', r, j_aload_n dX12_init_193 rfl rfl <| j_sipush (v := 8192) dX12_init_194 (by decide) <| j_newi (N := 8192) dX12_init_197 ka_int (by decide) (by decide) <| K, q⟩
theorem bX12_init_199 {h0 h : k_H} {Q : k_H → k_R → Prop} {x0 s0 : Nat} {s1 : Option Nat} {fs1 : List k_V} (o1 : h.1 s0 = some (k_o 15 fs1)) (z1 : fs1.length = 53) (K : k_X (jX12_init G l h0) (k_up h s0 (k_o 15 (fs1.set 29 (vR s1)))) 202 [(0, vR (some x0))] [] Q) : k_X (jX12_init G l h0) h 199 [(0, vR (some x0))] [vR s1, vR (some s0)] Q := by
  obtain ⟨h', r, K, q⟩ := K
  exact ⟨h', r, j_putF dX12_init_199 rfl kp_X12_84 o1 (k_ln z1 (by decide)) (k_fit_a _ _) rfl <| K, q⟩
theorem bX12_init_202 {h0 h : k_H} {Q : k_H → k_R → Prop} {x0 : Nat} {fs1 : List k_V} (o1 : h.1 x0 = some (k_o 15 fs1)) (z1 : fs1.length = 53) (K : k_X (jX12_init G l h0) (k_up h x0 (k_o 15 (fs1.set 32 (vI (-2147483648))))) 208 [(0, vR (some x0))] [] Q) : k_X (jX12_init G l h0) h 202 [(0, vR (some x0))] [] Q := by
  obtain ⟨h', r, K, q⟩ := K
  exact ⟨h', r, j_aload_n dX12_init_202 rfl rfl <| j_ldc (v := (-2147483648)) dX12_init_203 ki_X12_87 <| j_putf dX12_init_205 kp_X12_88 o1 (k_ln z1 (by decide)) (k_fit_i _) rfl <| K, q⟩
theorem bX12_init_208 {h0 h : k_H} {Q : k_H → k_R → Prop} {x0 : Nat} {fs1 : List k_V} (o1 : h.1 x0 = some (k_o 15 fs1)) (z1 : fs1.length = 53) (K : k_X (jX12_init G l h0) (k_up h x0 (k_o 15 (fs1.set 36 (vI 1)))) 213 [(0, vR (some x0))] [] Q) : k_X (jX12_init G l h0) h 208 [(0, vR (some x0))] [] Q := by
  obtain ⟨h', r, K, q⟩ := K
  exact ⟨h', r, j_aload_n dX12_init_208 rfl rfl <| j_iconst (v := 1) dX12_init_209 (by decide) <| j_putf dX12_init_210 kp_X12_92 o1 (k_ln z1 (by decide)) (k_fit_i _) rfl <| K, q⟩
theorem bX12_init_213 {h0 h : k_H} {Q : k_H → k_R → Prop} {x0 : Nat} (K : k_X (jX12_init G l h0) (k_nw h 1024 (k_i 1024 (fun _ => 0))) 219 [(0, vR (some x0))] [vR (some h.2.1), vR (some x0)] Q) : k_X (jX12_init G l h0) h 213 [(0, vR (some x0))] [] Q := by
  obtain ⟨h', r, K, q⟩ := K
  exact ⟨h', r, j_aload_n dX12_init_213 rfl rfl <| j_sipush (v := 1024) dX12_init_214 (by decide) <| j_newi (N := 1024) dX12_init_217 ka_int (by decide) (by decide) <| K, q⟩
theorem bX12_init_219 {h0 h : k_H} {Q : k_H → k_R → Prop} {x0 s0 : Nat} {s1 : Option Nat} {fs1 : List k_V} (o1 : h.1 s0 = some (k_o 15 fs1)) (z1 : fs1.length = 53) (K : k_X (jX12_init G l h0) (k_up h s0 (k_o 15 (fs1.set 37 (vR s1)))) 222 [(0, vR (some x0))] [] Q) : k_X (jX12_init G l h0) h 219 [(0, vR (some x0))] [vR s1, vR (some s0)] Q := by
  obtain ⟨h', r, K, q⟩ := K
  exact ⟨h', r, j_putF dX12_init_219 rfl kp_X12_95 o1 (k_ln z1 (by decide)) (k_fit_a _ _) rfl <| K, q⟩
theorem bX12_init_222 {h0 h : k_H} {Q : k_H → k_R → Prop} {x0 : Nat} (K : k_X (jX12_init G l h0) (k_nw h 1024 (k_i 1024 (fun _ => 0))) 228 [(0, vR (some x0))] [vR (some h.2.1), vR (some x0)] Q) : k_X (jX12_init G l h0) h 222 [(0, vR (some x0))] [] Q := by
  obtain ⟨h', r, K, q⟩ := K
  exact ⟨h', r, j_aload_n dX12_init_222 rfl rfl <| j_sipush (v := 1024) dX12_init_223 (by decide) <| j_newi (N := 1024) dX12_init_226 ka_int (by decide) (by decide) <| K, q⟩
theorem bX12_init_228 {h0 h : k_H} {Q : k_H → k_R → Prop} {x0 s0 : Nat} {s1 : Option Nat} {fs1 : List k_V} (o1 : h.1 s0 = some (k_o 15 fs1)) (z1 : fs1.length = 53) (K : k_X (jX12_init G l h0) (k_up h s0 (k_o 15 (fs1.set 38 (vR s1)))) 231 [(0, vR (some x0))] [] Q) : k_X (jX12_init G l h0) h 228 [(0, vR (some x0))] [vR s1, vR (some s0)] Q := by
  obtain ⟨h', r, K, q⟩ := K
  exact ⟨h', r, j_putF dX12_init_228 rfl kp_X12_98 o1 (k_ln z1 (by decide)) (k_fit_a _ _) rfl <| K, q⟩
theorem bX12_init_231 {h0 h : k_H} {Q : k_H → k_R → Prop} {x0 : Nat} (K : k_X (jX12_init G l h0) (k_nw h 1024 (k_i 1024 (fun _ => 0))) 237 [(0, vR (some x0))] [vR (some h.2.1), vR (some x0)] Q) : k_X (jX12_init G l h0) h 231 [(0, vR (some x0))] [] Q := by
  obtain ⟨h', r, K, q⟩ := K
  exact ⟨h', r, j_aload_n dX12_init_231 rfl rfl <| j_sipush (v := 1024) dX12_init_232 (by decide) <| j_newi (N := 1024) dX12_init_235 ka_int (by decide) (by decide) <| K, q⟩
theorem bX12_init_237 {h0 h : k_H} {Q : k_H → k_R → Prop} {x0 s0 : Nat} {s1 : Option Nat} {fs1 : List k_V} (o1 : h.1 s0 = some (k_o 15 fs1)) (z1 : fs1.length = 53) (K : k_X (jX12_init G l h0) (k_up h s0 (k_o 15 (fs1.set 39 (vR s1)))) 240 [(0, vR (some x0))] [] Q) : k_X (jX12_init G l h0) h 237 [(0, vR (some x0))] [vR s1, vR (some s0)] Q := by
  obtain ⟨h', r, K, q⟩ := K
  exact ⟨h', r, j_putF dX12_init_237 rfl kp_X12_101 o1 (k_ln z1 (by decide)) (k_fit_a _ _) rfl <| K, q⟩
theorem bX12_init_240 {h0 h : k_H} {Q : k_H → k_R → Prop} {x0 : Nat} (K : k_X (jX12_init G l h0) (k_nw h 1024 (k_z 1024 (fun _ => 0))) 246 [(0, vR (some x0))] [vR (some h.2.1), vR (some x0)] Q) : k_X (jX12_init G l h0) h 240 [(0, vR (some x0))] [] Q := by
  obtain ⟨h', r, K, q⟩ := K
  exact ⟨h', r, j_aload_n dX12_init_240 rfl rfl <| j_sipush (v := 1024) dX12_init_241 (by decide) <| j_newz (N := 1024) dX12_init_244 ka_boolean (by decide) (by decide) <| K, q⟩
theorem bX12_init_246 {h0 h : k_H} {Q : k_H → k_R → Prop} {x0 s0 : Nat} {s1 : Option Nat} {fs1 : List k_V} (o1 : h.1 s0 = some (k_o 15 fs1)) (z1 : fs1.length = 53) (K : k_X (jX12_init G l h0) (k_up h s0 (k_o 15 (fs1.set 40 (vR s1)))) 249 [(0, vR (some x0))] [] Q) : k_X (jX12_init G l h0) h 246 [(0, vR (some x0))] [vR s1, vR (some s0)] Q := by
  obtain ⟨h', r, K, q⟩ := K
  exact ⟨h', r, j_putF dX12_init_246 rfl kp_X12_104 o1 (k_ln z1 (by decide)) (k_fit_a _ _) rfl <| K, q⟩
theorem bX12_init_249 {h0 h : k_H} {Q : k_H → k_R → Prop} {x0 : Nat} (K : k_X (jX12_init G l h0) (k_nw h 1024 (k_z 1024 (fun _ => 0))) 255 [(0, vR (some x0))] [vR (some h.2.1), vR (some x0)] Q) : k_X (jX12_init G l h0) h 249 [(0, vR (some x0))] [] Q := by
  obtain ⟨h', r, K, q⟩ := K
  exact ⟨h', r, j_aload_n dX12_init_249 rfl rfl <| j_sipush (v := 1024) dX12_init_250 (by decide) <| j_newz (N := 1024) dX12_init_253 ka_boolean (by decide) (by decide) <| K, q⟩
theorem bX12_init_255 {h0 h : k_H} {Q : k_H → k_R → Prop} {x0 s0 : Nat} {s1 : Option Nat} {fs1 : List k_V} (o1 : h.1 s0 = some (k_o 15 fs1)) (z1 : fs1.length = 53) (K : k_X (jX12_init G l h0) (k_up h s0 (k_o 15 (fs1.set 41 (vR s1)))) 258 [(0, vR (some x0))] [] Q) : k_X (jX12_init G l h0) h 255 [(0, vR (some x0))] [vR s1, vR (some s0)] Q := by
  obtain ⟨h', r, K, q⟩ := K
  exact ⟨h', r, j_putF dX12_init_255 rfl kp_X12_107 o1 (k_ln z1 (by decide)) (k_fit_a _ _) rfl <| K, q⟩
theorem bX12_init_258 {h0 h : k_H} {Q : k_H → k_R → Prop} {x0 : Nat} (K : k_X (jX12_init G l h0) (k_nw h 20 (k_j 20 (fun _ => 0))) 263 [(0, vR (some x0))] [vR (some h.2.1), vR (some x0)] Q) : k_X (jX12_init G l h0) h 258 [(0, vR (some x0))] [] Q := by
  obtain ⟨h', r, K, q⟩ := K
  exact ⟨h', r, j_aload_n dX12_init_258 rfl rfl <| j_bipush (v := 20) dX12_init_259 (by decide) <| j_newj (N := 20) dX12_init_261 ka_long (by decide) (by decide) <| K, q⟩
theorem bX12_init_263 {h0 h : k_H} {Q : k_H → k_R → Prop} {x0 s0 : Nat} {s1 : Option Nat} {fs1 : List k_V} (o1 : h.1 s0 = some (k_o 15 fs1)) (z1 : fs1.length = 53) (K : k_X (jX12_init G l h0) (k_up h s0 (k_o 15 (fs1.set 43 (vR s1)))) 266 [(0, vR (some x0))] [] Q) : k_X (jX12_init G l h0) h 263 [(0, vR (some x0))] [vR s1, vR (some s0)] Q := by
  obtain ⟨h', r, K, q⟩ := K
  exact ⟨h', r, j_putF dX12_init_263 rfl kp_X12_110 o1 (k_ln z1 (by decide)) (k_fit_a _ _) rfl <| K, q⟩
theorem bX12_init_266 {h0 h : k_H} {Q : k_H → k_R → Prop} {x0 : Nat} (K : k_X (jX12_init G l h0) (k_nw h 20 (k_i 20 (fun _ => 0))) 271 [(0, vR (some x0))] [vR (some h.2.1), vR (some x0)] Q) : k_X (jX12_init G l h0) h 266 [(0, vR (some x0))] [] Q := by
  obtain ⟨h', r, K, q⟩ := K
  exact ⟨h', r, j_aload_n dX12_init_266 rfl rfl <| j_bipush (v := 20) dX12_init_267 (by decide) <| j_newi (N := 20) dX12_init_269 ka_int (by decide) (by decide) <| K, q⟩
theorem bX12_init_271 {h0 h : k_H} {Q : k_H → k_R → Prop} {x0 s0 : Nat} {s1 : Option Nat} {fs1 : List k_V} (o1 : h.1 s0 = some (k_o 15 fs1)) (z1 : fs1.length = 53) (K : k_X (jX12_init G l h0) (k_up h s0 (k_o 15 (fs1.set 44 (vR s1)))) 274 [(0, vR (some x0))] [] Q) : k_X (jX12_init G l h0) h 271 [(0, vR (some x0))] [vR s1, vR (some s0)] Q := by
  obtain ⟨h', r, K, q⟩ := K
  exact ⟨h', r, j_putF dX12_init_271 rfl kp_X12_113 o1 (k_ln z1 (by decide)) (k_fit_a _ _) rfl <| K, q⟩
theorem bX12_init_274 {h0 h : k_H} {Q : k_H → k_R → Prop} {x0 : Nat} (K : k_X (jX12_init G l h0) (k_nw h 20 (k_z 20 (fun _ => 0))) 279 [(0, vR (some x0))] [vR (some h.2.1), vR (some x0)] Q) : k_X (jX12_init G l h0) h 274 [(0, vR (some x0))] [] Q := by
  obtain ⟨h', r, K, q⟩ := K
  exact ⟨h', r, j_aload_n dX12_init_274 rfl rfl <| j_bipush (v := 20) dX12_init_275 (by decide) <| j_newz (N := 20) dX12_init_277 ka_boolean (by decide) (by decide) <| K, q⟩
theorem bX12_init_279 {h0 h : k_H} {Q : k_H → k_R → Prop} {x0 s0 : Nat} {s1 : Option Nat} {fs1 : List k_V} (o1 : h.1 s0 = some (k_o 15 fs1)) (z1 : fs1.length = 53) (K : k_X (jX12_init G l h0) (k_up h s0 (k_o 15 (fs1.set 45 (vR s1)))) 282 [(0, vR (some x0))] [] Q) : k_X (jX12_init G l h0) h 279 [(0, vR (some x0))] [vR s1, vR (some s0)] Q := by
  obtain ⟨h', r, K, q⟩ := K
  exact ⟨h', r, j_putF dX12_init_279 rfl kp_X12_116 o1 (k_ln z1 (by decide)) (k_fit_a _ _) rfl <| K, q⟩
theorem bX12_init_282 {h0 h : k_H} {Q : k_H → k_R → Prop} {x0 : Nat} (K : k_X (jX12_init G l h0) (k_nw h 20 (k_i 20 (fun _ => 0))) 287 [(0, vR (some x0))] [vR (some h.2.1), vR (some x0)] Q) : k_X (jX12_init G l h0) h 282 [(0, vR (some x0))] [] Q := by
  obtain ⟨h', r, K, q⟩ := K
  exact ⟨h', r, j_aload_n dX12_init_282 rfl rfl <| j_bipush (v := 20) dX12_init_283 (by decide) <| j_newi (N := 20) dX12_init_285 ka_int (by decide) (by decide) <| K, q⟩
theorem bX12_init_287 {h0 h : k_H} {Q : k_H → k_R → Prop} {x0 s0 : Nat} {s1 : Option Nat} {fs1 : List k_V} (o1 : h.1 s0 = some (k_o 15 fs1)) (z1 : fs1.length = 53) (K : k_X (jX12_init G l h0) (k_up h s0 (k_o 15 (fs1.set 46 (vR s1)))) 290 [(0, vR (some x0))] [] Q) : k_X (jX12_init G l h0) h 287 [(0, vR (some x0))] [vR s1, vR (some s0)] Q := by
  obtain ⟨h', r, K, q⟩ := K
  exact ⟨h', r, j_putF dX12_init_287 rfl kp_X12_119 o1 (k_ln z1 (by decide)) (k_fit_a _ _) rfl <| K, q⟩
theorem bX12_init_290 {h0 h : k_H} {Q : k_H → k_R → Prop} {x0 : Nat} (K : k_X (jX12_init G l h0) (k_nw h 10 (k_i 10 (fun _ => 0))) 295 [(0, vR (some x0))] [vR (some h.2.1), vR (some x0)] Q) : k_X (jX12_init G l h0) h 290 [(0, vR (some x0))] [] Q := by
  obtain ⟨h', r, K, q⟩ := K
  exact ⟨h', r, j_aload_n dX12_init_290 rfl rfl <| j_bipush (v := 10) dX12_init_291 (by decide) <| j_newi (N := 10) dX12_init_293 ka_int (by decide) (by decide) <| K, q⟩
theorem bX12_init_295 {h0 h : k_H} {Q : k_H → k_R → Prop} {x0 s0 : Nat} {s1 : Option Nat} {fs1 : List k_V} (o1 : h.1 s0 = some (k_o 15 fs1)) (z1 : fs1.length = 53) (K : k_X (jX12_init G l h0) (k_up h s0 (k_o 15 (fs1.set 48 (vR s1)))) 298 [(0, vR (some x0))] [] Q) : k_X (jX12_init G l h0) h 295 [(0, vR (some x0))] [vR s1, vR (some s0)] Q := by
  obtain ⟨h', r, K, q⟩ := K
  exact ⟨h', r, j_putF dX12_init_295 rfl kp_X12_122 o1 (k_ln z1 (by decide)) (k_fit_a _ _) rfl <| K, q⟩
theorem bX12_init_298 {h0 h : k_H} {Q : k_H → k_R → Prop} {x0 : Nat} {fs1 : List k_V} (o1 : h.1 x0 = some (k_o 15 fs1)) (z1 : fs1.length = 53) (K : k_X (jX12_init G l h0) (k_up h x0 (k_o 15 (fs1.set 49 (vI 1)))) 303 [(0, vR (some x0))] [] Q) : k_X (jX12_init G l h0) h 298 [(0, vR (some x0))] [] Q := by
  obtain ⟨h', r, K, q⟩ := K
  exact ⟨h', r, j_aload_n dX12_init_298 rfl rfl <| j_iconst (v := 1) dX12_init_299 (by decide) <| j_putf dX12_init_300 kp_X12_125 o1 (k_ln z1 (by decide)) (k_fit_i _) rfl <| K, q⟩
theorem bX12_init_303 {h0 h : k_H} {Q : k_H → k_R → Prop} {x0 : Nat} (K : k_X (jX12_init G l h0) (k_nw h 4096 (k_j 4096 (fun _ => 0))) 309 [(0, vR (some x0))] [vR (some h.2.1), vR (some x0)] Q) : k_X (jX12_init G l h0) h 303 [(0, vR (some x0))] [] Q := by
  obtain ⟨h', r, K, q⟩ := K
  exact ⟨h', r, j_aload_n dX12_init_303 rfl rfl <| j_sipush (v := 4096) dX12_init_304 (by decide) <| j_newj (N := 4096) dX12_init_307 ka_long (by decide) (by decide) <| K, q⟩
theorem bX12_init_309 {h0 h : k_H} {Q : k_H → k_R → Prop} {x0 s0 : Nat} {s1 : Option Nat} {fs1 : List k_V} (o1 : h.1 s0 = some (k_o 15 fs1)) (z1 : fs1.length = 53) (K : k_X (jX12_init G l h0) (k_up h s0 (k_o 15 (fs1.set 50 (vR s1)))) 312 [(0, vR (some x0))] [] Q) : k_X (jX12_init G l h0) h 309 [(0, vR (some x0))] [vR s1, vR (some s0)] Q := by
  obtain ⟨h', r, K, q⟩ := K
  exact ⟨h', r, j_putF dX12_init_309 rfl kp_X12_128 o1 (k_ln z1 (by decide)) (k_fit_a _ _) rfl <| K, q⟩
theorem bX12_init_312 {h0 h : k_H} {Q : k_H → k_R → Prop} {x0 : Nat} (K : k_X (jX12_init G l h0) (k_nw h 4096 (k_i 4096 (fun _ => 0))) 318 [(0, vR (some x0))] [vR (some h.2.1), vR (some x0)] Q) : k_X (jX12_init G l h0) h 312 [(0, vR (some x0))] [] Q := by
  obtain ⟨h', r, K, q⟩ := K
  exact ⟨h', r, j_aload_n dX12_init_312 rfl rfl <| j_sipush (v := 4096) dX12_init_313 (by decide) <| j_newi (N := 4096) dX12_init_316 ka_int (by decide) (by decide) <| K, q⟩
theorem bX12_init_318 {h0 h : k_H} {Q : k_H → k_R → Prop} {x0 s0 : Nat} {s1 : Option Nat} {fs1 : List k_V} (o1 : h.1 s0 = some (k_o 15 fs1)) (z1 : fs1.length = 53) (K : k_X (jX12_init G l h0) (k_up h s0 (k_o 15 (fs1.set 51 (vR s1)))) 321 [(0, vR (some x0))] [] Q) : k_X (jX12_init G l h0) h 318 [(0, vR (some x0))] [vR s1, vR (some s0)] Q := by
  obtain ⟨h', r, K, q⟩ := K
  exact ⟨h', r, j_putF dX12_init_318 rfl kp_X12_131 o1 (k_ln z1 (by decide)) (k_fit_a _ _) rfl <| K, q⟩
theorem bX12_init_321 {h0 h : k_H} {Q : k_H → k_R → Prop} {x0 f1_40 : Nat} {fs1 : List k_V} (o1 : h.1 x0 = some (k_o 15 fs1)) (g1_40 : fs1[40]? = some (vR (some f1_40))) {n2 : Nat} {w2 : Nat → Int32} (o2 : h.1 f1_40 = some (k_z n2 w2)) (y3 : vp_in 0 n2) (K : k_X (jX12_init G l h0) (k_up h f1_40 (k_z n2 (va_up w2 (0 : Int32).toNatClampNeg 1))) 328 [(0, vR (some x0))] [] Q) : k_X (jX12_init G l h0) h 321 [(0, vR (some x0))] [] Q := by
  obtain ⟨h', r, K, q⟩ := K
  exact ⟨h', r, j_aload_n dX12_init_321 rfl rfl <| j_getf dX12_init_322 kf_X12_104 o1 g1_40 <| j_iconst (v := 0) dX12_init_325 (by decide) <| j_iconst (v := 1) dX12_init_326 (by decide) <| j_zast dX12_init_327 o2 y3 (by decide) <| K, q⟩
theorem bX12_init_328 {h0 h : k_H} {Q : k_H → k_R → Prop} {x0 f1_37 : Nat} {fs1 : List k_V} (o1 : h.1 x0 = some (k_o 15 fs1)) (g1_37 : fs1[37]? = some (vR (some f1_37))) {n2 : Nat} {w2 : Nat → Int32} (o2 : h.1 f1_37 = some (k_i n2 w2)) (y3 : vp_in 0 n2) (K : k_X (jX12_init G l h0) (k_up h f1_37 (k_i n2 (va_up w2 (0 : Int32).toNatClampNeg (-2147483648)))) 336 [] [] Q) : k_X (jX12_init G l h0) h 328 [(0, vR (some x0))] [] Q := by
  obtain ⟨h', r, K, q⟩ := K
  exact ⟨h', r, j_aload_n dX12_init_328 rfl rfl <| j_getf dX12_init_329 kf_X12_95 o1 g1_37 <| j_iconst (v := 0) dX12_init_332 (by decide) <| j_ldc (v := (-2147483648)) dX12_init_333 ki_X12_87 <| j_iast dX12_init_335 o2 y3 <| (j_pick [] rfl K), q⟩
theorem bX12_init_336 {h0 h : k_H} {Q : k_H → k_R → Prop} (q : Q h (.inl none)) : k_X (jX12_init G l h0) h 336 [] [] Q := by
  exact ⟨_, _, j_vret dX12_init_336 rfl, q⟩
theorem eX12_thrown {G : k_G} {l : Launch} (hfl : l.flags = flags0) {h : k_H} {Q : k_H → k_R → Prop} {x0 : Nat} (K : k_X (jX12_thrown G l h) h 0 [(0, vR (some x0))] [] Q) : k_ct (tX12_thrown G l) [vR (some x0)] h Q := by
  obtain ⟨h', r, K, q⟩ := K
  exact ⟨h', r, k_CtOf (by decide +kernel) (Nat.le_of_ble_eq_true rfl) K hfl, q⟩

theorem bX12_thrown_0 {h0 h : k_H} {Q : k_H → k_R → Prop} {x0 : Nat} {f1_52 : Int32} {fs1 : List k_V} (o1 : h.1 x0 = some (k_o 15 fs1)) (g1_52 : fs1[52]? = some (vI f1_52)) (q : Q h (.inl (some (vI f1_52)))) : k_X (jX12_thrown G l h0) h 0 [(0, vR (some x0))] [] Q := by
  exact ⟨_, _, j_aload_n dX12_thrown_0 rfl rfl <| j_getf dX12_thrown_1 kf_X12_134 o1 g1_52 <| j_iret dX12_thrown_4 rfl, q⟩
theorem eX12_goes {G : k_G} {l : Launch} (hfl : l.flags = flags0) {h : k_H} {Q : k_H → k_R → Prop} {x0 : Nat} {x1 : Int32} (K : k_X (jX12_goes G l h) h 0 [(0, vR (some x0)), (1, vI x1)] [] Q) : k_ct (tX12_goes G l) [vR (some x0), vI x1] h Q := by
  obtain ⟨h', r, K, q⟩ := K
  exact ⟨h', r, k_CtOf (by decide +kernel) (Nat.le_of_ble_eq_true rfl) K hfl, q⟩

theorem bX12_goes_0 {h0 h : k_H} {Q : k_H → k_R → Prop} {x0 : Nat} {x1 : Int32} {fs1 : List k_V} (o1 : h.1 x0 = some (k_o 15 fs1)) (z1 : fs1.length = 53) (K : k_X (jX12_goes G l h0) (k_up h x0 (k_o 15 (fs1.set 52 (vI x1)))) 5 [(1, vI x1)] [] Q) : k_X (jX12_goes G l h0) h 0 [(0, vR (some x0)), (1, vI x1)] [] Q := by
  obtain ⟨h', r, K, q⟩ := K
  exact ⟨h', r, j_aload_n dX12_goes_0 rfl rfl <| j_iload_n dX12_goes_1 rfl rfl <| j_putf dX12_goes_2 kp_X12_134 o1 (k_ln z1 (by decide)) (k_fit_i _) rfl <| (j_pick [1] rfl K), q⟩
theorem bX12_goes_5 {h0 h : k_H} {Q : k_H → k_R → Prop} {x1 : Int32} (K1 : ¬ (x1 = 0) → k_X (jX12_goes G l h0) h 13 [] [] Q) (K2 : x1 = 0 → k_X (jX12_goes G l h0) h 9 [] [] Q) : k_X (jX12_goes G l h0) h 5 [(1, vI x1)] [] Q := by
  by_cases hc : x1 = 0
  · skip
    obtain ⟨h', r, K, q⟩ := K2 hc
    exact ⟨h', r, j_iload_n dX12_goes_5 rfl rfl <| j_if_ne_f dX12_goes_6 13 (by decide) hc (j_pick [] rfl K), q⟩
  · skip
    obtain ⟨h', r, K, q⟩ := K1 hc
    exact ⟨h', r, j_iload_n dX12_goes_5 rfl rfl <| j_if_ne_t (tgt := 13) dX12_goes_6 (by decide) hc (j_pick [] rfl K), q⟩
theorem bX12_goes_9 {h0 h : k_H} {Q : k_H → k_R → Prop} (K : k_X (jX12_goes G l h0) h 14 [] [vI 1] Q) : k_X (jX12_goes G l h0) h 9 [] [] Q := by
  obtain ⟨h', r, K, q⟩ := K
  exact ⟨h', r, j_iconst (v := 1) dX12_goes_9 (by decide) <| j_goto (tgt := 14) dX12_goes_10 (by decide) <| K, q⟩
theorem bX12_goes_13 {h0 h : k_H} {Q : k_H → k_R → Prop} (K : k_X (jX12_goes G l h0) h 14 [] [vI 0] Q) : k_X (jX12_goes G l h0) h 13 [] [] Q := by
  obtain ⟨h', r, K, q⟩ := K
  exact ⟨h', r, j_iconst (v := 0) dX12_goes_13 (by decide) <| K, q⟩
theorem bX12_goes_14 {h0 h : k_H} {Q : k_H → k_R → Prop} {s0 : Int32} (y1 : k_bl s0) (q : Q h (.inl (some (vI s0)))) : k_X (jX12_goes G l h0) h 14 [] [vI s0] Q := by
  exact ⟨_, _, j_zret dX12_goes_14 rfl y1, q⟩
theorem eX12_isIn {G : k_G} {l : Launch} (hfl : l.flags = flags0) {h : k_H} {Q : k_H → k_R → Prop} {x0 : Int32} {x1 : Int32} {x2 : Int32} (K : k_X (jX12_isIn G l h) h 0 [(0, vI x0), (1, vI x1), (2, vI x2)] [] Q) : k_ct (tX12_isIn G l) [vI x0, vI x1, vI x2] h Q := by
  obtain ⟨h', r, K, q⟩ := K
  exact ⟨h', r, k_CtOf (by decide +kernel) (Nat.le_of_ble_eq_true rfl) K hfl, q⟩

theorem bX12_isIn_0 {h0 h : k_H} {Q : k_H → k_R → Prop} {x0 x1 x2 : Int32} (K1 : x0 < x1 → k_X (jX12_isIn G l h0) h 14 [] [] Q) (K2 : ¬ (x0 < x1) → k_X (jX12_isIn G l h0) h 5 [(0, vI x0), (2, vI x2)] [] Q) : k_X (jX12_isIn G l h0) h 0 [(0, vI x0), (1, vI x1), (2, vI x2)] [] Q := by
  by_cases hc : x0 < x1
  · skip
    obtain ⟨h', r, K, q⟩ := K1 hc
    exact ⟨h', r, j_iload_n dX12_isIn_0 rfl rfl <| j_iload_n dX12_isIn_1 rfl rfl <| j_icmp_lt_t (tgt := 14) dX12_isIn_2 (by decide) hc (j_pick [] rfl K), q⟩
  · skip
    obtain ⟨h', r, K, q⟩ := K2 hc
    exact ⟨h', r, j_iload_n dX12_isIn_0 rfl rfl <| j_iload_n dX12_isIn_1 rfl rfl <| j_icmp_lt_f dX12_isIn_2 14 (by decide) hc (j_pick [0, 2] rfl K), q⟩
theorem bX12_isIn_5 {h0 h : k_H} {Q : k_H → k_R → Prop} {x0 x2 : Int32} (K1 : x2 < x0 → k_X (jX12_isIn G l h0) h 14 [] [] Q) (K2 : ¬ (x2 < x0) → k_X (jX12_isIn G l h0) h 10 [] [] Q) : k_X (jX12_isIn G l h0) h 5 [(0, vI x0), (2, vI x2)] [] Q := by
  by_cases hc : x2 < x0
  · skip
    obtain ⟨h', r, K, q⟩ := K1 hc
    exact ⟨h', r, j_iload_n dX12_isIn_5 rfl rfl <| j_iload_n dX12_isIn_6 rfl rfl <| j_icmp_gt_t (tgt := 14) dX12_isIn_7 (by decide) hc (j_pick [] rfl K), q⟩
  · skip
    obtain ⟨h', r, K, q⟩ := K2 hc
    exact ⟨h', r, j_iload_n dX12_isIn_5 rfl rfl <| j_iload_n dX12_isIn_6 rfl rfl <| j_icmp_gt_f dX12_isIn_7 14 (by decide) hc (j_pick [] rfl K), q⟩
theorem bX12_isIn_10 {h0 h : k_H} {Q : k_H → k_R → Prop} (K : k_X (jX12_isIn G l h0) h 15 [] [vI 1] Q) : k_X (jX12_isIn G l h0) h 10 [] [] Q := by
  obtain ⟨h', r, K, q⟩ := K
  exact ⟨h', r, j_iconst (v := 1) dX12_isIn_10 (by decide) <| j_goto (tgt := 15) dX12_isIn_11 (by decide) <| K, q⟩
theorem bX12_isIn_14 {h0 h : k_H} {Q : k_H → k_R → Prop} (K : k_X (jX12_isIn G l h0) h 15 [] [vI 0] Q) : k_X (jX12_isIn G l h0) h 14 [] [] Q := by
  obtain ⟨h', r, K, q⟩ := K
  exact ⟨h', r, j_iconst (v := 0) dX12_isIn_14 (by decide) <| K, q⟩
theorem bX12_isIn_15 {h0 h : k_H} {Q : k_H → k_R → Prop} {s0 : Int32} (y1 : k_bl s0) (q : Q h (.inl (some (vI s0)))) : k_X (jX12_isIn G l h0) h 15 [] [vI s0] Q := by
  exact ⟨_, _, j_zret dX12_isIn_15 rfl y1, q⟩
theorem eX12_isTransaction {G : k_G} {l : Launch} (hfl : l.flags = flags0) {h : k_H} {Q : k_H → k_R → Prop} {x0 : Int32} (K : k_X (jX12_isTransaction G l h) h 0 [(0, vI x0)] [] Q) : k_ct (tX12_isTransaction G l) [vI x0] h Q := by
  obtain ⟨h', r, K, q⟩ := K
  exact ⟨h', r, k_CtOf (by decide +kernel) (Nat.le_of_ble_eq_true rfl) K hfl, q⟩

theorem bX12_isTransaction_0 {h0 h : k_H} {Q : k_H → k_R → Prop} {x0 : Int32} {P : k_H → Int32 → Prop} (c : k_cti (tX12_isIn G l) [vI x0, vI 0, vI 3] h P) (K : ∀ h1 v, P h1 v → k_X (jX12_isTransaction G l h0) h1 6 [] [vI v] Q) : k_X (jX12_isTransaction G l h0) h 0 [(0, vI x0)] [] Q := by
  obtain ⟨h1, v, c, p⟩ := c
  obtain ⟨h', r, K, q⟩ := K h1 v p
  exact ⟨h', r, j_iload_n dX12_isTransaction_0 rfl rfl <| j_iconst (v := 0) dX12_isTransaction_1 (by decide) <| j_iconst (v := 3) dX12_isTransaction_2 (by decide) <| j_callS (v := some (vI v)) (as := [vI x0, vI 0, vI 3]) dX12_isTransaction_3 kc_X12_137 rfl rfl (by decide) (Nat.le_of_ble_eq_true rfl) c (j_pick [] rfl K), q⟩
theorem bX12_isTransaction_6 {h0 h : k_H} {Q : k_H → k_R → Prop} {s0 : Int32} (y1 : k_bl s0) (q : Q h (.inl (some (vI s0)))) : k_X (jX12_isTransaction G l h0) h 6 [] [vI s0] Q := by
  exact ⟨_, _, j_zret dX12_isTransaction_6 rfl y1, q⟩
theorem eX12_isNumber {G : k_G} {l : Launch} (hfl : l.flags = flags0) {h : k_H} {Q : k_H → k_R → Prop} {x0 : Int32} (K : k_X (jX12_isNumber G l h) h 0 [(0, vI x0)] [] Q) : k_ct (tX12_isNumber G l) [vI x0] h Q := by
  obtain ⟨h', r, K, q⟩ := K
  exact ⟨h', r, k_CtOf (by decide +kernel) (Nat.le_of_ble_eq_true rfl) K hfl, q⟩

theorem bX12_isNumber_0 {h0 h : k_H} {Q : k_H → k_R → Prop} {x0 : Int32} {P : k_H → Int32 → Prop} (c : k_cti (tX12_isIn G l) [vI x0, vI (-999), vI 9999] h P) (K : ∀ h1 v, P h1 v → k_X (jX12_isNumber G l h0) h1 10 [] [vI v] Q) : k_X (jX12_isNumber G l h0) h 0 [(0, vI x0)] [] Q := by
  obtain ⟨h1, v, c, p⟩ := c
  obtain ⟨h', r, K, q⟩ := K h1 v p
  exact ⟨h', r, j_iload_n dX12_isNumber_0 rfl rfl <| j_sipush (v := (-999)) dX12_isNumber_1 (by decide) <| j_sipush (v := 9999) dX12_isNumber_4 (by decide) <| j_callS (v := some (vI v)) (as := [vI x0, vI (-999), vI 9999]) dX12_isNumber_7 kc_X12_137 rfl rfl (by decide) (Nat.le_of_ble_eq_true rfl) c (j_pick [] rfl K), q⟩
theorem bX12_isNumber_10 {h0 h : k_H} {Q : k_H → k_R → Prop} {s0 : Int32} (y1 : k_bl s0) (q : Q h (.inl (some (vI s0)))) : k_X (jX12_isNumber G l h0) h 10 [] [vI s0] Q := by
  exact ⟨_, _, j_zret dX12_isNumber_10 rfl y1, q⟩
theorem eX12_isKey {G : k_G} {l : Launch} (hfl : l.flags = flags0) {h : k_H} {Q : k_H → k_R → Prop} {x0 : Int32} {x1 : Int32} {x2 : Int32} (K : k_X (jX12_isKey G l h) h 0 [(0, vI x0), (1, vI x1), (2, vI x2)] [] Q) : k_ct (tX12_isKey G l) [vI x0, vI x1, vI x2] h Q := by
  obtain ⟨h', r, K, q⟩ := K
  exact ⟨h', r, k_CtOf (by decide +kernel) (Nat.le_of_ble_eq_true rfl) K hfl, q⟩

theorem bX12_isKey_0 {h0 h : k_H} {Q : k_H → k_R → Prop} {x0 x1 x2 : Int32} {P : k_H → Int32 → Prop} (c : k_cti (tX12_isNumber G l) [vI x0] h P) (K : ∀ h1 v, P h1 v → k_X (jX12_isKey G l h0) h1 4 [(1, vI x1), (2, vI x2)] [vI v] Q) : k_X (jX12_isKey G l h0) h 0 [(0, vI x0), (1, vI x1), (2, vI x2)] [] Q := by
  obtain ⟨h1, v, c, p⟩ := c
  obtain ⟨h', r, K, q⟩ := K h1 v p
  exact ⟨h', r, j_iload_n dX12_isKey_0 rfl rfl <| j_callS (v := some (vI v)) (as := [vI x0]) dX12_isKey_1 kc_X12_141 rfl rfl (by decide) (Nat.le_of_ble_eq_true rfl) c (j_pick [1, 2] rfl K), q⟩
theorem bX12_isKey_4 {h0 h : k_H} {Q : k_H → k_R → Prop} {x1 x2 s0 : Int32} (K1 : s0 = 0 → k_X (jX12_isKey G l h0) h 46 [] [] Q) (K2 : ¬ (s0 = 0) → k_X (jX12_isKey G l h0) h 7 [(1, vI x1), (2, vI x2)] [] Q) : k_X (jX12_isKey G l h0) h 4 [(1, vI x1), (2, vI x2)] [vI s0] Q := by
  by_cases hc : s0 = 0
  · skip
    obtain ⟨h', r, K, q⟩ := K1 hc
    exact ⟨h', r, j_if_eq_t (tgt := 46) dX12_isKey_4 (by decide) hc (j_pick [] rfl K), q⟩
  · skip
    obtain ⟨h', r, K, q⟩ := K2 hc
    exact ⟨h', r, j_if_eq_f dX12_isKey_4 46 (by decide) hc K, q⟩
theorem bX12_isKey_7 {h0 h : k_H} {Q : k_H → k_R → Prop} {x1 x2 : Int32} {P : k_H → Int32 → Prop} (c : k_cti (tX12_isNumber G l) [vI x1] h P) (K : ∀ h1 v, P h1 v → k_X (jX12_isKey G l h0) h1 11 [(1, vI x1), (2, vI x2)] [vI v] Q) : k_X (jX12_isKey G l h0) h 7 [(1, vI x1), (2, vI x2)] [] Q := by
  obtain ⟨h1, v, c, p⟩ := c
  obtain ⟨h', r, K, q⟩ := K h1 v p
  exact ⟨h', r, j_iload_n dX12_isKey_7 rfl rfl <| j_callS (v := some (vI v)) (as := [vI x1]) dX12_isKey_8 kc_X12_141 rfl rfl (by decide) (Nat.le_of_ble_eq_true rfl) c K, q⟩
theorem bX12_isKey_11 {h0 h : k_H} {Q : k_H → k_R → Prop} {x1 x2 s0 : Int32} (K1 : s0 = 0 → k_X (jX12_isKey G l h0) h 28 [(1, vI x1), (2, vI x2)] [] Q) (K2 : ¬ (s0 = 0) → k_X (jX12_isKey G l h0) h 14 [(1, vI x1), (2, vI x2)] [] Q) : k_X (jX12_isKey G l h0) h 11 [(1, vI x1), (2, vI x2)] [vI s0] Q := by
  by_cases hc : s0 = 0
  · skip
    obtain ⟨h', r, K, q⟩ := K1 hc
    exact ⟨h', r, j_if_eq_t (tgt := 28) dX12_isKey_11 (by decide) hc K, q⟩
  · skip
    obtain ⟨h', r, K, q⟩ := K2 hc
    exact ⟨h', r, j_if_eq_f dX12_isKey_11 28 (by decide) hc K, q⟩
theorem bX12_isKey_14 {h0 h : k_H} {Q : k_H → k_R → Prop} {x1 x2 : Int32} {P : k_H → Int32 → Prop} (c : k_cti (tX12_isNumber G l) [vI x2] h P) (K : ∀ h1 v, P h1 v → k_X (jX12_isKey G l h0) h1 18 [(1, vI x1), (2, vI x2)] [vI v] Q) : k_X (jX12_isKey G l h0) h 14 [(1, vI x1), (2, vI x2)] [] Q := by
  obtain ⟨h1, v, c, p⟩ := c
  obtain ⟨h', r, K, q⟩ := K h1 v p
  exact ⟨h', r, j_iload_n dX12_isKey_14 rfl rfl <| j_callS (v := some (vI v)) (as := [vI x2]) dX12_isKey_15 kc_X12_141 rfl rfl (by decide) (Nat.le_of_ble_eq_true rfl) c K, q⟩
theorem bX12_isKey_18 {h0 h : k_H} {Q : k_H → k_R → Prop} {x1 x2 s0 : Int32} (K1 : ¬ (s0 = 0) → k_X (jX12_isKey G l h0) h 42 [] [] Q) (K2 : s0 = 0 → k_X (jX12_isKey G l h0) h 21 [(1, vI x1), (2, vI x2)] [] Q) : k_X (jX12_isKey G l h0) h 18 [(1, vI x1), (2, vI x2)] [vI s0] Q := by
  by_cases hc : s0 = 0
  · skip
    obtain ⟨h', r, K, q⟩ := K2 hc
    exact ⟨h', r, j_if_ne_f dX12_isKey_18 42 (by decide) hc K, q⟩
  · skip
    obtain ⟨h', r, K, q⟩ := K1 hc
    exact ⟨h', r, j_if_ne_t (tgt := 42) dX12_isKey_18 (by decide) hc (j_pick [] rfl K), q⟩
theorem bX12_isKey_21 {h0 h : k_H} {Q : k_H → k_R → Prop} {x1 x2 : Int32} (K1 : x2 = 10000 → k_X (jX12_isKey G l h0) h 42 [] [] Q) (K2 : ¬ (x2 = 10000) → k_X (jX12_isKey G l h0) h 28 [(1, vI x1), (2, vI x2)] [] Q) : k_X (jX12_isKey G l h0) h 21 [(1, vI x1), (2, vI x2)] [] Q := by
  by_cases hc : x2 = 10000
  · skip
    obtain ⟨h', r, K, q⟩ := K1 hc
    exact ⟨h', r, j_iload_n dX12_isKey_21 rfl rfl <| j_sipush (v := 10000) dX12_isKey_22 (by decide) <| j_icmp_eq_t (tgt := 42) dX12_isKey_25 (by decide) hc (j_pick [] rfl K), q⟩
  · skip
    obtain ⟨h', r, K, q⟩ := K2 hc
    exact ⟨h', r, j_iload_n dX12_isKey_21 rfl rfl <| j_sipush (v := 10000) dX12_isKey_22 (by decide) <| j_icmp_eq_f dX12_isKey_25 42 (by decide) hc K, q⟩
theorem bX12_isKey_28 {h0 h : k_H} {Q : k_H → k_R → Prop} {x1 x2 : Int32} (K1 : ¬ (x1 = 10000) → k_X (jX12_isKey G l h0) h 46 [] [] Q) (K2 : x1 = 10000 → k_X (jX12_isKey G l h0) h 35 [(2, vI x2)] [] Q) : k_X (jX12_isKey G l h0) h 28 [(1, vI x1), (2, vI x2)] [] Q := by
  by_cases hc : x1 = 10000
  · skip
    obtain ⟨h', r, K, q⟩ := K2 hc
    exact ⟨h', r, j_iload_n dX12_isKey_28 rfl rfl <| j_sipush (v := 10000) dX12_isKey_29 (by decide) <| j_icmp_ne_f dX12_isKey_32 46 (by decide) hc (j_pick [1] rfl K), q⟩
  · skip
    obtain ⟨h', r, K, q⟩ := K1 hc
    exact ⟨h', r, j_iload_n dX12_isKey_28 rfl rfl <| j_sipush (v := 10000) dX12_isKey_29 (by decide) <| j_icmp_ne_t (tgt := 46) dX12_isKey_32 (by decide) hc (j_pick [] rfl K), q⟩
theorem bX12_isKey_35 {h0 h : k_H} {Q : k_H → k_R → Prop} {x2 : Int32} (K1 : ¬ (x2 = 10000) → k_X (jX12_isKey G l h0) h 46 [] [] Q) (K2 : x2 = 10000 → k_X (jX12_isKey G l h0) h 42 [] [] Q) : k_X (jX12_isKey G l h0) h 35 [(2, vI x2)] [] Q := by
  by_cases hc : x2 = 10000
  · skip
    obtain ⟨h', r, K, q⟩ := K2 hc
    exact ⟨h', r, j_iload_n dX12_isKey_35 rfl rfl <| j_sipush (v := 10000) dX12_isKey_36 (by decide) <| j_icmp_ne_f dX12_isKey_39 46 (by decide) hc (j_pick [] rfl K), q⟩
  · skip
    obtain ⟨h', r, K, q⟩ := K1 hc
    exact ⟨h', r, j_iload_n dX12_isKey_35 rfl rfl <| j_sipush (v := 10000) dX12_isKey_36 (by decide) <| j_icmp_ne_t (tgt := 46) dX12_isKey_39 (by decide) hc (j_pick [] rfl K), q⟩
theorem bX12_isKey_42 {h0 h : k_H} {Q : k_H → k_R → Prop} (K : k_X (jX12_isKey G l h0) h 47 [] [vI 1] Q) : k_X (jX12_isKey G l h0) h 42 [] [] Q := by
  obtain ⟨h', r, K, q⟩ := K
  exact ⟨h', r, j_iconst (v := 1) dX12_isKey_42 (by decide) <| j_goto (tgt := 47) dX12_isKey_43 (by decide) <| K, q⟩
theorem bX12_isKey_46 {h0 h : k_H} {Q : k_H → k_R → Prop} (K : k_X (jX12_isKey G l h0) h 47 [] [vI 0] Q) : k_X (jX12_isKey G l h0) h 46 [] [] Q := by
  obtain ⟨h', r, K, q⟩ := K
  exact ⟨h', r, j_iconst (v := 0) dX12_isKey_46 (by decide) <| K, q⟩
theorem bX12_isKey_47 {h0 h : k_H} {Q : k_H → k_R → Prop} {s0 : Int32} (y1 : k_bl s0) (q : Q h (.inl (some (vI s0)))) : k_X (jX12_isKey G l h0) h 47 [] [vI s0] Q := by
  exact ⟨_, _, j_zret dX12_isKey_47 rfl y1, q⟩
theorem eX12_isRange {G : k_G} {l : Launch} (hfl : l.flags = flags0) {h : k_H} {Q : k_H → k_R → Prop} {x0 : Int32} {x1 : Int32} (K : k_X (jX12_isRange G l h) h 0 [(0, vI x0), (1, vI x1)] [] Q) : k_ct (tX12_isRange G l) [vI x0, vI x1] h Q := by
  obtain ⟨h', r, K, q⟩ := K
  exact ⟨h', r, k_CtOf (by decide +kernel) (Nat.le_of_ble_eq_true rfl) K hfl, q⟩

theorem bX12_isRange_0 {h0 h : k_H} {Q : k_H → k_R → Prop} {x0 x1 : Int32} (K1 : ¬ (x0 = 10000) → k_X (jX12_isRange G l h0) h 22 [(0, vI x0), (1, vI x1)] [] Q) (K2 : x0 = 10000 → k_X (jX12_isRange G l h0) h 7 [(1, vI x1)] [] Q) : k_X (jX12_isRange G l h0) h 0 [(0, vI x0), (1, vI x1)] [] Q := by
  by_cases hc : x0 = 10000
  · skip
    obtain ⟨h', r, K, q⟩ := K2 hc
    exact ⟨h', r, j_iload_n dX12_isRange_0 rfl rfl <| j_sipush (v := 10000) dX12_isRange_1 (by decide) <| j_icmp_ne_f dX12_isRange_4 22 (by decide) hc (j_pick [1] rfl K), q⟩
  · skip
    obtain ⟨h', r, K, q⟩ := K1 hc
    exact ⟨h', r, j_iload_n dX12_isRange_0 rfl rfl <| j_sipush (v := 10000) dX12_isRange_1 (by decide) <| j_icmp_ne_t (tgt := 22) dX12_isRange_4 (by decide) hc K, q⟩
theorem bX12_isRange_7 {h0 h : k_H} {Q : k_H → k_R → Prop} {x1 : Int32} (K1 : ¬ (x1 = 10000) → k_X (jX12_isRange G l h0) h 18 [] [] Q) (K2 : x1 = 10000 → k_X (jX12_isRange G l h0) h 14 [] [] Q) : k_X (jX12_isRange G l h0) h 7 [(1, vI x1)] [] Q := by
  by_cases hc : x1 = 10000
  · skip
    obtain ⟨h', r, K, q⟩ := K2 hc
    exact ⟨h', r, j_iload_n dX12_isRange_7 rfl rfl <| j_sipush (v := 10000) dX12_isRange_8 (by decide) <| j_icmp_ne_f dX12_isRange_11 18 (by decide) hc (j_pick [] rfl K), q⟩
  · skip
    obtain ⟨h', r, K, q⟩ := K1 hc
    exact ⟨h', r, j_iload_n dX12_isRange_7 rfl rfl <| j_sipush (v := 10000) dX12_isRange_8 (by decide) <| j_icmp_ne_t (tgt := 18) dX12_isRange_11 (by decide) hc (j_pick [] rfl K), q⟩
theorem bX12_isRange_14 {h0 h : k_H} {Q : k_H → k_R → Prop} (K : k_X (jX12_isRange G l h0) h 48 [] [vI 1] Q) : k_X (jX12_isRange G l h0) h 14 [] [] Q := by
  obtain ⟨h', r, K, q⟩ := K
  exact ⟨h', r, j_iconst (v := 1) dX12_isRange_14 (by decide) <| j_goto (tgt := 48) dX12_isRange_15 (by decide) <| K, q⟩
theorem bX12_isRange_18 {h0 h : k_H} {Q : k_H → k_R → Prop} (K : k_X (jX12_isRange G l h0) h 48 [] [vI 0] Q) : k_X (jX12_isRange G l h0) h 18 [] [] Q := by
  obtain ⟨h', r, K, q⟩ := K
  exact ⟨h', r, j_iconst (v := 0) dX12_isRange_18 (by decide) <| j_goto (tgt := 48) dX12_isRange_19 (by decide) <| K, q⟩
theorem bX12_isRange_22 {h0 h : k_H} {Q : k_H → k_R → Prop} {x0 x1 : Int32} {P : k_H → Int32 → Prop} (c : k_cti (tX12_isNumber G l) [vI x0] h P) (K : ∀ h1 v, P h1 v → k_X (jX12_isRange G l h0) h1 26 [(1, vI x1)] [vI v] Q) : k_X (jX12_isRange G l h0) h 22 [(0, vI x0), (1, vI x1)] [] Q := by
  obtain ⟨h1, v, c, p⟩ := c
  obtain ⟨h', r, K, q⟩ := K h1 v p
  exact ⟨h', r, j_iload_n dX12_isRange_22 rfl rfl <| j_callS (v := some (vI v)) (as := [vI x0]) dX12_isRange_23 kc_X12_141 rfl rfl (by decide) (Nat.le_of_ble_eq_true rfl) c (j_pick [1] rfl K), q⟩
theorem bX12_isRange_26 {h0 h : k_H} {Q : k_H → k_R → Prop} {x1 s0 : Int32} (K1 : s0 = 0 → k_X (jX12_isRange G l h0) h 47 [] [] Q) (K2 : ¬ (s0 = 0) → k_X (jX12_isRange G l h0) h 29 [(1, vI x1)] [] Q) : k_X (jX12_isRange G l h0) h 26 [(1, vI x1)] [vI s0] Q := by
  by_cases hc : s0 = 0
  · skip
    obtain ⟨h', r, K, q⟩ := K1 hc
    exact ⟨h', r, j_if_eq_t (tgt := 47) dX12_isRange_26 (by decide) hc (j_pick [] rfl K), q⟩
  · skip
    obtain ⟨h', r, K, q⟩ := K2 hc
    exact ⟨h', r, j_if_eq_f dX12_isRange_26 47 (by decide) hc K, q⟩
theorem bX12_isRange_29 {h0 h : k_H} {Q : k_H → k_R → Prop} {x1 : Int32} {P : k_H → Int32 → Prop} (c : k_cti (tX12_isNumber G l) [vI x1] h P) (K : ∀ h1 v, P h1 v → k_X (jX12_isRange G l h0) h1 33 [(1, vI x1)] [vI v] Q) : k_X (jX12_isRange G l h0) h 29 [(1, vI x1)] [] Q := by
  obtain ⟨h1, v, c, p⟩ := c
  obtain ⟨h', r, K, q⟩ := K h1 v p
  exact ⟨h', r, j_iload_n dX12_isRange_29 rfl rfl <| j_callS (v := some (vI v)) (as := [vI x1]) dX12_isRange_30 kc_X12_141 rfl rfl (by decide) (Nat.le_of_ble_eq_true rfl) c K, q⟩
theorem bX12_isRange_33 {h0 h : k_H} {Q : k_H → k_R → Prop} {x1 s0 : Int32} (K1 : ¬ (s0 = 0) → k_X (jX12_isRange G l h0) h 43 [] [] Q) (K2 : s0 = 0 → k_X (jX12_isRange G l h0) h 36 [(1, vI x1)] [] Q) : k_X (jX12_isRange G l h0) h 33 [(1, vI x1)] [vI s0] Q := by
  by_cases hc : s0 = 0
  · skip
    obtain ⟨h', r, K, q⟩ := K2 hc
    exact ⟨h', r, j_if_ne_f dX12_isRange_33 43 (by decide) hc K, q⟩
  · skip
    obtain ⟨h', r, K, q⟩ := K1 hc
    exact ⟨h', r, j_if_ne_t (tgt := 43) dX12_isRange_33 (by decide) hc (j_pick [] rfl K), q⟩
theorem bX12_isRange_36 {h0 h : k_H} {Q : k_H → k_R → Prop} {x1 : Int32} (K1 : ¬ (x1 = 10000) → k_X (jX12_isRange G l h0) h 47 [] [] Q) (K2 : x1 = 10000 → k_X (jX12_isRange G l h0) h 43 [] [] Q) : k_X (jX12_isRange G l h0) h 36 [(1, vI x1)] [] Q := by
  by_cases hc : x1 = 10000
  · skip
    obtain ⟨h', r, K, q⟩ := K2 hc
    exact ⟨h', r, j_iload_n dX12_isRange_36 rfl rfl <| j_sipush (v := 10000) dX12_isRange_37 (by decide) <| j_icmp_ne_f dX12_isRange_40 47 (by decide) hc (j_pick [] rfl K), q⟩
  · skip
    obtain ⟨h', r, K, q⟩ := K1 hc
    exact ⟨h', r, j_iload_n dX12_isRange_36 rfl rfl <| j_sipush (v := 10000) dX12_isRange_37 (by decide) <| j_icmp_ne_t (tgt := 47) dX12_isRange_40 (by decide) hc (j_pick [] rfl K), q⟩
theorem bX12_isRange_43 {h0 h : k_H} {Q : k_H → k_R → Prop} (K : k_X (jX12_isRange G l h0) h 48 [] [vI 1] Q) : k_X (jX12_isRange G l h0) h 43 [] [] Q := by
  obtain ⟨h', r, K, q⟩ := K
  exact ⟨h', r, j_iconst (v := 1) dX12_isRange_43 (by decide) <| j_goto (tgt := 48) dX12_isRange_44 (by decide) <| K, q⟩
theorem bX12_isRange_47 {h0 h : k_H} {Q : k_H → k_R → Prop} (K : k_X (jX12_isRange G l h0) h 48 [] [vI 0] Q) : k_X (jX12_isRange G l h0) h 47 [] [] Q := by
  obtain ⟨h', r, K, q⟩ := K
  exact ⟨h', r, j_iconst (v := 0) dX12_isRange_47 (by decide) <| K, q⟩
theorem bX12_isRange_48 {h0 h : k_H} {Q : k_H → k_R → Prop} {s0 : Int32} (y1 : k_bl s0) (q : Q h (.inl (some (vI s0)))) : k_X (jX12_isRange G l h0) h 48 [] [vI s0] Q := by
  exact ⟨_, _, j_zret dX12_isRange_48 rfl y1, q⟩
theorem eX12_digit {G : k_G} {l : Launch} (hfl : l.flags = flags0) {h : k_H} {Q : k_H → k_R → Prop} {x0 : Int32} (K : k_X (jX12_digit G l h) h 0 [(0, vI x0)] [] Q) : k_ct (tX12_digit G l) [vI x0] h Q := by
  obtain ⟨h', r, K, q⟩ := K
  exact ⟨h', r, k_CtOf (by decide +kernel) (Nat.le_of_ble_eq_true rfl) K hfl, q⟩

theorem bX12_digit_0 {h0 h : k_H} {Q : k_H → k_R → Prop} {x0 : Int32} (K1 : ¬ (x0 = 10000) → k_X (jX12_digit G l h0) h 11 [(0, vI x0)] [] Q) (K2 : x0 = 10000 → k_X (jX12_digit G l h0) h 7 [] [] Q) : k_X (jX12_digit G l h0) h 0 [(0, vI x0)] [] Q := by
  by_cases hc : x0 = 10000
  · skip
    obtain ⟨h', r, K, q⟩ := K2 hc
    exact ⟨h', r, j_iload_n dX12_digit_0 rfl rfl <| j_sipush (v := 10000) dX12_digit_1 (by decide) <| j_icmp_ne_f dX12_digit_4 11 (by decide) hc (j_pick [] rfl K), q⟩
  · skip
    obtain ⟨h', r, K, q⟩ := K1 hc
    exact ⟨h', r, j_iload_n dX12_digit_0 rfl rfl <| j_sipush (v := 10000) dX12_digit_1 (by decide) <| j_icmp_ne_t (tgt := 11) dX12_digit_4 (by decide) hc K, q⟩
theorem bX12_digit_7 {h0 h : k_H} {Q : k_H → k_R → Prop} (K : k_X (jX12_digit G l h0) h 17 [] [vJ 0] Q) : k_X (jX12_digit G l h0) h 7 [] [] Q := by
  obtain ⟨h', r, K, q⟩ := K
  exact ⟨h', r, j_lconst (v := 0) dX12_digit_7 (by decide) <| j_goto (tgt := 17) dX12_digit_8 (by decide) <| K, q⟩
theorem bX12_digit_11 {h0 h : k_H} {Q : k_H → k_R → Prop} {x0 : Int32} (K : k_X (jX12_digit G l h0) h 17 [] [vJ (x0.toInt64 + 1000)] Q) : k_X (jX12_digit G l h0) h 11 [(0, vI x0)] [] Q := by
  obtain ⟨h', r, K, q⟩ := K
  exact ⟨h', r, j_iload_n dX12_digit_11 rfl rfl <| j_i2l dX12_digit_12 <| j_ldc2 (v := 1000) dX12_digit_13 ki_X12_145 <| j_ladd dX12_digit_16 <| (j_pick [] rfl K), q⟩
theorem bX12_digit_17 {h0 h : k_H} {Q : k_H → k_R → Prop} {s0 : Int64} (q : Q h (.inl (some (vJ s0)))) : k_X (jX12_digit G l h0) h 17 [] [vJ s0] Q := by
  exact ⟨_, _, j_lret dX12_digit_17 rfl, q⟩
theorem eX12_codeOf {G : k_G} {l : Launch} (hfl : l.flags = flags0) {h : k_H} {Q : k_H → k_R → Prop} {x0 : Int32} {x1 : Int32} {x2 : Int32} (K : k_X (jX12_codeOf G l h) h 0 [(0, vI x0), (1, vI x1), (2, vI x2)] [] Q) : k_ct (tX12_codeOf G l) [vI x0, vI x1, vI x2] h Q := by
  obtain ⟨h', r, K, q⟩ := K
  exact ⟨h', r, k_CtOf (by decide +kernel) (Nat.le_of_ble_eq_true rfl) K hfl, q⟩

theorem bX12_codeOf_0 {h0 h : k_H} {Q : k_H → k_R → Prop} {x0 x1 x2 : Int32} {P : k_H → Int64 → Prop} (c : k_ctj (tX12_digit G l) [vI x0] h P) (K : ∀ h1 v, P h1 v → k_X (jX12_codeOf G l h0) h1 4 [(1, vI x1), (2, vI x2)] [vJ v] Q) : k_X (jX12_codeOf G l h0) h 0 [(0, vI x0), (1, vI x1), (2, vI x2)] [] Q := by
  obtain ⟨h1, v, c, p⟩ := c
  obtain ⟨h', r, K, q⟩ := K h1 v p
  exact ⟨h', r, j_iload_n dX12_codeOf_0 rfl rfl <| j_callS (v := some (vJ v)) (as := [vI x0]) dX12_codeOf_1 kc_X12_147 rfl rfl (by decide) (Nat.le_of_ble_eq_true rfl) c (j_pick [1, 2] rfl K), q⟩
theorem bX12_codeOf_4 {h0 h : k_H} {Q : k_H → k_R → Prop} {x1 x2 : Int32} {s0 : Int64} {P : k_H → Int64 → Prop} (c : k_ctj (tX12_digit G l) [vI x1] h P) (K : ∀ h1 v, P h1 v → k_X (jX12_codeOf G l h0) h1 12 [(2, vI x2)] [vJ v, vJ (s0 * 11000)] Q) : k_X (jX12_codeOf G l h0) h 4 [(1, vI x1), (2, vI x2)] [vJ s0] Q := by
  obtain ⟨h1, v, c, p⟩ := c
  obtain ⟨h', r, K, q⟩ := K h1 v p
  exact ⟨h', r, j_ldc2 (v := 11000) dX12_codeOf_4 ki_X12_151 <| j_lmul dX12_codeOf_7 <| j_iload_n dX12_codeOf_8 rfl rfl <| j_callS (v := some (vJ v)) (as := [vI x1]) dX12_codeOf_9 kc_X12_147 rfl rfl (by decide) (Nat.le_of_ble_eq_true rfl) c (j_pick [1] rfl K), q⟩
theorem bX12_codeOf_12 {h0 h : k_H} {Q : k_H → k_R → Prop} {x2 : Int32} {s0 s1 : Int64} {P : k_H → Int64 → Prop} (c : k_ctj (tX12_digit G l) [vI x2] h P) (K : ∀ h1 v, P h1 v → k_X (jX12_codeOf G l h0) h1 21 [] [vJ v, vJ ((s0 + s1) * 11000)] Q) : k_X (jX12_codeOf G l h0) h 12 [(2, vI x2)] [vJ s1, vJ s0] Q := by
  obtain ⟨h1, v, c, p⟩ := c
  obtain ⟨h', r, K, q⟩ := K h1 v p
  exact ⟨h', r, j_ladd dX12_codeOf_12 <| j_ldc2 (v := 11000) dX12_codeOf_13 ki_X12_151 <| j_lmul dX12_codeOf_16 <| j_iload_n dX12_codeOf_17 rfl rfl <| j_callS (v := some (vJ v)) (as := [vI x2]) dX12_codeOf_18 kc_X12_147 rfl rfl (by decide) (Nat.le_of_ble_eq_true rfl) c (j_pick [] rfl K), q⟩
theorem bX12_codeOf_21 {h0 h : k_H} {Q : k_H → k_R → Prop} {s0 s1 : Int64} (q : Q h (.inl (some (vJ (s0 + s1))))) : k_X (jX12_codeOf G l h0) h 21 [] [vJ s1, vJ s0] Q := by
  exact ⟨_, _, j_ladd dX12_codeOf_21 <| j_lret dX12_codeOf_22 rfl, q⟩
theorem eX12_numberOf {G : k_G} {l : Launch} (hfl : l.flags = flags0) {h : k_H} {Q : k_H → k_R → Prop} {x0 : Int64} {x2 : Int32} (K : k_X (jX12_numberOf G l h) h 0 [(0, vJ x0), (2, vI x2)] [] Q) : k_ct (tX12_numberOf G l) [vJ x0, vI x2] h Q := by
  obtain ⟨h', r, K, q⟩ := K
  exact ⟨h', r, k_CtOf (by decide +kernel) (Nat.le_of_ble_eq_true rfl) K hfl, q⟩

theorem bX12_numberOf_0 {h0 h : k_H} {Q : k_H → k_R → Prop} {x0 : Int64} {x2 : Int32} (K1 : ¬ (x2 = 0) → k_X (jX12_numberOf G l h0) h 12 [(0, vJ x0), (2, vI x2)] [] Q) (K2 : x2 = 0 → k_X (jX12_numberOf G l h0) h 4 [(0, vJ x0)] [] Q) : k_X (jX12_numberOf G l h0) h 0 [(0, vJ x0), (2, vI x2)] [] Q := by
  by_cases hc : x2 = 0
  · skip
    obtain ⟨h', r, K, q⟩ := K2 hc
    exact ⟨h', r, j_iload_n dX12_numberOf_0 rfl rfl <| j_if_ne_f dX12_numberOf_1 12 (by decide) hc (j_pick [0] rfl K), q⟩
  · skip
    obtain ⟨h', r, K, q⟩ := K1 hc
    exact ⟨h', r, j_iload_n dX12_numberOf_0 rfl rfl <| j_if_ne_t (tgt := 12) dX12_numberOf_1 (by decide) hc K, q⟩
theorem bX12_numberOf_4 {h0 h : k_H} {Q : k_H → k_R → Prop} {x0 : Int64} (K : k_X (jX12_numberOf G l h0) h 34 [] [vJ (x0 / 121000000)] Q) : k_X (jX12_numberOf G l h0) h 4 [(0, vJ x0)] [] Q := by
  obtain ⟨h', r, K, q⟩ := K
  exact ⟨h', r, j_lload_n dX12_numberOf_4 rfl rfl <| j_ldc2 (v := 121000000) dX12_numberOf_5 ki_X12_153 <| j_ldiv dX12_numberOf_8 (by decide) <| j_goto (tgt := 34) dX12_numberOf_9 (by decide) <| (j_pick [] rfl K), q⟩
theorem bX12_numberOf_12 {h0 h : k_H} {Q : k_H → k_R → Prop} {x0 : Int64} {x2 : Int32} (K1 : ¬ (x2 = 1) → k_X (jX12_numberOf G l h0) h 29 [(0, vJ x0)] [] Q) (K2 : x2 = 1 → k_X (jX12_numberOf G l h0) h 17 [(0, vJ x0)] [] Q) : k_X (jX12_numberOf G l h0) h 12 [(0, vJ x0), (2, vI x2)] [] Q := by
  by_cases hc : x2 = 1
  · skip
    obtain ⟨h', r, K, q⟩ := K2 hc
    exact ⟨h', r, j_iload_n dX12_numberOf_12 rfl rfl <| j_iconst (v := 1) dX12_numberOf_13 (by decide) <| j_icmp_ne_f dX12_numberOf_14 29 (by decide) hc (j_pick [0] rfl K), q⟩
  · skip
    obtain ⟨h', r, K, q⟩ := K1 hc
    exact ⟨h', r, j_iload_n dX12_numberOf_12 rfl rfl <| j_iconst (v := 1) dX12_numberOf_13 (by decide) <| j_icmp_ne_t (tgt := 29) dX12_numberOf_14 (by decide) hc (j_pick [0] rfl K), q⟩
theorem bX12_numberOf_17 {h0 h : k_H} {Q : k_H → k_R → Prop} {x0 : Int64} (K : k_X (jX12_numberOf G l h0) h 34 [] [vJ ((x0 / 11000) - ((x0 / 11000) / 11000) * 11000)] Q) : k_X (jX12_numberOf G l h0) h 17 [(0, vJ x0)] [] Q := by
  obtain ⟨h', r, K, q⟩ := K
  exact ⟨h', r, j_lload_n dX12_numberOf_17 rfl rfl <| j_ldc2 (v := 11000) dX12_numberOf_18 ki_X12_151 <| j_ldiv dX12_numberOf_21 (by decide) <| j_ldc2 (v := 11000) dX12_numberOf_22 ki_X12_151 <| j_lrem dX12_numberOf_25 (by decide) <| j_goto (tgt := 34) dX12_numberOf_26 (by decide) <| (j_pick [] rfl K), q⟩
theorem bX12_numberOf_29 {h0 h : k_H} {Q : k_H → k_R → Prop} {x0 : Int64} (K : k_X (jX12_numberOf G l h0) h 34 [] [vJ (x0 - (x0 / 11000) * 11000)] Q) : k_X (jX12_numberOf G l h0) h 29 [(0, vJ x0)] [] Q := by
  obtain ⟨h', r, K, q⟩ := K
  exact ⟨h', r, j_lload_n dX12_numberOf_29 rfl rfl <| j_ldc2 (v := 11000) dX12_numberOf_30 ki_X12_151 <| j_lrem dX12_numberOf_33 (by decide) <| (j_pick [] rfl K), q⟩
theorem bX12_numberOf_34 {h0 h : k_H} {Q : k_H → k_R → Prop} {s0 : Int64} (K1 : ¬ (s0 = 0) → k_X (jX12_numberOf G l h0) h 47 [(3, vJ s0)] [] Q) (K2 : s0 = 0 → k_X (jX12_numberOf G l h0) h 41 [] [] Q) : k_X (jX12_numberOf G l h0) h 34 [] [vJ s0] Q := by
  by_cases hc : s0 = 0
  · skip
    obtain ⟨h', r, K, q⟩ := K2 hc
    exact ⟨h', r, j_lstore_n dX12_numberOf_34 rfl (by decide) rfl <| j_lload_n dX12_numberOf_35 rfl rfl <| j_lconst (v := 0) dX12_numberOf_36 (by decide) <| j_lcmp dX12_numberOf_37 <| j_if_ne_f dX12_numberOf_38 47 (by decide) ((lg_cmp_eq _ _).mpr hc) (j_pick [] rfl K), q⟩
  · skip
    obtain ⟨h', r, K, q⟩ := K1 hc
    exact ⟨h', r, j_lstore_n dX12_numberOf_34 rfl (by decide) rfl <| j_lload_n dX12_numberOf_35 rfl rfl <| j_lconst (v := 0) dX12_numberOf_36 (by decide) <| j_lcmp dX12_numberOf_37 <| j_if_ne_t (tgt := 47) dX12_numberOf_38 (by decide) ((not_congr (lg_cmp_eq _ _)).mpr hc) K, q⟩
theorem bX12_numberOf_41 {h0 h : k_H} {Q : k_H → k_R → Prop} (K : k_X (jX12_numberOf G l h0) h 53 [] [vI 10000] Q) : k_X (jX12_numberOf G l h0) h 41 [] [] Q := by
  obtain ⟨h', r, K, q⟩ := K
  exact ⟨h', r, j_sipush (v := 10000) dX12_numberOf_41 (by decide) <| j_goto (tgt := 53) dX12_numberOf_44 (by decide) <| K, q⟩
theorem bX12_numberOf_47 {h0 h : k_H} {Q : k_H → k_R → Prop} {x3 : Int64} (K : k_X (jX12_numberOf G l h0) h 53 [] [vI (x3.toInt32 - 1000)] Q) : k_X (jX12_numberOf G l h0) h 47 [(3, vJ x3)] [] Q := by
  obtain ⟨h', r, K, q⟩ := K
  exact ⟨h', r, j_lload_n dX12_numberOf_47 rfl rfl <| j_l2i dX12_numberOf_48 <| j_sipush (v := 1000) dX12_numberOf_49 (by decide) <| j_isub dX12_numberOf_52 <| (j_pick [] rfl K), q⟩
theorem bX12_numberOf_53 {h0 h : k_H} {Q : k_H → k_R → Prop} {s0 : Int32} (q : Q h (.inl (some (vI s0)))) : k_X (jX12_numberOf G l h0) h 53 [] [vI s0] Q := by
  exact ⟨_, _, j_iret dX12_numberOf_53 rfl, q⟩
theorem eX12_firstOf {G : k_G} {l : Launch} (hfl : l.flags = flags0) {h : k_H} {Q : k_H → k_R → Prop} {x0 : Int32} {x1 : Int32} (K : k_X (jX12_firstOf G l h) h 0 [(0, vI x0), (1, vI x1)] [] Q) : k_ct (tX12_firstOf G l) [vI x0, vI x1] h Q := by
  obtain ⟨h', r, K, q⟩ := K
  exact ⟨h', r, k_CtOf (by decide +kernel) (Nat.le_of_ble_eq_true rfl) K hfl, q⟩

theorem bX12_firstOf_0 {h0 h : k_H} {Q : k_H → k_R → Prop} {x0 x1 : Int32} (K1 : ¬ (x0 = 10000) → k_X (jX12_firstOf G l h0) h 11 [(0, vI x0), (1, vI x1)] [] Q) (K2 : x0 = 10000 → k_X (jX12_firstOf G l h0) h 7 [] [] Q) : k_X (jX12_firstOf G l h0) h 0 [(0, vI x0), (1, vI x1)] [] Q := by
  by_cases hc : x0 = 10000
  · skip
    obtain ⟨h', r, K, q⟩ := K2 hc
    exact ⟨h', r, j_iload_n dX12_firstOf_0 rfl rfl <| j_sipush (v := 10000) dX12_firstOf_1 (by decide) <| j_icmp_ne_f dX12_firstOf_4 11 (by decide) hc (j_pick [] rfl K), q⟩
  · skip
    obtain ⟨h', r, K, q⟩ := K1 hc
    exact ⟨h', r, j_iload_n dX12_firstOf_0 rfl rfl <| j_sipush (v := 10000) dX12_firstOf_1 (by decide) <| j_icmp_ne_t (tgt := 11) dX12_firstOf_4 (by decide) hc K, q⟩
theorem bX12_firstOf_7 {h0 h : k_H} {Q : k_H → k_R → Prop} (K : k_X (jX12_firstOf G l h0) h 19 [] [vJ 0] Q) : k_X (jX12_firstOf G l h0) h 7 [] [] Q := by
  obtain ⟨h', r, K, q⟩ := K
  exact ⟨h', r, j_lconst (v := 0) dX12_firstOf_7 (by decide) <| j_goto (tgt := 19) dX12_firstOf_8 (by decide) <| K, q⟩
theorem bX12_firstOf_11 {h0 h : k_H} {Q : k_H → k_R → Prop} {x0 x1 : Int32} {P : k_H → Int64 → Prop} (c : k_ctj (tX12_codeOf G l) [vI x0, vI x1, vI 10000] h P) (K : ∀ h1 v, P h1 v → k_X (jX12_firstOf G l h0) h1 19 [] [vJ v] Q) : k_X (jX12_firstOf G l h0) h 11 [(0, vI x0), (1, vI x1)] [] Q := by
  obtain ⟨h1, v, c, p⟩ := c
  obtain ⟨h', r, K, q⟩ := K h1 v p
  exact ⟨h', r, j_iload_n dX12_firstOf_11 rfl rfl <| j_iload_n dX12_firstOf_12 rfl rfl <| j_sipush (v := 10000) dX12_firstOf_13 (by decide) <| j_callS (v := some (vJ v)) (as := [vI x0, vI x1, vI 10000]) dX12_firstOf_16 kc_X12_155 rfl rfl (by decide) (Nat.le_of_ble_eq_true rfl) c (j_pick [] rfl K), q⟩
theorem bX12_firstOf_19 {h0 h : k_H} {Q : k_H → k_R → Prop} {s0 : Int64} (q : Q h (.inl (some (vJ s0)))) : k_X (jX12_firstOf G l h0) h 19 [] [vJ s0] Q := by
  exact ⟨_, _, j_lret dX12_firstOf_19 rfl, q⟩
theorem eX12_lastOf {G : k_G} {l : Launch} (hfl : l.flags = flags0) {h : k_H} {Q : k_H → k_R → Prop} {x0 : Int32} {x1 : Int32} (K : k_X (jX12_lastOf G l h) h 0 [(0, vI x0), (1, vI x1)] [] Q) : k_ct (tX12_lastOf G l) [vI x0, vI x1] h Q := by
  obtain ⟨h', r, K, q⟩ := K
  exact ⟨h', r, k_CtOf (by decide +kernel) (Nat.le_of_ble_eq_true rfl) K hfl, q⟩

theorem bX12_lastOf_0 {h0 h : k_H} {Q : k_H → k_R → Prop} {x0 x1 : Int32} (K1 : ¬ (x0 = 10000) → k_X (jX12_lastOf G l h0) h 13 [(0, vI x0), (1, vI x1)] [] Q) (K2 : x0 = 10000 → k_X (jX12_lastOf G l h0) h 7 [] [] Q) : k_X (jX12_lastOf G l h0) h 0 [(0, vI x0), (1, vI x1)] [] Q := by
  by_cases hc : x0 = 10000
  · skip
    obtain ⟨h', r, K, q⟩ := K2 hc
    exact ⟨h', r, j_iload_n dX12_lastOf_0 rfl rfl <| j_sipush (v := 10000) dX12_lastOf_1 (by decide) <| j_icmp_ne_f dX12_lastOf_4 13 (by decide) hc (j_pick [] rfl K), q⟩
  · skip
    obtain ⟨h', r, K, q⟩ := K1 hc
    exact ⟨h', r, j_iload_n dX12_lastOf_0 rfl rfl <| j_sipush (v := 10000) dX12_lastOf_1 (by decide) <| j_icmp_ne_t (tgt := 13) dX12_lastOf_4 (by decide) hc K, q⟩
theorem bX12_lastOf_7 {h0 h : k_H} {Q : k_H → k_R → Prop} (K : k_X (jX12_lastOf G l h0) h 60 [] [vJ 1331000000000] Q) : k_X (jX12_lastOf G l h0) h 7 [] [] Q := by
  obtain ⟨h', r, K, q⟩ := K
  exact ⟨h', r, j_ldc2 (v := 1331000000000) dX12_lastOf_7 ki_X12_159 <| j_goto (tgt := 60) dX12_lastOf_10 (by decide) <| K, q⟩
theorem bX12_lastOf_13 {h0 h : k_H} {Q : k_H → k_R → Prop} {x0 x1 : Int32} (K1 : ¬ (x1 = 10000) → k_X (jX12_lastOf G l h0) h 39 [(0, vI x0), (1, vI x1)] [] Q) (K2 : x1 = 10000 → k_X (jX12_lastOf G l h0) h 20 [(0, vI x0)] [] Q) : k_X (jX12_lastOf G l h0) h 13 [(0, vI x0), (1, vI x1)] [] Q := by
  by_cases hc : x1 = 10000
  · skip
    obtain ⟨h', r, K, q⟩ := K2 hc
    exact ⟨h', r, j_iload_n dX12_lastOf_13 rfl rfl <| j_sipush (v := 10000) dX12_lastOf_14 (by decide) <| j_icmp_ne_f dX12_lastOf_17 39 (by decide) hc (j_pick [0] rfl K), q⟩
  · skip
    obtain ⟨h', r, K, q⟩ := K1 hc
    exact ⟨h', r, j_iload_n dX12_lastOf_13 rfl rfl <| j_sipush (v := 10000) dX12_lastOf_14 (by decide) <| j_icmp_ne_t (tgt := 39) dX12_lastOf_17 (by decide) hc K, q⟩
theorem bX12_lastOf_20 {h0 h : k_H} {Q : k_H → k_R → Prop} {x0 : Int32} {P : k_H → Int64 → Prop} (c : k_ctj (tX12_digit G l) [vI x0] h P) (K : ∀ h1 v, P h1 v → k_X (jX12_lastOf G l h0) h1 24 [] [vJ v] Q) : k_X (jX12_lastOf G l h0) h 20 [(0, vI x0)] [] Q := by
  obtain ⟨h1, v, c, p⟩ := c
  obtain ⟨h', r, K, q⟩ := K h1 v p
  exact ⟨h', r, j_iload_n dX12_lastOf_20 rfl rfl <| j_callS (v := some (vJ v)) (as := [vI x0]) dX12_lastOf_21 kc_X12_147 rfl rfl (by decide) (Nat.le_of_ble_eq_true rfl) c (j_pick [] rfl K), q⟩
theorem bX12_lastOf_24 {h0 h : k_H} {Q : k_H → k_R → Prop} {s0 : Int64} (K : k_X (jX12_lastOf G l h0) h 60 [] [vJ ((((s0 + 1) * 11000) * 11000) - 1)] Q) : k_X (jX12_lastOf G l h0) h 24 [] [vJ s0] Q := by
  obtain ⟨h', r, K, q⟩ := K
  exact ⟨h', r, j_lconst (v := 1) dX12_lastOf_24 (by decide) <| j_ladd dX12_lastOf_25 <| j_ldc2 (v := 11000) dX12_lastOf_26 ki_X12_151 <| j_lmul dX12_lastOf_29 <| j_ldc2 (v := 11000) dX12_lastOf_30 ki_X12_151 <| j_lmul dX12_lastOf_33 <| j_lconst (v := 1) dX12_lastOf_34 (by decide) <| j_lsub dX12_lastOf_35 <| j_goto (tgt := 60) dX12_lastOf_36 (by decide) <| K, q⟩
theorem bX12_lastOf_39 {h0 h : k_H} {Q : k_H → k_R → Prop} {x0 x1 : Int32} {P : k_H → Int64 → Prop} (c : k_ctj (tX12_digit G l) [vI x0] h P) (K : ∀ h1 v, P h1 v → k_X (jX12_lastOf G l h0) h1 43 [(1, vI x1)] [vJ v] Q) : k_X (jX12_lastOf G l h0) h 39 [(0, vI x0), (1, vI x1)] [] Q := by
  obtain ⟨h1, v, c, p⟩ := c
  obtain ⟨h', r, K, q⟩ := K h1 v p
  exact ⟨h', r, j_iload_n dX12_lastOf_39 rfl rfl <| j_callS (v := some (vJ v)) (as := [vI x0]) dX12_lastOf_40 kc_X12_147 rfl rfl (by decide) (Nat.le_of_ble_eq_true rfl) c (j_pick [1] rfl K), q⟩
theorem bX12_lastOf_43 {h0 h : k_H} {Q : k_H → k_R → Prop} {x1 : Int32} {s0 : Int64} {P : k_H → Int64 → Prop} (c : k_ctj (tX12_digit G l) [vI x1] h P) (K : ∀ h1 v, P h1 v → k_X (jX12_lastOf G l h0) h1 51 [] [vJ v, vJ (s0 * 11000)] Q) : k_X (jX12_lastOf G l h0) h 43 [(1, vI x1)] [vJ s0] Q := by
  obtain ⟨h1, v, c, p⟩ := c
  obtain ⟨h', r, K, q⟩ := K h1 v p
  exact ⟨h', r, j_ldc2 (v := 11000) dX12_lastOf_43 ki_X12_151 <| j_lmul dX12_lastOf_46 <| j_iload_n dX12_lastOf_47 rfl rfl <| j_callS (v := some (vJ v)) (as := [vI x1]) dX12_lastOf_48 kc_X12_147 rfl rfl (by decide) (Nat.le_of_ble_eq_true rfl) c (j_pick [] rfl K), q⟩
theorem bX12_lastOf_51 {h0 h : k_H} {Q : k_H → k_R → Prop} {s0 s1 : Int64} (K : k_X (jX12_lastOf G l h0) h 60 [] [vJ ((((s0 + s1) + 1) * 11000) - 1)] Q) : k_X (jX12_lastOf G l h0) h 51 [] [vJ s1, vJ s0] Q := by
  obtain ⟨h', r, K, q⟩ := K
  exact ⟨h', r, j_ladd dX12_lastOf_51 <| j_lconst (v := 1) dX12_lastOf_52 (by decide) <| j_ladd dX12_lastOf_53 <| j_ldc2 (v := 11000) dX12_lastOf_54 ki_X12_151 <| j_lmul dX12_lastOf_57 <| j_lconst (v := 1) dX12_lastOf_58 (by decide) <| j_lsub dX12_lastOf_59 <| K, q⟩
theorem bX12_lastOf_60 {h0 h : k_H} {Q : k_H → k_R → Prop} {s0 : Int64} (q : Q h (.inl (some (vJ s0)))) : k_X (jX12_lastOf G l h0) h 60 [] [vJ s0] Q := by
  exact ⟨_, _, j_lret dX12_lastOf_60 rfl, q⟩
theorem eX12_placeOf {G : k_G} {l : Launch} (hfl : l.flags = flags0) {h : k_H} {Q : k_H → k_R → Prop} {x0 : Nat} {x1 : Int64} (K : k_X (jX12_placeOf G l h) h 0 [(0, vR (some x0)), (1, vJ x1)] [] Q) : k_ct (tX12_placeOf G l) [vR (some x0), vJ x1] h Q := by
  obtain ⟨h', r, K, q⟩ := K
  exact ⟨h', r, k_CtOf (by decide +kernel) (Nat.le_of_ble_eq_true rfl) K hfl, q⟩

theorem bX12_placeOf_0 {h0 h : k_H} {Q : k_H → k_R → Prop} {x0 : Nat} {x1 : Int64} {f1_2 : Int32} {fs1 : List k_V} (o1 : h.1 x0 = some (k_o 15 fs1)) (g1_2 : fs1[2]? = some (vI f1_2)) (K : k_X (jX12_placeOf G l h0) h 8 [(0, vR (some x0)), (1, vJ x1), (3, vI 0), (4, vI f1_2)] [] Q) : k_X (jX12_placeOf G l h0) h 0 [(0, vR (some x0)), (1, vJ x1)] [] Q := by
  obtain ⟨h', r, K, q⟩ := K
  exact ⟨h', r, j_iconst (v := 0) dX12_placeOf_0 (by decide) <| j_istore_n dX12_placeOf_1 rfl (by decide) rfl <| j_aload_n dX12_placeOf_2 rfl rfl <| j_getf dX12_placeOf_3 kf_X12_161 o1 g1_2 <| j_istore dX12_placeOf_6 (by decide) rfl <| K, q⟩
theorem bX12_placeOf_8 {h0 h : k_H} {Q : k_H → k_R → Prop} {x0 : Nat} {x1 : Int64} {x3 x4 : Int32} (K1 : x4 ≤ x3 → k_X (jX12_placeOf G l h0) h 72 [(3, vI x3)] [] Q) (K2 : ¬ (x4 ≤ x3) → k_X (jX12_placeOf G l h0) h 14 [(0, vR (some x0)), (1, vJ x1), (3, vI x3), (4, vI x4)] [] Q) : k_X (jX12_placeOf G l h0) h 8 [(0, vR (some x0)), (1, vJ x1), (3, vI x3), (4, vI x4)] [] Q := by
  by_cases hc : x4 ≤ x3
  · skip
    obtain ⟨h', r, K, q⟩ := K1 hc
    exact ⟨h', r, j_iload_n dX12_placeOf_8 rfl rfl <| j_iload dX12_placeOf_9 rfl <| j_icmp_ge_t (tgt := 72) dX12_placeOf_11 (by decide) hc (j_pick [2] rfl K), q⟩
  · skip
    obtain ⟨h', r, K, q⟩ := K2 hc
    exact ⟨h', r, j_iload_n dX12_placeOf_8 rfl rfl <| j_iload dX12_placeOf_9 rfl <| j_icmp_ge_f dX12_placeOf_11 72 (by decide) hc K, q⟩
theorem bX12_placeOf_14 {h0 h : k_H} {Q : k_H → k_R → Prop} {x0 f1_3 : Nat} {x1 : Int64} {x3 x4 : Int32} {fs1 : List k_V} (o1 : h.1 x0 = some (k_o 15 fs1)) (g1_3 : fs1[3]? = some (vR (some f1_3))) {n2 : Nat} {w2 : Nat → Int64} (o2 : h.1 f1_3 = some (k_j n2 w2)) (y3 : vp_in ((x3 + x4) / 2) n2) (K1 : x1 ≤ (w2 ((x3 + x4) / 2).toNatClampNeg) → k_X (jX12_placeOf G l h0) h 38 [(0, vR (some x0)), (1, vJ x1), (3, vI x3), (4, vI x4), (5, vI ((x3 + x4) / 2))] [] Q) (K2 : ¬ (x1 ≤ (w2 ((x3 + x4) / 2).toNatClampNeg)) → k_X (jX12_placeOf G l h0) h 34 [(0, vR (some x0)), (1, vJ x1), (3, vI x3), (4, vI x4), (5, vI ((x3 + x4) / 2))] [] Q) : k_X (jX12_placeOf G l h0) h 14 [(0, vR (some x0)), (1, vJ x1), (3, vI x3), (4, vI x4)] [] Q := by
  by_cases hc : x1 ≤ (w2 ((x3 + x4) / 2).toNatClampNeg)
  · skip
    obtain ⟨h', r, K, q⟩ := K1 hc
    exact ⟨h', r, j_iload_n dX12_placeOf_14 rfl rfl <| j_iload dX12_placeOf_15 rfl <| j_iadd dX12_placeOf_17 <| j_iconst (v := 2) dX12_placeOf_18 (by decide) <| j_idiv dX12_placeOf_19 (by decide) <| j_istore dX12_placeOf_20 (by decide) rfl <| j_aload_n dX12_placeOf_22 rfl rfl <| j_getf dX12_placeOf_23 kf_X12_9 o1 g1_3 <| j_iload dX12_placeOf_26 rfl <| j_lald dX12_placeOf_28 o2 y3 <| j_lload_n dX12_placeOf_29 rfl rfl <| j_lcmp dX12_placeOf_30 <| j_if_ge_t (tgt := 38) dX12_placeOf_31 (by decide) ((lg_cmp_ge _ _).mpr hc) K, q⟩
  · skip
    obtain ⟨h', r, K, q⟩ := K2 hc
    exact ⟨h', r, j_iload_n dX12_placeOf_14 rfl rfl <| j_iload dX12_placeOf_15 rfl <| j_iadd dX12_placeOf_17 <| j_iconst (v := 2) dX12_placeOf_18 (by decide) <| j_idiv dX12_placeOf_19 (by decide) <| j_istore dX12_placeOf_20 (by decide) rfl <| j_aload_n dX12_placeOf_22 rfl rfl <| j_getf dX12_placeOf_23 kf_X12_9 o1 g1_3 <| j_iload dX12_placeOf_26 rfl <| j_lald dX12_placeOf_28 o2 y3 <| j_lload_n dX12_placeOf_29 rfl rfl <| j_lcmp dX12_placeOf_30 <| j_if_ge_f dX12_placeOf_31 38 (by decide) ((not_congr (lg_cmp_ge _ _)).mpr hc) K, q⟩
theorem bX12_placeOf_34 {h0 h : k_H} {Q : k_H → k_R → Prop} {x0 : Nat} {x1 : Int64} {x3 x4 x5 : Int32} (K : k_X (jX12_placeOf G l h0) h 39 [(0, vR (some x0)), (1, vJ x1), (3, vI x3), (4, vI x4), (5, vI x5)] [vI 1] Q) : k_X (jX12_placeOf G l h0) h 34 [(0, vR (some x0)), (1, vJ x1), (3, vI x3), (4, vI x4), (5, vI x5)] [] Q := by
  obtain ⟨h', r, K, q⟩ := K
  exact ⟨h', r, j_iconst (v := 1) dX12_placeOf_34 (by decide) <| j_goto (tgt := 39) dX12_placeOf_35 (by decide) <| K, q⟩
theorem bX12_placeOf_38 {h0 h : k_H} {Q : k_H → k_R → Prop} {x0 : Nat} {x1 : Int64} {x3 x4 x5 : Int32} (K : k_X (jX12_placeOf G l h0) h 39 [(0, vR (some x0)), (1, vJ x1), (3, vI x3), (4, vI x4), (5, vI x5)] [vI 0] Q) : k_X (jX12_placeOf G l h0) h 38 [(0, vR (some x0)), (1, vJ x1), (3, vI x3), (4, vI x4), (5, vI x5)] [] Q := by
  obtain ⟨h', r, K, q⟩ := K
  exact ⟨h', r, j_iconst (v := 0) dX12_placeOf_38 (by decide) <| K, q⟩
theorem bX12_placeOf_39 {h0 h : k_H} {Q : k_H → k_R → Prop} {x0 : Nat} {x1 : Int64} {x3 x4 x5 s0 : Int32} (K1 : s0 = 0 → k_X (jX12_placeOf G l h0) h 53 [(0, vR (some x0)), (1, vJ x1), (3, vI x3), (4, vI x4), (5, vI x5), (6, vI s0)] [] Q) (K2 : ¬ (s0 = 0) → k_X (jX12_placeOf G l h0) h 46 [(0, vR (some x0)), (1, vJ x1), (4, vI x4), (5, vI x5), (6, vI s0)] [] Q) : k_X (jX12_placeOf G l h0) h 39 [(0, vR (some x0)), (1, vJ x1), (3, vI x3), (4, vI x4), (5, vI x5)] [vI s0] Q := by
  by_cases hc : s0 = 0
  · skip
    obtain ⟨h', r, K, q⟩ := K1 hc
    exact ⟨h', r, j_istore dX12_placeOf_39 (by decide) rfl <| j_iload dX12_placeOf_41 rfl <| j_if_eq_t (tgt := 53) dX12_placeOf_43 (by decide) hc K, q⟩
  · skip
    obtain ⟨h', r, K, q⟩ := K2 hc
    exact ⟨h', r, j_istore dX12_placeOf_39 (by decide) rfl <| j_iload dX12_placeOf_41 rfl <| j_if_eq_f dX12_placeOf_43 53 (by decide) hc (j_pick [0, 1, 3, 4, 5] rfl K), q⟩
theorem bX12_placeOf_46 {h0 h : k_H} {Q : k_H → k_R → Prop} {x0 : Nat} {x1 : Int64} {x4 x5 x6 : Int32} (K : k_X (jX12_placeOf G l h0) h 54 [(0, vR (some x0)), (1, vJ x1), (4, vI x4), (5, vI x5), (6, vI x6)] [vI (x5 + 1)] Q) : k_X (jX12_placeOf G l h0) h 46 [(0, vR (some x0)), (1, vJ x1), (4, vI x4), (5, vI x5), (6, vI x6)] [] Q := by
  obtain ⟨h', r, K, q⟩ := K
  exact ⟨h', r, j_iload dX12_placeOf_46 rfl <| j_iconst (v := 1) dX12_placeOf_48 (by decide) <| j_iadd dX12_placeOf_49 <| j_goto (tgt := 54) dX12_placeOf_50 (by decide) <| K, q⟩
theorem bX12_placeOf_53 {h0 h : k_H} {Q : k_H → k_R → Prop} {x0 : Nat} {x1 : Int64} {x3 x4 x5 x6 : Int32} (K : k_X (jX12_placeOf G l h0) h 54 [(0, vR (some x0)), (1, vJ x1), (4, vI x4), (5, vI x5), (6, vI x6)] [vI x3] Q) : k_X (jX12_placeOf G l h0) h 53 [(0, vR (some x0)), (1, vJ x1), (3, vI x3), (4, vI x4), (5, vI x5), (6, vI x6)] [] Q := by
  obtain ⟨h', r, K, q⟩ := K
  exact ⟨h', r, j_iload_n dX12_placeOf_53 rfl rfl <| (j_pick [0, 1, 3, 4, 5] rfl K), q⟩
theorem bX12_placeOf_54 {h0 h : k_H} {Q : k_H → k_R → Prop} {x0 : Nat} {x1 : Int64} {x4 x5 x6 s0 : Int32} (K1 : x6 = 0 → k_X (jX12_placeOf G l h0) h 65 [(0, vR (some x0)), (1, vJ x1), (3, vI s0), (5, vI x5)] [] Q) (K2 : ¬ (x6 = 0) → k_X (jX12_placeOf G l h0) h 60 [(0, vR (some x0)), (1, vJ x1), (3, vI s0), (4, vI x4)] [] Q) : k_X (jX12_placeOf G l h0) h 54 [(0, vR (some x0)), (1, vJ x1), (4, vI x4), (5, vI x5), (6, vI x6)] [vI s0] Q := by
  by_cases hc : x6 = 0
  · skip
    obtain ⟨h', r, K, q⟩ := K1 hc
    exact ⟨h', r, j_istore_n dX12_placeOf_54 rfl (by decide) rfl <| j_iload dX12_placeOf_55 rfl <| j_if_eq_t (tgt := 65) dX12_placeOf_57 (by decide) hc (j_pick [0, 1, 2, 4] rfl K), q⟩
  · skip
    obtain ⟨h', r, K, q⟩ := K2 hc
    exact ⟨h', r, j_istore_n dX12_placeOf_54 rfl (by decide) rfl <| j_iload dX12_placeOf_55 rfl <| j_if_eq_f dX12_placeOf_57 65 (by decide) hc (j_pick [0, 1, 2, 3] rfl K), q⟩
theorem bX12_placeOf_60 {h0 h : k_H} {Q : k_H → k_R → Prop} {x0 : Nat} {x1 : Int64} {x3 x4 : Int32} (K : k_X (jX12_placeOf G l h0) h 67 [(0, vR (some x0)), (1, vJ x1), (3, vI x3)] [vI x4] Q) : k_X (jX12_placeOf G l h0) h 60 [(0, vR (some x0)), (1, vJ x1), (3, vI x3), (4, vI x4)] [] Q := by
  obtain ⟨h', r, K, q⟩ := K
  exact ⟨h', r, j_iload dX12_placeOf_60 rfl <| j_goto (tgt := 67) dX12_placeOf_62 (by decide) <| (j_pick [0, 1, 2] rfl K), q⟩
theorem bX12_placeOf_65 {h0 h : k_H} {Q : k_H → k_R → Prop} {x0 : Nat} {x1 : Int64} {x3 x5 : Int32} (K : k_X (jX12_placeOf G l h0) h 67 [(0, vR (some x0)), (1, vJ x1), (3, vI x3)] [vI x5] Q) : k_X (jX12_placeOf G l h0) h 65 [(0, vR (some x0)), (1, vJ x1), (3, vI x3), (5, vI x5)] [] Q := by
  obtain ⟨h', r, K, q⟩ := K
  exact ⟨h', r, j_iload dX12_placeOf_65 rfl <| (j_pick [0, 1, 2] rfl K), q⟩
theorem bX12_placeOf_67 {h0 h : k_H} {Q : k_H → k_R → Prop} {x0 : Nat} {x1 : Int64} {x3 s0 : Int32} (K : k_X (jX12_placeOf G l h0) h 8 [(0, vR (some x0)), (1, vJ x1), (3, vI x3), (4, vI s0)] [] Q) : k_X (jX12_placeOf G l h0) h 67 [(0, vR (some x0)), (1, vJ x1), (3, vI x3)] [vI s0] Q := by
  obtain ⟨h', r, K, q⟩ := K
  exact ⟨h', r, j_istore dX12_placeOf_67 (by decide) rfl <| j_goto (tgt := 8) dX12_placeOf_69 (by decide) <| K, q⟩
theorem bX12_placeOf_72 {h0 h : k_H} {Q : k_H → k_R → Prop} {x3 : Int32} (q : Q h (.inl (some (vI x3)))) : k_X (jX12_placeOf G l h0) h 72 [(3, vI x3)] [] Q := by
  exact ⟨_, _, j_iload_n dX12_placeOf_72 rfl rfl <| j_iret dX12_placeOf_73 rfl, q⟩
theorem eX12_isNamed {G : k_G} {l : Launch} (hfl : l.flags = flags0) {h : k_H} {Q : k_H → k_R → Prop} {x0 : Nat} {x1 : Int32} {x2 : Int64} (K : k_X (jX12_isNamed G l h) h 0 [(0, vR (some x0)), (1, vI x1), (2, vJ x2)] [] Q) : k_ct (tX12_isNamed G l) [vR (some x0), vI x1, vJ x2] h Q := by
  obtain ⟨h', r, K, q⟩ := K
  exact ⟨h', r, k_CtOf (by decide +kernel) (Nat.le_of_ble_eq_true rfl) K hfl, q⟩

theorem bX12_isNamed_0 {h0 h : k_H} {Q : k_H → k_R → Prop} {x0 : Nat} {x1 f1_2 : Int32} {x2 : Int64} {fs1 : List k_V} (o1 : h.1 x0 = some (k_o 15 fs1)) (g1_2 : fs1[2]? = some (vI f1_2)) (K1 : f1_2 ≤ x1 → k_X (jX12_isNamed G l h0) h 23 [] [] Q) (K2 : ¬ (f1_2 ≤ x1) → k_X (jX12_isNamed G l h0) h 8 [(0, vR (some x0)), (1, vI x1), (2, vJ x2)] [] Q) : k_X (jX12_isNamed G l h0) h 0 [(0, vR (some x0)), (1, vI x1), (2, vJ x2)] [] Q := by
  by_cases hc : f1_2 ≤ x1
  · skip
    obtain ⟨h', r, K, q⟩ := K1 hc
    exact ⟨h', r, j_iload_n dX12_isNamed_0 rfl rfl <| j_aload_n dX12_isNamed_1 rfl rfl <| j_getf dX12_isNamed_2 kf_X12_161 o1 g1_2 <| j_icmp_ge_t (tgt := 23) dX12_isNamed_5 (by decide) hc (j_pick [] rfl K), q⟩
  · skip
    obtain ⟨h', r, K, q⟩ := K2 hc
    exact ⟨h', r, j_iload_n dX12_isNamed_0 rfl rfl <| j_aload_n dX12_isNamed_1 rfl rfl <| j_getf dX12_isNamed_2 kf_X12_161 o1 g1_2 <| j_icmp_ge_f dX12_isNamed_5 23 (by decide) hc K, q⟩
theorem bX12_isNamed_8 {h0 h : k_H} {Q : k_H → k_R → Prop} {x0 f1_3 : Nat} {x1 : Int32} {x2 : Int64} {fs1 : List k_V} (o1 : h.1 x0 = some (k_o 15 fs1)) (g1_3 : fs1[3]? = some (vR (some f1_3))) {n2 : Nat} {w2 : Nat → Int64} (o2 : h.1 f1_3 = some (k_j n2 w2)) (y3 : vp_in x1 n2) (K1 : ¬ ((w2 (x1).toNatClampNeg) = x2) → k_X (jX12_isNamed G l h0) h 23 [] [] Q) (K2 : (w2 (x1).toNatClampNeg) = x2 → k_X (jX12_isNamed G l h0) h 19 [] [] Q) : k_X (jX12_isNamed G l h0) h 8 [(0, vR (some x0)), (1, vI x1), (2, vJ x2)] [] Q := by
  by_cases hc : (w2 (x1).toNatClampNeg) = x2
  · skip
    obtain ⟨h', r, K, q⟩ := K2 hc
    exact ⟨h', r, j_aload_n dX12_isNamed_8 rfl rfl <| j_getf dX12_isNamed_9 kf_X12_9 o1 g1_3 <| j_iload_n dX12_isNamed_12 rfl rfl <| j_lald dX12_isNamed_13 o2 y3 <| j_lload_n dX12_isNamed_14 rfl rfl <| j_lcmp dX12_isNamed_15 <| j_if_ne_f dX12_isNamed_16 23 (by decide) ((lg_cmp_eq _ _).mpr hc) (j_pick [] rfl K), q⟩
  · skip
    obtain ⟨h', r, K, q⟩ := K1 hc
    exact ⟨h', r, j_aload_n dX12_isNamed_8 rfl rfl <| j_getf dX12_isNamed_9 kf_X12_9 o1 g1_3 <| j_iload_n dX12_isNamed_12 rfl rfl <| j_lald dX12_isNamed_13 o2 y3 <| j_lload_n dX12_isNamed_14 rfl rfl <| j_lcmp dX12_isNamed_15 <| j_if_ne_t (tgt := 23) dX12_isNamed_16 (by decide) ((not_congr (lg_cmp_eq _ _)).mpr hc) (j_pick [] rfl K), q⟩
theorem bX12_isNamed_19 {h0 h : k_H} {Q : k_H → k_R → Prop} (K : k_X (jX12_isNamed G l h0) h 24 [] [vI 1] Q) : k_X (jX12_isNamed G l h0) h 19 [] [] Q := by
  obtain ⟨h', r, K, q⟩ := K
  exact ⟨h', r, j_iconst (v := 1) dX12_isNamed_19 (by decide) <| j_goto (tgt := 24) dX12_isNamed_20 (by decide) <| K, q⟩
theorem bX12_isNamed_23 {h0 h : k_H} {Q : k_H → k_R → Prop} (K : k_X (jX12_isNamed G l h0) h 24 [] [vI 0] Q) : k_X (jX12_isNamed G l h0) h 23 [] [] Q := by
  obtain ⟨h', r, K, q⟩ := K
  exact ⟨h', r, j_iconst (v := 0) dX12_isNamed_23 (by decide) <| K, q⟩
theorem bX12_isNamed_24 {h0 h : k_H} {Q : k_H → k_R → Prop} {s0 : Int32} (y1 : k_bl s0) (q : Q h (.inl (some (vI s0)))) : k_X (jX12_isNamed G l h0) h 24 [] [vI s0] Q := by
  exact ⟨_, _, j_zret dX12_isNamed_24 rfl y1, q⟩
theorem eX12_name {G : k_G} {l : Launch} (hfl : l.flags = flags0) {h : k_H} {Q : k_H → k_R → Prop} {x0 : Nat} {x1 : Int64} (K : k_X (jX12_name G l h) h 0 [(0, vR (some x0)), (1, vJ x1)] [] Q) : k_ct (tX12_name G l) [vR (some x0), vJ x1] h Q := by
  obtain ⟨h', r, K, q⟩ := K
  exact ⟨h', r, k_CtOf (by decide +kernel) (Nat.le_of_ble_eq_true rfl) K hfl, q⟩

theorem bX12_name_0 {h0 h : k_H} {Q : k_H → k_R → Prop} {x0 : Nat} {x1 : Int64} (w : k_is h x0 15) {P : k_H → Int32 → Prop} (c : k_cti (tX12_placeOf G l) [vR (some x0), vJ x1] h P) (K : ∀ h1 v, P h1 v → k_X (jX12_name G l h0) h1 5 [(0, vR (some x0)), (1, vJ x1)] [vI v] Q) : k_X (jX12_name G l h0) h 0 [(0, vR (some x0)), (1, vJ x1)] [] Q := by
  obtain ⟨h1, v, c, p⟩ := c
  obtain ⟨h', r, K, q⟩ := K h1 v p
  exact ⟨h', r, j_aload_n dX12_name_0 rfl rfl <| j_lload_n dX12_name_1 rfl rfl <| j_callV (v := some (vI v)) (as := [vJ x1]) dX12_name_2 kc_X12_164 rfl rfl w (by decide) (Nat.le_of_ble_eq_true rfl) c K, q⟩
theorem bX12_name_5 {h0 h : k_H} {Q : k_H → k_R → Prop} {x0 : Nat} {x1 : Int64} {s0 : Int32} (w : k_is h x0 15) {P : k_H → Int32 → Prop} (c : k_cti (tX12_isNamed G l) [vR (some x0), vI s0, vJ x1] h P) (K : ∀ h1 v, P h1 v → k_X (jX12_name G l h0) h1 12 [(0, vR (some x0)), (1, vJ x1), (3, vI s0)] [vI v] Q) : k_X (jX12_name G l h0) h 5 [(0, vR (some x0)), (1, vJ x1)] [vI s0] Q := by
  obtain ⟨h1, v, c, p⟩ := c
  obtain ⟨h', r, K, q⟩ := K h1 v p
  exact ⟨h', r, j_istore_n dX12_name_5 rfl (by decide) rfl <| j_aload_n dX12_name_6 rfl rfl <| j_iload_n dX12_name_7 rfl rfl <| j_lload_n dX12_name_8 rfl rfl <| j_callV (v := some (vI v)) (as := [vI s0, vJ x1]) dX12_name_9 kc_X12_168 rfl rfl w (by decide) (Nat.le_of_ble_eq_true rfl) c K, q⟩
theorem bX12_name_12 {h0 h : k_H} {Q : k_H → k_R → Prop} {x0 : Nat} {x1 : Int64} {x3 s0 : Int32} (K1 : ¬ (s0 = 0) → k_X (jX12_name G l h0) h 89 [(3, vI x3)] [] Q) (K2 : s0 = 0 → k_X (jX12_name G l h0) h 15 [(0, vR (some x0)), (1, vJ x1), (3, vI x3)] [] Q) : k_X (jX12_name G l h0) h 12 [(0, vR (some x0)), (1, vJ x1), (3, vI x3)] [vI s0] Q := by
  by_cases hc : s0 = 0
  · skip
    obtain ⟨h', r, K, q⟩ := K2 hc
    exact ⟨h', r, j_if_ne_f dX12_name_12 89 (by decide) hc K, q⟩
  · skip
    obtain ⟨h', r, K, q⟩ := K1 hc
    exact ⟨h', r, j_if_ne_t (tgt := 89) dX12_name_12 (by decide) hc (j_pick [2] rfl K), q⟩
theorem bX12_name_15 {h0 h : k_H} {Q : k_H → k_R → Prop} {x0 : Nat} {x1 : Int64} {x3 f1_2 : Int32} {fs1 : List k_V} (o1 : h.1 x0 = some (k_o 15 fs1)) (g1_2 : fs1[2]? = some (vI f1_2)) (K : k_X (jX12_name G l h0) h 21 [(0, vR (some x0)), (1, vJ x1), (3, vI x3), (4, vI f1_2)] [] Q) : k_X (jX12_name G l h0) h 15 [(0, vR (some x0)), (1, vJ x1), (3, vI x3)] [] Q := by
  obtain ⟨h', r, K, q⟩ := K
  exact ⟨h', r, j_aload_n dX12_name_15 rfl rfl <| j_getf dX12_name_16 kf_X12_161 o1 g1_2 <| j_istore dX12_name_19 (by decide) rfl <| K, q⟩
theorem bX12_name_21 {h0 h : k_H} {Q : k_H → k_R → Prop} {x0 : Nat} {x1 : Int64} {x3 x4 : Int32} (K1 : x4 ≤ x3 → k_X (jX12_name G l h0) h 65 [(0, vR (some x0)), (1, vJ x1), (3, vI x3)] [] Q) (K2 : ¬ (x4 ≤ x3) → k_X (jX12_name G l h0) h 27 [(0, vR (some x0)), (1, vJ x1), (3, vI x3), (4, vI x4)] [] Q) : k_X (jX12_name G l h0) h 21 [(0, vR (some x0)), (1, vJ x1), (3, vI x3), (4, vI x4)] [] Q := by
  by_cases hc : x4 ≤ x3
  · skip
    obtain ⟨h', r, K, q⟩ := K1 hc
    exact ⟨h', r, j_iload dX12_name_21 rfl <| j_iload_n dX12_name_23 rfl rfl <| j_icmp_le_t (tgt := 65) dX12_name_24 (by decide) hc (j_pick [0, 1, 2] rfl K), q⟩
  · skip
    obtain ⟨h', r, K, q⟩ := K2 hc
    exact ⟨h', r, j_iload dX12_name_21 rfl <| j_iload_n dX12_name_23 rfl rfl <| j_icmp_le_f dX12_name_24 65 (by decide) hc K, q⟩
theorem bX12_name_27 {h0 h : k_H} {Q : k_H → k_R → Prop} {x0 f1_3 : Nat} {x1 : Int64} {x3 x4 : Int32} {fs1 : List k_V} (o1 : h.1 x0 = some (k_o 15 fs1)) (g1_3 : fs1[3]? = some (vR (some f1_3))) {n2 : Nat} {w2 : Nat → Int64} (o2 : h.1 f1_3 = some (k_j n2 w2)) (y3 : vp_in (x4 - 1) n2) (y4 : vp_in x4 n2) (K : k_X (jX12_name G l h0) (k_up h f1_3 (k_j n2 (va_up w2 (x4).toNatClampNeg (w2 (x4 - 1).toNatClampNeg)))) 43 [(0, vR (some x0)), (1, vJ x1), (3, vI x3), (4, vI x4)] [] Q) : k_X (jX12_name G l h0) h 27 [(0, vR (some x0)), (1, vJ x1), (3, vI x3), (4, vI x4)] [] Q := by
  obtain ⟨h', r, K, q⟩ := K
  exact ⟨h', r, j_aload_n dX12_name_27 rfl rfl <| j_getf dX12_name_28 kf_X12_9 o1 g1_3 <| j_iload dX12_name_31 rfl <| j_aload_n dX12_name_33 rfl rfl <| j_getf dX12_name_34 kf_X12_9 o1 g1_3 <| j_iload dX12_name_37 rfl <| j_iconst (v := 1) dX12_name_39 (by decide) <| j_isub dX12_name_40 <| j_lald dX12_name_41 o2 y3 <| j_last dX12_name_42 o2 y4 <| K, q⟩
theorem bX12_name_43 {h0 h : k_H} {Q : k_H → k_R → Prop} {x0 f1_4 : Nat} {x1 : Int64} {x3 x4 : Int32} {fs1 : List k_V} (o1 : h.1 x0 = some (k_o 15 fs1)) (g1_4 : fs1[4]? = some (vR (some f1_4))) {n2 : Nat} {w2 : Nat → Int32} (o2 : h.1 f1_4 = some (k_i n2 w2)) (y3 : vp_in (x4 - 1) n2) (y4 : vp_in x4 n2) (K : k_X (jX12_name G l h0) (k_up h f1_4 (k_i n2 (va_up w2 (x4).toNatClampNeg (w2 (x4 - 1).toNatClampNeg)))) 59 [(0, vR (some x0)), (1, vJ x1), (3, vI x3), (4, vI x4)] [] Q) : k_X (jX12_name G l h0) h 43 [(0, vR (some x0)), (1, vJ x1), (3, vI x3), (4, vI x4)] [] Q := by
  obtain ⟨h', r, K, q⟩ := K
  exact ⟨h', r, j_aload_n dX12_name_43 rfl rfl <| j_getf dX12_name_44 kf_X12_15 o1 g1_4 <| j_iload dX12_name_47 rfl <| j_aload_n dX12_name_49 rfl rfl <| j_getf dX12_name_50 kf_X12_15 o1 g1_4 <| j_iload dX12_name_53 rfl <| j_iconst (v := 1) dX12_name_55 (by decide) <| j_isub dX12_name_56 <| j_iald dX12_name_57 o2 y3 <| j_iast dX12_name_58 o2 y4 <| K, q⟩
theorem bX12_name_59 {h0 h : k_H} {Q : k_H → k_R → Prop} {x0 : Nat} {x1 : Int64} {x3 x4 : Int32} (K : k_X (jX12_name G l h0) h 21 [(0, vR (some x0)), (1, vJ x1), (3, vI x3), (4, vI (x4 + (-1)))] [] Q) : k_X (jX12_name G l h0) h 59 [(0, vR (some x0)), (1, vJ x1), (3, vI x3), (4, vI x4)] [] Q := by
  obtain ⟨h', r, K, q⟩ := K
  exact ⟨h', r, j_iinc (v := x4 + (-1)) dX12_name_59 rfl (by decide) rfl rfl <| j_goto (tgt := 21) dX12_name_62 (by decide) <| K, q⟩
theorem bX12_name_65 {h0 h : k_H} {Q : k_H → k_R → Prop} {x0 f1_3 : Nat} {x1 : Int64} {x3 : Int32} {fs1 : List k_V} (o1 : h.1 x0 = some (k_o 15 fs1)) (g1_3 : fs1[3]? = some (vR (some f1_3))) {n2 : Nat} {w2 : Nat → Int64} (o2 : h.1 f1_3 = some (k_j n2 w2)) (y3 : vp_in x3 n2) (K : k_X (jX12_name G l h0) (k_up h f1_3 (k_j n2 (va_up w2 (x3).toNatClampNeg x1))) 72 [(0, vR (some x0)), (3, vI x3)] [] Q) : k_X (jX12_name G l h0) h 65 [(0, vR (some x0)), (1, vJ x1), (3, vI x3)] [] Q := by
  obtain ⟨h', r, K, q⟩ := K
  exact ⟨h', r, j_aload_n dX12_name_65 rfl rfl <| j_getf dX12_name_66 kf_X12_9 o1 g1_3 <| j_iload_n dX12_name_69 rfl rfl <| j_lload_n dX12_name_70 rfl rfl <| j_last dX12_name_71 o2 y3 <| (j_pick [0, 2] rfl K), q⟩
theorem bX12_name_72 {h0 h : k_H} {Q : k_H → k_R → Prop} {x0 f1_4 : Nat} {x3 : Int32} {fs1 : List k_V} (o1 : h.1 x0 = some (k_o 15 fs1)) (g1_4 : fs1[4]? = some (vR (some f1_4))) {n2 : Nat} {w2 : Nat → Int32} (o2 : h.1 f1_4 = some (k_i n2 w2)) (y3 : vp_in x3 n2) (K : k_X (jX12_name G l h0) (k_up h f1_4 (k_i n2 (va_up w2 (x3).toNatClampNeg (-1)))) 79 [(0, vR (some x0)), (3, vI x3)] [] Q) : k_X (jX12_name G l h0) h 72 [(0, vR (some x0)), (3, vI x3)] [] Q := by
  obtain ⟨h', r, K, q⟩ := K
  exact ⟨h', r, j_aload_n dX12_name_72 rfl rfl <| j_getf dX12_name_73 kf_X12_15 o1 g1_4 <| j_iload_n dX12_name_76 rfl rfl <| j_iconst (v := (-1)) dX12_name_77 (by decide) <| j_iast dX12_name_78 o2 y3 <| K, q⟩
theorem bX12_name_79 {h0 h : k_H} {Q : k_H → k_R → Prop} {x0 : Nat} {x3 f1_2 : Int32} {fs1 : List k_V} (o1 : h.1 x0 = some (k_o 15 fs1)) (g1_2 : fs1[2]? = some (vI f1_2)) (z1 : fs1.length = 53) (K : k_X (jX12_name G l h0) (k_up h x0 (k_o 15 (fs1.set 2 (vI (f1_2 + 1))))) 89 [(3, vI x3)] [] Q) : k_X (jX12_name G l h0) h 79 [(0, vR (some x0)), (3, vI x3)] [] Q := by
  obtain ⟨h', r, K, q⟩ := K
  exact ⟨h', r, j_aload_n dX12_name_79 rfl rfl <| j_dup dX12_name_80 rfl <| j_getf dX12_name_81 kf_X12_161 o1 g1_2 <| j_iconst (v := 1) dX12_name_84 (by decide) <| j_iadd dX12_name_85 <| j_putf dX12_name_86 kp_X12_161 o1 (k_ln z1 (by decide)) (k_fit_i _) rfl <| (j_pick [1] rfl K), q⟩
theorem bX12_name_89 {h0 h : k_H} {Q : k_H → k_R → Prop} {x3 : Int32} (q : Q h (.inl (some (vI x3)))) : k_X (jX12_name G l h0) h 89 [(3, vI x3)] [] Q := by
  exact ⟨_, _, j_iload_n dX12_name_89 rfl rfl <| j_iret dX12_name_90 rfl, q⟩
theorem eX12_entryAt {G : k_G} {l : Launch} (hfl : l.flags = flags0) {h : k_H} {Q : k_H → k_R → Prop} {x0 : Nat} {x1 : Int32} {x2 : Int32} (K : k_X (jX12_entryAt G l h) h 0 [(0, vR (some x0)), (1, vI x1), (2, vI x2)] [] Q) : k_ct (tX12_entryAt G l) [vR (some x0), vI x1, vI x2] h Q := by
  obtain ⟨h', r, K, q⟩ := K
  exact ⟨h', r, k_CtOf (by decide +kernel) (Nat.le_of_ble_eq_true rfl) K hfl, q⟩

theorem bX12_entryAt_0 {h0 h : k_H} {Q : k_H → k_R → Prop} {x0 f1_4 : Nat} {x1 x2 : Int32} {fs1 : List k_V} (o1 : h.1 x0 = some (k_o 15 fs1)) (g1_4 : fs1[4]? = some (vR (some f1_4))) {n2 : Nat} {w2 : Nat → Int32} (o2 : h.1 f1_4 = some (k_i n2 w2)) (y3 : vp_in x1 n2) (K : k_X (jX12_entryAt G l h0) h 7 [(0, vR (some x0)), (2, vI x2), (3, vI (w2 (x1).toNatClampNeg))] [] Q) : k_X (jX12_entryAt G l h0) h 0 [(0, vR (some x0)), (1, vI x1), (2, vI x2)] [] Q := by
  obtain ⟨h', r, K, q⟩ := K
  exact ⟨h', r, j_aload_n dX12_entryAt_0 rfl rfl <| j_getf dX12_entryAt_1 kf_X12_15 o1 g1_4 <| j_iload_n dX12_entryAt_4 rfl rfl <| j_iald dX12_entryAt_5 o2 y3 <| j_istore_n dX12_entryAt_6 rfl (by decide) rfl <| (j_pick [0, 2, 3] rfl K), q⟩
theorem bX12_entryAt_7 {h0 h : k_H} {Q : k_H → k_R → Prop} {x0 : Nat} {x2 x3 : Int32} (K1 : x3 < 0 → k_X (jX12_entryAt G l h0) h 31 [(3, vI x3)] [] Q) (K2 : ¬ (x3 < 0) → k_X (jX12_entryAt G l h0) h 11 [(0, vR (some x0)), (2, vI x2), (3, vI x3)] [] Q) : k_X (jX12_entryAt G l h0) h 7 [(0, vR (some x0)), (2, vI x2), (3, vI x3)] [] Q := by
  by_cases hc : x3 < 0
  · skip
    obtain ⟨h', r, K, q⟩ := K1 hc
    exact ⟨h', r, j_iload_n dX12_entryAt_7 rfl rfl <| j_if_lt_t (tgt := 31) dX12_entryAt_8 (by decide) hc (j_pick [2] rfl K), q⟩
  · skip
    obtain ⟨h', r, K, q⟩ := K2 hc
    exact ⟨h', r, j_iload_n dX12_entryAt_7 rfl rfl <| j_if_lt_f dX12_entryAt_8 31 (by decide) hc K, q⟩
theorem bX12_entryAt_11 {h0 h : k_H} {Q : k_H → k_R → Prop} {x0 f1_6 : Nat} {x2 x3 : Int32} {fs1 : List k_V} (o1 : h.1 x0 = some (k_o 15 fs1)) (g1_6 : fs1[6]? = some (vR (some f1_6))) {n2 : Nat} {w2 : Nat → Int32} (o2 : h.1 f1_6 = some (k_i n2 w2)) (y3 : vp_in x3 n2) (K1 : (w2 (x3).toNatClampNeg) ≤ x2 → k_X (jX12_entryAt G l h0) h 31 [(3, vI x3)] [] Q) (K2 : ¬ ((w2 (x3).toNatClampNeg) ≤ x2) → k_X (jX12_entryAt G l h0) h 21 [(0, vR (some x0)), (2, vI x2), (3, vI x3)] [] Q) : k_X (jX12_entryAt G l h0) h 11 [(0, vR (some x0)), (2, vI x2), (3, vI x3)] [] Q := by
  by_cases hc : (w2 (x3).toNatClampNeg) ≤ x2
  · skip
    obtain ⟨h', r, K, q⟩ := K1 hc
    exact ⟨h', r, j_aload_n dX12_entryAt_11 rfl rfl <| j_getf dX12_entryAt_12 kf_X12_20 o1 g1_6 <| j_iload_n dX12_entryAt_15 rfl rfl <| j_iald dX12_entryAt_16 o2 y3 <| j_iload_n dX12_entryAt_17 rfl rfl <| j_icmp_le_t (tgt := 31) dX12_entryAt_18 (by decide) hc (j_pick [2] rfl K), q⟩
  · skip
    obtain ⟨h', r, K, q⟩ := K2 hc
    exact ⟨h', r, j_aload_n dX12_entryAt_11 rfl rfl <| j_getf dX12_entryAt_12 kf_X12_20 o1 g1_6 <| j_iload_n dX12_entryAt_15 rfl rfl <| j_iald dX12_entryAt_16 o2 y3 <| j_iload_n dX12_entryAt_17 rfl rfl <| j_icmp_le_f dX12_entryAt_18 31 (by decide) hc K, q⟩
theorem bX12_entryAt_21 {h0 h : k_H} {Q : k_H → k_R → Prop} {x0 f1_9 : Nat} {x2 x3 : Int32} {fs1 : List k_V} (o1 : h.1 x0 = some (k_o 15 fs1)) (g1_9 : fs1[9]? = some (vR (some f1_9))) {n2 : Nat} {w2 : Nat → Int32} (o2 : h.1 f1_9 = some (k_i n2 w2)) (y3 : vp_in x3 n2) (K : k_X (jX12_entryAt G l h0) h 7 [(0, vR (some x0)), (2, vI x2), (3, vI (w2 (x3).toNatClampNeg))] [] Q) : k_X (jX12_entryAt G l h0) h 21 [(0, vR (some x0)), (2, vI x2), (3, vI x3)] [] Q := by
  obtain ⟨h', r, K, q⟩ := K
  exact ⟨h', r, j_aload_n dX12_entryAt_21 rfl rfl <| j_getf dX12_entryAt_22 kf_X12_30 o1 g1_9 <| j_iload_n dX12_entryAt_25 rfl rfl <| j_iald dX12_entryAt_26 o2 y3 <| j_istore_n dX12_entryAt_27 rfl (by decide) rfl <| j_goto (tgt := 7) dX12_entryAt_28 (by decide) <| K, q⟩
theorem bX12_entryAt_31 {h0 h : k_H} {Q : k_H → k_R → Prop} {x3 : Int32} (q : Q h (.inl (some (vI x3)))) : k_X (jX12_entryAt G l h0) h 31 [(3, vI x3)] [] Q := by
  exact ⟨_, _, j_iload_n dX12_entryAt_31 rfl rfl <| j_iret dX12_entryAt_32 rfl, q⟩
theorem eX12_hasAt {G : k_G} {l : Launch} (hfl : l.flags = flags0) {h : k_H} {Q : k_H → k_R → Prop} {x0 : Nat} {x1 : Int32} {x2 : Int32} (K : k_X (jX12_hasAt G l h) h 0 [(0, vR (some x0)), (1, vI x1), (2, vI x2)] [] Q) : k_ct (tX12_hasAt G l) [vR (some x0), vI x1, vI x2] h Q := by
  obtain ⟨h', r, K, q⟩ := K
  exact ⟨h', r, k_CtOf (by decide +kernel) (Nat.le_of_ble_eq_true rfl) K hfl, q⟩

theorem bX12_hasAt_0 {h0 h : k_H} {Q : k_H → k_R → Prop} {x0 : Nat} {x1 x2 : Int32} (w : k_is h x0 15) {P : k_H → Int32 → Prop} (c : k_cti (tX12_entryAt G l) [vR (some x0), vI x1, vI x2] h P) (K : ∀ h1 v, P h1 v → k_X (jX12_hasAt G l h0) h1 6 [(0, vR (some x0))] [vI v] Q) : k_X (jX12_hasAt G l h0) h 0 [(0, vR (some x0)), (1, vI x1), (2, vI x2)] [] Q := by
  obtain ⟨h1, v, c, p⟩ := c
  obtain ⟨h', r, K, q⟩ := K h1 v p
  exact ⟨h', r, j_aload_n dX12_hasAt_0 rfl rfl <| j_iload_n dX12_hasAt_1 rfl rfl <| j_iload_n dX12_hasAt_2 rfl rfl <| j_callV (v := some (vI v)) (as := [vI x1, vI x2]) dX12_hasAt_3 kc_X12_172 rfl rfl w (by decide) (Nat.le_of_ble_eq_true rfl) c (j_pick [0] rfl K), q⟩
theorem bX12_hasAt_6 {h0 h : k_H} {Q : k_H → k_R → Prop} {x0 : Nat} {s0 : Int32} (K1 : s0 < 0 → k_X (jX12_hasAt G l h0) h 24 [] [] Q) (K2 : ¬ (s0 < 0) → k_X (jX12_hasAt G l h0) h 11 [(0, vR (some x0)), (3, vI s0)] [] Q) : k_X (jX12_hasAt G l h0) h 6 [(0, vR (some x0))] [vI s0] Q := by
  by_cases hc : s0 < 0
  · skip
    obtain ⟨h', r, K, q⟩ := K1 hc
    exact ⟨h', r, j_istore_n dX12_hasAt_6 rfl (by decide) rfl <| j_iload_n dX12_hasAt_7 rfl rfl <| j_if_lt_t (tgt := 24) dX12_hasAt_8 (by decide) hc (j_pick [] rfl K), q⟩
  · skip
    obtain ⟨h', r, K, q⟩ := K2 hc
    exact ⟨h', r, j_istore_n dX12_hasAt_6 rfl (by decide) rfl <| j_iload_n dX12_hasAt_7 rfl rfl <| j_if_lt_f dX12_hasAt_8 24 (by decide) hc K, q⟩
theorem bX12_hasAt_11 {h0 h : k_H} {Q : k_H → k_R → Prop} {x0 f1_8 : Nat} {x3 : Int32} {fs1 : List k_V} (o1 : h.1 x0 = some (k_o 15 fs1)) (g1_8 : fs1[8]? = some (vR (some f1_8))) {n2 : Nat} {w2 : Nat → Int32} (o2 : h.1 f1_8 = some (k_z n2 w2)) (y3 : vp_in x3 n2) (K1 : (w2 (x3).toNatClampNeg) = 0 → k_X (jX12_hasAt G l h0) h 24 [] [] Q) (K2 : ¬ ((w2 (x3).toNatClampNeg) = 0) → k_X (jX12_hasAt G l h0) h 20 [] [] Q) : k_X (jX12_hasAt G l h0) h 11 [(0, vR (some x0)), (3, vI x3)] [] Q := by
  by_cases hc : (w2 (x3).toNatClampNeg) = 0
  · skip
    obtain ⟨h', r, K, q⟩ := K1 hc
    exact ⟨h', r, j_aload_n dX12_hasAt_11 rfl rfl <| j_getf dX12_hasAt_12 kf_X12_26 o1 g1_8 <| j_iload_n dX12_hasAt_15 rfl rfl <| j_zald dX12_hasAt_16 o2 y3 <| j_if_eq_t (tgt := 24) dX12_hasAt_17 (by decide) hc (j_pick [] rfl K), q⟩
  · skip
    obtain ⟨h', r, K, q⟩ := K2 hc
    exact ⟨h', r, j_aload_n dX12_hasAt_11 rfl rfl <| j_getf dX12_hasAt_12 kf_X12_26 o1 g1_8 <| j_iload_n dX12_hasAt_15 rfl rfl <| j_zald dX12_hasAt_16 o2 y3 <| j_if_eq_f dX12_hasAt_17 24 (by decide) hc (j_pick [] rfl K), q⟩
theorem bX12_hasAt_20 {h0 h : k_H} {Q : k_H → k_R → Prop} (K : k_X (jX12_hasAt G l h0) h 25 [] [vI 1] Q) : k_X (jX12_hasAt G l h0) h 20 [] [] Q := by
  obtain ⟨h', r, K, q⟩ := K
  exact ⟨h', r, j_iconst (v := 1) dX12_hasAt_20 (by decide) <| j_goto (tgt := 25) dX12_hasAt_21 (by decide) <| K, q⟩
theorem bX12_hasAt_24 {h0 h : k_H} {Q : k_H → k_R → Prop} (K : k_X (jX12_hasAt G l h0) h 25 [] [vI 0] Q) : k_X (jX12_hasAt G l h0) h 24 [] [] Q := by
  obtain ⟨h', r, K, q⟩ := K
  exact ⟨h', r, j_iconst (v := 0) dX12_hasAt_24 (by decide) <| K, q⟩
theorem bX12_hasAt_25 {h0 h : k_H} {Q : k_H → k_R → Prop} {s0 : Int32} (y1 : k_bl s0) (q : Q h (.inl (some (vI s0)))) : k_X (jX12_hasAt G l h0) h 25 [] [vI s0] Q := by
  exact ⟨_, _, j_zret dX12_hasAt_25 rfl y1, q⟩
theorem eX12_valueAt {G : k_G} {l : Launch} (hfl : l.flags = flags0) {h : k_H} {Q : k_H → k_R → Prop} {x0 : Nat} {x1 : Int32} {x2 : Int32} (K : k_X (jX12_valueAt G l h) h 0 [(0, vR (some x0)), (1, vI x1), (2, vI x2)] [] Q) : k_ct (tX12_valueAt G l) [vR (some x0), vI x1, vI x2] h Q := by
  obtain ⟨h', r, K, q⟩ := K
  exact ⟨h', r, k_CtOf (by decide +kernel) (Nat.le_of_ble_eq_true rfl) K hfl, q⟩

theorem bX12_valueAt_0 {h0 h : k_H} {Q : k_H → k_R → Prop} {x0 : Nat} {x1 x2 : Int32} (w : k_is h x0 15) {P : k_H → Int32 → Prop} (c : k_cti (tX12_entryAt G l) [vR (some x0), vI x1, vI x2] h P) (K : ∀ h1 v, P h1 v → k_X (jX12_valueAt G l h0) h1 6 [(0, vR (some x0))] [vI v] Q) : k_X (jX12_valueAt G l h0) h 0 [(0, vR (some x0)), (1, vI x1), (2, vI x2)] [] Q := by
  obtain ⟨h1, v, c, p⟩ := c
  obtain ⟨h', r, K, q⟩ := K h1 v p
  exact ⟨h', r, j_aload_n dX12_valueAt_0 rfl rfl <| j_iload_n dX12_valueAt_1 rfl rfl <| j_iload_n dX12_valueAt_2 rfl rfl <| j_callV (v := some (vI v)) (as := [vI x1, vI x2]) dX12_valueAt_3 kc_X12_172 rfl rfl w (by decide) (Nat.le_of_ble_eq_true rfl) c (j_pick [0] rfl K), q⟩
theorem bX12_valueAt_6 {h0 h : k_H} {Q : k_H → k_R → Prop} {x0 : Nat} {s0 : Int32} (K1 : s0 < 0 → k_X (jX12_valueAt G l h0) h 29 [] [] Q) (K2 : ¬ (s0 < 0) → k_X (jX12_valueAt G l h0) h 11 [(0, vR (some x0)), (3, vI s0)] [] Q) : k_X (jX12_valueAt G l h0) h 6 [(0, vR (some x0))] [vI s0] Q := by
  by_cases hc : s0 < 0
  · skip
    obtain ⟨h', r, K, q⟩ := K1 hc
    exact ⟨h', r, j_istore_n dX12_valueAt_6 rfl (by decide) rfl <| j_iload_n dX12_valueAt_7 rfl rfl <| j_if_lt_t (tgt := 29) dX12_valueAt_8 (by decide) hc (j_pick [] rfl K), q⟩
  · skip
    obtain ⟨h', r, K, q⟩ := K2 hc
    exact ⟨h', r, j_istore_n dX12_valueAt_6 rfl (by decide) rfl <| j_iload_n dX12_valueAt_7 rfl rfl <| j_if_lt_f dX12_valueAt_8 29 (by decide) hc K, q⟩
theorem bX12_valueAt_11 {h0 h : k_H} {Q : k_H → k_R → Prop} {x0 f1_8 : Nat} {x3 : Int32} {fs1 : List k_V} (o1 : h.1 x0 = some (k_o 15 fs1)) (g1_8 : fs1[8]? = some (vR (some f1_8))) {n2 : Nat} {w2 : Nat → Int32} (o2 : h.1 f1_8 = some (k_z n2 w2)) (y3 : vp_in x3 n2) (K1 : (w2 (x3).toNatClampNeg) = 0 → k_X (jX12_valueAt G l h0) h 29 [] [] Q) (K2 : ¬ ((w2 (x3).toNatClampNeg) = 0) → k_X (jX12_valueAt G l h0) h 20 [(0, vR (some x0)), (3, vI x3)] [] Q) : k_X (jX12_valueAt G l h0) h 11 [(0, vR (some x0)), (3, vI x3)] [] Q := by
  by_cases hc : (w2 (x3).toNatClampNeg) = 0
  · skip
    obtain ⟨h', r, K, q⟩ := K1 hc
    exact ⟨h', r, j_aload_n dX12_valueAt_11 rfl rfl <| j_getf dX12_valueAt_12 kf_X12_26 o1 g1_8 <| j_iload_n dX12_valueAt_15 rfl rfl <| j_zald dX12_valueAt_16 o2 y3 <| j_if_eq_t (tgt := 29) dX12_valueAt_17 (by decide) hc (j_pick [] rfl K), q⟩
  · skip
    obtain ⟨h', r, K, q⟩ := K2 hc
    exact ⟨h', r, j_aload_n dX12_valueAt_11 rfl rfl <| j_getf dX12_valueAt_12 kf_X12_26 o1 g1_8 <| j_iload_n dX12_valueAt_15 rfl rfl <| j_zald dX12_valueAt_16 o2 y3 <| j_if_eq_f dX12_valueAt_17 29 (by decide) hc K, q⟩
theorem bX12_valueAt_20 {h0 h : k_H} {Q : k_H → k_R → Prop} {x0 f1_7 : Nat} {x3 : Int32} {fs1 : List k_V} (o1 : h.1 x0 = some (k_o 15 fs1)) (g1_7 : fs1[7]? = some (vR (some f1_7))) {n2 : Nat} {w2 : Nat → Int32} (o2 : h.1 f1_7 = some (k_i n2 w2)) (y3 : vp_in x3 n2) (K : k_X (jX12_valueAt G l h0) h 31 [] [vI (w2 (x3).toNatClampNeg)] Q) : k_X (jX12_valueAt G l h0) h 20 [(0, vR (some x0)), (3, vI x3)] [] Q := by
  obtain ⟨h', r, K, q⟩ := K
  exact ⟨h', r, j_aload_n dX12_valueAt_20 rfl rfl <| j_getf dX12_valueAt_21 kf_X12_23 o1 g1_7 <| j_iload_n dX12_valueAt_24 rfl rfl <| j_iald dX12_valueAt_25 o2 y3 <| j_goto (tgt := 31) dX12_valueAt_26 (by decide) <| (j_pick [] rfl K), q⟩
theorem bX12_valueAt_29 {h0 h : k_H} {Q : k_H → k_R → Prop} (K : k_X (jX12_valueAt G l h0) h 31 [] [vI (-2147483648)] Q) : k_X (jX12_valueAt G l h0) h 29 [] [] Q := by
  obtain ⟨h', r, K, q⟩ := K
  exact ⟨h', r, j_ldc (v := (-2147483648)) dX12_valueAt_29 ki_X12_87 <| K, q⟩
theorem bX12_valueAt_31 {h0 h : k_H} {Q : k_H → k_R → Prop} {s0 : Int32} (q : Q h (.inl (some (vI s0)))) : k_X (jX12_valueAt G l h0) h 31 [] [vI s0] Q := by
  exact ⟨_, _, j_iret dX12_valueAt_31 rfl, q⟩
theorem eX12_hasNow {G : k_G} {l : Launch} (hfl : l.flags = flags0) {h : k_H} {Q : k_H → k_R → Prop} {x0 : Nat} {x1 : Int64} (K : k_X (jX12_hasNow G l h) h 0 [(0, vR (some x0)), (1, vJ x1)] [] Q) : k_ct (tX12_hasNow G l) [vR (some x0), vJ x1] h Q := by
  obtain ⟨h', r, K, q⟩ := K
  exact ⟨h', r, k_CtOf (by decide +kernel) (Nat.le_of_ble_eq_true rfl) K hfl, q⟩

theorem bX12_hasNow_0 {h0 h : k_H} {Q : k_H → k_R → Prop} {x0 : Nat} {x1 : Int64} (w : k_is h x0 15) {P : k_H → Int32 → Prop} (c : k_cti (tX12_placeOf G l) [vR (some x0), vJ x1] h P) (K : ∀ h1 v, P h1 v → k_X (jX12_hasNow G l h0) h1 5 [(0, vR (some x0)), (1, vJ x1)] [vI v] Q) : k_X (jX12_hasNow G l h0) h 0 [(0, vR (some x0)), (1, vJ x1)] [] Q := by
  obtain ⟨h1, v, c, p⟩ := c
  obtain ⟨h', r, K, q⟩ := K h1 v p
  exact ⟨h', r, j_aload_n dX12_hasNow_0 rfl rfl <| j_lload_n dX12_hasNow_1 rfl rfl <| j_callV (v := some (vI v)) (as := [vJ x1]) dX12_hasNow_2 kc_X12_164 rfl rfl w (by decide) (Nat.le_of_ble_eq_true rfl) c K, q⟩
theorem bX12_hasNow_5 {h0 h : k_H} {Q : k_H → k_R → Prop} {x0 : Nat} {x1 : Int64} {s0 : Int32} (w : k_is h x0 15) {P : k_H → Int32 → Prop} (c : k_cti (tX12_isNamed G l) [vR (some x0), vI s0, vJ x1] h P) (K : ∀ h1 v, P h1 v → k_X (jX12_hasNow G l h0) h1 12 [(0, vR (some x0)), (3, vI s0)] [vI v] Q) : k_X (jX12_hasNow G l h0) h 5 [(0, vR (some x0)), (1, vJ x1)] [vI s0] Q := by
  obtain ⟨h1, v, c, p⟩ := c
  obtain ⟨h', r, K, q⟩ := K h1 v p
  exact ⟨h', r, j_istore_n dX12_hasNow_5 rfl (by decide) rfl <| j_aload_n dX12_hasNow_6 rfl rfl <| j_iload_n dX12_hasNow_7 rfl rfl <| j_lload_n dX12_hasNow_8 rfl rfl <| j_callV (v := some (vI v)) (as := [vI s0, vJ x1]) dX12_hasNow_9 kc_X12_168 rfl rfl w (by decide) (Nat.le_of_ble_eq_true rfl) c (j_pick [0, 2] rfl K), q⟩
theorem bX12_hasNow_12 {h0 h : k_H} {Q : k_H → k_R → Prop} {x0 : Nat} {x3 s0 : Int32} (K1 : s0 = 0 → k_X (jX12_hasNow G l h0) h 31 [] [] Q) (K2 : ¬ (s0 = 0) → k_X (jX12_hasNow G l h0) h 15 [(0, vR (some x0)), (3, vI x3)] [] Q) : k_X (jX12_hasNow G l h0) h 12 [(0, vR (some x0)), (3, vI x3)] [vI s0] Q := by
  by_cases hc : s0 = 0
  · skip
    obtain ⟨h', r, K, q⟩ := K1 hc
    exact ⟨h', r, j_if_eq_t (tgt := 31) dX12_hasNow_12 (by decide) hc (j_pick [] rfl K), q⟩
  · skip
    obtain ⟨h', r, K, q⟩ := K2 hc
    exact ⟨h', r, j_if_eq_f dX12_hasNow_12 31 (by decide) hc K, q⟩
theorem bX12_hasNow_15 {h0 h : k_H} {Q : k_H → k_R → Prop} {x0 : Nat} {x3 f1_0 : Int32} {fs1 : List k_V} (o1 : h.1 x0 = some (k_o 15 fs1)) (g1_0 : fs1[0]? = some (vI f1_0)) {P : k_H → Int32 → Prop} (c : k_cti (tX12_hasAt G l) [vR (some x0), vI x3, vI f1_0] h P) (K : ∀ h1 v, P h1 v → k_X (jX12_hasNow G l h0) h1 24 [] [vI v] Q) : k_X (jX12_hasNow G l h0) h 15 [(0, vR (some x0)), (3, vI x3)] [] Q := by
  obtain ⟨h1, v, c, p⟩ := c
  obtain ⟨h', r, K, q⟩ := K h1 v p
  exact ⟨h', r, j_aload_n dX12_hasNow_15 rfl rfl <| j_iload_n dX12_hasNow_16 rfl rfl <| j_aload_n dX12_hasNow_17 rfl rfl <| j_getf dX12_hasNow_18 kf_X12_176 o1 g1_0 <| j_callV (v := some (vI v)) (as := [vI x3, vI f1_0]) dX12_hasNow_21 kc_X12_179 rfl rfl (k_is_o o1) (by decide) (Nat.le_of_ble_eq_true rfl) c (j_pick [] rfl K), q⟩
theorem bX12_hasNow_24 {h0 h : k_H} {Q : k_H → k_R → Prop} {s0 : Int32} (K1 : s0 = 0 → k_X (jX12_hasNow G l h0) h 31 [] [] Q) (K2 : ¬ (s0 = 0) → k_X (jX12_hasNow G l h0) h 27 [] [] Q) : k_X (jX12_hasNow G l h0) h 24 [] [vI s0] Q := by
  by_cases hc : s0 = 0
  · skip
    obtain ⟨h', r, K, q⟩ := K1 hc
    exact ⟨h', r, j_if_eq_t (tgt := 31) dX12_hasNow_24 (by decide) hc K, q⟩
  · skip
    obtain ⟨h', r, K, q⟩ := K2 hc
    exact ⟨h', r, j_if_eq_f dX12_hasNow_24 31 (by decide) hc K, q⟩
theorem bX12_hasNow_27 {h0 h : k_H} {Q : k_H → k_R → Prop} (K : k_X (jX12_hasNow G l h0) h 32 [] [vI 1] Q) : k_X (jX12_hasNow G l h0) h 27 [] [] Q := by
  obtain ⟨h', r, K, q⟩ := K
  exact ⟨h', r, j_iconst (v := 1) dX12_hasNow_27 (by decide) <| j_goto (tgt := 32) dX12_hasNow_28 (by decide) <| K, q⟩
theorem bX12_hasNow_31 {h0 h : k_H} {Q : k_H → k_R → Prop} (K : k_X (jX12_hasNow G l h0) h 32 [] [vI 0] Q) : k_X (jX12_hasNow G l h0) h 31 [] [] Q := by
  obtain ⟨h', r, K, q⟩ := K
  exact ⟨h', r, j_iconst (v := 0) dX12_hasNow_31 (by decide) <| K, q⟩
theorem bX12_hasNow_32 {h0 h : k_H} {Q : k_H → k_R → Prop} {s0 : Int32} (y1 : k_bl s0) (q : Q h (.inl (some (vI s0)))) : k_X (jX12_hasNow G l h0) h 32 [] [vI s0] Q := by
  exact ⟨_, _, j_zret dX12_hasNow_32 rfl y1, q⟩
theorem eX12_valueNow {G : k_G} {l : Launch} (hfl : l.flags = flags0) {h : k_H} {Q : k_H → k_R → Prop} {x0 : Nat} {x1 : Int64} (K : k_X (jX12_valueNow G l h) h 0 [(0, vR (some x0)), (1, vJ x1)] [] Q) : k_ct (tX12_valueNow G l) [vR (some x0), vJ x1] h Q := by
  obtain ⟨h', r, K, q⟩ := K
  exact ⟨h', r, k_CtOf (by decide +kernel) (Nat.le_of_ble_eq_true rfl) K hfl, q⟩

theorem bX12_valueNow_0 {h0 h : k_H} {Q : k_H → k_R → Prop} {x0 : Nat} {x1 : Int64} (w : k_is h x0 15) {P : k_H → Int32 → Prop} (c : k_cti (tX12_placeOf G l) [vR (some x0), vJ x1] h P) (K : ∀ h1 v, P h1 v → k_X (jX12_valueNow G l h0) h1 5 [(0, vR (some x0)), (1, vJ x1)] [vI v] Q) : k_X (jX12_valueNow G l h0) h 0 [(0, vR (some x0)), (1, vJ x1)] [] Q := by
  obtain ⟨h1, v, c, p⟩ := c
  obtain ⟨h', r, K, q⟩ := K h1 v p
  exact ⟨h', r, j_aload_n dX12_valueNow_0 rfl rfl <| j_lload_n dX12_valueNow_1 rfl rfl <| j_callV (v := some (vI v)) (as := [vJ x1]) dX12_valueNow_2 kc_X12_164 rfl rfl w (by decide) (Nat.le_of_ble_eq_true rfl) c K, q⟩
theorem bX12_valueNow_5 {h0 h : k_H} {Q : k_H → k_R → Prop} {x0 : Nat} {x1 : Int64} {s0 : Int32} (w : k_is h x0 15) {P : k_H → Int32 → Prop} (c : k_cti (tX12_isNamed G l) [vR (some x0), vI s0, vJ x1] h P) (K : ∀ h1 v, P h1 v → k_X (jX12_valueNow G l h0) h1 12 [(0, vR (some x0)), (3, vI s0)] [vI v] Q) : k_X (jX12_valueNow G l h0) h 5 [(0, vR (some x0)), (1, vJ x1)] [vI s0] Q := by
  obtain ⟨h1, v, c, p⟩ := c
  obtain ⟨h', r, K, q⟩ := K h1 v p
  exact ⟨h', r, j_istore_n dX12_valueNow_5 rfl (by decide) rfl <| j_aload_n dX12_valueNow_6 rfl rfl <| j_iload_n dX12_valueNow_7 rfl rfl <| j_lload_n dX12_valueNow_8 rfl rfl <| j_callV (v := some (vI v)) (as := [vI s0, vJ x1]) dX12_valueNow_9 kc_X12_168 rfl rfl w (by decide) (Nat.le_of_ble_eq_true rfl) c (j_pick [0, 2] rfl K), q⟩
theorem bX12_valueNow_12 {h0 h : k_H} {Q : k_H → k_R → Prop} {x0 : Nat} {x3 s0 : Int32} (K1 : s0 = 0 → k_X (jX12_valueNow G l h0) h 27 [] [] Q) (K2 : ¬ (s0 = 0) → k_X (jX12_valueNow G l h0) h 15 [(0, vR (some x0)), (3, vI x3)] [] Q) : k_X (jX12_valueNow G l h0) h 12 [(0, vR (some x0)), (3, vI x3)] [vI s0] Q := by
  by_cases hc : s0 = 0
  · skip
    obtain ⟨h', r, K, q⟩ := K1 hc
    exact ⟨h', r, j_if_eq_t (tgt := 27) dX12_valueNow_12 (by decide) hc (j_pick [] rfl K), q⟩
  · skip
    obtain ⟨h', r, K, q⟩ := K2 hc
    exact ⟨h', r, j_if_eq_f dX12_valueNow_12 27 (by decide) hc K, q⟩
theorem bX12_valueNow_15 {h0 h : k_H} {Q : k_H → k_R → Prop} {x0 : Nat} {x3 f1_0 : Int32} {fs1 : List k_V} (o1 : h.1 x0 = some (k_o 15 fs1)) (g1_0 : fs1[0]? = some (vI f1_0)) {P : k_H → Int32 → Prop} (c : k_cti (tX12_valueAt G l) [vR (some x0), vI x3, vI f1_0] h P) (K : ∀ h1 v, P h1 v → k_X (jX12_valueNow G l h0) h1 24 [] [vI v] Q) : k_X (jX12_valueNow G l h0) h 15 [(0, vR (some x0)), (3, vI x3)] [] Q := by
  obtain ⟨h1, v, c, p⟩ := c
  obtain ⟨h', r, K, q⟩ := K h1 v p
  exact ⟨h', r, j_aload_n dX12_valueNow_15 rfl rfl <| j_iload_n dX12_valueNow_16 rfl rfl <| j_aload_n dX12_valueNow_17 rfl rfl <| j_getf dX12_valueNow_18 kf_X12_176 o1 g1_0 <| j_callV (v := some (vI v)) (as := [vI x3, vI f1_0]) dX12_valueNow_21 kc_X12_183 rfl rfl (k_is_o o1) (by decide) (Nat.le_of_ble_eq_true rfl) c (j_pick [] rfl K), q⟩
theorem bX12_valueNow_24 {h0 h : k_H} {Q : k_H → k_R → Prop} {s0 : Int32} (K : k_X (jX12_valueNow G l h0) h 29 [] [vI s0] Q) : k_X (jX12_valueNow G l h0) h 24 [] [vI s0] Q := by
  obtain ⟨h', r, K, q⟩ := K
  exact ⟨h', r, j_goto (tgt := 29) dX12_valueNow_24 (by decide) <| K, q⟩
theorem bX12_valueNow_27 {h0 h : k_H} {Q : k_H → k_R → Prop} (K : k_X (jX12_valueNow G l h0) h 29 [] [vI (-2147483648)] Q) : k_X (jX12_valueNow G l h0) h 27 [] [] Q := by
  obtain ⟨h', r, K, q⟩ := K
  exact ⟨h', r, j_ldc (v := (-2147483648)) dX12_valueNow_27 ki_X12_87 <| K, q⟩
theorem bX12_valueNow_29 {h0 h : k_H} {Q : k_H → k_R → Prop} {s0 : Int32} (q : Q h (.inl (some (vI s0)))) : k_X (jX12_valueNow G l h0) h 29 [] [vI s0] Q := by
  exact ⟨_, _, j_iret dX12_valueNow_29 rfl, q⟩
theorem eX12_puts {G : k_G} {l : Launch} (hfl : l.flags = flags0) {h : k_H} {Q : k_H → k_R → Prop} {x0 : Nat} {x1 : Int64} {x3 : Int32} {x4 : Int32} (K : k_X (jX12_puts G l h) h 0 [(0, vR (some x0)), (1, vJ x1), (3, vI x3), (4, vI x4)] [] Q) : k_ct (tX12_puts G l) [vR (some x0), vJ x1, vI x3, vI x4] h Q := by
  obtain ⟨h', r, K, q⟩ := K
  exact ⟨h', r, k_CtOf (by decide +kernel) (Nat.le_of_ble_eq_true rfl) K hfl, q⟩

theorem bX12_puts_0 {h0 h : k_H} {Q : k_H → k_R → Prop} {x0 : Nat} {x1 : Int64} {x3 x4 : Int32} (w : k_is h x0 15) {P : k_H → Int32 → Prop} (c : k_cti (tX12_name G l) [vR (some x0), vJ x1] h P) (K : ∀ h1 v, P h1 v → k_X (jX12_puts G l h0) h1 5 [(0, vR (some x0)), (3, vI x3), (4, vI x4)] [vI v] Q) : k_X (jX12_puts G l h0) h 0 [(0, vR (some x0)), (1, vJ x1), (3, vI x3), (4, vI x4)] [] Q := by
  obtain ⟨h1, v, c, p⟩ := c
  obtain ⟨h', r, K, q⟩ := K h1 v p
  exact ⟨h', r, j_aload_n dX12_puts_0 rfl rfl <| j_lload_n dX12_puts_1 rfl rfl <| j_callV (v := some (vI v)) (as := [vJ x1]) dX12_puts_2 kc_X12_186 rfl rfl w (by decide) (Nat.le_of_ble_eq_true rfl) c (j_pick [0, 2, 3] rfl K), q⟩
theorem bX12_puts_5 {h0 h : k_H} {Q : k_H → k_R → Prop} {x0 f1_6 : Nat} {x3 x4 s0 f1_5 f1_0 : Int32} {fs1 : List k_V} (o1 : h.1 x0 = some (k_o 15 fs1)) (g1_6 : fs1[6]? = some (vR (some f1_6))) (g1_5 : fs1[5]? = some (vI f1_5)) (g1_0 : fs1[0]? = some (vI f1_0)) {n2 : Nat} {w2 : Nat → Int32} (o2 : h.1 f1_6 = some (k_i n2 w2)) (y3 : vp_in f1_5 n2) (K : k_X (jX12_puts G l h0) (k_up h f1_6 (k_i n2 (va_up w2 (f1_5).toNatClampNeg f1_0))) 20 [(0, vR (some x0)), (3, vI x3), (4, vI x4), (5, vI s0)] [] Q) : k_X (jX12_puts G l h0) h 5 [(0, vR (some x0)), (3, vI x3), (4, vI x4)] [vI s0] Q := by
  obtain ⟨h', r, K, q⟩ := K
  exact ⟨h', r, j_istore dX12_puts_5 (by decide) rfl <| j_aload_n dX12_puts_7 rfl rfl <| j_getf dX12_puts_8 kf_X12_20 o1 g1_6 <| j_aload_n dX12_puts_11 rfl rfl <| j_getf dX12_puts_12 kf_X12_189 o1 g1_5 <| j_aload_n dX12_puts_15 rfl rfl <| j_getf dX12_puts_16 kf_X12_176 o1 g1_0 <| j_iast dX12_puts_19 o2 y3 <| K, q⟩
theorem bX12_puts_20 {h0 h : k_H} {Q : k_H → k_R → Prop} {x0 f1_8 : Nat} {x3 x4 x5 f1_5 : Int32} {fs1 : List k_V} (o1 : h.1 x0 = some (k_o 15 fs1)) (g1_8 : fs1[8]? = some (vR (some f1_8))) (g1_5 : fs1[5]? = some (vI f1_5)) {n2 : Nat} {w2 : Nat → Int32} (o2 : h.1 f1_8 = some (k_z n2 w2)) (y3 : vp_in f1_5 n2) (y4 : k_bl x3) (K : k_X (jX12_puts G l h0) (k_up h f1_8 (k_z n2 (va_up w2 (f1_5).toNatClampNeg x3))) 30 [(0, vR (some x0)), (4, vI x4), (5, vI x5)] [] Q) : k_X (jX12_puts G l h0) h 20 [(0, vR (some x0)), (3, vI x3), (4, vI x4), (5, vI x5)] [] Q := by
  obtain ⟨h', r, K, q⟩ := K
  exact ⟨h', r, j_aload_n dX12_puts_20 rfl rfl <| j_getf dX12_puts_21 kf_X12_26 o1 g1_8 <| j_aload_n dX12_puts_24 rfl rfl <| j_getf dX12_puts_25 kf_X12_189 o1 g1_5 <| j_iload_n dX12_puts_28 rfl rfl <| j_zast dX12_puts_29 o2 y3 y4 <| (j_pick [0, 2, 3] rfl K), q⟩
theorem bX12_puts_30 {h0 h : k_H} {Q : k_H → k_R → Prop} {x0 f1_7 : Nat} {x4 x5 f1_5 : Int32} {fs1 : List k_V} (o1 : h.1 x0 = some (k_o 15 fs1)) (g1_7 : fs1[7]? = some (vR (some f1_7))) (g1_5 : fs1[5]? = some (vI f1_5)) {n2 : Nat} {w2 : Nat → Int32} (o2 : h.1 f1_7 = some (k_i n2 w2)) (y3 : vp_in f1_5 n2) (K : k_X (jX12_puts G l h0) (k_up h f1_7 (k_i n2 (va_up w2 (f1_5).toNatClampNeg x4))) 41 [(0, vR (some x0)), (5, vI x5)] [] Q) : k_X (jX12_puts G l h0) h 30 [(0, vR (some x0)), (4, vI x4), (5, vI x5)] [] Q := by
  obtain ⟨h', r, K, q⟩ := K
  exact ⟨h', r, j_aload_n dX12_puts_30 rfl rfl <| j_getf dX12_puts_31 kf_X12_23 o1 g1_7 <| j_aload_n dX12_puts_34 rfl rfl <| j_getf dX12_puts_35 kf_X12_189 o1 g1_5 <| j_iload dX12_puts_38 rfl <| j_iast dX12_puts_40 o2 y3 <| (j_pick [0, 2] rfl K), q⟩
theorem bX12_puts_41 {h0 h : k_H} {Q : k_H → k_R → Prop} {x0 f1_9 f1_4 : Nat} {x5 f1_5 : Int32} {fs1 : List k_V} (o1 : h.1 x0 = some (k_o 15 fs1)) (g1_9 : fs1[9]? = some (vR (some f1_9))) (g1_5 : fs1[5]? = some (vI f1_5)) (g1_4 : fs1[4]? = some (vR (some f1_4))) {n2 : Nat} {w2 : Nat → Int32} (o2 : h.1 f1_4 = some (k_i n2 w2)) (y3 : vp_in x5 n2) {n4 : Nat} {w4 : Nat → Int32} (o4 : h.1 f1_9 = some (k_i n4 w4)) (y5 : vp_in f1_5 n4) (K : k_X (jX12_puts G l h0) (k_up h f1_9 (k_i n4 (va_up w4 (f1_5).toNatClampNeg (w2 (x5).toNatClampNeg)))) 57 [(0, vR (some x0)), (5, vI x5)] [] Q) : k_X (jX12_puts G l h0) h 41 [(0, vR (some x0)), (5, vI x5)] [] Q := by
  obtain ⟨h', r, K, q⟩ := K
  exact ⟨h', r, j_aload_n dX12_puts_41 rfl rfl <| j_getf dX12_puts_42 kf_X12_30 o1 g1_9 <| j_aload_n dX12_puts_45 rfl rfl <| j_getf dX12_puts_46 kf_X12_189 o1 g1_5 <| j_aload_n dX12_puts_49 rfl rfl <| j_getf dX12_puts_50 kf_X12_15 o1 g1_4 <| j_iload dX12_puts_53 rfl <| j_iald dX12_puts_55 o2 y3 <| j_iast dX12_puts_56 o4 y5 <| K, q⟩
theorem bX12_puts_57 {h0 h : k_H} {Q : k_H → k_R → Prop} {x0 f1_4 : Nat} {x5 f1_5 : Int32} {fs1 : List k_V} (o1 : h.1 x0 = some (k_o 15 fs1)) (g1_4 : fs1[4]? = some (vR (some f1_4))) (g1_5 : fs1[5]? = some (vI f1_5)) {n2 : Nat} {w2 : Nat → Int32} (o2 : h.1 f1_4 = some (k_i n2 w2)) (y3 : vp_in x5 n2) (K : k_X (jX12_puts G l h0) (k_up h f1_4 (k_i n2 (va_up w2 (x5).toNatClampNeg f1_5))) 68 [(0, vR (some x0))] [] Q) : k_X (jX12_puts G l h0) h 57 [(0, vR (some x0)), (5, vI x5)] [] Q := by
  obtain ⟨h', r, K, q⟩ := K
  exact ⟨h', r, j_aload_n dX12_puts_57 rfl rfl <| j_getf dX12_puts_58 kf_X12_15 o1 g1_4 <| j_iload dX12_puts_61 rfl <| j_aload_n dX12_puts_63 rfl rfl <| j_getf dX12_puts_64 kf_X12_189 o1 g1_5 <| j_iast dX12_puts_67 o2 y3 <| (j_pick [0] rfl K), q⟩
theorem bX12_puts_68 {h0 h : k_H} {Q : k_H → k_R → Prop} {x0 : Nat} {f1_5 : Int32} {fs1 : List k_V} (o1 : h.1 x0 = some (k_o 15 fs1)) (g1_5 : fs1[5]? = some (vI f1_5)) (z1 : fs1.length = 53) (K : k_X (jX12_puts G l h0) (k_up h x0 (k_o 15 (fs1.set 5 (vI (f1_5 + 1))))) 78 [] [] Q) : k_X (jX12_puts G l h0) h 68 [(0, vR (some x0))] [] Q := by
  obtain ⟨h', r, K, q⟩ := K
  exact ⟨h', r, j_aload_n dX12_puts_68 rfl rfl <| j_dup dX12_puts_69 rfl <| j_getf dX12_puts_70 kf_X12_189 o1 g1_5 <| j_iconst (v := 1) dX12_puts_73 (by decide) <| j_iadd dX12_puts_74 <| j_putf dX12_puts_75 kp_X12_189 o1 (k_ln z1 (by decide)) (k_fit_i _) rfl <| (j_pick [] rfl K), q⟩
theorem bX12_puts_78 {h0 h : k_H} {Q : k_H → k_R → Prop} (q : Q h (.inl none)) : k_X (jX12_puts G l h0) h 78 [] [] Q := by
  exact ⟨_, _, j_vret dX12_puts_78 rfl, q⟩
theorem eX12_clears {G : k_G} {l : Launch} (hfl : l.flags = flags0) {h : k_H} {Q : k_H → k_R → Prop} {x0 : Nat} {x1 : Int64} {x3 : Int64} (K : k_X (jX12_clears G l h) h 0 [(0, vR (some x0)), (1, vJ x1), (3, vJ x3)] [] Q) : k_ct (tX12_clears G l) [vR (some x0), vJ x1, vJ x3] h Q := by
  obtain ⟨h', r, K, q⟩ := K
  exact ⟨h', r, k_CtOf (by decide +kernel) (Nat.le_of_ble_eq_true rfl) K hfl, q⟩

theorem bX12_clears_0 {h0 h : k_H} {Q : k_H → k_R → Prop} {x0 : Nat} {x1 x3 : Int64} (w : k_is h x0 15) {P : k_H → Int32 → Prop} (c : k_cti (tX12_placeOf G l) [vR (some x0), vJ x1] h P) (K : ∀ h1 v, P h1 v → k_X (jX12_clears G l h0) h1 5 [(0, vR (some x0)), (1, vJ x1), (3, vJ x3)] [vI v] Q) : k_X (jX12_clears G l h0) h 0 [(0, vR (some x0)), (1, vJ x1), (3, vJ x3)] [] Q := by
  obtain ⟨h1, v, c, p⟩ := c
  obtain ⟨h', r, K, q⟩ := K h1 v p
  exact ⟨h', r, j_aload_n dX12_clears_0 rfl rfl <| j_lload_n dX12_clears_1 rfl rfl <| j_callV (v := some (vI v)) (as := [vJ x1]) dX12_clears_2 kc_X12_164 rfl rfl w (by decide) (Nat.le_of_ble_eq_true rfl) c K, q⟩
theorem bX12_clears_5 {h0 h : k_H} {Q : k_H → k_R → Prop} {x0 : Nat} {x1 x3 : Int64} {s0 : Int32} (K : k_X (jX12_clears G l h0) h 7 [(0, vR (some x0)), (1, vJ x1), (3, vJ x3), (5, vI s0)] [] Q) : k_X (jX12_clears G l h0) h 5 [(0, vR (some x0)), (1, vJ x1), (3, vJ x3)] [vI s0] Q := by
  obtain ⟨h', r, K, q⟩ := K
  exact ⟨h', r, j_istore dX12_clears_5 (by decide) rfl <| K, q⟩
theorem bX12_clears_7 {h0 h : k_H} {Q : k_H → k_R → Prop} {x0 : Nat} {x1 x3 : Int64} {x5 f1_2 : Int32} {fs1 : List k_V} (o1 : h.1 x0 = some (k_o 15 fs1)) (g1_2 : fs1[2]? = some (vI f1_2)) (K1 : f1_2 ≤ x5 → k_X (jX12_clears G l h0) h 60 [(0, vR (some x0)), (1, vJ x1), (3, vJ x3)] [] Q) (K2 : ¬ (f1_2 ≤ x5) → k_X (jX12_clears G l h0) h 16 [(0, vR (some x0)), (1, vJ x1), (3, vJ x3), (5, vI x5)] [] Q) : k_X (jX12_clears G l h0) h 7 [(0, vR (some x0)), (1, vJ x1), (3, vJ x3), (5, vI x5)] [] Q := by
  by_cases hc : f1_2 ≤ x5
  · skip
    obtain ⟨h', r, K, q⟩ := K1 hc
    exact ⟨h', r, j_iload dX12_clears_7 rfl <| j_aload_n dX12_clears_9 rfl rfl <| j_getf dX12_clears_10 kf_X12_161 o1 g1_2 <| j_icmp_ge_t (tgt := 60) dX12_clears_13 (by decide) hc (j_pick [0, 1, 2] rfl K), q⟩
  · skip
    obtain ⟨h', r, K, q⟩ := K2 hc
    exact ⟨h', r, j_iload dX12_clears_7 rfl <| j_aload_n dX12_clears_9 rfl rfl <| j_getf dX12_clears_10 kf_X12_161 o1 g1_2 <| j_icmp_ge_f dX12_clears_13 60 (by decide) hc K, q⟩
theorem bX12_clears_16 {h0 h : k_H} {Q : k_H → k_R → Prop} {x0 f1_3 : Nat} {x1 x3 : Int64} {x5 : Int32} {fs1 : List k_V} (o1 : h.1 x0 = some (k_o 15 fs1)) (g1_3 : fs1[3]? = some (vR (some f1_3))) {n2 : Nat} {w2 : Nat → Int64} (o2 : h.1 f1_3 = some (k_j n2 w2)) (y3 : vp_in x5 n2) (K1 : x3 < (w2 (x5).toNatClampNeg) → k_X (jX12_clears G l h0) h 60 [(0, vR (some x0)), (1, vJ x1), (3, vJ x3)] [] Q) (K2 : ¬ (x3 < (w2 (x5).toNatClampNeg)) → k_X (jX12_clears G l h0) h 28 [(0, vR (some x0)), (1, vJ x1), (3, vJ x3), (5, vI x5)] [] Q) : k_X (jX12_clears G l h0) h 16 [(0, vR (some x0)), (1, vJ x1), (3, vJ x3), (5, vI x5)] [] Q := by
  by_cases hc : x3 < (w2 (x5).toNatClampNeg)
  · skip
    obtain ⟨h', r, K, q⟩ := K1 hc
    exact ⟨h', r, j_aload_n dX12_clears_16 rfl rfl <| j_getf dX12_clears_17 kf_X12_9 o1 g1_3 <| j_iload dX12_clears_20 rfl <| j_lald dX12_clears_22 o2 y3 <| j_lload_n dX12_clears_23 rfl rfl <| j_lcmp dX12_clears_24 <| j_if_gt_t (tgt := 60) dX12_clears_25 (by decide) ((lg_cmp_gt _ _).mpr hc) (j_pick [0, 1, 2] rfl K), q⟩
  · skip
    obtain ⟨h', r, K, q⟩ := K2 hc
    exact ⟨h', r, j_aload_n dX12_clears_16 rfl rfl <| j_getf dX12_clears_17 kf_X12_9 o1 g1_3 <| j_iload dX12_clears_20 rfl <| j_lald dX12_clears_22 o2 y3 <| j_lload_n dX12_clears_23 rfl rfl <| j_lcmp dX12_clears_24 <| j_if_gt_f dX12_clears_25 60 (by decide) ((not_congr (lg_cmp_gt _ _)).mpr hc) K, q⟩
theorem bX12_clears_28 {h0 h : k_H} {Q : k_H → k_R → Prop} {x0 : Nat} {x1 x3 : Int64} {x5 f1_0 : Int32} {fs1 : List k_V} (o1 : h.1 x0 = some (k_o 15 fs1)) (g1_0 : fs1[0]? = some (vI f1_0)) {P : k_H → Int32 → Prop} (c : k_cti (tX12_hasAt G l) [vR (some x0), vI x5, vI f1_0] h P) (K : ∀ h1 v, P h1 v → k_X (jX12_clears G l h0) h1 38 [(0, vR (some x0)), (1, vJ x1), (3, vJ x3), (5, vI x5)] [vI v] Q) : k_X (jX12_clears G l h0) h 28 [(0, vR (some x0)), (1, vJ x1), (3, vJ x3), (5, vI x5)] [] Q := by
  obtain ⟨h1, v, c, p⟩ := c
  obtain ⟨h', r, K, q⟩ := K h1 v p
  exact ⟨h', r, j_aload_n dX12_clears_28 rfl rfl <| j_iload dX12_clears_29 rfl <| j_aload_n dX12_clears_31 rfl rfl <| j_getf dX12_clears_32 kf_X12_176 o1 g1_0 <| j_callV (v := some (vI v)) (as := [vI x5, vI f1_0]) dX12_clears_35 kc_X12_179 rfl rfl (k_is_o o1) (by decide) (Nat.le_of_ble_eq_true rfl) c K, q⟩
theorem bX12_clears_38 {h0 h : k_H} {Q : k_H → k_R → Prop} {x0 : Nat} {x1 x3 : Int64} {x5 s0 : Int32} (K1 : s0 = 0 → k_X (jX12_clears G l h0) h 54 [(0, vR (some x0)), (1, vJ x1), (3, vJ x3), (5, vI x5)] [] Q) (K2 : ¬ (s0 = 0) → k_X (jX12_clears G l h0) h 41 [(0, vR (some x0)), (1, vJ x1), (3, vJ x3), (5, vI x5)] [] Q) : k_X (jX12_clears G l h0) h 38 [(0, vR (some x0)), (1, vJ x1), (3, vJ x3), (5, vI x5)] [vI s0] Q := by
  by_cases hc : s0 = 0
  · skip
    obtain ⟨h', r, K, q⟩ := K1 hc
    exact ⟨h', r, j_if_eq_t (tgt := 54) dX12_clears_38 (by decide) hc K, q⟩
  · skip
    obtain ⟨h', r, K, q⟩ := K2 hc
    exact ⟨h', r, j_if_eq_f dX12_clears_38 54 (by decide) hc K, q⟩
theorem bX12_clears_41 {h0 h : k_H} {Q : k_H → k_R → Prop} {x0 f1_3 : Nat} {x1 x3 : Int64} {x5 : Int32} {fs1 : List k_V} (o1 : h.1 x0 = some (k_o 15 fs1)) (g1_3 : fs1[3]? = some (vR (some f1_3))) {n2 : Nat} {w2 : Nat → Int64} (o2 : h.1 f1_3 = some (k_j n2 w2)) (y3 : vp_in x5 n2) {P : k_H → Prop} (c : k_ctv (tX12_puts G l) [vR (some x0), vJ (w2 (x5).toNatClampNeg), vI 0, vI 0] h P) (K : ∀ h1, P h1 → k_X (jX12_clears G l h0) h1 54 [(0, vR (some x0)), (1, vJ x1), (3, vJ x3), (5, vI x5)] [] Q) : k_X (jX12_clears G l h0) h 41 [(0, vR (some x0)), (1, vJ x1), (3, vJ x3), (5, vI x5)] [] Q := by
  obtain ⟨h1, c, p⟩ := c
  obtain ⟨h', r, K, q⟩ := K h1 p
  exact ⟨h', r, j_aload_n dX12_clears_41 rfl rfl <| j_aload_n dX12_clears_42 rfl rfl <| j_getf dX12_clears_43 kf_X12_9 o1 g1_3 <| j_iload dX12_clears_46 rfl <| j_lald dX12_clears_48 o2 y3 <| j_iconst (v := 0) dX12_clears_49 (by decide) <| j_iconst (v := 0) dX12_clears_50 (by decide) <| j_callV (v := none) (as := [vJ (w2 (x5).toNatClampNeg), vI 0, vI 0]) dX12_clears_51 kc_X12_192 rfl rfl (k_is_o o1) (by decide) (Nat.le_of_ble_eq_true rfl) c K, q⟩
theorem bX12_clears_54 {h0 h : k_H} {Q : k_H → k_R → Prop} {x0 : Nat} {x1 x3 : Int64} {x5 : Int32} (K : k_X (jX12_clears G l h0) h 7 [(0, vR (some x0)), (1, vJ x1), (3, vJ x3), (5, vI (x5 + 1))] [] Q) : k_X (jX12_clears G l h0) h 54 [(0, vR (some x0)), (1, vJ x1), (3, vJ x3), (5, vI x5)] [] Q := by
  obtain ⟨h', r, K, q⟩ := K
  exact ⟨h', r, j_iinc (v := x5 + 1) dX12_clears_54 rfl (by decide) rfl rfl <| j_goto (tgt := 7) dX12_clears_57 (by decide) <| K, q⟩
theorem bX12_clears_60 {h0 h : k_H} {Q : k_H → k_R → Prop} {x0 f1_11 : Nat} {x1 x3 : Int64} {f1_10 f1_0 : Int32} {fs1 : List k_V} (o1 : h.1 x0 = some (k_o 15 fs1)) (g1_11 : fs1[11]? = some (vR (some f1_11))) (g1_10 : fs1[10]? = some (vI f1_10)) (g1_0 : fs1[0]? = some (vI f1_0)) {n2 : Nat} {w2 : Nat → Int32} (o2 : h.1 f1_11 = some (k_i n2 w2)) (y3 : vp_in f1_10 n2) (K : k_X (jX12_clears G l h0) (k_up h f1_11 (k_i n2 (va_up w2 (f1_10).toNatClampNeg f1_0))) 73 [(0, vR (some x0)), (1, vJ x1), (3, vJ x3)] [] Q) : k_X (jX12_clears G l h0) h 60 [(0, vR (some x0)), (1, vJ x1), (3, vJ x3)] [] Q := by
  obtain ⟨h', r, K, q⟩ := K
  exact ⟨h', r, j_aload_n dX12_clears_60 rfl rfl <| j_getf dX12_clears_61 kf_X12_33 o1 g1_11 <| j_aload_n dX12_clears_64 rfl rfl <| j_getf dX12_clears_65 kf_X12_196 o1 g1_10 <| j_aload_n dX12_clears_68 rfl rfl <| j_getf dX12_clears_69 kf_X12_176 o1 g1_0 <| j_iast dX12_clears_72 o2 y3 <| K, q⟩
theorem bX12_clears_73 {h0 h : k_H} {Q : k_H → k_R → Prop} {x0 f1_12 : Nat} {x1 x3 : Int64} {f1_10 : Int32} {fs1 : List k_V} (o1 : h.1 x0 = some (k_o 15 fs1)) (g1_12 : fs1[12]? = some (vR (some f1_12))) (g1_10 : fs1[10]? = some (vI f1_10)) {n2 : Nat} {w2 : Nat → Int64} (o2 : h.1 f1_12 = some (k_j n2 w2)) (y3 : vp_in f1_10 n2) (K : k_X (jX12_clears G l h0) (k_up h f1_12 (k_j n2 (va_up w2 (f1_10).toNatClampNeg x1))) 83 [(0, vR (some x0)), (3, vJ x3)] [] Q) : k_X (jX12_clears G l h0) h 73 [(0, vR (some x0)), (1, vJ x1), (3, vJ x3)] [] Q := by
  obtain ⟨h', r, K, q⟩ := K
  exact ⟨h', r, j_aload_n dX12_clears_73 rfl rfl <| j_getf dX12_clears_74 kf_X12_36 o1 g1_12 <| j_aload_n dX12_clears_77 rfl rfl <| j_getf dX12_clears_78 kf_X12_196 o1 g1_10 <| j_lload_n dX12_clears_81 rfl rfl <| j_last dX12_clears_82 o2 y3 <| (j_pick [0, 2] rfl K), q⟩
theorem bX12_clears_83 {h0 h : k_H} {Q : k_H → k_R → Prop} {x0 f1_13 : Nat} {x3 : Int64} {f1_10 : Int32} {fs1 : List k_V} (o1 : h.1 x0 = some (k_o 15 fs1)) (g1_13 : fs1[13]? = some (vR (some f1_13))) (g1_10 : fs1[10]? = some (vI f1_10)) {n2 : Nat} {w2 : Nat → Int64} (o2 : h.1 f1_13 = some (k_j n2 w2)) (y3 : vp_in f1_10 n2) (K : k_X (jX12_clears G l h0) (k_up h f1_13 (k_j n2 (va_up w2 (f1_10).toNatClampNeg x3))) 93 [(0, vR (some x0))] [] Q) : k_X (jX12_clears G l h0) h 83 [(0, vR (some x0)), (3, vJ x3)] [] Q := by
  obtain ⟨h', r, K, q⟩ := K
  exact ⟨h', r, j_aload_n dX12_clears_83 rfl rfl <| j_getf dX12_clears_84 kf_X12_39 o1 g1_13 <| j_aload_n dX12_clears_87 rfl rfl <| j_getf dX12_clears_88 kf_X12_196 o1 g1_10 <| j_lload_n dX12_clears_91 rfl rfl <| j_last dX12_clears_92 o2 y3 <| (j_pick [0] rfl K), q⟩
theorem bX12_clears_93 {h0 h : k_H} {Q : k_H → k_R → Prop} {x0 : Nat} {f1_10 : Int32} {fs1 : List k_V} (o1 : h.1 x0 = some (k_o 15 fs1)) (g1_10 : fs1[10]? = some (vI f1_10)) (z1 : fs1.length = 53) (K : k_X (jX12_clears G l h0) (k_up h x0 (k_o 15 (fs1.set 10 (vI (f1_10 + 1))))) 103 [] [] Q) : k_X (jX12_clears G l h0) h 93 [(0, vR (some x0))] [] Q := by
  obtain ⟨h', r, K, q⟩ := K
  exact ⟨h', r, j_aload_n dX12_clears_93 rfl rfl <| j_dup dX12_clears_94 rfl <| j_getf dX12_clears_95 kf_X12_196 o1 g1_10 <| j_iconst (v := 1) dX12_clears_98 (by decide) <| j_iadd dX12_clears_99 <| j_putf dX12_clears_100 kp_X12_196 o1 (k_ln z1 (by decide)) (k_fit_i _) rfl <| (j_pick [] rfl K), q⟩
theorem bX12_clears_103 {h0 h : k_H} {Q : k_H → k_R → Prop} (q : Q h (.inl none)) : k_X (jX12_clears G l h0) h 103 [] [] Q := by
  exact ⟨_, _, j_vret dX12_clears_103 rfl, q⟩
theorem eX12_manyIn {G : k_G} {l : Launch} (hfl : l.flags = flags0) {h : k_H} {Q : k_H → k_R → Prop} {x0 : Nat} {x1 : Int64} {x3 : Int64} (K : k_X (jX12_manyIn G l h) h 0 [(0, vR (some x0)), (1, vJ x1), (3, vJ x3)] [] Q) : k_ct (tX12_manyIn G l) [vR (some x0), vJ x1, vJ x3] h Q := by
  obtain ⟨h', r, K, q⟩ := K
  exact ⟨h', r, k_CtOf (by decide +kernel) (Nat.le_of_ble_eq_true rfl) K hfl, q⟩

theorem bX12_manyIn_0 {h0 h : k_H} {Q : k_H → k_R → Prop} {x0 : Nat} {x1 x3 : Int64} (w : k_is h x0 15) {P : k_H → Int32 → Prop} (c : k_cti (tX12_placeOf G l) [vR (some x0), vJ x1] h P) (K : ∀ h1 v, P h1 v → k_X (jX12_manyIn G l h0) h1 8 [(0, vR (some x0)), (3, vJ x3), (5, vI 0)] [vI v] Q) : k_X (jX12_manyIn G l h0) h 0 [(0, vR (some x0)), (1, vJ x1), (3, vJ x3)] [] Q := by
  obtain ⟨h1, v, c, p⟩ := c
  obtain ⟨h', r, K, q⟩ := K h1 v p
  exact ⟨h', r, j_iconst (v := 0) dX12_manyIn_0 (by decide) <| j_istore dX12_manyIn_1 (by decide) rfl <| j_aload_n dX12_manyIn_3 rfl rfl <| j_lload_n dX12_manyIn_4 rfl rfl <| j_callV (v := some (vI v)) (as := [vJ x1]) dX12_manyIn_5 kc_X12_164 rfl rfl w (by decide) (Nat.le_of_ble_eq_true rfl) c (j_pick [0, 2, 3] rfl K), q⟩
theorem bX12_manyIn_8 {h0 h : k_H} {Q : k_H → k_R → Prop} {x0 : Nat} {x3 : Int64} {x5 s0 : Int32} (K : k_X (jX12_manyIn G l h0) h 10 [(0, vR (some x0)), (3, vJ x3), (5, vI x5), (6, vI s0)] [] Q) : k_X (jX12_manyIn G l h0) h 8 [(0, vR (some x0)), (3, vJ x3), (5, vI x5)] [vI s0] Q := by
  obtain ⟨h', r, K, q⟩ := K
  exact ⟨h', r, j_istore dX12_manyIn_8 (by decide) rfl <| K, q⟩
theorem bX12_manyIn_10 {h0 h : k_H} {Q : k_H → k_R → Prop} {x0 : Nat} {x3 : Int64} {x5 x6 f1_2 : Int32} {fs1 : List k_V} (o1 : h.1 x0 = some (k_o 15 fs1)) (g1_2 : fs1[2]? = some (vI f1_2)) (K1 : f1_2 ≤ x6 → k_X (jX12_manyIn G l h0) h 60 [(5, vI x5)] [] Q) (K2 : ¬ (f1_2 ≤ x6) → k_X (jX12_manyIn G l h0) h 19 [(0, vR (some x0)), (3, vJ x3), (5, vI x5), (6, vI x6)] [] Q) : k_X (jX12_manyIn G l h0) h 10 [(0, vR (some x0)), (3, vJ x3), (5, vI x5), (6, vI x6)] [] Q := by
  by_cases hc : f1_2 ≤ x6
  · skip
    obtain ⟨h', r, K, q⟩ := K1 hc
    exact ⟨h', r, j_iload dX12_manyIn_10 rfl <| j_aload_n dX12_manyIn_12 rfl rfl <| j_getf dX12_manyIn_13 kf_X12_161 o1 g1_2 <| j_icmp_ge_t (tgt := 60) dX12_manyIn_16 (by decide) hc (j_pick [2] rfl K), q⟩
  · skip
    obtain ⟨h', r, K, q⟩ := K2 hc
    exact ⟨h', r, j_iload dX12_manyIn_10 rfl <| j_aload_n dX12_manyIn_12 rfl rfl <| j_getf dX12_manyIn_13 kf_X12_161 o1 g1_2 <| j_icmp_ge_f dX12_manyIn_16 60 (by decide) hc K, q⟩
theorem bX12_manyIn_19 {h0 h : k_H} {Q : k_H → k_R → Prop} {x0 f1_3 : Nat} {x3 : Int64} {x5 x6 : Int32} {fs1 : List k_V} (o1 : h.1 x0 = some (k_o 15 fs1)) (g1_3 : fs1[3]? = some (vR (some f1_3))) {n2 : Nat} {w2 : Nat → Int64} (o2 : h.1 f1_3 = some (k_j n2 w2)) (y3 : vp_in x6 n2) (K1 : x3 < (w2 (x6).toNatClampNeg) → k_X (jX12_manyIn G l h0) h 60 [(5, vI x5)] [] Q) (K2 : ¬ (x3 < (w2 (x6).toNatClampNeg)) → k_X (jX12_manyIn G l h0) h 31 [(0, vR (some x0)), (3, vJ x3), (5, vI x5), (6, vI x6)] [] Q) : k_X (jX12_manyIn G l h0) h 19 [(0, vR (some x0)), (3, vJ x3), (5, vI x5), (6, vI x6)] [] Q := by
  by_cases hc : x3 < (w2 (x6).toNatClampNeg)
  · skip
    obtain ⟨h', r, K, q⟩ := K1 hc
    exact ⟨h', r, j_aload_n dX12_manyIn_19 rfl rfl <| j_getf dX12_manyIn_20 kf_X12_9 o1 g1_3 <| j_iload dX12_manyIn_23 rfl <| j_lald dX12_manyIn_25 o2 y3 <| j_lload_n dX12_manyIn_26 rfl rfl <| j_lcmp dX12_manyIn_27 <| j_if_gt_t (tgt := 60) dX12_manyIn_28 (by decide) ((lg_cmp_gt _ _).mpr hc) (j_pick [2] rfl K), q⟩
  · skip
    obtain ⟨h', r, K, q⟩ := K2 hc
    exact ⟨h', r, j_aload_n dX12_manyIn_19 rfl rfl <| j_getf dX12_manyIn_20 kf_X12_9 o1 g1_3 <| j_iload dX12_manyIn_23 rfl <| j_lald dX12_manyIn_25 o2 y3 <| j_lload_n dX12_manyIn_26 rfl rfl <| j_lcmp dX12_manyIn_27 <| j_if_gt_f dX12_manyIn_28 60 (by decide) ((not_congr (lg_cmp_gt _ _)).mpr hc) K, q⟩
theorem bX12_manyIn_31 {h0 h : k_H} {Q : k_H → k_R → Prop} {x0 : Nat} {x3 : Int64} {x5 x6 f1_0 : Int32} {fs1 : List k_V} (o1 : h.1 x0 = some (k_o 15 fs1)) (g1_0 : fs1[0]? = some (vI f1_0)) {P : k_H → Int32 → Prop} (c : k_cti (tX12_hasAt G l) [vR (some x0), vI x6, vI f1_0] h P) (K : ∀ h1 v, P h1 v → k_X (jX12_manyIn G l h0) h1 43 [(0, vR (some x0)), (3, vJ x3), (6, vI x6)] [vI v, vI x5] Q) : k_X (jX12_manyIn G l h0) h 31 [(0, vR (some x0)), (3, vJ x3), (5, vI x5), (6, vI x6)] [] Q := by
  obtain ⟨h1, v, c, p⟩ := c
  obtain ⟨h', r, K, q⟩ := K h1 v p
  exact ⟨h', r, j_iload dX12_manyIn_31 rfl <| j_aload_n dX12_manyIn_33 rfl rfl <| j_iload dX12_manyIn_34 rfl <| j_aload_n dX12_manyIn_36 rfl rfl <| j_getf dX12_manyIn_37 kf_X12_176 o1 g1_0 <| j_callV (v := some (vI v)) (as := [vI x6, vI f1_0]) dX12_manyIn_40 kc_X12_179 rfl rfl (k_is_o o1) (by decide) (Nat.le_of_ble_eq_true rfl) c (j_pick [0, 1, 3] rfl K), q⟩
theorem bX12_manyIn_43 {h0 h : k_H} {Q : k_H → k_R → Prop} {x0 : Nat} {x3 : Int64} {x6 s0 s1 : Int32} (K1 : s1 = 0 → k_X (jX12_manyIn G l h0) h 50 [(0, vR (some x0)), (3, vJ x3), (6, vI x6)] [vI s0] Q) (K2 : ¬ (s1 = 0) → k_X (jX12_manyIn G l h0) h 46 [(0, vR (some x0)), (3, vJ x3), (6, vI x6)] [vI s0] Q) : k_X (jX12_manyIn G l h0) h 43 [(0, vR (some x0)), (3, vJ x3), (6, vI x6)] [vI s1, vI s0] Q := by
  by_cases hc : s1 = 0
  · skip
    obtain ⟨h', r, K, q⟩ := K1 hc
    exact ⟨h', r, j_if_eq_t (tgt := 50) dX12_manyIn_43 (by decide) hc K, q⟩
  · skip
    obtain ⟨h', r, K, q⟩ := K2 hc
    exact ⟨h', r, j_if_eq_f dX12_manyIn_43 50 (by decide) hc K, q⟩
theorem bX12_manyIn_46 {h0 h : k_H} {Q : k_H → k_R → Prop} {x0 : Nat} {x3 : Int64} {x6 s0 : Int32} (K : k_X (jX12_manyIn G l h0) h 51 [(0, vR (some x0)), (3, vJ x3), (6, vI x6)] [vI 1, vI s0] Q) : k_X (jX12_manyIn G l h0) h 46 [(0, vR (some x0)), (3, vJ x3), (6, vI x6)] [vI s0] Q := by
  obtain ⟨h', r, K, q⟩ := K
  exact ⟨h', r, j_iconst (v := 1) dX12_manyIn_46 (by decide) <| j_goto (tgt := 51) dX12_manyIn_47 (by decide) <| K, q⟩
theorem bX12_manyIn_50 {h0 h : k_H} {Q : k_H → k_R → Prop} {x0 : Nat} {x3 : Int64} {x6 s0 : Int32} (K : k_X (jX12_manyIn G l h0) h 51 [(0, vR (some x0)), (3, vJ x3), (6, vI x6)] [vI 0, vI s0] Q) : k_X (jX12_manyIn G l h0) h 50 [(0, vR (some x0)), (3, vJ x3), (6, vI x6)] [vI s0] Q := by
  obtain ⟨h', r, K, q⟩ := K
  exact ⟨h', r, j_iconst (v := 0) dX12_manyIn_50 (by decide) <| K, q⟩
theorem bX12_manyIn_51 {h0 h : k_H} {Q : k_H → k_R → Prop} {x0 : Nat} {x3 : Int64} {x6 s0 s1 : Int32} (K : k_X (jX12_manyIn G l h0) h 10 [(0, vR (some x0)), (3, vJ x3), (5, vI (s0 + s1)), (6, vI (x6 + 1))] [] Q) : k_X (jX12_manyIn G l h0) h 51 [(0, vR (some x0)), (3, vJ x3), (6, vI x6)] [vI s1, vI s0] Q := by
  obtain ⟨h', r, K, q⟩ := K
  exact ⟨h', r, j_iadd dX12_manyIn_51 <| j_istore dX12_manyIn_52 (by decide) rfl <| j_iinc (v := x6 + 1) dX12_manyIn_54 rfl (by decide) rfl rfl <| j_goto (tgt := 10) dX12_manyIn_57 (by decide) <| K, q⟩
theorem bX12_manyIn_60 {h0 h : k_H} {Q : k_H → k_R → Prop} {x5 : Int32} (q : Q h (.inl (some (vI x5)))) : k_X (jX12_manyIn G l h0) h 60 [(5, vI x5)] [] Q := by
  exact ⟨_, _, j_iload dX12_manyIn_60 rfl <| j_iret dX12_manyIn_62 rfl, q⟩
theorem eX12_opens {G : k_G} {l : Launch} (hfl : l.flags = flags0) {h : k_H} {Q : k_H → k_R → Prop} {x0 : Nat} (K : k_X (jX12_opens G l h) h 0 [(0, vR (some x0))] [] Q) : k_ct (tX12_opens G l) [vR (some x0)] h Q := by
  obtain ⟨h', r, K, q⟩ := K
  exact ⟨h', r, k_CtOf (by decide +kernel) (Nat.le_of_ble_eq_true rfl) K hfl, q⟩

theorem bX12_opens_0 {h0 h : k_H} {Q : k_H → k_R → Prop} {x0 : Nat} (K : k_X (jX12_opens G l h0) h 2 [(0, vR (some x0)), (1, vI 0)] [] Q) : k_X (jX12_opens G l h0) h 0 [(0, vR (some x0))] [] Q := by
  obtain ⟨h', r, K, q⟩ := K
  exact ⟨h', r, j_iconst (v := 0) dX12_opens_0 (by decide) <| j_istore_n dX12_opens_1 rfl (by decide) rfl <| K, q⟩
theorem bX12_opens_2 {h0 h : k_H} {Q : k_H → k_R → Prop} {x0 : Nat} {x1 f1_42 : Int32} {fs1 : List k_V} (o1 : h.1 x0 = some (k_o 15 fs1)) (g1_42 : fs1[42]? = some (vI f1_42)) (K1 : f1_42 ≤ x1 → k_X (jX12_opens G l h0) h 48 [(0, vR (some x0))] [] Q) (K2 : ¬ (f1_42 ≤ x1) → k_X (jX12_opens G l h0) h 10 [(0, vR (some x0)), (1, vI x1)] [] Q) : k_X (jX12_opens G l h0) h 2 [(0, vR (some x0)), (1, vI x1)] [] Q := by
  by_cases hc : f1_42 ≤ x1
  · skip
    obtain ⟨h', r, K, q⟩ := K1 hc
    exact ⟨h', r, j_iload_n dX12_opens_2 rfl rfl <| j_aload_n dX12_opens_3 rfl rfl <| j_getf dX12_opens_4 kf_X12_199 o1 g1_42 <| j_icmp_ge_t (tgt := 48) dX12_opens_7 (by decide) hc (j_pick [0] rfl K), q⟩
  · skip
    obtain ⟨h', r, K, q⟩ := K2 hc
    exact ⟨h', r, j_iload_n dX12_opens_2 rfl rfl <| j_aload_n dX12_opens_3 rfl rfl <| j_getf dX12_opens_4 kf_X12_199 o1 g1_42 <| j_icmp_ge_f dX12_opens_7 48 (by decide) hc K, q⟩
theorem bX12_opens_10 {h0 h : k_H} {Q : k_H → k_R → Prop} {x0 f1_43 : Nat} {x1 : Int32} {f1_45 : Option Nat} {fs1 : List k_V} (o1 : h.1 x0 = some (k_o 15 fs1)) (g1_45 : fs1[45]? = some (vR f1_45)) (g1_43 : fs1[43]? = some (vR (some f1_43))) {n2 : Nat} {w2 : Nat → Int64} (o2 : h.1 f1_43 = some (k_j n2 w2)) (y3 : vp_in x1 n2) {P : k_H → Int32 → Prop} (c : k_cti (tX12_hasNow G l) [vR (some x0), vJ (w2 (x1).toNatClampNeg)] h P) (K : ∀ h1 v, P h1 v → k_X (jX12_opens G l h0) h1 25 [(0, vR (some x0)), (1, vI x1)] [vI v, vI x1, vR f1_45] Q) : k_X (jX12_opens G l h0) h 10 [(0, vR (some x0)), (1, vI x1)] [] Q := by
  obtain ⟨h1, v, c, p⟩ := c
  obtain ⟨h', r, K, q⟩ := K h1 v p
  exact ⟨h', r, j_aload_n dX12_opens_10 rfl rfl <| j_getf dX12_opens_11 kf_X12_116 o1 g1_45 <| j_iload_n dX12_opens_14 rfl rfl <| j_aload_n dX12_opens_15 rfl rfl <| j_aload_n dX12_opens_16 rfl rfl <| j_getf dX12_opens_17 kf_X12_110 o1 g1_43 <| j_iload_n dX12_opens_20 rfl rfl <| j_lald dX12_opens_21 o2 y3 <| j_callV (v := some (vI v)) (as := [vJ (w2 (x1).toNatClampNeg)]) dX12_opens_22 kc_X12_202 rfl rfl (k_is_o o1) (by decide) (Nat.le_of_ble_eq_true rfl) c K, q⟩
theorem bX12_opens_25 {h0 h : k_H} {Q : k_H → k_R → Prop} {x0 s0 : Nat} {x1 s1 s2 : Int32} {n1 : Nat} {w1 : Nat → Int32} (o1 : h.1 s0 = some (k_z n1 w1)) (y2 : vp_in s1 n1) (y3 : k_bl s2) (K : k_X (jX12_opens G l h0) (k_up h s0 (k_z n1 (va_up w1 (s1).toNatClampNeg s2))) 26 [(0, vR (some x0)), (1, vI x1)] [] Q) : k_X (jX12_opens G l h0) h 25 [(0, vR (some x0)), (1, vI x1)] [vI s2, vI s1, vR (some s0)] Q := by
  obtain ⟨h', r, K, q⟩ := K
  exact ⟨h', r, j_zast dX12_opens_25 o1 y2 y3 <| K, q⟩
theorem bX12_opens_26 {h0 h : k_H} {Q : k_H → k_R → Prop} {x0 f1_43 : Nat} {x1 : Int32} {f1_46 : Option Nat} {fs1 : List k_V} (o1 : h.1 x0 = some (k_o 15 fs1)) (g1_46 : fs1[46]? = some (vR f1_46)) (g1_43 : fs1[43]? = some (vR (some f1_43))) {n2 : Nat} {w2 : Nat → Int64} (o2 : h.1 f1_43 = some (k_j n2 w2)) (y3 : vp_in x1 n2) {P : k_H → Int32 → Prop} (c : k_cti (tX12_valueNow G l) [vR (some x0), vJ (w2 (x1).toNatClampNeg)] h P) (K : ∀ h1 v, P h1 v → k_X (jX12_opens G l h0) h1 41 [(0, vR (some x0)), (1, vI x1)] [vI v, vI x1, vR f1_46] Q) : k_X (jX12_opens G l h0) h 26 [(0, vR (some x0)), (1, vI x1)] [] Q := by
  obtain ⟨h1, v, c, p⟩ := c
  obtain ⟨h', r, K, q⟩ := K h1 v p
  exact ⟨h', r, j_aload_n dX12_opens_26 rfl rfl <| j_getf dX12_opens_27 kf_X12_119 o1 g1_46 <| j_iload_n dX12_opens_30 rfl rfl <| j_aload_n dX12_opens_31 rfl rfl <| j_aload_n dX12_opens_32 rfl rfl <| j_getf dX12_opens_33 kf_X12_110 o1 g1_43 <| j_iload_n dX12_opens_36 rfl rfl <| j_lald dX12_opens_37 o2 y3 <| j_callV (v := some (vI v)) (as := [vJ (w2 (x1).toNatClampNeg)]) dX12_opens_38 kc_X12_206 rfl rfl (k_is_o o1) (by decide) (Nat.le_of_ble_eq_true rfl) c K, q⟩
theorem bX12_opens_41 {h0 h : k_H} {Q : k_H → k_R → Prop} {x0 s0 : Nat} {x1 s1 s2 : Int32} {n1 : Nat} {w1 : Nat → Int32} (o1 : h.1 s0 = some (k_i n1 w1)) (y2 : vp_in s1 n1) (K : k_X (jX12_opens G l h0) (k_up h s0 (k_i n1 (va_up w1 (s1).toNatClampNeg s2))) 42 [(0, vR (some x0)), (1, vI x1)] [] Q) : k_X (jX12_opens G l h0) h 41 [(0, vR (some x0)), (1, vI x1)] [vI s2, vI s1, vR (some s0)] Q := by
  obtain ⟨h', r, K, q⟩ := K
  exact ⟨h', r, j_iast dX12_opens_41 o1 y2 <| K, q⟩
theorem bX12_opens_42 {h0 h : k_H} {Q : k_H → k_R → Prop} {x0 : Nat} {x1 : Int32} (K : k_X (jX12_opens G l h0) h 2 [(0, vR (some x0)), (1, vI (x1 + 1))] [] Q) : k_X (jX12_opens G l h0) h 42 [(0, vR (some x0)), (1, vI x1)] [] Q := by
  obtain ⟨h', r, K, q⟩ := K
  exact ⟨h', r, j_iinc (v := x1 + 1) dX12_opens_42 rfl (by decide) rfl rfl <| j_goto (tgt := 2) dX12_opens_45 (by decide) <| K, q⟩
theorem bX12_opens_48 {h0 h : k_H} {Q : k_H → k_R → Prop} {x0 : Nat} {f1_0 : Int32} {fs1 : List k_V} (o1 : h.1 x0 = some (k_o 15 fs1)) (g1_0 : fs1[0]? = some (vI f1_0)) (z1 : fs1.length = 53) (K : k_X (jX12_opens G l h0) (k_up h x0 (k_o 15 (fs1.set 0 (vI (f1_0 + 1))))) 58 [] [] Q) : k_X (jX12_opens G l h0) h 48 [(0, vR (some x0))] [] Q := by
  obtain ⟨h', r, K, q⟩ := K
  exact ⟨h', r, j_aload_n dX12_opens_48 rfl rfl <| j_dup dX12_opens_49 rfl <| j_getf dX12_opens_50 kf_X12_176 o1 g1_0 <| j_iconst (v := 1) dX12_opens_53 (by decide) <| j_iadd dX12_opens_54 <| j_putf dX12_opens_55 kp_X12_176 o1 (k_ln z1 (by decide)) (k_fit_i _) rfl <| (j_pick [] rfl K), q⟩
theorem bX12_opens_58 {h0 h : k_H} {Q : k_H → k_R → Prop} (q : Q h (.inl none)) : k_X (jX12_opens G l h0) h 58 [] [] Q := by
  exact ⟨_, _, j_vret dX12_opens_58 rfl, q⟩
theorem eX12_closes {G : k_G} {l : Launch} (hfl : l.flags = flags0) {h : k_H} {Q : k_H → k_R → Prop} {x0 : Nat} (K : k_X (jX12_closes G l h) h 0 [(0, vR (some x0))] [] Q) : k_ct (tX12_closes G l) [vR (some x0)] h Q := by
  obtain ⟨h', r, K, q⟩ := K
  exact ⟨h', r, k_CtOf (by decide +kernel) (Nat.le_of_ble_eq_true rfl) K hfl, q⟩

theorem bX12_closes_0 {h0 h : k_H} {Q : k_H → k_R → Prop} {x0 : Nat} (K : k_X (jX12_closes G l h0) h 2 [(0, vR (some x0)), (1, vI 0)] [] Q) : k_X (jX12_closes G l h0) h 0 [(0, vR (some x0))] [] Q := by
  obtain ⟨h', r, K, q⟩ := K
  exact ⟨h', r, j_iconst (v := 0) dX12_closes_0 (by decide) <| j_istore_n dX12_closes_1 rfl (by decide) rfl <| K, q⟩
theorem bX12_closes_2 {h0 h : k_H} {Q : k_H → k_R → Prop} {x0 : Nat} {x1 f1_42 : Int32} {fs1 : List k_V} (o1 : h.1 x0 = some (k_o 15 fs1)) (g1_42 : fs1[42]? = some (vI f1_42)) (K1 : f1_42 ≤ x1 → k_X (jX12_closes G l h0) h 94 [(0, vR (some x0))] [] Q) (K2 : ¬ (f1_42 ≤ x1) → k_X (jX12_closes G l h0) h 10 [(0, vR (some x0)), (1, vI x1)] [] Q) : k_X (jX12_closes G l h0) h 2 [(0, vR (some x0)), (1, vI x1)] [] Q := by
  by_cases hc : f1_42 ≤ x1
  · skip
    obtain ⟨h', r, K, q⟩ := K1 hc
    exact ⟨h', r, j_iload_n dX12_closes_2 rfl rfl <| j_aload_n dX12_closes_3 rfl rfl <| j_getf dX12_closes_4 kf_X12_199 o1 g1_42 <| j_icmp_ge_t (tgt := 94) dX12_closes_7 (by decide) hc (j_pick [0] rfl K), q⟩
  · skip
    obtain ⟨h', r, K, q⟩ := K2 hc
    exact ⟨h', r, j_iload_n dX12_closes_2 rfl rfl <| j_aload_n dX12_closes_3 rfl rfl <| j_getf dX12_closes_4 kf_X12_199 o1 g1_42 <| j_icmp_ge_f dX12_closes_7 94 (by decide) hc K, q⟩
theorem bX12_closes_10 {h0 h : k_H} {Q : k_H → k_R → Prop} {x0 f1_43 : Nat} {x1 : Int32} {fs1 : List k_V} (o1 : h.1 x0 = some (k_o 15 fs1)) (g1_43 : fs1[43]? = some (vR (some f1_43))) {n2 : Nat} {w2 : Nat → Int64} (o2 : h.1 f1_43 = some (k_j n2 w2)) (y3 : vp_in x1 n2) {P : k_H → Int32 → Prop} (c : k_cti (tX12_hasNow G l) [vR (some x0), vJ (w2 (x1).toNatClampNeg)] h P) (K : ∀ h1 v, P h1 v → k_X (jX12_closes G l h0) h1 20 [(0, vR (some x0)), (1, vI x1)] [vI v] Q) : k_X (jX12_closes G l h0) h 10 [(0, vR (some x0)), (1, vI x1)] [] Q := by
  obtain ⟨h1, v, c, p⟩ := c
  obtain ⟨h', r, K, q⟩ := K h1 v p
  exact ⟨h', r, j_aload_n dX12_closes_10 rfl rfl <| j_aload_n dX12_closes_11 rfl rfl <| j_getf dX12_closes_12 kf_X12_110 o1 g1_43 <| j_iload_n dX12_closes_15 rfl rfl <| j_lald dX12_closes_16 o2 y3 <| j_callV (v := some (vI v)) (as := [vJ (w2 (x1).toNatClampNeg)]) dX12_closes_17 kc_X12_202 rfl rfl (k_is_o o1) (by decide) (Nat.le_of_ble_eq_true rfl) c K, q⟩
theorem bX12_closes_20 {h0 h : k_H} {Q : k_H → k_R → Prop} {x0 f1_45 : Nat} {x1 s0 : Int32} {fs1 : List k_V} (o1 : h.1 x0 = some (k_o 15 fs1)) (g1_45 : fs1[45]? = some (vR (some f1_45))) {n2 : Nat} {w2 : Nat → Int32} (o2 : h.1 f1_45 = some (k_z n2 w2)) (y3 : vp_in x1 n2) (K1 : ¬ (s0 = (w2 (x1).toNatClampNeg)) → k_X (jX12_closes G l h0) h 48 [(0, vR (some x0)), (1, vI x1)] [] Q) (K2 : s0 = (w2 (x1).toNatClampNeg) → k_X (jX12_closes G l h0) h 29 [(0, vR (some x0)), (1, vI x1)] [] Q) : k_X (jX12_closes G l h0) h 20 [(0, vR (some x0)), (1, vI x1)] [vI s0] Q := by
  by_cases hc : s0 = (w2 (x1).toNatClampNeg)
  · skip
    obtain ⟨h', r, K, q⟩ := K2 hc
    exact ⟨h', r, j_aload_n dX12_closes_20 rfl rfl <| j_getf dX12_closes_21 kf_X12_116 o1 g1_45 <| j_iload_n dX12_closes_24 rfl rfl <| j_zald dX12_closes_25 o2 y3 <| j_icmp_ne_f dX12_closes_26 48 (by decide) hc K, q⟩
  · skip
    obtain ⟨h', r, K, q⟩ := K1 hc
    exact ⟨h', r, j_aload_n dX12_closes_20 rfl rfl <| j_getf dX12_closes_21 kf_X12_116 o1 g1_45 <| j_iload_n dX12_closes_24 rfl rfl <| j_zald dX12_closes_25 o2 y3 <| j_icmp_ne_t (tgt := 48) dX12_closes_26 (by decide) hc K, q⟩
theorem bX12_closes_29 {h0 h : k_H} {Q : k_H → k_R → Prop} {x0 f1_43 : Nat} {x1 : Int32} {fs1 : List k_V} (o1 : h.1 x0 = some (k_o 15 fs1)) (g1_43 : fs1[43]? = some (vR (some f1_43))) {n2 : Nat} {w2 : Nat → Int64} (o2 : h.1 f1_43 = some (k_j n2 w2)) (y3 : vp_in x1 n2) {P : k_H → Int32 → Prop} (c : k_cti (tX12_valueNow G l) [vR (some x0), vJ (w2 (x1).toNatClampNeg)] h P) (K : ∀ h1 v, P h1 v → k_X (jX12_closes G l h0) h1 39 [(0, vR (some x0)), (1, vI x1)] [vI v] Q) : k_X (jX12_closes G l h0) h 29 [(0, vR (some x0)), (1, vI x1)] [] Q := by
  obtain ⟨h1, v, c, p⟩ := c
  obtain ⟨h', r, K, q⟩ := K h1 v p
  exact ⟨h', r, j_aload_n dX12_closes_29 rfl rfl <| j_aload_n dX12_closes_30 rfl rfl <| j_getf dX12_closes_31 kf_X12_110 o1 g1_43 <| j_iload_n dX12_closes_34 rfl rfl <| j_lald dX12_closes_35 o2 y3 <| j_callV (v := some (vI v)) (as := [vJ (w2 (x1).toNatClampNeg)]) dX12_closes_36 kc_X12_206 rfl rfl (k_is_o o1) (by decide) (Nat.le_of_ble_eq_true rfl) c K, q⟩
theorem bX12_closes_39 {h0 h : k_H} {Q : k_H → k_R → Prop} {x0 f1_46 : Nat} {x1 s0 : Int32} {fs1 : List k_V} (o1 : h.1 x0 = some (k_o 15 fs1)) (g1_46 : fs1[46]? = some (vR (some f1_46))) {n2 : Nat} {w2 : Nat → Int32} (o2 : h.1 f1_46 = some (k_i n2 w2)) (y3 : vp_in x1 n2) (K1 : s0 = (w2 (x1).toNatClampNeg) → k_X (jX12_closes G l h0) h 52 [(0, vR (some x0)), (1, vI x1)] [] Q) (K2 : ¬ (s0 = (w2 (x1).toNatClampNeg)) → k_X (jX12_closes G l h0) h 48 [(0, vR (some x0)), (1, vI x1)] [] Q) : k_X (jX12_closes G l h0) h 39 [(0, vR (some x0)), (1, vI x1)] [vI s0] Q := by
  by_cases hc : s0 = (w2 (x1).toNatClampNeg)
  · skip
    obtain ⟨h', r, K, q⟩ := K1 hc
    exact ⟨h', r, j_aload_n dX12_closes_39 rfl rfl <| j_getf dX12_closes_40 kf_X12_119 o1 g1_46 <| j_iload_n dX12_closes_43 rfl rfl <| j_iald dX12_closes_44 o2 y3 <| j_icmp_eq_t (tgt := 52) dX12_closes_45 (by decide) hc K, q⟩
  · skip
    obtain ⟨h', r, K, q⟩ := K2 hc
    exact ⟨h', r, j_aload_n dX12_closes_39 rfl rfl <| j_getf dX12_closes_40 kf_X12_119 o1 g1_46 <| j_iload_n dX12_closes_43 rfl rfl <| j_iald dX12_closes_44 o2 y3 <| j_icmp_eq_f dX12_closes_45 52 (by decide) hc K, q⟩
theorem bX12_closes_48 {h0 h : k_H} {Q : k_H → k_R → Prop} {x0 : Nat} {x1 : Int32} (K : k_X (jX12_closes G l h0) h 53 [(0, vR (some x0)), (1, vI x1)] [vI 1] Q) : k_X (jX12_closes G l h0) h 48 [(0, vR (some x0)), (1, vI x1)] [] Q := by
  obtain ⟨h', r, K, q⟩ := K
  exact ⟨h', r, j_iconst (v := 1) dX12_closes_48 (by decide) <| j_goto (tgt := 53) dX12_closes_49 (by decide) <| K, q⟩
theorem bX12_closes_52 {h0 h : k_H} {Q : k_H → k_R → Prop} {x0 : Nat} {x1 : Int32} (K : k_X (jX12_closes G l h0) h 53 [(0, vR (some x0)), (1, vI x1)] [vI 0] Q) : k_X (jX12_closes G l h0) h 52 [(0, vR (some x0)), (1, vI x1)] [] Q := by
  obtain ⟨h', r, K, q⟩ := K
  exact ⟨h', r, j_iconst (v := 0) dX12_closes_52 (by decide) <| K, q⟩
theorem bX12_closes_53 {h0 h : k_H} {Q : k_H → k_R → Prop} {x0 : Nat} {x1 s0 : Int32} {f1_44 : Option Nat} {fs1 : List k_V} (o1 : h.1 x0 = some (k_o 15 fs1)) (g1_44 : fs1[44]? = some (vR f1_44)) (K1 : s0 = 0 → k_X (jX12_closes G l h0) h 81 [(0, vR (some x0)), (1, vI x1)] [vI x1, vR f1_44] Q) (K2 : ¬ (s0 = 0) → k_X (jX12_closes G l h0) h 63 [(0, vR (some x0)), (1, vI x1)] [vI x1, vR f1_44] Q) : k_X (jX12_closes G l h0) h 53 [(0, vR (some x0)), (1, vI x1)] [vI s0] Q := by
  by_cases hc : s0 = 0
  · skip
    obtain ⟨h', r, K, q⟩ := K1 hc
    exact ⟨h', r, j_istore_n dX12_closes_53 rfl (by decide) rfl <| j_aload_n dX12_closes_54 rfl rfl <| j_getf dX12_closes_55 kf_X12_113 o1 g1_44 <| j_iload_n dX12_closes_58 rfl rfl <| j_iload_n dX12_closes_59 rfl rfl <| j_if_eq_t (tgt := 81) dX12_closes_60 (by decide) hc (j_pick [0, 1] rfl K), q⟩
  · skip
    obtain ⟨h', r, K, q⟩ := K2 hc
    exact ⟨h', r, j_istore_n dX12_closes_53 rfl (by decide) rfl <| j_aload_n dX12_closes_54 rfl rfl <| j_getf dX12_closes_55 kf_X12_113 o1 g1_44 <| j_iload_n dX12_closes_58 rfl rfl <| j_iload_n dX12_closes_59 rfl rfl <| j_if_eq_f dX12_closes_60 81 (by decide) hc (j_pick [0, 1] rfl K), q⟩
theorem bX12_closes_63 {h0 h : k_H} {Q : k_H → k_R → Prop} {x0 f1_44 : Nat} {x1 s1 : Int32} {s0 : Option Nat} {fs1 : List k_V} (o1 : h.1 x0 = some (k_o 15 fs1)) (g1_44 : fs1[44]? = some (vR (some f1_44))) {n2 : Nat} {w2 : Nat → Int32} (o2 : h.1 f1_44 = some (k_i n2 w2)) (y3 : vp_in x1 n2) (K1 : ¬ ((w2 (x1).toNatClampNeg) = (-2147483648)) → k_X (jX12_closes G l h0) h 81 [(0, vR (some x0)), (1, vI x1)] [vI s1, vR s0] Q) (K2 : (w2 (x1).toNatClampNeg) = (-2147483648) → k_X (jX12_closes G l h0) h 74 [(0, vR (some x0)), (1, vI x1)] [vI s1, vR s0] Q) : k_X (jX12_closes G l h0) h 63 [(0, vR (some x0)), (1, vI x1)] [vI s1, vR s0] Q := by
  by_cases hc : (w2 (x1).toNatClampNeg) = (-2147483648)
  · skip
    obtain ⟨h', r, K, q⟩ := K2 hc
    exact ⟨h', r, j_aload_n dX12_closes_63 rfl rfl <| j_getf dX12_closes_64 kf_X12_113 o1 g1_44 <| j_iload_n dX12_closes_67 rfl rfl <| j_iald dX12_closes_68 o2 y3 <| j_ldc (v := (-2147483648)) dX12_closes_69 ki_X12_87 <| j_icmp_ne_f dX12_closes_71 81 (by decide) hc K, q⟩
  · skip
    obtain ⟨h', r, K, q⟩ := K1 hc
    exact ⟨h', r, j_aload_n dX12_closes_63 rfl rfl <| j_getf dX12_closes_64 kf_X12_113 o1 g1_44 <| j_iload_n dX12_closes_67 rfl rfl <| j_iald dX12_closes_68 o2 y3 <| j_ldc (v := (-2147483648)) dX12_closes_69 ki_X12_87 <| j_icmp_ne_t (tgt := 81) dX12_closes_71 (by decide) hc K, q⟩
theorem bX12_closes_74 {h0 h : k_H} {Q : k_H → k_R → Prop} {x0 : Nat} {x1 s1 f1_0 : Int32} {s0 : Option Nat} {fs1 : List k_V} (o1 : h.1 x0 = some (k_o 15 fs1)) (g1_0 : fs1[0]? = some (vI f1_0)) (K : k_X (jX12_closes G l h0) h 87 [(0, vR (some x0)), (1, vI x1)] [vI f1_0, vI s1, vR s0] Q) : k_X (jX12_closes G l h0) h 74 [(0, vR (some x0)), (1, vI x1)] [vI s1, vR s0] Q := by
  obtain ⟨h', r, K, q⟩ := K
  exact ⟨h', r, j_aload_n dX12_closes_74 rfl rfl <| j_getf dX12_closes_75 kf_X12_176 o1 g1_0 <| j_goto (tgt := 87) dX12_closes_78 (by decide) <| K, q⟩
theorem bX12_closes_81 {h0 h : k_H} {Q : k_H → k_R → Prop} {x0 f1_44 : Nat} {x1 s1 : Int32} {s0 : Option Nat} {fs1 : List k_V} (o1 : h.1 x0 = some (k_o 15 fs1)) (g1_44 : fs1[44]? = some (vR (some f1_44))) {n2 : Nat} {w2 : Nat → Int32} (o2 : h.1 f1_44 = some (k_i n2 w2)) (y3 : vp_in x1 n2) (K : k_X (jX12_closes G l h0) h 87 [(0, vR (some x0)), (1, vI x1)] [vI (w2 (x1).toNatClampNeg), vI s1, vR s0] Q) : k_X (jX12_closes G l h0) h 81 [(0, vR (some x0)), (1, vI x1)] [vI s1, vR s0] Q := by
  obtain ⟨h', r, K, q⟩ := K
  exact ⟨h', r, j_aload_n dX12_closes_81 rfl rfl <| j_getf dX12_closes_82 kf_X12_113 o1 g1_44 <| j_iload_n dX12_closes_85 rfl rfl <| j_iald dX12_closes_86 o2 y3 <| K, q⟩
theorem bX12_closes_87 {h0 h : k_H} {Q : k_H → k_R → Prop} {x0 s0 : Nat} {x1 s1 s2 : Int32} {n1 : Nat} {w1 : Nat → Int32} (o1 : h.1 s0 = some (k_i n1 w1)) (y2 : vp_in s1 n1) (K : k_X (jX12_closes G l h0) (k_up h s0 (k_i n1 (va_up w1 (s1).toNatClampNeg s2))) 88 [(0, vR (some x0)), (1, vI x1)] [] Q) : k_X (jX12_closes G l h0) h 87 [(0, vR (some x0)), (1, vI x1)] [vI s2, vI s1, vR (some s0)] Q := by
  obtain ⟨h', r, K, q⟩ := K
  exact ⟨h', r, j_iast dX12_closes_87 o1 y2 <| K, q⟩
theorem bX12_closes_88 {h0 h : k_H} {Q : k_H → k_R → Prop} {x0 : Nat} {x1 : Int32} (K : k_X (jX12_closes G l h0) h 2 [(0, vR (some x0)), (1, vI (x1 + 1))] [] Q) : k_X (jX12_closes G l h0) h 88 [(0, vR (some x0)), (1, vI x1)] [] Q := by
  obtain ⟨h', r, K, q⟩ := K
  exact ⟨h', r, j_iinc (v := x1 + 1) dX12_closes_88 rfl (by decide) rfl rfl <| j_goto (tgt := 2) dX12_closes_91 (by decide) <| K, q⟩
theorem bX12_closes_94 {h0 h : k_H} {Q : k_H → k_R → Prop} {x0 : Nat} (w : k_is h x0 15) {P : k_H → Prop} (c : k_ctv (tX12_arranges G l) [vR (some x0)] h P) (K : ∀ h1, P h1 → k_X (jX12_closes G l h0) h1 98 [] [] Q) : k_X (jX12_closes G l h0) h 94 [(0, vR (some x0))] [] Q := by
  obtain ⟨h1, c, p⟩ := c
  obtain ⟨h', r, K, q⟩ := K h1 p
  exact ⟨h', r, j_aload_n dX12_closes_94 rfl rfl <| j_callV (v := none) (as := []) dX12_closes_95 kc_X12_209 rfl rfl w (by decide) (Nat.le_of_ble_eq_true rfl) c (j_pick [] rfl K), q⟩
theorem bX12_closes_98 {h0 h : k_H} {Q : k_H → k_R → Prop} (q : Q h (.inl none)) : k_X (jX12_closes G l h0) h 98 [] [] Q := by
  exact ⟨_, _, j_vret dX12_closes_98 rfl, q⟩
theorem eX12_endOf {G : k_G} {l : Launch} (hfl : l.flags = flags0) {h : k_H} {Q : k_H → k_R → Prop} {x0 : Nat} {x1 : Int32} (K : k_X (jX12_endOf G l h) h 0 [(0, vR (some x0)), (1, vI x1)] [] Q) : k_ct (tX12_endOf G l) [vR (some x0), vI x1] h Q := by
  obtain ⟨h', r, K, q⟩ := K
  exact ⟨h', r, k_CtOf (by decide +kernel) (Nat.le_of_ble_eq_true rfl) K hfl, q⟩

theorem bX12_endOf_0 {h0 h : k_H} {Q : k_H → k_R → Prop} {x0 : Nat} {x1 f1_49 : Int32} {fs1 : List k_V} (o1 : h.1 x0 = some (k_o 15 fs1)) (g1_49 : fs1[49]? = some (vI f1_49)) (K1 : f1_49 ≤ (x1 + 1) → k_X (jX12_endOf G l h0) h 23 [] [] Q) (K2 : ¬ (f1_49 ≤ (x1 + 1)) → k_X (jX12_endOf G l h0) h 10 [(0, vR (some x0)), (1, vI x1)] [] Q) : k_X (jX12_endOf G l h0) h 0 [(0, vR (some x0)), (1, vI x1)] [] Q := by
  by_cases hc : f1_49 ≤ (x1 + 1)
  · skip
    obtain ⟨h', r, K, q⟩ := K1 hc
    exact ⟨h', r, j_iload_n dX12_endOf_0 rfl rfl <| j_iconst (v := 1) dX12_endOf_1 (by decide) <| j_iadd dX12_endOf_2 <| j_aload_n dX12_endOf_3 rfl rfl <| j_getf dX12_endOf_4 kf_X12_125 o1 g1_49 <| j_icmp_ge_t (tgt := 23) dX12_endOf_7 (by decide) hc (j_pick [] rfl K), q⟩
  · skip
    obtain ⟨h', r, K, q⟩ := K2 hc
    exact ⟨h', r, j_iload_n dX12_endOf_0 rfl rfl <| j_iconst (v := 1) dX12_endOf_1 (by decide) <| j_iadd dX12_endOf_2 <| j_aload_n dX12_endOf_3 rfl rfl <| j_getf dX12_endOf_4 kf_X12_125 o1 g1_49 <| j_icmp_ge_f dX12_endOf_7 23 (by decide) hc K, q⟩
theorem bX12_endOf_10 {h0 h : k_H} {Q : k_H → k_R → Prop} {x0 f1_50 : Nat} {x1 : Int32} {fs1 : List k_V} (o1 : h.1 x0 = some (k_o 15 fs1)) (g1_50 : fs1[50]? = some (vR (some f1_50))) {n2 : Nat} {w2 : Nat → Int64} (o2 : h.1 f1_50 = some (k_j n2 w2)) (y3 : vp_in (x1 + 1) n2) (K : k_X (jX12_endOf G l h0) h 26 [] [vJ ((w2 (x1 + 1).toNatClampNeg) - 1)] Q) : k_X (jX12_endOf G l h0) h 10 [(0, vR (some x0)), (1, vI x1)] [] Q := by
  obtain ⟨h', r, K, q⟩ := K
  exact ⟨h', r, j_aload_n dX12_endOf_10 rfl rfl <| j_getf dX12_endOf_11 kf_X12_128 o1 g1_50 <| j_iload_n dX12_endOf_14 rfl rfl <| j_iconst (v := 1) dX12_endOf_15 (by decide) <| j_iadd dX12_endOf_16 <| j_lald dX12_endOf_17 o2 y3 <| j_lconst (v := 1) dX12_endOf_18 (by decide) <| j_lsub dX12_endOf_19 <| j_goto (tgt := 26) dX12_endOf_20 (by decide) <| (j_pick [] rfl K), q⟩
theorem bX12_endOf_23 {h0 h : k_H} {Q : k_H → k_R → Prop} (K : k_X (jX12_endOf G l h0) h 26 [] [vJ 1331000000000] Q) : k_X (jX12_endOf G l h0) h 23 [] [] Q := by
  obtain ⟨h', r, K, q⟩ := K
  exact ⟨h', r, j_ldc2 (v := 1331000000000) dX12_endOf_23 ki_X12_159 <| K, q⟩
theorem bX12_endOf_26 {h0 h : k_H} {Q : k_H → k_R → Prop} {s0 : Int64} (q : Q h (.inl (some (vJ s0)))) : k_X (jX12_endOf G l h0) h 26 [] [vJ s0] Q := by
  exact ⟨_, _, j_lret dX12_endOf_26 rfl, q⟩
theorem eX12_manyOf {G : k_G} {l : Launch} (hfl : l.flags = flags0) {h : k_H} {Q : k_H → k_R → Prop} {x0 : Nat} {x1 : Int32} (K : k_X (jX12_manyOf G l h) h 0 [(0, vR (some x0)), (1, vI x1)] [] Q) : k_ct (tX12_manyOf G l) [vR (some x0), vI x1] h Q := by
  obtain ⟨h', r, K, q⟩ := K
  exact ⟨h', r, k_CtOf (by decide +kernel) (Nat.le_of_ble_eq_true rfl) K hfl, q⟩

theorem bX12_manyOf_0 {h0 h : k_H} {Q : k_H → k_R → Prop} {x0 f1_50 : Nat} {x1 : Int32} {fs1 : List k_V} (o1 : h.1 x0 = some (k_o 15 fs1)) (g1_50 : fs1[50]? = some (vR (some f1_50))) {n2 : Nat} {w2 : Nat → Int64} (o2 : h.1 f1_50 = some (k_j n2 w2)) (y3 : vp_in x1 n2) {P : k_H → Int64 → Prop} (c : k_ctj (tX12_endOf G l) [vR (some x0), vI x1] h P) (K : ∀ h1 v, P h1 v → k_X (jX12_manyOf G l h0) h1 12 [] [vJ v, vJ (w2 (x1).toNatClampNeg), vR (some x0)] Q) : k_X (jX12_manyOf G l h0) h 0 [(0, vR (some x0)), (1, vI x1)] [] Q := by
  obtain ⟨h1, v, c, p⟩ := c
  obtain ⟨h', r, K, q⟩ := K h1 v p
  exact ⟨h', r, j_aload_n dX12_manyOf_0 rfl rfl <| j_aload_n dX12_manyOf_1 rfl rfl <| j_getf dX12_manyOf_2 kf_X12_128 o1 g1_50 <| j_iload_n dX12_manyOf_5 rfl rfl <| j_lald dX12_manyOf_6 o2 y3 <| j_aload_n dX12_manyOf_7 rfl rfl <| j_iload_n dX12_manyOf_8 rfl rfl <| j_callV (v := some (vJ v)) (as := [vI x1]) dX12_manyOf_9 kc_X12_212 rfl rfl (k_is_o o1) (by decide) (Nat.le_of_ble_eq_true rfl) c (j_pick [] rfl K), q⟩
theorem bX12_manyOf_12 {h0 h : k_H} {Q : k_H → k_R → Prop} {s0 : Nat} {s1 s2 : Int64} (w : k_is h s0 15) {P : k_H → Int32 → Prop} (c : k_cti (tX12_manyIn G l) [vR (some s0), vJ s1, vJ s2] h P) (K : ∀ h1 v, P h1 v → k_X (jX12_manyOf G l h0) h1 15 [] [vI v] Q) : k_X (jX12_manyOf G l h0) h 12 [] [vJ s2, vJ s1, vR (some s0)] Q := by
  obtain ⟨h1, v, c, p⟩ := c
  obtain ⟨h', r, K, q⟩ := K h1 v p
  exact ⟨h', r, j_callV (v := some (vI v)) (as := [vJ s1, vJ s2]) dX12_manyOf_12 kc_X12_215 rfl rfl w (by decide) (Nat.le_of_ble_eq_true rfl) c K, q⟩
theorem bX12_manyOf_15 {h0 h : k_H} {Q : k_H → k_R → Prop} {s0 : Int32} (q : Q h (.inl (some (vI s0)))) : k_X (jX12_manyOf G l h0) h 15 [] [vI s0] Q := by
  exact ⟨_, _, j_iret dX12_manyOf_15 rfl, q⟩
theorem eX12_server {G : k_G} {l : Launch} (hfl : l.flags = flags0) {h : k_H} {Q : k_H → k_R → Prop} {x0 : Nat} (K : k_X (jX12_server G l h) h 0 [(0, vR (some x0))] [] Q) : k_ct (tX12_server G l) [vR (some x0)] h Q := by
  obtain ⟨h', r, K, q⟩ := K
  exact ⟨h', r, k_CtOf (by decide +kernel) (Nat.le_of_ble_eq_true rfl) K hfl, q⟩

theorem bX12_server_0 {h0 h : k_H} {Q : k_H → k_R → Prop} {x0 : Nat} {f1_49 : Int32} {fs1 : List k_V} (o1 : h.1 x0 = some (k_o 15 fs1)) (g1_49 : fs1[49]? = some (vI f1_49)) (K : k_X (jX12_server G l h0) h 11 [(0, vR (some x0)), (1, vI 0), (2, vI (f1_49 + 1)), (3, vI 0)] [] Q) : k_X (jX12_server G l h0) h 0 [(0, vR (some x0))] [] Q := by
  obtain ⟨h', r, K, q⟩ := K
  exact ⟨h', r, j_iconst (v := 0) dX12_server_0 (by decide) <| j_istore_n dX12_server_1 rfl (by decide) rfl <| j_aload_n dX12_server_2 rfl rfl <| j_getf dX12_server_3 kf_X12_125 o1 g1_49 <| j_iconst (v := 1) dX12_server_6 (by decide) <| j_iadd dX12_server_7 <| j_istore_n dX12_server_8 rfl (by decide) rfl <| j_iconst (v := 0) dX12_server_9 (by decide) <| j_istore_n dX12_server_10 rfl (by decide) rfl <| K, q⟩
theorem bX12_server_11 {h0 h : k_H} {Q : k_H → k_R → Prop} {x0 : Nat} {x1 x2 x3 : Int32} (K1 : 3 ≤ x3 → k_X (jX12_server G l h0) h 89 [(1, vI x1)] [] Q) (K2 : ¬ (3 ≤ x3) → k_X (jX12_server G l h0) h 16 [(0, vR (some x0)), (1, vI x1), (2, vI x2), (3, vI x3)] [] Q) : k_X (jX12_server G l h0) h 11 [(0, vR (some x0)), (1, vI x1), (2, vI x2), (3, vI x3)] [] Q := by
  by_cases hc : 3 ≤ x3
  · skip
    obtain ⟨h', r, K, q⟩ := K1 hc
    exact ⟨h', r, j_iload_n dX12_server_11 rfl rfl <| j_iconst (v := 3) dX12_server_12 (by decide) <| j_icmp_ge_t (tgt := 89) dX12_server_13 (by decide) hc (j_pick [1] rfl K), q⟩
  · skip
    obtain ⟨h', r, K, q⟩ := K2 hc
    exact ⟨h', r, j_iload_n dX12_server_11 rfl rfl <| j_iconst (v := 3) dX12_server_12 (by decide) <| j_icmp_ge_f dX12_server_13 89 (by decide) hc K, q⟩
theorem bX12_server_16 {h0 h : k_H} {Q : k_H → k_R → Prop} {x0 : Nat} {x1 x2 x3 : Int32} (K : k_X (jX12_server G l h0) h 22 [(0, vR (some x0)), (1, vI x1), (2, vI x2), (3, vI x3), (4, vI 0), (5, vI 0)] [] Q) : k_X (jX12_server G l h0) h 16 [(0, vR (some x0)), (1, vI x1), (2, vI x2), (3, vI x3)] [] Q := by
  obtain ⟨h', r, K, q⟩ := K
  exact ⟨h', r, j_iconst (v := 0) dX12_server_16 (by decide) <| j_istore dX12_server_17 (by decide) rfl <| j_iconst (v := 0) dX12_server_19 (by decide) <| j_istore dX12_server_20 (by decide) rfl <| K, q⟩
theorem bX12_server_22 {h0 h : k_H} {Q : k_H → k_R → Prop} {x0 : Nat} {x1 x2 x3 x4 x5 f1_49 : Int32} {fs1 : List k_V} (o1 : h.1 x0 = some (k_o 15 fs1)) (g1_49 : fs1[49]? = some (vI f1_49)) (K1 : f1_49 ≤ x5 → k_X (jX12_server G l h0) h 58 [(0, vR (some x0)), (1, vI x1), (2, vI x2), (3, vI x3), (4, vI x4)] [] Q) (K2 : ¬ (f1_49 ≤ x5) → k_X (jX12_server G l h0) h 31 [(0, vR (some x0)), (1, vI x1), (2, vI x2), (3, vI x3), (4, vI x4), (5, vI x5)] [] Q) : k_X (jX12_server G l h0) h 22 [(0, vR (some x0)), (1, vI x1), (2, vI x2), (3, vI x3), (4, vI x4), (5, vI x5)] [] Q := by
  by_cases hc : f1_49 ≤ x5
  · skip
    obtain ⟨h', r, K, q⟩ := K1 hc
    exact ⟨h', r, j_iload dX12_server_22 rfl <| j_aload_n dX12_server_24 rfl rfl <| j_getf dX12_server_25 kf_X12_125 o1 g1_49 <| j_icmp_ge_t (tgt := 58) dX12_server_28 (by decide) hc (j_pick [0, 1, 2, 3, 4] rfl K), q⟩
  · skip
    obtain ⟨h', r, K, q⟩ := K2 hc
    exact ⟨h', r, j_iload dX12_server_22 rfl <| j_aload_n dX12_server_24 rfl rfl <| j_getf dX12_server_25 kf_X12_125 o1 g1_49 <| j_icmp_ge_f dX12_server_28 58 (by decide) hc K, q⟩
theorem bX12_server_31 {h0 h : k_H} {Q : k_H → k_R → Prop} {x0 f1_51 : Nat} {x1 x2 x3 x4 x5 : Int32} {fs1 : List k_V} (o1 : h.1 x0 = some (k_o 15 fs1)) (g1_51 : fs1[51]? = some (vR (some f1_51))) {n2 : Nat} {w2 : Nat → Int32} (o2 : h.1 f1_51 = some (k_i n2 w2)) (y3 : vp_in x5 n2) (K1 : ¬ ((w2 (x5).toNatClampNeg) = x3) → k_X (jX12_server G l h0) h 48 [(0, vR (some x0)), (1, vI x1), (2, vI x2), (3, vI x3), (5, vI x5)] [vI x4] Q) (K2 : (w2 (x5).toNatClampNeg) = x3 → k_X (jX12_server G l h0) h 44 [(0, vR (some x0)), (1, vI x1), (2, vI x2), (3, vI x3), (5, vI x5)] [vI x4] Q) : k_X (jX12_server G l h0) h 31 [(0, vR (some x0)), (1, vI x1), (2, vI x2), (3, vI x3), (4, vI x4), (5, vI x5)] [] Q := by
  by_cases hc : (w2 (x5).toNatClampNeg) = x3
  · skip
    obtain ⟨h', r, K, q⟩ := K2 hc
    exact ⟨h', r, j_iload dX12_server_31 rfl <| j_aload_n dX12_server_33 rfl rfl <| j_getf dX12_server_34 kf_X12_131 o1 g1_51 <| j_iload dX12_server_37 rfl <| j_iald dX12_server_39 o2 y3 <| j_iload_n dX12_server_40 rfl rfl <| j_icmp_ne_f dX12_server_41 48 (by decide) hc (j_pick [0, 1, 2, 3, 5] rfl K), q⟩
  · skip
    obtain ⟨h', r, K, q⟩ := K1 hc
    exact ⟨h', r, j_iload dX12_server_31 rfl <| j_aload_n dX12_server_33 rfl rfl <| j_getf dX12_server_34 kf_X12_131 o1 g1_51 <| j_iload dX12_server_37 rfl <| j_iald dX12_server_39 o2 y3 <| j_iload_n dX12_server_40 rfl rfl <| j_icmp_ne_t (tgt := 48) dX12_server_41 (by decide) hc (j_pick [0, 1, 2, 3, 5] rfl K), q⟩
theorem bX12_server_44 {h0 h : k_H} {Q : k_H → k_R → Prop} {x0 : Nat} {x1 x2 x3 x5 s0 : Int32} (K : k_X (jX12_server G l h0) h 49 [(0, vR (some x0)), (1, vI x1), (2, vI x2), (3, vI x3), (5, vI x5)] [vI 1, vI s0] Q) : k_X (jX12_server G l h0) h 44 [(0, vR (some x0)), (1, vI x1), (2, vI x2), (3, vI x3), (5, vI x5)] [vI s0] Q := by
  obtain ⟨h', r, K, q⟩ := K
  exact ⟨h', r, j_iconst (v := 1) dX12_server_44 (by decide) <| j_goto (tgt := 49) dX12_server_45 (by decide) <| K, q⟩
theorem bX12_server_48 {h0 h : k_H} {Q : k_H → k_R → Prop} {x0 : Nat} {x1 x2 x3 x5 s0 : Int32} (K : k_X (jX12_server G l h0) h 49 [(0, vR (some x0)), (1, vI x1), (2, vI x2), (3, vI x3), (5, vI x5)] [vI 0, vI s0] Q) : k_X (jX12_server G l h0) h 48 [(0, vR (some x0)), (1, vI x1), (2, vI x2), (3, vI x3), (5, vI x5)] [vI s0] Q := by
  obtain ⟨h', r, K, q⟩ := K
  exact ⟨h', r, j_iconst (v := 0) dX12_server_48 (by decide) <| K, q⟩
theorem bX12_server_49 {h0 h : k_H} {Q : k_H → k_R → Prop} {x0 : Nat} {x1 x2 x3 x5 s0 s1 : Int32} (K : k_X (jX12_server G l h0) h 22 [(0, vR (some x0)), (1, vI x1), (2, vI x2), (3, vI x3), (4, vI (s0 + s1)), (5, vI (x5 + 1))] [] Q) : k_X (jX12_server G l h0) h 49 [(0, vR (some x0)), (1, vI x1), (2, vI x2), (3, vI x3), (5, vI x5)] [vI s1, vI s0] Q := by
  obtain ⟨h', r, K, q⟩ := K
  exact ⟨h', r, j_iadd dX12_server_49 <| j_istore dX12_server_50 (by decide) rfl <| j_iinc (v := x5 + 1) dX12_server_52 rfl (by decide) rfl rfl <| j_goto (tgt := 22) dX12_server_55 (by decide) <| K, q⟩
theorem bX12_server_58 {h0 h : k_H} {Q : k_H → k_R → Prop} {x0 : Nat} {x1 x2 x3 x4 : Int32} (K1 : x2 ≤ x4 → k_X (jX12_server G l h0) h 68 [(0, vR (some x0)), (1, vI x1), (2, vI x2), (3, vI x3), (4, vI x4)] [] Q) (K2 : ¬ (x2 ≤ x4) → k_X (jX12_server G l h0) h 64 [(0, vR (some x0)), (2, vI x2), (3, vI x3), (4, vI x4)] [] Q) : k_X (jX12_server G l h0) h 58 [(0, vR (some x0)), (1, vI x1), (2, vI x2), (3, vI x3), (4, vI x4)] [] Q := by
  by_cases hc : x2 ≤ x4
  · skip
    obtain ⟨h', r, K, q⟩ := K1 hc
    exact ⟨h', r, j_iload dX12_server_58 rfl <| j_iload_n dX12_server_60 rfl rfl <| j_icmp_ge_t (tgt := 68) dX12_server_61 (by decide) hc K, q⟩
  · skip
    obtain ⟨h', r, K, q⟩ := K2 hc
    exact ⟨h', r, j_iload dX12_server_58 rfl <| j_iload_n dX12_server_60 rfl rfl <| j_icmp_ge_f dX12_server_61 68 (by decide) hc (j_pick [0, 2, 3, 4] rfl K), q⟩
theorem bX12_server_64 {h0 h : k_H} {Q : k_H → k_R → Prop} {x0 : Nat} {x2 x3 x4 : Int32} (K : k_X (jX12_server G l h0) h 69 [(0, vR (some x0)), (2, vI x2), (3, vI x3), (4, vI x4)] [vI x3] Q) : k_X (jX12_server G l h0) h 64 [(0, vR (some x0)), (2, vI x2), (3, vI x3), (4, vI x4)] [] Q := by
  obtain ⟨h', r, K, q⟩ := K
  exact ⟨h', r, j_iload_n dX12_server_64 rfl rfl <| j_goto (tgt := 69) dX12_server_65 (by decide) <| K, q⟩
theorem bX12_server_68 {h0 h : k_H} {Q : k_H → k_R → Prop} {x0 : Nat} {x1 x2 x3 x4 : Int32} (K : k_X (jX12_server G l h0) h 69 [(0, vR (some x0)), (2, vI x2), (3, vI x3), (4, vI x4)] [vI x1] Q) : k_X (jX12_server G l h0) h 68 [(0, vR (some x0)), (1, vI x1), (2, vI x2), (3, vI x3), (4, vI x4)] [] Q := by
  obtain ⟨h', r, K, q⟩ := K
  exact ⟨h', r, j_iload_n dX12_server_68 rfl rfl <| (j_pick [0, 2, 3, 4] rfl K), q⟩
theorem bX12_server_69 {h0 h : k_H} {Q : k_H → k_R → Prop} {x0 : Nat} {x2 x3 x4 s0 : Int32} (K1 : x2 ≤ x4 → k_X (jX12_server G l h0) h 81 [(0, vR (some x0)), (1, vI s0), (2, vI x2), (3, vI x3)] [] Q) (K2 : ¬ (x2 ≤ x4) → k_X (jX12_server G l h0) h 76 [(0, vR (some x0)), (1, vI s0), (3, vI x3), (4, vI x4)] [] Q) : k_X (jX12_server G l h0) h 69 [(0, vR (some x0)), (2, vI x2), (3, vI x3), (4, vI x4)] [vI s0] Q := by
  by_cases hc : x2 ≤ x4
  · skip
    obtain ⟨h', r, K, q⟩ := K1 hc
    exact ⟨h', r, j_istore_n dX12_server_69 rfl (by decide) rfl <| j_iload dX12_server_70 rfl <| j_iload_n dX12_server_72 rfl rfl <| j_icmp_ge_t (tgt := 81) dX12_server_73 (by decide) hc (j_pick [0, 1, 2, 3] rfl K), q⟩
  · skip
    obtain ⟨h', r, K, q⟩ := K2 hc
    exact ⟨h', r, j_istore_n dX12_server_69 rfl (by decide) rfl <| j_iload dX12_server_70 rfl <| j_iload_n dX12_server_72 rfl rfl <| j_icmp_ge_f dX12_server_73 81 (by decide) hc (j_pick [0, 1, 3, 4] rfl K), q⟩
theorem bX12_server_76 {h0 h : k_H} {Q : k_H → k_R → Prop} {x0 : Nat} {x1 x3 x4 : Int32} (K : k_X (jX12_server G l h0) h 82 [(0, vR (some x0)), (1, vI x1), (3, vI x3)] [vI x4] Q) : k_X (jX12_server G l h0) h 76 [(0, vR (some x0)), (1, vI x1), (3, vI x3), (4, vI x4)] [] Q := by
  obtain ⟨h', r, K, q⟩ := K
  exact ⟨h', r, j_iload dX12_server_76 rfl <| j_goto (tgt := 82) dX12_server_78 (by decide) <| (j_pick [0, 1, 2] rfl K), q⟩
theorem bX12_server_81 {h0 h : k_H} {Q : k_H → k_R → Prop} {x0 : Nat} {x1 x2 x3 : Int32} (K : k_X (jX12_server G l h0) h 82 [(0, vR (some x0)), (1, vI x1), (3, vI x3)] [vI x2] Q) : k_X (jX12_server G l h0) h 81 [(0, vR (some x0)), (1, vI x1), (2, vI x2), (3, vI x3)] [] Q := by
  obtain ⟨h', r, K, q⟩ := K
  exact ⟨h', r, j_iload_n dX12_server_81 rfl rfl <| (j_pick [0, 1, 3] rfl K), q⟩
theorem bX12_server_82 {h0 h : k_H} {Q : k_H → k_R → Prop} {x0 : Nat} {x1 x3 s0 : Int32} (K : k_X (jX12_server G l h0) h 11 [(0, vR (some x0)), (1, vI x1), (2, vI s0), (3, vI (x3 + 1))] [] Q) : k_X (jX12_server G l h0) h 82 [(0, vR (some x0)), (1, vI x1), (3, vI x3)] [vI s0] Q := by
  obtain ⟨h', r, K, q⟩ := K
  exact ⟨h', r, j_istore_n dX12_server_82 rfl (by decide) rfl <| j_iinc (v := x3 + 1) dX12_server_83 rfl (by decide) rfl rfl <| j_goto (tgt := 11) dX12_server_86 (by decide) <| K, q⟩
theorem bX12_server_89 {h0 h : k_H} {Q : k_H → k_R → Prop} {x1 : Int32} (q : Q h (.inl (some (vI x1)))) : k_X (jX12_server G l h0) h 89 [(1, vI x1)] [] Q := by
  exact ⟨_, _, j_iload_n dX12_server_89 rfl rfl <| j_iret dX12_server_90 rfl, q⟩
theorem eX12_fifthOf {G : k_G} {l : Launch} (hfl : l.flags = flags0) {h : k_H} {Q : k_H → k_R → Prop} {x0 : Nat} {x1 : Int32} (K : k_X (jX12_fifthOf G l h) h 0 [(0, vR (some x0)), (1, vI x1)] [] Q) : k_ct (tX12_fifthOf G l) [vR (some x0), vI x1] h Q := by
  obtain ⟨h', r, K, q⟩ := K
  exact ⟨h', r, k_CtOf (by decide +kernel) (Nat.le_of_ble_eq_true rfl) K hfl, q⟩

theorem bX12_fifthOf_0 {h0 h : k_H} {Q : k_H → k_R → Prop} {x0 f1_50 : Nat} {x1 : Int32} {fs1 : List k_V} (o1 : h.1 x0 = some (k_o 15 fs1)) (g1_50 : fs1[50]? = some (vR (some f1_50))) {n2 : Nat} {w2 : Nat → Int64} (o2 : h.1 f1_50 = some (k_j n2 w2)) (y3 : vp_in x1 n2) {P : k_H → Int32 → Prop} (c : k_cti (tX12_placeOf G l) [vR (some x0), vJ (w2 (x1).toNatClampNeg)] h P) (K : ∀ h1 v, P h1 v → k_X (jX12_fifthOf G l h0) h1 12 [(0, vR (some x0)), (2, vI 0)] [vI v] Q) : k_X (jX12_fifthOf G l h0) h 0 [(0, vR (some x0)), (1, vI x1)] [] Q := by
  obtain ⟨h1, v, c, p⟩ := c
  obtain ⟨h', r, K, q⟩ := K h1 v p
  exact ⟨h', r, j_iconst (v := 0) dX12_fifthOf_0 (by decide) <| j_istore_n dX12_fifthOf_1 rfl (by decide) rfl <| j_aload_n dX12_fifthOf_2 rfl rfl <| j_aload_n dX12_fifthOf_3 rfl rfl <| j_getf dX12_fifthOf_4 kf_X12_128 o1 g1_50 <| j_iload_n dX12_fifthOf_7 rfl rfl <| j_lald dX12_fifthOf_8 o2 y3 <| j_callV (v := some (vI v)) (as := [vJ (w2 (x1).toNatClampNeg)]) dX12_fifthOf_9 kc_X12_164 rfl rfl (k_is_o o1) (by decide) (Nat.le_of_ble_eq_true rfl) c (j_pick [0, 2] rfl K), q⟩
theorem bX12_fifthOf_12 {h0 h : k_H} {Q : k_H → k_R → Prop} {x0 : Nat} {x2 s0 : Int32} (K : k_X (jX12_fifthOf G l h0) h 13 [(0, vR (some x0)), (2, vI x2), (3, vI s0)] [] Q) : k_X (jX12_fifthOf G l h0) h 12 [(0, vR (some x0)), (2, vI x2)] [vI s0] Q := by
  obtain ⟨h', r, K, q⟩ := K
  exact ⟨h', r, j_istore_n dX12_fifthOf_12 rfl (by decide) rfl <| K, q⟩
theorem bX12_fifthOf_13 {h0 h : k_H} {Q : k_H → k_R → Prop} {x0 : Nat} {x2 x3 : Int32} (K1 : 5 ≤ x2 → k_X (jX12_fifthOf G l h0) h 44 [(0, vR (some x0)), (3, vI x3)] [] Q) (K2 : ¬ (5 ≤ x2) → k_X (jX12_fifthOf G l h0) h 18 [(0, vR (some x0)), (2, vI x2), (3, vI x3)] [] Q) : k_X (jX12_fifthOf G l h0) h 13 [(0, vR (some x0)), (2, vI x2), (3, vI x3)] [] Q := by
  by_cases hc : 5 ≤ x2
  · skip
    obtain ⟨h', r, K, q⟩ := K1 hc
    exact ⟨h', r, j_iload_n dX12_fifthOf_13 rfl rfl <| j_iconst (v := 5) dX12_fifthOf_14 (by decide) <| j_icmp_ge_t (tgt := 44) dX12_fifthOf_15 (by decide) hc (j_pick [0, 2] rfl K), q⟩
  · skip
    obtain ⟨h', r, K, q⟩ := K2 hc
    exact ⟨h', r, j_iload_n dX12_fifthOf_13 rfl rfl <| j_iconst (v := 5) dX12_fifthOf_14 (by decide) <| j_icmp_ge_f dX12_fifthOf_15 44 (by decide) hc K, q⟩
theorem bX12_fifthOf_18 {h0 h : k_H} {Q : k_H → k_R → Prop} {x0 : Nat} {x2 x3 f1_0 : Int32} {fs1 : List k_V} (o1 : h.1 x0 = some (k_o 15 fs1)) (g1_0 : fs1[0]? = some (vI f1_0)) {P : k_H → Int32 → Prop} (c : k_cti (tX12_hasAt G l) [vR (some x0), vI x3, vI f1_0] h P) (K : ∀ h1 v, P h1 v → k_X (jX12_fifthOf G l h0) h1 28 [(0, vR (some x0)), (3, vI x3)] [vI v, vI x2] Q) : k_X (jX12_fifthOf G l h0) h 18 [(0, vR (some x0)), (2, vI x2), (3, vI x3)] [] Q := by
  obtain ⟨h1, v, c, p⟩ := c
  obtain ⟨h', r, K, q⟩ := K h1 v p
  exact ⟨h', r, j_iload_n dX12_fifthOf_18 rfl rfl <| j_aload_n dX12_fifthOf_19 rfl rfl <| j_iload_n dX12_fifthOf_20 rfl rfl <| j_aload_n dX12_fifthOf_21 rfl rfl <| j_getf dX12_fifthOf_22 kf_X12_176 o1 g1_0 <| j_callV (v := some (vI v)) (as := [vI x3, vI f1_0]) dX12_fifthOf_25 kc_X12_179 rfl rfl (k_is_o o1) (by decide) (Nat.le_of_ble_eq_true rfl) c (j_pick [0, 2] rfl K), q⟩
theorem bX12_fifthOf_28 {h0 h : k_H} {Q : k_H → k_R → Prop} {x0 : Nat} {x3 s0 s1 : Int32} (K1 : s1 = 0 → k_X (jX12_fifthOf G l h0) h 35 [(0, vR (some x0)), (3, vI x3)] [vI s0] Q) (K2 : ¬ (s1 = 0) → k_X (jX12_fifthOf G l h0) h 31 [(0, vR (some x0)), (3, vI x3)] [vI s0] Q) : k_X (jX12_fifthOf G l h0) h 28 [(0, vR (some x0)), (3, vI x3)] [vI s1, vI s0] Q := by
  by_cases hc : s1 = 0
  · skip
    obtain ⟨h', r, K, q⟩ := K1 hc
    exact ⟨h', r, j_if_eq_t (tgt := 35) dX12_fifthOf_28 (by decide) hc K, q⟩
  · skip
    obtain ⟨h', r, K, q⟩ := K2 hc
    exact ⟨h', r, j_if_eq_f dX12_fifthOf_28 35 (by decide) hc K, q⟩
theorem bX12_fifthOf_31 {h0 h : k_H} {Q : k_H → k_R → Prop} {x0 : Nat} {x3 s0 : Int32} (K : k_X (jX12_fifthOf G l h0) h 36 [(0, vR (some x0)), (3, vI x3)] [vI 1, vI s0] Q) : k_X (jX12_fifthOf G l h0) h 31 [(0, vR (some x0)), (3, vI x3)] [vI s0] Q := by
  obtain ⟨h', r, K, q⟩ := K
  exact ⟨h', r, j_iconst (v := 1) dX12_fifthOf_31 (by decide) <| j_goto (tgt := 36) dX12_fifthOf_32 (by decide) <| K, q⟩
theorem bX12_fifthOf_35 {h0 h : k_H} {Q : k_H → k_R → Prop} {x0 : Nat} {x3 s0 : Int32} (K : k_X (jX12_fifthOf G l h0) h 36 [(0, vR (some x0)), (3, vI x3)] [vI 0, vI s0] Q) : k_X (jX12_fifthOf G l h0) h 35 [(0, vR (some x0)), (3, vI x3)] [vI s0] Q := by
  obtain ⟨h', r, K, q⟩ := K
  exact ⟨h', r, j_iconst (v := 0) dX12_fifthOf_35 (by decide) <| K, q⟩
theorem bX12_fifthOf_36 {h0 h : k_H} {Q : k_H → k_R → Prop} {x0 : Nat} {x3 s0 s1 : Int32} (K : k_X (jX12_fifthOf G l h0) h 13 [(0, vR (some x0)), (2, vI (s0 + s1)), (3, vI (x3 + 1))] [] Q) : k_X (jX12_fifthOf G l h0) h 36 [(0, vR (some x0)), (3, vI x3)] [vI s1, vI s0] Q := by
  obtain ⟨h', r, K, q⟩ := K
  exact ⟨h', r, j_iadd dX12_fifthOf_36 <| j_istore_n dX12_fifthOf_37 rfl (by decide) rfl <| j_iinc (v := x3 + 1) dX12_fifthOf_38 rfl (by decide) rfl rfl <| j_goto (tgt := 13) dX12_fifthOf_41 (by decide) <| K, q⟩
theorem bX12_fifthOf_44 {h0 h : k_H} {Q : k_H → k_R → Prop} {x0 f1_3 : Nat} {x3 : Int32} {fs1 : List k_V} (o1 : h.1 x0 = some (k_o 15 fs1)) (g1_3 : fs1[3]? = some (vR (some f1_3))) {n2 : Nat} {w2 : Nat → Int64} (o2 : h.1 f1_3 = some (k_j n2 w2)) (y3 : vp_in (x3 - 1) n2) (q : Q h (.inl (some (vJ (w2 (x3 - 1).toNatClampNeg))))) : k_X (jX12_fifthOf G l h0) h 44 [(0, vR (some x0)), (3, vI x3)] [] Q := by
  exact ⟨_, _, j_aload_n dX12_fifthOf_44 rfl rfl <| j_getf dX12_fifthOf_45 kf_X12_9 o1 g1_3 <| j_iload_n dX12_fifthOf_48 rfl rfl <| j_iconst (v := 1) dX12_fifthOf_49 (by decide) <| j_isub dX12_fifthOf_50 <| j_lald dX12_fifthOf_51 o2 y3 <| j_lret dX12_fifthOf_52 rfl, q⟩
theorem eX12_arranges {G : k_G} {l : Launch} (hfl : l.flags = flags0) {h : k_H} {Q : k_H → k_R → Prop} {x0 : Nat} (K : k_X (jX12_arranges G l h) h 0 [(0, vR (some x0))] [] Q) : k_ct (tX12_arranges G l) [vR (some x0)] h Q := by
  obtain ⟨h', r, K, q⟩ := K
  exact ⟨h', r, k_CtOf (by decide +kernel) (Nat.le_of_ble_eq_true rfl) K hfl, q⟩

theorem bX12_arranges_0 {h0 h : k_H} {Q : k_H → k_R → Prop} {x0 : Nat} (K : k_X (jX12_arranges G l h0) h 2 [(0, vR (some x0)), (1, vI 0)] [] Q) : k_X (jX12_arranges G l h0) h 0 [(0, vR (some x0))] [] Q := by
  obtain ⟨h', r, K, q⟩ := K
  exact ⟨h', r, j_iconst (v := 0) dX12_arranges_0 (by decide) <| j_istore_n dX12_arranges_1 rfl (by decide) rfl <| K, q⟩
theorem bX12_arranges_2 {h0 h : k_H} {Q : k_H → k_R → Prop} {x0 : Nat} {x1 f1_49 : Int32} {fs1 : List k_V} (o1 : h.1 x0 = some (k_o 15 fs1)) (g1_49 : fs1[49]? = some (vI f1_49)) (K1 : f1_49 ≤ x1 → k_X (jX12_arranges G l h0) h 120 [(0, vR (some x0))] [] Q) (K2 : ¬ (f1_49 ≤ x1) → k_X (jX12_arranges G l h0) h 10 [(0, vR (some x0)), (1, vI x1)] [] Q) : k_X (jX12_arranges G l h0) h 2 [(0, vR (some x0)), (1, vI x1)] [] Q := by
  by_cases hc : f1_49 ≤ x1
  · skip
    obtain ⟨h', r, K, q⟩ := K1 hc
    exact ⟨h', r, j_iload_n dX12_arranges_2 rfl rfl <| j_aload_n dX12_arranges_3 rfl rfl <| j_getf dX12_arranges_4 kf_X12_125 o1 g1_49 <| j_icmp_ge_t (tgt := 120) dX12_arranges_7 (by decide) hc (j_pick [0] rfl K), q⟩
  · skip
    obtain ⟨h', r, K, q⟩ := K2 hc
    exact ⟨h', r, j_iload_n dX12_arranges_2 rfl rfl <| j_aload_n dX12_arranges_3 rfl rfl <| j_getf dX12_arranges_4 kf_X12_125 o1 g1_49 <| j_icmp_ge_f dX12_arranges_7 120 (by decide) hc K, q⟩
theorem bX12_arranges_10 {h0 h : k_H} {Q : k_H → k_R → Prop} {x0 : Nat} {x1 : Int32} (w : k_is h x0 15) {P : k_H → Int32 → Prop} (c : k_cti (tX12_manyOf G l) [vR (some x0), vI x1] h P) (K : ∀ h1 v, P h1 v → k_X (jX12_arranges G l h0) h1 15 [(0, vR (some x0)), (1, vI x1)] [vI v] Q) : k_X (jX12_arranges G l h0) h 10 [(0, vR (some x0)), (1, vI x1)] [] Q := by
  obtain ⟨h1, v, c, p⟩ := c
  obtain ⟨h', r, K, q⟩ := K h1 v p
  exact ⟨h', r, j_aload_n dX12_arranges_10 rfl rfl <| j_iload_n dX12_arranges_11 rfl rfl <| j_callV (v := some (vI v)) (as := [vI x1]) dX12_arranges_12 kc_X12_219 rfl rfl w (by decide) (Nat.le_of_ble_eq_true rfl) c K, q⟩
theorem bX12_arranges_15 {h0 h : k_H} {Q : k_H → k_R → Prop} {x0 : Nat} {x1 s0 : Int32} (K1 : s0 ≤ 8 → k_X (jX12_arranges G l h0) h 114 [(0, vR (some x0)), (1, vI x1)] [] Q) (K2 : ¬ (s0 ≤ 8) → k_X (jX12_arranges G l h0) h 20 [(0, vR (some x0)), (1, vI x1)] [] Q) : k_X (jX12_arranges G l h0) h 15 [(0, vR (some x0)), (1, vI x1)] [vI s0] Q := by
  by_cases hc : s0 ≤ 8
  · skip
    obtain ⟨h', r, K, q⟩ := K1 hc
    exact ⟨h', r, j_bipush (v := 8) dX12_arranges_15 (by decide) <| j_icmp_le_t (tgt := 114) dX12_arranges_17 (by decide) hc K, q⟩
  · skip
    obtain ⟨h', r, K, q⟩ := K2 hc
    exact ⟨h', r, j_bipush (v := 8) dX12_arranges_15 (by decide) <| j_icmp_le_f dX12_arranges_17 114 (by decide) hc K, q⟩
theorem bX12_arranges_20 {h0 h : k_H} {Q : k_H → k_R → Prop} {x0 : Nat} {x1 : Int32} (w : k_is h x0 15) {P : k_H → Int32 → Prop} (c : k_cti (tX12_server G l) [vR (some x0)] h P) (K : ∀ h1 v, P h1 v → k_X (jX12_arranges G l h0) h1 24 [(0, vR (some x0)), (1, vI x1)] [vI v] Q) : k_X (jX12_arranges G l h0) h 20 [(0, vR (some x0)), (1, vI x1)] [] Q := by
  obtain ⟨h1, v, c, p⟩ := c
  obtain ⟨h', r, K, q⟩ := K h1 v p
  exact ⟨h', r, j_aload_n dX12_arranges_20 rfl rfl <| j_callV (v := some (vI v)) (as := []) dX12_arranges_21 kc_X12_223 rfl rfl w (by decide) (Nat.le_of_ble_eq_true rfl) c K, q⟩
theorem bX12_arranges_24 {h0 h : k_H} {Q : k_H → k_R → Prop} {x0 : Nat} {x1 s0 : Int32} (w : k_is h x0 15) {P : k_H → Int64 → Prop} (c : k_ctj (tX12_fifthOf G l) [vR (some x0), vI x1] h P) (K : ∀ h1 v, P h1 v → k_X (jX12_arranges G l h0) h1 30 [(0, vR (some x0)), (1, vI x1), (2, vI s0)] [vJ v] Q) : k_X (jX12_arranges G l h0) h 24 [(0, vR (some x0)), (1, vI x1)] [vI s0] Q := by
  obtain ⟨h1, v, c, p⟩ := c
  obtain ⟨h', r, K, q⟩ := K h1 v p
  exact ⟨h', r, j_istore_n dX12_arranges_24 rfl (by decide) rfl <| j_aload_n dX12_arranges_25 rfl rfl <| j_iload_n dX12_arranges_26 rfl rfl <| j_callV (v := some (vJ v)) (as := [vI x1]) dX12_arranges_27 kc_X12_227 rfl rfl w (by decide) (Nat.le_of_ble_eq_true rfl) c K, q⟩
theorem bX12_arranges_30 {h0 h : k_H} {Q : k_H → k_R → Prop} {x0 : Nat} {x1 x2 f1_49 : Int32} {s0 : Int64} {fs1 : List k_V} (o1 : h.1 x0 = some (k_o 15 fs1)) (g1_49 : fs1[49]? = some (vI f1_49)) (K : k_X (jX12_arranges G l h0) h 37 [(0, vR (some x0)), (1, vI x1), (2, vI x2), (3, vJ s0), (5, vI f1_49)] [] Q) : k_X (jX12_arranges G l h0) h 30 [(0, vR (some x0)), (1, vI x1), (2, vI x2)] [vJ s0] Q := by
  obtain ⟨h', r, K, q⟩ := K
  exact ⟨h', r, j_lstore_n dX12_arranges_30 rfl (by decide) rfl <| j_aload_n dX12_arranges_31 rfl rfl <| j_getf dX12_arranges_32 kf_X12_125 o1 g1_49 <| j_istore dX12_arranges_35 (by decide) rfl <| K, q⟩
theorem bX12_arranges_37 {h0 h : k_H} {Q : k_H → k_R → Prop} {x0 : Nat} {x1 x2 x5 : Int32} {x3 : Int64} (K1 : x5 ≤ (x1 + 1) → k_X (jX12_arranges G l h0) h 83 [(0, vR (some x0)), (1, vI x1), (2, vI x2), (3, vJ x3)] [] Q) (K2 : ¬ (x5 ≤ (x1 + 1)) → k_X (jX12_arranges G l h0) h 45 [(0, vR (some x0)), (1, vI x1), (2, vI x2), (3, vJ x3), (5, vI x5)] [] Q) : k_X (jX12_arranges G l h0) h 37 [(0, vR (some x0)), (1, vI x1), (2, vI x2), (3, vJ x3), (5, vI x5)] [] Q := by
  by_cases hc : x5 ≤ (x1 + 1)
  · skip
    obtain ⟨h', r, K, q⟩ := K1 hc
    exact ⟨h', r, j_iload dX12_arranges_37 rfl <| j_iload_n dX12_arranges_39 rfl rfl <| j_iconst (v := 1) dX12_arranges_40 (by decide) <| j_iadd dX12_arranges_41 <| j_icmp_le_t (tgt := 83) dX12_arranges_42 (by decide) hc (j_pick [0, 1, 2, 3] rfl K), q⟩
  · skip
    obtain ⟨h', r, K, q⟩ := K2 hc
    exact ⟨h', r, j_iload dX12_arranges_37 rfl <| j_iload_n dX12_arranges_39 rfl rfl <| j_iconst (v := 1) dX12_arranges_40 (by decide) <| j_iadd dX12_arranges_41 <| j_icmp_le_f dX12_arranges_42 83 (by decide) hc K, q⟩
theorem bX12_arranges_45 {h0 h : k_H} {Q : k_H → k_R → Prop} {x0 f1_50 : Nat} {x1 x2 x5 : Int32} {x3 : Int64} {fs1 : List k_V} (o1 : h.1 x0 = some (k_o 15 fs1)) (g1_50 : fs1[50]? = some (vR (some f1_50))) {n2 : Nat} {w2 : Nat → Int64} (o2 : h.1 f1_50 = some (k_j n2 w2)) (y3 : vp_in (x5 - 1) n2) (y4 : vp_in x5 n2) (K : k_X (jX12_arranges G l h0) (k_up h f1_50 (k_j n2 (va_up w2 (x5).toNatClampNeg (w2 (x5 - 1).toNatClampNeg)))) 61 [(0, vR (some x0)), (1, vI x1), (2, vI x2), (3, vJ x3), (5, vI x5)] [] Q) : k_X (jX12_arranges G l h0) h 45 [(0, vR (some x0)), (1, vI x1), (2, vI x2), (3, vJ x3), (5, vI x5)] [] Q := by
  obtain ⟨h', r, K, q⟩ := K
  exact ⟨h', r, j_aload_n dX12_arranges_45 rfl rfl <| j_getf dX12_arranges_46 kf_X12_128 o1 g1_50 <| j_iload dX12_arranges_49 rfl <| j_aload_n dX12_arranges_51 rfl rfl <| j_getf dX12_arranges_52 kf_X12_128 o1 g1_50 <| j_iload dX12_arranges_55 rfl <| j_iconst (v := 1) dX12_arranges_57 (by decide) <| j_isub dX12_arranges_58 <| j_lald dX12_arranges_59 o2 y3 <| j_last dX12_arranges_60 o2 y4 <| K, q⟩
theorem bX12_arranges_61 {h0 h : k_H} {Q : k_H → k_R → Prop} {x0 f1_51 : Nat} {x1 x2 x5 : Int32} {x3 : Int64} {fs1 : List k_V} (o1 : h.1 x0 = some (k_o 15 fs1)) (g1_51 : fs1[51]? = some (vR (some f1_51))) {n2 : Nat} {w2 : Nat → Int32} (o2 : h.1 f1_51 = some (k_i n2 w2)) (y3 : vp_in (x5 - 1) n2) (y4 : vp_in x5 n2) (K : k_X (jX12_arranges G l h0) (k_up h f1_51 (k_i n2 (va_up w2 (x5).toNatClampNeg (w2 (x5 - 1).toNatClampNeg)))) 77 [(0, vR (some x0)), (1, vI x1), (2, vI x2), (3, vJ x3), (5, vI x5)] [] Q) : k_X (jX12_arranges G l h0) h 61 [(0, vR (some x0)), (1, vI x1), (2, vI x2), (3, vJ x3), (5, vI x5)] [] Q := by
  obtain ⟨h', r, K, q⟩ := K
  exact ⟨h', r, j_aload_n dX12_arranges_61 rfl rfl <| j_getf dX12_arranges_62 kf_X12_131 o1 g1_51 <| j_iload dX12_arranges_65 rfl <| j_aload_n dX12_arranges_67 rfl rfl <| j_getf dX12_arranges_68 kf_X12_131 o1 g1_51 <| j_iload dX12_arranges_71 rfl <| j_iconst (v := 1) dX12_arranges_73 (by decide) <| j_isub dX12_arranges_74 <| j_iald dX12_arranges_75 o2 y3 <| j_iast dX12_arranges_76 o2 y4 <| K, q⟩
theorem bX12_arranges_77 {h0 h : k_H} {Q : k_H → k_R → Prop} {x0 : Nat} {x1 x2 x5 : Int32} {x3 : Int64} (K : k_X (jX12_arranges G l h0) h 37 [(0, vR (some x0)), (1, vI x1), (2, vI x2), (3, vJ x3), (5, vI (x5 + (-1)))] [] Q) : k_X (jX12_arranges G l h0) h 77 [(0, vR (some x0)), (1, vI x1), (2, vI x2), (3, vJ x3), (5, vI x5)] [] Q := by
  obtain ⟨h', r, K, q⟩ := K
  exact ⟨h', r, j_iinc (v := x5 + (-1)) dX12_arranges_77 rfl (by decide) rfl rfl <| j_goto (tgt := 37) dX12_arranges_80 (by decide) <| K, q⟩
theorem bX12_arranges_83 {h0 h : k_H} {Q : k_H → k_R → Prop} {x0 f1_50 : Nat} {x1 x2 : Int32} {x3 : Int64} {fs1 : List k_V} (o1 : h.1 x0 = some (k_o 15 fs1)) (g1_50 : fs1[50]? = some (vR (some f1_50))) {n2 : Nat} {w2 : Nat → Int64} (o2 : h.1 f1_50 = some (k_j n2 w2)) (y3 : vp_in (x1 + 1) n2) (K : k_X (jX12_arranges G l h0) (k_up h f1_50 (k_j n2 (va_up w2 (x1 + 1).toNatClampNeg x3))) 92 [(0, vR (some x0)), (1, vI x1), (2, vI x2)] [] Q) : k_X (jX12_arranges G l h0) h 83 [(0, vR (some x0)), (1, vI x1), (2, vI x2), (3, vJ x3)] [] Q := by
  obtain ⟨h', r, K, q⟩ := K
  exact ⟨h', r, j_aload_n dX12_arranges_83 rfl rfl <| j_getf dX12_arranges_84 kf_X12_128 o1 g1_50 <| j_iload_n dX12_arranges_87 rfl rfl <| j_iconst (v := 1) dX12_arranges_88 (by decide) <| j_iadd dX12_arranges_89 <| j_lload_n dX12_arranges_90 rfl rfl <| j_last dX12_arranges_91 o2 y3 <| (j_pick [0, 1, 2] rfl K), q⟩
theorem bX12_arranges_92 {h0 h : k_H} {Q : k_H → k_R → Prop} {x0 f1_51 : Nat} {x1 x2 : Int32} {fs1 : List k_V} (o1 : h.1 x0 = some (k_o 15 fs1)) (g1_51 : fs1[51]? = some (vR (some f1_51))) {n2 : Nat} {w2 : Nat → Int32} (o2 : h.1 f1_51 = some (k_i n2 w2)) (y3 : vp_in (x1 + 1) n2) (K : k_X (jX12_arranges G l h0) (k_up h f1_51 (k_i n2 (va_up w2 (x1 + 1).toNatClampNeg x2))) 101 [(0, vR (some x0)), (1, vI x1)] [] Q) : k_X (jX12_arranges G l h0) h 92 [(0, vR (some x0)), (1, vI x1), (2, vI x2)] [] Q := by
  obtain ⟨h', r, K, q⟩ := K
  exact ⟨h', r, j_aload_n dX12_arranges_92 rfl rfl <| j_getf dX12_arranges_93 kf_X12_131 o1 g1_51 <| j_iload_n dX12_arranges_96 rfl rfl <| j_iconst (v := 1) dX12_arranges_97 (by decide) <| j_iadd dX12_arranges_98 <| j_iload_n dX12_arranges_99 rfl rfl <| j_iast dX12_arranges_100 o2 y3 <| (j_pick [0, 1] rfl K), q⟩
theorem bX12_arranges_101 {h0 h : k_H} {Q : k_H → k_R → Prop} {x0 : Nat} {x1 f1_49 : Int32} {fs1 : List k_V} (o1 : h.1 x0 = some (k_o 15 fs1)) (g1_49 : fs1[49]? = some (vI f1_49)) (z1 : fs1.length = 53) (K : k_X (jX12_arranges G l h0) (k_up h x0 (k_o 15 (fs1.set 49 (vI (f1_49 + 1))))) 111 [(0, vR (some x0)), (1, vI x1)] [] Q) : k_X (jX12_arranges G l h0) h 101 [(0, vR (some x0)), (1, vI x1)] [] Q := by
  obtain ⟨h', r, K, q⟩ := K
  exact ⟨h', r, j_aload_n dX12_arranges_101 rfl rfl <| j_dup dX12_arranges_102 rfl <| j_getf dX12_arranges_103 kf_X12_125 o1 g1_49 <| j_iconst (v := 1) dX12_arranges_106 (by decide) <| j_iadd dX12_arranges_107 <| j_putf dX12_arranges_108 kp_X12_125 o1 (k_ln z1 (by decide)) (k_fit_i _) rfl <| K, q⟩
theorem bX12_arranges_111 {h0 h : k_H} {Q : k_H → k_R → Prop} {x0 : Nat} {x1 : Int32} (K : k_X (jX12_arranges G l h0) h 2 [(0, vR (some x0)), (1, vI x1)] [] Q) : k_X (jX12_arranges G l h0) h 111 [(0, vR (some x0)), (1, vI x1)] [] Q := by
  obtain ⟨h', r, K, q⟩ := K
  exact ⟨h', r, j_goto (tgt := 2) dX12_arranges_111 (by decide) <| K, q⟩
theorem bX12_arranges_114 {h0 h : k_H} {Q : k_H → k_R → Prop} {x0 : Nat} {x1 : Int32} (K : k_X (jX12_arranges G l h0) h 2 [(0, vR (some x0)), (1, vI (x1 + 1))] [] Q) : k_X (jX12_arranges G l h0) h 114 [(0, vR (some x0)), (1, vI x1)] [] Q := by
  obtain ⟨h', r, K, q⟩ := K
  exact ⟨h', r, j_iinc (v := x1 + 1) dX12_arranges_114 rfl (by decide) rfl rfl <| j_goto (tgt := 2) dX12_arranges_117 (by decide) <| K, q⟩
theorem bX12_arranges_120 {h0 h : k_H} {Q : k_H → k_R → Prop} {x0 : Nat} (K : k_X (jX12_arranges G l h0) h 122 [(0, vR (some x0)), (1, vI 0)] [] Q) : k_X (jX12_arranges G l h0) h 120 [(0, vR (some x0))] [] Q := by
  obtain ⟨h', r, K, q⟩ := K
  exact ⟨h', r, j_iconst (v := 0) dX12_arranges_120 (by decide) <| j_istore_n dX12_arranges_121 rfl (by decide) rfl <| K, q⟩
theorem bX12_arranges_122 {h0 h : k_H} {Q : k_H → k_R → Prop} {x0 : Nat} {x1 f1_49 : Int32} {fs1 : List k_V} (o1 : h.1 x0 = some (k_o 15 fs1)) (g1_49 : fs1[49]? = some (vI f1_49)) (K1 : f1_49 ≤ (x1 + 1) → k_X (jX12_arranges G l h0) h 216 [] [] Q) (K2 : ¬ (f1_49 ≤ (x1 + 1)) → k_X (jX12_arranges G l h0) h 132 [(0, vR (some x0)), (1, vI x1)] [] Q) : k_X (jX12_arranges G l h0) h 122 [(0, vR (some x0)), (1, vI x1)] [] Q := by
  by_cases hc : f1_49 ≤ (x1 + 1)
  · skip
    obtain ⟨h', r, K, q⟩ := K1 hc
    exact ⟨h', r, j_iload_n dX12_arranges_122 rfl rfl <| j_iconst (v := 1) dX12_arranges_123 (by decide) <| j_iadd dX12_arranges_124 <| j_aload_n dX12_arranges_125 rfl rfl <| j_getf dX12_arranges_126 kf_X12_125 o1 g1_49 <| j_icmp_ge_t (tgt := 216) dX12_arranges_129 (by decide) hc (j_pick [] rfl K), q⟩
  · skip
    obtain ⟨h', r, K, q⟩ := K2 hc
    exact ⟨h', r, j_iload_n dX12_arranges_122 rfl rfl <| j_iconst (v := 1) dX12_arranges_123 (by decide) <| j_iadd dX12_arranges_124 <| j_aload_n dX12_arranges_125 rfl rfl <| j_getf dX12_arranges_126 kf_X12_125 o1 g1_49 <| j_icmp_ge_f dX12_arranges_129 216 (by decide) hc K, q⟩
theorem bX12_arranges_132 {h0 h : k_H} {Q : k_H → k_R → Prop} {x0 : Nat} {x1 : Int32} (w : k_is h x0 15) {P : k_H → Int32 → Prop} (c : k_cti (tX12_manyOf G l) [vR (some x0), vI x1] h P) (K : ∀ h1 v, P h1 v → k_X (jX12_arranges G l h0) h1 137 [(0, vR (some x0)), (1, vI x1)] [vI v] Q) : k_X (jX12_arranges G l h0) h 132 [(0, vR (some x0)), (1, vI x1)] [] Q := by
  obtain ⟨h1, v, c, p⟩ := c
  obtain ⟨h', r, K, q⟩ := K h1 v p
  exact ⟨h', r, j_aload_n dX12_arranges_132 rfl rfl <| j_iload_n dX12_arranges_133 rfl rfl <| j_callV (v := some (vI v)) (as := [vI x1]) dX12_arranges_134 kc_X12_219 rfl rfl w (by decide) (Nat.le_of_ble_eq_true rfl) c K, q⟩
theorem bX12_arranges_137 {h0 h : k_H} {Q : k_H → k_R → Prop} {x0 : Nat} {x1 s0 : Int32} (w : k_is h x0 15) {P : k_H → Int32 → Prop} (c : k_cti (tX12_manyOf G l) [vR (some x0), vI (x1 + 1)] h P) (K : ∀ h1 v, P h1 v → k_X (jX12_arranges G l h0) h1 144 [(0, vR (some x0)), (1, vI x1)] [vI v, vI s0] Q) : k_X (jX12_arranges G l h0) h 137 [(0, vR (some x0)), (1, vI x1)] [vI s0] Q := by
  obtain ⟨h1, v, c, p⟩ := c
  obtain ⟨h', r, K, q⟩ := K h1 v p
  exact ⟨h', r, j_aload_n dX12_arranges_137 rfl rfl <| j_iload_n dX12_arranges_138 rfl rfl <| j_iconst (v := 1) dX12_arranges_139 (by decide) <| j_iadd dX12_arranges_140 <| j_callV (v := some (vI v)) (as := [vI (x1 + 1)]) dX12_arranges_141 kc_X12_219 rfl rfl w (by decide) (Nat.le_of_ble_eq_true rfl) c K, q⟩
theorem bX12_arranges_144 {h0 h : k_H} {Q : k_H → k_R → Prop} {x0 : Nat} {x1 s0 s1 : Int32} (K1 : 4 ≤ (s0 + s1) → k_X (jX12_arranges G l h0) h 210 [(0, vR (some x0)), (1, vI x1)] [] Q) (K2 : ¬ (4 ≤ (s0 + s1)) → k_X (jX12_arranges G l h0) h 149 [(0, vR (some x0)), (1, vI x1)] [] Q) : k_X (jX12_arranges G l h0) h 144 [(0, vR (some x0)), (1, vI x1)] [vI s1, vI s0] Q := by
  by_cases hc : 4 ≤ (s0 + s1)
  · skip
    obtain ⟨h', r, K, q⟩ := K1 hc
    exact ⟨h', r, j_iadd dX12_arranges_144 <| j_iconst (v := 4) dX12_arranges_145 (by decide) <| j_icmp_ge_t (tgt := 210) dX12_arranges_146 (by decide) hc K, q⟩
  · skip
    obtain ⟨h', r, K, q⟩ := K2 hc
    exact ⟨h', r, j_iadd dX12_arranges_144 <| j_iconst (v := 4) dX12_arranges_145 (by decide) <| j_icmp_ge_f dX12_arranges_146 210 (by decide) hc K, q⟩
theorem bX12_arranges_149 {h0 h : k_H} {Q : k_H → k_R → Prop} {x0 : Nat} {x1 f1_49 : Int32} {fs1 : List k_V} (o1 : h.1 x0 = some (k_o 15 fs1)) (g1_49 : fs1[49]? = some (vI f1_49)) (z1 : fs1.length = 53) (K : k_X (jX12_arranges G l h0) (k_up h x0 (k_o 15 (fs1.set 49 (vI (f1_49 - 1))))) 159 [(0, vR (some x0)), (1, vI x1)] [] Q) : k_X (jX12_arranges G l h0) h 149 [(0, vR (some x0)), (1, vI x1)] [] Q := by
  obtain ⟨h', r, K, q⟩ := K
  exact ⟨h', r, j_aload_n dX12_arranges_149 rfl rfl <| j_dup dX12_arranges_150 rfl <| j_getf dX12_arranges_151 kf_X12_125 o1 g1_49 <| j_iconst (v := 1) dX12_arranges_154 (by decide) <| j_isub dX12_arranges_155 <| j_putf dX12_arranges_156 kp_X12_125 o1 (k_ln z1 (by decide)) (k_fit_i _) rfl <| K, q⟩
theorem bX12_arranges_159 {h0 h : k_H} {Q : k_H → k_R → Prop} {x0 : Nat} {x1 : Int32} (K : k_X (jX12_arranges G l h0) h 163 [(0, vR (some x0)), (2, vI (x1 + 1))] [] Q) : k_X (jX12_arranges G l h0) h 159 [(0, vR (some x0)), (1, vI x1)] [] Q := by
  obtain ⟨h', r, K, q⟩ := K
  exact ⟨h', r, j_iload_n dX12_arranges_159 rfl rfl <| j_iconst (v := 1) dX12_arranges_160 (by decide) <| j_iadd dX12_arranges_161 <| j_istore_n dX12_arranges_162 rfl (by decide) rfl <| (j_pick [0, 2] rfl K), q⟩
theorem bX12_arranges_163 {h0 h : k_H} {Q : k_H → k_R → Prop} {x0 : Nat} {x2 f1_49 : Int32} {fs1 : List k_V} (o1 : h.1 x0 = some (k_o 15 fs1)) (g1_49 : fs1[49]? = some (vI f1_49)) (K1 : f1_49 ≤ x2 → k_X (jX12_arranges G l h0) h 205 [(0, vR (some x0))] [] Q) (K2 : ¬ (f1_49 ≤ x2) → k_X (jX12_arranges G l h0) h 171 [(0, vR (some x0)), (2, vI x2)] [] Q) : k_X (jX12_arranges G l h0) h 163 [(0, vR (some x0)), (2, vI x2)] [] Q := by
  by_cases hc : f1_49 ≤ x2
  · skip
    obtain ⟨h', r, K, q⟩ := K1 hc
    exact ⟨h', r, j_iload_n dX12_arranges_163 rfl rfl <| j_aload_n dX12_arranges_164 rfl rfl <| j_getf dX12_arranges_165 kf_X12_125 o1 g1_49 <| j_icmp_ge_t (tgt := 205) dX12_arranges_168 (by decide) hc (j_pick [0] rfl K), q⟩
  · skip
    obtain ⟨h', r, K, q⟩ := K2 hc
    exact ⟨h', r, j_iload_n dX12_arranges_163 rfl rfl <| j_aload_n dX12_arranges_164 rfl rfl <| j_getf dX12_arranges_165 kf_X12_125 o1 g1_49 <| j_icmp_ge_f dX12_arranges_168 205 (by decide) hc K, q⟩
theorem bX12_arranges_171 {h0 h : k_H} {Q : k_H → k_R → Prop} {x0 f1_50 : Nat} {x2 : Int32} {fs1 : List k_V} (o1 : h.1 x0 = some (k_o 15 fs1)) (g1_50 : fs1[50]? = some (vR (some f1_50))) {n2 : Nat} {w2 : Nat → Int64} (o2 : h.1 f1_50 = some (k_j n2 w2)) (y3 : vp_in (x2 + 1) n2) (y4 : vp_in x2 n2) (K : k_X (jX12_arranges G l h0) (k_up h f1_50 (k_j n2 (va_up w2 (x2).toNatClampNeg (w2 (x2 + 1).toNatClampNeg)))) 185 [(0, vR (some x0)), (2, vI x2)] [] Q) : k_X (jX12_arranges G l h0) h 171 [(0, vR (some x0)), (2, vI x2)] [] Q := by
  obtain ⟨h', r, K, q⟩ := K
  exact ⟨h', r, j_aload_n dX12_arranges_171 rfl rfl <| j_getf dX12_arranges_172 kf_X12_128 o1 g1_50 <| j_iload_n dX12_arranges_175 rfl rfl <| j_aload_n dX12_arranges_176 rfl rfl <| j_getf dX12_arranges_177 kf_X12_128 o1 g1_50 <| j_iload_n dX12_arranges_180 rfl rfl <| j_iconst (v := 1) dX12_arranges_181 (by decide) <| j_iadd dX12_arranges_182 <| j_lald dX12_arranges_183 o2 y3 <| j_last dX12_arranges_184 o2 y4 <| K, q⟩
theorem bX12_arranges_185 {h0 h : k_H} {Q : k_H → k_R → Prop} {x0 f1_51 : Nat} {x2 : Int32} {fs1 : List k_V} (o1 : h.1 x0 = some (k_o 15 fs1)) (g1_51 : fs1[51]? = some (vR (some f1_51))) {n2 : Nat} {w2 : Nat → Int32} (o2 : h.1 f1_51 = some (k_i n2 w2)) (y3 : vp_in (x2 + 1) n2) (y4 : vp_in x2 n2) (K : k_X (jX12_arranges G l h0) (k_up h f1_51 (k_i n2 (va_up w2 (x2).toNatClampNeg (w2 (x2 + 1).toNatClampNeg)))) 199 [(0, vR (some x0)), (2, vI x2)] [] Q) : k_X (jX12_arranges G l h0) h 185 [(0, vR (some x0)), (2, vI x2)] [] Q := by
  obtain ⟨h', r, K, q⟩ := K
  exact ⟨h', r, j_aload_n dX12_arranges_185 rfl rfl <| j_getf dX12_arranges_186 kf_X12_131 o1 g1_51 <| j_iload_n dX12_arranges_189 rfl rfl <| j_aload_n dX12_arranges_190 rfl rfl <| j_getf dX12_arranges_191 kf_X12_131 o1 g1_51 <| j_iload_n dX12_arranges_194 rfl rfl <| j_iconst (v := 1) dX12_arranges_195 (by decide) <| j_iadd dX12_arranges_196 <| j_iald dX12_arranges_197 o2 y3 <| j_iast dX12_arranges_198 o2 y4 <| K, q⟩
theorem bX12_arranges_199 {h0 h : k_H} {Q : k_H → k_R → Prop} {x0 : Nat} {x2 : Int32} (K : k_X (jX12_arranges G l h0) h 163 [(0, vR (some x0)), (2, vI (x2 + 1))] [] Q) : k_X (jX12_arranges G l h0) h 199 [(0, vR (some x0)), (2, vI x2)] [] Q := by
  obtain ⟨h', r, K, q⟩ := K
  exact ⟨h', r, j_iinc (v := x2 + 1) dX12_arranges_199 rfl (by decide) rfl rfl <| j_goto (tgt := 163) dX12_arranges_202 (by decide) <| K, q⟩
theorem bX12_arranges_205 {h0 h : k_H} {Q : k_H → k_R → Prop} {x0 : Nat} (K : k_X (jX12_arranges G l h0) h 122 [(0, vR (some x0)), (1, vI 0)] [] Q) : k_X (jX12_arranges G l h0) h 205 [(0, vR (some x0))] [] Q := by
  obtain ⟨h', r, K, q⟩ := K
  exact ⟨h', r, j_iconst (v := 0) dX12_arranges_205 (by decide) <| j_istore_n dX12_arranges_206 rfl (by decide) rfl <| j_goto (tgt := 122) dX12_arranges_207 (by decide) <| K, q⟩
theorem bX12_arranges_210 {h0 h : k_H} {Q : k_H → k_R → Prop} {x0 : Nat} {x1 : Int32} (K : k_X (jX12_arranges G l h0) h 122 [(0, vR (some x0)), (1, vI (x1 + 1))] [] Q) : k_X (jX12_arranges G l h0) h 210 [(0, vR (some x0)), (1, vI x1)] [] Q := by
  obtain ⟨h', r, K, q⟩ := K
  exact ⟨h', r, j_iinc (v := x1 + 1) dX12_arranges_210 rfl (by decide) rfl rfl <| j_goto (tgt := 122) dX12_arranges_213 (by decide) <| K, q⟩
theorem bX12_arranges_216 {h0 h : k_H} {Q : k_H → k_R → Prop} (q : Q h (.inl none)) : k_X (jX12_arranges G l h0) h 216 [] [] Q := by
  exact ⟨_, _, j_vret dX12_arranges_216 rfl, q⟩
theorem eX12_changeAt {G : k_G} {l : Launch} (hfl : l.flags = flags0) {h : k_H} {Q : k_H → k_R → Prop} {x0 : Nat} {x1 : Int32} {x2 : Int32} (K : k_X (jX12_changeAt G l h) h 0 [(1, vI x1), (2, vI x2)] [] Q) : k_ct (tX12_changeAt G l) [vR (some x0), vI x1, vI x2] h Q := by
  obtain ⟨h', r, K, q⟩ := K
  exact ⟨h', r, k_CtOf (by decide +kernel) (Nat.le_of_ble_eq_true rfl) (j_pick [1, 2] rfl K) hfl, q⟩

theorem bX12_changeAt_0 {h0 h : k_H} {Q : k_H → k_R → Prop} {x1 x2 : Int32} (q : Q h (.inl (some (vI ((4096 * x1) + x2))))) : k_X (jX12_changeAt G l h0) h 0 [(1, vI x1), (2, vI x2)] [] Q := by
  exact ⟨_, _, j_sipush (v := 4096) dX12_changeAt_0 (by decide) <| j_iload_n dX12_changeAt_3 rfl rfl <| j_imul dX12_changeAt_4 <| j_iload_n dX12_changeAt_5 rfl rfl <| j_iadd dX12_changeAt_6 <| j_iret dX12_changeAt_7 rfl, q⟩
theorem eX12_sees {G : k_G} {l : Launch} (hfl : l.flags = flags0) {h : k_H} {Q : k_H → k_R → Prop} {x0 : Nat} {x1 : Int32} {x2 : Int64} (K : k_X (jX12_sees G l h) h 0 [(0, vR (some x0)), (1, vI x1), (2, vJ x2)] [] Q) : k_ct (tX12_sees G l) [vR (some x0), vI x1, vJ x2] h Q := by
  obtain ⟨h', r, K, q⟩ := K
  exact ⟨h', r, k_CtOf (by decide +kernel) (Nat.le_of_ble_eq_true rfl) K hfl, q⟩

theorem bX12_sees_0 {h0 h : k_H} {Q : k_H → k_R → Prop} {x0 : Nat} {x1 : Int32} {x2 : Int64} (w : k_is h x0 15) {P : k_H → Int32 → Prop} (c : k_cti (tX12_placeOf G l) [vR (some x0), vJ x2] h P) (K : ∀ h1 v, P h1 v → k_X (jX12_sees G l h0) h1 5 [(0, vR (some x0)), (1, vI x1), (2, vJ x2)] [vI v] Q) : k_X (jX12_sees G l h0) h 0 [(0, vR (some x0)), (1, vI x1), (2, vJ x2)] [] Q := by
  obtain ⟨h1, v, c, p⟩ := c
  obtain ⟨h', r, K, q⟩ := K h1 v p
  exact ⟨h', r, j_aload_n dX12_sees_0 rfl rfl <| j_lload_n dX12_sees_1 rfl rfl <| j_callV (v := some (vI v)) (as := [vJ x2]) dX12_sees_2 kc_X12_164 rfl rfl w (by decide) (Nat.le_of_ble_eq_true rfl) c K, q⟩
theorem bX12_sees_5 {h0 h : k_H} {Q : k_H → k_R → Prop} {x0 : Nat} {x1 s0 : Int32} {x2 : Int64} (w : k_is h x0 15) {P : k_H → Int32 → Prop} (c : k_cti (tX12_isNamed G l) [vR (some x0), vI s0, vJ x2] h P) (K : ∀ h1 v, P h1 v → k_X (jX12_sees G l h0) h1 14 [(0, vR (some x0)), (1, vI x1), (2, vJ x2), (4, vI s0)] [vI v] Q) : k_X (jX12_sees G l h0) h 5 [(0, vR (some x0)), (1, vI x1), (2, vJ x2)] [vI s0] Q := by
  obtain ⟨h1, v, c, p⟩ := c
  obtain ⟨h', r, K, q⟩ := K h1 v p
  exact ⟨h', r, j_istore dX12_sees_5 (by decide) rfl <| j_aload_n dX12_sees_7 rfl rfl <| j_iload dX12_sees_8 rfl <| j_lload_n dX12_sees_10 rfl rfl <| j_callV (v := some (vI v)) (as := [vI s0, vJ x2]) dX12_sees_11 kc_X12_168 rfl rfl w (by decide) (Nat.le_of_ble_eq_true rfl) c K, q⟩
theorem bX12_sees_14 {h0 h : k_H} {Q : k_H → k_R → Prop} {x0 : Nat} {x1 x4 s0 : Int32} {x2 : Int64} (K1 : s0 = 0 → k_X (jX12_sees G l h0) h 41 [(0, vR (some x0)), (1, vI x1), (2, vJ x2), (4, vI x4)] [vR (some x0)] Q) (K2 : ¬ (s0 = 0) → k_X (jX12_sees G l h0) h 22 [(0, vR (some x0)), (1, vI x1), (2, vJ x2), (4, vI x4)] [vR (some x0)] Q) : k_X (jX12_sees G l h0) h 14 [(0, vR (some x0)), (1, vI x1), (2, vJ x2), (4, vI x4)] [vI s0] Q := by
  by_cases hc : s0 = 0
  · skip
    obtain ⟨h', r, K, q⟩ := K1 hc
    exact ⟨h', r, j_istore dX12_sees_14 (by decide) rfl <| j_aload_n dX12_sees_16 rfl rfl <| j_iload dX12_sees_17 rfl <| j_if_eq_t (tgt := 41) dX12_sees_19 (by decide) hc (j_pick [0, 1, 2, 3] rfl K), q⟩
  · skip
    obtain ⟨h', r, K, q⟩ := K2 hc
    exact ⟨h', r, j_istore dX12_sees_14 (by decide) rfl <| j_aload_n dX12_sees_16 rfl rfl <| j_iload dX12_sees_17 rfl <| j_if_eq_f dX12_sees_19 41 (by decide) hc (j_pick [0, 1, 2, 3] rfl K), q⟩
theorem bX12_sees_22 {h0 h : k_H} {Q : k_H → k_R → Prop} {x0 f1_16 : Nat} {x1 x4 : Int32} {x2 : Int64} {s0 : Option Nat} {fs1 : List k_V} (o1 : h.1 x0 = some (k_o 15 fs1)) (g1_16 : fs1[16]? = some (vR (some f1_16))) {n2 : Nat} {w2 : Nat → Int32} (o2 : h.1 f1_16 = some (k_i n2 w2)) (y3 : vp_in x1 n2) {P : k_H → Int32 → Prop} (c : k_cti (tX12_hasAt G l) [vR (some x0), vI x4, vI (w2 (x1).toNatClampNeg)] h P) (K : ∀ h1 v, P h1 v → k_X (jX12_sees G l h0) h1 34 [(0, vR (some x0)), (1, vI x1), (2, vJ x2), (4, vI x4)] [vI v, vR s0] Q) : k_X (jX12_sees G l h0) h 22 [(0, vR (some x0)), (1, vI x1), (2, vJ x2), (4, vI x4)] [vR s0] Q := by
  obtain ⟨h1, v, c, p⟩ := c
  obtain ⟨h', r, K, q⟩ := K h1 v p
  exact ⟨h', r, j_aload_n dX12_sees_22 rfl rfl <| j_iload dX12_sees_23 rfl <| j_aload_n dX12_sees_25 rfl rfl <| j_getf dX12_sees_26 kf_X12_48 o1 g1_16 <| j_iload_n dX12_sees_29 rfl rfl <| j_iald dX12_sees_30 o2 y3 <| j_callV (v := some (vI v)) (as := [vI x4, vI (w2 (x1).toNatClampNeg)]) dX12_sees_31 kc_X12_179 rfl rfl (k_is_o o1) (by decide) (Nat.le_of_ble_eq_true rfl) c K, q⟩
theorem bX12_sees_34 {h0 h : k_H} {Q : k_H → k_R → Prop} {x0 : Nat} {x1 x4 s1 : Int32} {x2 : Int64} {s0 : Option Nat} (K1 : s1 = 0 → k_X (jX12_sees G l h0) h 41 [(0, vR (some x0)), (1, vI x1), (2, vJ x2), (4, vI x4)] [vR s0] Q) (K2 : ¬ (s1 = 0) → k_X (jX12_sees G l h0) h 37 [(0, vR (some x0)), (1, vI x1), (2, vJ x2), (4, vI x4)] [vR s0] Q) : k_X (jX12_sees G l h0) h 34 [(0, vR (some x0)), (1, vI x1), (2, vJ x2), (4, vI x4)] [vI s1, vR s0] Q := by
  by_cases hc : s1 = 0
  · skip
    obtain ⟨h', r, K, q⟩ := K1 hc
    exact ⟨h', r, j_if_eq_t (tgt := 41) dX12_sees_34 (by decide) hc K, q⟩
  · skip
    obtain ⟨h', r, K, q⟩ := K2 hc
    exact ⟨h', r, j_if_eq_f dX12_sees_34 41 (by decide) hc K, q⟩
theorem bX12_sees_37 {h0 h : k_H} {Q : k_H → k_R → Prop} {x0 : Nat} {x1 x4 : Int32} {x2 : Int64} {s0 : Option Nat} (K : k_X (jX12_sees G l h0) h 42 [(0, vR (some x0)), (1, vI x1), (2, vJ x2), (4, vI x4)] [vI 1, vR s0] Q) : k_X (jX12_sees G l h0) h 37 [(0, vR (some x0)), (1, vI x1), (2, vJ x2), (4, vI x4)] [vR s0] Q := by
  obtain ⟨h', r, K, q⟩ := K
  exact ⟨h', r, j_iconst (v := 1) dX12_sees_37 (by decide) <| j_goto (tgt := 42) dX12_sees_38 (by decide) <| K, q⟩
theorem bX12_sees_41 {h0 h : k_H} {Q : k_H → k_R → Prop} {x0 : Nat} {x1 x4 : Int32} {x2 : Int64} {s0 : Option Nat} (K : k_X (jX12_sees G l h0) h 42 [(0, vR (some x0)), (1, vI x1), (2, vJ x2), (4, vI x4)] [vI 0, vR s0] Q) : k_X (jX12_sees G l h0) h 41 [(0, vR (some x0)), (1, vI x1), (2, vJ x2), (4, vI x4)] [vR s0] Q := by
  obtain ⟨h', r, K, q⟩ := K
  exact ⟨h', r, j_iconst (v := 0) dX12_sees_41 (by decide) <| K, q⟩
theorem bX12_sees_42 {h0 h : k_H} {Q : k_H → k_R → Prop} {x0 s0 : Nat} {x1 x4 s1 : Int32} {x2 : Int64} {fs1 : List k_V} (o1 : h.1 s0 = some (k_o 15 fs1)) (y2 : k_bl s1) (z1 : fs1.length = 53) (K : k_X (jX12_sees G l h0) (k_up h s0 (k_o 15 (fs1.set 33 (vI s1)))) 45 [(0, vR (some x0)), (1, vI x1), (2, vJ x2), (4, vI x4)] [] Q) : k_X (jX12_sees G l h0) h 42 [(0, vR (some x0)), (1, vI x1), (2, vJ x2), (4, vI x4)] [vI s1, vR (some s0)] Q := by
  obtain ⟨h', r, K, q⟩ := K
  exact ⟨h', r, j_putf dX12_sees_42 kp_X12_230 o1 (k_ln z1 (by decide)) (k_fit_z y2) rfl <| K, q⟩
theorem bX12_sees_45 {h0 h : k_H} {Q : k_H → k_R → Prop} {x0 : Nat} {x1 x4 f1_33 : Int32} {x2 : Int64} {fs1 : List k_V} (o1 : h.1 x0 = some (k_o 15 fs1)) (g1_33 : fs1[33]? = some (vI f1_33)) (K1 : f1_33 = 0 → k_X (jX12_sees G l h0) h 68 [(0, vR (some x0)), (1, vI x1), (2, vJ x2)] [vR (some x0)] Q) (K2 : ¬ (f1_33 = 0) → k_X (jX12_sees G l h0) h 53 [(0, vR (some x0)), (1, vI x1), (2, vJ x2), (4, vI x4)] [vR (some x0)] Q) : k_X (jX12_sees G l h0) h 45 [(0, vR (some x0)), (1, vI x1), (2, vJ x2), (4, vI x4)] [] Q := by
  by_cases hc : f1_33 = 0
  · skip
    obtain ⟨h', r, K, q⟩ := K1 hc
    exact ⟨h', r, j_aload_n dX12_sees_45 rfl rfl <| j_aload_n dX12_sees_46 rfl rfl <| j_getf dX12_sees_47 kf_X12_230 o1 g1_33 <| j_if_eq_t (tgt := 68) dX12_sees_50 (by decide) hc (j_pick [0, 1, 2] rfl K), q⟩
  · skip
    obtain ⟨h', r, K, q⟩ := K2 hc
    exact ⟨h', r, j_aload_n dX12_sees_45 rfl rfl <| j_aload_n dX12_sees_46 rfl rfl <| j_getf dX12_sees_47 kf_X12_230 o1 g1_33 <| j_if_eq_f dX12_sees_50 68 (by decide) hc K, q⟩
theorem bX12_sees_53 {h0 h : k_H} {Q : k_H → k_R → Prop} {x0 f1_16 : Nat} {x1 x4 : Int32} {x2 : Int64} {s0 : Option Nat} {fs1 : List k_V} (o1 : h.1 x0 = some (k_o 15 fs1)) (g1_16 : fs1[16]? = some (vR (some f1_16))) {n2 : Nat} {w2 : Nat → Int32} (o2 : h.1 f1_16 = some (k_i n2 w2)) (y3 : vp_in x1 n2) {P : k_H → Int32 → Prop} (c : k_cti (tX12_valueAt G l) [vR (some x0), vI x4, vI (w2 (x1).toNatClampNeg)] h P) (K : ∀ h1 v, P h1 v → k_X (jX12_sees G l h0) h1 65 [(0, vR (some x0)), (1, vI x1), (2, vJ x2)] [vI v, vR s0] Q) : k_X (jX12_sees G l h0) h 53 [(0, vR (some x0)), (1, vI x1), (2, vJ x2), (4, vI x4)] [vR s0] Q := by
  obtain ⟨h1, v, c, p⟩ := c
  obtain ⟨h', r, K, q⟩ := K h1 v p
  exact ⟨h', r, j_aload_n dX12_sees_53 rfl rfl <| j_iload dX12_sees_54 rfl <| j_aload_n dX12_sees_56 rfl rfl <| j_getf dX12_sees_57 kf_X12_48 o1 g1_16 <| j_iload_n dX12_sees_60 rfl rfl <| j_iald dX12_sees_61 o2 y3 <| j_callV (v := some (vI v)) (as := [vI x4, vI (w2 (x1).toNatClampNeg)]) dX12_sees_62 kc_X12_183 rfl rfl (k_is_o o1) (by decide) (Nat.le_of_ble_eq_true rfl) c (j_pick [0, 1, 2] rfl K), q⟩
theorem bX12_sees_65 {h0 h : k_H} {Q : k_H → k_R → Prop} {x0 : Nat} {x1 s1 : Int32} {x2 : Int64} {s0 : Option Nat} (K : k_X (jX12_sees G l h0) h 69 [(0, vR (some x0)), (1, vI x1), (2, vJ x2)] [vI s1, vR s0] Q) : k_X (jX12_sees G l h0) h 65 [(0, vR (some x0)), (1, vI x1), (2, vJ x2)] [vI s1, vR s0] Q := by
  obtain ⟨h', r, K, q⟩ := K
  exact ⟨h', r, j_goto (tgt := 69) dX12_sees_65 (by decide) <| K, q⟩
theorem bX12_sees_68 {h0 h : k_H} {Q : k_H → k_R → Prop} {x0 : Nat} {x1 : Int32} {x2 : Int64} {s0 : Option Nat} (K : k_X (jX12_sees G l h0) h 69 [(0, vR (some x0)), (1, vI x1), (2, vJ x2)] [vI 0, vR s0] Q) : k_X (jX12_sees G l h0) h 68 [(0, vR (some x0)), (1, vI x1), (2, vJ x2)] [vR s0] Q := by
  obtain ⟨h', r, K, q⟩ := K
  exact ⟨h', r, j_iconst (v := 0) dX12_sees_68 (by decide) <| K, q⟩
theorem bX12_sees_69 {h0 h : k_H} {Q : k_H → k_R → Prop} {x0 s0 : Nat} {x1 s1 : Int32} {x2 : Int64} {fs1 : List k_V} (o1 : h.1 s0 = some (k_o 15 fs1)) (z1 : fs1.length = 53) (K : k_X (jX12_sees G l h0) (k_up h s0 (k_o 15 (fs1.set 34 (vI s1)))) 72 [(0, vR (some x0)), (1, vI x1), (2, vJ x2)] [] Q) : k_X (jX12_sees G l h0) h 69 [(0, vR (some x0)), (1, vI x1), (2, vJ x2)] [vI s1, vR (some s0)] Q := by
  obtain ⟨h', r, K, q⟩ := K
  exact ⟨h', r, j_putf dX12_sees_69 kp_X12_234 o1 (k_ln z1 (by decide)) (k_fit_i _) rfl <| K, q⟩
theorem bX12_sees_72 {h0 h : k_H} {Q : k_H → k_R → Prop} {x0 : Nat} {x1 : Int32} {x2 : Int64} {fs1 : List k_V} (o1 : h.1 x0 = some (k_o 15 fs1)) (z1 : fs1.length = 53) (K : k_X (jX12_sees G l h0) (k_up h x0 (k_o 15 (fs1.set 35 (vI 0)))) 77 [(0, vR (some x0)), (1, vI x1), (2, vJ x2)] [] Q) : k_X (jX12_sees G l h0) h 72 [(0, vR (some x0)), (1, vI x1), (2, vJ x2)] [] Q := by
  obtain ⟨h', r, K, q⟩ := K
  exact ⟨h', r, j_aload_n dX12_sees_72 rfl rfl <| j_iconst (v := 0) dX12_sees_73 (by decide) <| j_putf dX12_sees_74 kp_X12_237 o1 (k_ln z1 (by decide)) (k_fit_z (by decide)) rfl <| K, q⟩
theorem bX12_sees_77 {h0 h : k_H} {Q : k_H → k_R → Prop} {x0 : Nat} {x1 : Int32} {x2 : Int64} (K : k_X (jX12_sees G l h0) h 80 [(0, vR (some x0)), (1, vI x1), (2, vJ x2), (6, vI 0)] [] Q) : k_X (jX12_sees G l h0) h 77 [(0, vR (some x0)), (1, vI x1), (2, vJ x2)] [] Q := by
  obtain ⟨h', r, K, q⟩ := K
  exact ⟨h', r, j_iconst (v := 0) dX12_sees_77 (by decide) <| j_istore dX12_sees_78 (by decide) rfl <| K, q⟩
theorem bX12_sees_80 {h0 h : k_H} {Q : k_H → k_R → Prop} {x0 f1_20 : Nat} {x1 x6 : Int32} {x2 : Int64} {fs1 : List k_V} (o1 : h.1 x0 = some (k_o 15 fs1)) (g1_20 : fs1[20]? = some (vR (some f1_20))) {n2 : Nat} {w2 : Nat → Int32} (o2 : h.1 f1_20 = some (k_i n2 w2)) (y3 : vp_in x1 n2) (K1 : (w2 (x1).toNatClampNeg) ≤ x6 → k_X (jX12_sees G l h0) h 172 [] [] Q) (K2 : ¬ ((w2 (x1).toNatClampNeg) ≤ x6) → k_X (jX12_sees G l h0) h 91 [(0, vR (some x0)), (1, vI x1), (2, vJ x2), (6, vI x6)] [] Q) : k_X (jX12_sees G l h0) h 80 [(0, vR (some x0)), (1, vI x1), (2, vJ x2), (6, vI x6)] [] Q := by
  by_cases hc : (w2 (x1).toNatClampNeg) ≤ x6
  · skip
    obtain ⟨h', r, K, q⟩ := K1 hc
    exact ⟨h', r, j_iload dX12_sees_80 rfl <| j_aload_n dX12_sees_82 rfl rfl <| j_getf dX12_sees_83 kf_X12_57 o1 g1_20 <| j_iload_n dX12_sees_86 rfl rfl <| j_iald dX12_sees_87 o2 y3 <| j_icmp_ge_t (tgt := 172) dX12_sees_88 (by decide) hc (j_pick [] rfl K), q⟩
  · skip
    obtain ⟨h', r, K, q⟩ := K2 hc
    exact ⟨h', r, j_iload dX12_sees_80 rfl <| j_aload_n dX12_sees_82 rfl rfl <| j_getf dX12_sees_83 kf_X12_57 o1 g1_20 <| j_iload_n dX12_sees_86 rfl rfl <| j_iald dX12_sees_87 o2 y3 <| j_icmp_ge_f dX12_sees_88 172 (by decide) hc K, q⟩
theorem bX12_sees_91 {h0 h : k_H} {Q : k_H → k_R → Prop} {x0 : Nat} {x1 x6 : Int32} {x2 : Int64} (w : k_is h x0 15) {P : k_H → Int32 → Prop} (c : k_cti (tX12_changeAt G l) [vR (some x0), vI x1, vI x6] h P) (K : ∀ h1 v, P h1 v → k_X (jX12_sees G l h0) h1 98 [(0, vR (some x0)), (1, vI x1), (2, vJ x2), (6, vI x6)] [vI v] Q) : k_X (jX12_sees G l h0) h 91 [(0, vR (some x0)), (1, vI x1), (2, vJ x2), (6, vI x6)] [] Q := by
  obtain ⟨h1, v, c, p⟩ := c
  obtain ⟨h', r, K, q⟩ := K h1 v p
  exact ⟨h', r, j_aload_n dX12_sees_91 rfl rfl <| j_iload_n dX12_sees_92 rfl rfl <| j_iload dX12_sees_93 rfl <| j_callV (v := some (vI v)) (as := [vI x1, vI x6]) dX12_sees_95 kc_X12_240 rfl rfl w (by decide) (Nat.le_of_ble_eq_true rfl) c K, q⟩
theorem bX12_sees_98 {h0 h : k_H} {Q : k_H → k_R → Prop} {x0 f1_21 : Nat} {x1 x6 s0 : Int32} {x2 : Int64} {fs1 : List k_V} (o1 : h.1 x0 = some (k_o 15 fs1)) (g1_21 : fs1[21]? = some (vR (some f1_21))) {n2 : Nat} {w2 : Nat → Int32} (o2 : h.1 f1_21 = some (k_i n2 w2)) (y3 : vp_in s0 n2) (K1 : (w2 (s0).toNatClampNeg) = 6 → k_X (jX12_sees G l h0) h 166 [(0, vR (some x0)), (1, vI x1), (2, vJ x2), (6, vI x6)] [] Q) (K2 : ¬ ((w2 (s0).toNatClampNeg) = 6) → k_X (jX12_sees G l h0) h 112 [(0, vR (some x0)), (1, vI x1), (2, vJ x2), (6, vI x6), (7, vI s0)] [] Q) : k_X (jX12_sees G l h0) h 98 [(0, vR (some x0)), (1, vI x1), (2, vJ x2), (6, vI x6)] [vI s0] Q := by
  by_cases hc : (w2 (s0).toNatClampNeg) = 6
  · skip
    obtain ⟨h', r, K, q⟩ := K1 hc
    exact ⟨h', r, j_istore dX12_sees_98 (by decide) rfl <| j_aload_n dX12_sees_100 rfl rfl <| j_getf dX12_sees_101 kf_X12_60 o1 g1_21 <| j_iload dX12_sees_104 rfl <| j_iald dX12_sees_106 o2 y3 <| j_bipush (v := 6) dX12_sees_107 (by decide) <| j_icmp_eq_t (tgt := 166) dX12_sees_109 (by decide) hc (j_pick [0, 1, 2, 3] rfl K), q⟩
  · skip
    obtain ⟨h', r, K, q⟩ := K2 hc
    exact ⟨h', r, j_istore dX12_sees_98 (by decide) rfl <| j_aload_n dX12_sees_100 rfl rfl <| j_getf dX12_sees_101 kf_X12_60 o1 g1_21 <| j_iload dX12_sees_104 rfl <| j_iald dX12_sees_106 o2 y3 <| j_bipush (v := 6) dX12_sees_107 (by decide) <| j_icmp_eq_f dX12_sees_109 166 (by decide) hc K, q⟩
theorem bX12_sees_112 {h0 h : k_H} {Q : k_H → k_R → Prop} {x0 f1_21 : Nat} {x1 x6 x7 : Int32} {x2 : Int64} {fs1 : List k_V} (o1 : h.1 x0 = some (k_o 15 fs1)) (g1_21 : fs1[21]? = some (vR (some f1_21))) {n2 : Nat} {w2 : Nat → Int32} (o2 : h.1 f1_21 = some (k_i n2 w2)) (y3 : vp_in x7 n2) (K1 : (w2 (x7).toNatClampNeg) = 8 → k_X (jX12_sees G l h0) h 166 [(0, vR (some x0)), (1, vI x1), (2, vJ x2), (6, vI x6)] [] Q) (K2 : ¬ ((w2 (x7).toNatClampNeg) = 8) → k_X (jX12_sees G l h0) h 124 [(0, vR (some x0)), (1, vI x1), (2, vJ x2), (6, vI x6), (7, vI x7)] [] Q) : k_X (jX12_sees G l h0) h 112 [(0, vR (some x0)), (1, vI x1), (2, vJ x2), (6, vI x6), (7, vI x7)] [] Q := by
  by_cases hc : (w2 (x7).toNatClampNeg) = 8
  · skip
    obtain ⟨h', r, K, q⟩ := K1 hc
    exact ⟨h', r, j_aload_n dX12_sees_112 rfl rfl <| j_getf dX12_sees_113 kf_X12_60 o1 g1_21 <| j_iload dX12_sees_116 rfl <| j_iald dX12_sees_118 o2 y3 <| j_bipush (v := 8) dX12_sees_119 (by decide) <| j_icmp_eq_t (tgt := 166) dX12_sees_121 (by decide) hc (j_pick [0, 1, 2, 3] rfl K), q⟩
  · skip
    obtain ⟨h', r, K, q⟩ := K2 hc
    exact ⟨h', r, j_aload_n dX12_sees_112 rfl rfl <| j_getf dX12_sees_113 kf_X12_60 o1 g1_21 <| j_iload dX12_sees_116 rfl <| j_iald dX12_sees_118 o2 y3 <| j_bipush (v := 8) dX12_sees_119 (by decide) <| j_icmp_eq_f dX12_sees_121 166 (by decide) hc K, q⟩
theorem bX12_sees_124 {h0 h : k_H} {Q : k_H → k_R → Prop} {x0 f1_22 : Nat} {x1 x6 x7 : Int32} {x2 : Int64} {fs1 : List k_V} (o1 : h.1 x0 = some (k_o 15 fs1)) (g1_22 : fs1[22]? = some (vR (some f1_22))) {n2 : Nat} {w2 : Nat → Int64} (o2 : h.1 f1_22 = some (k_j n2 w2)) (y3 : vp_in x7 n2) (K1 : x2 < (w2 (x7).toNatClampNeg) → k_X (jX12_sees G l h0) h 166 [(0, vR (some x0)), (1, vI x1), (2, vJ x2), (6, vI x6)] [] Q) (K2 : ¬ (x2 < (w2 (x7).toNatClampNeg)) → k_X (jX12_sees G l h0) h 136 [(0, vR (some x0)), (1, vI x1), (2, vJ x2), (6, vI x6), (7, vI x7)] [] Q) : k_X (jX12_sees G l h0) h 124 [(0, vR (some x0)), (1, vI x1), (2, vJ x2), (6, vI x6), (7, vI x7)] [] Q := by
  by_cases hc : x2 < (w2 (x7).toNatClampNeg)
  · skip
    obtain ⟨h', r, K, q⟩ := K1 hc
    exact ⟨h', r, j_lload_n dX12_sees_124 rfl rfl <| j_aload_n dX12_sees_125 rfl rfl <| j_getf dX12_sees_126 kf_X12_63 o1 g1_22 <| j_iload dX12_sees_129 rfl <| j_lald dX12_sees_131 o2 y3 <| j_lcmp dX12_sees_132 <| j_if_lt_t (tgt := 166) dX12_sees_133 (by decide) ((lg_cmp_lt _ _).mpr hc) (j_pick [0, 1, 2, 3] rfl K), q⟩
  · skip
    obtain ⟨h', r, K, q⟩ := K2 hc
    exact ⟨h', r, j_lload_n dX12_sees_124 rfl rfl <| j_aload_n dX12_sees_125 rfl rfl <| j_getf dX12_sees_126 kf_X12_63 o1 g1_22 <| j_iload dX12_sees_129 rfl <| j_lald dX12_sees_131 o2 y3 <| j_lcmp dX12_sees_132 <| j_if_lt_f dX12_sees_133 166 (by decide) ((not_congr (lg_cmp_lt _ _)).mpr hc) K, q⟩
theorem bX12_sees_136 {h0 h : k_H} {Q : k_H → k_R → Prop} {x0 f1_23 : Nat} {x1 x6 x7 : Int32} {x2 : Int64} {fs1 : List k_V} (o1 : h.1 x0 = some (k_o 15 fs1)) (g1_23 : fs1[23]? = some (vR (some f1_23))) {n2 : Nat} {w2 : Nat → Int64} (o2 : h.1 f1_23 = some (k_j n2 w2)) (y3 : vp_in x7 n2) (K1 : (w2 (x7).toNatClampNeg) < x2 → k_X (jX12_sees G l h0) h 166 [(0, vR (some x0)), (1, vI x1), (2, vJ x2), (6, vI x6)] [] Q) (K2 : ¬ ((w2 (x7).toNatClampNeg) < x2) → k_X (jX12_sees G l h0) h 148 [(0, vR (some x0)), (1, vI x1), (2, vJ x2), (6, vI x6), (7, vI x7)] [] Q) : k_X (jX12_sees G l h0) h 136 [(0, vR (some x0)), (1, vI x1), (2, vJ x2), (6, vI x6), (7, vI x7)] [] Q := by
  by_cases hc : (w2 (x7).toNatClampNeg) < x2
  · skip
    obtain ⟨h', r, K, q⟩ := K1 hc
    exact ⟨h', r, j_lload_n dX12_sees_136 rfl rfl <| j_aload_n dX12_sees_137 rfl rfl <| j_getf dX12_sees_138 kf_X12_66 o1 g1_23 <| j_iload dX12_sees_141 rfl <| j_lald dX12_sees_143 o2 y3 <| j_lcmp dX12_sees_144 <| j_if_gt_t (tgt := 166) dX12_sees_145 (by decide) ((lg_cmp_gt _ _).mpr hc) (j_pick [0, 1, 2, 3] rfl K), q⟩
  · skip
    obtain ⟨h', r, K, q⟩ := K2 hc
    exact ⟨h', r, j_lload_n dX12_sees_136 rfl rfl <| j_aload_n dX12_sees_137 rfl rfl <| j_getf dX12_sees_138 kf_X12_66 o1 g1_23 <| j_iload dX12_sees_141 rfl <| j_lald dX12_sees_143 o2 y3 <| j_lcmp dX12_sees_144 <| j_if_gt_f dX12_sees_145 166 (by decide) ((not_congr (lg_cmp_gt _ _)).mpr hc) K, q⟩
theorem bX12_sees_148 {h0 h : k_H} {Q : k_H → k_R → Prop} {x0 f1_21 f1_24 : Nat} {x1 x6 x7 : Int32} {x2 : Int64} {fs1 : List k_V} (o1 : h.1 x0 = some (k_o 15 fs1)) (g1_21 : fs1[21]? = some (vR (some f1_21))) {n2 : Nat} {w2 : Nat → Int32} (o2 : h.1 f1_21 = some (k_i n2 w2)) (y3 : vp_in x7 n2) (g1_24 : fs1[24]? = some (vR (some f1_24))) {n4 : Nat} {w4 : Nat → Int32} (o4 : h.1 f1_24 = some (k_i n4 w4)) (y5 : vp_in x7 n4) {P : k_H → Prop} (c : k_ctv (tX12_follows G l) [vR (some x0), vI (w2 (x7).toNatClampNeg), vI (w4 (x7).toNatClampNeg)] h P) (K : ∀ h1, P h1 → k_X (jX12_sees G l h0) h1 166 [(0, vR (some x0)), (1, vI x1), (2, vJ x2), (6, vI x6)] [] Q) : k_X (jX12_sees G l h0) h 148 [(0, vR (some x0)), (1, vI x1), (2, vJ x2), (6, vI x6), (7, vI x7)] [] Q := by
  obtain ⟨h1, c, p⟩ := c
  obtain ⟨h', r, K, q⟩ := K h1 p
  exact ⟨h', r, j_aload_n dX12_sees_148 rfl rfl <| j_aload_n dX12_sees_149 rfl rfl <| j_getf dX12_sees_150 kf_X12_60 o1 g1_21 <| j_iload dX12_sees_153 rfl <| j_iald dX12_sees_155 o2 y3 <| j_aload_n dX12_sees_156 rfl rfl <| j_getf dX12_sees_157 kf_X12_69 o1 g1_24 <| j_iload dX12_sees_160 rfl <| j_iald dX12_sees_162 o4 y5 <| j_callV (v := none) (as := [vI (w2 (x7).toNatClampNeg), vI (w4 (x7).toNatClampNeg)]) dX12_sees_163 kc_X12_243 rfl rfl (k_is_o o1) (by decide) (Nat.le_of_ble_eq_true rfl) c (j_pick [0, 1, 2, 3] rfl K), q⟩
theorem bX12_sees_166 {h0 h : k_H} {Q : k_H → k_R → Prop} {x0 : Nat} {x1 x6 : Int32} {x2 : Int64} (K : k_X (jX12_sees G l h0) h 80 [(0, vR (some x0)), (1, vI x1), (2, vJ x2), (6, vI (x6 + 1))] [] Q) : k_X (jX12_sees G l h0) h 166 [(0, vR (some x0)), (1, vI x1), (2, vJ x2), (6, vI x6)] [] Q := by
  obtain ⟨h', r, K, q⟩ := K
  exact ⟨h', r, j_iinc (v := x6 + 1) dX12_sees_166 rfl (by decide) rfl rfl <| j_goto (tgt := 80) dX12_sees_169 (by decide) <| K, q⟩
theorem bX12_sees_172 {h0 h : k_H} {Q : k_H → k_R → Prop} (q : Q h (.inl none)) : k_X (jX12_sees G l h0) h 172 [] [] Q := by
  exact ⟨_, _, j_vret dX12_sees_172 rfl, q⟩
theorem eX12_follows {G : k_G} {l : Launch} (hfl : l.flags = flags0) {h : k_H} {Q : k_H → k_R → Prop} {x0 : Nat} {x1 : Int32} {x2 : Int32} (K : k_X (jX12_follows G l h) h 0 [(0, vR (some x0)), (1, vI x1), (2, vI x2)] [] Q) : k_ct (tX12_follows G l) [vR (some x0), vI x1, vI x2] h Q := by
  obtain ⟨h', r, K, q⟩ := K
  exact ⟨h', r, k_CtOf (by decide +kernel) (Nat.le_of_ble_eq_true rfl) K hfl, q⟩

theorem bX12_follows_0 {h0 h : k_H} {Q : k_H → k_R → Prop} {x0 : Nat} {x1 x2 : Int32} (K1 : x1 = 0 → k_X (jX12_follows G l h0) h 20 [(0, vR (some x0)), (1, vI x1), (2, vI x2)] [] Q) (K2 : ¬ (x1 = 0) → k_X (jX12_follows G l h0) h 4 [(0, vR (some x0)), (1, vI x1), (2, vI x2)] [] Q) : k_X (jX12_follows G l h0) h 0 [(0, vR (some x0)), (1, vI x1), (2, vI x2)] [] Q := by
  by_cases hc : x1 = 0
  · skip
    obtain ⟨h', r, K, q⟩ := K1 hc
    exact ⟨h', r, j_iload_n dX12_follows_0 rfl rfl <| j_if_eq_t (tgt := 20) dX12_follows_1 (by decide) hc K, q⟩
  · skip
    obtain ⟨h', r, K, q⟩ := K2 hc
    exact ⟨h', r, j_iload_n dX12_follows_0 rfl rfl <| j_if_eq_f dX12_follows_1 20 (by decide) hc K, q⟩
theorem bX12_follows_4 {h0 h : k_H} {Q : k_H → k_R → Prop} {x0 : Nat} {x1 x2 : Int32} (K1 : x1 = 1 → k_X (jX12_follows G l h0) h 20 [(0, vR (some x0)), (1, vI x1), (2, vI x2)] [] Q) (K2 : ¬ (x1 = 1) → k_X (jX12_follows G l h0) h 9 [(0, vR (some x0)), (1, vI x1), (2, vI x2)] [] Q) : k_X (jX12_follows G l h0) h 4 [(0, vR (some x0)), (1, vI x1), (2, vI x2)] [] Q := by
  by_cases hc : x1 = 1
  · skip
    obtain ⟨h', r, K, q⟩ := K1 hc
    exact ⟨h', r, j_iload_n dX12_follows_4 rfl rfl <| j_iconst (v := 1) dX12_follows_5 (by decide) <| j_icmp_eq_t (tgt := 20) dX12_follows_6 (by decide) hc K, q⟩
  · skip
    obtain ⟨h', r, K, q⟩ := K2 hc
    exact ⟨h', r, j_iload_n dX12_follows_4 rfl rfl <| j_iconst (v := 1) dX12_follows_5 (by decide) <| j_icmp_eq_f dX12_follows_6 20 (by decide) hc K, q⟩
theorem bX12_follows_9 {h0 h : k_H} {Q : k_H → k_R → Prop} {x0 : Nat} {x1 x2 : Int32} (K1 : x1 = 7 → k_X (jX12_follows G l h0) h 20 [(0, vR (some x0)), (1, vI x1), (2, vI x2)] [] Q) (K2 : ¬ (x1 = 7) → k_X (jX12_follows G l h0) h 15 [(0, vR (some x0)), (1, vI x1), (2, vI x2)] [] Q) : k_X (jX12_follows G l h0) h 9 [(0, vR (some x0)), (1, vI x1), (2, vI x2)] [] Q := by
  by_cases hc : x1 = 7
  · skip
    obtain ⟨h', r, K, q⟩ := K1 hc
    exact ⟨h', r, j_iload_n dX12_follows_9 rfl rfl <| j_bipush (v := 7) dX12_follows_10 (by decide) <| j_icmp_eq_t (tgt := 20) dX12_follows_12 (by decide) hc K, q⟩
  · skip
    obtain ⟨h', r, K, q⟩ := K2 hc
    exact ⟨h', r, j_iload_n dX12_follows_9 rfl rfl <| j_bipush (v := 7) dX12_follows_10 (by decide) <| j_icmp_eq_f dX12_follows_12 20 (by decide) hc K, q⟩
theorem bX12_follows_15 {h0 h : k_H} {Q : k_H → k_R → Prop} {x0 : Nat} {x1 x2 : Int32} (K1 : ¬ (x1 = 5) → k_X (jX12_follows G l h0) h 24 [(0, vR (some x0)), (1, vI x1), (2, vI x2)] [] Q) (K2 : x1 = 5 → k_X (jX12_follows G l h0) h 20 [(0, vR (some x0)), (1, vI x1), (2, vI x2)] [] Q) : k_X (jX12_follows G l h0) h 15 [(0, vR (some x0)), (1, vI x1), (2, vI x2)] [] Q := by
  by_cases hc : x1 = 5
  · skip
    obtain ⟨h', r, K, q⟩ := K2 hc
    exact ⟨h', r, j_iload_n dX12_follows_15 rfl rfl <| j_iconst (v := 5) dX12_follows_16 (by decide) <| j_icmp_ne_f dX12_follows_17 24 (by decide) hc K, q⟩
  · skip
    obtain ⟨h', r, K, q⟩ := K1 hc
    exact ⟨h', r, j_iload_n dX12_follows_15 rfl rfl <| j_iconst (v := 5) dX12_follows_16 (by decide) <| j_icmp_ne_t (tgt := 24) dX12_follows_17 (by decide) hc K, q⟩
theorem bX12_follows_20 {h0 h : k_H} {Q : k_H → k_R → Prop} {x0 : Nat} {x1 x2 : Int32} (K : k_X (jX12_follows G l h0) h 25 [(0, vR (some x0)), (1, vI x1), (2, vI x2)] [vI 1] Q) : k_X (jX12_follows G l h0) h 20 [(0, vR (some x0)), (1, vI x1), (2, vI x2)] [] Q := by
  obtain ⟨h', r, K, q⟩ := K
  exact ⟨h', r, j_iconst (v := 1) dX12_follows_20 (by decide) <| j_goto (tgt := 25) dX12_follows_21 (by decide) <| K, q⟩
theorem bX12_follows_24 {h0 h : k_H} {Q : k_H → k_R → Prop} {x0 : Nat} {x1 x2 : Int32} (K : k_X (jX12_follows G l h0) h 25 [(0, vR (some x0)), (1, vI x1), (2, vI x2)] [vI 0] Q) : k_X (jX12_follows G l h0) h 24 [(0, vR (some x0)), (1, vI x1), (2, vI x2)] [] Q := by
  obtain ⟨h', r, K, q⟩ := K
  exact ⟨h', r, j_iconst (v := 0) dX12_follows_24 (by decide) <| K, q⟩
theorem bX12_follows_25 {h0 h : k_H} {Q : k_H → k_R → Prop} {x0 : Nat} {x1 x2 s0 f1_33 : Int32} {fs1 : List k_V} (o1 : h.1 x0 = some (k_o 15 fs1)) (g1_33 : fs1[33]? = some (vI f1_33)) (K1 : f1_33 = 0 → k_X (jX12_follows G l h0) h 40 [(0, vR (some x0)), (1, vI x1), (2, vI x2), (3, vI s0)] [] Q) (K2 : ¬ (f1_33 = 0) → k_X (jX12_follows G l h0) h 33 [(0, vR (some x0)), (1, vI x1), (2, vI x2), (3, vI s0)] [] Q) : k_X (jX12_follows G l h0) h 25 [(0, vR (some x0)), (1, vI x1), (2, vI x2)] [vI s0] Q := by
  by_cases hc : f1_33 = 0
  · skip
    obtain ⟨h', r, K, q⟩ := K1 hc
    exact ⟨h', r, j_istore_n dX12_follows_25 rfl (by decide) rfl <| j_aload_n dX12_follows_26 rfl rfl <| j_getf dX12_follows_27 kf_X12_230 o1 g1_33 <| j_if_eq_t (tgt := 40) dX12_follows_30 (by decide) hc K, q⟩
  · skip
    obtain ⟨h', r, K, q⟩ := K2 hc
    exact ⟨h', r, j_istore_n dX12_follows_25 rfl (by decide) rfl <| j_aload_n dX12_follows_26 rfl rfl <| j_getf dX12_follows_27 kf_X12_230 o1 g1_33 <| j_if_eq_f dX12_follows_30 40 (by decide) hc K, q⟩
theorem bX12_follows_33 {h0 h : k_H} {Q : k_H → k_R → Prop} {x0 : Nat} {x1 x2 x3 f1_34 : Int32} {fs1 : List k_V} (o1 : h.1 x0 = some (k_o 15 fs1)) (g1_34 : fs1[34]? = some (vI f1_34)) (K : k_X (jX12_follows G l h0) h 50 [(0, vR (some x0)), (1, vI x1), (2, vI x2), (3, vI x3)] [vI f1_34] Q) : k_X (jX12_follows G l h0) h 33 [(0, vR (some x0)), (1, vI x1), (2, vI x2), (3, vI x3)] [] Q := by
  obtain ⟨h', r, K, q⟩ := K
  exact ⟨h', r, j_aload_n dX12_follows_33 rfl rfl <| j_getf dX12_follows_34 kf_X12_234 o1 g1_34 <| j_goto (tgt := 50) dX12_follows_37 (by decide) <| K, q⟩
theorem bX12_follows_40 {h0 h : k_H} {Q : k_H → k_R → Prop} {x0 : Nat} {x1 x2 x3 : Int32} (K1 : ¬ (x1 = 2) → k_X (jX12_follows G l h0) h 49 [(0, vR (some x0)), (1, vI x1), (2, vI x2), (3, vI x3)] [] Q) (K2 : x1 = 2 → k_X (jX12_follows G l h0) h 45 [(0, vR (some x0)), (1, vI x1), (2, vI x2), (3, vI x3)] [] Q) : k_X (jX12_follows G l h0) h 40 [(0, vR (some x0)), (1, vI x1), (2, vI x2), (3, vI x3)] [] Q := by
  by_cases hc : x1 = 2
  · skip
    obtain ⟨h', r, K, q⟩ := K2 hc
    exact ⟨h', r, j_iload_n dX12_follows_40 rfl rfl <| j_iconst (v := 2) dX12_follows_41 (by decide) <| j_icmp_ne_f dX12_follows_42 49 (by decide) hc K, q⟩
  · skip
    obtain ⟨h', r, K, q⟩ := K1 hc
    exact ⟨h', r, j_iload_n dX12_follows_40 rfl rfl <| j_iconst (v := 2) dX12_follows_41 (by decide) <| j_icmp_ne_t (tgt := 49) dX12_follows_42 (by decide) hc K, q⟩
theorem bX12_follows_45 {h0 h : k_H} {Q : k_H → k_R → Prop} {x0 : Nat} {x1 x2 x3 : Int32} (K : k_X (jX12_follows G l h0) h 50 [(0, vR (some x0)), (1, vI x1), (2, vI x2), (3, vI x3)] [vI 0] Q) : k_X (jX12_follows G l h0) h 45 [(0, vR (some x0)), (1, vI x1), (2, vI x2), (3, vI x3)] [] Q := by
  obtain ⟨h', r, K, q⟩ := K
  exact ⟨h', r, j_iconst (v := 0) dX12_follows_45 (by decide) <| j_goto (tgt := 50) dX12_follows_46 (by decide) <| K, q⟩
theorem bX12_follows_49 {h0 h : k_H} {Q : k_H → k_R → Prop} {x0 : Nat} {x1 x2 x3 : Int32} (K : k_X (jX12_follows G l h0) h 50 [(0, vR (some x0)), (1, vI x1), (2, vI x2), (3, vI x3)] [vI x2] Q) : k_X (jX12_follows G l h0) h 49 [(0, vR (some x0)), (1, vI x1), (2, vI x2), (3, vI x3)] [] Q := by
  obtain ⟨h', r, K, q⟩ := K
  exact ⟨h', r, j_iload_n dX12_follows_49 rfl rfl <| K, q⟩
theorem bX12_follows_50 {h0 h : k_H} {Q : k_H → k_R → Prop} {x0 : Nat} {x1 x2 x3 s0 : Int32} (K1 : x1 = 5 → k_X (jX12_follows G l h0) h 69 [(0, vR (some x0)), (1, vI x1), (2, vI x2), (3, vI x3), (4, vI s0)] [vR (some x0)] Q) (K2 : ¬ (x1 = 5) → k_X (jX12_follows G l h0) h 58 [(0, vR (some x0)), (1, vI x1), (2, vI x2), (3, vI x3), (4, vI s0)] [vR (some x0)] Q) : k_X (jX12_follows G l h0) h 50 [(0, vR (some x0)), (1, vI x1), (2, vI x2), (3, vI x3)] [vI s0] Q := by
  by_cases hc : x1 = 5
  · skip
    obtain ⟨h', r, K, q⟩ := K1 hc
    exact ⟨h', r, j_istore dX12_follows_50 (by decide) rfl <| j_aload_n dX12_follows_52 rfl rfl <| j_iload_n dX12_follows_53 rfl rfl <| j_iconst (v := 5) dX12_follows_54 (by decide) <| j_icmp_eq_t (tgt := 69) dX12_follows_55 (by decide) hc K, q⟩
  · skip
    obtain ⟨h', r, K, q⟩ := K2 hc
    exact ⟨h', r, j_istore dX12_follows_50 (by decide) rfl <| j_aload_n dX12_follows_52 rfl rfl <| j_iload_n dX12_follows_53 rfl rfl <| j_iconst (v := 5) dX12_follows_54 (by decide) <| j_icmp_eq_f dX12_follows_55 69 (by decide) hc K, q⟩
theorem bX12_follows_58 {h0 h : k_H} {Q : k_H → k_R → Prop} {x0 : Nat} {x1 x2 x3 x4 f1_35 : Int32} {s0 : Option Nat} {fs1 : List k_V} (o1 : h.1 x0 = some (k_o 15 fs1)) (g1_35 : fs1[35]? = some (vI f1_35)) (K1 : f1_35 = 0 → k_X (jX12_follows G l h0) h 73 [(0, vR (some x0)), (1, vI x1), (2, vI x2), (3, vI x3), (4, vI x4)] [vR s0] Q) (K2 : ¬ (f1_35 = 0) → k_X (jX12_follows G l h0) h 65 [(0, vR (some x0)), (1, vI x1), (2, vI x2), (3, vI x3), (4, vI x4)] [vR s0] Q) : k_X (jX12_follows G l h0) h 58 [(0, vR (some x0)), (1, vI x1), (2, vI x2), (3, vI x3), (4, vI x4)] [vR s0] Q := by
  by_cases hc : f1_35 = 0
  · skip
    obtain ⟨h', r, K, q⟩ := K1 hc
    exact ⟨h', r, j_aload_n dX12_follows_58 rfl rfl <| j_getf dX12_follows_59 kf_X12_237 o1 g1_35 <| j_if_eq_t (tgt := 73) dX12_follows_62 (by decide) hc K, q⟩
  · skip
    obtain ⟨h', r, K, q⟩ := K2 hc
    exact ⟨h', r, j_aload_n dX12_follows_58 rfl rfl <| j_getf dX12_follows_59 kf_X12_237 o1 g1_35 <| j_if_eq_f dX12_follows_62 73 (by decide) hc K, q⟩
theorem bX12_follows_65 {h0 h : k_H} {Q : k_H → k_R → Prop} {x0 : Nat} {x1 x2 x3 x4 : Int32} {s0 : Option Nat} (K1 : ¬ (x3 = 0) → k_X (jX12_follows G l h0) h 73 [(0, vR (some x0)), (1, vI x1), (2, vI x2), (3, vI x3), (4, vI x4)] [vR s0] Q) (K2 : x3 = 0 → k_X (jX12_follows G l h0) h 69 [(0, vR (some x0)), (1, vI x1), (2, vI x2), (3, vI x3), (4, vI x4)] [vR s0] Q) : k_X (jX12_follows G l h0) h 65 [(0, vR (some x0)), (1, vI x1), (2, vI x2), (3, vI x3), (4, vI x4)] [vR s0] Q := by
  by_cases hc : x3 = 0
  · skip
    obtain ⟨h', r, K, q⟩ := K2 hc
    exact ⟨h', r, j_iload_n dX12_follows_65 rfl rfl <| j_if_ne_f dX12_follows_66 73 (by decide) hc K, q⟩
  · skip
    obtain ⟨h', r, K, q⟩ := K1 hc
    exact ⟨h', r, j_iload_n dX12_follows_65 rfl rfl <| j_if_ne_t (tgt := 73) dX12_follows_66 (by decide) hc K, q⟩
theorem bX12_follows_69 {h0 h : k_H} {Q : k_H → k_R → Prop} {x0 : Nat} {x1 x2 x3 x4 : Int32} {s0 : Option Nat} (K : k_X (jX12_follows G l h0) h 74 [(0, vR (some x0)), (1, vI x1), (2, vI x2), (3, vI x3), (4, vI x4)] [vI 1, vR s0] Q) : k_X (jX12_follows G l h0) h 69 [(0, vR (some x0)), (1, vI x1), (2, vI x2), (3, vI x3), (4, vI x4)] [vR s0] Q := by
  obtain ⟨h', r, K, q⟩ := K
  exact ⟨h', r, j_iconst (v := 1) dX12_follows_69 (by decide) <| j_goto (tgt := 74) dX12_follows_70 (by decide) <| K, q⟩
theorem bX12_follows_73 {h0 h : k_H} {Q : k_H → k_R → Prop} {x0 : Nat} {x1 x2 x3 x4 : Int32} {s0 : Option Nat} (K : k_X (jX12_follows G l h0) h 74 [(0, vR (some x0)), (1, vI x1), (2, vI x2), (3, vI x3), (4, vI x4)] [vI 0, vR s0] Q) : k_X (jX12_follows G l h0) h 73 [(0, vR (some x0)), (1, vI x1), (2, vI x2), (3, vI x3), (4, vI x4)] [vR s0] Q := by
  obtain ⟨h', r, K, q⟩ := K
  exact ⟨h', r, j_iconst (v := 0) dX12_follows_73 (by decide) <| K, q⟩
theorem bX12_follows_74 {h0 h : k_H} {Q : k_H → k_R → Prop} {x0 s0 : Nat} {x1 x2 x3 x4 s1 : Int32} {fs1 : List k_V} (o1 : h.1 s0 = some (k_o 15 fs1)) (y2 : k_bl s1) (z1 : fs1.length = 53) (K : k_X (jX12_follows G l h0) (k_up h s0 (k_o 15 (fs1.set 35 (vI s1)))) 77 [(0, vR (some x0)), (1, vI x1), (2, vI x2), (3, vI x3), (4, vI x4)] [] Q) : k_X (jX12_follows G l h0) h 74 [(0, vR (some x0)), (1, vI x1), (2, vI x2), (3, vI x3), (4, vI x4)] [vI s1, vR (some s0)] Q := by
  obtain ⟨h', r, K, q⟩ := K
  exact ⟨h', r, j_putf dX12_follows_74 kp_X12_237 o1 (k_ln z1 (by decide)) (k_fit_z y2) rfl <| K, q⟩
theorem bX12_follows_77 {h0 h : k_H} {Q : k_H → k_R → Prop} {x0 : Nat} {x1 x2 x3 x4 : Int32} (K1 : x1 = 1 → k_X (jX12_follows G l h0) h 93 [(0, vR (some x0)), (1, vI x1), (2, vI x2), (3, vI x3), (4, vI x4)] [vR (some x0)] Q) (K2 : ¬ (x1 = 1) → k_X (jX12_follows G l h0) h 83 [(0, vR (some x0)), (1, vI x1), (2, vI x2), (3, vI x3), (4, vI x4)] [vR (some x0)] Q) : k_X (jX12_follows G l h0) h 77 [(0, vR (some x0)), (1, vI x1), (2, vI x2), (3, vI x3), (4, vI x4)] [] Q := by
  by_cases hc : x1 = 1
  · skip
    obtain ⟨h', r, K, q⟩ := K1 hc
    exact ⟨h', r, j_aload_n dX12_follows_77 rfl rfl <| j_iload_n dX12_follows_78 rfl rfl <| j_iconst (v := 1) dX12_follows_79 (by decide) <| j_icmp_eq_t (tgt := 93) dX12_follows_80 (by decide) hc K, q⟩
  · skip
    obtain ⟨h', r, K, q⟩ := K2 hc
    exact ⟨h', r, j_aload_n dX12_follows_77 rfl rfl <| j_iload_n dX12_follows_78 rfl rfl <| j_iconst (v := 1) dX12_follows_79 (by decide) <| j_icmp_eq_f dX12_follows_80 93 (by decide) hc K, q⟩
theorem bX12_follows_83 {h0 h : k_H} {Q : k_H → k_R → Prop} {x0 : Nat} {x1 x2 x3 x4 : Int32} {s0 : Option Nat} (K1 : x1 = 7 → k_X (jX12_follows G l h0) h 93 [(0, vR (some x0)), (1, vI x1), (2, vI x2), (3, vI x3), (4, vI x4)] [vR s0] Q) (K2 : ¬ (x1 = 7) → k_X (jX12_follows G l h0) h 89 [(0, vR (some x0)), (1, vI x1), (2, vI x2), (3, vI x3), (4, vI x4)] [vR s0] Q) : k_X (jX12_follows G l h0) h 83 [(0, vR (some x0)), (1, vI x1), (2, vI x2), (3, vI x3), (4, vI x4)] [vR s0] Q := by
  by_cases hc : x1 = 7
  · skip
    obtain ⟨h', r, K, q⟩ := K1 hc
    exact ⟨h', r, j_iload_n dX12_follows_83 rfl rfl <| j_bipush (v := 7) dX12_follows_84 (by decide) <| j_icmp_eq_t (tgt := 93) dX12_follows_86 (by decide) hc K, q⟩
  · skip
    obtain ⟨h', r, K, q⟩ := K2 hc
    exact ⟨h', r, j_iload_n dX12_follows_83 rfl rfl <| j_bipush (v := 7) dX12_follows_84 (by decide) <| j_icmp_eq_f dX12_follows_86 93 (by decide) hc K, q⟩
theorem bX12_follows_89 {h0 h : k_H} {Q : k_H → k_R → Prop} {x0 : Nat} {x1 x2 x3 x4 : Int32} {s0 : Option Nat} (K : k_X (jX12_follows G l h0) h 94 [(0, vR (some x0)), (1, vI x1), (2, vI x2), (3, vI x3), (4, vI x4)] [vI 1, vR s0] Q) : k_X (jX12_follows G l h0) h 89 [(0, vR (some x0)), (1, vI x1), (2, vI x2), (3, vI x3), (4, vI x4)] [vR s0] Q := by
  obtain ⟨h', r, K, q⟩ := K
  exact ⟨h', r, j_iconst (v := 1) dX12_follows_89 (by decide) <| j_goto (tgt := 94) dX12_follows_90 (by decide) <| K, q⟩
theorem bX12_follows_93 {h0 h : k_H} {Q : k_H → k_R → Prop} {x0 : Nat} {x1 x2 x3 x4 : Int32} {s0 : Option Nat} (K : k_X (jX12_follows G l h0) h 94 [(0, vR (some x0)), (1, vI x1), (2, vI x2), (3, vI x3), (4, vI x4)] [vI 0, vR s0] Q) : k_X (jX12_follows G l h0) h 93 [(0, vR (some x0)), (1, vI x1), (2, vI x2), (3, vI x3), (4, vI x4)] [vR s0] Q := by
  obtain ⟨h', r, K, q⟩ := K
  exact ⟨h', r, j_iconst (v := 0) dX12_follows_93 (by decide) <| K, q⟩
theorem bX12_follows_94 {h0 h : k_H} {Q : k_H → k_R → Prop} {x0 s0 : Nat} {x1 x2 x3 x4 s1 : Int32} {fs1 : List k_V} (o1 : h.1 s0 = some (k_o 15 fs1)) (y2 : k_bl s1) (z1 : fs1.length = 53) (K : k_X (jX12_follows G l h0) (k_up h s0 (k_o 15 (fs1.set 33 (vI s1)))) 97 [(0, vR (some x0)), (1, vI x1), (2, vI x2), (3, vI x3), (4, vI x4)] [] Q) : k_X (jX12_follows G l h0) h 94 [(0, vR (some x0)), (1, vI x1), (2, vI x2), (3, vI x3), (4, vI x4)] [vI s1, vR (some s0)] Q := by
  obtain ⟨h', r, K, q⟩ := K
  exact ⟨h', r, j_putf dX12_follows_94 kp_X12_230 o1 (k_ln z1 (by decide)) (k_fit_z y2) rfl <| K, q⟩
theorem bX12_follows_97 {h0 h : k_H} {Q : k_H → k_R → Prop} {x0 : Nat} {x1 x2 x3 x4 : Int32} (K1 : x3 = 0 → k_X (jX12_follows G l h0) h 106 [(1, vI x1), (2, vI x2), (4, vI x4)] [vR (some x0)] Q) (K2 : ¬ (x3 = 0) → k_X (jX12_follows G l h0) h 102 [(2, vI x2)] [vR (some x0)] Q) : k_X (jX12_follows G l h0) h 97 [(0, vR (some x0)), (1, vI x1), (2, vI x2), (3, vI x3), (4, vI x4)] [] Q := by
  by_cases hc : x3 = 0
  · skip
    obtain ⟨h', r, K, q⟩ := K1 hc
    exact ⟨h', r, j_aload_n dX12_follows_97 rfl rfl <| j_iload_n dX12_follows_98 rfl rfl <| j_if_eq_t (tgt := 106) dX12_follows_99 (by decide) hc (j_pick [1, 2, 4] rfl K), q⟩
  · skip
    obtain ⟨h', r, K, q⟩ := K2 hc
    exact ⟨h', r, j_aload_n dX12_follows_97 rfl rfl <| j_iload_n dX12_follows_98 rfl rfl <| j_if_eq_f dX12_follows_99 106 (by decide) hc (j_pick [2] rfl K), q⟩
theorem bX12_follows_102 {h0 h : k_H} {Q : k_H → k_R → Prop} {x2 : Int32} {s0 : Option Nat} (K : k_X (jX12_follows G l h0) h 150 [] [vI x2, vR s0] Q) : k_X (jX12_follows G l h0) h 102 [(2, vI x2)] [vR s0] Q := by
  obtain ⟨h', r, K, q⟩ := K
  exact ⟨h', r, j_iload_n dX12_follows_102 rfl rfl <| j_goto (tgt := 150) dX12_follows_103 (by decide) <| (j_pick [] rfl K), q⟩
theorem bX12_follows_106 {h0 h : k_H} {Q : k_H → k_R → Prop} {x1 x2 x4 : Int32} {s0 : Option Nat} (K1 : ¬ (x1 = 2) → k_X (jX12_follows G l h0) h 118 [(1, vI x1), (2, vI x2), (4, vI x4)] [vR s0] Q) (K2 : x1 = 2 → k_X (jX12_follows G l h0) h 111 [(2, vI x2), (4, vI x4)] [vR s0] Q) : k_X (jX12_follows G l h0) h 106 [(1, vI x1), (2, vI x2), (4, vI x4)] [vR s0] Q := by
  by_cases hc : x1 = 2
  · skip
    obtain ⟨h', r, K, q⟩ := K2 hc
    exact ⟨h', r, j_iload_n dX12_follows_106 rfl rfl <| j_iconst (v := 2) dX12_follows_107 (by decide) <| j_icmp_ne_f dX12_follows_108 118 (by decide) hc (j_pick [1, 2] rfl K), q⟩
  · skip
    obtain ⟨h', r, K, q⟩ := K1 hc
    exact ⟨h', r, j_iload_n dX12_follows_106 rfl rfl <| j_iconst (v := 2) dX12_follows_107 (by decide) <| j_icmp_ne_t (tgt := 118) dX12_follows_108 (by decide) hc K, q⟩
theorem bX12_follows_111 {h0 h : k_H} {Q : k_H → k_R → Prop} {x2 x4 : Int32} {s0 : Option Nat} (K : k_X (jX12_follows G l h0) h 150 [] [vI (x4 + x2), vR s0] Q) : k_X (jX12_follows G l h0) h 111 [(2, vI x2), (4, vI x4)] [vR s0] Q := by
  obtain ⟨h', r, K, q⟩ := K
  exact ⟨h', r, j_iload dX12_follows_111 rfl <| j_iload_n dX12_follows_113 rfl rfl <| j_iadd dX12_follows_114 <| j_goto (tgt := 150) dX12_follows_115 (by decide) <| (j_pick [] rfl K), q⟩
theorem bX12_follows_118 {h0 h : k_H} {Q : k_H → k_R → Prop} {x1 x2 x4 : Int32} {s0 : Option Nat} (K1 : ¬ (x1 = 3) → k_X (jX12_follows G l h0) h 138 [(2, vI x2), (4, vI x4)] [vR s0] Q) (K2 : x1 = 3 → k_X (jX12_follows G l h0) h 123 [(2, vI x2), (4, vI x4)] [vR s0] Q) : k_X (jX12_follows G l h0) h 118 [(1, vI x1), (2, vI x2), (4, vI x4)] [vR s0] Q := by
  by_cases hc : x1 = 3
  · skip
    obtain ⟨h', r, K, q⟩ := K2 hc
    exact ⟨h', r, j_iload_n dX12_follows_118 rfl rfl <| j_iconst (v := 3) dX12_follows_119 (by decide) <| j_icmp_ne_f dX12_follows_120 138 (by decide) hc (j_pick [1, 2] rfl K), q⟩
  · skip
    obtain ⟨h', r, K, q⟩ := K1 hc
    exact ⟨h', r, j_iload_n dX12_follows_118 rfl rfl <| j_iconst (v := 3) dX12_follows_119 (by decide) <| j_icmp_ne_t (tgt := 138) dX12_follows_120 (by decide) hc (j_pick [1, 2] rfl K), q⟩
theorem bX12_follows_123 {h0 h : k_H} {Q : k_H → k_R → Prop} {x2 x4 : Int32} {s0 : Option Nat} (K1 : x4 ≤ x2 → k_X (jX12_follows G l h0) h 134 [(2, vI x2)] [vR s0] Q) (K2 : ¬ (x4 ≤ x2) → k_X (jX12_follows G l h0) h 129 [(4, vI x4)] [vR s0] Q) : k_X (jX12_follows G l h0) h 123 [(2, vI x2), (4, vI x4)] [vR s0] Q := by
  by_cases hc : x4 ≤ x2
  · skip
    obtain ⟨h', r, K, q⟩ := K1 hc
    exact ⟨h', r, j_iload dX12_follows_123 rfl <| j_iload_n dX12_follows_125 rfl rfl <| j_icmp_le_t (tgt := 134) dX12_follows_126 (by decide) hc (j_pick [0] rfl K), q⟩
  · skip
    obtain ⟨h', r, K, q⟩ := K2 hc
    exact ⟨h', r, j_iload dX12_follows_123 rfl <| j_iload_n dX12_follows_125 rfl rfl <| j_icmp_le_f dX12_follows_126 134 (by decide) hc (j_pick [1] rfl K), q⟩
theorem bX12_follows_129 {h0 h : k_H} {Q : k_H → k_R → Prop} {x4 : Int32} {s0 : Option Nat} (K : k_X (jX12_follows G l h0) h 150 [] [vI x4, vR s0] Q) : k_X (jX12_follows G l h0) h 129 [(4, vI x4)] [vR s0] Q := by
  obtain ⟨h', r, K, q⟩ := K
  exact ⟨h', r, j_iload dX12_follows_129 rfl <| j_goto (tgt := 150) dX12_follows_131 (by decide) <| (j_pick [] rfl K), q⟩
theorem bX12_follows_134 {h0 h : k_H} {Q : k_H → k_R → Prop} {x2 : Int32} {s0 : Option Nat} (K : k_X (jX12_follows G l h0) h 150 [] [vI x2, vR s0] Q) : k_X (jX12_follows G l h0) h 134 [(2, vI x2)] [vR s0] Q := by
  obtain ⟨h', r, K, q⟩ := K
  exact ⟨h', r, j_iload_n dX12_follows_134 rfl rfl <| j_goto (tgt := 150) dX12_follows_135 (by decide) <| (j_pick [] rfl K), q⟩
theorem bX12_follows_138 {h0 h : k_H} {Q : k_H → k_R → Prop} {x2 x4 : Int32} {s0 : Option Nat} (K1 : x2 ≤ x4 → k_X (jX12_follows G l h0) h 149 [(2, vI x2)] [vR s0] Q) (K2 : ¬ (x2 ≤ x4) → k_X (jX12_follows G l h0) h 144 [(4, vI x4)] [vR s0] Q) : k_X (jX12_follows G l h0) h 138 [(2, vI x2), (4, vI x4)] [vR s0] Q := by
  by_cases hc : x2 ≤ x4
  · skip
    obtain ⟨h', r, K, q⟩ := K1 hc
    exact ⟨h', r, j_iload dX12_follows_138 rfl <| j_iload_n dX12_follows_140 rfl rfl <| j_icmp_ge_t (tgt := 149) dX12_follows_141 (by decide) hc (j_pick [0] rfl K), q⟩
  · skip
    obtain ⟨h', r, K, q⟩ := K2 hc
    exact ⟨h', r, j_iload dX12_follows_138 rfl <| j_iload_n dX12_follows_140 rfl rfl <| j_icmp_ge_f dX12_follows_141 149 (by decide) hc (j_pick [1] rfl K), q⟩
theorem bX12_follows_144 {h0 h : k_H} {Q : k_H → k_R → Prop} {x4 : Int32} {s0 : Option Nat} (K : k_X (jX12_follows G l h0) h 150 [] [vI x4, vR s0] Q) : k_X (jX12_follows G l h0) h 144 [(4, vI x4)] [vR s0] Q := by
  obtain ⟨h', r, K, q⟩ := K
  exact ⟨h', r, j_iload dX12_follows_144 rfl <| j_goto (tgt := 150) dX12_follows_146 (by decide) <| (j_pick [] rfl K), q⟩
theorem bX12_follows_149 {h0 h : k_H} {Q : k_H → k_R → Prop} {x2 : Int32} {s0 : Option Nat} (K : k_X (jX12_follows G l h0) h 150 [] [vI x2, vR s0] Q) : k_X (jX12_follows G l h0) h 149 [(2, vI x2)] [vR s0] Q := by
  obtain ⟨h', r, K, q⟩ := K
  exact ⟨h', r, j_iload_n dX12_follows_149 rfl rfl <| (j_pick [] rfl K), q⟩
theorem bX12_follows_150 {h0 h : k_H} {Q : k_H → k_R → Prop} {s0 : Nat} {s1 : Int32} {fs1 : List k_V} (o1 : h.1 s0 = some (k_o 15 fs1)) (z1 : fs1.length = 53) (K : k_X (jX12_follows G l h0) (k_up h s0 (k_o 15 (fs1.set 34 (vI s1)))) 153 [] [] Q) : k_X (jX12_follows G l h0) h 150 [] [vI s1, vR (some s0)] Q := by
  obtain ⟨h', r, K, q⟩ := K
  exact ⟨h', r, j_putf dX12_follows_150 kp_X12_234 o1 (k_ln z1 (by decide)) (k_fit_i _) rfl <| K, q⟩
theorem bX12_follows_153 {h0 h : k_H} {Q : k_H → k_R → Prop} (q : Q h (.inl none)) : k_X (jX12_follows G l h0) h 153 [] [] Q := by
  exact ⟨_, _, j_vret dX12_follows_153 rfl, q⟩
theorem eX12_isOwn {G : k_G} {l : Launch} (hfl : l.flags = flags0) {h : k_H} {Q : k_H → k_R → Prop} {x0 : Nat} {x1 : Int32} {x2 : Int64} {x4 : Int64} {x6 : Int32} (K : k_X (jX12_isOwn G l h) h 0 [(0, vR (some x0)), (1, vI x1), (2, vJ x2), (4, vJ x4), (6, vI x6)] [] Q) : k_ct (tX12_isOwn G l) [vR (some x0), vI x1, vJ x2, vJ x4, vI x6] h Q := by
  obtain ⟨h', r, K, q⟩ := K
  exact ⟨h', r, k_CtOf (by decide +kernel) (Nat.le_of_ble_eq_true rfl) K hfl, q⟩

theorem bX12_isOwn_0 {h0 h : k_H} {Q : k_H → k_R → Prop} {x0 : Nat} {x1 x6 : Int32} {x2 x4 : Int64} (K : k_X (jX12_isOwn G l h0) h 6 [(0, vR (some x0)), (1, vI x1), (2, vJ x2), (4, vJ x4), (6, vI x6), (7, vI 0), (8, vI 0)] [] Q) : k_X (jX12_isOwn G l h0) h 0 [(0, vR (some x0)), (1, vI x1), (2, vJ x2), (4, vJ x4), (6, vI x6)] [] Q := by
  obtain ⟨h', r, K, q⟩ := K
  exact ⟨h', r, j_iconst (v := 0) dX12_isOwn_0 (by decide) <| j_istore dX12_isOwn_1 (by decide) rfl <| j_iconst (v := 0) dX12_isOwn_3 (by decide) <| j_istore dX12_isOwn_4 (by decide) rfl <| K, q⟩
theorem bX12_isOwn_6 {h0 h : k_H} {Q : k_H → k_R → Prop} {x0 f1_20 : Nat} {x1 x6 x7 x8 : Int32} {x2 x4 : Int64} {fs1 : List k_V} (o1 : h.1 x0 = some (k_o 15 fs1)) (g1_20 : fs1[20]? = some (vR (some f1_20))) {n2 : Nat} {w2 : Nat → Int32} (o2 : h.1 f1_20 = some (k_i n2 w2)) (y3 : vp_in x1 n2) (K1 : (w2 (x1).toNatClampNeg) ≤ x8 → k_X (jX12_isOwn G l h0) h 126 [(7, vI x7)] [] Q) (K2 : ¬ ((w2 (x1).toNatClampNeg) ≤ x8) → k_X (jX12_isOwn G l h0) h 17 [(0, vR (some x0)), (1, vI x1), (2, vJ x2), (4, vJ x4), (6, vI x6), (7, vI x7), (8, vI x8)] [] Q) : k_X (jX12_isOwn G l h0) h 6 [(0, vR (some x0)), (1, vI x1), (2, vJ x2), (4, vJ x4), (6, vI x6), (7, vI x7), (8, vI x8)] [] Q := by
  by_cases hc : (w2 (x1).toNatClampNeg) ≤ x8
  · skip
    obtain ⟨h', r, K, q⟩ := K1 hc
    exact ⟨h', r, j_iload dX12_isOwn_6 rfl <| j_aload_n dX12_isOwn_8 rfl rfl <| j_getf dX12_isOwn_9 kf_X12_57 o1 g1_20 <| j_iload_n dX12_isOwn_12 rfl rfl <| j_iald dX12_isOwn_13 o2 y3 <| j_icmp_ge_t (tgt := 126) dX12_isOwn_14 (by decide) hc (j_pick [5] rfl K), q⟩
  · skip
    obtain ⟨h', r, K, q⟩ := K2 hc
    exact ⟨h', r, j_iload dX12_isOwn_6 rfl <| j_aload_n dX12_isOwn_8 rfl rfl <| j_getf dX12_isOwn_9 kf_X12_57 o1 g1_20 <| j_iload_n dX12_isOwn_12 rfl rfl <| j_iald dX12_isOwn_13 o2 y3 <| j_icmp_ge_f dX12_isOwn_14 126 (by decide) hc K, q⟩
theorem bX12_isOwn_17 {h0 h : k_H} {Q : k_H → k_R → Prop} {x0 : Nat} {x1 x6 x7 x8 : Int32} {x2 x4 : Int64} (w : k_is h x0 15) {P : k_H → Int32 → Prop} (c : k_cti (tX12_changeAt G l) [vR (some x0), vI x1, vI x8] h P) (K : ∀ h1 v, P h1 v → k_X (jX12_isOwn G l h0) h1 24 [(0, vR (some x0)), (1, vI x1), (2, vJ x2), (4, vJ x4), (6, vI x6), (7, vI x7), (8, vI x8)] [vI v] Q) : k_X (jX12_isOwn G l h0) h 17 [(0, vR (some x0)), (1, vI x1), (2, vJ x2), (4, vJ x4), (6, vI x6), (7, vI x7), (8, vI x8)] [] Q := by
  obtain ⟨h1, v, c, p⟩ := c
  obtain ⟨h', r, K, q⟩ := K h1 v p
  exact ⟨h', r, j_aload_n dX12_isOwn_17 rfl rfl <| j_iload_n dX12_isOwn_18 rfl rfl <| j_iload dX12_isOwn_19 rfl <| j_callV (v := some (vI v)) (as := [vI x1, vI x8]) dX12_isOwn_21 kc_X12_240 rfl rfl w (by decide) (Nat.le_of_ble_eq_true rfl) c K, q⟩
theorem bX12_isOwn_24 {h0 h : k_H} {Q : k_H → k_R → Prop} {x0 f1_21 : Nat} {x1 x6 x7 x8 s0 : Int32} {x2 x4 : Int64} {fs1 : List k_V} (o1 : h.1 x0 = some (k_o 15 fs1)) (g1_21 : fs1[21]? = some (vR (some f1_21))) {n2 : Nat} {w2 : Nat → Int32} (o2 : h.1 f1_21 = some (k_i n2 w2)) (y3 : vp_in s0 n2) (K1 : (w2 (s0).toNatClampNeg) = 0 → k_X (jX12_isOwn G l h0) h 59 [(0, vR (some x0)), (1, vI x1), (2, vJ x2), (4, vJ x4), (6, vI x6), (7, vI x7), (8, vI x8), (9, vI s0)] [] Q) (K2 : ¬ ((w2 (s0).toNatClampNeg) = 0) → k_X (jX12_isOwn G l h0) h 40 [(0, vR (some x0)), (1, vI x1), (2, vJ x2), (4, vJ x4), (6, vI x6), (7, vI x7), (8, vI x8), (9, vI s0), (10, vI (w2 (s0).toNatClampNeg))] [] Q) : k_X (jX12_isOwn G l h0) h 24 [(0, vR (some x0)), (1, vI x1), (2, vJ x2), (4, vJ x4), (6, vI x6), (7, vI x7), (8, vI x8)] [vI s0] Q := by
  by_cases hc : (w2 (s0).toNatClampNeg) = 0
  · skip
    obtain ⟨h', r, K, q⟩ := K1 hc
    exact ⟨h', r, j_istore dX12_isOwn_24 (by decide) rfl <| j_aload_n dX12_isOwn_26 rfl rfl <| j_getf dX12_isOwn_27 kf_X12_60 o1 g1_21 <| j_iload dX12_isOwn_30 rfl <| j_iald dX12_isOwn_32 o2 y3 <| j_istore dX12_isOwn_33 (by decide) rfl <| j_iload dX12_isOwn_35 rfl <| j_if_eq_t (tgt := 59) dX12_isOwn_37 (by decide) hc (j_pick [0, 1, 2, 3, 4, 5, 6, 7] rfl K), q⟩
  · skip
    obtain ⟨h', r, K, q⟩ := K2 hc
    exact ⟨h', r, j_istore dX12_isOwn_24 (by decide) rfl <| j_aload_n dX12_isOwn_26 rfl rfl <| j_getf dX12_isOwn_27 kf_X12_60 o1 g1_21 <| j_iload dX12_isOwn_30 rfl <| j_iald dX12_isOwn_32 o2 y3 <| j_istore dX12_isOwn_33 (by decide) rfl <| j_iload dX12_isOwn_35 rfl <| j_if_eq_f dX12_isOwn_37 59 (by decide) hc K, q⟩
theorem bX12_isOwn_40 {h0 h : k_H} {Q : k_H → k_R → Prop} {x0 : Nat} {x1 x6 x7 x8 x9 x10 : Int32} {x2 x4 : Int64} (K1 : x10 = 1 → k_X (jX12_isOwn G l h0) h 59 [(0, vR (some x0)), (1, vI x1), (2, vJ x2), (4, vJ x4), (6, vI x6), (7, vI x7), (8, vI x8), (9, vI x9)] [] Q) (K2 : ¬ (x10 = 1) → k_X (jX12_isOwn G l h0) h 46 [(0, vR (some x0)), (1, vI x1), (2, vJ x2), (4, vJ x4), (6, vI x6), (7, vI x7), (8, vI x8), (9, vI x9), (10, vI x10)] [] Q) : k_X (jX12_isOwn G l h0) h 40 [(0, vR (some x0)), (1, vI x1), (2, vJ x2), (4, vJ x4), (6, vI x6), (7, vI x7), (8, vI x8), (9, vI x9), (10, vI x10)] [] Q := by
  by_cases hc : x10 = 1
  · skip
    obtain ⟨h', r, K, q⟩ := K1 hc
    exact ⟨h', r, j_iload dX12_isOwn_40 rfl <| j_iconst (v := 1) dX12_isOwn_42 (by decide) <| j_icmp_eq_t (tgt := 59) dX12_isOwn_43 (by decide) hc (j_pick [0, 1, 2, 3, 4, 5, 6, 7] rfl K), q⟩
  · skip
    obtain ⟨h', r, K, q⟩ := K2 hc
    exact ⟨h', r, j_iload dX12_isOwn_40 rfl <| j_iconst (v := 1) dX12_isOwn_42 (by decide) <| j_icmp_eq_f dX12_isOwn_43 59 (by decide) hc K, q⟩
theorem bX12_isOwn_46 {h0 h : k_H} {Q : k_H → k_R → Prop} {x0 : Nat} {x1 x6 x7 x8 x9 x10 : Int32} {x2 x4 : Int64} (K1 : x10 = 7 → k_X (jX12_isOwn G l h0) h 59 [(0, vR (some x0)), (1, vI x1), (2, vJ x2), (4, vJ x4), (6, vI x6), (7, vI x7), (8, vI x8), (9, vI x9)] [] Q) (K2 : ¬ (x10 = 7) → k_X (jX12_isOwn G l h0) h 53 [(0, vR (some x0)), (1, vI x1), (2, vJ x2), (4, vJ x4), (6, vI x6), (7, vI x7), (8, vI x8), (9, vI x9), (10, vI x10)] [] Q) : k_X (jX12_isOwn G l h0) h 46 [(0, vR (some x0)), (1, vI x1), (2, vJ x2), (4, vJ x4), (6, vI x6), (7, vI x7), (8, vI x8), (9, vI x9), (10, vI x10)] [] Q := by
  by_cases hc : x10 = 7
  · skip
    obtain ⟨h', r, K, q⟩ := K1 hc
    exact ⟨h', r, j_iload dX12_isOwn_46 rfl <| j_bipush (v := 7) dX12_isOwn_48 (by decide) <| j_icmp_eq_t (tgt := 59) dX12_isOwn_50 (by decide) hc (j_pick [0, 1, 2, 3, 4, 5, 6, 7] rfl K), q⟩
  · skip
    obtain ⟨h', r, K, q⟩ := K2 hc
    exact ⟨h', r, j_iload dX12_isOwn_46 rfl <| j_bipush (v := 7) dX12_isOwn_48 (by decide) <| j_icmp_eq_f dX12_isOwn_50 59 (by decide) hc K, q⟩
theorem bX12_isOwn_53 {h0 h : k_H} {Q : k_H → k_R → Prop} {x0 : Nat} {x1 x6 x7 x8 x9 x10 : Int32} {x2 x4 : Int64} (K1 : ¬ (x10 = 5) → k_X (jX12_isOwn G l h0) h 63 [(0, vR (some x0)), (1, vI x1), (2, vJ x2), (4, vJ x4), (6, vI x6), (7, vI x7), (8, vI x8), (9, vI x9)] [] Q) (K2 : x10 = 5 → k_X (jX12_isOwn G l h0) h 59 [(0, vR (some x0)), (1, vI x1), (2, vJ x2), (4, vJ x4), (6, vI x6), (7, vI x7), (8, vI x8), (9, vI x9)] [] Q) : k_X (jX12_isOwn G l h0) h 53 [(0, vR (some x0)), (1, vI x1), (2, vJ x2), (4, vJ x4), (6, vI x6), (7, vI x7), (8, vI x8), (9, vI x9), (10, vI x10)] [] Q := by
  by_cases hc : x10 = 5
  · skip
    obtain ⟨h', r, K, q⟩ := K2 hc
    exact ⟨h', r, j_iload dX12_isOwn_53 rfl <| j_iconst (v := 5) dX12_isOwn_55 (by decide) <| j_icmp_ne_f dX12_isOwn_56 63 (by decide) hc (j_pick [0, 1, 2, 3, 4, 5, 6, 7] rfl K), q⟩
  · skip
    obtain ⟨h', r, K, q⟩ := K1 hc
    exact ⟨h', r, j_iload dX12_isOwn_53 rfl <| j_iconst (v := 5) dX12_isOwn_55 (by decide) <| j_icmp_ne_t (tgt := 63) dX12_isOwn_56 (by decide) hc (j_pick [0, 1, 2, 3, 4, 5, 6, 7] rfl K), q⟩
theorem bX12_isOwn_59 {h0 h : k_H} {Q : k_H → k_R → Prop} {x0 : Nat} {x1 x6 x7 x8 x9 : Int32} {x2 x4 : Int64} (K : k_X (jX12_isOwn G l h0) h 64 [(0, vR (some x0)), (1, vI x1), (2, vJ x2), (4, vJ x4), (6, vI x6), (7, vI x7), (8, vI x8), (9, vI x9)] [vI 1] Q) : k_X (jX12_isOwn G l h0) h 59 [(0, vR (some x0)), (1, vI x1), (2, vJ x2), (4, vJ x4), (6, vI x6), (7, vI x7), (8, vI x8), (9, vI x9)] [] Q := by
  obtain ⟨h', r, K, q⟩ := K
  exact ⟨h', r, j_iconst (v := 1) dX12_isOwn_59 (by decide) <| j_goto (tgt := 64) dX12_isOwn_60 (by decide) <| K, q⟩
theorem bX12_isOwn_63 {h0 h : k_H} {Q : k_H → k_R → Prop} {x0 : Nat} {x1 x6 x7 x8 x9 : Int32} {x2 x4 : Int64} (K : k_X (jX12_isOwn G l h0) h 64 [(0, vR (some x0)), (1, vI x1), (2, vJ x2), (4, vJ x4), (6, vI x6), (7, vI x7), (8, vI x8), (9, vI x9)] [vI 0] Q) : k_X (jX12_isOwn G l h0) h 63 [(0, vR (some x0)), (1, vI x1), (2, vJ x2), (4, vJ x4), (6, vI x6), (7, vI x7), (8, vI x8), (9, vI x9)] [] Q := by
  obtain ⟨h', r, K, q⟩ := K
  exact ⟨h', r, j_iconst (v := 0) dX12_isOwn_63 (by decide) <| K, q⟩
theorem bX12_isOwn_64 {h0 h : k_H} {Q : k_H → k_R → Prop} {x0 : Nat} {x1 x6 x7 x8 x9 s0 : Int32} {x2 x4 : Int64} (K1 : ¬ (x7 = 0) → k_X (jX12_isOwn G l h0) h 113 [(0, vR (some x0)), (1, vI x1), (2, vJ x2), (4, vJ x4), (6, vI x6), (8, vI x8)] [] Q) (K2 : x7 = 0 → k_X (jX12_isOwn G l h0) h 71 [(0, vR (some x0)), (1, vI x1), (2, vJ x2), (4, vJ x4), (6, vI x6), (8, vI x8), (9, vI x9), (11, vI s0)] [] Q) : k_X (jX12_isOwn G l h0) h 64 [(0, vR (some x0)), (1, vI x1), (2, vJ x2), (4, vJ x4), (6, vI x6), (7, vI x7), (8, vI x8), (9, vI x9)] [vI s0] Q := by
  by_cases hc : x7 = 0
  · skip
    obtain ⟨h', r, K, q⟩ := K2 hc
    exact ⟨h', r, j_istore dX12_isOwn_64 (by decide) rfl <| j_iload dX12_isOwn_66 rfl <| j_if_ne_f dX12_isOwn_68 113 (by decide) hc (j_pick [0, 1, 2, 3, 4, 6, 7, 8] rfl K), q⟩
  · skip
    obtain ⟨h', r, K, q⟩ := K1 hc
    exact ⟨h', r, j_istore dX12_isOwn_64 (by decide) rfl <| j_iload dX12_isOwn_66 rfl <| j_if_ne_t (tgt := 113) dX12_isOwn_68 (by decide) hc (j_pick [0, 1, 2, 3, 4, 6] rfl K), q⟩
theorem bX12_isOwn_71 {h0 h : k_H} {Q : k_H → k_R → Prop} {x0 : Nat} {x1 x6 x8 x9 x11 : Int32} {x2 x4 : Int64} (K1 : x11 = 0 → k_X (jX12_isOwn G l h0) h 117 [(0, vR (some x0)), (1, vI x1), (2, vJ x2), (4, vJ x4), (6, vI x6), (8, vI x8)] [] Q) (K2 : ¬ (x11 = 0) → k_X (jX12_isOwn G l h0) h 76 [(0, vR (some x0)), (1, vI x1), (2, vJ x2), (4, vJ x4), (6, vI x6), (8, vI x8), (9, vI x9)] [] Q) : k_X (jX12_isOwn G l h0) h 71 [(0, vR (some x0)), (1, vI x1), (2, vJ x2), (4, vJ x4), (6, vI x6), (8, vI x8), (9, vI x9), (11, vI x11)] [] Q := by
  by_cases hc : x11 = 0
  · skip
    obtain ⟨h', r, K, q⟩ := K1 hc
    exact ⟨h', r, j_iload dX12_isOwn_71 rfl <| j_if_eq_t (tgt := 117) dX12_isOwn_73 (by decide) hc (j_pick [0, 1, 2, 3, 4, 5] rfl K), q⟩
  · skip
    obtain ⟨h', r, K, q⟩ := K2 hc
    exact ⟨h', r, j_iload dX12_isOwn_71 rfl <| j_if_eq_f dX12_isOwn_73 117 (by decide) hc (j_pick [0, 1, 2, 3, 4, 5, 6] rfl K), q⟩
theorem bX12_isOwn_76 {h0 h : k_H} {Q : k_H → k_R → Prop} {x0 f1_25 : Nat} {x1 x6 x8 x9 : Int32} {x2 x4 : Int64} {fs1 : List k_V} (o1 : h.1 x0 = some (k_o 15 fs1)) (g1_25 : fs1[25]? = some (vR (some f1_25))) {n2 : Nat} {w2 : Nat → Int32} (o2 : h.1 f1_25 = some (k_i n2 w2)) (y3 : vp_in x9 n2) (K1 : x6 < (w2 (x9).toNatClampNeg) → k_X (jX12_isOwn G l h0) h 117 [(0, vR (some x0)), (1, vI x1), (2, vJ x2), (4, vJ x4), (6, vI x6), (8, vI x8)] [] Q) (K2 : ¬ (x6 < (w2 (x9).toNatClampNeg)) → k_X (jX12_isOwn G l h0) h 88 [(0, vR (some x0)), (1, vI x1), (2, vJ x2), (4, vJ x4), (6, vI x6), (8, vI x8), (9, vI x9)] [] Q) : k_X (jX12_isOwn G l h0) h 76 [(0, vR (some x0)), (1, vI x1), (2, vJ x2), (4, vJ x4), (6, vI x6), (8, vI x8), (9, vI x9)] [] Q := by
  by_cases hc : x6 < (w2 (x9).toNatClampNeg)
  · skip
    obtain ⟨h', r, K, q⟩ := K1 hc
    exact ⟨h', r, j_aload_n dX12_isOwn_76 rfl rfl <| j_getf dX12_isOwn_77 kf_X12_72 o1 g1_25 <| j_iload dX12_isOwn_80 rfl <| j_iald dX12_isOwn_82 o2 y3 <| j_iload dX12_isOwn_83 rfl <| j_icmp_gt_t (tgt := 117) dX12_isOwn_85 (by decide) hc (j_pick [0, 1, 2, 3, 4, 5] rfl K), q⟩
  · skip
    obtain ⟨h', r, K, q⟩ := K2 hc
    exact ⟨h', r, j_aload_n dX12_isOwn_76 rfl rfl <| j_getf dX12_isOwn_77 kf_X12_72 o1 g1_25 <| j_iload dX12_isOwn_80 rfl <| j_iald dX12_isOwn_82 o2 y3 <| j_iload dX12_isOwn_83 rfl <| j_icmp_gt_f dX12_isOwn_85 117 (by decide) hc K, q⟩
theorem bX12_isOwn_88 {h0 h : k_H} {Q : k_H → k_R → Prop} {x0 f1_22 : Nat} {x1 x6 x8 x9 : Int32} {x2 x4 : Int64} {fs1 : List k_V} (o1 : h.1 x0 = some (k_o 15 fs1)) (g1_22 : fs1[22]? = some (vR (some f1_22))) {n2 : Nat} {w2 : Nat → Int64} (o2 : h.1 f1_22 = some (k_j n2 w2)) (y3 : vp_in x9 n2) (K1 : x2 < (w2 (x9).toNatClampNeg) → k_X (jX12_isOwn G l h0) h 117 [(0, vR (some x0)), (1, vI x1), (2, vJ x2), (4, vJ x4), (6, vI x6), (8, vI x8)] [] Q) (K2 : ¬ (x2 < (w2 (x9).toNatClampNeg)) → k_X (jX12_isOwn G l h0) h 100 [(0, vR (some x0)), (1, vI x1), (2, vJ x2), (4, vJ x4), (6, vI x6), (8, vI x8), (9, vI x9)] [] Q) : k_X (jX12_isOwn G l h0) h 88 [(0, vR (some x0)), (1, vI x1), (2, vJ x2), (4, vJ x4), (6, vI x6), (8, vI x8), (9, vI x9)] [] Q := by
  by_cases hc : x2 < (w2 (x9).toNatClampNeg)
  · skip
    obtain ⟨h', r, K, q⟩ := K1 hc
    exact ⟨h', r, j_lload_n dX12_isOwn_88 rfl rfl <| j_aload_n dX12_isOwn_89 rfl rfl <| j_getf dX12_isOwn_90 kf_X12_63 o1 g1_22 <| j_iload dX12_isOwn_93 rfl <| j_lald dX12_isOwn_95 o2 y3 <| j_lcmp dX12_isOwn_96 <| j_if_lt_t (tgt := 117) dX12_isOwn_97 (by decide) ((lg_cmp_lt _ _).mpr hc) (j_pick [0, 1, 2, 3, 4, 5] rfl K), q⟩
  · skip
    obtain ⟨h', r, K, q⟩ := K2 hc
    exact ⟨h', r, j_lload_n dX12_isOwn_88 rfl rfl <| j_aload_n dX12_isOwn_89 rfl rfl <| j_getf dX12_isOwn_90 kf_X12_63 o1 g1_22 <| j_iload dX12_isOwn_93 rfl <| j_lald dX12_isOwn_95 o2 y3 <| j_lcmp dX12_isOwn_96 <| j_if_lt_f dX12_isOwn_97 117 (by decide) ((not_congr (lg_cmp_lt _ _)).mpr hc) K, q⟩
theorem bX12_isOwn_100 {h0 h : k_H} {Q : k_H → k_R → Prop} {x0 f1_23 : Nat} {x1 x6 x8 x9 : Int32} {x2 x4 : Int64} {fs1 : List k_V} (o1 : h.1 x0 = some (k_o 15 fs1)) (g1_23 : fs1[23]? = some (vR (some f1_23))) {n2 : Nat} {w2 : Nat → Int64} (o2 : h.1 f1_23 = some (k_j n2 w2)) (y3 : vp_in x9 n2) (K1 : (w2 (x9).toNatClampNeg) < x4 → k_X (jX12_isOwn G l h0) h 117 [(0, vR (some x0)), (1, vI x1), (2, vJ x2), (4, vJ x4), (6, vI x6), (8, vI x8)] [] Q) (K2 : ¬ ((w2 (x9).toNatClampNeg) < x4) → k_X (jX12_isOwn G l h0) h 113 [(0, vR (some x0)), (1, vI x1), (2, vJ x2), (4, vJ x4), (6, vI x6), (8, vI x8)] [] Q) : k_X (jX12_isOwn G l h0) h 100 [(0, vR (some x0)), (1, vI x1), (2, vJ x2), (4, vJ x4), (6, vI x6), (8, vI x8), (9, vI x9)] [] Q := by
  by_cases hc : (w2 (x9).toNatClampNeg) < x4
  · skip
    obtain ⟨h', r, K, q⟩ := K1 hc
    exact ⟨h', r, j_lload dX12_isOwn_100 rfl <| j_aload_n dX12_isOwn_102 rfl rfl <| j_getf dX12_isOwn_103 kf_X12_66 o1 g1_23 <| j_iload dX12_isOwn_106 rfl <| j_lald dX12_isOwn_108 o2 y3 <| j_lcmp dX12_isOwn_109 <| j_if_gt_t (tgt := 117) dX12_isOwn_110 (by decide) ((lg_cmp_gt _ _).mpr hc) (j_pick [0, 1, 2, 3, 4, 5] rfl K), q⟩
  · skip
    obtain ⟨h', r, K, q⟩ := K2 hc
    exact ⟨h', r, j_lload dX12_isOwn_100 rfl <| j_aload_n dX12_isOwn_102 rfl rfl <| j_getf dX12_isOwn_103 kf_X12_66 o1 g1_23 <| j_iload dX12_isOwn_106 rfl <| j_lald dX12_isOwn_108 o2 y3 <| j_lcmp dX12_isOwn_109 <| j_if_gt_f dX12_isOwn_110 117 (by decide) ((not_congr (lg_cmp_gt _ _)).mpr hc) (j_pick [0, 1, 2, 3, 4, 5] rfl K), q⟩
theorem bX12_isOwn_113 {h0 h : k_H} {Q : k_H → k_R → Prop} {x0 : Nat} {x1 x6 x8 : Int32} {x2 x4 : Int64} (K : k_X (jX12_isOwn G l h0) h 118 [(0, vR (some x0)), (1, vI x1), (2, vJ x2), (4, vJ x4), (6, vI x6), (8, vI x8)] [vI 1] Q) : k_X (jX12_isOwn G l h0) h 113 [(0, vR (some x0)), (1, vI x1), (2, vJ x2), (4, vJ x4), (6, vI x6), (8, vI x8)] [] Q := by
  obtain ⟨h', r, K, q⟩ := K
  exact ⟨h', r, j_iconst (v := 1) dX12_isOwn_113 (by decide) <| j_goto (tgt := 118) dX12_isOwn_114 (by decide) <| K, q⟩
theorem bX12_isOwn_117 {h0 h : k_H} {Q : k_H → k_R → Prop} {x0 : Nat} {x1 x6 x8 : Int32} {x2 x4 : Int64} (K : k_X (jX12_isOwn G l h0) h 118 [(0, vR (some x0)), (1, vI x1), (2, vJ x2), (4, vJ x4), (6, vI x6), (8, vI x8)] [vI 0] Q) : k_X (jX12_isOwn G l h0) h 117 [(0, vR (some x0)), (1, vI x1), (2, vJ x2), (4, vJ x4), (6, vI x6), (8, vI x8)] [] Q := by
  obtain ⟨h', r, K, q⟩ := K
  exact ⟨h', r, j_iconst (v := 0) dX12_isOwn_117 (by decide) <| K, q⟩
theorem bX12_isOwn_118 {h0 h : k_H} {Q : k_H → k_R → Prop} {x0 : Nat} {x1 x6 x8 s0 : Int32} {x2 x4 : Int64} (K : k_X (jX12_isOwn G l h0) h 6 [(0, vR (some x0)), (1, vI x1), (2, vJ x2), (4, vJ x4), (6, vI x6), (7, vI s0), (8, vI (x8 + 1))] [] Q) : k_X (jX12_isOwn G l h0) h 118 [(0, vR (some x0)), (1, vI x1), (2, vJ x2), (4, vJ x4), (6, vI x6), (8, vI x8)] [vI s0] Q := by
  obtain ⟨h', r, K, q⟩ := K
  exact ⟨h', r, j_istore dX12_isOwn_118 (by decide) rfl <| j_iinc (v := x8 + 1) dX12_isOwn_120 rfl (by decide) rfl rfl <| j_goto (tgt := 6) dX12_isOwn_123 (by decide) <| K, q⟩
theorem bX12_isOwn_126 {h0 h : k_H} {Q : k_H → k_R → Prop} {x7 : Int32} (y1 : k_bl x7) (q : Q h (.inl (some (vI x7)))) : k_X (jX12_isOwn G l h0) h 126 [(7, vI x7)] [] Q := by
  exact ⟨_, _, j_iload dX12_isOwn_126 rfl <| j_zret dX12_isOwn_128 rfl y1, q⟩
theorem eX12_putsDown {G : k_G} {l : Launch} (hfl : l.flags = flags0) {h : k_H} {Q : k_H → k_R → Prop} {x0 : Nat} {x1 : Int32} {x2 : Int64} {x4 : Int64} (K : k_X (jX12_putsDown G l h) h 0 [(0, vR (some x0)), (1, vI x1), (2, vJ x2), (4, vJ x4)] [] Q) : k_ct (tX12_putsDown G l) [vR (some x0), vI x1, vJ x2, vJ x4] h Q := by
  obtain ⟨h', r, K, q⟩ := K
  exact ⟨h', r, k_CtOf (by decide +kernel) (Nat.le_of_ble_eq_true rfl) K hfl, q⟩

theorem bX12_putsDown_0 {h0 h : k_H} {Q : k_H → k_R → Prop} {x0 f1_26 f1_27 : Nat} {x1 : Int32} {x2 x4 : Int64} {fs1 : List k_V} (o1 : h.1 x0 = some (k_o 15 fs1)) (g1_26 : fs1[26]? = some (vR (some f1_26))) {n2 : Nat} {w2 : Nat → Int32} (o2 : h.1 f1_26 = some (k_i n2 w2)) (y3 : vp_in x1 n2) (g1_27 : fs1[27]? = some (vR (some f1_27))) {n4 : Nat} {w4 : Nat → Int64} (o4 : h.1 f1_27 = some (k_j n4 w4)) (y5 : vp_in ((2048 * x1) + (w2 (x1).toNatClampNeg)) n4) (K : k_X (jX12_putsDown G l h0) (k_up h f1_27 (k_j n4 (va_up w4 ((2048 * x1) + (w2 (x1).toNatClampNeg)).toNatClampNeg x2))) 22 [(0, vR (some x0)), (1, vI x1), (4, vJ x4), (6, vI ((2048 * x1) + (w2 (x1).toNatClampNeg)))] [] Q) : k_X (jX12_putsDown G l h0) h 0 [(0, vR (some x0)), (1, vI x1), (2, vJ x2), (4, vJ x4)] [] Q := by
  obtain ⟨h', r, K, q⟩ := K
  exact ⟨h', r, j_sipush (v := 2048) dX12_putsDown_0 (by decide) <| j_iload_n dX12_putsDown_3 rfl rfl <| j_imul dX12_putsDown_4 <| j_aload_n dX12_putsDown_5 rfl rfl <| j_getf dX12_putsDown_6 kf_X12_75 o1 g1_26 <| j_iload_n dX12_putsDown_9 rfl rfl <| j_iald dX12_putsDown_10 o2 y3 <| j_iadd dX12_putsDown_11 <| j_istore dX12_putsDown_12 (by decide) rfl <| j_aload_n dX12_putsDown_14 rfl rfl <| j_getf dX12_putsDown_15 kf_X12_78 o1 g1_27 <| j_iload dX12_putsDown_18 rfl <| j_lload_n dX12_putsDown_20 rfl rfl <| j_last dX12_putsDown_21 o4 y5 <| (j_pick [0, 1, 3, 4] rfl K), q⟩
theorem bX12_putsDown_22 {h0 h : k_H} {Q : k_H → k_R → Prop} {x0 f1_28 : Nat} {x1 x6 : Int32} {x4 : Int64} {fs1 : List k_V} (o1 : h.1 x0 = some (k_o 15 fs1)) (g1_28 : fs1[28]? = some (vR (some f1_28))) {n2 : Nat} {w2 : Nat → Int64} (o2 : h.1 f1_28 = some (k_j n2 w2)) (y3 : vp_in x6 n2) (K : k_X (jX12_putsDown G l h0) (k_up h f1_28 (k_j n2 (va_up w2 (x6).toNatClampNeg x4))) 31 [(0, vR (some x0)), (1, vI x1), (6, vI x6)] [] Q) : k_X (jX12_putsDown G l h0) h 22 [(0, vR (some x0)), (1, vI x1), (4, vJ x4), (6, vI x6)] [] Q := by
  obtain ⟨h', r, K, q⟩ := K
  exact ⟨h', r, j_aload_n dX12_putsDown_22 rfl rfl <| j_getf dX12_putsDown_23 kf_X12_81 o1 g1_28 <| j_iload dX12_putsDown_26 rfl <| j_lload dX12_putsDown_28 rfl <| j_last dX12_putsDown_30 o2 y3 <| (j_pick [0, 1, 3] rfl K), q⟩
theorem bX12_putsDown_31 {h0 h : k_H} {Q : k_H → k_R → Prop} {x0 f1_29 : Nat} {x1 x6 f1_19 : Int32} {fs1 : List k_V} (o1 : h.1 x0 = some (k_o 15 fs1)) (g1_29 : fs1[29]? = some (vR (some f1_29))) (g1_19 : fs1[19]? = some (vI f1_19)) {n2 : Nat} {w2 : Nat → Int32} (o2 : h.1 f1_29 = some (k_i n2 w2)) (y3 : vp_in x6 n2) (K : k_X (jX12_putsDown G l h0) (k_up h f1_29 (k_i n2 (va_up w2 (x6).toNatClampNeg f1_19))) 42 [(0, vR (some x0)), (1, vI x1)] [] Q) : k_X (jX12_putsDown G l h0) h 31 [(0, vR (some x0)), (1, vI x1), (6, vI x6)] [] Q := by
  obtain ⟨h', r, K, q⟩ := K
  exact ⟨h', r, j_aload_n dX12_putsDown_31 rfl rfl <| j_getf dX12_putsDown_32 kf_X12_84 o1 g1_29 <| j_iload dX12_putsDown_35 rfl <| j_aload_n dX12_putsDown_37 rfl rfl <| j_getf dX12_putsDown_38 kf_X12_247 o1 g1_19 <| j_iast dX12_putsDown_41 o2 y3 <| (j_pick [0, 1] rfl K), q⟩
theorem bX12_putsDown_42 {h0 h : k_H} {Q : k_H → k_R → Prop} {x0 f1_26 : Nat} {x1 : Int32} {fs1 : List k_V} (o1 : h.1 x0 = some (k_o 15 fs1)) (g1_26 : fs1[26]? = some (vR (some f1_26))) {n2 : Nat} {w2 : Nat → Int32} (o2 : h.1 f1_26 = some (k_i n2 w2)) (y3 : vp_in x1 n2) (K : k_X (jX12_putsDown G l h0) (k_up h f1_26 (k_i n2 (va_up w2 (x1).toNatClampNeg ((w2 (x1).toNatClampNeg) + 1)))) 52 [] [] Q) : k_X (jX12_putsDown G l h0) h 42 [(0, vR (some x0)), (1, vI x1)] [] Q := by
  obtain ⟨h', r, K, q⟩ := K
  exact ⟨h', r, j_aload_n dX12_putsDown_42 rfl rfl <| j_getf dX12_putsDown_43 kf_X12_75 o1 g1_26 <| j_iload_n dX12_putsDown_46 rfl rfl <| j_dup2 dX12_putsDown_47 rfl rfl <| j_iald dX12_putsDown_48 o2 y3 <| j_iconst (v := 1) dX12_putsDown_49 (by decide) <| j_iadd dX12_putsDown_50 <| j_iast dX12_putsDown_51 o2 y3 <| (j_pick [] rfl K), q⟩
theorem bX12_putsDown_52 {h0 h : k_H} {Q : k_H → k_R → Prop} (q : Q h (.inl none)) : k_X (jX12_putsDown G l h0) h 52 [] [] Q := by
  exact ⟨_, _, j_vret dX12_putsDown_52 rfl, q⟩
theorem eX12_reads {G : k_G} {l : Launch} (hfl : l.flags = flags0) {h : k_H} {Q : k_H → k_R → Prop} {x0 : Nat} {x1 : Int32} {x2 : Int64} {x4 : Int32} (K : k_X (jX12_reads G l h) h 0 [(0, vR (some x0)), (1, vI x1), (2, vJ x2), (4, vI x4)] [] Q) : k_ct (tX12_reads G l) [vR (some x0), vI x1, vJ x2, vI x4] h Q := by
  obtain ⟨h', r, K, q⟩ := K
  exact ⟨h', r, k_CtOf (by decide +kernel) (Nat.le_of_ble_eq_true rfl) K hfl, q⟩

theorem bX12_reads_0 {h0 h : k_H} {Q : k_H → k_R → Prop} {x0 : Nat} {x1 x4 : Int32} {x2 : Int64} (K1 : x4 = 0 → k_X (jX12_reads G l h0) h 26 [(0, vR (some x0)), (1, vI x1), (2, vJ x2)] [] Q) (K2 : ¬ (x4 = 0) → k_X (jX12_reads G l h0) h 5 [(0, vR (some x0)), (1, vI x1), (2, vJ x2)] [] Q) : k_X (jX12_reads G l h0) h 0 [(0, vR (some x0)), (1, vI x1), (2, vJ x2), (4, vI x4)] [] Q := by
  by_cases hc : x4 = 0
  · skip
    obtain ⟨h', r, K, q⟩ := K1 hc
    exact ⟨h', r, j_iload dX12_reads_0 rfl <| j_if_eq_t (tgt := 26) dX12_reads_2 (by decide) hc (j_pick [0, 1, 2] rfl K), q⟩
  · skip
    obtain ⟨h', r, K, q⟩ := K2 hc
    exact ⟨h', r, j_iload dX12_reads_0 rfl <| j_if_eq_f dX12_reads_2 26 (by decide) hc (j_pick [0, 1, 2] rfl K), q⟩
theorem bX12_reads_5 {h0 h : k_H} {Q : k_H → k_R → Prop} {x0 : Nat} {x1 f1_19 : Int32} {x2 : Int64} {fs1 : List k_V} (o1 : h.1 x0 = some (k_o 15 fs1)) (g1_19 : fs1[19]? = some (vI f1_19)) {P : k_H → Int32 → Prop} (c : k_cti (tX12_isOwn G l) [vR (some x0), vI x1, vJ x2, vJ x2, vI f1_19] h P) (K : ∀ h1 v, P h1 v → k_X (jX12_reads G l h0) h1 16 [(0, vR (some x0)), (1, vI x1), (2, vJ x2)] [vI v] Q) : k_X (jX12_reads G l h0) h 5 [(0, vR (some x0)), (1, vI x1), (2, vJ x2)] [] Q := by
  obtain ⟨h1, v, c, p⟩ := c
  obtain ⟨h', r, K, q⟩ := K h1 v p
  exact ⟨h', r, j_aload_n dX12_reads_5 rfl rfl <| j_iload_n dX12_reads_6 rfl rfl <| j_lload_n dX12_reads_7 rfl rfl <| j_lload_n dX12_reads_8 rfl rfl <| j_aload_n dX12_reads_9 rfl rfl <| j_getf dX12_reads_10 kf_X12_247 o1 g1_19 <| j_callV (v := some (vI v)) (as := [vI x1, vJ x2, vJ x2, vI f1_19]) dX12_reads_13 kc_X12_250 rfl rfl (k_is_o o1) (by decide) (Nat.le_of_ble_eq_true rfl) c K, q⟩
theorem bX12_reads_16 {h0 h : k_H} {Q : k_H → k_R → Prop} {x0 : Nat} {x1 s0 : Int32} {x2 : Int64} (K1 : ¬ (s0 = 0) → k_X (jX12_reads G l h0) h 26 [(0, vR (some x0)), (1, vI x1), (2, vJ x2)] [] Q) (K2 : s0 = 0 → k_X (jX12_reads G l h0) h 19 [(0, vR (some x0)), (1, vI x1), (2, vJ x2)] [] Q) : k_X (jX12_reads G l h0) h 16 [(0, vR (some x0)), (1, vI x1), (2, vJ x2)] [vI s0] Q := by
  by_cases hc : s0 = 0
  · skip
    obtain ⟨h', r, K, q⟩ := K2 hc
    exact ⟨h', r, j_if_ne_f dX12_reads_16 26 (by decide) hc K, q⟩
  · skip
    obtain ⟨h', r, K, q⟩ := K1 hc
    exact ⟨h', r, j_if_ne_t (tgt := 26) dX12_reads_16 (by decide) hc K, q⟩
theorem bX12_reads_19 {h0 h : k_H} {Q : k_H → k_R → Prop} {x0 : Nat} {x1 : Int32} {x2 : Int64} (w : k_is h x0 15) {P : k_H → Prop} (c : k_ctv (tX12_putsDown G l) [vR (some x0), vI x1, vJ x2, vJ x2] h P) (K : ∀ h1, P h1 → k_X (jX12_reads G l h0) h1 26 [(0, vR (some x0)), (1, vI x1), (2, vJ x2)] [] Q) : k_X (jX12_reads G l h0) h 19 [(0, vR (some x0)), (1, vI x1), (2, vJ x2)] [] Q := by
  obtain ⟨h1, c, p⟩ := c
  obtain ⟨h', r, K, q⟩ := K h1 p
  exact ⟨h', r, j_aload_n dX12_reads_19 rfl rfl <| j_iload_n dX12_reads_20 rfl rfl <| j_lload_n dX12_reads_21 rfl rfl <| j_lload_n dX12_reads_22 rfl rfl <| j_callV (v := none) (as := [vI x1, vJ x2, vJ x2]) dX12_reads_23 kc_X12_254 rfl rfl w (by decide) (Nat.le_of_ble_eq_true rfl) c K, q⟩
theorem bX12_reads_26 {h0 h : k_H} {Q : k_H → k_R → Prop} {x0 : Nat} {x1 : Int32} {x2 : Int64} (w : k_is h x0 15) {P : k_H → Prop} (c : k_ctv (tX12_sees G l) [vR (some x0), vI x1, vJ x2] h P) (K : ∀ h1, P h1 → k_X (jX12_reads G l h0) h1 32 [] [] Q) : k_X (jX12_reads G l h0) h 26 [(0, vR (some x0)), (1, vI x1), (2, vJ x2)] [] Q := by
  obtain ⟨h1, c, p⟩ := c
  obtain ⟨h', r, K, q⟩ := K h1 p
  exact ⟨h', r, j_aload_n dX12_reads_26 rfl rfl <| j_iload_n dX12_reads_27 rfl rfl <| j_lload_n dX12_reads_28 rfl rfl <| j_callV (v := none) (as := [vI x1, vJ x2]) dX12_reads_29 kc_X12_258 rfl rfl w (by decide) (Nat.le_of_ble_eq_true rfl) c (j_pick [] rfl K), q⟩
theorem bX12_reads_32 {h0 h : k_H} {Q : k_H → k_R → Prop} (q : Q h (.inl none)) : k_X (jX12_reads G l h0) h 32 [] [] Q := by
  exact ⟨_, _, j_vret dX12_reads_32 rfl, q⟩
theorem eX12_over {G : k_G} {l : Launch} (hfl : l.flags = flags0) {h : k_H} {Q : k_H → k_R → Prop} {x0 : Nat} {x1 : Int32} (K : k_X (jX12_over G l h) h 0 [(0, vR (some x0)), (1, vI x1)] [] Q) : k_ct (tX12_over G l) [vR (some x0), vI x1] h Q := by
  obtain ⟨h', r, K, q⟩ := K
  exact ⟨h', r, k_CtOf (by decide +kernel) (Nat.le_of_ble_eq_true rfl) K hfl, q⟩

theorem bX12_over_0 {h0 h : k_H} {Q : k_H → k_R → Prop} {x0 f1_14 : Nat} {x1 : Int32} {fs1 : List k_V} (o1 : h.1 x0 = some (k_o 15 fs1)) (g1_14 : fs1[14]? = some (vR (some f1_14))) {n2 : Nat} {w2 : Nat → Int32} (o2 : h.1 f1_14 = some (k_z n2 w2)) (y3 : vp_in x1 n2) (K : k_X (jX12_over G l h0) (k_up h f1_14 (k_z n2 (va_up w2 (x1).toNatClampNeg 0))) 7 [(0, vR (some x0)), (1, vI x1)] [] Q) : k_X (jX12_over G l h0) h 0 [(0, vR (some x0)), (1, vI x1)] [] Q := by
  obtain ⟨h', r, K, q⟩ := K
  exact ⟨h', r, j_aload_n dX12_over_0 rfl rfl <| j_getf dX12_over_1 kf_X12_42 o1 g1_14 <| j_iload_n dX12_over_4 rfl rfl <| j_iconst (v := 0) dX12_over_5 (by decide) <| j_zast dX12_over_6 o2 y3 (by decide) <| K, q⟩
theorem bX12_over_7 {h0 h : k_H} {Q : k_H → k_R → Prop} {x0 f1_20 : Nat} {x1 : Int32} {fs1 : List k_V} (o1 : h.1 x0 = some (k_o 15 fs1)) (g1_20 : fs1[20]? = some (vR (some f1_20))) {n2 : Nat} {w2 : Nat → Int32} (o2 : h.1 f1_20 = some (k_i n2 w2)) (y3 : vp_in x1 n2) (K : k_X (jX12_over G l h0) (k_up h f1_20 (k_i n2 (va_up w2 (x1).toNatClampNeg 0))) 14 [(0, vR (some x0)), (1, vI x1)] [] Q) : k_X (jX12_over G l h0) h 7 [(0, vR (some x0)), (1, vI x1)] [] Q := by
  obtain ⟨h', r, K, q⟩ := K
  exact ⟨h', r, j_aload_n dX12_over_7 rfl rfl <| j_getf dX12_over_8 kf_X12_57 o1 g1_20 <| j_iload_n dX12_over_11 rfl rfl <| j_iconst (v := 0) dX12_over_12 (by decide) <| j_iast dX12_over_13 o2 y3 <| K, q⟩
theorem bX12_over_14 {h0 h : k_H} {Q : k_H → k_R → Prop} {x0 f1_26 : Nat} {x1 : Int32} {fs1 : List k_V} (o1 : h.1 x0 = some (k_o 15 fs1)) (g1_26 : fs1[26]? = some (vR (some f1_26))) {n2 : Nat} {w2 : Nat → Int32} (o2 : h.1 f1_26 = some (k_i n2 w2)) (y3 : vp_in x1 n2) (K : k_X (jX12_over G l h0) (k_up h f1_26 (k_i n2 (va_up w2 (x1).toNatClampNeg 0))) 21 [] [] Q) : k_X (jX12_over G l h0) h 14 [(0, vR (some x0)), (1, vI x1)] [] Q := by
  obtain ⟨h', r, K, q⟩ := K
  exact ⟨h', r, j_aload_n dX12_over_14 rfl rfl <| j_getf dX12_over_15 kf_X12_75 o1 g1_26 <| j_iload_n dX12_over_18 rfl rfl <| j_iconst (v := 0) dX12_over_19 (by decide) <| j_iast dX12_over_20 o2 y3 <| (j_pick [] rfl K), q⟩
theorem bX12_over_21 {h0 h : k_H} {Q : k_H → k_R → Prop} (q : Q h (.inl none)) : k_X (jX12_over G l h0) h 21 [] [] Q := by
  exact ⟨_, _, j_vret dX12_over_21 rfl, q⟩
theorem eX12_begin {G : k_G} {l : Launch} (hfl : l.flags = flags0) {h : k_H} {Q : k_H → k_R → Prop} {x0 : Nat} {x1 : Int32} {x2 : Int32} (K : k_X (jX12_begin G l h) h 0 [(0, vR (some x0)), (1, vI x1), (2, vI x2)] [] Q) : k_ct (tX12_begin G l) [vR (some x0), vI x1, vI x2] h Q := by
  obtain ⟨h', r, K, q⟩ := K
  exact ⟨h', r, k_CtOf (by decide +kernel) (Nat.le_of_ble_eq_true rfl) K hfl, q⟩

theorem bX12_begin_0 {h0 h : k_H} {Q : k_H → k_R → Prop} {x0 : Nat} {x1 x2 : Int32} {P : k_H → Int32 → Prop} (c : k_cti (tX12_isTransaction G l) [vI x1] h P) (K : ∀ h1 v, P h1 v → k_X (jX12_begin G l h0) h1 5 [(0, vR (some x0)), (1, vI x1), (2, vI x2)] [vI v, vR (some x0)] Q) : k_X (jX12_begin G l h0) h 0 [(0, vR (some x0)), (1, vI x1), (2, vI x2)] [] Q := by
  obtain ⟨h1, v, c, p⟩ := c
  obtain ⟨h', r, K, q⟩ := K h1 v p
  exact ⟨h', r, j_aload_n dX12_begin_0 rfl rfl <| j_iload_n dX12_begin_1 rfl rfl <| j_callS (v := some (vI v)) (as := [vI x1]) dX12_begin_2 kc_X12_262 rfl rfl (by decide) (Nat.le_of_ble_eq_true rfl) c K, q⟩
theorem bX12_begin_5 {h0 h : k_H} {Q : k_H → k_R → Prop} {x0 : Nat} {x1 x2 s1 : Int32} {s0 : Option Nat} (K1 : s1 = 0 → k_X (jX12_begin G l h0) h 12 [(0, vR (some x0)), (1, vI x1), (2, vI x2)] [vR s0] Q) (K2 : ¬ (s1 = 0) → k_X (jX12_begin G l h0) h 8 [(0, vR (some x0)), (1, vI x1), (2, vI x2)] [vR s0] Q) : k_X (jX12_begin G l h0) h 5 [(0, vR (some x0)), (1, vI x1), (2, vI x2)] [vI s1, vR s0] Q := by
  by_cases hc : s1 = 0
  · skip
    obtain ⟨h', r, K, q⟩ := K1 hc
    exact ⟨h', r, j_if_eq_t (tgt := 12) dX12_begin_5 (by decide) hc K, q⟩
  · skip
    obtain ⟨h', r, K, q⟩ := K2 hc
    exact ⟨h', r, j_if_eq_f dX12_begin_5 12 (by decide) hc K, q⟩
theorem bX12_begin_8 {h0 h : k_H} {Q : k_H → k_R → Prop} {x0 : Nat} {x1 x2 : Int32} {s0 : Option Nat} (K : k_X (jX12_begin G l h0) h 13 [(0, vR (some x0)), (1, vI x1), (2, vI x2)] [vI 0, vR s0] Q) : k_X (jX12_begin G l h0) h 8 [(0, vR (some x0)), (1, vI x1), (2, vI x2)] [vR s0] Q := by
  obtain ⟨h', r, K, q⟩ := K
  exact ⟨h', r, j_iconst (v := 0) dX12_begin_8 (by decide) <| j_goto (tgt := 13) dX12_begin_9 (by decide) <| K, q⟩
theorem bX12_begin_12 {h0 h : k_H} {Q : k_H → k_R → Prop} {x0 : Nat} {x1 x2 : Int32} {s0 : Option Nat} (K : k_X (jX12_begin G l h0) h 13 [(0, vR (some x0)), (1, vI x1), (2, vI x2)] [vI 1, vR s0] Q) : k_X (jX12_begin G l h0) h 12 [(0, vR (some x0)), (1, vI x1), (2, vI x2)] [vR s0] Q := by
  obtain ⟨h', r, K, q⟩ := K
  exact ⟨h', r, j_iconst (v := 1) dX12_begin_12 (by decide) <| K, q⟩
theorem bX12_begin_13 {h0 h : k_H} {Q : k_H → k_R → Prop} {x0 s0 : Nat} {x1 x2 s1 : Int32} (w : k_is h s0 15) {P : k_H → Int32 → Prop} (c : k_cti (tX12_goes G l) [vR (some s0), vI s1] h P) (K : ∀ h1 v, P h1 v → k_X (jX12_begin G l h0) h1 16 [(0, vR (some x0)), (1, vI x1), (2, vI x2)] [vI v] Q) : k_X (jX12_begin G l h0) h 13 [(0, vR (some x0)), (1, vI x1), (2, vI x2)] [vI s1, vR (some s0)] Q := by
  obtain ⟨h1, v, c, p⟩ := c
  obtain ⟨h', r, K, q⟩ := K h1 v p
  exact ⟨h', r, j_callV (v := some (vI v)) (as := [vI s1]) dX12_begin_13 kc_X12_265 rfl rfl w (by decide) (Nat.le_of_ble_eq_true rfl) c K, q⟩
theorem bX12_begin_16 {h0 h : k_H} {Q : k_H → k_R → Prop} {x0 : Nat} {x1 x2 s0 : Int32} (K1 : ¬ (s0 = 0) → k_X (jX12_begin G l h0) h 21 [(0, vR (some x0)), (1, vI x1), (2, vI x2)] [] Q) (K2 : s0 = 0 → k_X (jX12_begin G l h0) h 19 [] [] Q) : k_X (jX12_begin G l h0) h 16 [(0, vR (some x0)), (1, vI x1), (2, vI x2)] [vI s0] Q := by
  by_cases hc : s0 = 0
  · skip
    obtain ⟨h', r, K, q⟩ := K2 hc
    exact ⟨h', r, j_if_ne_f dX12_begin_16 21 (by decide) hc (j_pick [] rfl K), q⟩
  · skip
    obtain ⟨h', r, K, q⟩ := K1 hc
    exact ⟨h', r, j_if_ne_t (tgt := 21) dX12_begin_16 (by decide) hc K, q⟩
theorem bX12_begin_19 {h0 h : k_H} {Q : k_H → k_R → Prop} (q : Q h (.inl (some (vI 0)))) : k_X (jX12_begin G l h0) h 19 [] [] Q := by
  exact ⟨_, _, j_iconst (v := 0) dX12_begin_19 (by decide) <| j_iret dX12_begin_20 rfl, q⟩
theorem bX12_begin_21 {h0 h : k_H} {Q : k_H → k_R → Prop} {x0 : Nat} {x1 x2 : Int32} (w : k_is h x0 15) {P : k_H → Prop} (c : k_ctv (tX12_over G l) [vR (some x0), vI x1] h P) (K : ∀ h1, P h1 → k_X (jX12_begin G l h0) h1 26 [(0, vR (some x0)), (1, vI x1), (2, vI x2)] [] Q) : k_X (jX12_begin G l h0) h 21 [(0, vR (some x0)), (1, vI x1), (2, vI x2)] [] Q := by
  obtain ⟨h1, c, p⟩ := c
  obtain ⟨h', r, K, q⟩ := K h1 p
  exact ⟨h', r, j_aload_n dX12_begin_21 rfl rfl <| j_iload_n dX12_begin_22 rfl rfl <| j_callV (v := none) (as := [vI x1]) dX12_begin_23 kc_X12_268 rfl rfl w (by decide) (Nat.le_of_ble_eq_true rfl) c K, q⟩
theorem bX12_begin_26 {h0 h : k_H} {Q : k_H → k_R → Prop} {x0 f1_14 : Nat} {x1 x2 : Int32} {fs1 : List k_V} (o1 : h.1 x0 = some (k_o 15 fs1)) (g1_14 : fs1[14]? = some (vR (some f1_14))) {n2 : Nat} {w2 : Nat → Int32} (o2 : h.1 f1_14 = some (k_z n2 w2)) (y3 : vp_in x1 n2) (K : k_X (jX12_begin G l h0) (k_up h f1_14 (k_z n2 (va_up w2 (x1).toNatClampNeg 1))) 33 [(0, vR (some x0)), (1, vI x1), (2, vI x2)] [] Q) : k_X (jX12_begin G l h0) h 26 [(0, vR (some x0)), (1, vI x1), (2, vI x2)] [] Q := by
  obtain ⟨h', r, K, q⟩ := K
  exact ⟨h', r, j_aload_n dX12_begin_26 rfl rfl <| j_getf dX12_begin_27 kf_X12_42 o1 g1_14 <| j_iload_n dX12_begin_30 rfl rfl <| j_iconst (v := 1) dX12_begin_31 (by decide) <| j_zast dX12_begin_32 o2 y3 (by decide) <| K, q⟩
theorem bX12_begin_33 {h0 h : k_H} {Q : k_H → k_R → Prop} {x0 f1_15 : Nat} {x1 x2 : Int32} {fs1 : List k_V} (o1 : h.1 x0 = some (k_o 15 fs1)) (g1_15 : fs1[15]? = some (vR (some f1_15))) {n2 : Nat} {w2 : Nat → Int32} (o2 : h.1 f1_15 = some (k_z n2 w2)) (y3 : vp_in x1 n2) (y4 : k_bl x2) (K : k_X (jX12_begin G l h0) (k_up h f1_15 (k_z n2 (va_up w2 (x1).toNatClampNeg x2))) 40 [(0, vR (some x0)), (1, vI x1)] [] Q) : k_X (jX12_begin G l h0) h 33 [(0, vR (some x0)), (1, vI x1), (2, vI x2)] [] Q := by
  obtain ⟨h', r, K, q⟩ := K
  exact ⟨h', r, j_aload_n dX12_begin_33 rfl rfl <| j_getf dX12_begin_34 kf_X12_45 o1 g1_15 <| j_iload_n dX12_begin_37 rfl rfl <| j_iload_n dX12_begin_38 rfl rfl <| j_zast dX12_begin_39 o2 y3 y4 <| (j_pick [0, 1] rfl K), q⟩
theorem bX12_begin_40 {h0 h : k_H} {Q : k_H → k_R → Prop} {x0 f1_16 : Nat} {x1 f1_0 : Int32} {fs1 : List k_V} (o1 : h.1 x0 = some (k_o 15 fs1)) (g1_16 : fs1[16]? = some (vR (some f1_16))) (g1_0 : fs1[0]? = some (vI f1_0)) {n2 : Nat} {w2 : Nat → Int32} (o2 : h.1 f1_16 = some (k_i n2 w2)) (y3 : vp_in x1 n2) (K : k_X (jX12_begin G l h0) (k_up h f1_16 (k_i n2 (va_up w2 (x1).toNatClampNeg f1_0))) 50 [(0, vR (some x0)), (1, vI x1)] [] Q) : k_X (jX12_begin G l h0) h 40 [(0, vR (some x0)), (1, vI x1)] [] Q := by
  obtain ⟨h', r, K, q⟩ := K
  exact ⟨h', r, j_aload_n dX12_begin_40 rfl rfl <| j_getf dX12_begin_41 kf_X12_48 o1 g1_16 <| j_iload_n dX12_begin_44 rfl rfl <| j_aload_n dX12_begin_45 rfl rfl <| j_getf dX12_begin_46 kf_X12_176 o1 g1_0 <| j_iast dX12_begin_49 o2 y3 <| K, q⟩
theorem bX12_begin_50 {h0 h : k_H} {Q : k_H → k_R → Prop} {x0 f1_17 : Nat} {x1 f1_1 : Int32} {fs1 : List k_V} (o1 : h.1 x0 = some (k_o 15 fs1)) (g1_17 : fs1[17]? = some (vR (some f1_17))) (g1_1 : fs1[1]? = some (vI f1_1)) {n2 : Nat} {w2 : Nat → Int32} (o2 : h.1 f1_17 = some (k_i n2 w2)) (y3 : vp_in x1 n2) (K : k_X (jX12_begin G l h0) (k_up h f1_17 (k_i n2 (va_up w2 (x1).toNatClampNeg f1_1))) 60 [(0, vR (some x0)), (1, vI x1)] [] Q) : k_X (jX12_begin G l h0) h 50 [(0, vR (some x0)), (1, vI x1)] [] Q := by
  obtain ⟨h', r, K, q⟩ := K
  exact ⟨h', r, j_aload_n dX12_begin_50 rfl rfl <| j_getf dX12_begin_51 kf_X12_51 o1 g1_17 <| j_iload_n dX12_begin_54 rfl rfl <| j_aload_n dX12_begin_55 rfl rfl <| j_getf dX12_begin_56 kf_X12_272 o1 g1_1 <| j_iast dX12_begin_59 o2 y3 <| K, q⟩
theorem bX12_begin_60 {h0 h : k_H} {Q : k_H → k_R → Prop} {x0 f1_18 : Nat} {x1 : Int32} {fs1 : List k_V} (o1 : h.1 x0 = some (k_o 15 fs1)) (g1_18 : fs1[18]? = some (vR (some f1_18))) {n2 : Nat} {w2 : Nat → Int32} (o2 : h.1 f1_18 = some (k_i n2 w2)) (y3 : vp_in x1 n2) (K : k_X (jX12_begin G l h0) (k_up h f1_18 (k_i n2 (va_up w2 (x1).toNatClampNeg 0))) 67 [(0, vR (some x0))] [] Q) : k_X (jX12_begin G l h0) h 60 [(0, vR (some x0)), (1, vI x1)] [] Q := by
  obtain ⟨h', r, K, q⟩ := K
  exact ⟨h', r, j_aload_n dX12_begin_60 rfl rfl <| j_getf dX12_begin_61 kf_X12_54 o1 g1_18 <| j_iload_n dX12_begin_64 rfl rfl <| j_iconst (v := 0) dX12_begin_65 (by decide) <| j_iast dX12_begin_66 o2 y3 <| (j_pick [0] rfl K), q⟩
theorem bX12_begin_67 {h0 h : k_H} {Q : k_H → k_R → Prop} {x0 : Nat} {f1_0 : Int32} {fs1 : List k_V} (o1 : h.1 x0 = some (k_o 15 fs1)) (g1_0 : fs1[0]? = some (vI f1_0)) (q : Q h (.inl (some (vI f1_0)))) : k_X (jX12_begin G l h0) h 67 [(0, vR (some x0))] [] Q := by
  exact ⟨_, _, j_aload_n dX12_begin_67 rfl rfl <| j_getf dX12_begin_68 kf_X12_176 o1 g1_0 <| j_iret dX12_begin_71 rfl, q⟩
theorem eX12_get {G : k_G} {l : Launch} (hfl : l.flags = flags0) {h : k_H} {Q : k_H → k_R → Prop} {x0 : Nat} {x1 : Int32} {x2 : Int32} {x3 : Int32} {x4 : Int32} {x5 : Int32} (K : k_X (jX12_get G l h) h 0 [(0, vR (some x0)), (1, vI x1), (2, vI x2), (3, vI x3), (4, vI x4), (5, vI x5)] [] Q) : k_ct (tX12_get G l) [vR (some x0), vI x1, vI x2, vI x3, vI x4, vI x5] h Q := by
  obtain ⟨h', r, K, q⟩ := K
  exact ⟨h', r, k_CtOf (by decide +kernel) (Nat.le_of_ble_eq_true rfl) K hfl, q⟩

theorem bX12_get_0 {h0 h : k_H} {Q : k_H → k_R → Prop} {x0 : Nat} {x1 x2 x3 x4 x5 : Int32} {P : k_H → Int32 → Prop} (c : k_cti (tX12_isTransaction G l) [vI x1] h P) (K : ∀ h1 v, P h1 v → k_X (jX12_get G l h0) h1 4 [(0, vR (some x0)), (1, vI x1), (2, vI x2), (3, vI x3), (4, vI x4), (5, vI x5)] [vI v] Q) : k_X (jX12_get G l h0) h 0 [(0, vR (some x0)), (1, vI x1), (2, vI x2), (3, vI x3), (4, vI x4), (5, vI x5)] [] Q := by
  obtain ⟨h1, v, c, p⟩ := c
  obtain ⟨h', r, K, q⟩ := K h1 v p
  exact ⟨h', r, j_iload_n dX12_get_0 rfl rfl <| j_callS (v := some (vI v)) (as := [vI x1]) dX12_get_1 kc_X12_262 rfl rfl (by decide) (Nat.le_of_ble_eq_true rfl) c K, q⟩
theorem bX12_get_4 {h0 h : k_H} {Q : k_H → k_R → Prop} {x0 : Nat} {x1 x2 x3 x4 x5 s0 : Int32} {P : k_H → Int32 → Prop} (c : k_cti (tX12_isKey G l) [vI x2, vI x3, vI x4] h P) (K : ∀ h1 v, P h1 v → k_X (jX12_get G l h0) h1 13 [(0, vR (some x0)), (1, vI x1), (2, vI x2), (3, vI x3), (4, vI x4), (5, vI x5), (6, vI s0)] [vI v] Q) : k_X (jX12_get G l h0) h 4 [(0, vR (some x0)), (1, vI x1), (2, vI x2), (3, vI x3), (4, vI x4), (5, vI x5)] [vI s0] Q := by
  obtain ⟨h1, v, c, p⟩ := c
  obtain ⟨h', r, K, q⟩ := K h1 v p
  exact ⟨h', r, j_istore dX12_get_4 (by decide) rfl <| j_iload_n dX12_get_6 rfl rfl <| j_iload_n dX12_get_7 rfl rfl <| j_iload dX12_get_8 rfl <| j_callS (v := some (vI v)) (as := [vI x2, vI x3, vI x4]) dX12_get_10 kc_X12_275 rfl rfl (by decide) (Nat.le_of_ble_eq_true rfl) c K, q⟩
theorem bX12_get_13 {h0 h : k_H} {Q : k_H → k_R → Prop} {x0 : Nat} {x1 x2 x3 x4 x5 x6 s0 : Int32} (K1 : ¬ (x6 = 0) → k_X (jX12_get G l h0) h 25 [(0, vR (some x0)), (1, vI x1), (2, vI x2), (3, vI x3), (4, vI x4), (5, vI x5), (7, vI s0)] [vR (some x0)] Q) (K2 : x6 = 0 → k_X (jX12_get G l h0) h 21 [(0, vR (some x0)), (1, vI x1), (2, vI x2), (3, vI x3), (4, vI x4), (5, vI x5)] [vR (some x0)] Q) : k_X (jX12_get G l h0) h 13 [(0, vR (some x0)), (1, vI x1), (2, vI x2), (3, vI x3), (4, vI x4), (5, vI x5), (6, vI x6)] [vI s0] Q := by
  by_cases hc : x6 = 0
  · skip
    obtain ⟨h', r, K, q⟩ := K2 hc
    exact ⟨h', r, j_istore dX12_get_13 (by decide) rfl <| j_aload_n dX12_get_15 rfl rfl <| j_iload dX12_get_16 rfl <| j_if_ne_f dX12_get_18 25 (by decide) hc (j_pick [0, 1, 2, 3, 4, 5] rfl K), q⟩
  · skip
    obtain ⟨h', r, K, q⟩ := K1 hc
    exact ⟨h', r, j_istore dX12_get_13 (by decide) rfl <| j_aload_n dX12_get_15 rfl rfl <| j_iload dX12_get_16 rfl <| j_if_ne_t (tgt := 25) dX12_get_18 (by decide) hc (j_pick [0, 1, 2, 3, 4, 5, 7] rfl K), q⟩
theorem bX12_get_21 {h0 h : k_H} {Q : k_H → k_R → Prop} {x0 : Nat} {x1 x2 x3 x4 x5 : Int32} {s0 : Option Nat} (K : k_X (jX12_get G l h0) h 48 [(0, vR (some x0)), (1, vI x1), (2, vI x2), (3, vI x3), (4, vI x4), (5, vI x5)] [vI 1, vR s0] Q) : k_X (jX12_get G l h0) h 21 [(0, vR (some x0)), (1, vI x1), (2, vI x2), (3, vI x3), (4, vI x4), (5, vI x5)] [vR s0] Q := by
  obtain ⟨h', r, K, q⟩ := K
  exact ⟨h', r, j_iconst (v := 1) dX12_get_21 (by decide) <| j_goto (tgt := 48) dX12_get_22 (by decide) <| K, q⟩
theorem bX12_get_25 {h0 h : k_H} {Q : k_H → k_R → Prop} {x0 : Nat} {x1 x2 x3 x4 x5 x7 : Int32} {s0 : Option Nat} (K1 : ¬ (x7 = 0) → k_X (jX12_get G l h0) h 34 [(0, vR (some x0)), (1, vI x1), (2, vI x2), (3, vI x3), (4, vI x4), (5, vI x5)] [vR s0] Q) (K2 : x7 = 0 → k_X (jX12_get G l h0) h 30 [(0, vR (some x0)), (1, vI x1), (2, vI x2), (3, vI x3), (4, vI x4), (5, vI x5)] [vR s0] Q) : k_X (jX12_get G l h0) h 25 [(0, vR (some x0)), (1, vI x1), (2, vI x2), (3, vI x3), (4, vI x4), (5, vI x5), (7, vI x7)] [vR s0] Q := by
  by_cases hc : x7 = 0
  · skip
    obtain ⟨h', r, K, q⟩ := K2 hc
    exact ⟨h', r, j_iload dX12_get_25 rfl <| j_if_ne_f dX12_get_27 34 (by decide) hc (j_pick [0, 1, 2, 3, 4, 5] rfl K), q⟩
  · skip
    obtain ⟨h', r, K, q⟩ := K1 hc
    exact ⟨h', r, j_iload dX12_get_25 rfl <| j_if_ne_t (tgt := 34) dX12_get_27 (by decide) hc (j_pick [0, 1, 2, 3, 4, 5] rfl K), q⟩
theorem bX12_get_30 {h0 h : k_H} {Q : k_H → k_R → Prop} {x0 : Nat} {x1 x2 x3 x4 x5 : Int32} {s0 : Option Nat} (K : k_X (jX12_get G l h0) h 48 [(0, vR (some x0)), (1, vI x1), (2, vI x2), (3, vI x3), (4, vI x4), (5, vI x5)] [vI 2, vR s0] Q) : k_X (jX12_get G l h0) h 30 [(0, vR (some x0)), (1, vI x1), (2, vI x2), (3, vI x3), (4, vI x4), (5, vI x5)] [vR s0] Q := by
  obtain ⟨h', r, K, q⟩ := K
  exact ⟨h', r, j_iconst (v := 2) dX12_get_30 (by decide) <| j_goto (tgt := 48) dX12_get_31 (by decide) <| K, q⟩
theorem bX12_get_34 {h0 h : k_H} {Q : k_H → k_R → Prop} {x0 f1_14 : Nat} {x1 x2 x3 x4 x5 : Int32} {s0 : Option Nat} {fs1 : List k_V} (o1 : h.1 x0 = some (k_o 15 fs1)) (g1_14 : fs1[14]? = some (vR (some f1_14))) {n2 : Nat} {w2 : Nat → Int32} (o2 : h.1 f1_14 = some (k_z n2 w2)) (y3 : vp_in x1 n2) (K1 : (w2 (x1).toNatClampNeg) = 0 → k_X (jX12_get G l h0) h 47 [(0, vR (some x0)), (1, vI x1), (2, vI x2), (3, vI x3), (4, vI x4), (5, vI x5)] [vR s0] Q) (K2 : ¬ ((w2 (x1).toNatClampNeg) = 0) → k_X (jX12_get G l h0) h 43 [(0, vR (some x0)), (1, vI x1), (2, vI x2), (3, vI x3), (4, vI x4), (5, vI x5)] [vR s0] Q) : k_X (jX12_get G l h0) h 34 [(0, vR (some x0)), (1, vI x1), (2, vI x2), (3, vI x3), (4, vI x4), (5, vI x5)] [vR s0] Q := by
  by_cases hc : (w2 (x1).toNatClampNeg) = 0
  · skip
    obtain ⟨h', r, K, q⟩ := K1 hc
    exact ⟨h', r, j_aload_n dX12_get_34 rfl rfl <| j_getf dX12_get_35 kf_X12_42 o1 g1_14 <| j_iload_n dX12_get_38 rfl rfl <| j_zald dX12_get_39 o2 y3 <| j_if_eq_t (tgt := 47) dX12_get_40 (by decide) hc K, q⟩
  · skip
    obtain ⟨h', r, K, q⟩ := K2 hc
    exact ⟨h', r, j_aload_n dX12_get_34 rfl rfl <| j_getf dX12_get_35 kf_X12_42 o1 g1_14 <| j_iload_n dX12_get_38 rfl rfl <| j_zald dX12_get_39 o2 y3 <| j_if_eq_f dX12_get_40 47 (by decide) hc K, q⟩
theorem bX12_get_43 {h0 h : k_H} {Q : k_H → k_R → Prop} {x0 : Nat} {x1 x2 x3 x4 x5 : Int32} {s0 : Option Nat} (K : k_X (jX12_get G l h0) h 48 [(0, vR (some x0)), (1, vI x1), (2, vI x2), (3, vI x3), (4, vI x4), (5, vI x5)] [vI 0, vR s0] Q) : k_X (jX12_get G l h0) h 43 [(0, vR (some x0)), (1, vI x1), (2, vI x2), (3, vI x3), (4, vI x4), (5, vI x5)] [vR s0] Q := by
  obtain ⟨h', r, K, q⟩ := K
  exact ⟨h', r, j_iconst (v := 0) dX12_get_43 (by decide) <| j_goto (tgt := 48) dX12_get_44 (by decide) <| K, q⟩
theorem bX12_get_47 {h0 h : k_H} {Q : k_H → k_R → Prop} {x0 : Nat} {x1 x2 x3 x4 x5 : Int32} {s0 : Option Nat} (K : k_X (jX12_get G l h0) h 48 [(0, vR (some x0)), (1, vI x1), (2, vI x2), (3, vI x3), (4, vI x4), (5, vI x5)] [vI 3, vR s0] Q) : k_X (jX12_get G l h0) h 47 [(0, vR (some x0)), (1, vI x1), (2, vI x2), (3, vI x3), (4, vI x4), (5, vI x5)] [vR s0] Q := by
  obtain ⟨h', r, K, q⟩ := K
  exact ⟨h', r, j_iconst (v := 3) dX12_get_47 (by decide) <| K, q⟩
theorem bX12_get_48 {h0 h : k_H} {Q : k_H → k_R → Prop} {x0 s0 : Nat} {x1 x2 x3 x4 x5 s1 : Int32} (w : k_is h s0 15) {P : k_H → Int32 → Prop} (c : k_cti (tX12_goes G l) [vR (some s0), vI s1] h P) (K : ∀ h1 v, P h1 v → k_X (jX12_get G l h0) h1 51 [(0, vR (some x0)), (1, vI x1), (2, vI x2), (3, vI x3), (4, vI x4), (5, vI x5)] [vI v] Q) : k_X (jX12_get G l h0) h 48 [(0, vR (some x0)), (1, vI x1), (2, vI x2), (3, vI x3), (4, vI x4), (5, vI x5)] [vI s1, vR (some s0)] Q := by
  obtain ⟨h1, v, c, p⟩ := c
  obtain ⟨h', r, K, q⟩ := K h1 v p
  exact ⟨h', r, j_callV (v := some (vI v)) (as := [vI s1]) dX12_get_48 kc_X12_265 rfl rfl w (by decide) (Nat.le_of_ble_eq_true rfl) c K, q⟩
theorem bX12_get_51 {h0 h : k_H} {Q : k_H → k_R → Prop} {x0 : Nat} {x1 x2 x3 x4 x5 s0 : Int32} (K1 : ¬ (s0 = 0) → k_X (jX12_get G l h0) h 56 [(0, vR (some x0)), (1, vI x1), (2, vI x2), (3, vI x3), (4, vI x4), (5, vI x5)] [] Q) (K2 : s0 = 0 → k_X (jX12_get G l h0) h 54 [] [] Q) : k_X (jX12_get G l h0) h 51 [(0, vR (some x0)), (1, vI x1), (2, vI x2), (3, vI x3), (4, vI x4), (5, vI x5)] [vI s0] Q := by
  by_cases hc : s0 = 0
  · skip
    obtain ⟨h', r, K, q⟩ := K2 hc
    exact ⟨h', r, j_if_ne_f dX12_get_51 56 (by decide) hc (j_pick [] rfl K), q⟩
  · skip
    obtain ⟨h', r, K, q⟩ := K1 hc
    exact ⟨h', r, j_if_ne_t (tgt := 56) dX12_get_51 (by decide) hc K, q⟩
theorem bX12_get_54 {h0 h : k_H} {Q : k_H → k_R → Prop} (q : Q h (.inl (some (vI 0)))) : k_X (jX12_get G l h0) h 54 [] [] Q := by
  exact ⟨_, _, j_iconst (v := 0) dX12_get_54 (by decide) <| j_iret dX12_get_55 rfl, q⟩
theorem bX12_get_56 {h0 h : k_H} {Q : k_H → k_R → Prop} {x0 : Nat} {x1 x2 x3 x4 x5 : Int32} {P : k_H → Int64 → Prop} (c : k_ctj (tX12_codeOf G l) [vI x2, vI x3, vI x4] h P) (K : ∀ h1 v, P h1 v → k_X (jX12_get G l h0) h1 63 [(0, vR (some x0)), (1, vI x1), (5, vI x5)] [vJ v] Q) : k_X (jX12_get G l h0) h 56 [(0, vR (some x0)), (1, vI x1), (2, vI x2), (3, vI x3), (4, vI x4), (5, vI x5)] [] Q := by
  obtain ⟨h1, v, c, p⟩ := c
  obtain ⟨h', r, K, q⟩ := K h1 v p
  exact ⟨h', r, j_iload_n dX12_get_56 rfl rfl <| j_iload_n dX12_get_57 rfl rfl <| j_iload dX12_get_58 rfl <| j_callS (v := some (vJ v)) (as := [vI x2, vI x3, vI x4]) dX12_get_60 kc_X12_155 rfl rfl (by decide) (Nat.le_of_ble_eq_true rfl) c (j_pick [0, 1, 5] rfl K), q⟩
theorem bX12_get_63 {h0 h : k_H} {Q : k_H → k_R → Prop} {x0 : Nat} {x1 x5 : Int32} {s0 : Int64} (w : k_is h x0 15) {P : k_H → Prop} (c : k_ctv (tX12_sees G l) [vR (some x0), vI x1, vJ s0] h P) (K : ∀ h1, P h1 → k_X (jX12_get G l h0) h1 72 [(0, vR (some x0)), (1, vI x1), (5, vI x5), (8, vJ s0)] [] Q) : k_X (jX12_get G l h0) h 63 [(0, vR (some x0)), (1, vI x1), (5, vI x5)] [vJ s0] Q := by
  obtain ⟨h1, c, p⟩ := c
  obtain ⟨h', r, K, q⟩ := K h1 p
  exact ⟨h', r, j_lstore dX12_get_63 (by decide) rfl <| j_aload_n dX12_get_65 rfl rfl <| j_iload_n dX12_get_66 rfl rfl <| j_lload dX12_get_67 rfl <| j_callV (v := none) (as := [vI x1, vJ s0]) dX12_get_69 kc_X12_258 rfl rfl w (by decide) (Nat.le_of_ble_eq_true rfl) c K, q⟩
theorem bX12_get_72 {h0 h : k_H} {Q : k_H → k_R → Prop} {x0 : Nat} {x1 x5 f1_35 : Int32} {x8 : Int64} {fs1 : List k_V} (o1 : h.1 x0 = some (k_o 15 fs1)) (g1_35 : fs1[35]? = some (vI f1_35)) (K1 : f1_35 = 0 → k_X (jX12_get G l h0) h 84 [(0, vR (some x0)), (1, vI x1), (5, vI x5), (8, vJ x8)] [vR (some x0)] Q) (K2 : ¬ (f1_35 = 0) → k_X (jX12_get G l h0) h 80 [(0, vR (some x0)), (1, vI x1), (5, vI x5), (8, vJ x8)] [vR (some x0)] Q) : k_X (jX12_get G l h0) h 72 [(0, vR (some x0)), (1, vI x1), (5, vI x5), (8, vJ x8)] [] Q := by
  by_cases hc : f1_35 = 0
  · skip
    obtain ⟨h', r, K, q⟩ := K1 hc
    exact ⟨h', r, j_aload_n dX12_get_72 rfl rfl <| j_aload_n dX12_get_73 rfl rfl <| j_getf dX12_get_74 kf_X12_237 o1 g1_35 <| j_if_eq_t (tgt := 84) dX12_get_77 (by decide) hc K, q⟩
  · skip
    obtain ⟨h', r, K, q⟩ := K2 hc
    exact ⟨h', r, j_aload_n dX12_get_72 rfl rfl <| j_aload_n dX12_get_73 rfl rfl <| j_getf dX12_get_74 kf_X12_237 o1 g1_35 <| j_if_eq_f dX12_get_77 84 (by decide) hc K, q⟩
theorem bX12_get_80 {h0 h : k_H} {Q : k_H → k_R → Prop} {x0 : Nat} {x1 x5 : Int32} {x8 : Int64} {s0 : Option Nat} (K : k_X (jX12_get G l h0) h 85 [(0, vR (some x0)), (1, vI x1), (5, vI x5), (8, vJ x8)] [vI 3, vR s0] Q) : k_X (jX12_get G l h0) h 80 [(0, vR (some x0)), (1, vI x1), (5, vI x5), (8, vJ x8)] [vR s0] Q := by
  obtain ⟨h', r, K, q⟩ := K
  exact ⟨h', r, j_iconst (v := 3) dX12_get_80 (by decide) <| j_goto (tgt := 85) dX12_get_81 (by decide) <| K, q⟩
theorem bX12_get_84 {h0 h : k_H} {Q : k_H → k_R → Prop} {x0 : Nat} {x1 x5 : Int32} {x8 : Int64} {s0 : Option Nat} (K : k_X (jX12_get G l h0) h 85 [(0, vR (some x0)), (1, vI x1), (5, vI x5), (8, vJ x8)] [vI 0, vR s0] Q) : k_X (jX12_get G l h0) h 84 [(0, vR (some x0)), (1, vI x1), (5, vI x5), (8, vJ x8)] [vR s0] Q := by
  obtain ⟨h', r, K, q⟩ := K
  exact ⟨h', r, j_iconst (v := 0) dX12_get_84 (by decide) <| K, q⟩
theorem bX12_get_85 {h0 h : k_H} {Q : k_H → k_R → Prop} {x0 s0 : Nat} {x1 x5 s1 : Int32} {x8 : Int64} (w : k_is h s0 15) {P : k_H → Int32 → Prop} (c : k_cti (tX12_goes G l) [vR (some s0), vI s1] h P) (K : ∀ h1 v, P h1 v → k_X (jX12_get G l h0) h1 88 [(0, vR (some x0)), (1, vI x1), (5, vI x5), (8, vJ x8)] [vI v] Q) : k_X (jX12_get G l h0) h 85 [(0, vR (some x0)), (1, vI x1), (5, vI x5), (8, vJ x8)] [vI s1, vR (some s0)] Q := by
  obtain ⟨h1, v, c, p⟩ := c
  obtain ⟨h', r, K, q⟩ := K h1 v p
  exact ⟨h', r, j_callV (v := some (vI v)) (as := [vI s1]) dX12_get_85 kc_X12_265 rfl rfl w (by decide) (Nat.le_of_ble_eq_true rfl) c K, q⟩
theorem bX12_get_88 {h0 h : k_H} {Q : k_H → k_R → Prop} {x0 : Nat} {x1 x5 s0 : Int32} {x8 : Int64} (K1 : ¬ (s0 = 0) → k_X (jX12_get G l h0) h 93 [(0, vR (some x0)), (1, vI x1), (5, vI x5), (8, vJ x8)] [] Q) (K2 : s0 = 0 → k_X (jX12_get G l h0) h 91 [] [] Q) : k_X (jX12_get G l h0) h 88 [(0, vR (some x0)), (1, vI x1), (5, vI x5), (8, vJ x8)] [vI s0] Q := by
  by_cases hc : s0 = 0
  · skip
    obtain ⟨h', r, K, q⟩ := K2 hc
    exact ⟨h', r, j_if_ne_f dX12_get_88 93 (by decide) hc (j_pick [] rfl K), q⟩
  · skip
    obtain ⟨h', r, K, q⟩ := K1 hc
    exact ⟨h', r, j_if_ne_t (tgt := 93) dX12_get_88 (by decide) hc K, q⟩
theorem bX12_get_91 {h0 h : k_H} {Q : k_H → k_R → Prop} (q : Q h (.inl (some (vI 0)))) : k_X (jX12_get G l h0) h 91 [] [] Q := by
  exact ⟨_, _, j_iconst (v := 0) dX12_get_91 (by decide) <| j_iret dX12_get_92 rfl, q⟩
theorem bX12_get_93 {h0 h : k_H} {Q : k_H → k_R → Prop} {x0 : Nat} {x1 x5 : Int32} {x8 : Int64} (w : k_is h x0 15) {P : k_H → Prop} (c : k_ctv (tX12_reads G l) [vR (some x0), vI x1, vJ x8, vI x5] h P) (K : ∀ h1, P h1 → k_X (jX12_get G l h0) h1 102 [(0, vR (some x0))] [] Q) : k_X (jX12_get G l h0) h 93 [(0, vR (some x0)), (1, vI x1), (5, vI x5), (8, vJ x8)] [] Q := by
  obtain ⟨h1, c, p⟩ := c
  obtain ⟨h', r, K, q⟩ := K h1 p
  exact ⟨h', r, j_aload_n dX12_get_93 rfl rfl <| j_iload_n dX12_get_94 rfl rfl <| j_lload dX12_get_95 rfl <| j_iload dX12_get_97 rfl <| j_callV (v := none) (as := [vI x1, vJ x8, vI x5]) dX12_get_99 kc_X12_278 rfl rfl w (by decide) (Nat.le_of_ble_eq_true rfl) c (j_pick [0] rfl K), q⟩
theorem bX12_get_102 {h0 h : k_H} {Q : k_H → k_R → Prop} {x0 : Nat} {f1_33 : Int32} {fs1 : List k_V} (o1 : h.1 x0 = some (k_o 15 fs1)) (g1_33 : fs1[33]? = some (vI f1_33)) (K1 : f1_33 = 0 → k_X (jX12_get G l h0) h 116 [] [] Q) (K2 : ¬ (f1_33 = 0) → k_X (jX12_get G l h0) h 109 [(0, vR (some x0))] [] Q) : k_X (jX12_get G l h0) h 102 [(0, vR (some x0))] [] Q := by
  by_cases hc : f1_33 = 0
  · skip
    obtain ⟨h', r, K, q⟩ := K1 hc
    exact ⟨h', r, j_aload_n dX12_get_102 rfl rfl <| j_getf dX12_get_103 kf_X12_230 o1 g1_33 <| j_if_eq_t (tgt := 116) dX12_get_106 (by decide) hc (j_pick [] rfl K), q⟩
  · skip
    obtain ⟨h', r, K, q⟩ := K2 hc
    exact ⟨h', r, j_aload_n dX12_get_102 rfl rfl <| j_getf dX12_get_103 kf_X12_230 o1 g1_33 <| j_if_eq_f dX12_get_106 116 (by decide) hc K, q⟩
theorem bX12_get_109 {h0 h : k_H} {Q : k_H → k_R → Prop} {x0 : Nat} {f1_34 : Int32} {fs1 : List k_V} (o1 : h.1 x0 = some (k_o 15 fs1)) (g1_34 : fs1[34]? = some (vI f1_34)) (K : k_X (jX12_get G l h0) h 118 [] [vI f1_34] Q) : k_X (jX12_get G l h0) h 109 [(0, vR (some x0))] [] Q := by
  obtain ⟨h', r, K, q⟩ := K
  exact ⟨h', r, j_aload_n dX12_get_109 rfl rfl <| j_getf dX12_get_110 kf_X12_234 o1 g1_34 <| j_goto (tgt := 118) dX12_get_113 (by decide) <| (j_pick [] rfl K), q⟩
theorem bX12_get_116 {h0 h : k_H} {Q : k_H → k_R → Prop} (K : k_X (jX12_get G l h0) h 118 [] [vI (-2147483648)] Q) : k_X (jX12_get G l h0) h 116 [] [] Q := by
  obtain ⟨h', r, K, q⟩ := K
  exact ⟨h', r, j_ldc (v := (-2147483648)) dX12_get_116 ki_X12_87 <| K, q⟩
theorem bX12_get_118 {h0 h : k_H} {Q : k_H → k_R → Prop} {s0 : Int32} (q : Q h (.inl (some (vI s0)))) : k_X (jX12_get G l h0) h 118 [] [vI s0] Q := by
  exact ⟨_, _, j_iret dX12_get_118 rfl, q⟩
theorem eX12_isSeen {G : k_G} {l : Launch} (hfl : l.flags = flags0) {h : k_H} {Q : k_H → k_R → Prop} {x0 : Nat} {x1 : Int32} {x2 : Int64} (K : k_X (jX12_isSeen G l h) h 0 [(0, vR (some x0)), (1, vI x1), (2, vJ x2)] [] Q) : k_ct (tX12_isSeen G l) [vR (some x0), vI x1, vJ x2] h Q := by
  obtain ⟨h', r, K, q⟩ := K
  exact ⟨h', r, k_CtOf (by decide +kernel) (Nat.le_of_ble_eq_true rfl) K hfl, q⟩

theorem bX12_isSeen_0 {h0 h : k_H} {Q : k_H → k_R → Prop} {x0 : Nat} {x1 : Int32} {x2 : Int64} (w : k_is h x0 15) {P : k_H → Prop} (c : k_ctv (tX12_sees G l) [vR (some x0), vI x1, vJ x2] h P) (K : ∀ h1, P h1 → k_X (jX12_isSeen G l h0) h1 6 [(0, vR (some x0))] [] Q) : k_X (jX12_isSeen G l h0) h 0 [(0, vR (some x0)), (1, vI x1), (2, vJ x2)] [] Q := by
  obtain ⟨h1, c, p⟩ := c
  obtain ⟨h', r, K, q⟩ := K h1 p
  exact ⟨h', r, j_aload_n dX12_isSeen_0 rfl rfl <| j_iload_n dX12_isSeen_1 rfl rfl <| j_lload_n dX12_isSeen_2 rfl rfl <| j_callV (v := none) (as := [vI x1, vJ x2]) dX12_isSeen_3 kc_X12_258 rfl rfl w (by decide) (Nat.le_of_ble_eq_true rfl) c (j_pick [0] rfl K), q⟩
theorem bX12_isSeen_6 {h0 h : k_H} {Q : k_H → k_R → Prop} {x0 : Nat} {f1_33 : Int32} {fs1 : List k_V} (o1 : h.1 x0 = some (k_o 15 fs1)) (g1_33 : fs1[33]? = some (vI f1_33)) (K1 : f1_33 = 0 → k_X (jX12_isSeen G l h0) h 24 [] [] Q) (K2 : ¬ (f1_33 = 0) → k_X (jX12_isSeen G l h0) h 13 [(0, vR (some x0))] [] Q) : k_X (jX12_isSeen G l h0) h 6 [(0, vR (some x0))] [] Q := by
  by_cases hc : f1_33 = 0
  · skip
    obtain ⟨h', r, K, q⟩ := K1 hc
    exact ⟨h', r, j_aload_n dX12_isSeen_6 rfl rfl <| j_getf dX12_isSeen_7 kf_X12_230 o1 g1_33 <| j_if_eq_t (tgt := 24) dX12_isSeen_10 (by decide) hc (j_pick [] rfl K), q⟩
  · skip
    obtain ⟨h', r, K, q⟩ := K2 hc
    exact ⟨h', r, j_aload_n dX12_isSeen_6 rfl rfl <| j_getf dX12_isSeen_7 kf_X12_230 o1 g1_33 <| j_if_eq_f dX12_isSeen_10 24 (by decide) hc K, q⟩
theorem bX12_isSeen_13 {h0 h : k_H} {Q : k_H → k_R → Prop} {x0 : Nat} {f1_35 : Int32} {fs1 : List k_V} (o1 : h.1 x0 = some (k_o 15 fs1)) (g1_35 : fs1[35]? = some (vI f1_35)) (K1 : ¬ (f1_35 = 0) → k_X (jX12_isSeen G l h0) h 24 [] [] Q) (K2 : f1_35 = 0 → k_X (jX12_isSeen G l h0) h 20 [] [] Q) : k_X (jX12_isSeen G l h0) h 13 [(0, vR (some x0))] [] Q := by
  by_cases hc : f1_35 = 0
  · skip
    obtain ⟨h', r, K, q⟩ := K2 hc
    exact ⟨h', r, j_aload_n dX12_isSeen_13 rfl rfl <| j_getf dX12_isSeen_14 kf_X12_237 o1 g1_35 <| j_if_ne_f dX12_isSeen_17 24 (by decide) hc (j_pick [] rfl K), q⟩
  · skip
    obtain ⟨h', r, K, q⟩ := K1 hc
    exact ⟨h', r, j_aload_n dX12_isSeen_13 rfl rfl <| j_getf dX12_isSeen_14 kf_X12_237 o1 g1_35 <| j_if_ne_t (tgt := 24) dX12_isSeen_17 (by decide) hc (j_pick [] rfl K), q⟩
theorem bX12_isSeen_20 {h0 h : k_H} {Q : k_H → k_R → Prop} (K : k_X (jX12_isSeen G l h0) h 25 [] [vI 1] Q) : k_X (jX12_isSeen G l h0) h 20 [] [] Q := by
  obtain ⟨h', r, K, q⟩ := K
  exact ⟨h', r, j_iconst (v := 1) dX12_isSeen_20 (by decide) <| j_goto (tgt := 25) dX12_isSeen_21 (by decide) <| K, q⟩
theorem bX12_isSeen_24 {h0 h : k_H} {Q : k_H → k_R → Prop} (K : k_X (jX12_isSeen G l h0) h 25 [] [vI 0] Q) : k_X (jX12_isSeen G l h0) h 24 [] [] Q := by
  obtain ⟨h', r, K, q⟩ := K
  exact ⟨h', r, j_iconst (v := 0) dX12_isSeen_24 (by decide) <| K, q⟩
theorem bX12_isSeen_25 {h0 h : k_H} {Q : k_H → k_R → Prop} {s0 : Int32} (y1 : k_bl s0) (q : Q h (.inl (some (vI s0)))) : k_X (jX12_isSeen G l h0) h 25 [] [vI s0] Q := by
  exact ⟨_, _, j_zret dX12_isSeen_25 rfl y1, q⟩
theorem eX12_range {G : k_G} {l : Launch} (hfl : l.flags = flags0) {h : k_H} {Q : k_H → k_R → Prop} {x0 : Nat} {x1 : Int32} {x2 : Int32} {x3 : Int32} {x4 : Int32} (K : k_X (jX12_range G l h) h 0 [(0, vR (some x0)), (1, vI x1), (2, vI x2), (3, vI x3), (4, vI x4)] [] Q) : k_ct (tX12_range G l) [vR (some x0), vI x1, vI x2, vI x3, vI x4] h Q := by
  obtain ⟨h', r, K, q⟩ := K
  exact ⟨h', r, k_CtOf (by decide +kernel) (Nat.le_of_ble_eq_true rfl) K hfl, q⟩

theorem bX12_range_0 {h0 h : k_H} {Q : k_H → k_R → Prop} {x0 : Nat} {x1 x2 x3 x4 : Int32} {P : k_H → Int32 → Prop} (c : k_cti (tX12_isTransaction G l) [vI x1] h P) (K : ∀ h1 v, P h1 v → k_X (jX12_range G l h0) h1 5 [(0, vR (some x0)), (1, vI x1), (2, vI x2), (3, vI x3), (4, vI x4)] [vI v, vR (some x0)] Q) : k_X (jX12_range G l h0) h 0 [(0, vR (some x0)), (1, vI x1), (2, vI x2), (3, vI x3), (4, vI x4)] [] Q := by
  obtain ⟨h1, v, c, p⟩ := c
  obtain ⟨h', r, K, q⟩ := K h1 v p
  exact ⟨h', r, j_aload_n dX12_range_0 rfl rfl <| j_iload_n dX12_range_1 rfl rfl <| j_callS (v := some (vI v)) (as := [vI x1]) dX12_range_2 kc_X12_262 rfl rfl (by decide) (Nat.le_of_ble_eq_true rfl) c K, q⟩
theorem bX12_range_5 {h0 h : k_H} {Q : k_H → k_R → Prop} {x0 : Nat} {x1 x2 x3 x4 s1 : Int32} {s0 : Option Nat} (K1 : ¬ (s1 = 0) → k_X (jX12_range G l h0) h 12 [(0, vR (some x0)), (1, vI x1), (2, vI x2), (3, vI x3), (4, vI x4)] [vR s0] Q) (K2 : s1 = 0 → k_X (jX12_range G l h0) h 8 [(0, vR (some x0)), (1, vI x1), (2, vI x2), (3, vI x3), (4, vI x4)] [vR s0] Q) : k_X (jX12_range G l h0) h 5 [(0, vR (some x0)), (1, vI x1), (2, vI x2), (3, vI x3), (4, vI x4)] [vI s1, vR s0] Q := by
  by_cases hc : s1 = 0
  · skip
    obtain ⟨h', r, K, q⟩ := K2 hc
    exact ⟨h', r, j_if_ne_f dX12_range_5 12 (by decide) hc K, q⟩
  · skip
    obtain ⟨h', r, K, q⟩ := K1 hc
    exact ⟨h', r, j_if_ne_t (tgt := 12) dX12_range_5 (by decide) hc K, q⟩
theorem bX12_range_8 {h0 h : k_H} {Q : k_H → k_R → Prop} {x0 : Nat} {x1 x2 x3 x4 : Int32} {s0 : Option Nat} (K : k_X (jX12_range G l h0) h 38 [(0, vR (some x0)), (1, vI x1), (2, vI x2), (3, vI x3), (4, vI x4)] [vI 1, vR s0] Q) : k_X (jX12_range G l h0) h 8 [(0, vR (some x0)), (1, vI x1), (2, vI x2), (3, vI x3), (4, vI x4)] [vR s0] Q := by
  obtain ⟨h', r, K, q⟩ := K
  exact ⟨h', r, j_iconst (v := 1) dX12_range_8 (by decide) <| j_goto (tgt := 38) dX12_range_9 (by decide) <| K, q⟩
theorem bX12_range_12 {h0 h : k_H} {Q : k_H → k_R → Prop} {x0 : Nat} {x1 x2 x3 x4 : Int32} {s0 : Option Nat} {P : k_H → Int32 → Prop} (c : k_cti (tX12_isRange G l) [vI x2, vI x3] h P) (K : ∀ h1 v, P h1 v → k_X (jX12_range G l h0) h1 17 [(0, vR (some x0)), (1, vI x1), (2, vI x2), (3, vI x3), (4, vI x4)] [vI v, vR s0] Q) : k_X (jX12_range G l h0) h 12 [(0, vR (some x0)), (1, vI x1), (2, vI x2), (3, vI x3), (4, vI x4)] [vR s0] Q := by
  obtain ⟨h1, v, c, p⟩ := c
  obtain ⟨h', r, K, q⟩ := K h1 v p
  exact ⟨h', r, j_iload_n dX12_range_12 rfl rfl <| j_iload_n dX12_range_13 rfl rfl <| j_callS (v := some (vI v)) (as := [vI x2, vI x3]) dX12_range_14 kc_X12_282 rfl rfl (by decide) (Nat.le_of_ble_eq_true rfl) c K, q⟩
theorem bX12_range_17 {h0 h : k_H} {Q : k_H → k_R → Prop} {x0 : Nat} {x1 x2 x3 x4 s1 : Int32} {s0 : Option Nat} (K1 : ¬ (s1 = 0) → k_X (jX12_range G l h0) h 24 [(0, vR (some x0)), (1, vI x1), (2, vI x2), (3, vI x3), (4, vI x4)] [vR s0] Q) (K2 : s1 = 0 → k_X (jX12_range G l h0) h 20 [(0, vR (some x0)), (1, vI x1), (2, vI x2), (3, vI x3), (4, vI x4)] [vR s0] Q) : k_X (jX12_range G l h0) h 17 [(0, vR (some x0)), (1, vI x1), (2, vI x2), (3, vI x3), (4, vI x4)] [vI s1, vR s0] Q := by
  by_cases hc : s1 = 0
  · skip
    obtain ⟨h', r, K, q⟩ := K2 hc
    exact ⟨h', r, j_if_ne_f dX12_range_17 24 (by decide) hc K, q⟩
  · skip
    obtain ⟨h', r, K, q⟩ := K1 hc
    exact ⟨h', r, j_if_ne_t (tgt := 24) dX12_range_17 (by decide) hc K, q⟩
theorem bX12_range_20 {h0 h : k_H} {Q : k_H → k_R → Prop} {x0 : Nat} {x1 x2 x3 x4 : Int32} {s0 : Option Nat} (K : k_X (jX12_range G l h0) h 38 [(0, vR (some x0)), (1, vI x1), (2, vI x2), (3, vI x3), (4, vI x4)] [vI 2, vR s0] Q) : k_X (jX12_range G l h0) h 20 [(0, vR (some x0)), (1, vI x1), (2, vI x2), (3, vI x3), (4, vI x4)] [vR s0] Q := by
  obtain ⟨h', r, K, q⟩ := K
  exact ⟨h', r, j_iconst (v := 2) dX12_range_20 (by decide) <| j_goto (tgt := 38) dX12_range_21 (by decide) <| K, q⟩
theorem bX12_range_24 {h0 h : k_H} {Q : k_H → k_R → Prop} {x0 f1_14 : Nat} {x1 x2 x3 x4 : Int32} {s0 : Option Nat} {fs1 : List k_V} (o1 : h.1 x0 = some (k_o 15 fs1)) (g1_14 : fs1[14]? = some (vR (some f1_14))) {n2 : Nat} {w2 : Nat → Int32} (o2 : h.1 f1_14 = some (k_z n2 w2)) (y3 : vp_in x1 n2) (K1 : (w2 (x1).toNatClampNeg) = 0 → k_X (jX12_range G l h0) h 37 [(0, vR (some x0)), (1, vI x1), (2, vI x2), (3, vI x3), (4, vI x4)] [vR s0] Q) (K2 : ¬ ((w2 (x1).toNatClampNeg) = 0) → k_X (jX12_range G l h0) h 33 [(0, vR (some x0)), (1, vI x1), (2, vI x2), (3, vI x3), (4, vI x4)] [vR s0] Q) : k_X (jX12_range G l h0) h 24 [(0, vR (some x0)), (1, vI x1), (2, vI x2), (3, vI x3), (4, vI x4)] [vR s0] Q := by
  by_cases hc : (w2 (x1).toNatClampNeg) = 0
  · skip
    obtain ⟨h', r, K, q⟩ := K1 hc
    exact ⟨h', r, j_aload_n dX12_range_24 rfl rfl <| j_getf dX12_range_25 kf_X12_42 o1 g1_14 <| j_iload_n dX12_range_28 rfl rfl <| j_zald dX12_range_29 o2 y3 <| j_if_eq_t (tgt := 37) dX12_range_30 (by decide) hc K, q⟩
  · skip
    obtain ⟨h', r, K, q⟩ := K2 hc
    exact ⟨h', r, j_aload_n dX12_range_24 rfl rfl <| j_getf dX12_range_25 kf_X12_42 o1 g1_14 <| j_iload_n dX12_range_28 rfl rfl <| j_zald dX12_range_29 o2 y3 <| j_if_eq_f dX12_range_30 37 (by decide) hc K, q⟩
theorem bX12_range_33 {h0 h : k_H} {Q : k_H → k_R → Prop} {x0 : Nat} {x1 x2 x3 x4 : Int32} {s0 : Option Nat} (K : k_X (jX12_range G l h0) h 38 [(0, vR (some x0)), (1, vI x1), (2, vI x2), (3, vI x3), (4, vI x4)] [vI 0, vR s0] Q) : k_X (jX12_range G l h0) h 33 [(0, vR (some x0)), (1, vI x1), (2, vI x2), (3, vI x3), (4, vI x4)] [vR s0] Q := by
  obtain ⟨h', r, K, q⟩ := K
  exact ⟨h', r, j_iconst (v := 0) dX12_range_33 (by decide) <| j_goto (tgt := 38) dX12_range_34 (by decide) <| K, q⟩
theorem bX12_range_37 {h0 h : k_H} {Q : k_H → k_R → Prop} {x0 : Nat} {x1 x2 x3 x4 : Int32} {s0 : Option Nat} (K : k_X (jX12_range G l h0) h 38 [(0, vR (some x0)), (1, vI x1), (2, vI x2), (3, vI x3), (4, vI x4)] [vI 3, vR s0] Q) : k_X (jX12_range G l h0) h 37 [(0, vR (some x0)), (1, vI x1), (2, vI x2), (3, vI x3), (4, vI x4)] [vR s0] Q := by
  obtain ⟨h', r, K, q⟩ := K
  exact ⟨h', r, j_iconst (v := 3) dX12_range_37 (by decide) <| K, q⟩
theorem bX12_range_38 {h0 h : k_H} {Q : k_H → k_R → Prop} {x0 s0 : Nat} {x1 x2 x3 x4 s1 : Int32} (w : k_is h s0 15) {P : k_H → Int32 → Prop} (c : k_cti (tX12_goes G l) [vR (some s0), vI s1] h P) (K : ∀ h1 v, P h1 v → k_X (jX12_range G l h0) h1 41 [(0, vR (some x0)), (1, vI x1), (2, vI x2), (3, vI x3), (4, vI x4)] [vI v] Q) : k_X (jX12_range G l h0) h 38 [(0, vR (some x0)), (1, vI x1), (2, vI x2), (3, vI x3), (4, vI x4)] [vI s1, vR (some s0)] Q := by
  obtain ⟨h1, v, c, p⟩ := c
  obtain ⟨h', r, K, q⟩ := K h1 v p
  exact ⟨h', r, j_callV (v := some (vI v)) (as := [vI s1]) dX12_range_38 kc_X12_265 rfl rfl w (by decide) (Nat.le_of_ble_eq_true rfl) c K, q⟩
theorem bX12_range_41 {h0 h : k_H} {Q : k_H → k_R → Prop} {x0 : Nat} {x1 x2 x3 x4 s0 : Int32} (K1 : ¬ (s0 = 0) → k_X (jX12_range G l h0) h 46 [(0, vR (some x0)), (1, vI x1), (2, vI x2), (3, vI x3), (4, vI x4)] [] Q) (K2 : s0 = 0 → k_X (jX12_range G l h0) h 44 [] [] Q) : k_X (jX12_range G l h0) h 41 [(0, vR (some x0)), (1, vI x1), (2, vI x2), (3, vI x3), (4, vI x4)] [vI s0] Q := by
  by_cases hc : s0 = 0
  · skip
    obtain ⟨h', r, K, q⟩ := K2 hc
    exact ⟨h', r, j_if_ne_f dX12_range_41 46 (by decide) hc (j_pick [] rfl K), q⟩
  · skip
    obtain ⟨h', r, K, q⟩ := K1 hc
    exact ⟨h', r, j_if_ne_t (tgt := 46) dX12_range_41 (by decide) hc K, q⟩
theorem bX12_range_44 {h0 h : k_H} {Q : k_H → k_R → Prop} (q : Q h (.inl (some (vI 0)))) : k_X (jX12_range G l h0) h 44 [] [] Q := by
  exact ⟨_, _, j_iconst (v := 0) dX12_range_44 (by decide) <| j_iret dX12_range_45 rfl, q⟩
theorem bX12_range_46 {h0 h : k_H} {Q : k_H → k_R → Prop} {x0 : Nat} {x1 x2 x3 x4 : Int32} {P : k_H → Int64 → Prop} (c : k_ctj (tX12_firstOf G l) [vI x2, vI x3] h P) (K : ∀ h1 v, P h1 v → k_X (jX12_range G l h0) h1 55 [(0, vR (some x0)), (1, vI x1), (2, vI x2), (3, vI x3), (4, vI x4), (5, vI 0)] [vJ v, vR (some x0)] Q) : k_X (jX12_range G l h0) h 46 [(0, vR (some x0)), (1, vI x1), (2, vI x2), (3, vI x3), (4, vI x4)] [] Q := by
  obtain ⟨h1, v, c, p⟩ := c
  obtain ⟨h', r, K, q⟩ := K h1 v p
  exact ⟨h', r, j_iconst (v := 0) dX12_range_46 (by decide) <| j_istore dX12_range_47 (by decide) rfl <| j_aload_n dX12_range_49 rfl rfl <| j_iload_n dX12_range_50 rfl rfl <| j_iload_n dX12_range_51 rfl rfl <| j_callS (v := some (vJ v)) (as := [vI x2, vI x3]) dX12_range_52 kc_X12_285 rfl rfl (by decide) (Nat.le_of_ble_eq_true rfl) c K, q⟩
theorem bX12_range_55 {h0 h : k_H} {Q : k_H → k_R → Prop} {x0 s0 : Nat} {x1 x2 x3 x4 x5 : Int32} {s1 : Int64} (w : k_is h s0 15) {P : k_H → Int32 → Prop} (c : k_cti (tX12_placeOf G l) [vR (some s0), vJ s1] h P) (K : ∀ h1 v, P h1 v → k_X (jX12_range G l h0) h1 58 [(0, vR (some x0)), (1, vI x1), (2, vI x2), (3, vI x3), (4, vI x4), (5, vI x5)] [vI v] Q) : k_X (jX12_range G l h0) h 55 [(0, vR (some x0)), (1, vI x1), (2, vI x2), (3, vI x3), (4, vI x4), (5, vI x5)] [vJ s1, vR (some s0)] Q := by
  obtain ⟨h1, v, c, p⟩ := c
  obtain ⟨h', r, K, q⟩ := K h1 v p
  exact ⟨h', r, j_callV (v := some (vI v)) (as := [vJ s1]) dX12_range_55 kc_X12_164 rfl rfl w (by decide) (Nat.le_of_ble_eq_true rfl) c K, q⟩
theorem bX12_range_58 {h0 h : k_H} {Q : k_H → k_R → Prop} {x0 : Nat} {x1 x2 x3 x4 x5 s0 : Int32} (K : k_X (jX12_range G l h0) h 60 [(0, vR (some x0)), (1, vI x1), (2, vI x2), (3, vI x3), (4, vI x4), (5, vI x5), (6, vI s0)] [] Q) : k_X (jX12_range G l h0) h 58 [(0, vR (some x0)), (1, vI x1), (2, vI x2), (3, vI x3), (4, vI x4), (5, vI x5)] [vI s0] Q := by
  obtain ⟨h', r, K, q⟩ := K
  exact ⟨h', r, j_istore dX12_range_58 (by decide) rfl <| K, q⟩
theorem bX12_range_60 {h0 h : k_H} {Q : k_H → k_R → Prop} {x0 : Nat} {x1 x2 x3 x4 x5 x6 f1_2 : Int32} {fs1 : List k_V} (o1 : h.1 x0 = some (k_o 15 fs1)) (g1_2 : fs1[2]? = some (vI f1_2)) (K1 : f1_2 ≤ x6 → k_X (jX12_range G l h0) h 116 [(0, vR (some x0)), (1, vI x1), (2, vI x2), (3, vI x3), (4, vI x4), (5, vI x5)] [] Q) (K2 : ¬ (f1_2 ≤ x6) → k_X (jX12_range G l h0) h 69 [(0, vR (some x0)), (1, vI x1), (2, vI x2), (3, vI x3), (4, vI x4), (5, vI x5), (6, vI x6)] [] Q) : k_X (jX12_range G l h0) h 60 [(0, vR (some x0)), (1, vI x1), (2, vI x2), (3, vI x3), (4, vI x4), (5, vI x5), (6, vI x6)] [] Q := by
  by_cases hc : f1_2 ≤ x6
  · skip
    obtain ⟨h', r, K, q⟩ := K1 hc
    exact ⟨h', r, j_iload dX12_range_60 rfl <| j_aload_n dX12_range_62 rfl rfl <| j_getf dX12_range_63 kf_X12_161 o1 g1_2 <| j_icmp_ge_t (tgt := 116) dX12_range_66 (by decide) hc (j_pick [0, 1, 2, 3, 4, 5] rfl K), q⟩
  · skip
    obtain ⟨h', r, K, q⟩ := K2 hc
    exact ⟨h', r, j_iload dX12_range_60 rfl <| j_aload_n dX12_range_62 rfl rfl <| j_getf dX12_range_63 kf_X12_161 o1 g1_2 <| j_icmp_ge_f dX12_range_66 116 (by decide) hc K, q⟩
theorem bX12_range_69 {h0 h : k_H} {Q : k_H → k_R → Prop} {x0 f1_3 : Nat} {x1 x2 x3 x4 x5 x6 : Int32} {fs1 : List k_V} (o1 : h.1 x0 = some (k_o 15 fs1)) (g1_3 : fs1[3]? = some (vR (some f1_3))) {n2 : Nat} {w2 : Nat → Int64} (o2 : h.1 f1_3 = some (k_j n2 w2)) (y3 : vp_in x6 n2) {P : k_H → Int64 → Prop} (c : k_ctj (tX12_lastOf G l) [vI x2, vI x3] h P) (K : ∀ h1 v, P h1 v → k_X (jX12_range G l h0) h1 81 [(0, vR (some x0)), (1, vI x1), (2, vI x2), (3, vI x3), (4, vI x4), (5, vI x5), (6, vI x6)] [vJ v, vJ (w2 (x6).toNatClampNeg)] Q) : k_X (jX12_range G l h0) h 69 [(0, vR (some x0)), (1, vI x1), (2, vI x2), (3, vI x3), (4, vI x4), (5, vI x5), (6, vI x6)] [] Q := by
  obtain ⟨h1, v, c, p⟩ := c
  obtain ⟨h', r, K, q⟩ := K h1 v p
  exact ⟨h', r, j_aload_n dX12_range_69 rfl rfl <| j_getf dX12_range_70 kf_X12_9 o1 g1_3 <| j_iload dX12_range_73 rfl <| j_lald dX12_range_75 o2 y3 <| j_iload_n dX12_range_76 rfl rfl <| j_iload_n dX12_range_77 rfl rfl <| j_callS (v := some (vJ v)) (as := [vI x2, vI x3]) dX12_range_78 kc_X12_289 rfl rfl (by decide) (Nat.le_of_ble_eq_true rfl) c K, q⟩
theorem bX12_range_81 {h0 h : k_H} {Q : k_H → k_R → Prop} {x0 : Nat} {x1 x2 x3 x4 x5 x6 : Int32} {s0 s1 : Int64} (K1 : s1 < s0 → k_X (jX12_range G l h0) h 116 [(0, vR (some x0)), (1, vI x1), (2, vI x2), (3, vI x3), (4, vI x4), (5, vI x5)] [] Q) (K2 : ¬ (s1 < s0) → k_X (jX12_range G l h0) h 85 [(0, vR (some x0)), (1, vI x1), (2, vI x2), (3, vI x3), (4, vI x4), (5, vI x5), (6, vI x6)] [] Q) : k_X (jX12_range G l h0) h 81 [(0, vR (some x0)), (1, vI x1), (2, vI x2), (3, vI x3), (4, vI x4), (5, vI x5), (6, vI x6)] [vJ s1, vJ s0] Q := by
  by_cases hc : s1 < s0
  · skip
    obtain ⟨h', r, K, q⟩ := K1 hc
    exact ⟨h', r, j_lcmp dX12_range_81 <| j_if_gt_t (tgt := 116) dX12_range_82 (by decide) ((lg_cmp_gt _ _).mpr hc) (j_pick [0, 1, 2, 3, 4, 5] rfl K), q⟩
  · skip
    obtain ⟨h', r, K, q⟩ := K2 hc
    exact ⟨h', r, j_lcmp dX12_range_81 <| j_if_gt_f dX12_range_82 116 (by decide) ((not_congr (lg_cmp_gt _ _)).mpr hc) K, q⟩
theorem bX12_range_85 {h0 h : k_H} {Q : k_H → k_R → Prop} {x0 f1_3 : Nat} {x1 x2 x3 x4 x5 x6 : Int32} {fs1 : List k_V} (o1 : h.1 x0 = some (k_o 15 fs1)) (g1_3 : fs1[3]? = some (vR (some f1_3))) {n2 : Nat} {w2 : Nat → Int64} (o2 : h.1 f1_3 = some (k_j n2 w2)) (y3 : vp_in x6 n2) {P : k_H → Int32 → Prop} (c : k_cti (tX12_isSeen G l) [vR (some x0), vI x1, vJ (w2 (x6).toNatClampNeg)] h P) (K : ∀ h1 v, P h1 v → k_X (jX12_range G l h0) h1 99 [(0, vR (some x0)), (1, vI x1), (2, vI x2), (3, vI x3), (4, vI x4), (6, vI x6)] [vI v, vI x5] Q) : k_X (jX12_range G l h0) h 85 [(0, vR (some x0)), (1, vI x1), (2, vI x2), (3, vI x3), (4, vI x4), (5, vI x5), (6, vI x6)] [] Q := by
  obtain ⟨h1, v, c, p⟩ := c
  obtain ⟨h', r, K, q⟩ := K h1 v p
  exact ⟨h', r, j_iload dX12_range_85 rfl <| j_aload_n dX12_range_87 rfl rfl <| j_iload_n dX12_range_88 rfl rfl <| j_aload_n dX12_range_89 rfl rfl <| j_getf dX12_range_90 kf_X12_9 o1 g1_3 <| j_iload dX12_range_93 rfl <| j_lald dX12_range_95 o2 y3 <| j_callV (v := some (vI v)) (as := [vI x1, vJ (w2 (x6).toNatClampNeg)]) dX12_range_96 kc_X12_292 rfl rfl (k_is_o o1) (by decide) (Nat.le_of_ble_eq_true rfl) c (j_pick [0, 1, 2, 3, 4, 6] rfl K), q⟩
theorem bX12_range_99 {h0 h : k_H} {Q : k_H → k_R → Prop} {x0 : Nat} {x1 x2 x3 x4 x6 s0 s1 : Int32} (K1 : s1 = 0 → k_X (jX12_range G l h0) h 106 [(0, vR (some x0)), (1, vI x1), (2, vI x2), (3, vI x3), (4, vI x4), (6, vI x6)] [vI s0] Q) (K2 : ¬ (s1 = 0) → k_X (jX12_range G l h0) h 102 [(0, vR (some x0)), (1, vI x1), (2, vI x2), (3, vI x3), (4, vI x4), (6, vI x6)] [vI s0] Q) : k_X (jX12_range G l h0) h 99 [(0, vR (some x0)), (1, vI x1), (2, vI x2), (3, vI x3), (4, vI x4), (6, vI x6)] [vI s1, vI s0] Q := by
  by_cases hc : s1 = 0
  · skip
    obtain ⟨h', r, K, q⟩ := K1 hc
    exact ⟨h', r, j_if_eq_t (tgt := 106) dX12_range_99 (by decide) hc K, q⟩
  · skip
    obtain ⟨h', r, K, q⟩ := K2 hc
    exact ⟨h', r, j_if_eq_f dX12_range_99 106 (by decide) hc K, q⟩
theorem bX12_range_102 {h0 h : k_H} {Q : k_H → k_R → Prop} {x0 : Nat} {x1 x2 x3 x4 x6 s0 : Int32} (K : k_X (jX12_range G l h0) h 107 [(0, vR (some x0)), (1, vI x1), (2, vI x2), (3, vI x3), (4, vI x4), (6, vI x6)] [vI 1, vI s0] Q) : k_X (jX12_range G l h0) h 102 [(0, vR (some x0)), (1, vI x1), (2, vI x2), (3, vI x3), (4, vI x4), (6, vI x6)] [vI s0] Q := by
  obtain ⟨h', r, K, q⟩ := K
  exact ⟨h', r, j_iconst (v := 1) dX12_range_102 (by decide) <| j_goto (tgt := 107) dX12_range_103 (by decide) <| K, q⟩
theorem bX12_range_106 {h0 h : k_H} {Q : k_H → k_R → Prop} {x0 : Nat} {x1 x2 x3 x4 x6 s0 : Int32} (K : k_X (jX12_range G l h0) h 107 [(0, vR (some x0)), (1, vI x1), (2, vI x2), (3, vI x3), (4, vI x4), (6, vI x6)] [vI 0, vI s0] Q) : k_X (jX12_range G l h0) h 106 [(0, vR (some x0)), (1, vI x1), (2, vI x2), (3, vI x3), (4, vI x4), (6, vI x6)] [vI s0] Q := by
  obtain ⟨h', r, K, q⟩ := K
  exact ⟨h', r, j_iconst (v := 0) dX12_range_106 (by decide) <| K, q⟩
theorem bX12_range_107 {h0 h : k_H} {Q : k_H → k_R → Prop} {x0 : Nat} {x1 x2 x3 x4 x6 s0 s1 : Int32} (K : k_X (jX12_range G l h0) h 60 [(0, vR (some x0)), (1, vI x1), (2, vI x2), (3, vI x3), (4, vI x4), (5, vI (s0 + s1)), (6, vI (x6 + 1))] [] Q) : k_X (jX12_range G l h0) h 107 [(0, vR (some x0)), (1, vI x1), (2, vI x2), (3, vI x3), (4, vI x4), (6, vI x6)] [vI s1, vI s0] Q := by
  obtain ⟨h', r, K, q⟩ := K
  exact ⟨h', r, j_iadd dX12_range_107 <| j_istore dX12_range_108 (by decide) rfl <| j_iinc (v := x6 + 1) dX12_range_110 rfl (by decide) rfl rfl <| j_goto (tgt := 60) dX12_range_113 (by decide) <| K, q⟩
theorem bX12_range_116 {h0 h : k_H} {Q : k_H → k_R → Prop} {x0 : Nat} {x1 x2 x3 x4 x5 : Int32} (K1 : x4 = 0 → k_X (jX12_range G l h0) h 136 [(5, vI x5)] [] Q) (K2 : ¬ (x4 = 0) → k_X (jX12_range G l h0) h 121 [(0, vR (some x0)), (1, vI x1), (2, vI x2), (3, vI x3), (5, vI x5)] [] Q) : k_X (jX12_range G l h0) h 116 [(0, vR (some x0)), (1, vI x1), (2, vI x2), (3, vI x3), (4, vI x4), (5, vI x5)] [] Q := by
  by_cases hc : x4 = 0
  · skip
    obtain ⟨h', r, K, q⟩ := K1 hc
    exact ⟨h', r, j_iload dX12_range_116 rfl <| j_if_eq_t (tgt := 136) dX12_range_118 (by decide) hc (j_pick [5] rfl K), q⟩
  · skip
    obtain ⟨h', r, K, q⟩ := K2 hc
    exact ⟨h', r, j_iload dX12_range_116 rfl <| j_if_eq_f dX12_range_118 136 (by decide) hc (j_pick [0, 1, 2, 3, 5] rfl K), q⟩
theorem bX12_range_121 {h0 h : k_H} {Q : k_H → k_R → Prop} {x0 : Nat} {x1 x2 x3 x5 : Int32} {P : k_H → Int64 → Prop} (c : k_ctj (tX12_firstOf G l) [vI x2, vI x3] h P) (K : ∀ h1 v, P h1 v → k_X (jX12_range G l h0) h1 128 [(2, vI x2), (3, vI x3), (5, vI x5)] [vJ v, vI x1, vR (some x0)] Q) : k_X (jX12_range G l h0) h 121 [(0, vR (some x0)), (1, vI x1), (2, vI x2), (3, vI x3), (5, vI x5)] [] Q := by
  obtain ⟨h1, v, c, p⟩ := c
  obtain ⟨h', r, K, q⟩ := K h1 v p
  exact ⟨h', r, j_aload_n dX12_range_121 rfl rfl <| j_iload_n dX12_range_122 rfl rfl <| j_iload_n dX12_range_123 rfl rfl <| j_iload_n dX12_range_124 rfl rfl <| j_callS (v := some (vJ v)) (as := [vI x2, vI x3]) dX12_range_125 kc_X12_285 rfl rfl (by decide) (Nat.le_of_ble_eq_true rfl) c (j_pick [2, 3, 4] rfl K), q⟩
theorem bX12_range_128 {h0 h : k_H} {Q : k_H → k_R → Prop} {x2 x3 x5 s1 : Int32} {s0 : Option Nat} {s2 : Int64} {P : k_H → Int64 → Prop} (c : k_ctj (tX12_lastOf G l) [vI x2, vI x3] h P) (K : ∀ h1 v, P h1 v → k_X (jX12_range G l h0) h1 133 [(5, vI x5)] [vJ v, vJ s2, vI s1, vR s0] Q) : k_X (jX12_range G l h0) h 128 [(2, vI x2), (3, vI x3), (5, vI x5)] [vJ s2, vI s1, vR s0] Q := by
  obtain ⟨h1, v, c, p⟩ := c
  obtain ⟨h', r, K, q⟩ := K h1 v p
  exact ⟨h', r, j_iload_n dX12_range_128 rfl rfl <| j_iload_n dX12_range_129 rfl rfl <| j_callS (v := some (vJ v)) (as := [vI x2, vI x3]) dX12_range_130 kc_X12_289 rfl rfl (by decide) (Nat.le_of_ble_eq_true rfl) c (j_pick [2] rfl K), q⟩
theorem bX12_range_133 {h0 h : k_H} {Q : k_H → k_R → Prop} {x5 s1 : Int32} {s0 : Nat} {s2 s3 : Int64} (w : k_is h s0 15) {P : k_H → Prop} (c : k_ctv (tX12_putsDown G l) [vR (some s0), vI s1, vJ s2, vJ s3] h P) (K : ∀ h1, P h1 → k_X (jX12_range G l h0) h1 136 [(5, vI x5)] [] Q) : k_X (jX12_range G l h0) h 133 [(5, vI x5)] [vJ s3, vJ s2, vI s1, vR (some s0)] Q := by
  obtain ⟨h1, c, p⟩ := c
  obtain ⟨h', r, K, q⟩ := K h1 p
  exact ⟨h', r, j_callV (v := none) (as := [vI s1, vJ s2, vJ s3]) dX12_range_133 kc_X12_254 rfl rfl w (by decide) (Nat.le_of_ble_eq_true rfl) c K, q⟩
theorem bX12_range_136 {h0 h : k_H} {Q : k_H → k_R → Prop} {x5 : Int32} (q : Q h (.inl (some (vI x5)))) : k_X (jX12_range G l h0) h 136 [(5, vI x5)] [] Q := by
  exact ⟨_, _, j_iload dX12_range_136 rfl <| j_iret dX12_range_138 rfl, q⟩
theorem eX12_rangeAt {G : k_G} {l : Launch} (hfl : l.flags = flags0) {h : k_H} {Q : k_H → k_R → Prop} {x0 : Nat} {x1 : Int32} {x2 : Int32} {x3 : Int32} {x4 : Int32} {x5 : Int32} (K : k_X (jX12_rangeAt G l h) h 0 [(0, vR (some x0)), (1, vI x1), (2, vI x2), (3, vI x3), (4, vI x4), (5, vI x5)] [] Q) : k_ct (tX12_rangeAt G l) [vR (some x0), vI x1, vI x2, vI x3, vI x4, vI x5] h Q := by
  obtain ⟨h', r, K, q⟩ := K
  exact ⟨h', r, k_CtOf (by decide +kernel) (Nat.le_of_ble_eq_true rfl) K hfl, q⟩

theorem bX12_rangeAt_0 {h0 h : k_H} {Q : k_H → k_R → Prop} {x0 : Nat} {x1 x2 x3 x4 x5 : Int32} {P : k_H → Int32 → Prop} (c : k_cti (tX12_isTransaction G l) [vI x1] h P) (K : ∀ h1 v, P h1 v → k_X (jX12_rangeAt G l h0) h1 4 [(0, vR (some x0)), (1, vI x1), (2, vI x2), (3, vI x3), (4, vI x4), (5, vI x5)] [vI v] Q) : k_X (jX12_rangeAt G l h0) h 0 [(0, vR (some x0)), (1, vI x1), (2, vI x2), (3, vI x3), (4, vI x4), (5, vI x5)] [] Q := by
  obtain ⟨h1, v, c, p⟩ := c
  obtain ⟨h', r, K, q⟩ := K h1 v p
  exact ⟨h', r, j_iload_n dX12_rangeAt_0 rfl rfl <| j_callS (v := some (vI v)) (as := [vI x1]) dX12_rangeAt_1 kc_X12_262 rfl rfl (by decide) (Nat.le_of_ble_eq_true rfl) c K, q⟩
theorem bX12_rangeAt_4 {h0 h : k_H} {Q : k_H → k_R → Prop} {x0 : Nat} {x1 x2 x3 x4 x5 s0 : Int32} (K1 : s0 = 0 → k_X (jX12_rangeAt G l h0) h 16 [(0, vR (some x0)), (1, vI x1), (2, vI x2), (3, vI x3), (4, vI x4), (5, vI x5)] [] Q) (K2 : ¬ (s0 = 0) → k_X (jX12_rangeAt G l h0) h 7 [(0, vR (some x0)), (1, vI x1), (2, vI x2), (3, vI x3), (4, vI x4), (5, vI x5)] [] Q) : k_X (jX12_rangeAt G l h0) h 4 [(0, vR (some x0)), (1, vI x1), (2, vI x2), (3, vI x3), (4, vI x4), (5, vI x5)] [vI s0] Q := by
  by_cases hc : s0 = 0
  · skip
    obtain ⟨h', r, K, q⟩ := K1 hc
    exact ⟨h', r, j_if_eq_t (tgt := 16) dX12_rangeAt_4 (by decide) hc K, q⟩
  · skip
    obtain ⟨h', r, K, q⟩ := K2 hc
    exact ⟨h', r, j_if_eq_f dX12_rangeAt_4 16 (by decide) hc K, q⟩
theorem bX12_rangeAt_7 {h0 h : k_H} {Q : k_H → k_R → Prop} {x0 : Nat} {x1 x2 x3 x4 x5 : Int32} (K1 : x4 < 0 → k_X (jX12_rangeAt G l h0) h 16 [(0, vR (some x0)), (1, vI x1), (2, vI x2), (3, vI x3), (4, vI x4), (5, vI x5)] [] Q) (K2 : ¬ (x4 < 0) → k_X (jX12_rangeAt G l h0) h 12 [(0, vR (some x0)), (1, vI x1), (2, vI x2), (3, vI x3), (4, vI x4), (5, vI x5)] [] Q) : k_X (jX12_rangeAt G l h0) h 7 [(0, vR (some x0)), (1, vI x1), (2, vI x2), (3, vI x3), (4, vI x4), (5, vI x5)] [] Q := by
  by_cases hc : x4 < 0
  · skip
    obtain ⟨h', r, K, q⟩ := K1 hc
    exact ⟨h', r, j_iload dX12_rangeAt_7 rfl <| j_if_lt_t (tgt := 16) dX12_rangeAt_9 (by decide) hc K, q⟩
  · skip
    obtain ⟨h', r, K, q⟩ := K2 hc
    exact ⟨h', r, j_iload dX12_rangeAt_7 rfl <| j_if_lt_f dX12_rangeAt_9 16 (by decide) hc K, q⟩
theorem bX12_rangeAt_12 {h0 h : k_H} {Q : k_H → k_R → Prop} {x0 : Nat} {x1 x2 x3 x4 x5 : Int32} (K : k_X (jX12_rangeAt G l h0) h 17 [(0, vR (some x0)), (1, vI x1), (2, vI x2), (3, vI x3), (4, vI x4), (5, vI x5)] [vI 1] Q) : k_X (jX12_rangeAt G l h0) h 12 [(0, vR (some x0)), (1, vI x1), (2, vI x2), (3, vI x3), (4, vI x4), (5, vI x5)] [] Q := by
  obtain ⟨h', r, K, q⟩ := K
  exact ⟨h', r, j_iconst (v := 1) dX12_rangeAt_12 (by decide) <| j_goto (tgt := 17) dX12_rangeAt_13 (by decide) <| K, q⟩
theorem bX12_rangeAt_16 {h0 h : k_H} {Q : k_H → k_R → Prop} {x0 : Nat} {x1 x2 x3 x4 x5 : Int32} (K : k_X (jX12_rangeAt G l h0) h 17 [(0, vR (some x0)), (1, vI x1), (2, vI x2), (3, vI x3), (4, vI x4), (5, vI x5)] [vI 0] Q) : k_X (jX12_rangeAt G l h0) h 16 [(0, vR (some x0)), (1, vI x1), (2, vI x2), (3, vI x3), (4, vI x4), (5, vI x5)] [] Q := by
  obtain ⟨h', r, K, q⟩ := K
  exact ⟨h', r, j_iconst (v := 0) dX12_rangeAt_16 (by decide) <| K, q⟩
theorem bX12_rangeAt_17 {h0 h : k_H} {Q : k_H → k_R → Prop} {x0 : Nat} {x1 x2 x3 x4 x5 s0 : Int32} (K1 : ¬ (s0 = 0) → k_X (jX12_rangeAt G l h0) h 29 [(0, vR (some x0)), (1, vI x1), (2, vI x2), (3, vI x3), (4, vI x4), (5, vI x5)] [vR (some x0)] Q) (K2 : s0 = 0 → k_X (jX12_rangeAt G l h0) h 25 [(0, vR (some x0)), (1, vI x1), (2, vI x2), (3, vI x3), (4, vI x4), (5, vI x5)] [vR (some x0)] Q) : k_X (jX12_rangeAt G l h0) h 17 [(0, vR (some x0)), (1, vI x1), (2, vI x2), (3, vI x3), (4, vI x4), (5, vI x5)] [vI s0] Q := by
  by_cases hc : s0 = 0
  · skip
    obtain ⟨h', r, K, q⟩ := K2 hc
    exact ⟨h', r, j_istore dX12_rangeAt_17 (by decide) rfl <| j_aload_n dX12_rangeAt_19 rfl rfl <| j_iload dX12_rangeAt_20 rfl <| j_if_ne_f dX12_rangeAt_22 29 (by decide) hc (j_pick [0, 1, 2, 3, 4, 5] rfl K), q⟩
  · skip
    obtain ⟨h', r, K, q⟩ := K1 hc
    exact ⟨h', r, j_istore dX12_rangeAt_17 (by decide) rfl <| j_aload_n dX12_rangeAt_19 rfl rfl <| j_iload dX12_rangeAt_20 rfl <| j_if_ne_t (tgt := 29) dX12_rangeAt_22 (by decide) hc (j_pick [0, 1, 2, 3, 4, 5] rfl K), q⟩
theorem bX12_rangeAt_25 {h0 h : k_H} {Q : k_H → k_R → Prop} {x0 : Nat} {x1 x2 x3 x4 x5 : Int32} {s0 : Option Nat} (K : k_X (jX12_rangeAt G l h0) h 65 [(0, vR (some x0)), (1, vI x1), (2, vI x2), (3, vI x3), (4, vI x4), (5, vI x5)] [vI 1, vR s0] Q) : k_X (jX12_rangeAt G l h0) h 25 [(0, vR (some x0)), (1, vI x1), (2, vI x2), (3, vI x3), (4, vI x4), (5, vI x5)] [vR s0] Q := by
  obtain ⟨h', r, K, q⟩ := K
  exact ⟨h', r, j_iconst (v := 1) dX12_rangeAt_25 (by decide) <| j_goto (tgt := 65) dX12_rangeAt_26 (by decide) <| K, q⟩
theorem bX12_rangeAt_29 {h0 h : k_H} {Q : k_H → k_R → Prop} {x0 : Nat} {x1 x2 x3 x4 x5 : Int32} {s0 : Option Nat} {P : k_H → Int32 → Prop} (c : k_cti (tX12_isRange G l) [vI x2, vI x3] h P) (K : ∀ h1 v, P h1 v → k_X (jX12_rangeAt G l h0) h1 34 [(0, vR (some x0)), (1, vI x1), (2, vI x2), (3, vI x3), (4, vI x4), (5, vI x5)] [vI v, vR s0] Q) : k_X (jX12_rangeAt G l h0) h 29 [(0, vR (some x0)), (1, vI x1), (2, vI x2), (3, vI x3), (4, vI x4), (5, vI x5)] [vR s0] Q := by
  obtain ⟨h1, v, c, p⟩ := c
  obtain ⟨h', r, K, q⟩ := K h1 v p
  exact ⟨h', r, j_iload_n dX12_rangeAt_29 rfl rfl <| j_iload_n dX12_rangeAt_30 rfl rfl <| j_callS (v := some (vI v)) (as := [vI x2, vI x3]) dX12_rangeAt_31 kc_X12_282 rfl rfl (by decide) (Nat.le_of_ble_eq_true rfl) c K, q⟩
theorem bX12_rangeAt_34 {h0 h : k_H} {Q : k_H → k_R → Prop} {x0 : Nat} {x1 x2 x3 x4 x5 s1 : Int32} {s0 : Option Nat} (K1 : s1 = 0 → k_X (jX12_rangeAt G l h0) h 47 [(0, vR (some x0)), (1, vI x1), (2, vI x2), (3, vI x3), (4, vI x4), (5, vI x5)] [vR s0] Q) (K2 : ¬ (s1 = 0) → k_X (jX12_rangeAt G l h0) h 37 [(0, vR (some x0)), (1, vI x1), (2, vI x2), (3, vI x3), (4, vI x4), (5, vI x5)] [vR s0] Q) : k_X (jX12_rangeAt G l h0) h 34 [(0, vR (some x0)), (1, vI x1), (2, vI x2), (3, vI x3), (4, vI x4), (5, vI x5)] [vI s1, vR s0] Q := by
  by_cases hc : s1 = 0
  · skip
    obtain ⟨h', r, K, q⟩ := K1 hc
    exact ⟨h', r, j_if_eq_t (tgt := 47) dX12_rangeAt_34 (by decide) hc K, q⟩
  · skip
    obtain ⟨h', r, K, q⟩ := K2 hc
    exact ⟨h', r, j_if_eq_f dX12_rangeAt_34 47 (by decide) hc K, q⟩
theorem bX12_rangeAt_37 {h0 h : k_H} {Q : k_H → k_R → Prop} {x0 : Nat} {x1 x2 x3 x4 x5 : Int32} {s0 : Option Nat} {P : k_H → Int32 → Prop} (c : k_cti (tX12_isIn G l) [vI x5, vI 0, vI 2] h P) (K : ∀ h1 v, P h1 v → k_X (jX12_rangeAt G l h0) h1 44 [(0, vR (some x0)), (1, vI x1), (2, vI x2), (3, vI x3), (4, vI x4), (5, vI x5)] [vI v, vR s0] Q) : k_X (jX12_rangeAt G l h0) h 37 [(0, vR (some x0)), (1, vI x1), (2, vI x2), (3, vI x3), (4, vI x4), (5, vI x5)] [vR s0] Q := by
  obtain ⟨h1, v, c, p⟩ := c
  obtain ⟨h', r, K, q⟩ := K h1 v p
  exact ⟨h', r, j_iload dX12_rangeAt_37 rfl <| j_iconst (v := 0) dX12_rangeAt_39 (by decide) <| j_iconst (v := 2) dX12_rangeAt_40 (by decide) <| j_callS (v := some (vI v)) (as := [vI x5, vI 0, vI 2]) dX12_rangeAt_41 kc_X12_137 rfl rfl (by decide) (Nat.le_of_ble_eq_true rfl) c K, q⟩
theorem bX12_rangeAt_44 {h0 h : k_H} {Q : k_H → k_R → Prop} {x0 : Nat} {x1 x2 x3 x4 x5 s1 : Int32} {s0 : Option Nat} (K1 : ¬ (s1 = 0) → k_X (jX12_rangeAt G l h0) h 51 [(0, vR (some x0)), (1, vI x1), (2, vI x2), (3, vI x3), (4, vI x4), (5, vI x5)] [vR s0] Q) (K2 : s1 = 0 → k_X (jX12_rangeAt G l h0) h 47 [(0, vR (some x0)), (1, vI x1), (2, vI x2), (3, vI x3), (4, vI x4), (5, vI x5)] [vR s0] Q) : k_X (jX12_rangeAt G l h0) h 44 [(0, vR (some x0)), (1, vI x1), (2, vI x2), (3, vI x3), (4, vI x4), (5, vI x5)] [vI s1, vR s0] Q := by
  by_cases hc : s1 = 0
  · skip
    obtain ⟨h', r, K, q⟩ := K2 hc
    exact ⟨h', r, j_if_ne_f dX12_rangeAt_44 51 (by decide) hc K, q⟩
  · skip
    obtain ⟨h', r, K, q⟩ := K1 hc
    exact ⟨h', r, j_if_ne_t (tgt := 51) dX12_rangeAt_44 (by decide) hc K, q⟩
theorem bX12_rangeAt_47 {h0 h : k_H} {Q : k_H → k_R → Prop} {x0 : Nat} {x1 x2 x3 x4 x5 : Int32} {s0 : Option Nat} (K : k_X (jX12_rangeAt G l h0) h 65 [(0, vR (some x0)), (1, vI x1), (2, vI x2), (3, vI x3), (4, vI x4), (5, vI x5)] [vI 2, vR s0] Q) : k_X (jX12_rangeAt G l h0) h 47 [(0, vR (some x0)), (1, vI x1), (2, vI x2), (3, vI x3), (4, vI x4), (5, vI x5)] [vR s0] Q := by
  obtain ⟨h', r, K, q⟩ := K
  exact ⟨h', r, j_iconst (v := 2) dX12_rangeAt_47 (by decide) <| j_goto (tgt := 65) dX12_rangeAt_48 (by decide) <| K, q⟩
theorem bX12_rangeAt_51 {h0 h : k_H} {Q : k_H → k_R → Prop} {x0 f1_14 : Nat} {x1 x2 x3 x4 x5 : Int32} {s0 : Option Nat} {fs1 : List k_V} (o1 : h.1 x0 = some (k_o 15 fs1)) (g1_14 : fs1[14]? = some (vR (some f1_14))) {n2 : Nat} {w2 : Nat → Int32} (o2 : h.1 f1_14 = some (k_z n2 w2)) (y3 : vp_in x1 n2) (K1 : (w2 (x1).toNatClampNeg) = 0 → k_X (jX12_rangeAt G l h0) h 64 [(0, vR (some x0)), (1, vI x1), (2, vI x2), (3, vI x3), (4, vI x4), (5, vI x5)] [vR s0] Q) (K2 : ¬ ((w2 (x1).toNatClampNeg) = 0) → k_X (jX12_rangeAt G l h0) h 60 [(0, vR (some x0)), (1, vI x1), (2, vI x2), (3, vI x3), (4, vI x4), (5, vI x5)] [vR s0] Q) : k_X (jX12_rangeAt G l h0) h 51 [(0, vR (some x0)), (1, vI x1), (2, vI x2), (3, vI x3), (4, vI x4), (5, vI x5)] [vR s0] Q := by
  by_cases hc : (w2 (x1).toNatClampNeg) = 0
  · skip
    obtain ⟨h', r, K, q⟩ := K1 hc
    exact ⟨h', r, j_aload_n dX12_rangeAt_51 rfl rfl <| j_getf dX12_rangeAt_52 kf_X12_42 o1 g1_14 <| j_iload_n dX12_rangeAt_55 rfl rfl <| j_zald dX12_rangeAt_56 o2 y3 <| j_if_eq_t (tgt := 64) dX12_rangeAt_57 (by decide) hc K, q⟩
  · skip
    obtain ⟨h', r, K, q⟩ := K2 hc
    exact ⟨h', r, j_aload_n dX12_rangeAt_51 rfl rfl <| j_getf dX12_rangeAt_52 kf_X12_42 o1 g1_14 <| j_iload_n dX12_rangeAt_55 rfl rfl <| j_zald dX12_rangeAt_56 o2 y3 <| j_if_eq_f dX12_rangeAt_57 64 (by decide) hc K, q⟩
theorem bX12_rangeAt_60 {h0 h : k_H} {Q : k_H → k_R → Prop} {x0 : Nat} {x1 x2 x3 x4 x5 : Int32} {s0 : Option Nat} (K : k_X (jX12_rangeAt G l h0) h 65 [(0, vR (some x0)), (1, vI x1), (2, vI x2), (3, vI x3), (4, vI x4), (5, vI x5)] [vI 0, vR s0] Q) : k_X (jX12_rangeAt G l h0) h 60 [(0, vR (some x0)), (1, vI x1), (2, vI x2), (3, vI x3), (4, vI x4), (5, vI x5)] [vR s0] Q := by
  obtain ⟨h', r, K, q⟩ := K
  exact ⟨h', r, j_iconst (v := 0) dX12_rangeAt_60 (by decide) <| j_goto (tgt := 65) dX12_rangeAt_61 (by decide) <| K, q⟩
theorem bX12_rangeAt_64 {h0 h : k_H} {Q : k_H → k_R → Prop} {x0 : Nat} {x1 x2 x3 x4 x5 : Int32} {s0 : Option Nat} (K : k_X (jX12_rangeAt G l h0) h 65 [(0, vR (some x0)), (1, vI x1), (2, vI x2), (3, vI x3), (4, vI x4), (5, vI x5)] [vI 3, vR s0] Q) : k_X (jX12_rangeAt G l h0) h 64 [(0, vR (some x0)), (1, vI x1), (2, vI x2), (3, vI x3), (4, vI x4), (5, vI x5)] [vR s0] Q := by
  obtain ⟨h', r, K, q⟩ := K
  exact ⟨h', r, j_iconst (v := 3) dX12_rangeAt_64 (by decide) <| K, q⟩
theorem bX12_rangeAt_65 {h0 h : k_H} {Q : k_H → k_R → Prop} {x0 s0 : Nat} {x1 x2 x3 x4 x5 s1 : Int32} (w : k_is h s0 15) {P : k_H → Int32 → Prop} (c : k_cti (tX12_goes G l) [vR (some s0), vI s1] h P) (K : ∀ h1 v, P h1 v → k_X (jX12_rangeAt G l h0) h1 68 [(0, vR (some x0)), (1, vI x1), (2, vI x2), (3, vI x3), (4, vI x4), (5, vI x5)] [vI v] Q) : k_X (jX12_rangeAt G l h0) h 65 [(0, vR (some x0)), (1, vI x1), (2, vI x2), (3, vI x3), (4, vI x4), (5, vI x5)] [vI s1, vR (some s0)] Q := by
  obtain ⟨h1, v, c, p⟩ := c
  obtain ⟨h', r, K, q⟩ := K h1 v p
  exact ⟨h', r, j_callV (v := some (vI v)) (as := [vI s1]) dX12_rangeAt_65 kc_X12_265 rfl rfl w (by decide) (Nat.le_of_ble_eq_true rfl) c K, q⟩
theorem bX12_rangeAt_68 {h0 h : k_H} {Q : k_H → k_R → Prop} {x0 : Nat} {x1 x2 x3 x4 x5 s0 : Int32} (K1 : ¬ (s0 = 0) → k_X (jX12_rangeAt G l h0) h 73 [(0, vR (some x0)), (1, vI x1), (2, vI x2), (3, vI x3), (4, vI x4), (5, vI x5)] [] Q) (K2 : s0 = 0 → k_X (jX12_rangeAt G l h0) h 71 [] [] Q) : k_X (jX12_rangeAt G l h0) h 68 [(0, vR (some x0)), (1, vI x1), (2, vI x2), (3, vI x3), (4, vI x4), (5, vI x5)] [vI s0] Q := by
  by_cases hc : s0 = 0
  · skip
    obtain ⟨h', r, K, q⟩ := K2 hc
    exact ⟨h', r, j_if_ne_f dX12_rangeAt_68 73 (by decide) hc (j_pick [] rfl K), q⟩
  · skip
    obtain ⟨h', r, K, q⟩ := K1 hc
    exact ⟨h', r, j_if_ne_t (tgt := 73) dX12_rangeAt_68 (by decide) hc K, q⟩
theorem bX12_rangeAt_71 {h0 h : k_H} {Q : k_H → k_R → Prop} (q : Q h (.inl (some (vI 0)))) : k_X (jX12_rangeAt G l h0) h 71 [] [] Q := by
  exact ⟨_, _, j_iconst (v := 0) dX12_rangeAt_71 (by decide) <| j_iret dX12_rangeAt_72 rfl, q⟩
theorem bX12_rangeAt_73 {h0 h : k_H} {Q : k_H → k_R → Prop} {x0 : Nat} {x1 x2 x3 x4 x5 : Int32} {P : k_H → Int64 → Prop} (c : k_ctj (tX12_firstOf G l) [vI x2, vI x3] h P) (K : ∀ h1 v, P h1 v → k_X (jX12_rangeAt G l h0) h1 86 [(0, vR (some x0)), (1, vI x1), (2, vI x2), (3, vI x3), (4, vI x4), (5, vI x5), (7, vI 0), (8, vI (-2147483648))] [vJ v, vR (some x0)] Q) : k_X (jX12_rangeAt G l h0) h 73 [(0, vR (some x0)), (1, vI x1), (2, vI x2), (3, vI x3), (4, vI x4), (5, vI x5)] [] Q := by
  obtain ⟨h1, v, c, p⟩ := c
  obtain ⟨h', r, K, q⟩ := K h1 v p
  exact ⟨h', r, j_iconst (v := 0) dX12_rangeAt_73 (by decide) <| j_istore dX12_rangeAt_74 (by decide) rfl <| j_ldc (v := (-2147483648)) dX12_rangeAt_76 ki_X12_87 <| j_istore dX12_rangeAt_78 (by decide) rfl <| j_aload_n dX12_rangeAt_80 rfl rfl <| j_iload_n dX12_rangeAt_81 rfl rfl <| j_iload_n dX12_rangeAt_82 rfl rfl <| j_callS (v := some (vJ v)) (as := [vI x2, vI x3]) dX12_rangeAt_83 kc_X12_285 rfl rfl (by decide) (Nat.le_of_ble_eq_true rfl) c K, q⟩
theorem bX12_rangeAt_86 {h0 h : k_H} {Q : k_H → k_R → Prop} {x0 s0 : Nat} {x1 x2 x3 x4 x5 x7 x8 : Int32} {s1 : Int64} (w : k_is h s0 15) {P : k_H → Int32 → Prop} (c : k_cti (tX12_placeOf G l) [vR (some s0), vJ s1] h P) (K : ∀ h1 v, P h1 v → k_X (jX12_rangeAt G l h0) h1 89 [(0, vR (some x0)), (1, vI x1), (2, vI x2), (3, vI x3), (4, vI x4), (5, vI x5), (7, vI x7), (8, vI x8)] [vI v] Q) : k_X (jX12_rangeAt G l h0) h 86 [(0, vR (some x0)), (1, vI x1), (2, vI x2), (3, vI x3), (4, vI x4), (5, vI x5), (7, vI x7), (8, vI x8)] [vJ s1, vR (some s0)] Q := by
  obtain ⟨h1, v, c, p⟩ := c
  obtain ⟨h', r, K, q⟩ := K h1 v p
  exact ⟨h', r, j_callV (v := some (vI v)) (as := [vJ s1]) dX12_rangeAt_86 kc_X12_164 rfl rfl w (by decide) (Nat.le_of_ble_eq_true rfl) c K, q⟩
theorem bX12_rangeAt_89 {h0 h : k_H} {Q : k_H → k_R → Prop} {x0 : Nat} {x1 x2 x3 x4 x5 x7 x8 s0 : Int32} (K : k_X (jX12_rangeAt G l h0) h 91 [(0, vR (some x0)), (1, vI x1), (2, vI x2), (3, vI x3), (4, vI x4), (5, vI x5), (7, vI x7), (8, vI x8), (9, vI s0)] [] Q) : k_X (jX12_rangeAt G l h0) h 89 [(0, vR (some x0)), (1, vI x1), (2, vI x2), (3, vI x3), (4, vI x4), (5, vI x5), (7, vI x7), (8, vI x8)] [vI s0] Q := by
  obtain ⟨h', r, K, q⟩ := K
  exact ⟨h', r, j_istore dX12_rangeAt_89 (by decide) rfl <| K, q⟩
theorem bX12_rangeAt_91 {h0 h : k_H} {Q : k_H → k_R → Prop} {x0 : Nat} {x1 x2 x3 x4 x5 x7 x8 x9 f1_2 : Int32} {fs1 : List k_V} (o1 : h.1 x0 = some (k_o 15 fs1)) (g1_2 : fs1[2]? = some (vI f1_2)) (K1 : f1_2 ≤ x9 → k_X (jX12_rangeAt G l h0) h 173 [(0, vR (some x0)), (1, vI x1), (2, vI x2), (3, vI x3), (8, vI x8)] [] Q) (K2 : ¬ (f1_2 ≤ x9) → k_X (jX12_rangeAt G l h0) h 100 [(0, vR (some x0)), (1, vI x1), (2, vI x2), (3, vI x3), (4, vI x4), (5, vI x5), (7, vI x7), (8, vI x8), (9, vI x9)] [] Q) : k_X (jX12_rangeAt G l h0) h 91 [(0, vR (some x0)), (1, vI x1), (2, vI x2), (3, vI x3), (4, vI x4), (5, vI x5), (7, vI x7), (8, vI x8), (9, vI x9)] [] Q := by
  by_cases hc : f1_2 ≤ x9
  · skip
    obtain ⟨h', r, K, q⟩ := K1 hc
    exact ⟨h', r, j_iload dX12_rangeAt_91 rfl <| j_aload_n dX12_rangeAt_93 rfl rfl <| j_getf dX12_rangeAt_94 kf_X12_161 o1 g1_2 <| j_icmp_ge_t (tgt := 173) dX12_rangeAt_97 (by decide) hc (j_pick [0, 1, 2, 3, 7] rfl K), q⟩
  · skip
    obtain ⟨h', r, K, q⟩ := K2 hc
    exact ⟨h', r, j_iload dX12_rangeAt_91 rfl <| j_aload_n dX12_rangeAt_93 rfl rfl <| j_getf dX12_rangeAt_94 kf_X12_161 o1 g1_2 <| j_icmp_ge_f dX12_rangeAt_97 173 (by decide) hc K, q⟩
theorem bX12_rangeAt_100 {h0 h : k_H} {Q : k_H → k_R → Prop} {x0 f1_3 : Nat} {x1 x2 x3 x4 x5 x7 x8 x9 : Int32} {fs1 : List k_V} (o1 : h.1 x0 = some (k_o 15 fs1)) (g1_3 : fs1[3]? = some (vR (some f1_3))) {n2 : Nat} {w2 : Nat → Int64} (o2 : h.1 f1_3 = some (k_j n2 w2)) (y3 : vp_in x9 n2) {P : k_H → Int64 → Prop} (c : k_ctj (tX12_lastOf G l) [vI x2, vI x3] h P) (K : ∀ h1 v, P h1 v → k_X (jX12_rangeAt G l h0) h1 112 [(0, vR (some x0)), (1, vI x1), (2, vI x2), (3, vI x3), (4, vI x4), (5, vI x5), (7, vI x7), (8, vI x8), (9, vI x9)] [vJ v, vJ (w2 (x9).toNatClampNeg)] Q) : k_X (jX12_rangeAt G l h0) h 100 [(0, vR (some x0)), (1, vI x1), (2, vI x2), (3, vI x3), (4, vI x4), (5, vI x5), (7, vI x7), (8, vI x8), (9, vI x9)] [] Q := by
  obtain ⟨h1, v, c, p⟩ := c
  obtain ⟨h', r, K, q⟩ := K h1 v p
  exact ⟨h', r, j_aload_n dX12_rangeAt_100 rfl rfl <| j_getf dX12_rangeAt_101 kf_X12_9 o1 g1_3 <| j_iload dX12_rangeAt_104 rfl <| j_lald dX12_rangeAt_106 o2 y3 <| j_iload_n dX12_rangeAt_107 rfl rfl <| j_iload_n dX12_rangeAt_108 rfl rfl <| j_callS (v := some (vJ v)) (as := [vI x2, vI x3]) dX12_rangeAt_109 kc_X12_289 rfl rfl (by decide) (Nat.le_of_ble_eq_true rfl) c K, q⟩
theorem bX12_rangeAt_112 {h0 h : k_H} {Q : k_H → k_R → Prop} {x0 : Nat} {x1 x2 x3 x4 x5 x7 x8 x9 : Int32} {s0 s1 : Int64} (K1 : s1 < s0 → k_X (jX12_rangeAt G l h0) h 173 [(0, vR (some x0)), (1, vI x1), (2, vI x2), (3, vI x3), (8, vI x8)] [] Q) (K2 : ¬ (s1 < s0) → k_X (jX12_rangeAt G l h0) h 116 [(0, vR (some x0)), (1, vI x1), (2, vI x2), (3, vI x3), (4, vI x4), (5, vI x5), (7, vI x7), (8, vI x8), (9, vI x9)] [] Q) : k_X (jX12_rangeAt G l h0) h 112 [(0, vR (some x0)), (1, vI x1), (2, vI x2), (3, vI x3), (4, vI x4), (5, vI x5), (7, vI x7), (8, vI x8), (9, vI x9)] [vJ s1, vJ s0] Q := by
  by_cases hc : s1 < s0
  · skip
    obtain ⟨h', r, K, q⟩ := K1 hc
    exact ⟨h', r, j_lcmp dX12_rangeAt_112 <| j_if_gt_t (tgt := 173) dX12_rangeAt_113 (by decide) ((lg_cmp_gt _ _).mpr hc) (j_pick [0, 1, 2, 3, 7] rfl K), q⟩
  · skip
    obtain ⟨h', r, K, q⟩ := K2 hc
    exact ⟨h', r, j_lcmp dX12_rangeAt_112 <| j_if_gt_f dX12_rangeAt_113 173 (by decide) ((not_congr (lg_cmp_gt _ _)).mpr hc) K, q⟩
theorem bX12_rangeAt_116 {h0 h : k_H} {Q : k_H → k_R → Prop} {x0 : Nat} {x1 x2 x3 x4 x5 x7 x8 x9 : Int32} (K1 : x4 < x7 → k_X (jX12_rangeAt G l h0) h 173 [(0, vR (some x0)), (1, vI x1), (2, vI x2), (3, vI x3), (8, vI x8)] [] Q) (K2 : ¬ (x4 < x7) → k_X (jX12_rangeAt G l h0) h 123 [(0, vR (some x0)), (1, vI x1), (2, vI x2), (3, vI x3), (4, vI x4), (5, vI x5), (7, vI x7), (8, vI x8), (9, vI x9)] [] Q) : k_X (jX12_rangeAt G l h0) h 116 [(0, vR (some x0)), (1, vI x1), (2, vI x2), (3, vI x3), (4, vI x4), (5, vI x5), (7, vI x7), (8, vI x8), (9, vI x9)] [] Q := by
  by_cases hc : x4 < x7
  · skip
    obtain ⟨h', r, K, q⟩ := K1 hc
    exact ⟨h', r, j_iload dX12_rangeAt_116 rfl <| j_iload dX12_rangeAt_118 rfl <| j_icmp_gt_t (tgt := 173) dX12_rangeAt_120 (by decide) hc (j_pick [0, 1, 2, 3, 7] rfl K), q⟩
  · skip
    obtain ⟨h', r, K, q⟩ := K2 hc
    exact ⟨h', r, j_iload dX12_rangeAt_116 rfl <| j_iload dX12_rangeAt_118 rfl <| j_icmp_gt_f dX12_rangeAt_120 173 (by decide) hc K, q⟩
theorem bX12_rangeAt_123 {h0 h : k_H} {Q : k_H → k_R → Prop} {x0 f1_3 : Nat} {x1 x2 x3 x4 x5 x7 x8 x9 : Int32} {fs1 : List k_V} (o1 : h.1 x0 = some (k_o 15 fs1)) (g1_3 : fs1[3]? = some (vR (some f1_3))) {n2 : Nat} {w2 : Nat → Int64} (o2 : h.1 f1_3 = some (k_j n2 w2)) (y3 : vp_in x9 n2) {P : k_H → Int32 → Prop} (c : k_cti (tX12_isSeen G l) [vR (some x0), vI x1, vJ (w2 (x9).toNatClampNeg)] h P) (K : ∀ h1 v, P h1 v → k_X (jX12_rangeAt G l h0) h1 135 [(0, vR (some x0)), (1, vI x1), (2, vI x2), (3, vI x3), (4, vI x4), (5, vI x5), (7, vI x7), (8, vI x8), (9, vI x9)] [vI v] Q) : k_X (jX12_rangeAt G l h0) h 123 [(0, vR (some x0)), (1, vI x1), (2, vI x2), (3, vI x3), (4, vI x4), (5, vI x5), (7, vI x7), (8, vI x8), (9, vI x9)] [] Q := by
  obtain ⟨h1, v, c, p⟩ := c
  obtain ⟨h', r, K, q⟩ := K h1 v p
  exact ⟨h', r, j_aload_n dX12_rangeAt_123 rfl rfl <| j_iload_n dX12_rangeAt_124 rfl rfl <| j_aload_n dX12_rangeAt_125 rfl rfl <| j_getf dX12_rangeAt_126 kf_X12_9 o1 g1_3 <| j_iload dX12_rangeAt_129 rfl <| j_lald dX12_rangeAt_131 o2 y3 <| j_callV (v := some (vI v)) (as := [vI x1, vJ (w2 (x9).toNatClampNeg)]) dX12_rangeAt_132 kc_X12_292 rfl rfl (k_is_o o1) (by decide) (Nat.le_of_ble_eq_true rfl) c K, q⟩
theorem bX12_rangeAt_135 {h0 h : k_H} {Q : k_H → k_R → Prop} {x0 : Nat} {x1 x2 x3 x4 x5 x7 x8 x9 s0 : Int32} (K1 : s0 = 0 → k_X (jX12_rangeAt G l h0) h 167 [(0, vR (some x0)), (1, vI x1), (2, vI x2), (3, vI x3), (4, vI x4), (5, vI x5), (7, vI x7), (8, vI x8), (9, vI x9)] [] Q) (K2 : ¬ (s0 = 0) → k_X (jX12_rangeAt G l h0) h 138 [(0, vR (some x0)), (1, vI x1), (2, vI x2), (3, vI x3), (4, vI x4), (5, vI x5), (7, vI x7), (8, vI x8), (9, vI x9)] [] Q) : k_X (jX12_rangeAt G l h0) h 135 [(0, vR (some x0)), (1, vI x1), (2, vI x2), (3, vI x3), (4, vI x4), (5, vI x5), (7, vI x7), (8, vI x8), (9, vI x9)] [vI s0] Q := by
  by_cases hc : s0 = 0
  · skip
    obtain ⟨h', r, K, q⟩ := K1 hc
    exact ⟨h', r, j_if_eq_t (tgt := 167) dX12_rangeAt_135 (by decide) hc K, q⟩
  · skip
    obtain ⟨h', r, K, q⟩ := K2 hc
    exact ⟨h', r, j_if_eq_f dX12_rangeAt_135 167 (by decide) hc K, q⟩
theorem bX12_rangeAt_138 {h0 h : k_H} {Q : k_H → k_R → Prop} {x0 : Nat} {x1 x2 x3 x4 x5 x7 x8 x9 : Int32} (K1 : ¬ (x7 = x4) → k_X (jX12_rangeAt G l h0) h 160 [(0, vR (some x0)), (1, vI x1), (2, vI x2), (3, vI x3), (4, vI x4), (5, vI x5), (7, vI x7), (8, vI x8), (9, vI x9)] [] Q) (K2 : x7 = x4 → k_X (jX12_rangeAt G l h0) h 145 [(0, vR (some x0)), (1, vI x1), (2, vI x2), (3, vI x3), (4, vI x4), (5, vI x5), (7, vI x7), (9, vI x9)] [] Q) : k_X (jX12_rangeAt G l h0) h 138 [(0, vR (some x0)), (1, vI x1), (2, vI x2), (3, vI x3), (4, vI x4), (5, vI x5), (7, vI x7), (8, vI x8), (9, vI x9)] [] Q := by
  by_cases hc : x7 = x4
  · skip
    obtain ⟨h', r, K, q⟩ := K2 hc
    exact ⟨h', r, j_iload dX12_rangeAt_138 rfl <| j_iload dX12_rangeAt_140 rfl <| j_icmp_ne_f dX12_rangeAt_142 160 (by decide) hc (j_pick [0, 1, 2, 3, 4, 5, 6, 8] rfl K), q⟩
  · skip
    obtain ⟨h', r, K, q⟩ := K1 hc
    exact ⟨h', r, j_iload dX12_rangeAt_138 rfl <| j_iload dX12_rangeAt_140 rfl <| j_icmp_ne_t (tgt := 160) dX12_rangeAt_142 (by decide) hc K, q⟩
theorem bX12_rangeAt_145 {h0 h : k_H} {Q : k_H → k_R → Prop} {x0 f1_3 : Nat} {x1 x2 x3 x4 x5 x7 x9 : Int32} {fs1 : List k_V} (o1 : h.1 x0 = some (k_o 15 fs1)) (g1_3 : fs1[3]? = some (vR (some f1_3))) {n2 : Nat} {w2 : Nat → Int64} (o2 : h.1 f1_3 = some (k_j n2 w2)) (y3 : vp_in x9 n2) {P : k_H → Int32 → Prop} (c : k_cti (tX12_numberOf G l) [vJ (w2 (x9).toNatClampNeg), vI x5] h P) (K : ∀ h1 v, P h1 v → k_X (jX12_rangeAt G l h0) h1 157 [(0, vR (some x0)), (1, vI x1), (2, vI x2), (3, vI x3), (4, vI x4), (5, vI x5), (7, vI x7), (9, vI x9)] [vI v] Q) : k_X (jX12_rangeAt G l h0) h 145 [(0, vR (some x0)), (1, vI x1), (2, vI x2), (3, vI x3), (4, vI x4), (5, vI x5), (7, vI x7), (9, vI x9)] [] Q := by
  obtain ⟨h1, v, c, p⟩ := c
  obtain ⟨h', r, K, q⟩ := K h1 v p
  exact ⟨h', r, j_aload_n dX12_rangeAt_145 rfl rfl <| j_getf dX12_rangeAt_146 kf_X12_9 o1 g1_3 <| j_iload dX12_rangeAt_149 rfl <| j_lald dX12_rangeAt_151 o2 y3 <| j_iload dX12_rangeAt_152 rfl <| j_callS (v := some (vI v)) (as := [vJ (w2 (x9).toNatClampNeg), vI x5]) dX12_rangeAt_154 kc_X12_295 rfl rfl (by decide) (Nat.le_of_ble_eq_true rfl) c K, q⟩
theorem bX12_rangeAt_157 {h0 h : k_H} {Q : k_H → k_R → Prop} {x0 : Nat} {x1 x2 x3 x4 x5 x7 x9 s0 : Int32} (K : k_X (jX12_rangeAt G l h0) h 162 [(0, vR (some x0)), (1, vI x1), (2, vI x2), (3, vI x3), (4, vI x4), (5, vI x5), (7, vI x7), (9, vI x9)] [vI s0] Q) : k_X (jX12_rangeAt G l h0) h 157 [(0, vR (some x0)), (1, vI x1), (2, vI x2), (3, vI x3), (4, vI x4), (5, vI x5), (7, vI x7), (9, vI x9)] [vI s0] Q := by
  obtain ⟨h', r, K, q⟩ := K
  exact ⟨h', r, j_goto (tgt := 162) dX12_rangeAt_157 (by decide) <| K, q⟩
theorem bX12_rangeAt_160 {h0 h : k_H} {Q : k_H → k_R → Prop} {x0 : Nat} {x1 x2 x3 x4 x5 x7 x8 x9 : Int32} (K : k_X (jX12_rangeAt G l h0) h 162 [(0, vR (some x0)), (1, vI x1), (2, vI x2), (3, vI x3), (4, vI x4), (5, vI x5), (7, vI x7), (9, vI x9)] [vI x8] Q) : k_X (jX12_rangeAt G l h0) h 160 [(0, vR (some x0)), (1, vI x1), (2, vI x2), (3, vI x3), (4, vI x4), (5, vI x5), (7, vI x7), (8, vI x8), (9, vI x9)] [] Q := by
  obtain ⟨h', r, K, q⟩ := K
  exact ⟨h', r, j_iload dX12_rangeAt_160 rfl <| (j_pick [0, 1, 2, 3, 4, 5, 6, 8] rfl K), q⟩
theorem bX12_rangeAt_162 {h0 h : k_H} {Q : k_H → k_R → Prop} {x0 : Nat} {x1 x2 x3 x4 x5 x7 x9 s0 : Int32} (K : k_X (jX12_rangeAt G l h0) h 167 [(0, vR (some x0)), (1, vI x1), (2, vI x2), (3, vI x3), (4, vI x4), (5, vI x5), (7, vI (x7 + 1)), (8, vI s0), (9, vI x9)] [] Q) : k_X (jX12_rangeAt G l h0) h 162 [(0, vR (some x0)), (1, vI x1), (2, vI x2), (3, vI x3), (4, vI x4), (5, vI x5), (7, vI x7), (9, vI x9)] [vI s0] Q := by
  obtain ⟨h', r, K, q⟩ := K
  exact ⟨h', r, j_istore dX12_rangeAt_162 (by decide) rfl <| j_iinc (v := x7 + 1) dX12_rangeAt_164 rfl (by decide) rfl rfl <| K, q⟩
theorem bX12_rangeAt_167 {h0 h : k_H} {Q : k_H → k_R → Prop} {x0 : Nat} {x1 x2 x3 x4 x5 x7 x8 x9 : Int32} (K : k_X (jX12_rangeAt G l h0) h 91 [(0, vR (some x0)), (1, vI x1), (2, vI x2), (3, vI x3), (4, vI x4), (5, vI x5), (7, vI x7), (8, vI x8), (9, vI (x9 + 1))] [] Q) : k_X (jX12_rangeAt G l h0) h 167 [(0, vR (some x0)), (1, vI x1), (2, vI x2), (3, vI x3), (4, vI x4), (5, vI x5), (7, vI x7), (8, vI x8), (9, vI x9)] [] Q := by
  obtain ⟨h', r, K, q⟩ := K
  exact ⟨h', r, j_iinc (v := x9 + 1) dX12_rangeAt_167 rfl (by decide) rfl rfl <| j_goto (tgt := 91) dX12_rangeAt_170 (by decide) <| K, q⟩
theorem bX12_rangeAt_173 {h0 h : k_H} {Q : k_H → k_R → Prop} {x0 : Nat} {x1 x2 x3 x8 : Int32} {P : k_H → Int64 → Prop} (c : k_ctj (tX12_firstOf G l) [vI x2, vI x3] h P) (K : ∀ h1 v, P h1 v → k_X (jX12_rangeAt G l h0) h1 180 [(2, vI x2), (3, vI x3), (8, vI x8)] [vJ v, vI x1, vR (some x0)] Q) : k_X (jX12_rangeAt G l h0) h 173 [(0, vR (some x0)), (1, vI x1), (2, vI x2), (3, vI x3), (8, vI x8)] [] Q := by
  obtain ⟨h1, v, c, p⟩ := c
  obtain ⟨h', r, K, q⟩ := K h1 v p
  exact ⟨h', r, j_aload_n dX12_rangeAt_173 rfl rfl <| j_iload_n dX12_rangeAt_174 rfl rfl <| j_iload_n dX12_rangeAt_175 rfl rfl <| j_iload_n dX12_rangeAt_176 rfl rfl <| j_callS (v := some (vJ v)) (as := [vI x2, vI x3]) dX12_rangeAt_177 kc_X12_285 rfl rfl (by decide) (Nat.le_of_ble_eq_true rfl) c (j_pick [2, 3, 4] rfl K), q⟩
theorem bX12_rangeAt_180 {h0 h : k_H} {Q : k_H → k_R → Prop} {x2 x3 x8 s1 : Int32} {s0 : Option Nat} {s2 : Int64} {P : k_H → Int64 → Prop} (c : k_ctj (tX12_lastOf G l) [vI x2, vI x3] h P) (K : ∀ h1 v, P h1 v → k_X (jX12_rangeAt G l h0) h1 185 [(8, vI x8)] [vJ v, vJ s2, vI s1, vR s0] Q) : k_X (jX12_rangeAt G l h0) h 180 [(2, vI x2), (3, vI x3), (8, vI x8)] [vJ s2, vI s1, vR s0] Q := by
  obtain ⟨h1, v, c, p⟩ := c
  obtain ⟨h', r, K, q⟩ := K h1 v p
  exact ⟨h', r, j_iload_n dX12_rangeAt_180 rfl rfl <| j_iload_n dX12_rangeAt_181 rfl rfl <| j_callS (v := some (vJ v)) (as := [vI x2, vI x3]) dX12_rangeAt_182 kc_X12_289 rfl rfl (by decide) (Nat.le_of_ble_eq_true rfl) c (j_pick [2] rfl K), q⟩
theorem bX12_rangeAt_185 {h0 h : k_H} {Q : k_H → k_R → Prop} {x8 s1 : Int32} {s0 : Nat} {s2 s3 : Int64} (w : k_is h s0 15) {P : k_H → Prop} (c : k_ctv (tX12_putsDown G l) [vR (some s0), vI s1, vJ s2, vJ s3] h P) (K : ∀ h1, P h1 → k_X (jX12_rangeAt G l h0) h1 188 [(8, vI x8)] [] Q) : k_X (jX12_rangeAt G l h0) h 185 [(8, vI x8)] [vJ s3, vJ s2, vI s1, vR (some s0)] Q := by
  obtain ⟨h1, c, p⟩ := c
  obtain ⟨h', r, K, q⟩ := K h1 p
  exact ⟨h', r, j_callV (v := none) (as := [vI s1, vJ s2, vJ s3]) dX12_rangeAt_185 kc_X12_254 rfl rfl w (by decide) (Nat.le_of_ble_eq_true rfl) c K, q⟩
theorem bX12_rangeAt_188 {h0 h : k_H} {Q : k_H → k_R → Prop} {x8 : Int32} (q : Q h (.inl (some (vI x8)))) : k_X (jX12_rangeAt G l h0) h 188 [(8, vI x8)] [] Q := by
  exact ⟨_, _, j_iload dX12_rangeAt_188 rfl <| j_iret dX12_rangeAt_190 rfl, q⟩
theorem eX12_keeps {G : k_G} {l : Launch} (hfl : l.flags = flags0) {h : k_H} {Q : k_H → k_R → Prop} {x0 : Nat} {x1 : Int32} {x2 : Int32} {x3 : Int64} {x5 : Int64} {x7 : Int32} (K : k_X (jX12_keeps G l h) h 0 [(0, vR (some x0)), (1, vI x1), (2, vI x2), (3, vJ x3), (5, vJ x5), (7, vI x7)] [] Q) : k_ct (tX12_keeps G l) [vR (some x0), vI x1, vI x2, vJ x3, vJ x5, vI x7] h Q := by
  obtain ⟨h', r, K, q⟩ := K
  exact ⟨h', r, k_CtOf (by decide +kernel) (Nat.le_of_ble_eq_true rfl) K hfl, q⟩

theorem bX12_keeps_0 {h0 h : k_H} {Q : k_H → k_R → Prop} {x0 f1_20 : Nat} {x1 x2 x7 : Int32} {x3 x5 : Int64} {fs1 : List k_V} (o1 : h.1 x0 = some (k_o 15 fs1)) (g1_20 : fs1[20]? = some (vR (some f1_20))) {n2 : Nat} {w2 : Nat → Int32} (o2 : h.1 f1_20 = some (k_i n2 w2)) (y3 : vp_in x1 n2) {P : k_H → Int32 → Prop} (c : k_cti (tX12_changeAt G l) [vR (some x0), vI x1, vI (w2 (x1).toNatClampNeg)] h P) (K : ∀ h1 v, P h1 v → k_X (jX12_keeps G l h0) h1 11 [(0, vR (some x0)), (1, vI x1), (2, vI x2), (3, vJ x3), (5, vJ x5), (7, vI x7)] [vI v] Q) : k_X (jX12_keeps G l h0) h 0 [(0, vR (some x0)), (1, vI x1), (2, vI x2), (3, vJ x3), (5, vJ x5), (7, vI x7)] [] Q := by
  obtain ⟨h1, v, c, p⟩ := c
  obtain ⟨h', r, K, q⟩ := K h1 v p
  exact ⟨h', r, j_aload_n dX12_keeps_0 rfl rfl <| j_iload_n dX12_keeps_1 rfl rfl <| j_aload_n dX12_keeps_2 rfl rfl <| j_getf dX12_keeps_3 kf_X12_57 o1 g1_20 <| j_iload_n dX12_keeps_6 rfl rfl <| j_iald dX12_keeps_7 o2 y3 <| j_callV (v := some (vI v)) (as := [vI x1, vI (w2 (x1).toNatClampNeg)]) dX12_keeps_8 kc_X12_240 rfl rfl (k_is_o o1) (by decide) (Nat.le_of_ble_eq_true rfl) c K, q⟩
theorem bX12_keeps_11 {h0 h : k_H} {Q : k_H → k_R → Prop} {x0 : Nat} {x1 x2 x7 s0 f1_19 : Int32} {x3 x5 : Int64} {fs1 : List k_V} (o1 : h.1 x0 = some (k_o 15 fs1)) (g1_19 : fs1[19]? = some (vI f1_19)) (z1 : fs1.length = 53) (K : k_X (jX12_keeps G l h0) (k_up h x0 (k_o 15 (fs1.set 19 (vI (f1_19 + 1))))) 23 [(0, vR (some x0)), (1, vI x1), (2, vI x2), (3, vJ x3), (5, vJ x5), (7, vI x7), (8, vI s0)] [] Q) : k_X (jX12_keeps G l h0) h 11 [(0, vR (some x0)), (1, vI x1), (2, vI x2), (3, vJ x3), (5, vJ x5), (7, vI x7)] [vI s0] Q := by
  obtain ⟨h', r, K, q⟩ := K
  exact ⟨h', r, j_istore dX12_keeps_11 (by decide) rfl <| j_aload_n dX12_keeps_13 rfl rfl <| j_dup dX12_keeps_14 rfl <| j_getf dX12_keeps_15 kf_X12_247 o1 g1_19 <| j_iconst (v := 1) dX12_keeps_18 (by decide) <| j_iadd dX12_keeps_19 <| j_putf dX12_keeps_20 kp_X12_247 o1 (k_ln z1 (by decide)) (k_fit_i _) rfl <| K, q⟩
theorem bX12_keeps_23 {h0 h : k_H} {Q : k_H → k_R → Prop} {x0 f1_21 : Nat} {x1 x2 x7 x8 : Int32} {x3 x5 : Int64} {fs1 : List k_V} (o1 : h.1 x0 = some (k_o 15 fs1)) (g1_21 : fs1[21]? = some (vR (some f1_21))) {n2 : Nat} {w2 : Nat → Int32} (o2 : h.1 f1_21 = some (k_i n2 w2)) (y3 : vp_in x8 n2) (K : k_X (jX12_keeps G l h0) (k_up h f1_21 (k_i n2 (va_up w2 (x8).toNatClampNeg x2))) 31 [(0, vR (some x0)), (1, vI x1), (2, vI x2), (3, vJ x3), (5, vJ x5), (7, vI x7), (8, vI x8)] [] Q) : k_X (jX12_keeps G l h0) h 23 [(0, vR (some x0)), (1, vI x1), (2, vI x2), (3, vJ x3), (5, vJ x5), (7, vI x7), (8, vI x8)] [] Q := by
  obtain ⟨h', r, K, q⟩ := K
  exact ⟨h', r, j_aload_n dX12_keeps_23 rfl rfl <| j_getf dX12_keeps_24 kf_X12_60 o1 g1_21 <| j_iload dX12_keeps_27 rfl <| j_iload_n dX12_keeps_29 rfl rfl <| j_iast dX12_keeps_30 o2 y3 <| K, q⟩
theorem bX12_keeps_31 {h0 h : k_H} {Q : k_H → k_R → Prop} {x0 f1_22 : Nat} {x1 x2 x7 x8 : Int32} {x3 x5 : Int64} {fs1 : List k_V} (o1 : h.1 x0 = some (k_o 15 fs1)) (g1_22 : fs1[22]? = some (vR (some f1_22))) {n2 : Nat} {w2 : Nat → Int64} (o2 : h.1 f1_22 = some (k_j n2 w2)) (y3 : vp_in x8 n2) (K : k_X (jX12_keeps G l h0) (k_up h f1_22 (k_j n2 (va_up w2 (x8).toNatClampNeg x3))) 39 [(0, vR (some x0)), (1, vI x1), (2, vI x2), (3, vJ x3), (5, vJ x5), (7, vI x7), (8, vI x8)] [] Q) : k_X (jX12_keeps G l h0) h 31 [(0, vR (some x0)), (1, vI x1), (2, vI x2), (3, vJ x3), (5, vJ x5), (7, vI x7), (8, vI x8)] [] Q := by
  obtain ⟨h', r, K, q⟩ := K
  exact ⟨h', r, j_aload_n dX12_keeps_31 rfl rfl <| j_getf dX12_keeps_32 kf_X12_63 o1 g1_22 <| j_iload dX12_keeps_35 rfl <| j_lload_n dX12_keeps_37 rfl rfl <| j_last dX12_keeps_38 o2 y3 <| K, q⟩
theorem bX12_keeps_39 {h0 h : k_H} {Q : k_H → k_R → Prop} {x0 f1_23 : Nat} {x1 x2 x7 x8 : Int32} {x3 x5 : Int64} {fs1 : List k_V} (o1 : h.1 x0 = some (k_o 15 fs1)) (g1_23 : fs1[23]? = some (vR (some f1_23))) {n2 : Nat} {w2 : Nat → Int64} (o2 : h.1 f1_23 = some (k_j n2 w2)) (y3 : vp_in x8 n2) (K : k_X (jX12_keeps G l h0) (k_up h f1_23 (k_j n2 (va_up w2 (x8).toNatClampNeg x5))) 48 [(0, vR (some x0)), (1, vI x1), (2, vI x2), (3, vJ x3), (7, vI x7), (8, vI x8)] [] Q) : k_X (jX12_keeps G l h0) h 39 [(0, vR (some x0)), (1, vI x1), (2, vI x2), (3, vJ x3), (5, vJ x5), (7, vI x7), (8, vI x8)] [] Q := by
  obtain ⟨h', r, K, q⟩ := K
  exact ⟨h', r, j_aload_n dX12_keeps_39 rfl rfl <| j_getf dX12_keeps_40 kf_X12_66 o1 g1_23 <| j_iload dX12_keeps_43 rfl <| j_lload dX12_keeps_45 rfl <| j_last dX12_keeps_47 o2 y3 <| (j_pick [0, 1, 2, 3, 5, 6] rfl K), q⟩
theorem bX12_keeps_48 {h0 h : k_H} {Q : k_H → k_R → Prop} {x0 f1_24 : Nat} {x1 x2 x7 x8 : Int32} {x3 : Int64} {fs1 : List k_V} (o1 : h.1 x0 = some (k_o 15 fs1)) (g1_24 : fs1[24]? = some (vR (some f1_24))) {n2 : Nat} {w2 : Nat → Int32} (o2 : h.1 f1_24 = some (k_i n2 w2)) (y3 : vp_in x8 n2) (K : k_X (jX12_keeps G l h0) (k_up h f1_24 (k_i n2 (va_up w2 (x8).toNatClampNeg x7))) 57 [(0, vR (some x0)), (1, vI x1), (2, vI x2), (3, vJ x3), (8, vI x8)] [] Q) : k_X (jX12_keeps G l h0) h 48 [(0, vR (some x0)), (1, vI x1), (2, vI x2), (3, vJ x3), (7, vI x7), (8, vI x8)] [] Q := by
  obtain ⟨h', r, K, q⟩ := K
  exact ⟨h', r, j_aload_n dX12_keeps_48 rfl rfl <| j_getf dX12_keeps_49 kf_X12_69 o1 g1_24 <| j_iload dX12_keeps_52 rfl <| j_iload dX12_keeps_54 rfl <| j_iast dX12_keeps_56 o2 y3 <| (j_pick [0, 1, 2, 3, 5] rfl K), q⟩
theorem bX12_keeps_57 {h0 h : k_H} {Q : k_H → k_R → Prop} {x0 f1_25 : Nat} {x1 x2 x8 f1_19 : Int32} {x3 : Int64} {fs1 : List k_V} (o1 : h.1 x0 = some (k_o 15 fs1)) (g1_25 : fs1[25]? = some (vR (some f1_25))) (g1_19 : fs1[19]? = some (vI f1_19)) {n2 : Nat} {w2 : Nat → Int32} (o2 : h.1 f1_25 = some (k_i n2 w2)) (y3 : vp_in x8 n2) (K : k_X (jX12_keeps G l h0) (k_up h f1_25 (k_i n2 (va_up w2 (x8).toNatClampNeg f1_19))) 68 [(0, vR (some x0)), (1, vI x1), (2, vI x2), (3, vJ x3)] [] Q) : k_X (jX12_keeps G l h0) h 57 [(0, vR (some x0)), (1, vI x1), (2, vI x2), (3, vJ x3), (8, vI x8)] [] Q := by
  obtain ⟨h', r, K, q⟩ := K
  exact ⟨h', r, j_aload_n dX12_keeps_57 rfl rfl <| j_getf dX12_keeps_58 kf_X12_72 o1 g1_25 <| j_iload dX12_keeps_61 rfl <| j_aload_n dX12_keeps_63 rfl rfl <| j_getf dX12_keeps_64 kf_X12_247 o1 g1_19 <| j_iast dX12_keeps_67 o2 y3 <| (j_pick [0, 1, 2, 3] rfl K), q⟩
theorem bX12_keeps_68 {h0 h : k_H} {Q : k_H → k_R → Prop} {x0 f1_20 : Nat} {x1 x2 : Int32} {x3 : Int64} {fs1 : List k_V} (o1 : h.1 x0 = some (k_o 15 fs1)) (g1_20 : fs1[20]? = some (vR (some f1_20))) {n2 : Nat} {w2 : Nat → Int32} (o2 : h.1 f1_20 = some (k_i n2 w2)) (y3 : vp_in x1 n2) (K : k_X (jX12_keeps G l h0) (k_up h f1_20 (k_i n2 (va_up w2 (x1).toNatClampNeg ((w2 (x1).toNatClampNeg) + 1)))) 78 [(0, vR (some x0)), (2, vI x2), (3, vJ x3)] [] Q) : k_X (jX12_keeps G l h0) h 68 [(0, vR (some x0)), (1, vI x1), (2, vI x2), (3, vJ x3)] [] Q := by
  obtain ⟨h', r, K, q⟩ := K
  exact ⟨h', r, j_aload_n dX12_keeps_68 rfl rfl <| j_getf dX12_keeps_69 kf_X12_57 o1 g1_20 <| j_iload_n dX12_keeps_72 rfl rfl <| j_dup2 dX12_keeps_73 rfl rfl <| j_iald dX12_keeps_74 o2 y3 <| j_iconst (v := 1) dX12_keeps_75 (by decide) <| j_iadd dX12_keeps_76 <| j_iast dX12_keeps_77 o2 y3 <| (j_pick [0, 2, 3] rfl K), q⟩
theorem bX12_keeps_78 {h0 h : k_H} {Q : k_H → k_R → Prop} {x0 : Nat} {x2 : Int32} {x3 : Int64} (K1 : 6 ≤ x2 → k_X (jX12_keeps G l h0) h 91 [] [] Q) (K2 : ¬ (6 ≤ x2) → k_X (jX12_keeps G l h0) h 84 [(0, vR (some x0)), (3, vJ x3)] [] Q) : k_X (jX12_keeps G l h0) h 78 [(0, vR (some x0)), (2, vI x2), (3, vJ x3)] [] Q := by
  by_cases hc : 6 ≤ x2
  · skip
    obtain ⟨h', r, K, q⟩ := K1 hc
    exact ⟨h', r, j_iload_n dX12_keeps_78 rfl rfl <| j_bipush (v := 6) dX12_keeps_79 (by decide) <| j_icmp_ge_t (tgt := 91) dX12_keeps_81 (by decide) hc (j_pick [] rfl K), q⟩
  · skip
    obtain ⟨h', r, K, q⟩ := K2 hc
    exact ⟨h', r, j_iload_n dX12_keeps_78 rfl rfl <| j_bipush (v := 6) dX12_keeps_79 (by decide) <| j_icmp_ge_f dX12_keeps_81 91 (by decide) hc (j_pick [0, 2] rfl K), q⟩
theorem bX12_keeps_84 {h0 h : k_H} {Q : k_H → k_R → Prop} {x0 : Nat} {x3 : Int64} (w : k_is h x0 15) {P : k_H → Int32 → Prop} (c : k_cti (tX12_name G l) [vR (some x0), vJ x3] h P) (K : ∀ h1 v, P h1 v → k_X (jX12_keeps G l h0) h1 89 [] [vI v] Q) : k_X (jX12_keeps G l h0) h 84 [(0, vR (some x0)), (3, vJ x3)] [] Q := by
  obtain ⟨h1, v, c, p⟩ := c
  obtain ⟨h', r, K, q⟩ := K h1 v p
  exact ⟨h', r, j_aload_n dX12_keeps_84 rfl rfl <| j_lload_n dX12_keeps_85 rfl rfl <| j_callV (v := some (vI v)) (as := [vJ x3]) dX12_keeps_86 kc_X12_186 rfl rfl w (by decide) (Nat.le_of_ble_eq_true rfl) c (j_pick [] rfl K), q⟩
theorem bX12_keeps_89 {h0 h : k_H} {Q : k_H → k_R → Prop} {s0 : Int32} (K : k_X (jX12_keeps G l h0) h 91 [] [] Q) : k_X (jX12_keeps G l h0) h 89 [] [vI s0] Q := by
  obtain ⟨h', r, K, q⟩ := K
  exact ⟨h', r, j_istore dX12_keeps_89 (by decide) rfl <| (j_pick [] rfl K), q⟩
theorem bX12_keeps_91 {h0 h : k_H} {Q : k_H → k_R → Prop} (q : Q h (.inl none)) : k_X (jX12_keeps G l h0) h 91 [] [] Q := by
  exact ⟨_, _, j_vret dX12_keeps_91 rfl, q⟩
theorem eX12_isShut {G : k_G} {l : Launch} (hfl : l.flags = flags0) {h : k_H} {Q : k_H → k_R → Prop} {x0 : Nat} {x1 : Int32} (K : k_X (jX12_isShut G l h) h 0 [(0, vR (some x0)), (1, vI x1)] [] Q) : k_ct (tX12_isShut G l) [vR (some x0), vI x1] h Q := by
  obtain ⟨h', r, K, q⟩ := K
  exact ⟨h', r, k_CtOf (by decide +kernel) (Nat.le_of_ble_eq_true rfl) K hfl, q⟩

theorem bX12_isShut_0 {h0 h : k_H} {Q : k_H → k_R → Prop} {x0 f1_14 : Nat} {x1 : Int32} {fs1 : List k_V} (o1 : h.1 x0 = some (k_o 15 fs1)) (g1_14 : fs1[14]? = some (vR (some f1_14))) {n2 : Nat} {w2 : Nat → Int32} (o2 : h.1 f1_14 = some (k_z n2 w2)) (y3 : vp_in x1 n2) (K1 : (w2 (x1).toNatClampNeg) = 0 → k_X (jX12_isShut G l h0) h 20 [] [] Q) (K2 : ¬ ((w2 (x1).toNatClampNeg) = 0) → k_X (jX12_isShut G l h0) h 9 [(0, vR (some x0)), (1, vI x1)] [] Q) : k_X (jX12_isShut G l h0) h 0 [(0, vR (some x0)), (1, vI x1)] [] Q := by
  by_cases hc : (w2 (x1).toNatClampNeg) = 0
  · skip
    obtain ⟨h', r, K, q⟩ := K1 hc
    exact ⟨h', r, j_aload_n dX12_isShut_0 rfl rfl <| j_getf dX12_isShut_1 kf_X12_42 o1 g1_14 <| j_iload_n dX12_isShut_4 rfl rfl <| j_zald dX12_isShut_5 o2 y3 <| j_if_eq_t (tgt := 20) dX12_isShut_6 (by decide) hc (j_pick [] rfl K), q⟩
  · skip
    obtain ⟨h', r, K, q⟩ := K2 hc
    exact ⟨h', r, j_aload_n dX12_isShut_0 rfl rfl <| j_getf dX12_isShut_1 kf_X12_42 o1 g1_14 <| j_iload_n dX12_isShut_4 rfl rfl <| j_zald dX12_isShut_5 o2 y3 <| j_if_eq_f dX12_isShut_6 20 (by decide) hc K, q⟩
theorem bX12_isShut_9 {h0 h : k_H} {Q : k_H → k_R → Prop} {x0 f1_20 : Nat} {x1 : Int32} {fs1 : List k_V} (o1 : h.1 x0 = some (k_o 15 fs1)) (g1_20 : fs1[20]? = some (vR (some f1_20))) {n2 : Nat} {w2 : Nat → Int32} (o2 : h.1 f1_20 = some (k_i n2 w2)) (y3 : vp_in x1 n2) (K1 : (w2 (x1).toNatClampNeg) < 12 → k_X (jX12_isShut G l h0) h 24 [] [] Q) (K2 : ¬ ((w2 (x1).toNatClampNeg) < 12) → k_X (jX12_isShut G l h0) h 20 [] [] Q) : k_X (jX12_isShut G l h0) h 9 [(0, vR (some x0)), (1, vI x1)] [] Q := by
  by_cases hc : (w2 (x1).toNatClampNeg) < 12
  · skip
    obtain ⟨h', r, K, q⟩ := K1 hc
    exact ⟨h', r, j_aload_n dX12_isShut_9 rfl rfl <| j_getf dX12_isShut_10 kf_X12_57 o1 g1_20 <| j_iload_n dX12_isShut_13 rfl rfl <| j_iald dX12_isShut_14 o2 y3 <| j_bipush (v := 12) dX12_isShut_15 (by decide) <| j_icmp_lt_t (tgt := 24) dX12_isShut_17 (by decide) hc (j_pick [] rfl K), q⟩
  · skip
    obtain ⟨h', r, K, q⟩ := K2 hc
    exact ⟨h', r, j_aload_n dX12_isShut_9 rfl rfl <| j_getf dX12_isShut_10 kf_X12_57 o1 g1_20 <| j_iload_n dX12_isShut_13 rfl rfl <| j_iald dX12_isShut_14 o2 y3 <| j_bipush (v := 12) dX12_isShut_15 (by decide) <| j_icmp_lt_f dX12_isShut_17 24 (by decide) hc (j_pick [] rfl K), q⟩
theorem bX12_isShut_20 {h0 h : k_H} {Q : k_H → k_R → Prop} (K : k_X (jX12_isShut G l h0) h 25 [] [vI 1] Q) : k_X (jX12_isShut G l h0) h 20 [] [] Q := by
  obtain ⟨h', r, K, q⟩ := K
  exact ⟨h', r, j_iconst (v := 1) dX12_isShut_20 (by decide) <| j_goto (tgt := 25) dX12_isShut_21 (by decide) <| K, q⟩
theorem bX12_isShut_24 {h0 h : k_H} {Q : k_H → k_R → Prop} (K : k_X (jX12_isShut G l h0) h 25 [] [vI 0] Q) : k_X (jX12_isShut G l h0) h 24 [] [] Q := by
  obtain ⟨h', r, K, q⟩ := K
  exact ⟨h', r, j_iconst (v := 0) dX12_isShut_24 (by decide) <| K, q⟩
theorem bX12_isShut_25 {h0 h : k_H} {Q : k_H → k_R → Prop} {s0 : Int32} (y1 : k_bl s0) (q : Q h (.inl (some (vI s0)))) : k_X (jX12_isShut G l h0) h 25 [] [vI s0] Q := by
  exact ⟨_, _, j_zret dX12_isShut_25 rfl y1, q⟩
theorem eX12_change {G : k_G} {l : Launch} (hfl : l.flags = flags0) {h : k_H} {Q : k_H → k_R → Prop} {x0 : Nat} {x1 : Int32} {x2 : Int32} {x3 : Int32} {x4 : Int32} {x5 : Int32} {x6 : Int32} (K : k_X (jX12_change G l h) h 0 [(0, vR (some x0)), (1, vI x1), (2, vI x2), (3, vI x3), (4, vI x4), (5, vI x5), (6, vI x6)] [] Q) : k_ct (tX12_change G l) [vR (some x0), vI x1, vI x2, vI x3, vI x4, vI x5, vI x6] h Q := by
  obtain ⟨h', r, K, q⟩ := K
  exact ⟨h', r, k_CtOf (by decide +kernel) (Nat.le_of_ble_eq_true rfl) K hfl, q⟩

theorem bX12_change_0 {h0 h : k_H} {Q : k_H → k_R → Prop} {x0 : Nat} {x1 x2 x3 x4 x5 x6 : Int32} (K1 : x2 = 1 → k_X (jX12_change G l h0) h 10 [(0, vR (some x0)), (1, vI x1), (2, vI x2), (3, vI x3), (4, vI x4), (5, vI x5), (6, vI x6)] [] Q) (K2 : ¬ (x2 = 1) → k_X (jX12_change G l h0) h 5 [(0, vR (some x0)), (1, vI x1), (2, vI x2), (3, vI x3), (4, vI x4), (5, vI x5), (6, vI x6)] [] Q) : k_X (jX12_change G l h0) h 0 [(0, vR (some x0)), (1, vI x1), (2, vI x2), (3, vI x3), (4, vI x4), (5, vI x5), (6, vI x6)] [] Q := by
  by_cases hc : x2 = 1
  · skip
    obtain ⟨h', r, K, q⟩ := K1 hc
    exact ⟨h', r, j_iload_n dX12_change_0 rfl rfl <| j_iconst (v := 1) dX12_change_1 (by decide) <| j_icmp_eq_t (tgt := 10) dX12_change_2 (by decide) hc K, q⟩
  · skip
    obtain ⟨h', r, K, q⟩ := K2 hc
    exact ⟨h', r, j_iload_n dX12_change_0 rfl rfl <| j_iconst (v := 1) dX12_change_1 (by decide) <| j_icmp_eq_f dX12_change_2 10 (by decide) hc K, q⟩
theorem bX12_change_5 {h0 h : k_H} {Q : k_H → k_R → Prop} {x0 : Nat} {x1 x2 x3 x4 x5 x6 : Int32} (K1 : ¬ (x2 = 5) → k_X (jX12_change G l h0) h 14 [(0, vR (some x0)), (1, vI x1), (2, vI x2), (3, vI x3), (4, vI x4), (5, vI x5), (6, vI x6)] [] Q) (K2 : x2 = 5 → k_X (jX12_change G l h0) h 10 [(0, vR (some x0)), (1, vI x1), (2, vI x2), (3, vI x3), (4, vI x4), (5, vI x5), (6, vI x6)] [] Q) : k_X (jX12_change G l h0) h 5 [(0, vR (some x0)), (1, vI x1), (2, vI x2), (3, vI x3), (4, vI x4), (5, vI x5), (6, vI x6)] [] Q := by
  by_cases hc : x2 = 5
  · skip
    obtain ⟨h', r, K, q⟩ := K2 hc
    exact ⟨h', r, j_iload_n dX12_change_5 rfl rfl <| j_iconst (v := 5) dX12_change_6 (by decide) <| j_icmp_ne_f dX12_change_7 14 (by decide) hc K, q⟩
  · skip
    obtain ⟨h', r, K, q⟩ := K1 hc
    exact ⟨h', r, j_iload_n dX12_change_5 rfl rfl <| j_iconst (v := 5) dX12_change_6 (by decide) <| j_icmp_ne_t (tgt := 14) dX12_change_7 (by decide) hc K, q⟩
theorem bX12_change_10 {h0 h : k_H} {Q : k_H → k_R → Prop} {x0 : Nat} {x1 x2 x3 x4 x5 x6 : Int32} (K : k_X (jX12_change G l h0) h 15 [(0, vR (some x0)), (1, vI x1), (2, vI x2), (3, vI x3), (4, vI x4), (5, vI x5), (6, vI x6)] [vI 1] Q) : k_X (jX12_change G l h0) h 10 [(0, vR (some x0)), (1, vI x1), (2, vI x2), (3, vI x3), (4, vI x4), (5, vI x5), (6, vI x6)] [] Q := by
  obtain ⟨h', r, K, q⟩ := K
  exact ⟨h', r, j_iconst (v := 1) dX12_change_10 (by decide) <| j_goto (tgt := 15) dX12_change_11 (by decide) <| K, q⟩
theorem bX12_change_14 {h0 h : k_H} {Q : k_H → k_R → Prop} {x0 : Nat} {x1 x2 x3 x4 x5 x6 : Int32} (K : k_X (jX12_change G l h0) h 15 [(0, vR (some x0)), (1, vI x1), (2, vI x2), (3, vI x3), (4, vI x4), (5, vI x5), (6, vI x6)] [vI 0] Q) : k_X (jX12_change G l h0) h 14 [(0, vR (some x0)), (1, vI x1), (2, vI x2), (3, vI x3), (4, vI x4), (5, vI x5), (6, vI x6)] [] Q := by
  obtain ⟨h', r, K, q⟩ := K
  exact ⟨h', r, j_iconst (v := 0) dX12_change_14 (by decide) <| K, q⟩
theorem bX12_change_15 {h0 h : k_H} {Q : k_H → k_R → Prop} {x0 : Nat} {x1 x2 x3 x4 x5 x6 s0 : Int32} {P : k_H → Int32 → Prop} (c : k_cti (tX12_isIn G l) [vI x2, vI 0, vI 6] h P) (K : ∀ h1 v, P h1 v → k_X (jX12_change G l h0) h1 24 [(0, vR (some x0)), (1, vI x1), (2, vI x2), (3, vI x3), (4, vI x4), (5, vI x5), (6, vI x6), (7, vI s0)] [vI v] Q) : k_X (jX12_change G l h0) h 15 [(0, vR (some x0)), (1, vI x1), (2, vI x2), (3, vI x3), (4, vI x4), (5, vI x5), (6, vI x6)] [vI s0] Q := by
  obtain ⟨h1, v, c, p⟩ := c
  obtain ⟨h', r, K, q⟩ := K h1 v p
  exact ⟨h', r, j_istore dX12_change_15 (by decide) rfl <| j_iload_n dX12_change_17 rfl rfl <| j_iconst (v := 0) dX12_change_18 (by decide) <| j_bipush (v := 6) dX12_change_19 (by decide) <| j_callS (v := some (vI v)) (as := [vI x2, vI 0, vI 6]) dX12_change_21 kc_X12_137 rfl rfl (by decide) (Nat.le_of_ble_eq_true rfl) c K, q⟩
theorem bX12_change_24 {h0 h : k_H} {Q : k_H → k_R → Prop} {x0 : Nat} {x1 x2 x3 x4 x5 x6 x7 s0 : Int32} (K1 : s0 = 0 → k_X (jX12_change G l h0) h 71 [(0, vR (some x0)), (1, vI x1), (2, vI x2), (3, vI x3), (4, vI x4), (5, vI x5), (6, vI x6), (7, vI x7)] [] Q) (K2 : ¬ (s0 = 0) → k_X (jX12_change G l h0) h 27 [(0, vR (some x0)), (1, vI x1), (2, vI x2), (3, vI x3), (4, vI x4), (5, vI x5), (6, vI x6), (7, vI x7)] [] Q) : k_X (jX12_change G l h0) h 24 [(0, vR (some x0)), (1, vI x1), (2, vI x2), (3, vI x3), (4, vI x4), (5, vI x5), (6, vI x6), (7, vI x7)] [vI s0] Q := by
  by_cases hc : s0 = 0
  · skip
    obtain ⟨h', r, K, q⟩ := K1 hc
    exact ⟨h', r, j_if_eq_t (tgt := 71) dX12_change_24 (by decide) hc K, q⟩
  · skip
    obtain ⟨h', r, K, q⟩ := K2 hc
    exact ⟨h', r, j_if_eq_f dX12_change_24 71 (by decide) hc K, q⟩
theorem bX12_change_27 {h0 h : k_H} {Q : k_H → k_R → Prop} {x0 : Nat} {x1 x2 x3 x4 x5 x6 x7 : Int32} (K1 : ¬ (x7 = 0) → k_X (jX12_change G l h0) h 46 [(0, vR (some x0)), (1, vI x1), (2, vI x2), (3, vI x3), (4, vI x4), (5, vI x5), (6, vI x6), (7, vI x7)] [] Q) (K2 : x7 = 0 → k_X (jX12_change G l h0) h 32 [(0, vR (some x0)), (1, vI x1), (2, vI x2), (3, vI x3), (4, vI x4), (5, vI x5), (6, vI x6), (7, vI x7)] [] Q) : k_X (jX12_change G l h0) h 27 [(0, vR (some x0)), (1, vI x1), (2, vI x2), (3, vI x3), (4, vI x4), (5, vI x5), (6, vI x6), (7, vI x7)] [] Q := by
  by_cases hc : x7 = 0
  · skip
    obtain ⟨h', r, K, q⟩ := K2 hc
    exact ⟨h', r, j_iload dX12_change_27 rfl <| j_if_ne_f dX12_change_29 46 (by decide) hc K, q⟩
  · skip
    obtain ⟨h', r, K, q⟩ := K1 hc
    exact ⟨h', r, j_iload dX12_change_27 rfl <| j_if_ne_t (tgt := 46) dX12_change_29 (by decide) hc K, q⟩
theorem bX12_change_32 {h0 h : k_H} {Q : k_H → k_R → Prop} {x0 : Nat} {x1 x2 x3 x4 x5 x6 x7 : Int32} {P : k_H → Int32 → Prop} (c : k_cti (tX12_isIn G l) [vI x6, vI (-1000000), vI 1000000] h P) (K : ∀ h1 v, P h1 v → k_X (jX12_change G l h0) h1 43 [(0, vR (some x0)), (1, vI x1), (2, vI x2), (3, vI x3), (4, vI x4), (5, vI x5), (6, vI x6), (7, vI x7)] [vI v] Q) : k_X (jX12_change G l h0) h 32 [(0, vR (some x0)), (1, vI x1), (2, vI x2), (3, vI x3), (4, vI x4), (5, vI x5), (6, vI x6), (7, vI x7)] [] Q := by
  obtain ⟨h1, v, c, p⟩ := c
  obtain ⟨h', r, K, q⟩ := K h1 v p
  exact ⟨h', r, j_iload dX12_change_32 rfl <| j_ldcw (v := (-1000000)) dX12_change_34 ki_X12_299 <| j_ldcw (v := 1000000) dX12_change_37 ki_X12_300 <| j_callS (v := some (vI v)) (as := [vI x6, vI (-1000000), vI 1000000]) dX12_change_40 kc_X12_137 rfl rfl (by decide) (Nat.le_of_ble_eq_true rfl) c K, q⟩
theorem bX12_change_43 {h0 h : k_H} {Q : k_H → k_R → Prop} {x0 : Nat} {x1 x2 x3 x4 x5 x6 x7 s0 : Int32} (K1 : s0 = 0 → k_X (jX12_change G l h0) h 71 [(0, vR (some x0)), (1, vI x1), (2, vI x2), (3, vI x3), (4, vI x4), (5, vI x5), (6, vI x6), (7, vI x7)] [] Q) (K2 : ¬ (s0 = 0) → k_X (jX12_change G l h0) h 46 [(0, vR (some x0)), (1, vI x1), (2, vI x2), (3, vI x3), (4, vI x4), (5, vI x5), (6, vI x6), (7, vI x7)] [] Q) : k_X (jX12_change G l h0) h 43 [(0, vR (some x0)), (1, vI x1), (2, vI x2), (3, vI x3), (4, vI x4), (5, vI x5), (6, vI x6), (7, vI x7)] [vI s0] Q := by
  by_cases hc : s0 = 0
  · skip
    obtain ⟨h', r, K, q⟩ := K1 hc
    exact ⟨h', r, j_if_eq_t (tgt := 71) dX12_change_43 (by decide) hc K, q⟩
  · skip
    obtain ⟨h', r, K, q⟩ := K2 hc
    exact ⟨h', r, j_if_eq_f dX12_change_43 71 (by decide) hc K, q⟩
theorem bX12_change_46 {h0 h : k_H} {Q : k_H → k_R → Prop} {x0 : Nat} {x1 x2 x3 x4 x5 x6 x7 : Int32} {P : k_H → Int32 → Prop} (c : k_cti (tX12_isKey G l) [vI x3, vI x4, vI x5] h P) (K : ∀ h1 v, P h1 v → k_X (jX12_change G l h0) h1 54 [(0, vR (some x0)), (1, vI x1), (2, vI x2), (3, vI x3), (4, vI x4), (5, vI x5), (6, vI x6), (7, vI x7)] [vI v] Q) : k_X (jX12_change G l h0) h 46 [(0, vR (some x0)), (1, vI x1), (2, vI x2), (3, vI x3), (4, vI x4), (5, vI x5), (6, vI x6), (7, vI x7)] [] Q := by
  obtain ⟨h1, v, c, p⟩ := c
  obtain ⟨h', r, K, q⟩ := K h1 v p
  exact ⟨h', r, j_iload_n dX12_change_46 rfl rfl <| j_iload dX12_change_47 rfl <| j_iload dX12_change_49 rfl <| j_callS (v := some (vI v)) (as := [vI x3, vI x4, vI x5]) dX12_change_51 kc_X12_275 rfl rfl (by decide) (Nat.le_of_ble_eq_true rfl) c K, q⟩
theorem bX12_change_54 {h0 h : k_H} {Q : k_H → k_R → Prop} {x0 : Nat} {x1 x2 x3 x4 x5 x6 x7 s0 : Int32} (K1 : s0 = 0 → k_X (jX12_change G l h0) h 71 [(0, vR (some x0)), (1, vI x1), (2, vI x2), (3, vI x3), (4, vI x4), (5, vI x5), (6, vI x6), (7, vI x7)] [] Q) (K2 : ¬ (s0 = 0) → k_X (jX12_change G l h0) h 57 [(0, vR (some x0)), (1, vI x1), (2, vI x2), (3, vI x3), (4, vI x4), (5, vI x5), (6, vI x6), (7, vI x7)] [] Q) : k_X (jX12_change G l h0) h 54 [(0, vR (some x0)), (1, vI x1), (2, vI x2), (3, vI x3), (4, vI x4), (5, vI x5), (6, vI x6), (7, vI x7)] [vI s0] Q := by
  by_cases hc : s0 = 0
  · skip
    obtain ⟨h', r, K, q⟩ := K1 hc
    exact ⟨h', r, j_if_eq_t (tgt := 71) dX12_change_54 (by decide) hc K, q⟩
  · skip
    obtain ⟨h', r, K, q⟩ := K2 hc
    exact ⟨h', r, j_if_eq_f dX12_change_54 71 (by decide) hc K, q⟩
theorem bX12_change_57 {h0 h : k_H} {Q : k_H → k_R → Prop} {x0 : Nat} {x1 x2 x3 x4 x5 x6 x7 : Int32} {P : k_H → Int32 → Prop} (c : k_cti (tX12_isIn G l) [vI x3, vI (-7), vI (-1)] h P) (K : ∀ h1 v, P h1 v → k_X (jX12_change G l h0) h1 64 [(0, vR (some x0)), (1, vI x1), (2, vI x2), (3, vI x3), (4, vI x4), (5, vI x5), (6, vI x6), (7, vI x7)] [vI v] Q) : k_X (jX12_change G l h0) h 57 [(0, vR (some x0)), (1, vI x1), (2, vI x2), (3, vI x3), (4, vI x4), (5, vI x5), (6, vI x6), (7, vI x7)] [] Q := by
  obtain ⟨h1, v, c, p⟩ := c
  obtain ⟨h', r, K, q⟩ := K h1 v p
  exact ⟨h', r, j_iload_n dX12_change_57 rfl rfl <| j_bipush (v := (-7)) dX12_change_58 (by decide) <| j_iconst (v := (-1)) dX12_change_60 (by decide) <| j_callS (v := some (vI v)) (as := [vI x3, vI (-7), vI (-1)]) dX12_change_61 kc_X12_137 rfl rfl (by decide) (Nat.le_of_ble_eq_true rfl) c K, q⟩
theorem bX12_change_64 {h0 h : k_H} {Q : k_H → k_R → Prop} {x0 : Nat} {x1 x2 x3 x4 x5 x6 x7 s0 : Int32} (K1 : ¬ (s0 = 0) → k_X (jX12_change G l h0) h 71 [(0, vR (some x0)), (1, vI x1), (2, vI x2), (3, vI x3), (4, vI x4), (5, vI x5), (6, vI x6), (7, vI x7)] [] Q) (K2 : s0 = 0 → k_X (jX12_change G l h0) h 67 [(0, vR (some x0)), (1, vI x1), (2, vI x2), (3, vI x3), (4, vI x4), (5, vI x5), (6, vI x6), (7, vI x7)] [] Q) : k_X (jX12_change G l h0) h 64 [(0, vR (some x0)), (1, vI x1), (2, vI x2), (3, vI x3), (4, vI x4), (5, vI x5), (6, vI x6), (7, vI x7)] [vI s0] Q := by
  by_cases hc : s0 = 0
  · skip
    obtain ⟨h', r, K, q⟩ := K2 hc
    exact ⟨h', r, j_if_ne_f dX12_change_64 71 (by decide) hc K, q⟩
  · skip
    obtain ⟨h', r, K, q⟩ := K1 hc
    exact ⟨h', r, j_if_ne_t (tgt := 71) dX12_change_64 (by decide) hc K, q⟩
theorem bX12_change_67 {h0 h : k_H} {Q : k_H → k_R → Prop} {x0 : Nat} {x1 x2 x3 x4 x5 x6 x7 : Int32} (K : k_X (jX12_change G l h0) h 72 [(0, vR (some x0)), (1, vI x1), (2, vI x2), (3, vI x3), (4, vI x4), (5, vI x5), (6, vI x6), (7, vI x7)] [vI 1] Q) : k_X (jX12_change G l h0) h 67 [(0, vR (some x0)), (1, vI x1), (2, vI x2), (3, vI x3), (4, vI x4), (5, vI x5), (6, vI x6), (7, vI x7)] [] Q := by
  obtain ⟨h', r, K, q⟩ := K
  exact ⟨h', r, j_iconst (v := 1) dX12_change_67 (by decide) <| j_goto (tgt := 72) dX12_change_68 (by decide) <| K, q⟩
theorem bX12_change_71 {h0 h : k_H} {Q : k_H → k_R → Prop} {x0 : Nat} {x1 x2 x3 x4 x5 x6 x7 : Int32} (K : k_X (jX12_change G l h0) h 72 [(0, vR (some x0)), (1, vI x1), (2, vI x2), (3, vI x3), (4, vI x4), (5, vI x5), (6, vI x6), (7, vI x7)] [vI 0] Q) : k_X (jX12_change G l h0) h 71 [(0, vR (some x0)), (1, vI x1), (2, vI x2), (3, vI x3), (4, vI x4), (5, vI x5), (6, vI x6), (7, vI x7)] [] Q := by
  obtain ⟨h', r, K, q⟩ := K
  exact ⟨h', r, j_iconst (v := 0) dX12_change_71 (by decide) <| K, q⟩
theorem bX12_change_72 {h0 h : k_H} {Q : k_H → k_R → Prop} {x0 : Nat} {x1 x2 x3 x4 x5 x6 x7 s0 : Int32} {P : k_H → Int32 → Prop} (c : k_cti (tX12_isTransaction G l) [vI x1] h P) (K : ∀ h1 v, P h1 v → k_X (jX12_change G l h0) h1 79 [(0, vR (some x0)), (1, vI x1), (2, vI x2), (3, vI x3), (4, vI x4), (5, vI x5), (6, vI x6), (7, vI x7), (8, vI s0)] [vI v, vR (some x0)] Q) : k_X (jX12_change G l h0) h 72 [(0, vR (some x0)), (1, vI x1), (2, vI x2), (3, vI x3), (4, vI x4), (5, vI x5), (6, vI x6), (7, vI x7)] [vI s0] Q := by
  obtain ⟨h1, v, c, p⟩ := c
  obtain ⟨h', r, K, q⟩ := K h1 v p
  exact ⟨h', r, j_istore dX12_change_72 (by decide) rfl <| j_aload_n dX12_change_74 rfl rfl <| j_iload_n dX12_change_75 rfl rfl <| j_callS (v := some (vI v)) (as := [vI x1]) dX12_change_76 kc_X12_262 rfl rfl (by decide) (Nat.le_of_ble_eq_true rfl) c K, q⟩
theorem bX12_change_79 {h0 h : k_H} {Q : k_H → k_R → Prop} {x0 : Nat} {x1 x2 x3 x4 x5 x6 x7 x8 s1 : Int32} {s0 : Option Nat} (K1 : ¬ (s1 = 0) → k_X (jX12_change G l h0) h 86 [(0, vR (some x0)), (1, vI x1), (2, vI x2), (3, vI x3), (4, vI x4), (5, vI x5), (6, vI x6), (7, vI x7), (8, vI x8)] [vR s0] Q) (K2 : s1 = 0 → k_X (jX12_change G l h0) h 82 [(0, vR (some x0)), (1, vI x1), (2, vI x2), (3, vI x3), (4, vI x4), (5, vI x5), (6, vI x6), (7, vI x7)] [vR s0] Q) : k_X (jX12_change G l h0) h 79 [(0, vR (some x0)), (1, vI x1), (2, vI x2), (3, vI x3), (4, vI x4), (5, vI x5), (6, vI x6), (7, vI x7), (8, vI x8)] [vI s1, vR s0] Q := by
  by_cases hc : s1 = 0
  · skip
    obtain ⟨h', r, K, q⟩ := K2 hc
    exact ⟨h', r, j_if_ne_f dX12_change_79 86 (by decide) hc (j_pick [0, 1, 2, 3, 4, 5, 6, 7] rfl K), q⟩
  · skip
    obtain ⟨h', r, K, q⟩ := K1 hc
    exact ⟨h', r, j_if_ne_t (tgt := 86) dX12_change_79 (by decide) hc K, q⟩
theorem bX12_change_82 {h0 h : k_H} {Q : k_H → k_R → Prop} {x0 : Nat} {x1 x2 x3 x4 x5 x6 x7 : Int32} {s0 : Option Nat} (K : k_X (jX12_change G l h0) h 108 [(0, vR (some x0)), (1, vI x1), (2, vI x2), (3, vI x3), (4, vI x4), (5, vI x5), (6, vI x6), (7, vI x7)] [vI 1, vR s0] Q) : k_X (jX12_change G l h0) h 82 [(0, vR (some x0)), (1, vI x1), (2, vI x2), (3, vI x3), (4, vI x4), (5, vI x5), (6, vI x6), (7, vI x7)] [vR s0] Q := by
  obtain ⟨h', r, K, q⟩ := K
  exact ⟨h', r, j_iconst (v := 1) dX12_change_82 (by decide) <| j_goto (tgt := 108) dX12_change_83 (by decide) <| K, q⟩
theorem bX12_change_86 {h0 h : k_H} {Q : k_H → k_R → Prop} {x0 : Nat} {x1 x2 x3 x4 x5 x6 x7 x8 : Int32} {s0 : Option Nat} (K1 : ¬ (x8 = 0) → k_X (jX12_change G l h0) h 95 [(0, vR (some x0)), (1, vI x1), (2, vI x2), (3, vI x3), (4, vI x4), (5, vI x5), (6, vI x6), (7, vI x7)] [vR s0] Q) (K2 : x8 = 0 → k_X (jX12_change G l h0) h 91 [(0, vR (some x0)), (1, vI x1), (2, vI x2), (3, vI x3), (4, vI x4), (5, vI x5), (6, vI x6), (7, vI x7)] [vR s0] Q) : k_X (jX12_change G l h0) h 86 [(0, vR (some x0)), (1, vI x1), (2, vI x2), (3, vI x3), (4, vI x4), (5, vI x5), (6, vI x6), (7, vI x7), (8, vI x8)] [vR s0] Q := by
  by_cases hc : x8 = 0
  · skip
    obtain ⟨h', r, K, q⟩ := K2 hc
    exact ⟨h', r, j_iload dX12_change_86 rfl <| j_if_ne_f dX12_change_88 95 (by decide) hc (j_pick [0, 1, 2, 3, 4, 5, 6, 7] rfl K), q⟩
  · skip
    obtain ⟨h', r, K, q⟩ := K1 hc
    exact ⟨h', r, j_iload dX12_change_86 rfl <| j_if_ne_t (tgt := 95) dX12_change_88 (by decide) hc (j_pick [0, 1, 2, 3, 4, 5, 6, 7] rfl K), q⟩
theorem bX12_change_91 {h0 h : k_H} {Q : k_H → k_R → Prop} {x0 : Nat} {x1 x2 x3 x4 x5 x6 x7 : Int32} {s0 : Option Nat} (K : k_X (jX12_change G l h0) h 108 [(0, vR (some x0)), (1, vI x1), (2, vI x2), (3, vI x3), (4, vI x4), (5, vI x5), (6, vI x6), (7, vI x7)] [vI 2, vR s0] Q) : k_X (jX12_change G l h0) h 91 [(0, vR (some x0)), (1, vI x1), (2, vI x2), (3, vI x3), (4, vI x4), (5, vI x5), (6, vI x6), (7, vI x7)] [vR s0] Q := by
  obtain ⟨h', r, K, q⟩ := K
  exact ⟨h', r, j_iconst (v := 2) dX12_change_91 (by decide) <| j_goto (tgt := 108) dX12_change_92 (by decide) <| K, q⟩
theorem bX12_change_95 {h0 h : k_H} {Q : k_H → k_R → Prop} {x0 : Nat} {x1 x2 x3 x4 x5 x6 x7 : Int32} {s0 : Option Nat} (w : k_is h x0 15) {P : k_H → Int32 → Prop} (c : k_cti (tX12_isShut G l) [vR (some x0), vI x1] h P) (K : ∀ h1 v, P h1 v → k_X (jX12_change G l h0) h1 100 [(0, vR (some x0)), (1, vI x1), (2, vI x2), (3, vI x3), (4, vI x4), (5, vI x5), (6, vI x6), (7, vI x7)] [vI v, vR s0] Q) : k_X (jX12_change G l h0) h 95 [(0, vR (some x0)), (1, vI x1), (2, vI x2), (3, vI x3), (4, vI x4), (5, vI x5), (6, vI x6), (7, vI x7)] [vR s0] Q := by
  obtain ⟨h1, v, c, p⟩ := c
  obtain ⟨h', r, K, q⟩ := K h1 v p
  exact ⟨h', r, j_aload_n dX12_change_95 rfl rfl <| j_iload_n dX12_change_96 rfl rfl <| j_callV (v := some (vI v)) (as := [vI x1]) dX12_change_97 kc_X12_301 rfl rfl w (by decide) (Nat.le_of_ble_eq_true rfl) c K, q⟩
theorem bX12_change_100 {h0 h : k_H} {Q : k_H → k_R → Prop} {x0 : Nat} {x1 x2 x3 x4 x5 x6 x7 s1 : Int32} {s0 : Option Nat} (K1 : s1 = 0 → k_X (jX12_change G l h0) h 107 [(0, vR (some x0)), (1, vI x1), (2, vI x2), (3, vI x3), (4, vI x4), (5, vI x5), (6, vI x6), (7, vI x7)] [vR s0] Q) (K2 : ¬ (s1 = 0) → k_X (jX12_change G l h0) h 103 [(0, vR (some x0)), (1, vI x1), (2, vI x2), (3, vI x3), (4, vI x4), (5, vI x5), (6, vI x6), (7, vI x7)] [vR s0] Q) : k_X (jX12_change G l h0) h 100 [(0, vR (some x0)), (1, vI x1), (2, vI x2), (3, vI x3), (4, vI x4), (5, vI x5), (6, vI x6), (7, vI x7)] [vI s1, vR s0] Q := by
  by_cases hc : s1 = 0
  · skip
    obtain ⟨h', r, K, q⟩ := K1 hc
    exact ⟨h', r, j_if_eq_t (tgt := 107) dX12_change_100 (by decide) hc K, q⟩
  · skip
    obtain ⟨h', r, K, q⟩ := K2 hc
    exact ⟨h', r, j_if_eq_f dX12_change_100 107 (by decide) hc K, q⟩
theorem bX12_change_103 {h0 h : k_H} {Q : k_H → k_R → Prop} {x0 : Nat} {x1 x2 x3 x4 x5 x6 x7 : Int32} {s0 : Option Nat} (K : k_X (jX12_change G l h0) h 108 [(0, vR (some x0)), (1, vI x1), (2, vI x2), (3, vI x3), (4, vI x4), (5, vI x5), (6, vI x6), (7, vI x7)] [vI 3, vR s0] Q) : k_X (jX12_change G l h0) h 103 [(0, vR (some x0)), (1, vI x1), (2, vI x2), (3, vI x3), (4, vI x4), (5, vI x5), (6, vI x6), (7, vI x7)] [vR s0] Q := by
  obtain ⟨h', r, K, q⟩ := K
  exact ⟨h', r, j_iconst (v := 3) dX12_change_103 (by decide) <| j_goto (tgt := 108) dX12_change_104 (by decide) <| K, q⟩
theorem bX12_change_107 {h0 h : k_H} {Q : k_H → k_R → Prop} {x0 : Nat} {x1 x2 x3 x4 x5 x6 x7 : Int32} {s0 : Option Nat} (K : k_X (jX12_change G l h0) h 108 [(0, vR (some x0)), (1, vI x1), (2, vI x2), (3, vI x3), (4, vI x4), (5, vI x5), (6, vI x6), (7, vI x7)] [vI 0, vR s0] Q) : k_X (jX12_change G l h0) h 107 [(0, vR (some x0)), (1, vI x1), (2, vI x2), (3, vI x3), (4, vI x4), (5, vI x5), (6, vI x6), (7, vI x7)] [vR s0] Q := by
  obtain ⟨h', r, K, q⟩ := K
  exact ⟨h', r, j_iconst (v := 0) dX12_change_107 (by decide) <| K, q⟩
theorem bX12_change_108 {h0 h : k_H} {Q : k_H → k_R → Prop} {x0 s0 : Nat} {x1 x2 x3 x4 x5 x6 x7 s1 : Int32} (w : k_is h s0 15) {P : k_H → Int32 → Prop} (c : k_cti (tX12_goes G l) [vR (some s0), vI s1] h P) (K : ∀ h1 v, P h1 v → k_X (jX12_change G l h0) h1 111 [(0, vR (some x0)), (1, vI x1), (2, vI x2), (3, vI x3), (4, vI x4), (5, vI x5), (6, vI x6), (7, vI x7)] [vI v] Q) : k_X (jX12_change G l h0) h 108 [(0, vR (some x0)), (1, vI x1), (2, vI x2), (3, vI x3), (4, vI x4), (5, vI x5), (6, vI x6), (7, vI x7)] [vI s1, vR (some s0)] Q := by
  obtain ⟨h1, v, c, p⟩ := c
  obtain ⟨h', r, K, q⟩ := K h1 v p
  exact ⟨h', r, j_callV (v := some (vI v)) (as := [vI s1]) dX12_change_108 kc_X12_265 rfl rfl w (by decide) (Nat.le_of_ble_eq_true rfl) c K, q⟩
theorem bX12_change_111 {h0 h : k_H} {Q : k_H → k_R → Prop} {x0 : Nat} {x1 x2 x3 x4 x5 x6 x7 s0 : Int32} (K1 : ¬ (s0 = 0) → k_X (jX12_change G l h0) h 116 [(0, vR (some x0)), (1, vI x1), (2, vI x2), (3, vI x3), (4, vI x4), (5, vI x5), (6, vI x6), (7, vI x7)] [] Q) (K2 : s0 = 0 → k_X (jX12_change G l h0) h 114 [] [] Q) : k_X (jX12_change G l h0) h 111 [(0, vR (some x0)), (1, vI x1), (2, vI x2), (3, vI x3), (4, vI x4), (5, vI x5), (6, vI x6), (7, vI x7)] [vI s0] Q := by
  by_cases hc : s0 = 0
  · skip
    obtain ⟨h', r, K, q⟩ := K2 hc
    exact ⟨h', r, j_if_ne_f dX12_change_111 116 (by decide) hc (j_pick [] rfl K), q⟩
  · skip
    obtain ⟨h', r, K, q⟩ := K1 hc
    exact ⟨h', r, j_if_ne_t (tgt := 116) dX12_change_111 (by decide) hc K, q⟩
theorem bX12_change_114 {h0 h : k_H} {Q : k_H → k_R → Prop} (q : Q h (.inl (some (vI 0)))) : k_X (jX12_change G l h0) h 114 [] [] Q := by
  exact ⟨_, _, j_iconst (v := 0) dX12_change_114 (by decide) <| j_iret dX12_change_115 rfl, q⟩
theorem bX12_change_116 {h0 h : k_H} {Q : k_H → k_R → Prop} {x0 : Nat} {x1 x2 x3 x4 x5 x6 x7 : Int32} {P : k_H → Int64 → Prop} (c : k_ctj (tX12_codeOf G l) [vI x3, vI x4, vI x5] h P) (K : ∀ h1 v, P h1 v → k_X (jX12_change G l h0) h1 124 [(0, vR (some x0)), (1, vI x1), (2, vI x2), (6, vI x6), (7, vI x7)] [vJ v] Q) : k_X (jX12_change G l h0) h 116 [(0, vR (some x0)), (1, vI x1), (2, vI x2), (3, vI x3), (4, vI x4), (5, vI x5), (6, vI x6), (7, vI x7)] [] Q := by
  obtain ⟨h1, v, c, p⟩ := c
  obtain ⟨h', r, K, q⟩ := K h1 v p
  exact ⟨h', r, j_iload_n dX12_change_116 rfl rfl <| j_iload dX12_change_117 rfl <| j_iload dX12_change_119 rfl <| j_callS (v := some (vJ v)) (as := [vI x3, vI x4, vI x5]) dX12_change_121 kc_X12_155 rfl rfl (by decide) (Nat.le_of_ble_eq_true rfl) c (j_pick [0, 1, 2, 6, 7] rfl K), q⟩
theorem bX12_change_124 {h0 h : k_H} {Q : k_H → k_R → Prop} {x0 : Nat} {x1 x2 x6 x7 : Int32} {s0 : Int64} (K1 : x7 = 0 → k_X (jX12_change G l h0) h 142 [(0, vR (some x0)), (1, vI x1), (6, vI x6)] [vJ s0, vJ s0, vI x2, vI x1, vR (some x0)] Q) (K2 : ¬ (x7 = 0) → k_X (jX12_change G l h0) h 138 [(0, vR (some x0)), (1, vI x1)] [vJ s0, vJ s0, vI x2, vI x1, vR (some x0)] Q) : k_X (jX12_change G l h0) h 124 [(0, vR (some x0)), (1, vI x1), (2, vI x2), (6, vI x6), (7, vI x7)] [vJ s0] Q := by
  by_cases hc : x7 = 0
  · skip
    obtain ⟨h', r, K, q⟩ := K1 hc
    exact ⟨h', r, j_lstore dX12_change_124 (by decide) rfl <| j_aload_n dX12_change_126 rfl rfl <| j_iload_n dX12_change_127 rfl rfl <| j_iload_n dX12_change_128 rfl rfl <| j_lload dX12_change_129 rfl <| j_lload dX12_change_131 rfl <| j_iload dX12_change_133 rfl <| j_if_eq_t (tgt := 142) dX12_change_135 (by decide) hc (j_pick [0, 1, 3] rfl K), q⟩
  · skip
    obtain ⟨h', r, K, q⟩ := K2 hc
    exact ⟨h', r, j_lstore dX12_change_124 (by decide) rfl <| j_aload_n dX12_change_126 rfl rfl <| j_iload_n dX12_change_127 rfl rfl <| j_iload_n dX12_change_128 rfl rfl <| j_lload dX12_change_129 rfl <| j_lload dX12_change_131 rfl <| j_iload dX12_change_133 rfl <| j_if_eq_f dX12_change_135 142 (by decide) hc (j_pick [0, 1] rfl K), q⟩
theorem bX12_change_138 {h0 h : k_H} {Q : k_H → k_R → Prop} {x0 : Nat} {x1 s1 s2 : Int32} {s0 : Option Nat} {s3 s4 : Int64} (K : k_X (jX12_change G l h0) h 144 [(0, vR (some x0)), (1, vI x1)] [vI 0, vJ s4, vJ s3, vI s2, vI s1, vR s0] Q) : k_X (jX12_change G l h0) h 138 [(0, vR (some x0)), (1, vI x1)] [vJ s4, vJ s3, vI s2, vI s1, vR s0] Q := by
  obtain ⟨h', r, K, q⟩ := K
  exact ⟨h', r, j_iconst (v := 0) dX12_change_138 (by decide) <| j_goto (tgt := 144) dX12_change_139 (by decide) <| K, q⟩
theorem bX12_change_142 {h0 h : k_H} {Q : k_H → k_R → Prop} {x0 : Nat} {x1 x6 s1 s2 : Int32} {s0 : Option Nat} {s3 s4 : Int64} (K : k_X (jX12_change G l h0) h 144 [(0, vR (some x0)), (1, vI x1)] [vI x6, vJ s4, vJ s3, vI s2, vI s1, vR s0] Q) : k_X (jX12_change G l h0) h 142 [(0, vR (some x0)), (1, vI x1), (6, vI x6)] [vJ s4, vJ s3, vI s2, vI s1, vR s0] Q := by
  obtain ⟨h', r, K, q⟩ := K
  exact ⟨h', r, j_iload dX12_change_142 rfl <| (j_pick [0, 1] rfl K), q⟩
theorem bX12_change_144 {h0 h : k_H} {Q : k_H → k_R → Prop} {x0 s0 : Nat} {x1 s1 s2 s5 : Int32} {s3 s4 : Int64} (w : k_is h s0 15) {P : k_H → Prop} (c : k_ctv (tX12_keeps G l) [vR (some s0), vI s1, vI s2, vJ s3, vJ s4, vI s5] h P) (K : ∀ h1, P h1 → k_X (jX12_change G l h0) h1 147 [(0, vR (some x0)), (1, vI x1)] [] Q) : k_X (jX12_change G l h0) h 144 [(0, vR (some x0)), (1, vI x1)] [vI s5, vJ s4, vJ s3, vI s2, vI s1, vR (some s0)] Q := by
  obtain ⟨h1, c, p⟩ := c
  obtain ⟨h', r, K, q⟩ := K h1 p
  exact ⟨h', r, j_callV (v := none) (as := [vI s1, vI s2, vJ s3, vJ s4, vI s5]) dX12_change_144 kc_X12_304 rfl rfl w (by decide) (Nat.le_of_ble_eq_true rfl) c K, q⟩
theorem bX12_change_147 {h0 h : k_H} {Q : k_H → k_R → Prop} {x0 f1_20 : Nat} {x1 : Int32} {fs1 : List k_V} (o1 : h.1 x0 = some (k_o 15 fs1)) (g1_20 : fs1[20]? = some (vR (some f1_20))) {n2 : Nat} {w2 : Nat → Int32} (o2 : h.1 f1_20 = some (k_i n2 w2)) (y3 : vp_in x1 n2) (q : Q h (.inl (some (vI (w2 (x1).toNatClampNeg))))) : k_X (jX12_change G l h0) h 147 [(0, vR (some x0)), (1, vI x1)] [] Q := by
  exact ⟨_, _, j_aload_n dX12_change_147 rfl rfl <| j_getf dX12_change_148 kf_X12_57 o1 g1_20 <| j_iload_n dX12_change_151 rfl rfl <| j_iald dX12_change_152 o2 y3 <| j_iret dX12_change_153 rfl, q⟩
theorem eX12_clear {G : k_G} {l : Launch} (hfl : l.flags = flags0) {h : k_H} {Q : k_H → k_R → Prop} {x0 : Nat} {x1 : Int32} {x2 : Int32} {x3 : Int32} (K : k_X (jX12_clear G l h) h 0 [(0, vR (some x0)), (1, vI x1), (2, vI x2), (3, vI x3)] [] Q) : k_ct (tX12_clear G l) [vR (some x0), vI x1, vI x2, vI x3] h Q := by
  obtain ⟨h', r, K, q⟩ := K
  exact ⟨h', r, k_CtOf (by decide +kernel) (Nat.le_of_ble_eq_true rfl) K hfl, q⟩

theorem bX12_clear_0 {h0 h : k_H} {Q : k_H → k_R → Prop} {x0 : Nat} {x1 x2 x3 : Int32} {P : k_H → Int32 → Prop} (c : k_cti (tX12_isRange G l) [vI x2, vI x3] h P) (K : ∀ h1 v, P h1 v → k_X (jX12_clear G l h0) h1 5 [(0, vR (some x0)), (1, vI x1), (2, vI x2), (3, vI x3)] [vI v] Q) : k_X (jX12_clear G l h0) h 0 [(0, vR (some x0)), (1, vI x1), (2, vI x2), (3, vI x3)] [] Q := by
  obtain ⟨h1, v, c, p⟩ := c
  obtain ⟨h', r, K, q⟩ := K h1 v p
  exact ⟨h', r, j_iload_n dX12_clear_0 rfl rfl <| j_iload_n dX12_clear_1 rfl rfl <| j_callS (v := some (vI v)) (as := [vI x2, vI x3]) dX12_clear_2 kc_X12_282 rfl rfl (by decide) (Nat.le_of_ble_eq_true rfl) c K, q⟩
theorem bX12_clear_5 {h0 h : k_H} {Q : k_H → k_R → Prop} {x0 : Nat} {x1 x2 x3 s0 : Int32} (K1 : s0 = 0 → k_X (jX12_clear G l h0) h 29 [(0, vR (some x0)), (1, vI x1), (2, vI x2), (3, vI x3)] [] Q) (K2 : ¬ (s0 = 0) → k_X (jX12_clear G l h0) h 8 [(0, vR (some x0)), (1, vI x1), (2, vI x2), (3, vI x3)] [] Q) : k_X (jX12_clear G l h0) h 5 [(0, vR (some x0)), (1, vI x1), (2, vI x2), (3, vI x3)] [vI s0] Q := by
  by_cases hc : s0 = 0
  · skip
    obtain ⟨h', r, K, q⟩ := K1 hc
    exact ⟨h', r, j_if_eq_t (tgt := 29) dX12_clear_5 (by decide) hc K, q⟩
  · skip
    obtain ⟨h', r, K, q⟩ := K2 hc
    exact ⟨h', r, j_if_eq_f dX12_clear_5 29 (by decide) hc K, q⟩
theorem bX12_clear_8 {h0 h : k_H} {Q : k_H → k_R → Prop} {x0 : Nat} {x1 x2 x3 : Int32} (K1 : x2 = 10000 → k_X (jX12_clear G l h0) h 29 [(0, vR (some x0)), (1, vI x1), (2, vI x2), (3, vI x3)] [] Q) (K2 : ¬ (x2 = 10000) → k_X (jX12_clear G l h0) h 15 [(0, vR (some x0)), (1, vI x1), (2, vI x2), (3, vI x3)] [] Q) : k_X (jX12_clear G l h0) h 8 [(0, vR (some x0)), (1, vI x1), (2, vI x2), (3, vI x3)] [] Q := by
  by_cases hc : x2 = 10000
  · skip
    obtain ⟨h', r, K, q⟩ := K1 hc
    exact ⟨h', r, j_iload_n dX12_clear_8 rfl rfl <| j_sipush (v := 10000) dX12_clear_9 (by decide) <| j_icmp_eq_t (tgt := 29) dX12_clear_12 (by decide) hc K, q⟩
  · skip
    obtain ⟨h', r, K, q⟩ := K2 hc
    exact ⟨h', r, j_iload_n dX12_clear_8 rfl rfl <| j_sipush (v := 10000) dX12_clear_9 (by decide) <| j_icmp_eq_f dX12_clear_12 29 (by decide) hc K, q⟩
theorem bX12_clear_15 {h0 h : k_H} {Q : k_H → k_R → Prop} {x0 : Nat} {x1 x2 x3 : Int32} {P : k_H → Int32 → Prop} (c : k_cti (tX12_isIn G l) [vI x2, vI (-7), vI (-1)] h P) (K : ∀ h1 v, P h1 v → k_X (jX12_clear G l h0) h1 22 [(0, vR (some x0)), (1, vI x1), (2, vI x2), (3, vI x3)] [vI v] Q) : k_X (jX12_clear G l h0) h 15 [(0, vR (some x0)), (1, vI x1), (2, vI x2), (3, vI x3)] [] Q := by
  obtain ⟨h1, v, c, p⟩ := c
  obtain ⟨h', r, K, q⟩ := K h1 v p
  exact ⟨h', r, j_iload_n dX12_clear_15 rfl rfl <| j_bipush (v := (-7)) dX12_clear_16 (by decide) <| j_iconst (v := (-1)) dX12_clear_18 (by decide) <| j_callS (v := some (vI v)) (as := [vI x2, vI (-7), vI (-1)]) dX12_clear_19 kc_X12_137 rfl rfl (by decide) (Nat.le_of_ble_eq_true rfl) c K, q⟩
theorem bX12_clear_22 {h0 h : k_H} {Q : k_H → k_R → Prop} {x0 : Nat} {x1 x2 x3 s0 : Int32} (K1 : ¬ (s0 = 0) → k_X (jX12_clear G l h0) h 29 [(0, vR (some x0)), (1, vI x1), (2, vI x2), (3, vI x3)] [] Q) (K2 : s0 = 0 → k_X (jX12_clear G l h0) h 25 [(0, vR (some x0)), (1, vI x1), (2, vI x2), (3, vI x3)] [] Q) : k_X (jX12_clear G l h0) h 22 [(0, vR (some x0)), (1, vI x1), (2, vI x2), (3, vI x3)] [vI s0] Q := by
  by_cases hc : s0 = 0
  · skip
    obtain ⟨h', r, K, q⟩ := K2 hc
    exact ⟨h', r, j_if_ne_f dX12_clear_22 29 (by decide) hc K, q⟩
  · skip
    obtain ⟨h', r, K, q⟩ := K1 hc
    exact ⟨h', r, j_if_ne_t (tgt := 29) dX12_clear_22 (by decide) hc K, q⟩
theorem bX12_clear_25 {h0 h : k_H} {Q : k_H → k_R → Prop} {x0 : Nat} {x1 x2 x3 : Int32} (K : k_X (jX12_clear G l h0) h 30 [(0, vR (some x0)), (1, vI x1), (2, vI x2), (3, vI x3)] [vI 1] Q) : k_X (jX12_clear G l h0) h 25 [(0, vR (some x0)), (1, vI x1), (2, vI x2), (3, vI x3)] [] Q := by
  obtain ⟨h', r, K, q⟩ := K
  exact ⟨h', r, j_iconst (v := 1) dX12_clear_25 (by decide) <| j_goto (tgt := 30) dX12_clear_26 (by decide) <| K, q⟩
theorem bX12_clear_29 {h0 h : k_H} {Q : k_H → k_R → Prop} {x0 : Nat} {x1 x2 x3 : Int32} (K : k_X (jX12_clear G l h0) h 30 [(0, vR (some x0)), (1, vI x1), (2, vI x2), (3, vI x3)] [vI 0] Q) : k_X (jX12_clear G l h0) h 29 [(0, vR (some x0)), (1, vI x1), (2, vI x2), (3, vI x3)] [] Q := by
  obtain ⟨h', r, K, q⟩ := K
  exact ⟨h', r, j_iconst (v := 0) dX12_clear_29 (by decide) <| K, q⟩
theorem bX12_clear_30 {h0 h : k_H} {Q : k_H → k_R → Prop} {x0 : Nat} {x1 x2 x3 s0 : Int32} {P : k_H → Int32 → Prop} (c : k_cti (tX12_isTransaction G l) [vI x1] h P) (K : ∀ h1 v, P h1 v → k_X (jX12_clear G l h0) h1 37 [(0, vR (some x0)), (1, vI x1), (2, vI x2), (3, vI x3), (4, vI s0)] [vI v, vR (some x0)] Q) : k_X (jX12_clear G l h0) h 30 [(0, vR (some x0)), (1, vI x1), (2, vI x2), (3, vI x3)] [vI s0] Q := by
  obtain ⟨h1, v, c, p⟩ := c
  obtain ⟨h', r, K, q⟩ := K h1 v p
  exact ⟨h', r, j_istore dX12_clear_30 (by decide) rfl <| j_aload_n dX12_clear_32 rfl rfl <| j_iload_n dX12_clear_33 rfl rfl <| j_callS (v := some (vI v)) (as := [vI x1]) dX12_clear_34 kc_X12_262 rfl rfl (by decide) (Nat.le_of_ble_eq_true rfl) c K, q⟩
theorem bX12_clear_37 {h0 h : k_H} {Q : k_H → k_R → Prop} {x0 : Nat} {x1 x2 x3 x4 s1 : Int32} {s0 : Option Nat} (K1 : ¬ (s1 = 0) → k_X (jX12_clear G l h0) h 44 [(0, vR (some x0)), (1, vI x1), (2, vI x2), (3, vI x3), (4, vI x4)] [vR s0] Q) (K2 : s1 = 0 → k_X (jX12_clear G l h0) h 40 [(0, vR (some x0)), (1, vI x1), (2, vI x2), (3, vI x3)] [vR s0] Q) : k_X (jX12_clear G l h0) h 37 [(0, vR (some x0)), (1, vI x1), (2, vI x2), (3, vI x3), (4, vI x4)] [vI s1, vR s0] Q := by
  by_cases hc : s1 = 0
  · skip
    obtain ⟨h', r, K, q⟩ := K2 hc
    exact ⟨h', r, j_if_ne_f dX12_clear_37 44 (by decide) hc (j_pick [0, 1, 2, 3] rfl K), q⟩
  · skip
    obtain ⟨h', r, K, q⟩ := K1 hc
    exact ⟨h', r, j_if_ne_t (tgt := 44) dX12_clear_37 (by decide) hc K, q⟩
theorem bX12_clear_40 {h0 h : k_H} {Q : k_H → k_R → Prop} {x0 : Nat} {x1 x2 x3 : Int32} {s0 : Option Nat} (K : k_X (jX12_clear G l h0) h 66 [(0, vR (some x0)), (1, vI x1), (2, vI x2), (3, vI x3)] [vI 1, vR s0] Q) : k_X (jX12_clear G l h0) h 40 [(0, vR (some x0)), (1, vI x1), (2, vI x2), (3, vI x3)] [vR s0] Q := by
  obtain ⟨h', r, K, q⟩ := K
  exact ⟨h', r, j_iconst (v := 1) dX12_clear_40 (by decide) <| j_goto (tgt := 66) dX12_clear_41 (by decide) <| K, q⟩
theorem bX12_clear_44 {h0 h : k_H} {Q : k_H → k_R → Prop} {x0 : Nat} {x1 x2 x3 x4 : Int32} {s0 : Option Nat} (K1 : ¬ (x4 = 0) → k_X (jX12_clear G l h0) h 53 [(0, vR (some x0)), (1, vI x1), (2, vI x2), (3, vI x3)] [vR s0] Q) (K2 : x4 = 0 → k_X (jX12_clear G l h0) h 49 [(0, vR (some x0)), (1, vI x1), (2, vI x2), (3, vI x3)] [vR s0] Q) : k_X (jX12_clear G l h0) h 44 [(0, vR (some x0)), (1, vI x1), (2, vI x2), (3, vI x3), (4, vI x4)] [vR s0] Q := by
  by_cases hc : x4 = 0
  · skip
    obtain ⟨h', r, K, q⟩ := K2 hc
    exact ⟨h', r, j_iload dX12_clear_44 rfl <| j_if_ne_f dX12_clear_46 53 (by decide) hc (j_pick [0, 1, 2, 3] rfl K), q⟩
  · skip
    obtain ⟨h', r, K, q⟩ := K1 hc
    exact ⟨h', r, j_iload dX12_clear_44 rfl <| j_if_ne_t (tgt := 53) dX12_clear_46 (by decide) hc (j_pick [0, 1, 2, 3] rfl K), q⟩
theorem bX12_clear_49 {h0 h : k_H} {Q : k_H → k_R → Prop} {x0 : Nat} {x1 x2 x3 : Int32} {s0 : Option Nat} (K : k_X (jX12_clear G l h0) h 66 [(0, vR (some x0)), (1, vI x1), (2, vI x2), (3, vI x3)] [vI 2, vR s0] Q) : k_X (jX12_clear G l h0) h 49 [(0, vR (some x0)), (1, vI x1), (2, vI x2), (3, vI x3)] [vR s0] Q := by
  obtain ⟨h', r, K, q⟩ := K
  exact ⟨h', r, j_iconst (v := 2) dX12_clear_49 (by decide) <| j_goto (tgt := 66) dX12_clear_50 (by decide) <| K, q⟩
theorem bX12_clear_53 {h0 h : k_H} {Q : k_H → k_R → Prop} {x0 : Nat} {x1 x2 x3 : Int32} {s0 : Option Nat} (w : k_is h x0 15) {P : k_H → Int32 → Prop} (c : k_cti (tX12_isShut G l) [vR (some x0), vI x1] h P) (K : ∀ h1 v, P h1 v → k_X (jX12_clear G l h0) h1 58 [(0, vR (some x0)), (1, vI x1), (2, vI x2), (3, vI x3)] [vI v, vR s0] Q) : k_X (jX12_clear G l h0) h 53 [(0, vR (some x0)), (1, vI x1), (2, vI x2), (3, vI x3)] [vR s0] Q := by
  obtain ⟨h1, v, c, p⟩ := c
  obtain ⟨h', r, K, q⟩ := K h1 v p
  exact ⟨h', r, j_aload_n dX12_clear_53 rfl rfl <| j_iload_n dX12_clear_54 rfl rfl <| j_callV (v := some (vI v)) (as := [vI x1]) dX12_clear_55 kc_X12_301 rfl rfl w (by decide) (Nat.le_of_ble_eq_true rfl) c K, q⟩
theorem bX12_clear_58 {h0 h : k_H} {Q : k_H → k_R → Prop} {x0 : Nat} {x1 x2 x3 s1 : Int32} {s0 : Option Nat} (K1 : s1 = 0 → k_X (jX12_clear G l h0) h 65 [(0, vR (some x0)), (1, vI x1), (2, vI x2), (3, vI x3)] [vR s0] Q) (K2 : ¬ (s1 = 0) → k_X (jX12_clear G l h0) h 61 [(0, vR (some x0)), (1, vI x1), (2, vI x2), (3, vI x3)] [vR s0] Q) : k_X (jX12_clear G l h0) h 58 [(0, vR (some x0)), (1, vI x1), (2, vI x2), (3, vI x3)] [vI s1, vR s0] Q := by
  by_cases hc : s1 = 0
  · skip
    obtain ⟨h', r, K, q⟩ := K1 hc
    exact ⟨h', r, j_if_eq_t (tgt := 65) dX12_clear_58 (by decide) hc K, q⟩
  · skip
    obtain ⟨h', r, K, q⟩ := K2 hc
    exact ⟨h', r, j_if_eq_f dX12_clear_58 65 (by decide) hc K, q⟩
theorem bX12_clear_61 {h0 h : k_H} {Q : k_H → k_R → Prop} {x0 : Nat} {x1 x2 x3 : Int32} {s0 : Option Nat} (K : k_X (jX12_clear G l h0) h 66 [(0, vR (some x0)), (1, vI x1), (2, vI x2), (3, vI x3)] [vI 3, vR s0] Q) : k_X (jX12_clear G l h0) h 61 [(0, vR (some x0)), (1, vI x1), (2, vI x2), (3, vI x3)] [vR s0] Q := by
  obtain ⟨h', r, K, q⟩ := K
  exact ⟨h', r, j_iconst (v := 3) dX12_clear_61 (by decide) <| j_goto (tgt := 66) dX12_clear_62 (by decide) <| K, q⟩
theorem bX12_clear_65 {h0 h : k_H} {Q : k_H → k_R → Prop} {x0 : Nat} {x1 x2 x3 : Int32} {s0 : Option Nat} (K : k_X (jX12_clear G l h0) h 66 [(0, vR (some x0)), (1, vI x1), (2, vI x2), (3, vI x3)] [vI 0, vR s0] Q) : k_X (jX12_clear G l h0) h 65 [(0, vR (some x0)), (1, vI x1), (2, vI x2), (3, vI x3)] [vR s0] Q := by
  obtain ⟨h', r, K, q⟩ := K
  exact ⟨h', r, j_iconst (v := 0) dX12_clear_65 (by decide) <| K, q⟩
theorem bX12_clear_66 {h0 h : k_H} {Q : k_H → k_R → Prop} {x0 s0 : Nat} {x1 x2 x3 s1 : Int32} (w : k_is h s0 15) {P : k_H → Int32 → Prop} (c : k_cti (tX12_goes G l) [vR (some s0), vI s1] h P) (K : ∀ h1 v, P h1 v → k_X (jX12_clear G l h0) h1 69 [(0, vR (some x0)), (1, vI x1), (2, vI x2), (3, vI x3)] [vI v] Q) : k_X (jX12_clear G l h0) h 66 [(0, vR (some x0)), (1, vI x1), (2, vI x2), (3, vI x3)] [vI s1, vR (some s0)] Q := by
  obtain ⟨h1, v, c, p⟩ := c
  obtain ⟨h', r, K, q⟩ := K h1 v p
  exact ⟨h', r, j_callV (v := some (vI v)) (as := [vI s1]) dX12_clear_66 kc_X12_265 rfl rfl w (by decide) (Nat.le_of_ble_eq_true rfl) c K, q⟩
theorem bX12_clear_69 {h0 h : k_H} {Q : k_H → k_R → Prop} {x0 : Nat} {x1 x2 x3 s0 : Int32} (K1 : ¬ (s0 = 0) → k_X (jX12_clear G l h0) h 74 [(0, vR (some x0)), (1, vI x1), (2, vI x2), (3, vI x3)] [] Q) (K2 : s0 = 0 → k_X (jX12_clear G l h0) h 72 [] [] Q) : k_X (jX12_clear G l h0) h 69 [(0, vR (some x0)), (1, vI x1), (2, vI x2), (3, vI x3)] [vI s0] Q := by
  by_cases hc : s0 = 0
  · skip
    obtain ⟨h', r, K, q⟩ := K2 hc
    exact ⟨h', r, j_if_ne_f dX12_clear_69 74 (by decide) hc (j_pick [] rfl K), q⟩
  · skip
    obtain ⟨h', r, K, q⟩ := K1 hc
    exact ⟨h', r, j_if_ne_t (tgt := 74) dX12_clear_69 (by decide) hc K, q⟩
theorem bX12_clear_72 {h0 h : k_H} {Q : k_H → k_R → Prop} (q : Q h (.inl (some (vI 0)))) : k_X (jX12_clear G l h0) h 72 [] [] Q := by
  exact ⟨_, _, j_iconst (v := 0) dX12_clear_72 (by decide) <| j_iret dX12_clear_73 rfl, q⟩
theorem bX12_clear_74 {h0 h : k_H} {Q : k_H → k_R → Prop} {x0 : Nat} {x1 x2 x3 : Int32} {P : k_H → Int64 → Prop} (c : k_ctj (tX12_firstOf G l) [vI x2, vI x3] h P) (K : ∀ h1 v, P h1 v → k_X (jX12_clear G l h0) h1 83 [(0, vR (some x0)), (1, vI x1), (2, vI x2), (3, vI x3)] [vJ v, vI 7, vI x1, vR (some x0)] Q) : k_X (jX12_clear G l h0) h 74 [(0, vR (some x0)), (1, vI x1), (2, vI x2), (3, vI x3)] [] Q := by
  obtain ⟨h1, v, c, p⟩ := c
  obtain ⟨h', r, K, q⟩ := K h1 v p
  exact ⟨h', r, j_aload_n dX12_clear_74 rfl rfl <| j_iload_n dX12_clear_75 rfl rfl <| j_bipush (v := 7) dX12_clear_76 (by decide) <| j_iload_n dX12_clear_78 rfl rfl <| j_iload_n dX12_clear_79 rfl rfl <| j_callS (v := some (vJ v)) (as := [vI x2, vI x3]) dX12_clear_80 kc_X12_285 rfl rfl (by decide) (Nat.le_of_ble_eq_true rfl) c K, q⟩
theorem bX12_clear_83 {h0 h : k_H} {Q : k_H → k_R → Prop} {x0 : Nat} {x1 x2 x3 s1 s2 : Int32} {s0 : Option Nat} {s3 : Int64} {P : k_H → Int64 → Prop} (c : k_ctj (tX12_lastOf G l) [vI x2, vI x3] h P) (K : ∀ h1 v, P h1 v → k_X (jX12_clear G l h0) h1 88 [(0, vR (some x0)), (1, vI x1)] [vJ v, vJ s3, vI s2, vI s1, vR s0] Q) : k_X (jX12_clear G l h0) h 83 [(0, vR (some x0)), (1, vI x1), (2, vI x2), (3, vI x3)] [vJ s3, vI s2, vI s1, vR s0] Q := by
  obtain ⟨h1, v, c, p⟩ := c
  obtain ⟨h', r, K, q⟩ := K h1 v p
  exact ⟨h', r, j_iload_n dX12_clear_83 rfl rfl <| j_iload_n dX12_clear_84 rfl rfl <| j_callS (v := some (vJ v)) (as := [vI x2, vI x3]) dX12_clear_85 kc_X12_289 rfl rfl (by decide) (Nat.le_of_ble_eq_true rfl) c (j_pick [0, 1] rfl K), q⟩
theorem bX12_clear_88 {h0 h : k_H} {Q : k_H → k_R → Prop} {x0 s0 : Nat} {x1 s1 s2 : Int32} {s3 s4 : Int64} (w : k_is h s0 15) {P : k_H → Prop} (c : k_ctv (tX12_keeps G l) [vR (some s0), vI s1, vI s2, vJ s3, vJ s4, vI 0] h P) (K : ∀ h1, P h1 → k_X (jX12_clear G l h0) h1 92 [(0, vR (some x0)), (1, vI x1)] [] Q) : k_X (jX12_clear G l h0) h 88 [(0, vR (some x0)), (1, vI x1)] [vJ s4, vJ s3, vI s2, vI s1, vR (some s0)] Q := by
  obtain ⟨h1, c, p⟩ := c
  obtain ⟨h', r, K, q⟩ := K h1 p
  exact ⟨h', r, j_iconst (v := 0) dX12_clear_88 (by decide) <| j_callV (v := none) (as := [vI s1, vI s2, vJ s3, vJ s4, vI 0]) dX12_clear_89 kc_X12_304 rfl rfl w (by decide) (Nat.le_of_ble_eq_true rfl) c K, q⟩
theorem bX12_clear_92 {h0 h : k_H} {Q : k_H → k_R → Prop} {x0 f1_20 : Nat} {x1 : Int32} {fs1 : List k_V} (o1 : h.1 x0 = some (k_o 15 fs1)) (g1_20 : fs1[20]? = some (vR (some f1_20))) {n2 : Nat} {w2 : Nat → Int32} (o2 : h.1 f1_20 = some (k_i n2 w2)) (y3 : vp_in x1 n2) (q : Q h (.inl (some (vI (w2 (x1).toNatClampNeg))))) : k_X (jX12_clear G l h0) h 92 [(0, vR (some x0)), (1, vI x1)] [] Q := by
  exact ⟨_, _, j_aload_n dX12_clear_92 rfl rfl <| j_getf dX12_clear_93 kf_X12_57 o1 g1_20 <| j_iload_n dX12_clear_96 rfl rfl <| j_iald dX12_clear_97 o2 y3 <| j_iret dX12_clear_98 rfl, q⟩
theorem eX12_meets {G : k_G} {l : Launch} (hfl : l.flags = flags0) {h : k_H} {Q : k_H → k_R → Prop} {x0 : Nat} {x1 : Int32} {x2 : Int32} {x3 : Int64} {x5 : Int64} (K : k_X (jX12_meets G l h) h 0 [(0, vR (some x0)), (1, vI x1), (2, vI x2), (3, vJ x3), (5, vJ x5)] [] Q) : k_ct (tX12_meets G l) [vR (some x0), vI x1, vI x2, vJ x3, vJ x5] h Q := by
  obtain ⟨h', r, K, q⟩ := K
  exact ⟨h', r, k_CtOf (by decide +kernel) (Nat.le_of_ble_eq_true rfl) K hfl, q⟩

theorem bX12_meets_0 {h0 h : k_H} {Q : k_H → k_R → Prop} {x0 f1_27 : Nat} {x1 x2 : Int32} {x3 x5 : Int64} {fs1 : List k_V} (o1 : h.1 x0 = some (k_o 15 fs1)) (g1_27 : fs1[27]? = some (vR (some f1_27))) {n2 : Nat} {w2 : Nat → Int64} (o2 : h.1 f1_27 = some (k_j n2 w2)) (y3 : vp_in x2 n2) (K1 : x3 ≤ (w2 (x2).toNatClampNeg) → k_X (jX12_meets G l h0) h 15 [(0, vR (some x0)), (1, vI x1), (2, vI x2), (5, vJ x5)] [] Q) (K2 : ¬ (x3 ≤ (w2 (x2).toNatClampNeg)) → k_X (jX12_meets G l h0) h 11 [(0, vR (some x0)), (1, vI x1), (2, vI x2), (3, vJ x3), (5, vJ x5)] [] Q) : k_X (jX12_meets G l h0) h 0 [(0, vR (some x0)), (1, vI x1), (2, vI x2), (3, vJ x3), (5, vJ x5)] [] Q := by
  by_cases hc : x3 ≤ (w2 (x2).toNatClampNeg)
  · skip
    obtain ⟨h', r, K, q⟩ := K1 hc
    exact ⟨h', r, j_lload_n dX12_meets_0 rfl rfl <| j_aload_n dX12_meets_1 rfl rfl <| j_getf dX12_meets_2 kf_X12_78 o1 g1_27 <| j_iload_n dX12_meets_5 rfl rfl <| j_lald dX12_meets_6 o2 y3 <| j_lcmp dX12_meets_7 <| j_if_le_t (tgt := 15) dX12_meets_8 (by decide) ((lg_cmp_le _ _).mpr hc) (j_pick [0, 1, 2, 4] rfl K), q⟩
  · skip
    obtain ⟨h', r, K, q⟩ := K2 hc
    exact ⟨h', r, j_lload_n dX12_meets_0 rfl rfl <| j_aload_n dX12_meets_1 rfl rfl <| j_getf dX12_meets_2 kf_X12_78 o1 g1_27 <| j_iload_n dX12_meets_5 rfl rfl <| j_lald dX12_meets_6 o2 y3 <| j_lcmp dX12_meets_7 <| j_if_le_f dX12_meets_8 15 (by decide) ((not_congr (lg_cmp_le _ _)).mpr hc) K, q⟩
theorem bX12_meets_11 {h0 h : k_H} {Q : k_H → k_R → Prop} {x0 : Nat} {x1 x2 : Int32} {x3 x5 : Int64} (K : k_X (jX12_meets G l h0) h 21 [(0, vR (some x0)), (1, vI x1), (2, vI x2), (5, vJ x5)] [vJ x3] Q) : k_X (jX12_meets G l h0) h 11 [(0, vR (some x0)), (1, vI x1), (2, vI x2), (3, vJ x3), (5, vJ x5)] [] Q := by
  obtain ⟨h', r, K, q⟩ := K
  exact ⟨h', r, j_lload_n dX12_meets_11 rfl rfl <| j_goto (tgt := 21) dX12_meets_12 (by decide) <| (j_pick [0, 1, 2, 4] rfl K), q⟩
theorem bX12_meets_15 {h0 h : k_H} {Q : k_H → k_R → Prop} {x0 f1_27 : Nat} {x1 x2 : Int32} {x5 : Int64} {fs1 : List k_V} (o1 : h.1 x0 = some (k_o 15 fs1)) (g1_27 : fs1[27]? = some (vR (some f1_27))) {n2 : Nat} {w2 : Nat → Int64} (o2 : h.1 f1_27 = some (k_j n2 w2)) (y3 : vp_in x2 n2) (K : k_X (jX12_meets G l h0) h 21 [(0, vR (some x0)), (1, vI x1), (2, vI x2), (5, vJ x5)] [vJ (w2 (x2).toNatClampNeg)] Q) : k_X (jX12_meets G l h0) h 15 [(0, vR (some x0)), (1, vI x1), (2, vI x2), (5, vJ x5)] [] Q := by
  obtain ⟨h', r, K, q⟩ := K
  exact ⟨h', r, j_aload_n dX12_meets_15 rfl rfl <| j_getf dX12_meets_16 kf_X12_78 o1 g1_27 <| j_iload_n dX12_meets_19 rfl rfl <| j_lald dX12_meets_20 o2 y3 <| K, q⟩
theorem bX12_meets_21 {h0 h : k_H} {Q : k_H → k_R → Prop} {x0 f1_28 : Nat} {x1 x2 : Int32} {x5 s0 : Int64} {fs1 : List k_V} (o1 : h.1 x0 = some (k_o 15 fs1)) (g1_28 : fs1[28]? = some (vR (some f1_28))) {n2 : Nat} {w2 : Nat → Int64} (o2 : h.1 f1_28 = some (k_j n2 w2)) (y3 : vp_in x2 n2) (K1 : (w2 (x2).toNatClampNeg) ≤ x5 → k_X (jX12_meets G l h0) h 40 [(0, vR (some x0)), (1, vI x1), (2, vI x2), (7, vJ s0)] [] Q) (K2 : ¬ ((w2 (x2).toNatClampNeg) ≤ x5) → k_X (jX12_meets G l h0) h 35 [(0, vR (some x0)), (1, vI x1), (2, vI x2), (5, vJ x5), (7, vJ s0)] [] Q) : k_X (jX12_meets G l h0) h 21 [(0, vR (some x0)), (1, vI x1), (2, vI x2), (5, vJ x5)] [vJ s0] Q := by
  by_cases hc : (w2 (x2).toNatClampNeg) ≤ x5
  · skip
    obtain ⟨h', r, K, q⟩ := K1 hc
    exact ⟨h', r, j_lstore dX12_meets_21 (by decide) rfl <| j_lload dX12_meets_23 rfl <| j_aload_n dX12_meets_25 rfl rfl <| j_getf dX12_meets_26 kf_X12_81 o1 g1_28 <| j_iload_n dX12_meets_29 rfl rfl <| j_lald dX12_meets_30 o2 y3 <| j_lcmp dX12_meets_31 <| j_if_ge_t (tgt := 40) dX12_meets_32 (by decide) ((lg_cmp_ge _ _).mpr hc) (j_pick [0, 1, 2, 4] rfl K), q⟩
  · skip
    obtain ⟨h', r, K, q⟩ := K2 hc
    exact ⟨h', r, j_lstore dX12_meets_21 (by decide) rfl <| j_lload dX12_meets_23 rfl <| j_aload_n dX12_meets_25 rfl rfl <| j_getf dX12_meets_26 kf_X12_81 o1 g1_28 <| j_iload_n dX12_meets_29 rfl rfl <| j_lald dX12_meets_30 o2 y3 <| j_lcmp dX12_meets_31 <| j_if_ge_f dX12_meets_32 40 (by decide) ((not_congr (lg_cmp_ge _ _)).mpr hc) K, q⟩
theorem bX12_meets_35 {h0 h : k_H} {Q : k_H → k_R → Prop} {x0 : Nat} {x1 x2 : Int32} {x5 x7 : Int64} (K : k_X (jX12_meets G l h0) h 46 [(0, vR (some x0)), (1, vI x1), (2, vI x2), (7, vJ x7)] [vJ x5] Q) : k_X (jX12_meets G l h0) h 35 [(0, vR (some x0)), (1, vI x1), (2, vI x2), (5, vJ x5), (7, vJ x7)] [] Q := by
  obtain ⟨h', r, K, q⟩ := K
  exact ⟨h', r, j_lload dX12_meets_35 rfl <| j_goto (tgt := 46) dX12_meets_37 (by decide) <| (j_pick [0, 1, 2, 4] rfl K), q⟩
theorem bX12_meets_40 {h0 h : k_H} {Q : k_H → k_R → Prop} {x0 f1_28 : Nat} {x1 x2 : Int32} {x7 : Int64} {fs1 : List k_V} (o1 : h.1 x0 = some (k_o 15 fs1)) (g1_28 : fs1[28]? = some (vR (some f1_28))) {n2 : Nat} {w2 : Nat → Int64} (o2 : h.1 f1_28 = some (k_j n2 w2)) (y3 : vp_in x2 n2) (K : k_X (jX12_meets G l h0) h 46 [(0, vR (some x0)), (1, vI x1), (2, vI x2), (7, vJ x7)] [vJ (w2 (x2).toNatClampNeg)] Q) : k_X (jX12_meets G l h0) h 40 [(0, vR (some x0)), (1, vI x1), (2, vI x2), (7, vJ x7)] [] Q := by
  obtain ⟨h', r, K, q⟩ := K
  exact ⟨h', r, j_aload_n dX12_meets_40 rfl rfl <| j_getf dX12_meets_41 kf_X12_81 o1 g1_28 <| j_iload_n dX12_meets_44 rfl rfl <| j_lald dX12_meets_45 o2 y3 <| K, q⟩
theorem bX12_meets_46 {h0 h : k_H} {Q : k_H → k_R → Prop} {x0 : Nat} {x1 x2 : Int32} {x7 s0 : Int64} (K1 : s0 < x7 → k_X (jX12_meets G l h0) h 78 [] [] Q) (K2 : ¬ (s0 < x7) → k_X (jX12_meets G l h0) h 56 [(0, vR (some x0)), (1, vI x1), (2, vI x2), (7, vJ x7), (9, vJ s0)] [] Q) : k_X (jX12_meets G l h0) h 46 [(0, vR (some x0)), (1, vI x1), (2, vI x2), (7, vJ x7)] [vJ s0] Q := by
  by_cases hc : s0 < x7
  · skip
    obtain ⟨h', r, K, q⟩ := K1 hc
    exact ⟨h', r, j_lstore dX12_meets_46 (by decide) rfl <| j_lload dX12_meets_48 rfl <| j_lload dX12_meets_50 rfl <| j_lcmp dX12_meets_52 <| j_if_gt_t (tgt := 78) dX12_meets_53 (by decide) ((lg_cmp_gt _ _).mpr hc) (j_pick [] rfl K), q⟩
  · skip
    obtain ⟨h', r, K, q⟩ := K2 hc
    exact ⟨h', r, j_lstore dX12_meets_46 (by decide) rfl <| j_lload dX12_meets_48 rfl <| j_lload dX12_meets_50 rfl <| j_lcmp dX12_meets_52 <| j_if_gt_f dX12_meets_53 78 (by decide) ((not_congr (lg_cmp_gt _ _)).mpr hc) K, q⟩
theorem bX12_meets_56 {h0 h : k_H} {Q : k_H → k_R → Prop} {x0 f1_29 : Nat} {x1 x2 : Int32} {x7 x9 : Int64} {fs1 : List k_V} (o1 : h.1 x0 = some (k_o 15 fs1)) (g1_29 : fs1[29]? = some (vR (some f1_29))) {n2 : Nat} {w2 : Nat → Int32} (o2 : h.1 f1_29 = some (k_i n2 w2)) (y3 : vp_in x2 n2) {P : k_H → Int32 → Prop} (c : k_cti (tX12_isOwn G l) [vR (some x0), vI x1, vJ x7, vJ x9, vI (w2 (x2).toNatClampNeg)] h P) (K : ∀ h1 v, P h1 v → k_X (jX12_meets G l h0) h1 71 [] [vI v] Q) : k_X (jX12_meets G l h0) h 56 [(0, vR (some x0)), (1, vI x1), (2, vI x2), (7, vJ x7), (9, vJ x9)] [] Q := by
  obtain ⟨h1, v, c, p⟩ := c
  obtain ⟨h', r, K, q⟩ := K h1 v p
  exact ⟨h', r, j_aload_n dX12_meets_56 rfl rfl <| j_iload_n dX12_meets_57 rfl rfl <| j_lload dX12_meets_58 rfl <| j_lload dX12_meets_60 rfl <| j_aload_n dX12_meets_62 rfl rfl <| j_getf dX12_meets_63 kf_X12_84 o1 g1_29 <| j_iload_n dX12_meets_66 rfl rfl <| j_iald dX12_meets_67 o2 y3 <| j_callV (v := some (vI v)) (as := [vI x1, vJ x7, vJ x9, vI (w2 (x2).toNatClampNeg)]) dX12_meets_68 kc_X12_250 rfl rfl (k_is_o o1) (by decide) (Nat.le_of_ble_eq_true rfl) c (j_pick [] rfl K), q⟩
theorem bX12_meets_71 {h0 h : k_H} {Q : k_H → k_R → Prop} {s0 : Int32} (K1 : ¬ (s0 = 0) → k_X (jX12_meets G l h0) h 78 [] [] Q) (K2 : s0 = 0 → k_X (jX12_meets G l h0) h 74 [] [] Q) : k_X (jX12_meets G l h0) h 71 [] [vI s0] Q := by
  by_cases hc : s0 = 0
  · skip
    obtain ⟨h', r, K, q⟩ := K2 hc
    exact ⟨h', r, j_if_ne_f dX12_meets_71 78 (by decide) hc K, q⟩
  · skip
    obtain ⟨h', r, K, q⟩ := K1 hc
    exact ⟨h', r, j_if_ne_t (tgt := 78) dX12_meets_71 (by decide) hc K, q⟩
theorem bX12_meets_74 {h0 h : k_H} {Q : k_H → k_R → Prop} (K : k_X (jX12_meets G l h0) h 79 [] [vI 1] Q) : k_X (jX12_meets G l h0) h 74 [] [] Q := by
  obtain ⟨h', r, K, q⟩ := K
  exact ⟨h', r, j_iconst (v := 1) dX12_meets_74 (by decide) <| j_goto (tgt := 79) dX12_meets_75 (by decide) <| K, q⟩
theorem bX12_meets_78 {h0 h : k_H} {Q : k_H → k_R → Prop} (K : k_X (jX12_meets G l h0) h 79 [] [vI 0] Q) : k_X (jX12_meets G l h0) h 78 [] [] Q := by
  obtain ⟨h', r, K, q⟩ := K
  exact ⟨h', r, j_iconst (v := 0) dX12_meets_78 (by decide) <| K, q⟩
theorem bX12_meets_79 {h0 h : k_H} {Q : k_H → k_R → Prop} {s0 : Int32} (y1 : k_bl s0) (q : Q h (.inl (some (vI s0)))) : k_X (jX12_meets G l h0) h 79 [] [vI s0] Q := by
  exact ⟨_, _, j_zret dX12_meets_79 rfl y1, q⟩
theorem eX12_isMet {G : k_G} {l : Launch} (hfl : l.flags = flags0) {h : k_H} {Q : k_H → k_R → Prop} {x0 : Nat} {x1 : Int32} {x2 : Int32} (K : k_X (jX12_isMet G l h) h 0 [(0, vR (some x0)), (1, vI x1), (2, vI x2)] [] Q) : k_ct (tX12_isMet G l) [vR (some x0), vI x1, vI x2] h Q := by
  obtain ⟨h', r, K, q⟩ := K
  exact ⟨h', r, k_CtOf (by decide +kernel) (Nat.le_of_ble_eq_true rfl) K hfl, q⟩

theorem bX12_isMet_0 {h0 h : k_H} {Q : k_H → k_R → Prop} {x0 f1_27 : Nat} {x1 x2 : Int32} {fs1 : List k_V} (o1 : h.1 x0 = some (k_o 15 fs1)) (g1_27 : fs1[27]? = some (vR (some f1_27))) {n2 : Nat} {w2 : Nat → Int64} (o2 : h.1 f1_27 = some (k_j n2 w2)) (y3 : vp_in x2 n2) {P : k_H → Int32 → Prop} (c : k_cti (tX12_placeOf G l) [vR (some x0), vJ (w2 (x2).toNatClampNeg)] h P) (K : ∀ h1 v, P h1 v → k_X (jX12_isMet G l h0) h1 10 [(0, vR (some x0)), (1, vI x1), (2, vI x2)] [vI v] Q) : k_X (jX12_isMet G l h0) h 0 [(0, vR (some x0)), (1, vI x1), (2, vI x2)] [] Q := by
  obtain ⟨h1, v, c, p⟩ := c
  obtain ⟨h', r, K, q⟩ := K h1 v p
  exact ⟨h', r, j_aload_n dX12_isMet_0 rfl rfl <| j_aload_n dX12_isMet_1 rfl rfl <| j_getf dX12_isMet_2 kf_X12_78 o1 g1_27 <| j_iload_n dX12_isMet_5 rfl rfl <| j_lald dX12_isMet_6 o2 y3 <| j_callV (v := some (vI v)) (as := [vJ (w2 (x2).toNatClampNeg)]) dX12_isMet_7 kc_X12_164 rfl rfl (k_is_o o1) (by decide) (Nat.le_of_ble_eq_true rfl) c K, q⟩
theorem bX12_isMet_10 {h0 h : k_H} {Q : k_H → k_R → Prop} {x0 : Nat} {x1 x2 s0 : Int32} (K : k_X (jX12_isMet G l h0) h 11 [(0, vR (some x0)), (1, vI x1), (2, vI x2), (3, vI s0)] [] Q) : k_X (jX12_isMet G l h0) h 10 [(0, vR (some x0)), (1, vI x1), (2, vI x2)] [vI s0] Q := by
  obtain ⟨h', r, K, q⟩ := K
  exact ⟨h', r, j_istore_n dX12_isMet_10 rfl (by decide) rfl <| K, q⟩
theorem bX12_isMet_11 {h0 h : k_H} {Q : k_H → k_R → Prop} {x0 : Nat} {x1 x2 x3 f1_2 : Int32} {fs1 : List k_V} (o1 : h.1 x0 = some (k_o 15 fs1)) (g1_2 : fs1[2]? = some (vI f1_2)) (K1 : f1_2 ≤ x3 → k_X (jX12_isMet G l h0) h 105 [(0, vR (some x0)), (1, vI x1), (2, vI x2)] [] Q) (K2 : ¬ (f1_2 ≤ x3) → k_X (jX12_isMet G l h0) h 19 [(0, vR (some x0)), (1, vI x1), (2, vI x2), (3, vI x3)] [] Q) : k_X (jX12_isMet G l h0) h 11 [(0, vR (some x0)), (1, vI x1), (2, vI x2), (3, vI x3)] [] Q := by
  by_cases hc : f1_2 ≤ x3
  · skip
    obtain ⟨h', r, K, q⟩ := K1 hc
    exact ⟨h', r, j_iload_n dX12_isMet_11 rfl rfl <| j_aload_n dX12_isMet_12 rfl rfl <| j_getf dX12_isMet_13 kf_X12_161 o1 g1_2 <| j_icmp_ge_t (tgt := 105) dX12_isMet_16 (by decide) hc (j_pick [0, 1, 2] rfl K), q⟩
  · skip
    obtain ⟨h', r, K, q⟩ := K2 hc
    exact ⟨h', r, j_iload_n dX12_isMet_11 rfl rfl <| j_aload_n dX12_isMet_12 rfl rfl <| j_getf dX12_isMet_13 kf_X12_161 o1 g1_2 <| j_icmp_ge_f dX12_isMet_16 105 (by decide) hc K, q⟩
theorem bX12_isMet_19 {h0 h : k_H} {Q : k_H → k_R → Prop} {x0 f1_3 f1_28 : Nat} {x1 x2 x3 : Int32} {fs1 : List k_V} (o1 : h.1 x0 = some (k_o 15 fs1)) (g1_3 : fs1[3]? = some (vR (some f1_3))) {n2 : Nat} {w2 : Nat → Int64} (o2 : h.1 f1_3 = some (k_j n2 w2)) (y3 : vp_in x3 n2) (g1_28 : fs1[28]? = some (vR (some f1_28))) {n4 : Nat} {w4 : Nat → Int64} (o4 : h.1 f1_28 = some (k_j n4 w4)) (y5 : vp_in x2 n4) (K1 : (w4 (x2).toNatClampNeg) < (w2 (x3).toNatClampNeg) → k_X (jX12_isMet G l h0) h 105 [(0, vR (some x0)), (1, vI x1), (2, vI x2)] [] Q) (K2 : ¬ ((w4 (x2).toNatClampNeg) < (w2 (x3).toNatClampNeg)) → k_X (jX12_isMet G l h0) h 35 [(0, vR (some x0)), (1, vI x1), (2, vI x2), (3, vI x3)] [] Q) : k_X (jX12_isMet G l h0) h 19 [(0, vR (some x0)), (1, vI x1), (2, vI x2), (3, vI x3)] [] Q := by
  by_cases hc : (w4 (x2).toNatClampNeg) < (w2 (x3).toNatClampNeg)
  · skip
    obtain ⟨h', r, K, q⟩ := K1 hc
    exact ⟨h', r, j_aload_n dX12_isMet_19 rfl rfl <| j_getf dX12_isMet_20 kf_X12_9 o1 g1_3 <| j_iload_n dX12_isMet_23 rfl rfl <| j_lald dX12_isMet_24 o2 y3 <| j_aload_n dX12_isMet_25 rfl rfl <| j_getf dX12_isMet_26 kf_X12_81 o1 g1_28 <| j_iload_n dX12_isMet_29 rfl rfl <| j_lald dX12_isMet_30 o4 y5 <| j_lcmp dX12_isMet_31 <| j_if_gt_t (tgt := 105) dX12_isMet_32 (by decide) ((lg_cmp_gt _ _).mpr hc) (j_pick [0, 1, 2] rfl K), q⟩
  · skip
    obtain ⟨h', r, K, q⟩ := K2 hc
    exact ⟨h', r, j_aload_n dX12_isMet_19 rfl rfl <| j_getf dX12_isMet_20 kf_X12_9 o1 g1_3 <| j_iload_n dX12_isMet_23 rfl rfl <| j_lald dX12_isMet_24 o2 y3 <| j_aload_n dX12_isMet_25 rfl rfl <| j_getf dX12_isMet_26 kf_X12_81 o1 g1_28 <| j_iload_n dX12_isMet_29 rfl rfl <| j_lald dX12_isMet_30 o4 y5 <| j_lcmp dX12_isMet_31 <| j_if_gt_f dX12_isMet_32 105 (by decide) ((not_congr (lg_cmp_gt _ _)).mpr hc) K, q⟩
theorem bX12_isMet_35 {h0 h : k_H} {Q : k_H → k_R → Prop} {x0 f1_4 : Nat} {x1 x2 x3 : Int32} {fs1 : List k_V} (o1 : h.1 x0 = some (k_o 15 fs1)) (g1_4 : fs1[4]? = some (vR (some f1_4))) {n2 : Nat} {w2 : Nat → Int32} (o2 : h.1 f1_4 = some (k_i n2 w2)) (y3 : vp_in x3 n2) (K1 : (w2 (x3).toNatClampNeg) < 0 → k_X (jX12_isMet G l h0) h 68 [(0, vR (some x0)), (1, vI x1), (2, vI x2), (3, vI x3)] [] Q) (K2 : ¬ ((w2 (x3).toNatClampNeg) < 0) → k_X (jX12_isMet G l h0) h 44 [(0, vR (some x0)), (1, vI x1), (2, vI x2), (3, vI x3)] [] Q) : k_X (jX12_isMet G l h0) h 35 [(0, vR (some x0)), (1, vI x1), (2, vI x2), (3, vI x3)] [] Q := by
  by_cases hc : (w2 (x3).toNatClampNeg) < 0
  · skip
    obtain ⟨h', r, K, q⟩ := K1 hc
    exact ⟨h', r, j_aload_n dX12_isMet_35 rfl rfl <| j_getf dX12_isMet_36 kf_X12_15 o1 g1_4 <| j_iload_n dX12_isMet_39 rfl rfl <| j_iald dX12_isMet_40 o2 y3 <| j_if_lt_t (tgt := 68) dX12_isMet_41 (by decide) hc K, q⟩
  · skip
    obtain ⟨h', r, K, q⟩ := K2 hc
    exact ⟨h', r, j_aload_n dX12_isMet_35 rfl rfl <| j_getf dX12_isMet_36 kf_X12_15 o1 g1_4 <| j_iload_n dX12_isMet_39 rfl rfl <| j_iald dX12_isMet_40 o2 y3 <| j_if_lt_f dX12_isMet_41 68 (by decide) hc K, q⟩
theorem bX12_isMet_44 {h0 h : k_H} {Q : k_H → k_R → Prop} {x0 f1_6 f1_4 f1_16 : Nat} {x1 x2 x3 : Int32} {fs1 : List k_V} (o1 : h.1 x0 = some (k_o 15 fs1)) (g1_6 : fs1[6]? = some (vR (some f1_6))) (g1_4 : fs1[4]? = some (vR (some f1_4))) {n2 : Nat} {w2 : Nat → Int32} (o2 : h.1 f1_4 = some (k_i n2 w2)) (y3 : vp_in x3 n2) {n4 : Nat} {w4 : Nat → Int32} (o4 : h.1 f1_6 = some (k_i n4 w4)) (y5 : vp_in (w2 (x3).toNatClampNeg) n4) (g1_16 : fs1[16]? = some (vR (some f1_16))) {n6 : Nat} {w6 : Nat → Int32} (o6 : h.1 f1_16 = some (k_i n6 w6)) (y7 : vp_in x1 n6) (K1 : (w4 (w2 (x3).toNatClampNeg).toNatClampNeg) ≤ (w6 (x1).toNatClampNeg) → k_X (jX12_isMet G l h0) h 68 [(0, vR (some x0)), (1, vI x1), (2, vI x2), (3, vI x3)] [] Q) (K2 : ¬ ((w4 (w2 (x3).toNatClampNeg).toNatClampNeg) ≤ (w6 (x1).toNatClampNeg)) → k_X (jX12_isMet G l h0) h 64 [(0, vR (some x0)), (1, vI x1), (2, vI x2), (3, vI x3)] [] Q) : k_X (jX12_isMet G l h0) h 44 [(0, vR (some x0)), (1, vI x1), (2, vI x2), (3, vI x3)] [] Q := by
  by_cases hc : (w4 (w2 (x3).toNatClampNeg).toNatClampNeg) ≤ (w6 (x1).toNatClampNeg)
  · skip
    obtain ⟨h', r, K, q⟩ := K1 hc
    exact ⟨h', r, j_aload_n dX12_isMet_44 rfl rfl <| j_getf dX12_isMet_45 kf_X12_20 o1 g1_6 <| j_aload_n dX12_isMet_48 rfl rfl <| j_getf dX12_isMet_49 kf_X12_15 o1 g1_4 <| j_iload_n dX12_isMet_52 rfl rfl <| j_iald dX12_isMet_53 o2 y3 <| j_iald dX12_isMet_54 o4 y5 <| j_aload_n dX12_isMet_55 rfl rfl <| j_getf dX12_isMet_56 kf_X12_48 o1 g1_16 <| j_iload_n dX12_isMet_59 rfl rfl <| j_iald dX12_isMet_60 o6 y7 <| j_icmp_le_t (tgt := 68) dX12_isMet_61 (by decide) hc K, q⟩
  · skip
    obtain ⟨h', r, K, q⟩ := K2 hc
    exact ⟨h', r, j_aload_n dX12_isMet_44 rfl rfl <| j_getf dX12_isMet_45 kf_X12_20 o1 g1_6 <| j_aload_n dX12_isMet_48 rfl rfl <| j_getf dX12_isMet_49 kf_X12_15 o1 g1_4 <| j_iload_n dX12_isMet_52 rfl rfl <| j_iald dX12_isMet_53 o2 y3 <| j_iald dX12_isMet_54 o4 y5 <| j_aload_n dX12_isMet_55 rfl rfl <| j_getf dX12_isMet_56 kf_X12_48 o1 g1_16 <| j_iload_n dX12_isMet_59 rfl rfl <| j_iald dX12_isMet_60 o6 y7 <| j_icmp_le_f dX12_isMet_61 68 (by decide) hc K, q⟩
theorem bX12_isMet_64 {h0 h : k_H} {Q : k_H → k_R → Prop} {x0 : Nat} {x1 x2 x3 : Int32} (K : k_X (jX12_isMet G l h0) h 69 [(0, vR (some x0)), (1, vI x1), (2, vI x2), (3, vI x3)] [vI 1] Q) : k_X (jX12_isMet G l h0) h 64 [(0, vR (some x0)), (1, vI x1), (2, vI x2), (3, vI x3)] [] Q := by
  obtain ⟨h', r, K, q⟩ := K
  exact ⟨h', r, j_iconst (v := 1) dX12_isMet_64 (by decide) <| j_goto (tgt := 69) dX12_isMet_65 (by decide) <| K, q⟩
theorem bX12_isMet_68 {h0 h : k_H} {Q : k_H → k_R → Prop} {x0 : Nat} {x1 x2 x3 : Int32} (K : k_X (jX12_isMet G l h0) h 69 [(0, vR (some x0)), (1, vI x1), (2, vI x2), (3, vI x3)] [vI 0] Q) : k_X (jX12_isMet G l h0) h 68 [(0, vR (some x0)), (1, vI x1), (2, vI x2), (3, vI x3)] [] Q := by
  obtain ⟨h', r, K, q⟩ := K
  exact ⟨h', r, j_iconst (v := 0) dX12_isMet_68 (by decide) <| K, q⟩
theorem bX12_isMet_69 {h0 h : k_H} {Q : k_H → k_R → Prop} {x0 : Nat} {x1 x2 x3 s0 : Int32} (K1 : s0 = 0 → k_X (jX12_isMet G l h0) h 99 [(0, vR (some x0)), (1, vI x1), (2, vI x2), (3, vI x3)] [] Q) (K2 : ¬ (s0 = 0) → k_X (jX12_isMet G l h0) h 76 [(0, vR (some x0)), (1, vI x1), (2, vI x2), (3, vI x3)] [] Q) : k_X (jX12_isMet G l h0) h 69 [(0, vR (some x0)), (1, vI x1), (2, vI x2), (3, vI x3)] [vI s0] Q := by
  by_cases hc : s0 = 0
  · skip
    obtain ⟨h', r, K, q⟩ := K1 hc
    exact ⟨h', r, j_istore dX12_isMet_69 (by decide) rfl <| j_iload dX12_isMet_71 rfl <| j_if_eq_t (tgt := 99) dX12_isMet_73 (by decide) hc (j_pick [0, 1, 2, 3] rfl K), q⟩
  · skip
    obtain ⟨h', r, K, q⟩ := K2 hc
    exact ⟨h', r, j_istore dX12_isMet_69 (by decide) rfl <| j_iload dX12_isMet_71 rfl <| j_if_eq_f dX12_isMet_73 99 (by decide) hc (j_pick [0, 1, 2, 3] rfl K), q⟩
theorem bX12_isMet_76 {h0 h : k_H} {Q : k_H → k_R → Prop} {x0 f1_3 : Nat} {x1 x2 x3 : Int32} {fs1 : List k_V} (o1 : h.1 x0 = some (k_o 15 fs1)) (g1_3 : fs1[3]? = some (vR (some f1_3))) {n2 : Nat} {w2 : Nat → Int64} (o2 : h.1 f1_3 = some (k_j n2 w2)) (y3 : vp_in x3 n2) {P : k_H → Int32 → Prop} (c : k_cti (tX12_meets G l) [vR (some x0), vI x1, vI x2, vJ (w2 (x3).toNatClampNeg), vJ (w2 (x3).toNatClampNeg)] h P) (K : ∀ h1 v, P h1 v → k_X (jX12_isMet G l h0) h1 94 [(0, vR (some x0)), (1, vI x1), (2, vI x2), (3, vI x3)] [vI v] Q) : k_X (jX12_isMet G l h0) h 76 [(0, vR (some x0)), (1, vI x1), (2, vI x2), (3, vI x3)] [] Q := by
  obtain ⟨h1, v, c, p⟩ := c
  obtain ⟨h', r, K, q⟩ := K h1 v p
  exact ⟨h', r, j_aload_n dX12_isMet_76 rfl rfl <| j_iload_n dX12_isMet_77 rfl rfl <| j_iload_n dX12_isMet_78 rfl rfl <| j_aload_n dX12_isMet_79 rfl rfl <| j_getf dX12_isMet_80 kf_X12_9 o1 g1_3 <| j_iload_n dX12_isMet_83 rfl rfl <| j_lald dX12_isMet_84 o2 y3 <| j_aload_n dX12_isMet_85 rfl rfl <| j_getf dX12_isMet_86 kf_X12_9 o1 g1_3 <| j_iload_n dX12_isMet_89 rfl rfl <| j_lald dX12_isMet_90 o2 y3 <| j_callV (v := some (vI v)) (as := [vI x1, vI x2, vJ (w2 (x3).toNatClampNeg), vJ (w2 (x3).toNatClampNeg)]) dX12_isMet_91 kc_X12_308 rfl rfl (k_is_o o1) (by decide) (Nat.le_of_ble_eq_true rfl) c K, q⟩
theorem bX12_isMet_94 {h0 h : k_H} {Q : k_H → k_R → Prop} {x0 : Nat} {x1 x2 x3 s0 : Int32} (K1 : s0 = 0 → k_X (jX12_isMet G l h0) h 99 [(0, vR (some x0)), (1, vI x1), (2, vI x2), (3, vI x3)] [] Q) (K2 : ¬ (s0 = 0) → k_X (jX12_isMet G l h0) h 97 [] [] Q) : k_X (jX12_isMet G l h0) h 94 [(0, vR (some x0)), (1, vI x1), (2, vI x2), (3, vI x3)] [vI s0] Q := by
  by_cases hc : s0 = 0
  · skip
    obtain ⟨h', r, K, q⟩ := K1 hc
    exact ⟨h', r, j_if_eq_t (tgt := 99) dX12_isMet_94 (by decide) hc K, q⟩
  · skip
    obtain ⟨h', r, K, q⟩ := K2 hc
    exact ⟨h', r, j_if_eq_f dX12_isMet_94 99 (by decide) hc (j_pick [] rfl K), q⟩
theorem bX12_isMet_97 {h0 h : k_H} {Q : k_H → k_R → Prop} (q : Q h (.inl (some (vI 1)))) : k_X (jX12_isMet G l h0) h 97 [] [] Q := by
  exact ⟨_, _, j_iconst (v := 1) dX12_isMet_97 (by decide) <| j_zret dX12_isMet_98 rfl (by decide), q⟩
theorem bX12_isMet_99 {h0 h : k_H} {Q : k_H → k_R → Prop} {x0 : Nat} {x1 x2 x3 : Int32} (K : k_X (jX12_isMet G l h0) h 11 [(0, vR (some x0)), (1, vI x1), (2, vI x2), (3, vI (x3 + 1))] [] Q) : k_X (jX12_isMet G l h0) h 99 [(0, vR (some x0)), (1, vI x1), (2, vI x2), (3, vI x3)] [] Q := by
  obtain ⟨h', r, K, q⟩ := K
  exact ⟨h', r, j_iinc (v := x3 + 1) dX12_isMet_99 rfl (by decide) rfl rfl <| j_goto (tgt := 11) dX12_isMet_102 (by decide) <| K, q⟩
theorem bX12_isMet_105 {h0 h : k_H} {Q : k_H → k_R → Prop} {x0 : Nat} {x1 x2 : Int32} (K : k_X (jX12_isMet G l h0) h 107 [(0, vR (some x0)), (1, vI x1), (2, vI x2), (3, vI 0)] [] Q) : k_X (jX12_isMet G l h0) h 105 [(0, vR (some x0)), (1, vI x1), (2, vI x2)] [] Q := by
  obtain ⟨h', r, K, q⟩ := K
  exact ⟨h', r, j_iconst (v := 0) dX12_isMet_105 (by decide) <| j_istore_n dX12_isMet_106 rfl (by decide) rfl <| K, q⟩
theorem bX12_isMet_107 {h0 h : k_H} {Q : k_H → k_R → Prop} {x0 : Nat} {x1 x2 x3 f1_10 : Int32} {fs1 : List k_V} (o1 : h.1 x0 = some (k_o 15 fs1)) (g1_10 : fs1[10]? = some (vI f1_10)) (K1 : f1_10 ≤ x3 → k_X (jX12_isMet G l h0) h 159 [] [] Q) (K2 : ¬ (f1_10 ≤ x3) → k_X (jX12_isMet G l h0) h 115 [(0, vR (some x0)), (1, vI x1), (2, vI x2), (3, vI x3)] [] Q) : k_X (jX12_isMet G l h0) h 107 [(0, vR (some x0)), (1, vI x1), (2, vI x2), (3, vI x3)] [] Q := by
  by_cases hc : f1_10 ≤ x3
  · skip
    obtain ⟨h', r, K, q⟩ := K1 hc
    exact ⟨h', r, j_iload_n dX12_isMet_107 rfl rfl <| j_aload_n dX12_isMet_108 rfl rfl <| j_getf dX12_isMet_109 kf_X12_196 o1 g1_10 <| j_icmp_ge_t (tgt := 159) dX12_isMet_112 (by decide) hc (j_pick [] rfl K), q⟩
  · skip
    obtain ⟨h', r, K, q⟩ := K2 hc
    exact ⟨h', r, j_iload_n dX12_isMet_107 rfl rfl <| j_aload_n dX12_isMet_108 rfl rfl <| j_getf dX12_isMet_109 kf_X12_196 o1 g1_10 <| j_icmp_ge_f dX12_isMet_112 159 (by decide) hc K, q⟩
theorem bX12_isMet_115 {h0 h : k_H} {Q : k_H → k_R → Prop} {x0 f1_11 f1_16 : Nat} {x1 x2 x3 : Int32} {fs1 : List k_V} (o1 : h.1 x0 = some (k_o 15 fs1)) (g1_11 : fs1[11]? = some (vR (some f1_11))) {n2 : Nat} {w2 : Nat → Int32} (o2 : h.1 f1_11 = some (k_i n2 w2)) (y3 : vp_in x3 n2) (g1_16 : fs1[16]? = some (vR (some f1_16))) {n4 : Nat} {w4 : Nat → Int32} (o4 : h.1 f1_16 = some (k_i n4 w4)) (y5 : vp_in x1 n4) (K1 : (w2 (x3).toNatClampNeg) ≤ (w4 (x1).toNatClampNeg) → k_X (jX12_isMet G l h0) h 153 [(0, vR (some x0)), (1, vI x1), (2, vI x2), (3, vI x3)] [] Q) (K2 : ¬ ((w2 (x3).toNatClampNeg) ≤ (w4 (x1).toNatClampNeg)) → k_X (jX12_isMet G l h0) h 130 [(0, vR (some x0)), (1, vI x1), (2, vI x2), (3, vI x3)] [] Q) : k_X (jX12_isMet G l h0) h 115 [(0, vR (some x0)), (1, vI x1), (2, vI x2), (3, vI x3)] [] Q := by
  by_cases hc : (w2 (x3).toNatClampNeg) ≤ (w4 (x1).toNatClampNeg)
  · skip
    obtain ⟨h', r, K, q⟩ := K1 hc
    exact ⟨h', r, j_aload_n dX12_isMet_115 rfl rfl <| j_getf dX12_isMet_116 kf_X12_33 o1 g1_11 <| j_iload_n dX12_isMet_119 rfl rfl <| j_iald dX12_isMet_120 o2 y3 <| j_aload_n dX12_isMet_121 rfl rfl <| j_getf dX12_isMet_122 kf_X12_48 o1 g1_16 <| j_iload_n dX12_isMet_125 rfl rfl <| j_iald dX12_isMet_126 o4 y5 <| j_icmp_le_t (tgt := 153) dX12_isMet_127 (by decide) hc K, q⟩
  · skip
    obtain ⟨h', r, K, q⟩ := K2 hc
    exact ⟨h', r, j_aload_n dX12_isMet_115 rfl rfl <| j_getf dX12_isMet_116 kf_X12_33 o1 g1_11 <| j_iload_n dX12_isMet_119 rfl rfl <| j_iald dX12_isMet_120 o2 y3 <| j_aload_n dX12_isMet_121 rfl rfl <| j_getf dX12_isMet_122 kf_X12_48 o1 g1_16 <| j_iload_n dX12_isMet_125 rfl rfl <| j_iald dX12_isMet_126 o4 y5 <| j_icmp_le_f dX12_isMet_127 153 (by decide) hc K, q⟩
theorem bX12_isMet_130 {h0 h : k_H} {Q : k_H → k_R → Prop} {x0 f1_12 f1_13 : Nat} {x1 x2 x3 : Int32} {fs1 : List k_V} (o1 : h.1 x0 = some (k_o 15 fs1)) (g1_12 : fs1[12]? = some (vR (some f1_12))) {n2 : Nat} {w2 : Nat → Int64} (o2 : h.1 f1_12 = some (k_j n2 w2)) (y3 : vp_in x3 n2) (g1_13 : fs1[13]? = some (vR (some f1_13))) {n4 : Nat} {w4 : Nat → Int64} (o4 : h.1 f1_13 = some (k_j n4 w4)) (y5 : vp_in x3 n4) {P : k_H → Int32 → Prop} (c : k_cti (tX12_meets G l) [vR (some x0), vI x1, vI x2, vJ (w2 (x3).toNatClampNeg), vJ (w4 (x3).toNatClampNeg)] h P) (K : ∀ h1 v, P h1 v → k_X (jX12_isMet G l h0) h1 148 [(0, vR (some x0)), (1, vI x1), (2, vI x2), (3, vI x3)] [vI v] Q) : k_X (jX12_isMet G l h0) h 130 [(0, vR (some x0)), (1, vI x1), (2, vI x2), (3, vI x3)] [] Q := by
  obtain ⟨h1, v, c, p⟩ := c
  obtain ⟨h', r, K, q⟩ := K h1 v p
  exact ⟨h', r, j_aload_n dX12_isMet_130 rfl rfl <| j_iload_n dX12_isMet_131 rfl rfl <| j_iload_n dX12_isMet_132 rfl rfl <| j_aload_n dX12_isMet_133 rfl rfl <| j_getf dX12_isMet_134 kf_X12_36 o1 g1_12 <| j_iload_n dX12_isMet_137 rfl rfl <| j_lald dX12_isMet_138 o2 y3 <| j_aload_n dX12_isMet_139 rfl rfl <| j_getf dX12_isMet_140 kf_X12_39 o1 g1_13 <| j_iload_n dX12_isMet_143 rfl rfl <| j_lald dX12_isMet_144 o4 y5 <| j_callV (v := some (vI v)) (as := [vI x1, vI x2, vJ (w2 (x3).toNatClampNeg), vJ (w4 (x3).toNatClampNeg)]) dX12_isMet_145 kc_X12_308 rfl rfl (k_is_o o1) (by decide) (Nat.le_of_ble_eq_true rfl) c K, q⟩
theorem bX12_isMet_148 {h0 h : k_H} {Q : k_H → k_R → Prop} {x0 : Nat} {x1 x2 x3 s0 : Int32} (K1 : s0 = 0 → k_X (jX12_isMet G l h0) h 153 [(0, vR (some x0)), (1, vI x1), (2, vI x2), (3, vI x3)] [] Q) (K2 : ¬ (s0 = 0) → k_X (jX12_isMet G l h0) h 151 [] [] Q) : k_X (jX12_isMet G l h0) h 148 [(0, vR (some x0)), (1, vI x1), (2, vI x2), (3, vI x3)] [vI s0] Q := by
  by_cases hc : s0 = 0
  · skip
    obtain ⟨h', r, K, q⟩ := K1 hc
    exact ⟨h', r, j_if_eq_t (tgt := 153) dX12_isMet_148 (by decide) hc K, q⟩
  · skip
    obtain ⟨h', r, K, q⟩ := K2 hc
    exact ⟨h', r, j_if_eq_f dX12_isMet_148 153 (by decide) hc (j_pick [] rfl K), q⟩
theorem bX12_isMet_151 {h0 h : k_H} {Q : k_H → k_R → Prop} (q : Q h (.inl (some (vI 1)))) : k_X (jX12_isMet G l h0) h 151 [] [] Q := by
  exact ⟨_, _, j_iconst (v := 1) dX12_isMet_151 (by decide) <| j_zret dX12_isMet_152 rfl (by decide), q⟩
theorem bX12_isMet_153 {h0 h : k_H} {Q : k_H → k_R → Prop} {x0 : Nat} {x1 x2 x3 : Int32} (K : k_X (jX12_isMet G l h0) h 107 [(0, vR (some x0)), (1, vI x1), (2, vI x2), (3, vI (x3 + 1))] [] Q) : k_X (jX12_isMet G l h0) h 153 [(0, vR (some x0)), (1, vI x1), (2, vI x2), (3, vI x3)] [] Q := by
  obtain ⟨h', r, K, q⟩ := K
  exact ⟨h', r, j_iinc (v := x3 + 1) dX12_isMet_153 rfl (by decide) rfl rfl <| j_goto (tgt := 107) dX12_isMet_156 (by decide) <| K, q⟩
theorem bX12_isMet_159 {h0 h : k_H} {Q : k_H → k_R → Prop} (q : Q h (.inl (some (vI 0)))) : k_X (jX12_isMet G l h0) h 159 [] [] Q := by
  exact ⟨_, _, j_iconst (v := 0) dX12_isMet_159 (by decide) <| j_zret dX12_isMet_160 rfl (by decide), q⟩
theorem eX12_firstMet {G : k_G} {l : Launch} (hfl : l.flags = flags0) {h : k_H} {Q : k_H → k_R → Prop} {x0 : Nat} {x1 : Int32} (K : k_X (jX12_firstMet G l h) h 0 [(0, vR (some x0)), (1, vI x1)] [] Q) : k_ct (tX12_firstMet G l) [vR (some x0), vI x1] h Q := by
  obtain ⟨h', r, K, q⟩ := K
  exact ⟨h', r, k_CtOf (by decide +kernel) (Nat.le_of_ble_eq_true rfl) K hfl, q⟩

theorem bX12_firstMet_0 {h0 h : k_H} {Q : k_H → k_R → Prop} {x0 : Nat} {x1 : Int32} (K : k_X (jX12_firstMet G l h0) h 2 [(0, vR (some x0)), (1, vI x1), (2, vI 0)] [] Q) : k_X (jX12_firstMet G l h0) h 0 [(0, vR (some x0)), (1, vI x1)] [] Q := by
  obtain ⟨h', r, K, q⟩ := K
  exact ⟨h', r, j_iconst (v := 0) dX12_firstMet_0 (by decide) <| j_istore_n dX12_firstMet_1 rfl (by decide) rfl <| K, q⟩
theorem bX12_firstMet_2 {h0 h : k_H} {Q : k_H → k_R → Prop} {x0 f1_26 : Nat} {x1 x2 : Int32} {fs1 : List k_V} (o1 : h.1 x0 = some (k_o 15 fs1)) (g1_26 : fs1[26]? = some (vR (some f1_26))) {n2 : Nat} {w2 : Nat → Int32} (o2 : h.1 f1_26 = some (k_i n2 w2)) (y3 : vp_in x1 n2) (K1 : (w2 (x1).toNatClampNeg) ≤ x2 → k_X (jX12_firstMet G l h0) h 35 [] [] Q) (K2 : ¬ ((w2 (x1).toNatClampNeg) ≤ x2) → k_X (jX12_firstMet G l h0) h 12 [(0, vR (some x0)), (1, vI x1), (2, vI x2)] [] Q) : k_X (jX12_firstMet G l h0) h 2 [(0, vR (some x0)), (1, vI x1), (2, vI x2)] [] Q := by
  by_cases hc : (w2 (x1).toNatClampNeg) ≤ x2
  · skip
    obtain ⟨h', r, K, q⟩ := K1 hc
    exact ⟨h', r, j_iload_n dX12_firstMet_2 rfl rfl <| j_aload_n dX12_firstMet_3 rfl rfl <| j_getf dX12_firstMet_4 kf_X12_75 o1 g1_26 <| j_iload_n dX12_firstMet_7 rfl rfl <| j_iald dX12_firstMet_8 o2 y3 <| j_icmp_ge_t (tgt := 35) dX12_firstMet_9 (by decide) hc (j_pick [] rfl K), q⟩
  · skip
    obtain ⟨h', r, K, q⟩ := K2 hc
    exact ⟨h', r, j_iload_n dX12_firstMet_2 rfl rfl <| j_aload_n dX12_firstMet_3 rfl rfl <| j_getf dX12_firstMet_4 kf_X12_75 o1 g1_26 <| j_iload_n dX12_firstMet_7 rfl rfl <| j_iald dX12_firstMet_8 o2 y3 <| j_icmp_ge_f dX12_firstMet_9 35 (by decide) hc K, q⟩
theorem bX12_firstMet_12 {h0 h : k_H} {Q : k_H → k_R → Prop} {x0 : Nat} {x1 x2 : Int32} (w : k_is h x0 15) {P : k_H → Int32 → Prop} (c : k_cti (tX12_isMet G l) [vR (some x0), vI x1, vI ((2048 * x1) + x2)] h P) (K : ∀ h1 v, P h1 v → k_X (jX12_firstMet G l h0) h1 24 [(0, vR (some x0)), (1, vI x1), (2, vI x2)] [vI v] Q) : k_X (jX12_firstMet G l h0) h 12 [(0, vR (some x0)), (1, vI x1), (2, vI x2)] [] Q := by
  obtain ⟨h1, v, c, p⟩ := c
  obtain ⟨h', r, K, q⟩ := K h1 v p
  exact ⟨h', r, j_aload_n dX12_firstMet_12 rfl rfl <| j_iload_n dX12_firstMet_13 rfl rfl <| j_sipush (v := 2048) dX12_firstMet_14 (by decide) <| j_iload_n dX12_firstMet_17 rfl rfl <| j_imul dX12_firstMet_18 <| j_iload_n dX12_firstMet_19 rfl rfl <| j_iadd dX12_firstMet_20 <| j_callV (v := some (vI v)) (as := [vI x1, vI ((2048 * x1) + x2)]) dX12_firstMet_21 kc_X12_312 rfl rfl w (by decide) (Nat.le_of_ble_eq_true rfl) c K, q⟩
theorem bX12_firstMet_24 {h0 h : k_H} {Q : k_H → k_R → Prop} {x0 : Nat} {x1 x2 s0 : Int32} (K1 : s0 = 0 → k_X (jX12_firstMet G l h0) h 29 [(0, vR (some x0)), (1, vI x1), (2, vI x2)] [] Q) (K2 : ¬ (s0 = 0) → k_X (jX12_firstMet G l h0) h 27 [(2, vI x2)] [] Q) : k_X (jX12_firstMet G l h0) h 24 [(0, vR (some x0)), (1, vI x1), (2, vI x2)] [vI s0] Q := by
  by_cases hc : s0 = 0
  · skip
    obtain ⟨h', r, K, q⟩ := K1 hc
    exact ⟨h', r, j_if_eq_t (tgt := 29) dX12_firstMet_24 (by decide) hc K, q⟩
  · skip
    obtain ⟨h', r, K, q⟩ := K2 hc
    exact ⟨h', r, j_if_eq_f dX12_firstMet_24 29 (by decide) hc (j_pick [2] rfl K), q⟩
theorem bX12_firstMet_27 {h0 h : k_H} {Q : k_H → k_R → Prop} {x2 : Int32} (q : Q h (.inl (some (vI x2)))) : k_X (jX12_firstMet G l h0) h 27 [(2, vI x2)] [] Q := by
  exact ⟨_, _, j_iload_n dX12_firstMet_27 rfl rfl <| j_iret dX12_firstMet_28 rfl, q⟩
theorem bX12_firstMet_29 {h0 h : k_H} {Q : k_H → k_R → Prop} {x0 : Nat} {x1 x2 : Int32} (K : k_X (jX12_firstMet G l h0) h 2 [(0, vR (some x0)), (1, vI x1), (2, vI (x2 + 1))] [] Q) : k_X (jX12_firstMet G l h0) h 29 [(0, vR (some x0)), (1, vI x1), (2, vI x2)] [] Q := by
  obtain ⟨h', r, K, q⟩ := K
  exact ⟨h', r, j_iinc (v := x2 + 1) dX12_firstMet_29 rfl (by decide) rfl rfl <| j_goto (tgt := 2) dX12_firstMet_32 (by decide) <| K, q⟩
theorem bX12_firstMet_35 {h0 h : k_H} {Q : k_H → k_R → Prop} (q : Q h (.inl (some (vI (-2147483648))))) : k_X (jX12_firstMet G l h0) h 35 [] [] Q := by
  exact ⟨_, _, j_ldc (v := (-2147483648)) dX12_firstMet_35 ki_X12_87 <| j_iret dX12_firstMet_37 rfl, q⟩
theorem eX12_stamped {G : k_G} {l : Launch} (hfl : l.flags = flags0) {h : k_H} {Q : k_H → k_R → Prop} {x0 : Int64} {x2 : Int32} {x3 : Int32} (K : k_X (jX12_stamped G l h) h 0 [(0, vJ x0), (2, vI x2), (3, vI x3)] [] Q) : k_ct (tX12_stamped G l) [vJ x0, vI x2, vI x3] h Q := by
  obtain ⟨h', r, K, q⟩ := K
  exact ⟨h', r, k_CtOf (by decide +kernel) (Nat.le_of_ble_eq_true rfl) K hfl, q⟩

theorem bX12_stamped_0 {h0 h : k_H} {Q : k_H → k_R → Prop} {x0 : Int64} {x2 x3 : Int32} {P : k_H → Int32 → Prop} (c : k_cti (tX12_numberOf G l) [vJ x0, vI 0] h P) (K : ∀ h1 v, P h1 v → k_X (jX12_stamped G l h0) h1 5 [(0, vJ x0), (2, vI x2), (3, vI x3)] [vI v] Q) : k_X (jX12_stamped G l h0) h 0 [(0, vJ x0), (2, vI x2), (3, vI x3)] [] Q := by
  obtain ⟨h1, v, c, p⟩ := c
  obtain ⟨h', r, K, q⟩ := K h1 v p
  exact ⟨h', r, j_lload_n dX12_stamped_0 rfl rfl <| j_iconst (v := 0) dX12_stamped_1 (by decide) <| j_callS (v := some (vI v)) (as := [vJ x0, vI 0]) dX12_stamped_2 kc_X12_295 rfl rfl (by decide) (Nat.le_of_ble_eq_true rfl) c K, q⟩
theorem bX12_stamped_5 {h0 h : k_H} {Q : k_H → k_R → Prop} {x0 : Int64} {x2 x3 s0 : Int32} {P : k_H → Int32 → Prop} (c : k_cti (tX12_numberOf G l) [vJ x0, vI 1] h P) (K : ∀ h1 v, P h1 v → k_X (jX12_stamped G l h0) h1 12 [(0, vJ x0), (2, vI x2), (3, vI x3), (4, vI s0)] [vI v] Q) : k_X (jX12_stamped G l h0) h 5 [(0, vJ x0), (2, vI x2), (3, vI x3)] [vI s0] Q := by
  obtain ⟨h1, v, c, p⟩ := c
  obtain ⟨h', r, K, q⟩ := K h1 v p
  exact ⟨h', r, j_istore dX12_stamped_5 (by decide) rfl <| j_lload_n dX12_stamped_7 rfl rfl <| j_iconst (v := 1) dX12_stamped_8 (by decide) <| j_callS (v := some (vI v)) (as := [vJ x0, vI 1]) dX12_stamped_9 kc_X12_295 rfl rfl (by decide) (Nat.le_of_ble_eq_true rfl) c K, q⟩
theorem bX12_stamped_12 {h0 h : k_H} {Q : k_H → k_R → Prop} {x0 : Int64} {x2 x3 x4 s0 : Int32} {P : k_H → Int32 → Prop} (c : k_cti (tX12_numberOf G l) [vJ x0, vI 2] h P) (K : ∀ h1 v, P h1 v → k_X (jX12_stamped G l h0) h1 19 [(2, vI x2), (3, vI x3), (4, vI x4), (5, vI s0)] [vI v] Q) : k_X (jX12_stamped G l h0) h 12 [(0, vJ x0), (2, vI x2), (3, vI x3), (4, vI x4)] [vI s0] Q := by
  obtain ⟨h1, v, c, p⟩ := c
  obtain ⟨h', r, K, q⟩ := K h1 v p
  exact ⟨h', r, j_istore dX12_stamped_12 (by decide) rfl <| j_lload_n dX12_stamped_14 rfl rfl <| j_iconst (v := 2) dX12_stamped_15 (by decide) <| j_callS (v := some (vI v)) (as := [vJ x0, vI 2]) dX12_stamped_16 kc_X12_295 rfl rfl (by decide) (Nat.le_of_ble_eq_true rfl) c (j_pick [1, 2, 3, 4] rfl K), q⟩
theorem bX12_stamped_19 {h0 h : k_H} {Q : k_H → k_R → Prop} {x2 x3 x4 x5 s0 : Int32} (K1 : x2 = 8 → k_X (jX12_stamped G l h0) h 43 [(3, vI x3), (4, vI x4), (6, vI s0)] [] Q) (K2 : ¬ (x2 = 8) → k_X (jX12_stamped G l h0) h 27 [(3, vI x3), (4, vI x4), (5, vI x5), (6, vI s0)] [] Q) : k_X (jX12_stamped G l h0) h 19 [(2, vI x2), (3, vI x3), (4, vI x4), (5, vI x5)] [vI s0] Q := by
  by_cases hc : x2 = 8
  · skip
    obtain ⟨h', r, K, q⟩ := K1 hc
    exact ⟨h', r, j_istore dX12_stamped_19 (by decide) rfl <| j_iload_n dX12_stamped_21 rfl rfl <| j_bipush (v := 8) dX12_stamped_22 (by decide) <| j_icmp_eq_t (tgt := 43) dX12_stamped_24 (by decide) hc (j_pick [1, 2, 4] rfl K), q⟩
  · skip
    obtain ⟨h', r, K, q⟩ := K2 hc
    exact ⟨h', r, j_istore dX12_stamped_19 (by decide) rfl <| j_iload_n dX12_stamped_21 rfl rfl <| j_bipush (v := 8) dX12_stamped_22 (by decide) <| j_icmp_eq_f dX12_stamped_24 43 (by decide) hc (j_pick [1, 2, 3, 4] rfl K), q⟩
theorem bX12_stamped_27 {h0 h : k_H} {Q : k_H → k_R → Prop} {x3 x4 x5 x6 : Int32} (K1 : x5 = 10000 → k_X (jX12_stamped G l h0) h 54 [(3, vI x3), (4, vI x4), (5, vI x5), (6, vI x6)] [] Q) (K2 : ¬ (x5 = 10000) → k_X (jX12_stamped G l h0) h 35 [(3, vI x3), (4, vI x4), (5, vI x5), (6, vI x6)] [] Q) : k_X (jX12_stamped G l h0) h 27 [(3, vI x3), (4, vI x4), (5, vI x5), (6, vI x6)] [] Q := by
  by_cases hc : x5 = 10000
  · skip
    obtain ⟨h', r, K, q⟩ := K1 hc
    exact ⟨h', r, j_iload dX12_stamped_27 rfl <| j_sipush (v := 10000) dX12_stamped_29 (by decide) <| j_icmp_eq_t (tgt := 54) dX12_stamped_32 (by decide) hc K, q⟩
  · skip
    obtain ⟨h', r, K, q⟩ := K2 hc
    exact ⟨h', r, j_iload dX12_stamped_27 rfl <| j_sipush (v := 10000) dX12_stamped_29 (by decide) <| j_icmp_eq_f dX12_stamped_32 54 (by decide) hc K, q⟩
theorem bX12_stamped_35 {h0 h : k_H} {Q : k_H → k_R → Prop} {x3 x4 x5 x6 : Int32} (K1 : ¬ (x6 = 10000) → k_X (jX12_stamped G l h0) h 54 [(3, vI x3), (4, vI x4), (5, vI x5), (6, vI x6)] [] Q) (K2 : x6 = 10000 → k_X (jX12_stamped G l h0) h 43 [(3, vI x3), (4, vI x4), (6, vI x6)] [] Q) : k_X (jX12_stamped G l h0) h 35 [(3, vI x3), (4, vI x4), (5, vI x5), (6, vI x6)] [] Q := by
  by_cases hc : x6 = 10000
  · skip
    obtain ⟨h', r, K, q⟩ := K2 hc
    exact ⟨h', r, j_iload dX12_stamped_35 rfl <| j_sipush (v := 10000) dX12_stamped_37 (by decide) <| j_icmp_ne_f dX12_stamped_40 54 (by decide) hc (j_pick [0, 1, 3] rfl K), q⟩
  · skip
    obtain ⟨h', r, K, q⟩ := K1 hc
    exact ⟨h', r, j_iload dX12_stamped_35 rfl <| j_sipush (v := 10000) dX12_stamped_37 (by decide) <| j_icmp_ne_t (tgt := 54) dX12_stamped_40 (by decide) hc K, q⟩
theorem bX12_stamped_43 {h0 h : k_H} {Q : k_H → k_R → Prop} {x3 x4 x6 : Int32} {P : k_H → Int64 → Prop} (c : k_ctj (tX12_codeOf G l) [vI x4, vI x3, vI x6] h P) (K : ∀ h1 v, P h1 v → k_X (jX12_stamped G l h0) h1 51 [] [vJ v] Q) : k_X (jX12_stamped G l h0) h 43 [(3, vI x3), (4, vI x4), (6, vI x6)] [] Q := by
  obtain ⟨h1, v, c, p⟩ := c
  obtain ⟨h', r, K, q⟩ := K h1 v p
  exact ⟨h', r, j_iload dX12_stamped_43 rfl <| j_iload_n dX12_stamped_45 rfl rfl <| j_iload dX12_stamped_46 rfl <| j_callS (v := some (vJ v)) (as := [vI x4, vI x3, vI x6]) dX12_stamped_48 kc_X12_155 rfl rfl (by decide) (Nat.le_of_ble_eq_true rfl) c (j_pick [] rfl K), q⟩
theorem bX12_stamped_51 {h0 h : k_H} {Q : k_H → k_R → Prop} {s0 : Int64} (K : k_X (jX12_stamped G l h0) h 81 [] [vJ s0] Q) : k_X (jX12_stamped G l h0) h 51 [] [vJ s0] Q := by
  obtain ⟨h', r, K, q⟩ := K
  exact ⟨h', r, j_goto (tgt := 81) dX12_stamped_51 (by decide) <| K, q⟩
theorem bX12_stamped_54 {h0 h : k_H} {Q : k_H → k_R → Prop} {x3 x4 x5 x6 : Int32} (K1 : ¬ (x5 = 10000) → k_X (jX12_stamped G l h0) h 73 [(3, vI x3), (4, vI x4), (5, vI x5)] [] Q) (K2 : x5 = 10000 → k_X (jX12_stamped G l h0) h 62 [(3, vI x3), (5, vI x5), (6, vI x6)] [] Q) : k_X (jX12_stamped G l h0) h 54 [(3, vI x3), (4, vI x4), (5, vI x5), (6, vI x6)] [] Q := by
  by_cases hc : x5 = 10000
  · skip
    obtain ⟨h', r, K, q⟩ := K2 hc
    exact ⟨h', r, j_iload dX12_stamped_54 rfl <| j_sipush (v := 10000) dX12_stamped_56 (by decide) <| j_icmp_ne_f dX12_stamped_59 73 (by decide) hc (j_pick [0, 2, 3] rfl K), q⟩
  · skip
    obtain ⟨h', r, K, q⟩ := K1 hc
    exact ⟨h', r, j_iload dX12_stamped_54 rfl <| j_sipush (v := 10000) dX12_stamped_56 (by decide) <| j_icmp_ne_t (tgt := 73) dX12_stamped_59 (by decide) hc (j_pick [0, 1, 2] rfl K), q⟩
theorem bX12_stamped_62 {h0 h : k_H} {Q : k_H → k_R → Prop} {x3 x5 x6 : Int32} {P : k_H → Int64 → Prop} (c : k_ctj (tX12_codeOf G l) [vI x3, vI x5, vI x6] h P) (K : ∀ h1 v, P h1 v → k_X (jX12_stamped G l h0) h1 70 [] [vJ v] Q) : k_X (jX12_stamped G l h0) h 62 [(3, vI x3), (5, vI x5), (6, vI x6)] [] Q := by
  obtain ⟨h1, v, c, p⟩ := c
  obtain ⟨h', r, K, q⟩ := K h1 v p
  exact ⟨h', r, j_iload_n dX12_stamped_62 rfl rfl <| j_iload dX12_stamped_63 rfl <| j_iload dX12_stamped_65 rfl <| j_callS (v := some (vJ v)) (as := [vI x3, vI x5, vI x6]) dX12_stamped_67 kc_X12_155 rfl rfl (by decide) (Nat.le_of_ble_eq_true rfl) c (j_pick [] rfl K), q⟩
theorem bX12_stamped_70 {h0 h : k_H} {Q : k_H → k_R → Prop} {s0 : Int64} (K : k_X (jX12_stamped G l h0) h 81 [] [vJ s0] Q) : k_X (jX12_stamped G l h0) h 70 [] [vJ s0] Q := by
  obtain ⟨h', r, K, q⟩ := K
  exact ⟨h', r, j_goto (tgt := 81) dX12_stamped_70 (by decide) <| K, q⟩
theorem bX12_stamped_73 {h0 h : k_H} {Q : k_H → k_R → Prop} {x3 x4 x5 : Int32} {P : k_H → Int64 → Prop} (c : k_ctj (tX12_codeOf G l) [vI x4, vI x5, vI x3] h P) (K : ∀ h1 v, P h1 v → k_X (jX12_stamped G l h0) h1 81 [] [vJ v] Q) : k_X (jX12_stamped G l h0) h 73 [(3, vI x3), (4, vI x4), (5, vI x5)] [] Q := by
  obtain ⟨h1, v, c, p⟩ := c
  obtain ⟨h', r, K, q⟩ := K h1 v p
  exact ⟨h', r, j_iload dX12_stamped_73 rfl <| j_iload dX12_stamped_75 rfl <| j_iload_n dX12_stamped_77 rfl rfl <| j_callS (v := some (vJ v)) (as := [vI x4, vI x5, vI x3]) dX12_stamped_78 kc_X12_155 rfl rfl (by decide) (Nat.le_of_ble_eq_true rfl) c (j_pick [] rfl K), q⟩
theorem bX12_stamped_81 {h0 h : k_H} {Q : k_H → k_R → Prop} {s0 : Int64} (q : Q h (.inl (some (vJ s0)))) : k_X (jX12_stamped G l h0) h 81 [] [vJ s0] Q := by
  exact ⟨_, _, j_lret dX12_stamped_81 rfl, q⟩
theorem eX12_does {G : k_G} {l : Launch} (hfl : l.flags = flags0) {h : k_H} {Q : k_H → k_R → Prop} {x0 : Nat} {x1 : Int32} {x2 : Int64} {x4 : Int64} {x6 : Int32} (K : k_X (jX12_does G l h) h 0 [(0, vR (some x0)), (1, vI x1), (2, vJ x2), (4, vJ x4), (6, vI x6)] [] Q) : k_ct (tX12_does G l) [vR (some x0), vI x1, vJ x2, vJ x4, vI x6] h Q := by
  obtain ⟨h', r, K, q⟩ := K
  exact ⟨h', r, k_CtOf (by decide +kernel) (Nat.le_of_ble_eq_true rfl) K hfl, q⟩

theorem bX12_does_0 {h0 h : k_H} {Q : k_H → k_R → Prop} {x0 : Nat} {x1 x6 : Int32} {x2 x4 : Int64} (K1 : ¬ (x1 = 7) → k_X (jX12_does G l h0) h 16 [(0, vR (some x0)), (1, vI x1), (2, vJ x2), (6, vI x6)] [] Q) (K2 : x1 = 7 → k_X (jX12_does G l h0) h 6 [(0, vR (some x0)), (2, vJ x2), (4, vJ x4)] [] Q) : k_X (jX12_does G l h0) h 0 [(0, vR (some x0)), (1, vI x1), (2, vJ x2), (4, vJ x4), (6, vI x6)] [] Q := by
  by_cases hc : x1 = 7
  · skip
    obtain ⟨h', r, K, q⟩ := K2 hc
    exact ⟨h', r, j_iload_n dX12_does_0 rfl rfl <| j_bipush (v := 7) dX12_does_1 (by decide) <| j_icmp_ne_f dX12_does_3 16 (by decide) hc (j_pick [0, 2, 3] rfl K), q⟩
  · skip
    obtain ⟨h', r, K, q⟩ := K1 hc
    exact ⟨h', r, j_iload_n dX12_does_0 rfl rfl <| j_bipush (v := 7) dX12_does_1 (by decide) <| j_icmp_ne_t (tgt := 16) dX12_does_3 (by decide) hc (j_pick [0, 1, 2, 4] rfl K), q⟩
theorem bX12_does_6 {h0 h : k_H} {Q : k_H → k_R → Prop} {x0 : Nat} {x2 x4 : Int64} (w : k_is h x0 15) {P : k_H → Prop} (c : k_ctv (tX12_clears G l) [vR (some x0), vJ x2, vJ x4] h P) (K : ∀ h1, P h1 → k_X (jX12_does G l h0) h1 13 [] [] Q) : k_X (jX12_does G l h0) h 6 [(0, vR (some x0)), (2, vJ x2), (4, vJ x4)] [] Q := by
  obtain ⟨h1, c, p⟩ := c
  obtain ⟨h', r, K, q⟩ := K h1 p
  exact ⟨h', r, j_aload_n dX12_does_6 rfl rfl <| j_lload_n dX12_does_7 rfl rfl <| j_lload dX12_does_8 rfl <| j_callV (v := none) (as := [vJ x2, vJ x4]) dX12_does_10 kc_X12_315 rfl rfl w (by decide) (Nat.le_of_ble_eq_true rfl) c (j_pick [] rfl K), q⟩
theorem bX12_does_13 {h0 h : k_H} {Q : k_H → k_R → Prop} (K : k_X (jX12_does G l h0) h 88 [] [] Q) : k_X (jX12_does G l h0) h 13 [] [] Q := by
  obtain ⟨h', r, K, q⟩ := K
  exact ⟨h', r, j_goto (tgt := 88) dX12_does_13 (by decide) <| K, q⟩
theorem bX12_does_16 {h0 h : k_H} {Q : k_H → k_R → Prop} {x0 : Nat} {x1 x6 : Int32} {x2 : Int64} (K1 : 6 ≤ x1 → k_X (jX12_does G l h0) h 88 [] [] Q) (K2 : ¬ (6 ≤ x1) → k_X (jX12_does G l h0) h 22 [(0, vR (some x0)), (1, vI x1), (2, vJ x2), (6, vI x6)] [] Q) : k_X (jX12_does G l h0) h 16 [(0, vR (some x0)), (1, vI x1), (2, vJ x2), (6, vI x6)] [] Q := by
  by_cases hc : 6 ≤ x1
  · skip
    obtain ⟨h', r, K, q⟩ := K1 hc
    exact ⟨h', r, j_iload_n dX12_does_16 rfl rfl <| j_bipush (v := 6) dX12_does_17 (by decide) <| j_icmp_ge_t (tgt := 88) dX12_does_19 (by decide) hc (j_pick [] rfl K), q⟩
  · skip
    obtain ⟨h', r, K, q⟩ := K2 hc
    exact ⟨h', r, j_iload_n dX12_does_16 rfl rfl <| j_bipush (v := 6) dX12_does_17 (by decide) <| j_icmp_ge_f dX12_does_19 88 (by decide) hc K, q⟩
theorem bX12_does_22 {h0 h : k_H} {Q : k_H → k_R → Prop} {x0 : Nat} {x1 x6 : Int32} {x2 : Int64} (w : k_is h x0 15) {P : k_H → Int32 → Prop} (c : k_cti (tX12_hasNow G l) [vR (some x0), vJ x2] h P) (K : ∀ h1 v, P h1 v → k_X (jX12_does G l h0) h1 28 [(0, vR (some x0)), (1, vI x1), (2, vJ x2), (6, vI x6)] [vI v, vR (some x0)] Q) : k_X (jX12_does G l h0) h 22 [(0, vR (some x0)), (1, vI x1), (2, vJ x2), (6, vI x6)] [] Q := by
  obtain ⟨h1, v, c, p⟩ := c
  obtain ⟨h', r, K, q⟩ := K h1 v p
  exact ⟨h', r, j_aload_n dX12_does_22 rfl rfl <| j_aload_n dX12_does_23 rfl rfl <| j_lload_n dX12_does_24 rfl rfl <| j_callV (v := some (vI v)) (as := [vJ x2]) dX12_does_25 kc_X12_202 rfl rfl w (by decide) (Nat.le_of_ble_eq_true rfl) c K, q⟩
theorem bX12_does_28 {h0 h : k_H} {Q : k_H → k_R → Prop} {x0 s0 : Nat} {x1 x6 s1 : Int32} {x2 : Int64} {fs1 : List k_V} (o1 : h.1 s0 = some (k_o 15 fs1)) (y2 : k_bl s1) (z1 : fs1.length = 53) (K : k_X (jX12_does G l h0) (k_up h s0 (k_o 15 (fs1.set 33 (vI s1)))) 31 [(0, vR (some x0)), (1, vI x1), (2, vJ x2), (6, vI x6)] [] Q) : k_X (jX12_does G l h0) h 28 [(0, vR (some x0)), (1, vI x1), (2, vJ x2), (6, vI x6)] [vI s1, vR (some s0)] Q := by
  obtain ⟨h', r, K, q⟩ := K
  exact ⟨h', r, j_putf dX12_does_28 kp_X12_230 o1 (k_ln z1 (by decide)) (k_fit_z y2) rfl <| K, q⟩
theorem bX12_does_31 {h0 h : k_H} {Q : k_H → k_R → Prop} {x0 : Nat} {x1 x6 f1_33 : Int32} {x2 : Int64} {fs1 : List k_V} (o1 : h.1 x0 = some (k_o 15 fs1)) (g1_33 : fs1[33]? = some (vI f1_33)) (K1 : f1_33 = 0 → k_X (jX12_does G l h0) h 47 [(0, vR (some x0)), (1, vI x1), (2, vJ x2), (6, vI x6)] [vR (some x0)] Q) (K2 : ¬ (f1_33 = 0) → k_X (jX12_does G l h0) h 39 [(0, vR (some x0)), (1, vI x1), (2, vJ x2), (6, vI x6)] [vR (some x0)] Q) : k_X (jX12_does G l h0) h 31 [(0, vR (some x0)), (1, vI x1), (2, vJ x2), (6, vI x6)] [] Q := by
  by_cases hc : f1_33 = 0
  · skip
    obtain ⟨h', r, K, q⟩ := K1 hc
    exact ⟨h', r, j_aload_n dX12_does_31 rfl rfl <| j_aload_n dX12_does_32 rfl rfl <| j_getf dX12_does_33 kf_X12_230 o1 g1_33 <| j_if_eq_t (tgt := 47) dX12_does_36 (by decide) hc K, q⟩
  · skip
    obtain ⟨h', r, K, q⟩ := K2 hc
    exact ⟨h', r, j_aload_n dX12_does_31 rfl rfl <| j_aload_n dX12_does_32 rfl rfl <| j_getf dX12_does_33 kf_X12_230 o1 g1_33 <| j_if_eq_f dX12_does_36 47 (by decide) hc K, q⟩
theorem bX12_does_39 {h0 h : k_H} {Q : k_H → k_R → Prop} {x0 : Nat} {x1 x6 : Int32} {x2 : Int64} {s0 : Option Nat} (w : k_is h x0 15) {P : k_H → Int32 → Prop} (c : k_cti (tX12_valueNow G l) [vR (some x0), vJ x2] h P) (K : ∀ h1 v, P h1 v → k_X (jX12_does G l h0) h1 44 [(0, vR (some x0)), (1, vI x1), (2, vJ x2), (6, vI x6)] [vI v, vR s0] Q) : k_X (jX12_does G l h0) h 39 [(0, vR (some x0)), (1, vI x1), (2, vJ x2), (6, vI x6)] [vR s0] Q := by
  obtain ⟨h1, v, c, p⟩ := c
  obtain ⟨h', r, K, q⟩ := K h1 v p
  exact ⟨h', r, j_aload_n dX12_does_39 rfl rfl <| j_lload_n dX12_does_40 rfl rfl <| j_callV (v := some (vI v)) (as := [vJ x2]) dX12_does_41 kc_X12_206 rfl rfl w (by decide) (Nat.le_of_ble_eq_true rfl) c K, q⟩
theorem bX12_does_44 {h0 h : k_H} {Q : k_H → k_R → Prop} {x0 : Nat} {x1 x6 s1 : Int32} {x2 : Int64} {s0 : Option Nat} (K : k_X (jX12_does G l h0) h 48 [(0, vR (some x0)), (1, vI x1), (2, vJ x2), (6, vI x6)] [vI s1, vR s0] Q) : k_X (jX12_does G l h0) h 44 [(0, vR (some x0)), (1, vI x1), (2, vJ x2), (6, vI x6)] [vI s1, vR s0] Q := by
  obtain ⟨h', r, K, q⟩ := K
  exact ⟨h', r, j_goto (tgt := 48) dX12_does_44 (by decide) <| K, q⟩
theorem bX12_does_47 {h0 h : k_H} {Q : k_H → k_R → Prop} {x0 : Nat} {x1 x6 : Int32} {x2 : Int64} {s0 : Option Nat} (K : k_X (jX12_does G l h0) h 48 [(0, vR (some x0)), (1, vI x1), (2, vJ x2), (6, vI x6)] [vI 0, vR s0] Q) : k_X (jX12_does G l h0) h 47 [(0, vR (some x0)), (1, vI x1), (2, vJ x2), (6, vI x6)] [vR s0] Q := by
  obtain ⟨h', r, K, q⟩ := K
  exact ⟨h', r, j_iconst (v := 0) dX12_does_47 (by decide) <| K, q⟩
theorem bX12_does_48 {h0 h : k_H} {Q : k_H → k_R → Prop} {x0 s0 : Nat} {x1 x6 s1 : Int32} {x2 : Int64} {fs1 : List k_V} (o1 : h.1 s0 = some (k_o 15 fs1)) (z1 : fs1.length = 53) (K : k_X (jX12_does G l h0) (k_up h s0 (k_o 15 (fs1.set 34 (vI s1)))) 51 [(0, vR (some x0)), (1, vI x1), (2, vJ x2), (6, vI x6)] [] Q) : k_X (jX12_does G l h0) h 48 [(0, vR (some x0)), (1, vI x1), (2, vJ x2), (6, vI x6)] [vI s1, vR (some s0)] Q := by
  obtain ⟨h', r, K, q⟩ := K
  exact ⟨h', r, j_putf dX12_does_48 kp_X12_234 o1 (k_ln z1 (by decide)) (k_fit_i _) rfl <| K, q⟩
theorem bX12_does_51 {h0 h : k_H} {Q : k_H → k_R → Prop} {x0 : Nat} {x1 x6 : Int32} {x2 : Int64} {fs1 : List k_V} (o1 : h.1 x0 = some (k_o 15 fs1)) (z1 : fs1.length = 53) (K : k_X (jX12_does G l h0) (k_up h x0 (k_o 15 (fs1.set 35 (vI 0)))) 56 [(0, vR (some x0)), (1, vI x1), (2, vJ x2), (6, vI x6)] [] Q) : k_X (jX12_does G l h0) h 51 [(0, vR (some x0)), (1, vI x1), (2, vJ x2), (6, vI x6)] [] Q := by
  obtain ⟨h', r, K, q⟩ := K
  exact ⟨h', r, j_aload_n dX12_does_51 rfl rfl <| j_iconst (v := 0) dX12_does_52 (by decide) <| j_putf dX12_does_53 kp_X12_237 o1 (k_ln z1 (by decide)) (k_fit_z (by decide)) rfl <| K, q⟩
theorem bX12_does_56 {h0 h : k_H} {Q : k_H → k_R → Prop} {x0 : Nat} {x1 x6 : Int32} {x2 : Int64} (K1 : ¬ (x1 = 5) → k_X (jX12_does G l h0) h 70 [(0, vR (some x0)), (2, vJ x2), (6, vI x6)] [vI x1, vR (some x0)] Q) (K2 : x1 = 5 → k_X (jX12_does G l h0) h 63 [(0, vR (some x0)), (2, vJ x2)] [vI x1, vR (some x0)] Q) : k_X (jX12_does G l h0) h 56 [(0, vR (some x0)), (1, vI x1), (2, vJ x2), (6, vI x6)] [] Q := by
  by_cases hc : x1 = 5
  · skip
    obtain ⟨h', r, K, q⟩ := K2 hc
    exact ⟨h', r, j_aload_n dX12_does_56 rfl rfl <| j_iload_n dX12_does_57 rfl rfl <| j_iload_n dX12_does_58 rfl rfl <| j_iconst (v := 5) dX12_does_59 (by decide) <| j_icmp_ne_f dX12_does_60 70 (by decide) hc (j_pick [0, 2] rfl K), q⟩
  · skip
    obtain ⟨h', r, K, q⟩ := K1 hc
    exact ⟨h', r, j_aload_n dX12_does_56 rfl rfl <| j_iload_n dX12_does_57 rfl rfl <| j_iload_n dX12_does_58 rfl rfl <| j_iconst (v := 5) dX12_does_59 (by decide) <| j_icmp_ne_t (tgt := 70) dX12_does_60 (by decide) hc (j_pick [0, 2, 3] rfl K), q⟩
theorem bX12_does_63 {h0 h : k_H} {Q : k_H → k_R → Prop} {x0 : Nat} {x2 : Int64} {s0 : Option Nat} {s1 f1_0 : Int32} {fs1 : List k_V} (o1 : h.1 x0 = some (k_o 15 fs1)) (g1_0 : fs1[0]? = some (vI f1_0)) (K : k_X (jX12_does G l h0) h 72 [(0, vR (some x0)), (2, vJ x2)] [vI f1_0, vI s1, vR s0] Q) : k_X (jX12_does G l h0) h 63 [(0, vR (some x0)), (2, vJ x2)] [vI s1, vR s0] Q := by
  obtain ⟨h', r, K, q⟩ := K
  exact ⟨h', r, j_aload_n dX12_does_63 rfl rfl <| j_getf dX12_does_64 kf_X12_176 o1 g1_0 <| j_goto (tgt := 72) dX12_does_67 (by decide) <| K, q⟩
theorem bX12_does_70 {h0 h : k_H} {Q : k_H → k_R → Prop} {x0 : Nat} {x2 : Int64} {x6 s1 : Int32} {s0 : Option Nat} (K : k_X (jX12_does G l h0) h 72 [(0, vR (some x0)), (2, vJ x2)] [vI x6, vI s1, vR s0] Q) : k_X (jX12_does G l h0) h 70 [(0, vR (some x0)), (2, vJ x2), (6, vI x6)] [vI s1, vR s0] Q := by
  obtain ⟨h', r, K, q⟩ := K
  exact ⟨h', r, j_iload dX12_does_70 rfl <| (j_pick [0, 1] rfl K), q⟩
theorem bX12_does_72 {h0 h : k_H} {Q : k_H → k_R → Prop} {x0 s0 : Nat} {x2 : Int64} {s1 s2 : Int32} (w : k_is h s0 15) {P : k_H → Prop} (c : k_ctv (tX12_follows G l) [vR (some s0), vI s1, vI s2] h P) (K : ∀ h1, P h1 → k_X (jX12_does G l h0) h1 75 [(0, vR (some x0)), (2, vJ x2)] [] Q) : k_X (jX12_does G l h0) h 72 [(0, vR (some x0)), (2, vJ x2)] [vI s2, vI s1, vR (some s0)] Q := by
  obtain ⟨h1, c, p⟩ := c
  obtain ⟨h', r, K, q⟩ := K h1 p
  exact ⟨h', r, j_callV (v := none) (as := [vI s1, vI s2]) dX12_does_72 kc_X12_243 rfl rfl w (by decide) (Nat.le_of_ble_eq_true rfl) c K, q⟩
theorem bX12_does_75 {h0 h : k_H} {Q : k_H → k_R → Prop} {x0 : Nat} {x2 : Int64} {f1_33 f1_34 : Int32} {fs1 : List k_V} (o1 : h.1 x0 = some (k_o 15 fs1)) (g1_33 : fs1[33]? = some (vI f1_33)) (g1_34 : fs1[34]? = some (vI f1_34)) {P : k_H → Prop} (c : k_ctv (tX12_puts G l) [vR (some x0), vJ x2, vI f1_33, vI f1_34] h P) (K : ∀ h1, P h1 → k_X (jX12_does G l h0) h1 88 [] [] Q) : k_X (jX12_does G l h0) h 75 [(0, vR (some x0)), (2, vJ x2)] [] Q := by
  obtain ⟨h1, c, p⟩ := c
  obtain ⟨h', r, K, q⟩ := K h1 p
  exact ⟨h', r, j_aload_n dX12_does_75 rfl rfl <| j_lload_n dX12_does_76 rfl rfl <| j_aload_n dX12_does_77 rfl rfl <| j_getf dX12_does_78 kf_X12_230 o1 g1_33 <| j_aload_n dX12_does_81 rfl rfl <| j_getf dX12_does_82 kf_X12_234 o1 g1_34 <| j_callV (v := none) (as := [vJ x2, vI f1_33, vI f1_34]) dX12_does_85 kc_X12_192 rfl rfl (k_is_o o1) (by decide) (Nat.le_of_ble_eq_true rfl) c (j_pick [] rfl K), q⟩
theorem bX12_does_88 {h0 h : k_H} {Q : k_H → k_R → Prop} (q : Q h (.inl none)) : k_X (jX12_does G l h0) h 88 [] [] Q := by
  exact ⟨_, _, j_vret dX12_does_88 rfl, q⟩
theorem eX12_applies {G : k_G} {l : Launch} (hfl : l.flags = flags0) {h : k_H} {Q : k_H → k_R → Prop} {x0 : Nat} {x1 : Int32} (K : k_X (jX12_applies G l h) h 0 [(0, vR (some x0)), (1, vI x1)] [] Q) : k_ct (tX12_applies G l) [vR (some x0), vI x1] h Q := by
  obtain ⟨h', r, K, q⟩ := K
  exact ⟨h', r, k_CtOf (by decide +kernel) (Nat.le_of_ble_eq_true rfl) K hfl, q⟩

theorem bX12_applies_0 {h0 h : k_H} {Q : k_H → k_R → Prop} {x0 : Nat} {x1 : Int32} (w : k_is h x0 15) {P : k_H → Prop} (c : k_ctv (tX12_opens G l) [vR (some x0)] h P) (K : ∀ h1, P h1 → k_X (jX12_applies G l h0) h1 4 [(0, vR (some x0)), (1, vI x1)] [] Q) : k_X (jX12_applies G l h0) h 0 [(0, vR (some x0)), (1, vI x1)] [] Q := by
  obtain ⟨h1, c, p⟩ := c
  obtain ⟨h', r, K, q⟩ := K h1 p
  exact ⟨h', r, j_aload_n dX12_applies_0 rfl rfl <| j_callV (v := none) (as := []) dX12_applies_1 kc_X12_319 rfl rfl w (by decide) (Nat.le_of_ble_eq_true rfl) c K, q⟩
theorem bX12_applies_4 {h0 h : k_H} {Q : k_H → k_R → Prop} {x0 : Nat} {x1 : Int32} (K : k_X (jX12_applies G l h0) h 6 [(0, vR (some x0)), (1, vI x1), (2, vI 0)] [] Q) : k_X (jX12_applies G l h0) h 4 [(0, vR (some x0)), (1, vI x1)] [] Q := by
  obtain ⟨h', r, K, q⟩ := K
  exact ⟨h', r, j_iconst (v := 0) dX12_applies_4 (by decide) <| j_istore_n dX12_applies_5 rfl (by decide) rfl <| K, q⟩
theorem bX12_applies_6 {h0 h : k_H} {Q : k_H → k_R → Prop} {x0 f1_20 : Nat} {x1 x2 : Int32} {fs1 : List k_V} (o1 : h.1 x0 = some (k_o 15 fs1)) (g1_20 : fs1[20]? = some (vR (some f1_20))) {n2 : Nat} {w2 : Nat → Int32} (o2 : h.1 f1_20 = some (k_i n2 w2)) (y3 : vp_in x1 n2) (K1 : (w2 (x1).toNatClampNeg) ≤ x2 → k_X (jX12_applies G l h0) h 57 [(0, vR (some x0)), (1, vI x1)] [] Q) (K2 : ¬ ((w2 (x1).toNatClampNeg) ≤ x2) → k_X (jX12_applies G l h0) h 16 [(0, vR (some x0)), (1, vI x1), (2, vI x2)] [] Q) : k_X (jX12_applies G l h0) h 6 [(0, vR (some x0)), (1, vI x1), (2, vI x2)] [] Q := by
  by_cases hc : (w2 (x1).toNatClampNeg) ≤ x2
  · skip
    obtain ⟨h', r, K, q⟩ := K1 hc
    exact ⟨h', r, j_iload_n dX12_applies_6 rfl rfl <| j_aload_n dX12_applies_7 rfl rfl <| j_getf dX12_applies_8 kf_X12_57 o1 g1_20 <| j_iload_n dX12_applies_11 rfl rfl <| j_iald dX12_applies_12 o2 y3 <| j_icmp_ge_t (tgt := 57) dX12_applies_13 (by decide) hc (j_pick [0, 1] rfl K), q⟩
  · skip
    obtain ⟨h', r, K, q⟩ := K2 hc
    exact ⟨h', r, j_iload_n dX12_applies_6 rfl rfl <| j_aload_n dX12_applies_7 rfl rfl <| j_getf dX12_applies_8 kf_X12_57 o1 g1_20 <| j_iload_n dX12_applies_11 rfl rfl <| j_iald dX12_applies_12 o2 y3 <| j_icmp_ge_f dX12_applies_13 57 (by decide) hc K, q⟩
theorem bX12_applies_16 {h0 h : k_H} {Q : k_H → k_R → Prop} {x0 : Nat} {x1 x2 : Int32} (w : k_is h x0 15) {P : k_H → Int32 → Prop} (c : k_cti (tX12_changeAt G l) [vR (some x0), vI x1, vI x2] h P) (K : ∀ h1 v, P h1 v → k_X (jX12_applies G l h0) h1 22 [(0, vR (some x0)), (1, vI x1), (2, vI x2)] [vI v] Q) : k_X (jX12_applies G l h0) h 16 [(0, vR (some x0)), (1, vI x1), (2, vI x2)] [] Q := by
  obtain ⟨h1, v, c, p⟩ := c
  obtain ⟨h', r, K, q⟩ := K h1 v p
  exact ⟨h', r, j_aload_n dX12_applies_16 rfl rfl <| j_iload_n dX12_applies_17 rfl rfl <| j_iload_n dX12_applies_18 rfl rfl <| j_callV (v := some (vI v)) (as := [vI x1, vI x2]) dX12_applies_19 kc_X12_240 rfl rfl w (by decide) (Nat.le_of_ble_eq_true rfl) c K, q⟩
theorem bX12_applies_22 {h0 h : k_H} {Q : k_H → k_R → Prop} {x0 f1_21 f1_22 f1_23 f1_24 : Nat} {x1 x2 s0 : Int32} {fs1 : List k_V} (o1 : h.1 x0 = some (k_o 15 fs1)) (g1_21 : fs1[21]? = some (vR (some f1_21))) {n2 : Nat} {w2 : Nat → Int32} (o2 : h.1 f1_21 = some (k_i n2 w2)) (y3 : vp_in s0 n2) (g1_22 : fs1[22]? = some (vR (some f1_22))) {n4 : Nat} {w4 : Nat → Int64} (o4 : h.1 f1_22 = some (k_j n4 w4)) (y5 : vp_in s0 n4) (g1_23 : fs1[23]? = some (vR (some f1_23))) {n6 : Nat} {w6 : Nat → Int64} (o6 : h.1 f1_23 = some (k_j n6 w6)) (y7 : vp_in s0 n6) (g1_24 : fs1[24]? = some (vR (some f1_24))) {n8 : Nat} {w8 : Nat → Int32} (o8 : h.1 f1_24 = some (k_i n8 w8)) (y9 : vp_in s0 n8) {P : k_H → Prop} (c : k_ctv (tX12_does G l) [vR (some x0), vI (w2 (s0).toNatClampNeg), vJ (w4 (s0).toNatClampNeg), vJ (w6 (s0).toNatClampNeg), vI (w8 (s0).toNatClampNeg)] h P) (K : ∀ h1, P h1 → k_X (jX12_applies G l h0) h1 51 [(0, vR (some x0)), (1, vI x1), (2, vI x2)] [] Q) : k_X (jX12_applies G l h0) h 22 [(0, vR (some x0)), (1, vI x1), (2, vI x2)] [vI s0] Q := by
  obtain ⟨h1, c, p⟩ := c
  obtain ⟨h', r, K, q⟩ := K h1 p
  exact ⟨h', r, j_istore_n dX12_applies_22 rfl (by decide) rfl <| j_aload_n dX12_applies_23 rfl rfl <| j_aload_n dX12_applies_24 rfl rfl <| j_getf dX12_applies_25 kf_X12_60 o1 g1_21 <| j_iload_n dX12_applies_28 rfl rfl <| j_iald dX12_applies_29 o2 y3 <| j_aload_n dX12_applies_30 rfl rfl <| j_getf dX12_applies_31 kf_X12_63 o1 g1_22 <| j_iload_n dX12_applies_34 rfl rfl <| j_lald dX12_applies_35 o4 y5 <| j_aload_n dX12_applies_36 rfl rfl <| j_getf dX12_applies_37 kf_X12_66 o1 g1_23 <| j_iload_n dX12_applies_40 rfl rfl <| j_lald dX12_applies_41 o6 y7 <| j_aload_n dX12_applies_42 rfl rfl <| j_getf dX12_applies_43 kf_X12_69 o1 g1_24 <| j_iload_n dX12_applies_46 rfl rfl <| j_iald dX12_applies_47 o8 y9 <| j_callV (v := none) (as := [vI (w2 (s0).toNatClampNeg), vJ (w4 (s0).toNatClampNeg), vJ (w6 (s0).toNatClampNeg), vI (w8 (s0).toNatClampNeg)]) dX12_applies_48 kc_X12_322 rfl rfl (k_is_o o1) (by decide) (Nat.le_of_ble_eq_true rfl) c (j_pick [0, 1, 2] rfl K), q⟩
theorem bX12_applies_51 {h0 h : k_H} {Q : k_H → k_R → Prop} {x0 : Nat} {x1 x2 : Int32} (K : k_X (jX12_applies G l h0) h 6 [(0, vR (some x0)), (1, vI x1), (2, vI (x2 + 1))] [] Q) : k_X (jX12_applies G l h0) h 51 [(0, vR (some x0)), (1, vI x1), (2, vI x2)] [] Q := by
  obtain ⟨h', r, K, q⟩ := K
  exact ⟨h', r, j_iinc (v := x2 + 1) dX12_applies_51 rfl (by decide) rfl rfl <| j_goto (tgt := 6) dX12_applies_54 (by decide) <| K, q⟩
theorem bX12_applies_57 {h0 h : k_H} {Q : k_H → k_R → Prop} {x0 : Nat} {x1 : Int32} (K : k_X (jX12_applies G l h0) h 59 [(0, vR (some x0)), (1, vI x1), (2, vI 0)] [] Q) : k_X (jX12_applies G l h0) h 57 [(0, vR (some x0)), (1, vI x1)] [] Q := by
  obtain ⟨h', r, K, q⟩ := K
  exact ⟨h', r, j_iconst (v := 0) dX12_applies_57 (by decide) <| j_istore_n dX12_applies_58 rfl (by decide) rfl <| K, q⟩
theorem bX12_applies_59 {h0 h : k_H} {Q : k_H → k_R → Prop} {x0 f1_20 : Nat} {x1 x2 : Int32} {fs1 : List k_V} (o1 : h.1 x0 = some (k_o 15 fs1)) (g1_20 : fs1[20]? = some (vR (some f1_20))) {n2 : Nat} {w2 : Nat → Int32} (o2 : h.1 f1_20 = some (k_i n2 w2)) (y3 : vp_in x1 n2) (K1 : (w2 (x1).toNatClampNeg) ≤ x2 → k_X (jX12_applies G l h0) h 134 [(0, vR (some x0))] [] Q) (K2 : ¬ ((w2 (x1).toNatClampNeg) ≤ x2) → k_X (jX12_applies G l h0) h 69 [(0, vR (some x0)), (1, vI x1), (2, vI x2)] [] Q) : k_X (jX12_applies G l h0) h 59 [(0, vR (some x0)), (1, vI x1), (2, vI x2)] [] Q := by
  by_cases hc : (w2 (x1).toNatClampNeg) ≤ x2
  · skip
    obtain ⟨h', r, K, q⟩ := K1 hc
    exact ⟨h', r, j_iload_n dX12_applies_59 rfl rfl <| j_aload_n dX12_applies_60 rfl rfl <| j_getf dX12_applies_61 kf_X12_57 o1 g1_20 <| j_iload_n dX12_applies_64 rfl rfl <| j_iald dX12_applies_65 o2 y3 <| j_icmp_ge_t (tgt := 134) dX12_applies_66 (by decide) hc (j_pick [0] rfl K), q⟩
  · skip
    obtain ⟨h', r, K, q⟩ := K2 hc
    exact ⟨h', r, j_iload_n dX12_applies_59 rfl rfl <| j_aload_n dX12_applies_60 rfl rfl <| j_getf dX12_applies_61 kf_X12_57 o1 g1_20 <| j_iload_n dX12_applies_64 rfl rfl <| j_iald dX12_applies_65 o2 y3 <| j_icmp_ge_f dX12_applies_66 134 (by decide) hc K, q⟩
theorem bX12_applies_69 {h0 h : k_H} {Q : k_H → k_R → Prop} {x0 : Nat} {x1 x2 : Int32} (w : k_is h x0 15) {P : k_H → Int32 → Prop} (c : k_cti (tX12_changeAt G l) [vR (some x0), vI x1, vI x2] h P) (K : ∀ h1 v, P h1 v → k_X (jX12_applies G l h0) h1 75 [(0, vR (some x0)), (1, vI x1), (2, vI x2)] [vI v] Q) : k_X (jX12_applies G l h0) h 69 [(0, vR (some x0)), (1, vI x1), (2, vI x2)] [] Q := by
  obtain ⟨h1, v, c, p⟩ := c
  obtain ⟨h', r, K, q⟩ := K h1 v p
  exact ⟨h', r, j_aload_n dX12_applies_69 rfl rfl <| j_iload_n dX12_applies_70 rfl rfl <| j_iload_n dX12_applies_71 rfl rfl <| j_callV (v := some (vI v)) (as := [vI x1, vI x2]) dX12_applies_72 kc_X12_240 rfl rfl w (by decide) (Nat.le_of_ble_eq_true rfl) c K, q⟩
theorem bX12_applies_75 {h0 h : k_H} {Q : k_H → k_R → Prop} {x0 f1_21 : Nat} {x1 x2 s0 : Int32} {fs1 : List k_V} (o1 : h.1 x0 = some (k_o 15 fs1)) (g1_21 : fs1[21]? = some (vR (some f1_21))) {n2 : Nat} {w2 : Nat → Int32} (o2 : h.1 f1_21 = some (k_i n2 w2)) (y3 : vp_in s0 n2) (K1 : (w2 (s0).toNatClampNeg) = 6 → k_X (jX12_applies G l h0) h 98 [(0, vR (some x0)), (1, vI x1), (2, vI x2), (3, vI s0)] [] Q) (K2 : ¬ ((w2 (s0).toNatClampNeg) = 6) → k_X (jX12_applies G l h0) h 87 [(0, vR (some x0)), (1, vI x1), (2, vI x2), (3, vI s0)] [] Q) : k_X (jX12_applies G l h0) h 75 [(0, vR (some x0)), (1, vI x1), (2, vI x2)] [vI s0] Q := by
  by_cases hc : (w2 (s0).toNatClampNeg) = 6
  · skip
    obtain ⟨h', r, K, q⟩ := K1 hc
    exact ⟨h', r, j_istore_n dX12_applies_75 rfl (by decide) rfl <| j_aload_n dX12_applies_76 rfl rfl <| j_getf dX12_applies_77 kf_X12_60 o1 g1_21 <| j_iload_n dX12_applies_80 rfl rfl <| j_iald dX12_applies_81 o2 y3 <| j_bipush (v := 6) dX12_applies_82 (by decide) <| j_icmp_eq_t (tgt := 98) dX12_applies_84 (by decide) hc K, q⟩
  · skip
    obtain ⟨h', r, K, q⟩ := K2 hc
    exact ⟨h', r, j_istore_n dX12_applies_75 rfl (by decide) rfl <| j_aload_n dX12_applies_76 rfl rfl <| j_getf dX12_applies_77 kf_X12_60 o1 g1_21 <| j_iload_n dX12_applies_80 rfl rfl <| j_iald dX12_applies_81 o2 y3 <| j_bipush (v := 6) dX12_applies_82 (by decide) <| j_icmp_eq_f dX12_applies_84 98 (by decide) hc K, q⟩
theorem bX12_applies_87 {h0 h : k_H} {Q : k_H → k_R → Prop} {x0 f1_21 : Nat} {x1 x2 x3 : Int32} {fs1 : List k_V} (o1 : h.1 x0 = some (k_o 15 fs1)) (g1_21 : fs1[21]? = some (vR (some f1_21))) {n2 : Nat} {w2 : Nat → Int32} (o2 : h.1 f1_21 = some (k_i n2 w2)) (y3 : vp_in x3 n2) (K1 : ¬ ((w2 (x3).toNatClampNeg) = 8) → k_X (jX12_applies G l h0) h 128 [(0, vR (some x0)), (1, vI x1), (2, vI x2)] [] Q) (K2 : (w2 (x3).toNatClampNeg) = 8 → k_X (jX12_applies G l h0) h 98 [(0, vR (some x0)), (1, vI x1), (2, vI x2), (3, vI x3)] [] Q) : k_X (jX12_applies G l h0) h 87 [(0, vR (some x0)), (1, vI x1), (2, vI x2), (3, vI x3)] [] Q := by
  by_cases hc : (w2 (x3).toNatClampNeg) = 8
  · skip
    obtain ⟨h', r, K, q⟩ := K2 hc
    exact ⟨h', r, j_aload_n dX12_applies_87 rfl rfl <| j_getf dX12_applies_88 kf_X12_60 o1 g1_21 <| j_iload_n dX12_applies_91 rfl rfl <| j_iald dX12_applies_92 o2 y3 <| j_bipush (v := 8) dX12_applies_93 (by decide) <| j_icmp_ne_f dX12_applies_95 128 (by decide) hc K, q⟩
  · skip
    obtain ⟨h', r, K, q⟩ := K1 hc
    exact ⟨h', r, j_aload_n dX12_applies_87 rfl rfl <| j_getf dX12_applies_88 kf_X12_60 o1 g1_21 <| j_iload_n dX12_applies_91 rfl rfl <| j_iald dX12_applies_92 o2 y3 <| j_bipush (v := 8) dX12_applies_93 (by decide) <| j_icmp_ne_t (tgt := 128) dX12_applies_95 (by decide) hc (j_pick [0, 1, 2] rfl K), q⟩
theorem bX12_applies_98 {h0 h : k_H} {Q : k_H → k_R → Prop} {x0 f1_22 f1_21 : Nat} {x1 x2 x3 f1_0 : Int32} {fs1 : List k_V} (o1 : h.1 x0 = some (k_o 15 fs1)) (g1_22 : fs1[22]? = some (vR (some f1_22))) {n2 : Nat} {w2 : Nat → Int64} (o2 : h.1 f1_22 = some (k_j n2 w2)) (y3 : vp_in x3 n2) (g1_21 : fs1[21]? = some (vR (some f1_21))) {n4 : Nat} {w4 : Nat → Int32} (o4 : h.1 f1_21 = some (k_i n4 w4)) (y5 : vp_in x3 n4) (g1_0 : fs1[0]? = some (vI f1_0)) {P : k_H → Int64 → Prop} (c : k_ctj (tX12_stamped G l) [vJ (w2 (x3).toNatClampNeg), vI (w4 (x3).toNatClampNeg), vI f1_0] h P) (K : ∀ h1 v, P h1 v → k_X (jX12_applies G l h0) h1 118 [(0, vR (some x0)), (1, vI x1), (2, vI x2), (3, vI x3)] [vJ v, vR (some x0)] Q) : k_X (jX12_applies G l h0) h 98 [(0, vR (some x0)), (1, vI x1), (2, vI x2), (3, vI x3)] [] Q := by
  obtain ⟨h1, v, c, p⟩ := c
  obtain ⟨h', r, K, q⟩ := K h1 v p
  exact ⟨h', r, j_aload_n dX12_applies_98 rfl rfl <| j_aload_n dX12_applies_99 rfl rfl <| j_getf dX12_applies_100 kf_X12_63 o1 g1_22 <| j_iload_n dX12_applies_103 rfl rfl <| j_lald dX12_applies_104 o2 y3 <| j_aload_n dX12_applies_105 rfl rfl <| j_getf dX12_applies_106 kf_X12_60 o1 g1_21 <| j_iload_n dX12_applies_109 rfl rfl <| j_iald dX12_applies_110 o4 y5 <| j_aload_n dX12_applies_111 rfl rfl <| j_getf dX12_applies_112 kf_X12_176 o1 g1_0 <| j_callS (v := some (vJ v)) (as := [vJ (w2 (x3).toNatClampNeg), vI (w4 (x3).toNatClampNeg), vI f1_0]) dX12_applies_115 kc_X12_326 rfl rfl (by decide) (Nat.le_of_ble_eq_true rfl) c K, q⟩
theorem bX12_applies_118 {h0 h : k_H} {Q : k_H → k_R → Prop} {x0 s0 f1_24 : Nat} {x1 x2 x3 : Int32} {s1 : Int64} {fs1 : List k_V} (o1 : h.1 x0 = some (k_o 15 fs1)) (g1_24 : fs1[24]? = some (vR (some f1_24))) {n2 : Nat} {w2 : Nat → Int32} (o2 : h.1 f1_24 = some (k_i n2 w2)) (y3 : vp_in x3 n2) (w : k_is h s0 15) {P : k_H → Prop} (c : k_ctv (tX12_puts G l) [vR (some s0), vJ s1, vI 1, vI (w2 (x3).toNatClampNeg)] h P) (K : ∀ h1, P h1 → k_X (jX12_applies G l h0) h1 128 [(0, vR (some x0)), (1, vI x1), (2, vI x2)] [] Q) : k_X (jX12_applies G l h0) h 118 [(0, vR (some x0)), (1, vI x1), (2, vI x2), (3, vI x3)] [vJ s1, vR (some s0)] Q := by
  obtain ⟨h1, c, p⟩ := c
  obtain ⟨h', r, K, q⟩ := K h1 p
  exact ⟨h', r, j_iconst (v := 1) dX12_applies_118 (by decide) <| j_aload_n dX12_applies_119 rfl rfl <| j_getf dX12_applies_120 kf_X12_69 o1 g1_24 <| j_iload_n dX12_applies_123 rfl rfl <| j_iald dX12_applies_124 o2 y3 <| j_callV (v := none) (as := [vJ s1, vI 1, vI (w2 (x3).toNatClampNeg)]) dX12_applies_125 kc_X12_192 rfl rfl w (by decide) (Nat.le_of_ble_eq_true rfl) c (j_pick [0, 1, 2] rfl K), q⟩
theorem bX12_applies_128 {h0 h : k_H} {Q : k_H → k_R → Prop} {x0 : Nat} {x1 x2 : Int32} (K : k_X (jX12_applies G l h0) h 59 [(0, vR (some x0)), (1, vI x1), (2, vI (x2 + 1))] [] Q) : k_X (jX12_applies G l h0) h 128 [(0, vR (some x0)), (1, vI x1), (2, vI x2)] [] Q := by
  obtain ⟨h', r, K, q⟩ := K
  exact ⟨h', r, j_iinc (v := x2 + 1) dX12_applies_128 rfl (by decide) rfl rfl <| j_goto (tgt := 59) dX12_applies_131 (by decide) <| K, q⟩
theorem bX12_applies_134 {h0 h : k_H} {Q : k_H → k_R → Prop} {x0 : Nat} (w : k_is h x0 15) {P : k_H → Prop} (c : k_ctv (tX12_closes G l) [vR (some x0)] h P) (K : ∀ h1, P h1 → k_X (jX12_applies G l h0) h1 138 [] [] Q) : k_X (jX12_applies G l h0) h 134 [(0, vR (some x0))] [] Q := by
  obtain ⟨h1, c, p⟩ := c
  obtain ⟨h', r, K, q⟩ := K h1 p
  exact ⟨h', r, j_aload_n dX12_applies_134 rfl rfl <| j_callV (v := none) (as := []) dX12_applies_135 kc_X12_330 rfl rfl w (by decide) (Nat.le_of_ble_eq_true rfl) c (j_pick [] rfl K), q⟩
theorem bX12_applies_138 {h0 h : k_H} {Q : k_H → k_R → Prop} (q : Q h (.inl none)) : k_X (jX12_applies G l h0) h 138 [] [] Q := by
  exact ⟨_, _, j_vret dX12_applies_138 rfl, q⟩
theorem eX12_commit {G : k_G} {l : Launch} (hfl : l.flags = flags0) {h : k_H} {Q : k_H → k_R → Prop} {x0 : Nat} {x1 : Int32} (K : k_X (jX12_commit G l h) h 0 [(0, vR (some x0)), (1, vI x1)] [] Q) : k_ct (tX12_commit G l) [vR (some x0), vI x1] h Q := by
  obtain ⟨h', r, K, q⟩ := K
  exact ⟨h', r, k_CtOf (by decide +kernel) (Nat.le_of_ble_eq_true rfl) K hfl, q⟩

theorem bX12_commit_0 {h0 h : k_H} {Q : k_H → k_R → Prop} {x0 : Nat} {x1 : Int32} {P : k_H → Int32 → Prop} (c : k_cti (tX12_isTransaction G l) [vI x1] h P) (K : ∀ h1 v, P h1 v → k_X (jX12_commit G l h0) h1 4 [(0, vR (some x0)), (1, vI x1)] [vI v] Q) : k_X (jX12_commit G l h0) h 0 [(0, vR (some x0)), (1, vI x1)] [] Q := by
  obtain ⟨h1, v, c, p⟩ := c
  obtain ⟨h', r, K, q⟩ := K h1 v p
  exact ⟨h', r, j_iload_n dX12_commit_0 rfl rfl <| j_callS (v := some (vI v)) (as := [vI x1]) dX12_commit_1 kc_X12_262 rfl rfl (by decide) (Nat.le_of_ble_eq_true rfl) c K, q⟩
theorem bX12_commit_4 {h0 h : k_H} {Q : k_H → k_R → Prop} {x0 : Nat} {x1 s0 : Int32} (K1 : ¬ (s0 = 0) → k_X (jX12_commit G l h0) h 14 [(0, vR (some x0)), (1, vI x1)] [vR (some x0)] Q) (K2 : s0 = 0 → k_X (jX12_commit G l h0) h 10 [(0, vR (some x0)), (1, vI x1)] [vR (some x0)] Q) : k_X (jX12_commit G l h0) h 4 [(0, vR (some x0)), (1, vI x1)] [vI s0] Q := by
  by_cases hc : s0 = 0
  · skip
    obtain ⟨h', r, K, q⟩ := K2 hc
    exact ⟨h', r, j_istore_n dX12_commit_4 rfl (by decide) rfl <| j_aload_n dX12_commit_5 rfl rfl <| j_iload_n dX12_commit_6 rfl rfl <| j_if_ne_f dX12_commit_7 14 (by decide) hc (j_pick [0, 1] rfl K), q⟩
  · skip
    obtain ⟨h', r, K, q⟩ := K1 hc
    exact ⟨h', r, j_istore_n dX12_commit_4 rfl (by decide) rfl <| j_aload_n dX12_commit_5 rfl rfl <| j_iload_n dX12_commit_6 rfl rfl <| j_if_ne_t (tgt := 14) dX12_commit_7 (by decide) hc (j_pick [0, 1] rfl K), q⟩
theorem bX12_commit_10 {h0 h : k_H} {Q : k_H → k_R → Prop} {x0 : Nat} {x1 : Int32} {s0 : Option Nat} (K : k_X (jX12_commit G l h0) h 28 [(0, vR (some x0)), (1, vI x1)] [vI 1, vR s0] Q) : k_X (jX12_commit G l h0) h 10 [(0, vR (some x0)), (1, vI x1)] [vR s0] Q := by
  obtain ⟨h', r, K, q⟩ := K
  exact ⟨h', r, j_iconst (v := 1) dX12_commit_10 (by decide) <| j_goto (tgt := 28) dX12_commit_11 (by decide) <| K, q⟩
theorem bX12_commit_14 {h0 h : k_H} {Q : k_H → k_R → Prop} {x0 f1_14 : Nat} {x1 : Int32} {s0 : Option Nat} {fs1 : List k_V} (o1 : h.1 x0 = some (k_o 15 fs1)) (g1_14 : fs1[14]? = some (vR (some f1_14))) {n2 : Nat} {w2 : Nat → Int32} (o2 : h.1 f1_14 = some (k_z n2 w2)) (y3 : vp_in x1 n2) (K1 : (w2 (x1).toNatClampNeg) = 0 → k_X (jX12_commit G l h0) h 27 [(0, vR (some x0)), (1, vI x1)] [vR s0] Q) (K2 : ¬ ((w2 (x1).toNatClampNeg) = 0) → k_X (jX12_commit G l h0) h 23 [(0, vR (some x0)), (1, vI x1)] [vR s0] Q) : k_X (jX12_commit G l h0) h 14 [(0, vR (some x0)), (1, vI x1)] [vR s0] Q := by
  by_cases hc : (w2 (x1).toNatClampNeg) = 0
  · skip
    obtain ⟨h', r, K, q⟩ := K1 hc
    exact ⟨h', r, j_aload_n dX12_commit_14 rfl rfl <| j_getf dX12_commit_15 kf_X12_42 o1 g1_14 <| j_iload_n dX12_commit_18 rfl rfl <| j_zald dX12_commit_19 o2 y3 <| j_if_eq_t (tgt := 27) dX12_commit_20 (by decide) hc K, q⟩
  · skip
    obtain ⟨h', r, K, q⟩ := K2 hc
    exact ⟨h', r, j_aload_n dX12_commit_14 rfl rfl <| j_getf dX12_commit_15 kf_X12_42 o1 g1_14 <| j_iload_n dX12_commit_18 rfl rfl <| j_zald dX12_commit_19 o2 y3 <| j_if_eq_f dX12_commit_20 27 (by decide) hc K, q⟩
theorem bX12_commit_23 {h0 h : k_H} {Q : k_H → k_R → Prop} {x0 : Nat} {x1 : Int32} {s0 : Option Nat} (K : k_X (jX12_commit G l h0) h 28 [(0, vR (some x0)), (1, vI x1)] [vI 0, vR s0] Q) : k_X (jX12_commit G l h0) h 23 [(0, vR (some x0)), (1, vI x1)] [vR s0] Q := by
  obtain ⟨h', r, K, q⟩ := K
  exact ⟨h', r, j_iconst (v := 0) dX12_commit_23 (by decide) <| j_goto (tgt := 28) dX12_commit_24 (by decide) <| K, q⟩
theorem bX12_commit_27 {h0 h : k_H} {Q : k_H → k_R → Prop} {x0 : Nat} {x1 : Int32} {s0 : Option Nat} (K : k_X (jX12_commit G l h0) h 28 [(0, vR (some x0)), (1, vI x1)] [vI 2, vR s0] Q) : k_X (jX12_commit G l h0) h 27 [(0, vR (some x0)), (1, vI x1)] [vR s0] Q := by
  obtain ⟨h', r, K, q⟩ := K
  exact ⟨h', r, j_iconst (v := 2) dX12_commit_27 (by decide) <| K, q⟩
theorem bX12_commit_28 {h0 h : k_H} {Q : k_H → k_R → Prop} {x0 s0 : Nat} {x1 s1 : Int32} (w : k_is h s0 15) {P : k_H → Int32 → Prop} (c : k_cti (tX12_goes G l) [vR (some s0), vI s1] h P) (K : ∀ h1 v, P h1 v → k_X (jX12_commit G l h0) h1 31 [(0, vR (some x0)), (1, vI x1)] [vI v] Q) : k_X (jX12_commit G l h0) h 28 [(0, vR (some x0)), (1, vI x1)] [vI s1, vR (some s0)] Q := by
  obtain ⟨h1, v, c, p⟩ := c
  obtain ⟨h', r, K, q⟩ := K h1 v p
  exact ⟨h', r, j_callV (v := some (vI v)) (as := [vI s1]) dX12_commit_28 kc_X12_265 rfl rfl w (by decide) (Nat.le_of_ble_eq_true rfl) c K, q⟩
theorem bX12_commit_31 {h0 h : k_H} {Q : k_H → k_R → Prop} {x0 : Nat} {x1 s0 : Int32} (K1 : ¬ (s0 = 0) → k_X (jX12_commit G l h0) h 36 [(0, vR (some x0)), (1, vI x1)] [] Q) (K2 : s0 = 0 → k_X (jX12_commit G l h0) h 34 [] [] Q) : k_X (jX12_commit G l h0) h 31 [(0, vR (some x0)), (1, vI x1)] [vI s0] Q := by
  by_cases hc : s0 = 0
  · skip
    obtain ⟨h', r, K, q⟩ := K2 hc
    exact ⟨h', r, j_if_ne_f dX12_commit_31 36 (by decide) hc (j_pick [] rfl K), q⟩
  · skip
    obtain ⟨h', r, K, q⟩ := K1 hc
    exact ⟨h', r, j_if_ne_t (tgt := 36) dX12_commit_31 (by decide) hc K, q⟩
theorem bX12_commit_34 {h0 h : k_H} {Q : k_H → k_R → Prop} (q : Q h (.inl (some (vI 0)))) : k_X (jX12_commit G l h0) h 34 [] [] Q := by
  exact ⟨_, _, j_iconst (v := 0) dX12_commit_34 (by decide) <| j_iret dX12_commit_35 rfl, q⟩
theorem bX12_commit_36 {h0 h : k_H} {Q : k_H → k_R → Prop} {x0 f1_15 : Nat} {x1 : Int32} {fs1 : List k_V} (o1 : h.1 x0 = some (k_o 15 fs1)) (g1_15 : fs1[15]? = some (vR (some f1_15))) {n2 : Nat} {w2 : Nat → Int32} (o2 : h.1 f1_15 = some (k_z n2 w2)) (y3 : vp_in x1 n2) (K1 : (w2 (x1).toNatClampNeg) = 0 → k_X (jX12_commit G l h0) h 63 [(0, vR (some x0)), (1, vI x1)] [] Q) (K2 : ¬ ((w2 (x1).toNatClampNeg) = 0) → k_X (jX12_commit G l h0) h 45 [(0, vR (some x0)), (1, vI x1)] [] Q) : k_X (jX12_commit G l h0) h 36 [(0, vR (some x0)), (1, vI x1)] [] Q := by
  by_cases hc : (w2 (x1).toNatClampNeg) = 0
  · skip
    obtain ⟨h', r, K, q⟩ := K1 hc
    exact ⟨h', r, j_aload_n dX12_commit_36 rfl rfl <| j_getf dX12_commit_37 kf_X12_45 o1 g1_15 <| j_iload_n dX12_commit_40 rfl rfl <| j_zald dX12_commit_41 o2 y3 <| j_if_eq_t (tgt := 63) dX12_commit_42 (by decide) hc K, q⟩
  · skip
    obtain ⟨h', r, K, q⟩ := K2 hc
    exact ⟨h', r, j_aload_n dX12_commit_36 rfl rfl <| j_getf dX12_commit_37 kf_X12_45 o1 g1_15 <| j_iload_n dX12_commit_40 rfl rfl <| j_zald dX12_commit_41 o2 y3 <| j_if_eq_f dX12_commit_42 63 (by decide) hc K, q⟩
theorem bX12_commit_45 {h0 h : k_H} {Q : k_H → k_R → Prop} {x0 f1_18 : Nat} {x1 : Int32} {fs1 : List k_V} (o1 : h.1 x0 = some (k_o 15 fs1)) (g1_18 : fs1[18]? = some (vR (some f1_18))) {n2 : Nat} {w2 : Nat → Int32} (o2 : h.1 f1_18 = some (k_i n2 w2)) (y3 : vp_in x1 n2) (K1 : (w2 (x1).toNatClampNeg) ≤ 0 → k_X (jX12_commit G l h0) h 63 [(0, vR (some x0)), (1, vI x1)] [] Q) (K2 : ¬ ((w2 (x1).toNatClampNeg) ≤ 0) → k_X (jX12_commit G l h0) h 54 [(0, vR (some x0)), (1, vI x1)] [] Q) : k_X (jX12_commit G l h0) h 45 [(0, vR (some x0)), (1, vI x1)] [] Q := by
  by_cases hc : (w2 (x1).toNatClampNeg) ≤ 0
  · skip
    obtain ⟨h', r, K, q⟩ := K1 hc
    exact ⟨h', r, j_aload_n dX12_commit_45 rfl rfl <| j_getf dX12_commit_46 kf_X12_54 o1 g1_18 <| j_iload_n dX12_commit_49 rfl rfl <| j_iald dX12_commit_50 o2 y3 <| j_if_le_t (tgt := 63) dX12_commit_51 (by decide) hc K, q⟩
  · skip
    obtain ⟨h', r, K, q⟩ := K2 hc
    exact ⟨h', r, j_aload_n dX12_commit_45 rfl rfl <| j_getf dX12_commit_46 kf_X12_54 o1 g1_18 <| j_iload_n dX12_commit_49 rfl rfl <| j_iald dX12_commit_50 o2 y3 <| j_if_le_f dX12_commit_51 63 (by decide) hc K, q⟩
theorem bX12_commit_54 {h0 h : k_H} {Q : k_H → k_R → Prop} {x0 f1_18 : Nat} {x1 : Int32} {fs1 : List k_V} (o1 : h.1 x0 = some (k_o 15 fs1)) (g1_18 : fs1[18]? = some (vR (some f1_18))) {n2 : Nat} {w2 : Nat → Int32} (o2 : h.1 f1_18 = some (k_i n2 w2)) (y3 : vp_in x1 n2) (K : k_X (jX12_commit G l h0) h 68 [(0, vR (some x0)), (1, vI x1)] [vI (w2 (x1).toNatClampNeg)] Q) : k_X (jX12_commit G l h0) h 54 [(0, vR (some x0)), (1, vI x1)] [] Q := by
  obtain ⟨h', r, K, q⟩ := K
  exact ⟨h', r, j_aload_n dX12_commit_54 rfl rfl <| j_getf dX12_commit_55 kf_X12_54 o1 g1_18 <| j_iload_n dX12_commit_58 rfl rfl <| j_iald dX12_commit_59 o2 y3 <| j_goto (tgt := 68) dX12_commit_60 (by decide) <| K, q⟩
theorem bX12_commit_63 {h0 h : k_H} {Q : k_H → k_R → Prop} {x0 : Nat} {x1 : Int32} (w : k_is h x0 15) {P : k_H → Int32 → Prop} (c : k_cti (tX12_committed G l) [vR (some x0), vI x1] h P) (K : ∀ h1 v, P h1 v → k_X (jX12_commit G l h0) h1 68 [(0, vR (some x0)), (1, vI x1)] [vI v] Q) : k_X (jX12_commit G l h0) h 63 [(0, vR (some x0)), (1, vI x1)] [] Q := by
  obtain ⟨h1, v, c, p⟩ := c
  obtain ⟨h', r, K, q⟩ := K h1 v p
  exact ⟨h', r, j_aload_n dX12_commit_63 rfl rfl <| j_iload_n dX12_commit_64 rfl rfl <| j_callV (v := some (vI v)) (as := [vI x1]) dX12_commit_65 kc_X12_333 rfl rfl w (by decide) (Nat.le_of_ble_eq_true rfl) c K, q⟩
theorem bX12_commit_68 {h0 h : k_H} {Q : k_H → k_R → Prop} {x0 : Nat} {x1 s0 : Int32} (K1 : s0 = (-3) → k_X (jX12_commit G l h0) h 80 [(3, vI s0)] [] Q) (K2 : ¬ (s0 = (-3)) → k_X (jX12_commit G l h0) h 75 [(0, vR (some x0)), (1, vI x1), (3, vI s0)] [] Q) : k_X (jX12_commit G l h0) h 68 [(0, vR (some x0)), (1, vI x1)] [vI s0] Q := by
  by_cases hc : s0 = (-3)
  · skip
    obtain ⟨h', r, K, q⟩ := K1 hc
    exact ⟨h', r, j_istore_n dX12_commit_68 rfl (by decide) rfl <| j_iload_n dX12_commit_69 rfl rfl <| j_bipush (v := (-3)) dX12_commit_70 (by decide) <| j_icmp_eq_t (tgt := 80) dX12_commit_72 (by decide) hc (j_pick [2] rfl K), q⟩
  · skip
    obtain ⟨h', r, K, q⟩ := K2 hc
    exact ⟨h', r, j_istore_n dX12_commit_68 rfl (by decide) rfl <| j_iload_n dX12_commit_69 rfl rfl <| j_bipush (v := (-3)) dX12_commit_70 (by decide) <| j_icmp_eq_f dX12_commit_72 80 (by decide) hc K, q⟩
theorem bX12_commit_75 {h0 h : k_H} {Q : k_H → k_R → Prop} {x0 : Nat} {x1 x3 : Int32} (w : k_is h x0 15) {P : k_H → Prop} (c : k_ctv (tX12_over G l) [vR (some x0), vI x1] h P) (K : ∀ h1, P h1 → k_X (jX12_commit G l h0) h1 80 [(3, vI x3)] [] Q) : k_X (jX12_commit G l h0) h 75 [(0, vR (some x0)), (1, vI x1), (3, vI x3)] [] Q := by
  obtain ⟨h1, c, p⟩ := c
  obtain ⟨h', r, K, q⟩ := K h1 p
  exact ⟨h', r, j_aload_n dX12_commit_75 rfl rfl <| j_iload_n dX12_commit_76 rfl rfl <| j_callV (v := none) (as := [vI x1]) dX12_commit_77 kc_X12_268 rfl rfl w (by decide) (Nat.le_of_ble_eq_true rfl) c (j_pick [2] rfl K), q⟩
theorem bX12_commit_80 {h0 h : k_H} {Q : k_H → k_R → Prop} {x3 : Int32} (q : Q h (.inl (some (vI x3)))) : k_X (jX12_commit G l h0) h 80 [(3, vI x3)] [] Q := by
  exact ⟨_, _, j_iload_n dX12_commit_80 rfl rfl <| j_iret dX12_commit_81 rfl, q⟩
theorem eX12_committed {G : k_G} {l : Launch} (hfl : l.flags = flags0) {h : k_H} {Q : k_H → k_R → Prop} {x0 : Nat} {x1 : Int32} (K : k_X (jX12_committed G l h) h 0 [(0, vR (some x0)), (1, vI x1)] [] Q) : k_ct (tX12_committed G l) [vR (some x0), vI x1] h Q := by
  obtain ⟨h', r, K, q⟩ := K
  exact ⟨h', r, k_CtOf (by decide +kernel) (Nat.le_of_ble_eq_true rfl) K hfl, q⟩

theorem bX12_committed_0 {h0 h : k_H} {Q : k_H → k_R → Prop} {x0 f1_20 : Nat} {x1 : Int32} {fs1 : List k_V} (o1 : h.1 x0 = some (k_o 15 fs1)) (g1_20 : fs1[20]? = some (vR (some f1_20))) {n2 : Nat} {w2 : Nat → Int32} (o2 : h.1 f1_20 = some (k_i n2 w2)) (y3 : vp_in x1 n2) (K1 : ¬ ((w2 (x1).toNatClampNeg) = 0) → k_X (jX12_committed G l h0) h 16 [(0, vR (some x0)), (1, vI x1)] [] Q) (K2 : (w2 (x1).toNatClampNeg) = 0 → k_X (jX12_committed G l h0) h 9 [(0, vR (some x0)), (1, vI x1)] [] Q) : k_X (jX12_committed G l h0) h 0 [(0, vR (some x0)), (1, vI x1)] [] Q := by
  by_cases hc : (w2 (x1).toNatClampNeg) = 0
  · skip
    obtain ⟨h', r, K, q⟩ := K2 hc
    exact ⟨h', r, j_aload_n dX12_committed_0 rfl rfl <| j_getf dX12_committed_1 kf_X12_57 o1 g1_20 <| j_iload_n dX12_committed_4 rfl rfl <| j_iald dX12_committed_5 o2 y3 <| j_if_ne_f dX12_committed_6 16 (by decide) hc K, q⟩
  · skip
    obtain ⟨h', r, K, q⟩ := K1 hc
    exact ⟨h', r, j_aload_n dX12_committed_0 rfl rfl <| j_getf dX12_committed_1 kf_X12_57 o1 g1_20 <| j_iload_n dX12_committed_4 rfl rfl <| j_iald dX12_committed_5 o2 y3 <| j_if_ne_t (tgt := 16) dX12_committed_6 (by decide) hc K, q⟩
theorem bX12_committed_9 {h0 h : k_H} {Q : k_H → k_R → Prop} {x0 f1_16 : Nat} {x1 : Int32} {fs1 : List k_V} (o1 : h.1 x0 = some (k_o 15 fs1)) (g1_16 : fs1[16]? = some (vR (some f1_16))) {n2 : Nat} {w2 : Nat → Int32} (o2 : h.1 f1_16 = some (k_i n2 w2)) (y3 : vp_in x1 n2) (q : Q h (.inl (some (vI (w2 (x1).toNatClampNeg))))) : k_X (jX12_committed G l h0) h 9 [(0, vR (some x0)), (1, vI x1)] [] Q := by
  exact ⟨_, _, j_aload_n dX12_committed_9 rfl rfl <| j_getf dX12_committed_10 kf_X12_48 o1 g1_16 <| j_iload_n dX12_committed_13 rfl rfl <| j_iald dX12_committed_14 o2 y3 <| j_iret dX12_committed_15 rfl, q⟩
theorem bX12_committed_16 {h0 h : k_H} {Q : k_H → k_R → Prop} {x0 f1_16 : Nat} {x1 f1_0 : Int32} {fs1 : List k_V} (o1 : h.1 x0 = some (k_o 15 fs1)) (g1_0 : fs1[0]? = some (vI f1_0)) (g1_16 : fs1[16]? = some (vR (some f1_16))) {n2 : Nat} {w2 : Nat → Int32} (o2 : h.1 f1_16 = some (k_i n2 w2)) (y3 : vp_in x1 n2) (K1 : 30 < (f1_0 - (w2 (x1).toNatClampNeg)) → k_X (jX12_committed G l h0) h 45 [] [] Q) (K2 : ¬ (30 < (f1_0 - (w2 (x1).toNatClampNeg))) → k_X (jX12_committed G l h0) h 32 [(0, vR (some x0)), (1, vI x1)] [] Q) : k_X (jX12_committed G l h0) h 16 [(0, vR (some x0)), (1, vI x1)] [] Q := by
  by_cases hc : 30 < (f1_0 - (w2 (x1).toNatClampNeg))
  · skip
    obtain ⟨h', r, K, q⟩ := K1 hc
    exact ⟨h', r, j_aload_n dX12_committed_16 rfl rfl <| j_getf dX12_committed_17 kf_X12_176 o1 g1_0 <| j_aload_n dX12_committed_20 rfl rfl <| j_getf dX12_committed_21 kf_X12_48 o1 g1_16 <| j_iload_n dX12_committed_24 rfl rfl <| j_iald dX12_committed_25 o2 y3 <| j_isub dX12_committed_26 <| j_bipush (v := 30) dX12_committed_27 (by decide) <| j_icmp_gt_t (tgt := 45) dX12_committed_29 (by decide) hc (j_pick [] rfl K), q⟩
  · skip
    obtain ⟨h', r, K, q⟩ := K2 hc
    exact ⟨h', r, j_aload_n dX12_committed_16 rfl rfl <| j_getf dX12_committed_17 kf_X12_176 o1 g1_0 <| j_aload_n dX12_committed_20 rfl rfl <| j_getf dX12_committed_21 kf_X12_48 o1 g1_16 <| j_iload_n dX12_committed_24 rfl rfl <| j_iald dX12_committed_25 o2 y3 <| j_isub dX12_committed_26 <| j_bipush (v := 30) dX12_committed_27 (by decide) <| j_icmp_gt_f dX12_committed_29 45 (by decide) hc K, q⟩
theorem bX12_committed_32 {h0 h : k_H} {Q : k_H → k_R → Prop} {x0 f1_17 : Nat} {x1 f1_1 : Int32} {fs1 : List k_V} (o1 : h.1 x0 = some (k_o 15 fs1)) (g1_17 : fs1[17]? = some (vR (some f1_17))) {n2 : Nat} {w2 : Nat → Int32} (o2 : h.1 f1_17 = some (k_i n2 w2)) (y3 : vp_in x1 n2) (g1_1 : fs1[1]? = some (vI f1_1)) (K1 : (w2 (x1).toNatClampNeg) = f1_1 → k_X (jX12_committed G l h0) h 48 [(0, vR (some x0)), (1, vI x1)] [] Q) (K2 : ¬ ((w2 (x1).toNatClampNeg) = f1_1) → k_X (jX12_committed G l h0) h 45 [] [] Q) : k_X (jX12_committed G l h0) h 32 [(0, vR (some x0)), (1, vI x1)] [] Q := by
  by_cases hc : (w2 (x1).toNatClampNeg) = f1_1
  · skip
    obtain ⟨h', r, K, q⟩ := K1 hc
    exact ⟨h', r, j_aload_n dX12_committed_32 rfl rfl <| j_getf dX12_committed_33 kf_X12_51 o1 g1_17 <| j_iload_n dX12_committed_36 rfl rfl <| j_iald dX12_committed_37 o2 y3 <| j_aload_n dX12_committed_38 rfl rfl <| j_getf dX12_committed_39 kf_X12_272 o1 g1_1 <| j_icmp_eq_t (tgt := 48) dX12_committed_42 (by decide) hc K, q⟩
  · skip
    obtain ⟨h', r, K, q⟩ := K2 hc
    exact ⟨h', r, j_aload_n dX12_committed_32 rfl rfl <| j_getf dX12_committed_33 kf_X12_51 o1 g1_17 <| j_iload_n dX12_committed_36 rfl rfl <| j_iald dX12_committed_37 o2 y3 <| j_aload_n dX12_committed_38 rfl rfl <| j_getf dX12_committed_39 kf_X12_272 o1 g1_1 <| j_icmp_eq_f dX12_committed_42 48 (by decide) hc (j_pick [] rfl K), q⟩
theorem bX12_committed_45 {h0 h : k_H} {Q : k_H → k_R → Prop} (q : Q h (.inl (some (vI (-2))))) : k_X (jX12_committed G l h0) h 45 [] [] Q := by
  exact ⟨_, _, j_bipush (v := (-2)) dX12_committed_45 (by decide) <| j_iret dX12_committed_47 rfl, q⟩
theorem bX12_committed_48 {h0 h : k_H} {Q : k_H → k_R → Prop} {x0 : Nat} {x1 : Int32} (w : k_is h x0 15) {P : k_H → Int32 → Prop} (c : k_cti (tX12_firstMet G l) [vR (some x0), vI x1] h P) (K : ∀ h1 v, P h1 v → k_X (jX12_committed G l h0) h1 53 [(0, vR (some x0)), (1, vI x1)] [vI v] Q) : k_X (jX12_committed G l h0) h 48 [(0, vR (some x0)), (1, vI x1)] [] Q := by
  obtain ⟨h1, v, c, p⟩ := c
  obtain ⟨h', r, K, q⟩ := K h1 v p
  exact ⟨h', r, j_aload_n dX12_committed_48 rfl rfl <| j_iload_n dX12_committed_49 rfl rfl <| j_callV (v := some (vI v)) (as := [vI x1]) dX12_committed_50 kc_X12_336 rfl rfl w (by decide) (Nat.le_of_ble_eq_true rfl) c K, q⟩
theorem bX12_committed_53 {h0 h : k_H} {Q : k_H → k_R → Prop} {x0 : Nat} {x1 s0 : Int32} (K1 : s0 = (-2147483648) → k_X (jX12_committed G l h0) h 67 [(0, vR (some x0)), (1, vI x1)] [] Q) (K2 : ¬ (s0 = (-2147483648)) → k_X (jX12_committed G l h0) h 60 [(0, vR (some x0)), (2, vI s0)] [] Q) : k_X (jX12_committed G l h0) h 53 [(0, vR (some x0)), (1, vI x1)] [vI s0] Q := by
  by_cases hc : s0 = (-2147483648)
  · skip
    obtain ⟨h', r, K, q⟩ := K1 hc
    exact ⟨h', r, j_istore_n dX12_committed_53 rfl (by decide) rfl <| j_iload_n dX12_committed_54 rfl rfl <| j_ldc (v := (-2147483648)) dX12_committed_55 ki_X12_87 <| j_icmp_eq_t (tgt := 67) dX12_committed_57 (by decide) hc (j_pick [0, 1] rfl K), q⟩
  · skip
    obtain ⟨h', r, K, q⟩ := K2 hc
    exact ⟨h', r, j_istore_n dX12_committed_53 rfl (by decide) rfl <| j_iload_n dX12_committed_54 rfl rfl <| j_ldc (v := (-2147483648)) dX12_committed_55 ki_X12_87 <| j_icmp_eq_f dX12_committed_57 67 (by decide) hc (j_pick [0, 2] rfl K), q⟩
theorem bX12_committed_60 {h0 h : k_H} {Q : k_H → k_R → Prop} {x0 : Nat} {x2 : Int32} {fs1 : List k_V} (o1 : h.1 x0 = some (k_o 15 fs1)) (z1 : fs1.length = 53) (K : k_X (jX12_committed G l h0) (k_up h x0 (k_o 15 (fs1.set 32 (vI x2)))) 65 [] [] Q) : k_X (jX12_committed G l h0) h 60 [(0, vR (some x0)), (2, vI x2)] [] Q := by
  obtain ⟨h', r, K, q⟩ := K
  exact ⟨h', r, j_aload_n dX12_committed_60 rfl rfl <| j_iload_n dX12_committed_61 rfl rfl <| j_putf dX12_committed_62 kp_X12_88 o1 (k_ln z1 (by decide)) (k_fit_i _) rfl <| (j_pick [] rfl K), q⟩
theorem bX12_committed_65 {h0 h : k_H} {Q : k_H → k_R → Prop} (q : Q h (.inl (some (vI (-1))))) : k_X (jX12_committed G l h0) h 65 [] [] Q := by
  exact ⟨_, _, j_iconst (v := (-1)) dX12_committed_65 (by decide) <| j_iret dX12_committed_66 rfl, q⟩
theorem bX12_committed_67 {h0 h : k_H} {Q : k_H → k_R → Prop} {x0 : Nat} {x1 f1_30 : Int32} {fs1 : List k_V} (o1 : h.1 x0 = some (k_o 15 fs1)) (g1_30 : fs1[30]? = some (vI f1_30)) (z1 : fs1.length = 53) (K : k_X (jX12_committed G l h0) (k_up h x0 (k_o 15 (fs1.set 30 (vI 0)))) 77 [(0, vR (some x0)), (1, vI x1), (3, vI f1_30)] [] Q) : k_X (jX12_committed G l h0) h 67 [(0, vR (some x0)), (1, vI x1)] [] Q := by
  obtain ⟨h', r, K, q⟩ := K
  exact ⟨h', r, j_aload_n dX12_committed_67 rfl rfl <| j_getf dX12_committed_68 kf_X12_339 o1 g1_30 <| j_istore_n dX12_committed_71 rfl (by decide) rfl <| j_aload_n dX12_committed_72 rfl rfl <| j_iconst (v := 0) dX12_committed_73 (by decide) <| j_putf dX12_committed_74 kp_X12_339 o1 (k_ln z1 (by decide)) (k_fit_z (by decide)) rfl <| K, q⟩
theorem bX12_committed_77 {h0 h : k_H} {Q : k_H → k_R → Prop} {x0 : Nat} {x1 x3 : Int32} (K1 : x3 = 0 → k_X (jX12_committed G l h0) h 88 [(0, vR (some x0)), (1, vI x1), (3, vI x3)] [] Q) (K2 : ¬ (x3 = 0) → k_X (jX12_committed G l h0) h 81 [(0, vR (some x0)), (1, vI x1), (3, vI x3)] [] Q) : k_X (jX12_committed G l h0) h 77 [(0, vR (some x0)), (1, vI x1), (3, vI x3)] [] Q := by
  by_cases hc : x3 = 0
  · skip
    obtain ⟨h', r, K, q⟩ := K1 hc
    exact ⟨h', r, j_iload_n dX12_committed_77 rfl rfl <| j_if_eq_t (tgt := 88) dX12_committed_78 (by decide) hc K, q⟩
  · skip
    obtain ⟨h', r, K, q⟩ := K2 hc
    exact ⟨h', r, j_iload_n dX12_committed_77 rfl rfl <| j_if_eq_f dX12_committed_78 88 (by decide) hc K, q⟩
theorem bX12_committed_81 {h0 h : k_H} {Q : k_H → k_R → Prop} {x0 : Nat} {x1 x3 f1_31 : Int32} {fs1 : List k_V} (o1 : h.1 x0 = some (k_o 15 fs1)) (g1_31 : fs1[31]? = some (vI f1_31)) (K1 : f1_31 = 0 → k_X (jX12_committed G l h0) h 103 [(0, vR (some x0)), (3, vI x3)] [] Q) (K2 : ¬ (f1_31 = 0) → k_X (jX12_committed G l h0) h 88 [(0, vR (some x0)), (1, vI x1), (3, vI x3)] [] Q) : k_X (jX12_committed G l h0) h 81 [(0, vR (some x0)), (1, vI x1), (3, vI x3)] [] Q := by
  by_cases hc : f1_31 = 0
  · skip
    obtain ⟨h', r, K, q⟩ := K1 hc
    exact ⟨h', r, j_aload_n dX12_committed_81 rfl rfl <| j_getf dX12_committed_82 kf_X12_342 o1 g1_31 <| j_if_eq_t (tgt := 103) dX12_committed_85 (by decide) hc (j_pick [0, 2] rfl K), q⟩
  · skip
    obtain ⟨h', r, K, q⟩ := K2 hc
    exact ⟨h', r, j_aload_n dX12_committed_81 rfl rfl <| j_getf dX12_committed_82 kf_X12_342 o1 g1_31 <| j_if_eq_f dX12_committed_85 103 (by decide) hc K, q⟩
theorem bX12_committed_88 {h0 h : k_H} {Q : k_H → k_R → Prop} {x0 : Nat} {x1 x3 : Int32} (w : k_is h x0 15) {P : k_H → Prop} (c : k_ctv (tX12_applies G l) [vR (some x0), vI x1] h P) (K : ∀ h1, P h1 → k_X (jX12_committed G l h0) h1 93 [(0, vR (some x0)), (1, vI x1), (3, vI x3)] [] Q) : k_X (jX12_committed G l h0) h 88 [(0, vR (some x0)), (1, vI x1), (3, vI x3)] [] Q := by
  obtain ⟨h1, c, p⟩ := c
  obtain ⟨h', r, K, q⟩ := K h1 p
  exact ⟨h', r, j_aload_n dX12_committed_88 rfl rfl <| j_iload_n dX12_committed_89 rfl rfl <| j_callV (v := none) (as := [vI x1]) dX12_committed_90 kc_X12_345 rfl rfl w (by decide) (Nat.le_of_ble_eq_true rfl) c K, q⟩
theorem bX12_committed_93 {h0 h : k_H} {Q : k_H → k_R → Prop} {x0 f1_18 : Nat} {x1 x3 f1_0 : Int32} {fs1 : List k_V} (o1 : h.1 x0 = some (k_o 15 fs1)) (g1_18 : fs1[18]? = some (vR (some f1_18))) (g1_0 : fs1[0]? = some (vI f1_0)) {n2 : Nat} {w2 : Nat → Int32} (o2 : h.1 f1_18 = some (k_i n2 w2)) (y3 : vp_in x1 n2) (K : k_X (jX12_committed G l h0) (k_up h f1_18 (k_i n2 (va_up w2 (x1).toNatClampNeg f1_0))) 103 [(0, vR (some x0)), (3, vI x3)] [] Q) : k_X (jX12_committed G l h0) h 93 [(0, vR (some x0)), (1, vI x1), (3, vI x3)] [] Q := by
  obtain ⟨h', r, K, q⟩ := K
  exact ⟨h', r, j_aload_n dX12_committed_93 rfl rfl <| j_getf dX12_committed_94 kf_X12_54 o1 g1_18 <| j_iload_n dX12_committed_97 rfl rfl <| j_aload_n dX12_committed_98 rfl rfl <| j_getf dX12_committed_99 kf_X12_176 o1 g1_0 <| j_iast dX12_committed_102 o2 y3 <| (j_pick [0, 2] rfl K), q⟩
theorem bX12_committed_103 {h0 h : k_H} {Q : k_H → k_R → Prop} {x0 : Nat} {x3 : Int32} (K1 : x3 = 0 → k_X (jX12_committed G l h0) h 112 [(0, vR (some x0))] [] Q) (K2 : ¬ (x3 = 0) → k_X (jX12_committed G l h0) h 107 [] [] Q) : k_X (jX12_committed G l h0) h 103 [(0, vR (some x0)), (3, vI x3)] [] Q := by
  by_cases hc : x3 = 0
  · skip
    obtain ⟨h', r, K, q⟩ := K1 hc
    exact ⟨h', r, j_iload_n dX12_committed_103 rfl rfl <| j_if_eq_t (tgt := 112) dX12_committed_104 (by decide) hc (j_pick [0] rfl K), q⟩
  · skip
    obtain ⟨h', r, K, q⟩ := K2 hc
    exact ⟨h', r, j_iload_n dX12_committed_103 rfl rfl <| j_if_eq_f dX12_committed_104 112 (by decide) hc (j_pick [] rfl K), q⟩
theorem bX12_committed_107 {h0 h : k_H} {Q : k_H → k_R → Prop} (K : k_X (jX12_committed G l h0) h 116 [] [vI (-3)] Q) : k_X (jX12_committed G l h0) h 107 [] [] Q := by
  obtain ⟨h', r, K, q⟩ := K
  exact ⟨h', r, j_bipush (v := (-3)) dX12_committed_107 (by decide) <| j_goto (tgt := 116) dX12_committed_109 (by decide) <| K, q⟩
theorem bX12_committed_112 {h0 h : k_H} {Q : k_H → k_R → Prop} {x0 : Nat} {f1_0 : Int32} {fs1 : List k_V} (o1 : h.1 x0 = some (k_o 15 fs1)) (g1_0 : fs1[0]? = some (vI f1_0)) (K : k_X (jX12_committed G l h0) h 116 [] [vI f1_0] Q) : k_X (jX12_committed G l h0) h 112 [(0, vR (some x0))] [] Q := by
  obtain ⟨h', r, K, q⟩ := K
  exact ⟨h', r, j_aload_n dX12_committed_112 rfl rfl <| j_getf dX12_committed_113 kf_X12_176 o1 g1_0 <| (j_pick [] rfl K), q⟩
theorem bX12_committed_116 {h0 h : k_H} {Q : k_H → k_R → Prop} {s0 : Int32} (q : Q h (.inl (some (vI s0)))) : k_X (jX12_committed G l h0) h 116 [] [vI s0] Q := by
  exact ⟨_, _, j_iret dX12_committed_116 rfl, q⟩
theorem eX12_why {G : k_G} {l : Launch} (hfl : l.flags = flags0) {h : k_H} {Q : k_H → k_R → Prop} {x0 : Nat} (K : k_X (jX12_why G l h) h 0 [(0, vR (some x0))] [] Q) : k_ct (tX12_why G l) [vR (some x0)] h Q := by
  obtain ⟨h', r, K, q⟩ := K
  exact ⟨h', r, k_CtOf (by decide +kernel) (Nat.le_of_ble_eq_true rfl) K hfl, q⟩

theorem bX12_why_0 {h0 h : k_H} {Q : k_H → k_R → Prop} {x0 : Nat} {fs1 : List k_V} (o1 : h.1 x0 = some (k_o 15 fs1)) (z1 : fs1.length = 53) (K : k_X (jX12_why G l h0) (k_up h x0 (k_o 15 (fs1.set 52 (vI 0)))) 5 [(0, vR (some x0))] [] Q) : k_X (jX12_why G l h0) h 0 [(0, vR (some x0))] [] Q := by
  obtain ⟨h', r, K, q⟩ := K
  exact ⟨h', r, j_aload_n dX12_why_0 rfl rfl <| j_iconst (v := 0) dX12_why_1 (by decide) <| j_putf dX12_why_2 kp_X12_134 o1 (k_ln z1 (by decide)) (k_fit_i _) rfl <| K, q⟩
theorem bX12_why_5 {h0 h : k_H} {Q : k_H → k_R → Prop} {x0 : Nat} {f1_32 : Int32} {fs1 : List k_V} (o1 : h.1 x0 = some (k_o 15 fs1)) (g1_32 : fs1[32]? = some (vI f1_32)) (q : Q h (.inl (some (vI f1_32)))) : k_X (jX12_why G l h0) h 5 [(0, vR (some x0))] [] Q := by
  exact ⟨_, _, j_aload_n dX12_why_5 rfl rfl <| j_getf dX12_why_6 kf_X12_88 o1 g1_32 <| j_iret dX12_why_9 rfl, q⟩
theorem eX12_lose {G : k_G} {l : Launch} (hfl : l.flags = flags0) {h : k_H} {Q : k_H → k_R → Prop} {x0 : Nat} {x1 : Int32} (K : k_X (jX12_lose G l h) h 0 [(0, vR (some x0)), (1, vI x1)] [] Q) : k_ct (tX12_lose G l) [vR (some x0), vI x1] h Q := by
  obtain ⟨h', r, K, q⟩ := K
  exact ⟨h', r, k_CtOf (by decide +kernel) (Nat.le_of_ble_eq_true rfl) K hfl, q⟩

theorem bX12_lose_0 {h0 h : k_H} {Q : k_H → k_R → Prop} {x0 : Nat} {x1 : Int32} {fs1 : List k_V} (o1 : h.1 x0 = some (k_o 15 fs1)) (z1 : fs1.length = 53) (K : k_X (jX12_lose G l h0) (k_up h x0 (k_o 15 (fs1.set 52 (vI 0)))) 5 [(0, vR (some x0)), (1, vI x1)] [] Q) : k_X (jX12_lose G l h0) h 0 [(0, vR (some x0)), (1, vI x1)] [] Q := by
  obtain ⟨h', r, K, q⟩ := K
  exact ⟨h', r, j_aload_n dX12_lose_0 rfl rfl <| j_iconst (v := 0) dX12_lose_1 (by decide) <| j_putf dX12_lose_2 kp_X12_134 o1 (k_ln z1 (by decide)) (k_fit_i _) rfl <| K, q⟩
theorem bX12_lose_5 {h0 h : k_H} {Q : k_H → k_R → Prop} {x0 : Nat} {x1 : Int32} {fs1 : List k_V} (o1 : h.1 x0 = some (k_o 15 fs1)) (z1 : fs1.length = 53) (K : k_X (jX12_lose G l h0) (k_up h x0 (k_o 15 (fs1.set 30 (vI 1)))) 10 [(0, vR (some x0)), (1, vI x1)] [] Q) : k_X (jX12_lose G l h0) h 5 [(0, vR (some x0)), (1, vI x1)] [] Q := by
  obtain ⟨h', r, K, q⟩ := K
  exact ⟨h', r, j_aload_n dX12_lose_5 rfl rfl <| j_iconst (v := 1) dX12_lose_6 (by decide) <| j_putf dX12_lose_7 kp_X12_339 o1 (k_ln z1 (by decide)) (k_fit_z (by decide)) rfl <| K, q⟩
theorem bX12_lose_10 {h0 h : k_H} {Q : k_H → k_R → Prop} {x0 : Nat} {x1 : Int32} {fs1 : List k_V} (o1 : h.1 x0 = some (k_o 15 fs1)) (y2 : k_bl x1) (z1 : fs1.length = 53) (K : k_X (jX12_lose G l h0) (k_up h x0 (k_o 15 (fs1.set 31 (vI x1)))) 15 [] [] Q) : k_X (jX12_lose G l h0) h 10 [(0, vR (some x0)), (1, vI x1)] [] Q := by
  obtain ⟨h', r, K, q⟩ := K
  exact ⟨h', r, j_aload_n dX12_lose_10 rfl rfl <| j_iload_n dX12_lose_11 rfl rfl <| j_putf dX12_lose_12 kp_X12_342 o1 (k_ln z1 (by decide)) (k_fit_z y2) rfl <| (j_pick [] rfl K), q⟩
theorem bX12_lose_15 {h0 h : k_H} {Q : k_H → k_R → Prop} (q : Q h (.inl none)) : k_X (jX12_lose G l h0) h 15 [] [] Q := by
  exact ⟨_, _, j_vret dX12_lose_15 rfl, q⟩
theorem eX12_recover {G : k_G} {l : Launch} (hfl : l.flags = flags0) {h : k_H} {Q : k_H → k_R → Prop} {x0 : Nat} (K : k_X (jX12_recover G l h) h 0 [(0, vR (some x0))] [] Q) : k_ct (tX12_recover G l) [vR (some x0)] h Q := by
  obtain ⟨h', r, K, q⟩ := K
  exact ⟨h', r, k_CtOf (by decide +kernel) (Nat.le_of_ble_eq_true rfl) K hfl, q⟩

theorem bX12_recover_0 {h0 h : k_H} {Q : k_H → k_R → Prop} {x0 : Nat} {fs1 : List k_V} (o1 : h.1 x0 = some (k_o 15 fs1)) (z1 : fs1.length = 53) (K : k_X (jX12_recover G l h0) (k_up h x0 (k_o 15 (fs1.set 52 (vI 0)))) 5 [(0, vR (some x0))] [] Q) : k_X (jX12_recover G l h0) h 0 [(0, vR (some x0))] [] Q := by
  obtain ⟨h', r, K, q⟩ := K
  exact ⟨h', r, j_aload_n dX12_recover_0 rfl rfl <| j_iconst (v := 0) dX12_recover_1 (by decide) <| j_putf dX12_recover_2 kp_X12_134 o1 (k_ln z1 (by decide)) (k_fit_i _) rfl <| K, q⟩
theorem bX12_recover_5 {h0 h : k_H} {Q : k_H → k_R → Prop} {x0 : Nat} {f1_1 : Int32} {fs1 : List k_V} (o1 : h.1 x0 = some (k_o 15 fs1)) (g1_1 : fs1[1]? = some (vI f1_1)) (z1 : fs1.length = 53) (K : k_X (jX12_recover G l h0) (k_up h x0 (k_o 15 (fs1.set 1 (vI (f1_1 + 1))))) 15 [(0, vR (some x0))] [] Q) : k_X (jX12_recover G l h0) h 5 [(0, vR (some x0))] [] Q := by
  obtain ⟨h', r, K, q⟩ := K
  exact ⟨h', r, j_aload_n dX12_recover_5 rfl rfl <| j_dup dX12_recover_6 rfl <| j_getf dX12_recover_7 kf_X12_272 o1 g1_1 <| j_iconst (v := 1) dX12_recover_10 (by decide) <| j_iadd dX12_recover_11 <| j_putf dX12_recover_12 kp_X12_272 o1 (k_ln z1 (by decide)) (k_fit_i _) rfl <| K, q⟩
theorem bX12_recover_15 {h0 h : k_H} {Q : k_H → k_R → Prop} {x0 : Nat} {f1_0 : Int32} {fs1 : List k_V} (o1 : h.1 x0 = some (k_o 15 fs1)) (g1_0 : fs1[0]? = some (vI f1_0)) (z1 : fs1.length = 53) (K : k_X (jX12_recover G l h0) (k_up h x0 (k_o 15 (fs1.set 0 (vI (f1_0 + 10))))) 26 [(0, vR (some x0))] [] Q) : k_X (jX12_recover G l h0) h 15 [(0, vR (some x0))] [] Q := by
  obtain ⟨h', r, K, q⟩ := K
  exact ⟨h', r, j_aload_n dX12_recover_15 rfl rfl <| j_dup dX12_recover_16 rfl <| j_getf dX12_recover_17 kf_X12_176 o1 g1_0 <| j_bipush (v := 10) dX12_recover_20 (by decide) <| j_iadd dX12_recover_22 <| j_putf dX12_recover_23 kp_X12_176 o1 (k_ln z1 (by decide)) (k_fit_i _) rfl <| K, q⟩
theorem bX12_recover_26 {h0 h : k_H} {Q : k_H → k_R → Prop} {x0 : Nat} {f1_0 : Int32} {fs1 : List k_V} (o1 : h.1 x0 = some (k_o 15 fs1)) (g1_0 : fs1[0]? = some (vI f1_0)) (q : Q h (.inl (some (vI f1_0)))) : k_X (jX12_recover G l h0) h 26 [(0, vR (some x0))] [] Q := by
  exact ⟨_, _, j_aload_n dX12_recover_26 rfl rfl <| j_getf dX12_recover_27 kf_X12_176 o1 g1_0 <| j_iret dX12_recover_30 rfl, q⟩
theorem eX12_pass {G : k_G} {l : Launch} (hfl : l.flags = flags0) {h : k_H} {Q : k_H → k_R → Prop} {x0 : Nat} {x1 : Int32} (K : k_X (jX12_pass G l h) h 0 [(0, vR (some x0)), (1, vI x1)] [] Q) : k_ct (tX12_pass G l) [vR (some x0), vI x1] h Q := by
  obtain ⟨h', r, K, q⟩ := K
  exact ⟨h', r, k_CtOf (by decide +kernel) (Nat.le_of_ble_eq_true rfl) K hfl, q⟩

theorem bX12_pass_0 {h0 h : k_H} {Q : k_H → k_R → Prop} {x0 : Nat} {x1 : Int32} {P : k_H → Int32 → Prop} (c : k_cti (tX12_isIn G l) [vI x1, vI 1, vI 10] h P) (K : ∀ h1 v, P h1 v → k_X (jX12_pass G l h0) h1 8 [(0, vR (some x0)), (1, vI x1)] [vI v, vR (some x0)] Q) : k_X (jX12_pass G l h0) h 0 [(0, vR (some x0)), (1, vI x1)] [] Q := by
  obtain ⟨h1, v, c, p⟩ := c
  obtain ⟨h', r, K, q⟩ := K h1 v p
  exact ⟨h', r, j_aload_n dX12_pass_0 rfl rfl <| j_iload_n dX12_pass_1 rfl rfl <| j_iconst (v := 1) dX12_pass_2 (by decide) <| j_bipush (v := 10) dX12_pass_3 (by decide) <| j_callS (v := some (vI v)) (as := [vI x1, vI 1, vI 10]) dX12_pass_5 kc_X12_137 rfl rfl (by decide) (Nat.le_of_ble_eq_true rfl) c K, q⟩
theorem bX12_pass_8 {h0 h : k_H} {Q : k_H → k_R → Prop} {x0 : Nat} {x1 s1 : Int32} {s0 : Option Nat} (K1 : s1 = 0 → k_X (jX12_pass G l h0) h 15 [(0, vR (some x0)), (1, vI x1)] [vR s0] Q) (K2 : ¬ (s1 = 0) → k_X (jX12_pass G l h0) h 11 [(0, vR (some x0)), (1, vI x1)] [vR s0] Q) : k_X (jX12_pass G l h0) h 8 [(0, vR (some x0)), (1, vI x1)] [vI s1, vR s0] Q := by
  by_cases hc : s1 = 0
  · skip
    obtain ⟨h', r, K, q⟩ := K1 hc
    exact ⟨h', r, j_if_eq_t (tgt := 15) dX12_pass_8 (by decide) hc K, q⟩
  · skip
    obtain ⟨h', r, K, q⟩ := K2 hc
    exact ⟨h', r, j_if_eq_f dX12_pass_8 15 (by decide) hc K, q⟩
theorem bX12_pass_11 {h0 h : k_H} {Q : k_H → k_R → Prop} {x0 : Nat} {x1 : Int32} {s0 : Option Nat} (K : k_X (jX12_pass G l h0) h 16 [(0, vR (some x0)), (1, vI x1)] [vI 0, vR s0] Q) : k_X (jX12_pass G l h0) h 11 [(0, vR (some x0)), (1, vI x1)] [vR s0] Q := by
  obtain ⟨h', r, K, q⟩ := K
  exact ⟨h', r, j_iconst (v := 0) dX12_pass_11 (by decide) <| j_goto (tgt := 16) dX12_pass_12 (by decide) <| K, q⟩
theorem bX12_pass_15 {h0 h : k_H} {Q : k_H → k_R → Prop} {x0 : Nat} {x1 : Int32} {s0 : Option Nat} (K : k_X (jX12_pass G l h0) h 16 [(0, vR (some x0)), (1, vI x1)] [vI 1, vR s0] Q) : k_X (jX12_pass G l h0) h 15 [(0, vR (some x0)), (1, vI x1)] [vR s0] Q := by
  obtain ⟨h', r, K, q⟩ := K
  exact ⟨h', r, j_iconst (v := 1) dX12_pass_15 (by decide) <| K, q⟩
theorem bX12_pass_16 {h0 h : k_H} {Q : k_H → k_R → Prop} {x0 s0 : Nat} {x1 s1 : Int32} (w : k_is h s0 15) {P : k_H → Int32 → Prop} (c : k_cti (tX12_goes G l) [vR (some s0), vI s1] h P) (K : ∀ h1 v, P h1 v → k_X (jX12_pass G l h0) h1 19 [(0, vR (some x0)), (1, vI x1)] [vI v] Q) : k_X (jX12_pass G l h0) h 16 [(0, vR (some x0)), (1, vI x1)] [vI s1, vR (some s0)] Q := by
  obtain ⟨h1, v, c, p⟩ := c
  obtain ⟨h', r, K, q⟩ := K h1 v p
  exact ⟨h', r, j_callV (v := some (vI v)) (as := [vI s1]) dX12_pass_16 kc_X12_265 rfl rfl w (by decide) (Nat.le_of_ble_eq_true rfl) c K, q⟩
theorem bX12_pass_19 {h0 h : k_H} {Q : k_H → k_R → Prop} {x0 : Nat} {x1 s0 : Int32} (K1 : ¬ (s0 = 0) → k_X (jX12_pass G l h0) h 24 [(0, vR (some x0)), (1, vI x1)] [] Q) (K2 : s0 = 0 → k_X (jX12_pass G l h0) h 22 [] [] Q) : k_X (jX12_pass G l h0) h 19 [(0, vR (some x0)), (1, vI x1)] [vI s0] Q := by
  by_cases hc : s0 = 0
  · skip
    obtain ⟨h', r, K, q⟩ := K2 hc
    exact ⟨h', r, j_if_ne_f dX12_pass_19 24 (by decide) hc (j_pick [] rfl K), q⟩
  · skip
    obtain ⟨h', r, K, q⟩ := K1 hc
    exact ⟨h', r, j_if_ne_t (tgt := 24) dX12_pass_19 (by decide) hc K, q⟩
theorem bX12_pass_22 {h0 h : k_H} {Q : k_H → k_R → Prop} (q : Q h (.inl (some (vI 0)))) : k_X (jX12_pass G l h0) h 22 [] [] Q := by
  exact ⟨_, _, j_iconst (v := 0) dX12_pass_22 (by decide) <| j_iret dX12_pass_23 rfl, q⟩
theorem bX12_pass_24 {h0 h : k_H} {Q : k_H → k_R → Prop} {x0 : Nat} {x1 f1_0 : Int32} {fs1 : List k_V} (o1 : h.1 x0 = some (k_o 15 fs1)) (g1_0 : fs1[0]? = some (vI f1_0)) (z1 : fs1.length = 53) (K : k_X (jX12_pass G l h0) (k_up h x0 (k_o 15 (fs1.set 0 (vI (f1_0 + x1))))) 34 [(0, vR (some x0))] [] Q) : k_X (jX12_pass G l h0) h 24 [(0, vR (some x0)), (1, vI x1)] [] Q := by
  obtain ⟨h', r, K, q⟩ := K
  exact ⟨h', r, j_aload_n dX12_pass_24 rfl rfl <| j_dup dX12_pass_25 rfl <| j_getf dX12_pass_26 kf_X12_176 o1 g1_0 <| j_iload_n dX12_pass_29 rfl rfl <| j_iadd dX12_pass_30 <| j_putf dX12_pass_31 kp_X12_176 o1 (k_ln z1 (by decide)) (k_fit_i _) rfl <| (j_pick [0] rfl K), q⟩
theorem bX12_pass_34 {h0 h : k_H} {Q : k_H → k_R → Prop} {x0 : Nat} {f1_0 : Int32} {fs1 : List k_V} (o1 : h.1 x0 = some (k_o 15 fs1)) (g1_0 : fs1[0]? = some (vI f1_0)) (q : Q h (.inl (some (vI f1_0)))) : k_X (jX12_pass G l h0) h 34 [(0, vR (some x0))] [] Q := by
  exact ⟨_, _, j_aload_n dX12_pass_34 rfl rfl <| j_getf dX12_pass_35 kf_X12_176 o1 g1_0 <| j_iret dX12_pass_38 rfl, q⟩
theorem eX12_value {G : k_G} {l : Launch} (hfl : l.flags = flags0) {h : k_H} {Q : k_H → k_R → Prop} {x0 : Nat} {x1 : Int32} {x2 : Int32} {x3 : Int32} {x4 : Int32} (K : k_X (jX12_value G l h) h 0 [(0, vR (some x0)), (1, vI x1), (2, vI x2), (3, vI x3), (4, vI x4)] [] Q) : k_ct (tX12_value G l) [vR (some x0), vI x1, vI x2, vI x3, vI x4] h Q := by
  obtain ⟨h', r, K, q⟩ := K
  exact ⟨h', r, k_CtOf (by decide +kernel) (Nat.le_of_ble_eq_true rfl) K hfl, q⟩

theorem bX12_value_0 {h0 h : k_H} {Q : k_H → k_R → Prop} {x0 : Nat} {x1 x2 x3 x4 f1_0 : Int32} {fs1 : List k_V} (o1 : h.1 x0 = some (k_o 15 fs1)) (g1_0 : fs1[0]? = some (vI f1_0)) {P : k_H → Int32 → Prop} (c : k_cti (tX12_isIn G l) [vI x1, vI 0, vI f1_0] h P) (K : ∀ h1 v, P h1 v → k_X (jX12_value G l h0) h1 10 [(0, vR (some x0)), (1, vI x1), (2, vI x2), (3, vI x3), (4, vI x4)] [vI v, vR (some x0)] Q) : k_X (jX12_value G l h0) h 0 [(0, vR (some x0)), (1, vI x1), (2, vI x2), (3, vI x3), (4, vI x4)] [] Q := by
  obtain ⟨h1, v, c, p⟩ := c
  obtain ⟨h', r, K, q⟩ := K h1 v p
  exact ⟨h', r, j_aload_n dX12_value_0 rfl rfl <| j_iload_n dX12_value_1 rfl rfl <| j_iconst (v := 0) dX12_value_2 (by decide) <| j_aload_n dX12_value_3 rfl rfl <| j_getf dX12_value_4 kf_X12_176 o1 g1_0 <| j_callS (v := some (vI v)) (as := [vI x1, vI 0, vI f1_0]) dX12_value_7 kc_X12_137 rfl rfl (by decide) (Nat.le_of_ble_eq_true rfl) c K, q⟩
theorem bX12_value_10 {h0 h : k_H} {Q : k_H → k_R → Prop} {x0 : Nat} {x1 x2 x3 x4 s1 : Int32} {s0 : Option Nat} (K1 : s1 = 0 → k_X (jX12_value G l h0) h 27 [(0, vR (some x0)), (1, vI x1), (2, vI x2), (3, vI x3), (4, vI x4)] [vR s0] Q) (K2 : ¬ (s1 = 0) → k_X (jX12_value G l h0) h 13 [(0, vR (some x0)), (1, vI x1), (2, vI x2), (3, vI x3), (4, vI x4)] [vR s0] Q) : k_X (jX12_value G l h0) h 10 [(0, vR (some x0)), (1, vI x1), (2, vI x2), (3, vI x3), (4, vI x4)] [vI s1, vR s0] Q := by
  by_cases hc : s1 = 0
  · skip
    obtain ⟨h', r, K, q⟩ := K1 hc
    exact ⟨h', r, j_if_eq_t (tgt := 27) dX12_value_10 (by decide) hc K, q⟩
  · skip
    obtain ⟨h', r, K, q⟩ := K2 hc
    exact ⟨h', r, j_if_eq_f dX12_value_10 27 (by decide) hc K, q⟩
theorem bX12_value_13 {h0 h : k_H} {Q : k_H → k_R → Prop} {x0 : Nat} {x1 x2 x3 x4 : Int32} {s0 : Option Nat} {P : k_H → Int32 → Prop} (c : k_cti (tX12_isKey G l) [vI x2, vI x3, vI x4] h P) (K : ∀ h1 v, P h1 v → k_X (jX12_value G l h0) h1 20 [(0, vR (some x0)), (1, vI x1), (2, vI x2), (3, vI x3), (4, vI x4)] [vI v, vR s0] Q) : k_X (jX12_value G l h0) h 13 [(0, vR (some x0)), (1, vI x1), (2, vI x2), (3, vI x3), (4, vI x4)] [vR s0] Q := by
  obtain ⟨h1, v, c, p⟩ := c
  obtain ⟨h', r, K, q⟩ := K h1 v p
  exact ⟨h', r, j_iload_n dX12_value_13 rfl rfl <| j_iload_n dX12_value_14 rfl rfl <| j_iload dX12_value_15 rfl <| j_callS (v := some (vI v)) (as := [vI x2, vI x3, vI x4]) dX12_value_17 kc_X12_275 rfl rfl (by decide) (Nat.le_of_ble_eq_true rfl) c K, q⟩
theorem bX12_value_20 {h0 h : k_H} {Q : k_H → k_R → Prop} {x0 : Nat} {x1 x2 x3 x4 s1 : Int32} {s0 : Option Nat} (K1 : s1 = 0 → k_X (jX12_value G l h0) h 27 [(0, vR (some x0)), (1, vI x1), (2, vI x2), (3, vI x3), (4, vI x4)] [vR s0] Q) (K2 : ¬ (s1 = 0) → k_X (jX12_value G l h0) h 23 [(0, vR (some x0)), (1, vI x1), (2, vI x2), (3, vI x3), (4, vI x4)] [vR s0] Q) : k_X (jX12_value G l h0) h 20 [(0, vR (some x0)), (1, vI x1), (2, vI x2), (3, vI x3), (4, vI x4)] [vI s1, vR s0] Q := by
  by_cases hc : s1 = 0
  · skip
    obtain ⟨h', r, K, q⟩ := K1 hc
    exact ⟨h', r, j_if_eq_t (tgt := 27) dX12_value_20 (by decide) hc K, q⟩
  · skip
    obtain ⟨h', r, K, q⟩ := K2 hc
    exact ⟨h', r, j_if_eq_f dX12_value_20 27 (by decide) hc K, q⟩
theorem bX12_value_23 {h0 h : k_H} {Q : k_H → k_R → Prop} {x0 : Nat} {x1 x2 x3 x4 : Int32} {s0 : Option Nat} (K : k_X (jX12_value G l h0) h 28 [(0, vR (some x0)), (1, vI x1), (2, vI x2), (3, vI x3), (4, vI x4)] [vI 0, vR s0] Q) : k_X (jX12_value G l h0) h 23 [(0, vR (some x0)), (1, vI x1), (2, vI x2), (3, vI x3), (4, vI x4)] [vR s0] Q := by
  obtain ⟨h', r, K, q⟩ := K
  exact ⟨h', r, j_iconst (v := 0) dX12_value_23 (by decide) <| j_goto (tgt := 28) dX12_value_24 (by decide) <| K, q⟩
theorem bX12_value_27 {h0 h : k_H} {Q : k_H → k_R → Prop} {x0 : Nat} {x1 x2 x3 x4 : Int32} {s0 : Option Nat} (K : k_X (jX12_value G l h0) h 28 [(0, vR (some x0)), (1, vI x1), (2, vI x2), (3, vI x3), (4, vI x4)] [vI 1, vR s0] Q) : k_X (jX12_value G l h0) h 27 [(0, vR (some x0)), (1, vI x1), (2, vI x2), (3, vI x3), (4, vI x4)] [vR s0] Q := by
  obtain ⟨h', r, K, q⟩ := K
  exact ⟨h', r, j_iconst (v := 1) dX12_value_27 (by decide) <| K, q⟩
theorem bX12_value_28 {h0 h : k_H} {Q : k_H → k_R → Prop} {x0 s0 : Nat} {x1 x2 x3 x4 s1 : Int32} (w : k_is h s0 15) {P : k_H → Int32 → Prop} (c : k_cti (tX12_goes G l) [vR (some s0), vI s1] h P) (K : ∀ h1 v, P h1 v → k_X (jX12_value G l h0) h1 31 [(0, vR (some x0)), (1, vI x1), (2, vI x2), (3, vI x3), (4, vI x4)] [vI v] Q) : k_X (jX12_value G l h0) h 28 [(0, vR (some x0)), (1, vI x1), (2, vI x2), (3, vI x3), (4, vI x4)] [vI s1, vR (some s0)] Q := by
  obtain ⟨h1, v, c, p⟩ := c
  obtain ⟨h', r, K, q⟩ := K h1 v p
  exact ⟨h', r, j_callV (v := some (vI v)) (as := [vI s1]) dX12_value_28 kc_X12_265 rfl rfl w (by decide) (Nat.le_of_ble_eq_true rfl) c K, q⟩
theorem bX12_value_31 {h0 h : k_H} {Q : k_H → k_R → Prop} {x0 : Nat} {x1 x2 x3 x4 s0 : Int32} (K1 : ¬ (s0 = 0) → k_X (jX12_value G l h0) h 36 [(0, vR (some x0)), (1, vI x1), (2, vI x2), (3, vI x3), (4, vI x4)] [] Q) (K2 : s0 = 0 → k_X (jX12_value G l h0) h 34 [] [] Q) : k_X (jX12_value G l h0) h 31 [(0, vR (some x0)), (1, vI x1), (2, vI x2), (3, vI x3), (4, vI x4)] [vI s0] Q := by
  by_cases hc : s0 = 0
  · skip
    obtain ⟨h', r, K, q⟩ := K2 hc
    exact ⟨h', r, j_if_ne_f dX12_value_31 36 (by decide) hc (j_pick [] rfl K), q⟩
  · skip
    obtain ⟨h', r, K, q⟩ := K1 hc
    exact ⟨h', r, j_if_ne_t (tgt := 36) dX12_value_31 (by decide) hc K, q⟩
theorem bX12_value_34 {h0 h : k_H} {Q : k_H → k_R → Prop} (q : Q h (.inl (some (vI 0)))) : k_X (jX12_value G l h0) h 34 [] [] Q := by
  exact ⟨_, _, j_iconst (v := 0) dX12_value_34 (by decide) <| j_iret dX12_value_35 rfl, q⟩
theorem bX12_value_36 {h0 h : k_H} {Q : k_H → k_R → Prop} {x0 : Nat} {x1 x2 x3 x4 : Int32} {P : k_H → Int64 → Prop} (c : k_ctj (tX12_codeOf G l) [vI x2, vI x3, vI x4] h P) (K : ∀ h1 v, P h1 v → k_X (jX12_value G l h0) h1 43 [(0, vR (some x0)), (1, vI x1)] [vJ v] Q) : k_X (jX12_value G l h0) h 36 [(0, vR (some x0)), (1, vI x1), (2, vI x2), (3, vI x3), (4, vI x4)] [] Q := by
  obtain ⟨h1, v, c, p⟩ := c
  obtain ⟨h', r, K, q⟩ := K h1 v p
  exact ⟨h', r, j_iload_n dX12_value_36 rfl rfl <| j_iload_n dX12_value_37 rfl rfl <| j_iload dX12_value_38 rfl <| j_callS (v := some (vJ v)) (as := [vI x2, vI x3, vI x4]) dX12_value_40 kc_X12_155 rfl rfl (by decide) (Nat.le_of_ble_eq_true rfl) c (j_pick [0, 1] rfl K), q⟩
theorem bX12_value_43 {h0 h : k_H} {Q : k_H → k_R → Prop} {x0 : Nat} {x1 : Int32} {s0 : Int64} (w : k_is h x0 15) {P : k_H → Int32 → Prop} (c : k_cti (tX12_placeOf G l) [vR (some x0), vJ s0] h P) (K : ∀ h1 v, P h1 v → k_X (jX12_value G l h0) h1 51 [(0, vR (some x0)), (1, vI x1), (5, vJ s0)] [vI v] Q) : k_X (jX12_value G l h0) h 43 [(0, vR (some x0)), (1, vI x1)] [vJ s0] Q := by
  obtain ⟨h1, v, c, p⟩ := c
  obtain ⟨h', r, K, q⟩ := K h1 v p
  exact ⟨h', r, j_lstore dX12_value_43 (by decide) rfl <| j_aload_n dX12_value_45 rfl rfl <| j_lload dX12_value_46 rfl <| j_callV (v := some (vI v)) (as := [vJ s0]) dX12_value_48 kc_X12_164 rfl rfl w (by decide) (Nat.le_of_ble_eq_true rfl) c K, q⟩
theorem bX12_value_51 {h0 h : k_H} {Q : k_H → k_R → Prop} {x0 : Nat} {x1 s0 : Int32} {x5 : Int64} (w : k_is h x0 15) {P : k_H → Int32 → Prop} (c : k_cti (tX12_isNamed G l) [vR (some x0), vI s0, vJ x5] h P) (K : ∀ h1 v, P h1 v → k_X (jX12_value G l h0) h1 61 [(0, vR (some x0)), (1, vI x1), (7, vI s0)] [vI v] Q) : k_X (jX12_value G l h0) h 51 [(0, vR (some x0)), (1, vI x1), (5, vJ x5)] [vI s0] Q := by
  obtain ⟨h1, v, c, p⟩ := c
  obtain ⟨h', r, K, q⟩ := K h1 v p
  exact ⟨h', r, j_istore dX12_value_51 (by decide) rfl <| j_aload_n dX12_value_53 rfl rfl <| j_iload dX12_value_54 rfl <| j_lload dX12_value_56 rfl <| j_callV (v := some (vI v)) (as := [vI s0, vJ x5]) dX12_value_58 kc_X12_168 rfl rfl w (by decide) (Nat.le_of_ble_eq_true rfl) c (j_pick [0, 1, 3] rfl K), q⟩
theorem bX12_value_61 {h0 h : k_H} {Q : k_H → k_R → Prop} {x0 : Nat} {x1 x7 s0 : Int32} (K1 : s0 = 0 → k_X (jX12_value G l h0) h 74 [] [] Q) (K2 : ¬ (s0 = 0) → k_X (jX12_value G l h0) h 64 [(0, vR (some x0)), (1, vI x1), (7, vI x7)] [] Q) : k_X (jX12_value G l h0) h 61 [(0, vR (some x0)), (1, vI x1), (7, vI x7)] [vI s0] Q := by
  by_cases hc : s0 = 0
  · skip
    obtain ⟨h', r, K, q⟩ := K1 hc
    exact ⟨h', r, j_if_eq_t (tgt := 74) dX12_value_61 (by decide) hc (j_pick [] rfl K), q⟩
  · skip
    obtain ⟨h', r, K, q⟩ := K2 hc
    exact ⟨h', r, j_if_eq_f dX12_value_61 74 (by decide) hc K, q⟩
theorem bX12_value_64 {h0 h : k_H} {Q : k_H → k_R → Prop} {x0 : Nat} {x1 x7 : Int32} (w : k_is h x0 15) {P : k_H → Int32 → Prop} (c : k_cti (tX12_valueAt G l) [vR (some x0), vI x7, vI x1] h P) (K : ∀ h1 v, P h1 v → k_X (jX12_value G l h0) h1 71 [] [vI v] Q) : k_X (jX12_value G l h0) h 64 [(0, vR (some x0)), (1, vI x1), (7, vI x7)] [] Q := by
  obtain ⟨h1, v, c, p⟩ := c
  obtain ⟨h', r, K, q⟩ := K h1 v p
  exact ⟨h', r, j_aload_n dX12_value_64 rfl rfl <| j_iload dX12_value_65 rfl <| j_iload_n dX12_value_67 rfl rfl <| j_callV (v := some (vI v)) (as := [vI x7, vI x1]) dX12_value_68 kc_X12_183 rfl rfl w (by decide) (Nat.le_of_ble_eq_true rfl) c (j_pick [] rfl K), q⟩
theorem bX12_value_71 {h0 h : k_H} {Q : k_H → k_R → Prop} {s0 : Int32} (K : k_X (jX12_value G l h0) h 76 [] [vI s0] Q) : k_X (jX12_value G l h0) h 71 [] [vI s0] Q := by
  obtain ⟨h', r, K, q⟩ := K
  exact ⟨h', r, j_goto (tgt := 76) dX12_value_71 (by decide) <| K, q⟩
theorem bX12_value_74 {h0 h : k_H} {Q : k_H → k_R → Prop} (K : k_X (jX12_value G l h0) h 76 [] [vI (-2147483648)] Q) : k_X (jX12_value G l h0) h 74 [] [] Q := by
  obtain ⟨h', r, K, q⟩ := K
  exact ⟨h', r, j_ldc (v := (-2147483648)) dX12_value_74 ki_X12_87 <| K, q⟩
theorem bX12_value_76 {h0 h : k_H} {Q : k_H → k_R → Prop} {s0 : Int32} (q : Q h (.inl (some (vI s0)))) : k_X (jX12_value G l h0) h 76 [] [vI s0] Q := by
  exact ⟨_, _, j_iret dX12_value_76 rfl, q⟩
theorem eX12_packed {G : k_G} {l : Launch} (hfl : l.flags = flags0) {h : k_H} {Q : k_H → k_R → Prop} {x0 : Nat} {x1 : Int32} {x2 : Int32} {x3 : Int32} {x4 : Int32} (K : k_X (jX12_packed G l h) h 0 [(0, vR (some x0)), (1, vI x1), (2, vI x2), (3, vI x3), (4, vI x4)] [] Q) : k_ct (tX12_packed G l) [vR (some x0), vI x1, vI x2, vI x3, vI x4] h Q := by
  obtain ⟨h', r, K, q⟩ := K
  exact ⟨h', r, k_CtOf (by decide +kernel) (Nat.le_of_ble_eq_true rfl) K hfl, q⟩

theorem bX12_packed_0 {h0 h : k_H} {Q : k_H → k_R → Prop} {x0 : Nat} {x1 x2 x3 x4 : Int32} (K1 : 0 ≤ x4 → k_X (jX12_packed G l h0) h 10 [(1, vI x1), (2, vI x2), (3, vI x3), (4, vI x4)] [vR (some x0)] Q) (K2 : ¬ (0 ≤ x4) → k_X (jX12_packed G l h0) h 6 [(1, vI x1), (2, vI x2), (3, vI x3), (4, vI x4)] [vR (some x0)] Q) : k_X (jX12_packed G l h0) h 0 [(0, vR (some x0)), (1, vI x1), (2, vI x2), (3, vI x3), (4, vI x4)] [] Q := by
  by_cases hc : 0 ≤ x4
  · skip
    obtain ⟨h', r, K, q⟩ := K1 hc
    exact ⟨h', r, j_aload_n dX12_packed_0 rfl rfl <| j_iload dX12_packed_1 rfl <| j_if_ge_t (tgt := 10) dX12_packed_3 (by decide) hc (j_pick [1, 2, 3, 4] rfl K), q⟩
  · skip
    obtain ⟨h', r, K, q⟩ := K2 hc
    exact ⟨h', r, j_aload_n dX12_packed_0 rfl rfl <| j_iload dX12_packed_1 rfl <| j_if_ge_f dX12_packed_3 10 (by decide) hc (j_pick [1, 2, 3, 4] rfl K), q⟩
theorem bX12_packed_6 {h0 h : k_H} {Q : k_H → k_R → Prop} {x1 x2 x3 x4 : Int32} {s0 : Option Nat} (K : k_X (jX12_packed G l h0) h 24 [(1, vI x1), (2, vI x2), (3, vI x3), (4, vI x4)] [vI 1, vR s0] Q) : k_X (jX12_packed G l h0) h 6 [(1, vI x1), (2, vI x2), (3, vI x3), (4, vI x4)] [vR s0] Q := by
  obtain ⟨h', r, K, q⟩ := K
  exact ⟨h', r, j_iconst (v := 1) dX12_packed_6 (by decide) <| j_goto (tgt := 24) dX12_packed_7 (by decide) <| K, q⟩
theorem bX12_packed_10 {h0 h : k_H} {Q : k_H → k_R → Prop} {x1 x2 x3 x4 : Int32} {s0 : Option Nat} {P : k_H → Int32 → Prop} (c : k_cti (tX12_isKey G l) [vI x1, vI x2, vI x3] h P) (K : ∀ h1 v, P h1 v → k_X (jX12_packed G l h0) h1 16 [(1, vI x1), (2, vI x2), (3, vI x3), (4, vI x4)] [vI v, vR s0] Q) : k_X (jX12_packed G l h0) h 10 [(1, vI x1), (2, vI x2), (3, vI x3), (4, vI x4)] [vR s0] Q := by
  obtain ⟨h1, v, c, p⟩ := c
  obtain ⟨h', r, K, q⟩ := K h1 v p
  exact ⟨h', r, j_iload_n dX12_packed_10 rfl rfl <| j_iload_n dX12_packed_11 rfl rfl <| j_iload_n dX12_packed_12 rfl rfl <| j_callS (v := some (vI v)) (as := [vI x1, vI x2, vI x3]) dX12_packed_13 kc_X12_275 rfl rfl (by decide) (Nat.le_of_ble_eq_true rfl) c K, q⟩
theorem bX12_packed_16 {h0 h : k_H} {Q : k_H → k_R → Prop} {x1 x2 x3 x4 s1 : Int32} {s0 : Option Nat} (K1 : s1 = 0 → k_X (jX12_packed G l h0) h 23 [(1, vI x1), (2, vI x2), (3, vI x3), (4, vI x4)] [vR s0] Q) (K2 : ¬ (s1 = 0) → k_X (jX12_packed G l h0) h 19 [(1, vI x1), (2, vI x2), (3, vI x3), (4, vI x4)] [vR s0] Q) : k_X (jX12_packed G l h0) h 16 [(1, vI x1), (2, vI x2), (3, vI x3), (4, vI x4)] [vI s1, vR s0] Q := by
  by_cases hc : s1 = 0
  · skip
    obtain ⟨h', r, K, q⟩ := K1 hc
    exact ⟨h', r, j_if_eq_t (tgt := 23) dX12_packed_16 (by decide) hc K, q⟩
  · skip
    obtain ⟨h', r, K, q⟩ := K2 hc
    exact ⟨h', r, j_if_eq_f dX12_packed_16 23 (by decide) hc K, q⟩
theorem bX12_packed_19 {h0 h : k_H} {Q : k_H → k_R → Prop} {x1 x2 x3 x4 : Int32} {s0 : Option Nat} (K : k_X (jX12_packed G l h0) h 24 [(1, vI x1), (2, vI x2), (3, vI x3), (4, vI x4)] [vI 0, vR s0] Q) : k_X (jX12_packed G l h0) h 19 [(1, vI x1), (2, vI x2), (3, vI x3), (4, vI x4)] [vR s0] Q := by
  obtain ⟨h', r, K, q⟩ := K
  exact ⟨h', r, j_iconst (v := 0) dX12_packed_19 (by decide) <| j_goto (tgt := 24) dX12_packed_20 (by decide) <| K, q⟩
theorem bX12_packed_23 {h0 h : k_H} {Q : k_H → k_R → Prop} {x1 x2 x3 x4 : Int32} {s0 : Option Nat} (K : k_X (jX12_packed G l h0) h 24 [(1, vI x1), (2, vI x2), (3, vI x3), (4, vI x4)] [vI 2, vR s0] Q) : k_X (jX12_packed G l h0) h 23 [(1, vI x1), (2, vI x2), (3, vI x3), (4, vI x4)] [vR s0] Q := by
  obtain ⟨h', r, K, q⟩ := K
  exact ⟨h', r, j_iconst (v := 2) dX12_packed_23 (by decide) <| K, q⟩
theorem bX12_packed_24 {h0 h : k_H} {Q : k_H → k_R → Prop} {x1 x2 x3 x4 s1 : Int32} {s0 : Nat} (w : k_is h s0 15) {P : k_H → Int32 → Prop} (c : k_cti (tX12_goes G l) [vR (some s0), vI s1] h P) (K : ∀ h1 v, P h1 v → k_X (jX12_packed G l h0) h1 27 [(1, vI x1), (2, vI x2), (3, vI x3), (4, vI x4)] [vI v] Q) : k_X (jX12_packed G l h0) h 24 [(1, vI x1), (2, vI x2), (3, vI x3), (4, vI x4)] [vI s1, vR (some s0)] Q := by
  obtain ⟨h1, v, c, p⟩ := c
  obtain ⟨h', r, K, q⟩ := K h1 v p
  exact ⟨h', r, j_callV (v := some (vI v)) (as := [vI s1]) dX12_packed_24 kc_X12_265 rfl rfl w (by decide) (Nat.le_of_ble_eq_true rfl) c K, q⟩
theorem bX12_packed_27 {h0 h : k_H} {Q : k_H → k_R → Prop} {x1 x2 x3 x4 s0 : Int32} (K1 : ¬ (s0 = 0) → k_X (jX12_packed G l h0) h 32 [(1, vI x1), (2, vI x2), (3, vI x3), (4, vI x4)] [] Q) (K2 : s0 = 0 → k_X (jX12_packed G l h0) h 30 [] [] Q) : k_X (jX12_packed G l h0) h 27 [(1, vI x1), (2, vI x2), (3, vI x3), (4, vI x4)] [vI s0] Q := by
  by_cases hc : s0 = 0
  · skip
    obtain ⟨h', r, K, q⟩ := K2 hc
    exact ⟨h', r, j_if_ne_f dX12_packed_27 32 (by decide) hc (j_pick [] rfl K), q⟩
  · skip
    obtain ⟨h', r, K, q⟩ := K1 hc
    exact ⟨h', r, j_if_ne_t (tgt := 32) dX12_packed_27 (by decide) hc K, q⟩
theorem bX12_packed_30 {h0 h : k_H} {Q : k_H → k_R → Prop} (q : Q h (.inl (some (vI 0)))) : k_X (jX12_packed G l h0) h 30 [] [] Q := by
  exact ⟨_, _, j_iconst (v := 0) dX12_packed_30 (by decide) <| j_iret dX12_packed_31 rfl, q⟩
theorem bX12_packed_32 {h0 h : k_H} {Q : k_H → k_R → Prop} {x1 x2 x3 x4 : Int32} (K1 : ¬ ((x4 / 3) = 0) → k_X (jX12_packed G l h0) h 43 [(2, vI x2), (3, vI x3), (4, vI x4)] [] Q) (K2 : (x4 / 3) = 0 → k_X (jX12_packed G l h0) h 39 [(1, vI x1), (4, vI x4)] [] Q) : k_X (jX12_packed G l h0) h 32 [(1, vI x1), (2, vI x2), (3, vI x3), (4, vI x4)] [] Q := by
  by_cases hc : (x4 / 3) = 0
  · skip
    obtain ⟨h', r, K, q⟩ := K2 hc
    exact ⟨h', r, j_iload dX12_packed_32 rfl <| j_iconst (v := 3) dX12_packed_34 (by decide) <| j_idiv dX12_packed_35 (by decide) <| j_if_ne_f dX12_packed_36 43 (by decide) hc (j_pick [0, 3] rfl K), q⟩
  · skip
    obtain ⟨h', r, K, q⟩ := K1 hc
    exact ⟨h', r, j_iload dX12_packed_32 rfl <| j_iconst (v := 3) dX12_packed_34 (by decide) <| j_idiv dX12_packed_35 (by decide) <| j_if_ne_t (tgt := 43) dX12_packed_36 (by decide) hc (j_pick [1, 2, 3] rfl K), q⟩
theorem bX12_packed_39 {h0 h : k_H} {Q : k_H → k_R → Prop} {x1 x4 : Int32} (K : k_X (jX12_packed G l h0) h 70 [(4, vI x4)] [vI x1] Q) : k_X (jX12_packed G l h0) h 39 [(1, vI x1), (4, vI x4)] [] Q := by
  obtain ⟨h', r, K, q⟩ := K
  exact ⟨h', r, j_iload_n dX12_packed_39 rfl rfl <| j_goto (tgt := 70) dX12_packed_40 (by decide) <| (j_pick [1] rfl K), q⟩
theorem bX12_packed_43 {h0 h : k_H} {Q : k_H → k_R → Prop} {x2 x3 x4 : Int32} (K1 : ¬ ((x4 / 3) = 1) → k_X (jX12_packed G l h0) h 55 [(3, vI x3), (4, vI x4)] [] Q) (K2 : (x4 / 3) = 1 → k_X (jX12_packed G l h0) h 51 [(2, vI x2), (4, vI x4)] [] Q) : k_X (jX12_packed G l h0) h 43 [(2, vI x2), (3, vI x3), (4, vI x4)] [] Q := by
  by_cases hc : (x4 / 3) = 1
  · skip
    obtain ⟨h', r, K, q⟩ := K2 hc
    exact ⟨h', r, j_iload dX12_packed_43 rfl <| j_iconst (v := 3) dX12_packed_45 (by decide) <| j_idiv dX12_packed_46 (by decide) <| j_iconst (v := 1) dX12_packed_47 (by decide) <| j_icmp_ne_f dX12_packed_48 55 (by decide) hc (j_pick [0, 2] rfl K), q⟩
  · skip
    obtain ⟨h', r, K, q⟩ := K1 hc
    exact ⟨h', r, j_iload dX12_packed_43 rfl <| j_iconst (v := 3) dX12_packed_45 (by decide) <| j_idiv dX12_packed_46 (by decide) <| j_iconst (v := 1) dX12_packed_47 (by decide) <| j_icmp_ne_t (tgt := 55) dX12_packed_48 (by decide) hc (j_pick [1, 2] rfl K), q⟩
theorem bX12_packed_51 {h0 h : k_H} {Q : k_H → k_R → Prop} {x2 x4 : Int32} (K : k_X (jX12_packed G l h0) h 70 [(4, vI x4)] [vI x2] Q) : k_X (jX12_packed G l h0) h 51 [(2, vI x2), (4, vI x4)] [] Q := by
  obtain ⟨h', r, K, q⟩ := K
  exact ⟨h', r, j_iload_n dX12_packed_51 rfl rfl <| j_goto (tgt := 70) dX12_packed_52 (by decide) <| (j_pick [1] rfl K), q⟩
theorem bX12_packed_55 {h0 h : k_H} {Q : k_H → k_R → Prop} {x3 x4 : Int32} (K1 : ¬ ((x4 / 3) = 2) → k_X (jX12_packed G l h0) h 67 [(4, vI x4)] [] Q) (K2 : (x4 / 3) = 2 → k_X (jX12_packed G l h0) h 63 [(3, vI x3), (4, vI x4)] [] Q) : k_X (jX12_packed G l h0) h 55 [(3, vI x3), (4, vI x4)] [] Q := by
  by_cases hc : (x4 / 3) = 2
  · skip
    obtain ⟨h', r, K, q⟩ := K2 hc
    exact ⟨h', r, j_iload dX12_packed_55 rfl <| j_iconst (v := 3) dX12_packed_57 (by decide) <| j_idiv dX12_packed_58 (by decide) <| j_iconst (v := 2) dX12_packed_59 (by decide) <| j_icmp_ne_f dX12_packed_60 67 (by decide) hc K, q⟩
  · skip
    obtain ⟨h', r, K, q⟩ := K1 hc
    exact ⟨h', r, j_iload dX12_packed_55 rfl <| j_iconst (v := 3) dX12_packed_57 (by decide) <| j_idiv dX12_packed_58 (by decide) <| j_iconst (v := 2) dX12_packed_59 (by decide) <| j_icmp_ne_t (tgt := 67) dX12_packed_60 (by decide) hc (j_pick [1] rfl K), q⟩
theorem bX12_packed_63 {h0 h : k_H} {Q : k_H → k_R → Prop} {x3 x4 : Int32} (K : k_X (jX12_packed G l h0) h 70 [(4, vI x4)] [vI x3] Q) : k_X (jX12_packed G l h0) h 63 [(3, vI x3), (4, vI x4)] [] Q := by
  obtain ⟨h', r, K, q⟩ := K
  exact ⟨h', r, j_iload_n dX12_packed_63 rfl rfl <| j_goto (tgt := 70) dX12_packed_64 (by decide) <| (j_pick [1] rfl K), q⟩
theorem bX12_packed_67 {h0 h : k_H} {Q : k_H → k_R → Prop} {x4 : Int32} (K : k_X (jX12_packed G l h0) h 70 [(4, vI x4)] [vI 10000] Q) : k_X (jX12_packed G l h0) h 67 [(4, vI x4)] [] Q := by
  obtain ⟨h', r, K, q⟩ := K
  exact ⟨h', r, j_sipush (v := 10000) dX12_packed_67 (by decide) <| K, q⟩
theorem bX12_packed_70 {h0 h : k_H} {Q : k_H → k_R → Prop} {x4 s0 : Int32} (K1 : ¬ (s0 = 10000) → k_X (jX12_packed G l h0) h 83 [(4, vI x4), (5, vI s0)] [] Q) (K2 : s0 = 10000 → k_X (jX12_packed G l h0) h 80 [] [] Q) : k_X (jX12_packed G l h0) h 70 [(4, vI x4)] [vI s0] Q := by
  by_cases hc : s0 = 10000
  · skip
    obtain ⟨h', r, K, q⟩ := K2 hc
    exact ⟨h', r, j_istore dX12_packed_70 (by decide) rfl <| j_iload dX12_packed_72 rfl <| j_sipush (v := 10000) dX12_packed_74 (by decide) <| j_icmp_ne_f dX12_packed_77 83 (by decide) hc (j_pick [] rfl K), q⟩
  · skip
    obtain ⟨h', r, K, q⟩ := K1 hc
    exact ⟨h', r, j_istore dX12_packed_70 (by decide) rfl <| j_iload dX12_packed_72 rfl <| j_sipush (v := 10000) dX12_packed_74 (by decide) <| j_icmp_ne_t (tgt := 83) dX12_packed_77 (by decide) hc K, q⟩
theorem bX12_packed_80 {h0 h : k_H} {Q : k_H → k_R → Prop} (q : Q h (.inl (some (vI (-2147483648))))) : k_X (jX12_packed G l h0) h 80 [] [] Q := by
  exact ⟨_, _, j_ldc (v := (-2147483648)) dX12_packed_80 ki_X12_87 <| j_iret dX12_packed_82 rfl, q⟩
theorem bX12_packed_83 {h0 h : k_H} {Q : k_H → k_R → Prop} {x4 x5 : Int32} (K1 : 0 ≤ x5 → k_X (jX12_packed G l h0) h 97 [(4, vI x4), (5, vI x5)] [] Q) (K2 : ¬ (0 ≤ x5) → k_X (jX12_packed G l h0) h 88 [(4, vI x4), (5, vI x5)] [] Q) : k_X (jX12_packed G l h0) h 83 [(4, vI x4), (5, vI x5)] [] Q := by
  by_cases hc : 0 ≤ x5
  · skip
    obtain ⟨h', r, K, q⟩ := K1 hc
    exact ⟨h', r, j_iload dX12_packed_83 rfl <| j_if_ge_t (tgt := 97) dX12_packed_85 (by decide) hc K, q⟩
  · skip
    obtain ⟨h', r, K, q⟩ := K2 hc
    exact ⟨h', r, j_iload dX12_packed_83 rfl <| j_if_ge_f dX12_packed_85 97 (by decide) hc K, q⟩
theorem bX12_packed_88 {h0 h : k_H} {Q : k_H → k_R → Prop} {x4 x5 : Int32} (K : k_X (jX12_packed G l h0) h 99 [(4, vI x4), (5, vI x5)] [vI (x5 + 1000)] Q) : k_X (jX12_packed G l h0) h 88 [(4, vI x4), (5, vI x5)] [] Q := by
  obtain ⟨h', r, K, q⟩ := K
  exact ⟨h', r, j_iload dX12_packed_88 rfl <| j_sipush (v := 1000) dX12_packed_90 (by decide) <| j_iadd dX12_packed_93 <| j_goto (tgt := 99) dX12_packed_94 (by decide) <| K, q⟩
theorem bX12_packed_97 {h0 h : k_H} {Q : k_H → k_R → Prop} {x4 x5 : Int32} (K : k_X (jX12_packed G l h0) h 99 [(4, vI x4), (5, vI x5)] [vI x5] Q) : k_X (jX12_packed G l h0) h 97 [(4, vI x4), (5, vI x5)] [] Q := by
  obtain ⟨h', r, K, q⟩ := K
  exact ⟨h', r, j_iload dX12_packed_97 rfl <| K, q⟩
theorem bX12_packed_99 {h0 h : k_H} {Q : k_H → k_R → Prop} {x4 x5 s0 : Int32} (K1 : ¬ ((x4 - (x4 / 3) * 3) = 0) → k_X (jX12_packed G l h0) h 121 [(4, vI x4), (6, vI s0)] [] Q) (K2 : (x4 - (x4 / 3) * 3) = 0 → k_X (jX12_packed G l h0) h 108 [(5, vI x5)] [] Q) : k_X (jX12_packed G l h0) h 99 [(4, vI x4), (5, vI x5)] [vI s0] Q := by
  by_cases hc : (x4 - (x4 / 3) * 3) = 0
  · skip
    obtain ⟨h', r, K, q⟩ := K2 hc
    exact ⟨h', r, j_istore dX12_packed_99 (by decide) rfl <| j_iload dX12_packed_101 rfl <| j_iconst (v := 3) dX12_packed_103 (by decide) <| j_irem dX12_packed_104 (by decide) <| j_if_ne_f dX12_packed_105 121 (by decide) hc (j_pick [1] rfl K), q⟩
  · skip
    obtain ⟨h', r, K, q⟩ := K1 hc
    exact ⟨h', r, j_istore dX12_packed_99 (by decide) rfl <| j_iload dX12_packed_101 rfl <| j_iconst (v := 3) dX12_packed_103 (by decide) <| j_irem dX12_packed_104 (by decide) <| j_if_ne_t (tgt := 121) dX12_packed_105 (by decide) hc (j_pick [0, 2] rfl K), q⟩
theorem bX12_packed_108 {h0 h : k_H} {Q : k_H → k_R → Prop} {x5 : Int32} (K1 : 0 ≤ x5 → k_X (jX12_packed G l h0) h 117 [] [] Q) (K2 : ¬ (0 ≤ x5) → k_X (jX12_packed G l h0) h 113 [] [] Q) : k_X (jX12_packed G l h0) h 108 [(5, vI x5)] [] Q := by
  by_cases hc : 0 ≤ x5
  · skip
    obtain ⟨h', r, K, q⟩ := K1 hc
    exact ⟨h', r, j_iload dX12_packed_108 rfl <| j_if_ge_t (tgt := 117) dX12_packed_110 (by decide) hc (j_pick [] rfl K), q⟩
  · skip
    obtain ⟨h', r, K, q⟩ := K2 hc
    exact ⟨h', r, j_iload dX12_packed_108 rfl <| j_if_ge_f dX12_packed_110 117 (by decide) hc (j_pick [] rfl K), q⟩
theorem bX12_packed_113 {h0 h : k_H} {Q : k_H → k_R → Prop} (K : k_X (jX12_packed G l h0) h 142 [] [vI 1] Q) : k_X (jX12_packed G l h0) h 113 [] [] Q := by
  obtain ⟨h', r, K, q⟩ := K
  exact ⟨h', r, j_iconst (v := 1) dX12_packed_113 (by decide) <| j_goto (tgt := 142) dX12_packed_114 (by decide) <| K, q⟩
theorem bX12_packed_117 {h0 h : k_H} {Q : k_H → k_R → Prop} (K : k_X (jX12_packed G l h0) h 142 [] [vI 2] Q) : k_X (jX12_packed G l h0) h 117 [] [] Q := by
  obtain ⟨h', r, K, q⟩ := K
  exact ⟨h', r, j_iconst (v := 2) dX12_packed_117 (by decide) <| j_goto (tgt := 142) dX12_packed_118 (by decide) <| K, q⟩
theorem bX12_packed_121 {h0 h : k_H} {Q : k_H → k_R → Prop} {x4 x6 : Int32} (K1 : ¬ ((x4 - (x4 / 3) * 3) = 1) → k_X (jX12_packed G l h0) h 137 [(6, vI x6)] [] Q) (K2 : (x4 - (x4 / 3) * 3) = 1 → k_X (jX12_packed G l h0) h 129 [(6, vI x6)] [] Q) : k_X (jX12_packed G l h0) h 121 [(4, vI x4), (6, vI x6)] [] Q := by
  by_cases hc : (x4 - (x4 / 3) * 3) = 1
  · skip
    obtain ⟨h', r, K, q⟩ := K2 hc
    exact ⟨h', r, j_iload dX12_packed_121 rfl <| j_iconst (v := 3) dX12_packed_123 (by decide) <| j_irem dX12_packed_124 (by decide) <| j_iconst (v := 1) dX12_packed_125 (by decide) <| j_icmp_ne_f dX12_packed_126 137 (by decide) hc (j_pick [1] rfl K), q⟩
  · skip
    obtain ⟨h', r, K, q⟩ := K1 hc
    exact ⟨h', r, j_iload dX12_packed_121 rfl <| j_iconst (v := 3) dX12_packed_123 (by decide) <| j_irem dX12_packed_124 (by decide) <| j_iconst (v := 1) dX12_packed_125 (by decide) <| j_icmp_ne_t (tgt := 137) dX12_packed_126 (by decide) hc (j_pick [1] rfl K), q⟩
theorem bX12_packed_129 {h0 h : k_H} {Q : k_H → k_R → Prop} {x6 : Int32} (K : k_X (jX12_packed G l h0) h 142 [] [vI (x6 / 100)] Q) : k_X (jX12_packed G l h0) h 129 [(6, vI x6)] [] Q := by
  obtain ⟨h', r, K, q⟩ := K
  exact ⟨h', r, j_iload dX12_packed_129 rfl <| j_bipush (v := 100) dX12_packed_131 (by decide) <| j_idiv dX12_packed_133 (by decide) <| j_goto (tgt := 142) dX12_packed_134 (by decide) <| (j_pick [] rfl K), q⟩
theorem bX12_packed_137 {h0 h : k_H} {Q : k_H → k_R → Prop} {x6 : Int32} (K : k_X (jX12_packed G l h0) h 142 [] [vI (x6 - (x6 / 100) * 100)] Q) : k_X (jX12_packed G l h0) h 137 [(6, vI x6)] [] Q := by
  obtain ⟨h', r, K, q⟩ := K
  exact ⟨h', r, j_iload dX12_packed_137 rfl <| j_bipush (v := 100) dX12_packed_139 (by decide) <| j_irem dX12_packed_141 (by decide) <| (j_pick [] rfl K), q⟩
theorem bX12_packed_142 {h0 h : k_H} {Q : k_H → k_R → Prop} {s0 : Int32} (q : Q h (.inl (some (vI s0)))) : k_X (jX12_packed G l h0) h 142 [] [vI s0] Q := by
  exact ⟨_, _, j_iret dX12_packed_142 rfl, q⟩
theorem eX12_version {G : k_G} {l : Launch} (hfl : l.flags = flags0) {h : k_H} {Q : k_H → k_R → Prop} {x0 : Nat} (K : k_X (jX12_version G l h) h 0 [(0, vR (some x0))] [] Q) : k_ct (tX12_version G l) [vR (some x0)] h Q := by
  obtain ⟨h', r, K, q⟩ := K
  exact ⟨h', r, k_CtOf (by decide +kernel) (Nat.le_of_ble_eq_true rfl) K hfl, q⟩

theorem bX12_version_0 {h0 h : k_H} {Q : k_H → k_R → Prop} {x0 : Nat} {fs1 : List k_V} (o1 : h.1 x0 = some (k_o 15 fs1)) (z1 : fs1.length = 53) (K : k_X (jX12_version G l h0) (k_up h x0 (k_o 15 (fs1.set 52 (vI 0)))) 5 [(0, vR (some x0))] [] Q) : k_X (jX12_version G l h0) h 0 [(0, vR (some x0))] [] Q := by
  obtain ⟨h', r, K, q⟩ := K
  exact ⟨h', r, j_aload_n dX12_version_0 rfl rfl <| j_iconst (v := 0) dX12_version_1 (by decide) <| j_putf dX12_version_2 kp_X12_134 o1 (k_ln z1 (by decide)) (k_fit_i _) rfl <| K, q⟩
theorem bX12_version_5 {h0 h : k_H} {Q : k_H → k_R → Prop} {x0 : Nat} {f1_0 : Int32} {fs1 : List k_V} (o1 : h.1 x0 = some (k_o 15 fs1)) (g1_0 : fs1[0]? = some (vI f1_0)) (q : Q h (.inl (some (vI f1_0)))) : k_X (jX12_version G l h0) h 5 [(0, vR (some x0))] [] Q := by
  exact ⟨_, _, j_aload_n dX12_version_5 rfl rfl <| j_getf dX12_version_6 kf_X12_176 o1 g1_0 <| j_iret dX12_version_9 rfl, q⟩
theorem eX12_isDirectory {G : k_G} {l : Launch} (hfl : l.flags = flags0) {h : k_H} {Q : k_H → k_R → Prop} {x0 : Nat} {x1 : Int32} (K : k_X (jX12_isDirectory G l h) h 0 [(0, vR (some x0)), (1, vI x1)] [] Q) : k_ct (tX12_isDirectory G l) [vR (some x0), vI x1] h Q := by
  obtain ⟨h', r, K, q⟩ := K
  exact ⟨h', r, k_CtOf (by decide +kernel) (Nat.le_of_ble_eq_true rfl) K hfl, q⟩

theorem bX12_isDirectory_0 {h0 h : k_H} {Q : k_H → k_R → Prop} {x0 : Nat} {x1 f1_36 : Int32} {fs1 : List k_V} (o1 : h.1 x0 = some (k_o 15 fs1)) (g1_36 : fs1[36]? = some (vI f1_36)) {P : k_H → Int32 → Prop} (c : k_cti (tX12_isIn G l) [vI x1, vI 0, vI (f1_36 - 1)] h P) (K : ∀ h1 v, P h1 v → k_X (jX12_isDirectory G l h0) h1 11 [(0, vR (some x0)), (1, vI x1)] [vI v] Q) : k_X (jX12_isDirectory G l h0) h 0 [(0, vR (some x0)), (1, vI x1)] [] Q := by
  obtain ⟨h1, v, c, p⟩ := c
  obtain ⟨h', r, K, q⟩ := K h1 v p
  exact ⟨h', r, j_iload_n dX12_isDirectory_0 rfl rfl <| j_iconst (v := 0) dX12_isDirectory_1 (by decide) <| j_aload_n dX12_isDirectory_2 rfl rfl <| j_getf dX12_isDirectory_3 kf_X12_92 o1 g1_36 <| j_iconst (v := 1) dX12_isDirectory_6 (by decide) <| j_isub dX12_isDirectory_7 <| j_callS (v := some (vI v)) (as := [vI x1, vI 0, vI (f1_36 - 1)]) dX12_isDirectory_8 kc_X12_137 rfl rfl (by decide) (Nat.le_of_ble_eq_true rfl) c K, q⟩
theorem bX12_isDirectory_11 {h0 h : k_H} {Q : k_H → k_R → Prop} {x0 : Nat} {x1 s0 : Int32} (K1 : s0 = 0 → k_X (jX12_isDirectory G l h0) h 27 [] [] Q) (K2 : ¬ (s0 = 0) → k_X (jX12_isDirectory G l h0) h 14 [(0, vR (some x0)), (1, vI x1)] [] Q) : k_X (jX12_isDirectory G l h0) h 11 [(0, vR (some x0)), (1, vI x1)] [vI s0] Q := by
  by_cases hc : s0 = 0
  · skip
    obtain ⟨h', r, K, q⟩ := K1 hc
    exact ⟨h', r, j_if_eq_t (tgt := 27) dX12_isDirectory_11 (by decide) hc (j_pick [] rfl K), q⟩
  · skip
    obtain ⟨h', r, K, q⟩ := K2 hc
    exact ⟨h', r, j_if_eq_f dX12_isDirectory_11 27 (by decide) hc K, q⟩
theorem bX12_isDirectory_14 {h0 h : k_H} {Q : k_H → k_R → Prop} {x0 f1_40 : Nat} {x1 : Int32} {fs1 : List k_V} (o1 : h.1 x0 = some (k_o 15 fs1)) (g1_40 : fs1[40]? = some (vR (some f1_40))) {n2 : Nat} {w2 : Nat → Int32} (o2 : h.1 f1_40 = some (k_z n2 w2)) (y3 : vp_in x1 n2) (K1 : (w2 (x1).toNatClampNeg) = 0 → k_X (jX12_isDirectory G l h0) h 27 [] [] Q) (K2 : ¬ ((w2 (x1).toNatClampNeg) = 0) → k_X (jX12_isDirectory G l h0) h 23 [] [] Q) : k_X (jX12_isDirectory G l h0) h 14 [(0, vR (some x0)), (1, vI x1)] [] Q := by
  by_cases hc : (w2 (x1).toNatClampNeg) = 0
  · skip
    obtain ⟨h', r, K, q⟩ := K1 hc
    exact ⟨h', r, j_aload_n dX12_isDirectory_14 rfl rfl <| j_getf dX12_isDirectory_15 kf_X12_104 o1 g1_40 <| j_iload_n dX12_isDirectory_18 rfl rfl <| j_zald dX12_isDirectory_19 o2 y3 <| j_if_eq_t (tgt := 27) dX12_isDirectory_20 (by decide) hc (j_pick [] rfl K), q⟩
  · skip
    obtain ⟨h', r, K, q⟩ := K2 hc
    exact ⟨h', r, j_aload_n dX12_isDirectory_14 rfl rfl <| j_getf dX12_isDirectory_15 kf_X12_104 o1 g1_40 <| j_iload_n dX12_isDirectory_18 rfl rfl <| j_zald dX12_isDirectory_19 o2 y3 <| j_if_eq_f dX12_isDirectory_20 27 (by decide) hc (j_pick [] rfl K), q⟩
theorem bX12_isDirectory_23 {h0 h : k_H} {Q : k_H → k_R → Prop} (K : k_X (jX12_isDirectory G l h0) h 28 [] [vI 1] Q) : k_X (jX12_isDirectory G l h0) h 23 [] [] Q := by
  obtain ⟨h', r, K, q⟩ := K
  exact ⟨h', r, j_iconst (v := 1) dX12_isDirectory_23 (by decide) <| j_goto (tgt := 28) dX12_isDirectory_24 (by decide) <| K, q⟩
theorem bX12_isDirectory_27 {h0 h : k_H} {Q : k_H → k_R → Prop} (K : k_X (jX12_isDirectory G l h0) h 28 [] [vI 0] Q) : k_X (jX12_isDirectory G l h0) h 27 [] [] Q := by
  obtain ⟨h', r, K, q⟩ := K
  exact ⟨h', r, j_iconst (v := 0) dX12_isDirectory_27 (by decide) <| K, q⟩
theorem bX12_isDirectory_28 {h0 h : k_H} {Q : k_H → k_R → Prop} {s0 : Int32} (y1 : k_bl s0) (q : Q h (.inl (some (vI s0)))) : k_X (jX12_isDirectory G l h0) h 28 [] [vI s0] Q := by
  exact ⟨_, _, j_zret dX12_isDirectory_28 rfl y1, q⟩
theorem eX12_manyThere {G : k_G} {l : Launch} (hfl : l.flags = flags0) {h : k_H} {Q : k_H → k_R → Prop} {x0 : Nat} (K : k_X (jX12_manyThere G l h) h 0 [(0, vR (some x0))] [] Q) : k_ct (tX12_manyThere G l) [vR (some x0)] h Q := by
  obtain ⟨h', r, K, q⟩ := K
  exact ⟨h', r, k_CtOf (by decide +kernel) (Nat.le_of_ble_eq_true rfl) K hfl, q⟩

theorem bX12_manyThere_0 {h0 h : k_H} {Q : k_H → k_R → Prop} {x0 : Nat} (K : k_X (jX12_manyThere G l h0) h 4 [(0, vR (some x0)), (1, vI 0), (2, vI 1)] [] Q) : k_X (jX12_manyThere G l h0) h 0 [(0, vR (some x0))] [] Q := by
  obtain ⟨h', r, K, q⟩ := K
  exact ⟨h', r, j_iconst (v := 0) dX12_manyThere_0 (by decide) <| j_istore_n dX12_manyThere_1 rfl (by decide) rfl <| j_iconst (v := 1) dX12_manyThere_2 (by decide) <| j_istore_n dX12_manyThere_3 rfl (by decide) rfl <| K, q⟩
theorem bX12_manyThere_4 {h0 h : k_H} {Q : k_H → k_R → Prop} {x0 : Nat} {x1 x2 f1_36 : Int32} {fs1 : List k_V} (o1 : h.1 x0 = some (k_o 15 fs1)) (g1_36 : fs1[36]? = some (vI f1_36)) (K1 : f1_36 ≤ x2 → k_X (jX12_manyThere G l h0) h 35 [(1, vI x1)] [] Q) (K2 : ¬ (f1_36 ≤ x2) → k_X (jX12_manyThere G l h0) h 12 [(0, vR (some x0)), (1, vI x1), (2, vI x2)] [] Q) : k_X (jX12_manyThere G l h0) h 4 [(0, vR (some x0)), (1, vI x1), (2, vI x2)] [] Q := by
  by_cases hc : f1_36 ≤ x2
  · skip
    obtain ⟨h', r, K, q⟩ := K1 hc
    exact ⟨h', r, j_iload_n dX12_manyThere_4 rfl rfl <| j_aload_n dX12_manyThere_5 rfl rfl <| j_getf dX12_manyThere_6 kf_X12_92 o1 g1_36 <| j_icmp_ge_t (tgt := 35) dX12_manyThere_9 (by decide) hc (j_pick [1] rfl K), q⟩
  · skip
    obtain ⟨h', r, K, q⟩ := K2 hc
    exact ⟨h', r, j_iload_n dX12_manyThere_4 rfl rfl <| j_aload_n dX12_manyThere_5 rfl rfl <| j_getf dX12_manyThere_6 kf_X12_92 o1 g1_36 <| j_icmp_ge_f dX12_manyThere_9 35 (by decide) hc K, q⟩
theorem bX12_manyThere_12 {h0 h : k_H} {Q : k_H → k_R → Prop} {x0 f1_40 : Nat} {x1 x2 : Int32} {fs1 : List k_V} (o1 : h.1 x0 = some (k_o 15 fs1)) (g1_40 : fs1[40]? = some (vR (some f1_40))) {n2 : Nat} {w2 : Nat → Int32} (o2 : h.1 f1_40 = some (k_z n2 w2)) (y3 : vp_in x2 n2) (K1 : (w2 (x2).toNatClampNeg) = 0 → k_X (jX12_manyThere G l h0) h 26 [(0, vR (some x0)), (2, vI x2)] [vI x1] Q) (K2 : ¬ ((w2 (x2).toNatClampNeg) = 0) → k_X (jX12_manyThere G l h0) h 22 [(0, vR (some x0)), (2, vI x2)] [vI x1] Q) : k_X (jX12_manyThere G l h0) h 12 [(0, vR (some x0)), (1, vI x1), (2, vI x2)] [] Q := by
  by_cases hc : (w2 (x2).toNatClampNeg) = 0
  · skip
    obtain ⟨h', r, K, q⟩ := K1 hc
    exact ⟨h', r, j_iload_n dX12_manyThere_12 rfl rfl <| j_aload_n dX12_manyThere_13 rfl rfl <| j_getf dX12_manyThere_14 kf_X12_104 o1 g1_40 <| j_iload_n dX12_manyThere_17 rfl rfl <| j_zald dX12_manyThere_18 o2 y3 <| j_if_eq_t (tgt := 26) dX12_manyThere_19 (by decide) hc (j_pick [0, 2] rfl K), q⟩
  · skip
    obtain ⟨h', r, K, q⟩ := K2 hc
    exact ⟨h', r, j_iload_n dX12_manyThere_12 rfl rfl <| j_aload_n dX12_manyThere_13 rfl rfl <| j_getf dX12_manyThere_14 kf_X12_104 o1 g1_40 <| j_iload_n dX12_manyThere_17 rfl rfl <| j_zald dX12_manyThere_18 o2 y3 <| j_if_eq_f dX12_manyThere_19 26 (by decide) hc (j_pick [0, 2] rfl K), q⟩
theorem bX12_manyThere_22 {h0 h : k_H} {Q : k_H → k_R → Prop} {x0 : Nat} {x2 s0 : Int32} (K : k_X (jX12_manyThere G l h0) h 27 [(0, vR (some x0)), (2, vI x2)] [vI 1, vI s0] Q) : k_X (jX12_manyThere G l h0) h 22 [(0, vR (some x0)), (2, vI x2)] [vI s0] Q := by
  obtain ⟨h', r, K, q⟩ := K
  exact ⟨h', r, j_iconst (v := 1) dX12_manyThere_22 (by decide) <| j_goto (tgt := 27) dX12_manyThere_23 (by decide) <| K, q⟩
theorem bX12_manyThere_26 {h0 h : k_H} {Q : k_H → k_R → Prop} {x0 : Nat} {x2 s0 : Int32} (K : k_X (jX12_manyThere G l h0) h 27 [(0, vR (some x0)), (2, vI x2)] [vI 0, vI s0] Q) : k_X (jX12_manyThere G l h0) h 26 [(0, vR (some x0)), (2, vI x2)] [vI s0] Q := by
  obtain ⟨h', r, K, q⟩ := K
  exact ⟨h', r, j_iconst (v := 0) dX12_manyThere_26 (by decide) <| K, q⟩
theorem bX12_manyThere_27 {h0 h : k_H} {Q : k_H → k_R → Prop} {x0 : Nat} {x2 s0 s1 : Int32} (K : k_X (jX12_manyThere G l h0) h 4 [(0, vR (some x0)), (1, vI (s0 + s1)), (2, vI (x2 + 1))] [] Q) : k_X (jX12_manyThere G l h0) h 27 [(0, vR (some x0)), (2, vI x2)] [vI s1, vI s0] Q := by
  obtain ⟨h', r, K, q⟩ := K
  exact ⟨h', r, j_iadd dX12_manyThere_27 <| j_istore_n dX12_manyThere_28 rfl (by decide) rfl <| j_iinc (v := x2 + 1) dX12_manyThere_29 rfl (by decide) rfl rfl <| j_goto (tgt := 4) dX12_manyThere_32 (by decide) <| K, q⟩
theorem bX12_manyThere_35 {h0 h : k_H} {Q : k_H → k_R → Prop} {x1 : Int32} (q : Q h (.inl (some (vI x1)))) : k_X (jX12_manyThere G l h0) h 35 [(1, vI x1)] [] Q := by
  exact ⟨_, _, j_iload_n dX12_manyThere_35 rfl rfl <| j_iret dX12_manyThere_36 rfl, q⟩
theorem eX12_namedIn {G : k_G} {l : Launch} (hfl : l.flags = flags0) {h : k_H} {Q : k_H → k_R → Prop} {x0 : Nat} {x1 : Int32} {x2 : Int32} (K : k_X (jX12_namedIn G l h) h 0 [(0, vR (some x0)), (1, vI x1), (2, vI x2)] [] Q) : k_ct (tX12_namedIn G l) [vR (some x0), vI x1, vI x2] h Q := by
  obtain ⟨h', r, K, q⟩ := K
  exact ⟨h', r, k_CtOf (by decide +kernel) (Nat.le_of_ble_eq_true rfl) K hfl, q⟩

theorem bX12_namedIn_0 {h0 h : k_H} {Q : k_H → k_R → Prop} {x0 : Nat} {x1 x2 : Int32} (K : k_X (jX12_namedIn G l h0) h 2 [(0, vR (some x0)), (1, vI x1), (2, vI x2), (3, vI 1)] [] Q) : k_X (jX12_namedIn G l h0) h 0 [(0, vR (some x0)), (1, vI x1), (2, vI x2)] [] Q := by
  obtain ⟨h', r, K, q⟩ := K
  exact ⟨h', r, j_iconst (v := 1) dX12_namedIn_0 (by decide) <| j_istore_n dX12_namedIn_1 rfl (by decide) rfl <| K, q⟩
theorem bX12_namedIn_2 {h0 h : k_H} {Q : k_H → k_R → Prop} {x0 : Nat} {x1 x2 x3 f1_36 : Int32} {fs1 : List k_V} (o1 : h.1 x0 = some (k_o 15 fs1)) (g1_36 : fs1[36]? = some (vI f1_36)) (K1 : f1_36 ≤ x3 → k_X (jX12_namedIn G l h0) h 47 [] [] Q) (K2 : ¬ (f1_36 ≤ x3) → k_X (jX12_namedIn G l h0) h 10 [(0, vR (some x0)), (1, vI x1), (2, vI x2), (3, vI x3)] [] Q) : k_X (jX12_namedIn G l h0) h 2 [(0, vR (some x0)), (1, vI x1), (2, vI x2), (3, vI x3)] [] Q := by
  by_cases hc : f1_36 ≤ x3
  · skip
    obtain ⟨h', r, K, q⟩ := K1 hc
    exact ⟨h', r, j_iload_n dX12_namedIn_2 rfl rfl <| j_aload_n dX12_namedIn_3 rfl rfl <| j_getf dX12_namedIn_4 kf_X12_92 o1 g1_36 <| j_icmp_ge_t (tgt := 47) dX12_namedIn_7 (by decide) hc (j_pick [] rfl K), q⟩
  · skip
    obtain ⟨h', r, K, q⟩ := K2 hc
    exact ⟨h', r, j_iload_n dX12_namedIn_2 rfl rfl <| j_aload_n dX12_namedIn_3 rfl rfl <| j_getf dX12_namedIn_4 kf_X12_92 o1 g1_36 <| j_icmp_ge_f dX12_namedIn_7 47 (by decide) hc K, q⟩
theorem bX12_namedIn_10 {h0 h : k_H} {Q : k_H → k_R → Prop} {x0 f1_40 : Nat} {x1 x2 x3 : Int32} {fs1 : List k_V} (o1 : h.1 x0 = some (k_o 15 fs1)) (g1_40 : fs1[40]? = some (vR (some f1_40))) {n2 : Nat} {w2 : Nat → Int32} (o2 : h.1 f1_40 = some (k_z n2 w2)) (y3 : vp_in x3 n2) (K1 : (w2 (x3).toNatClampNeg) = 0 → k_X (jX12_namedIn G l h0) h 41 [(0, vR (some x0)), (1, vI x1), (2, vI x2), (3, vI x3)] [] Q) (K2 : ¬ ((w2 (x3).toNatClampNeg) = 0) → k_X (jX12_namedIn G l h0) h 19 [(0, vR (some x0)), (1, vI x1), (2, vI x2), (3, vI x3)] [] Q) : k_X (jX12_namedIn G l h0) h 10 [(0, vR (some x0)), (1, vI x1), (2, vI x2), (3, vI x3)] [] Q := by
  by_cases hc : (w2 (x3).toNatClampNeg) = 0
  · skip
    obtain ⟨h', r, K, q⟩ := K1 hc
    exact ⟨h', r, j_aload_n dX12_namedIn_10 rfl rfl <| j_getf dX12_namedIn_11 kf_X12_104 o1 g1_40 <| j_iload_n dX12_namedIn_14 rfl rfl <| j_zald dX12_namedIn_15 o2 y3 <| j_if_eq_t (tgt := 41) dX12_namedIn_16 (by decide) hc K, q⟩
  · skip
    obtain ⟨h', r, K, q⟩ := K2 hc
    exact ⟨h', r, j_aload_n dX12_namedIn_10 rfl rfl <| j_getf dX12_namedIn_11 kf_X12_104 o1 g1_40 <| j_iload_n dX12_namedIn_14 rfl rfl <| j_zald dX12_namedIn_15 o2 y3 <| j_if_eq_f dX12_namedIn_16 41 (by decide) hc K, q⟩
theorem bX12_namedIn_19 {h0 h : k_H} {Q : k_H → k_R → Prop} {x0 f1_37 : Nat} {x1 x2 x3 : Int32} {fs1 : List k_V} (o1 : h.1 x0 = some (k_o 15 fs1)) (g1_37 : fs1[37]? = some (vR (some f1_37))) {n2 : Nat} {w2 : Nat → Int32} (o2 : h.1 f1_37 = some (k_i n2 w2)) (y3 : vp_in x3 n2) (K1 : ¬ ((w2 (x3).toNatClampNeg) = x1) → k_X (jX12_namedIn G l h0) h 41 [(0, vR (some x0)), (1, vI x1), (2, vI x2), (3, vI x3)] [] Q) (K2 : (w2 (x3).toNatClampNeg) = x1 → k_X (jX12_namedIn G l h0) h 29 [(0, vR (some x0)), (1, vI x1), (2, vI x2), (3, vI x3)] [] Q) : k_X (jX12_namedIn G l h0) h 19 [(0, vR (some x0)), (1, vI x1), (2, vI x2), (3, vI x3)] [] Q := by
  by_cases hc : (w2 (x3).toNatClampNeg) = x1
  · skip
    obtain ⟨h', r, K, q⟩ := K2 hc
    exact ⟨h', r, j_aload_n dX12_namedIn_19 rfl rfl <| j_getf dX12_namedIn_20 kf_X12_95 o1 g1_37 <| j_iload_n dX12_namedIn_23 rfl rfl <| j_iald dX12_namedIn_24 o2 y3 <| j_iload_n dX12_namedIn_25 rfl rfl <| j_icmp_ne_f dX12_namedIn_26 41 (by decide) hc K, q⟩
  · skip
    obtain ⟨h', r, K, q⟩ := K1 hc
    exact ⟨h', r, j_aload_n dX12_namedIn_19 rfl rfl <| j_getf dX12_namedIn_20 kf_X12_95 o1 g1_37 <| j_iload_n dX12_namedIn_23 rfl rfl <| j_iald dX12_namedIn_24 o2 y3 <| j_iload_n dX12_namedIn_25 rfl rfl <| j_icmp_ne_t (tgt := 41) dX12_namedIn_26 (by decide) hc K, q⟩
theorem bX12_namedIn_29 {h0 h : k_H} {Q : k_H → k_R → Prop} {x0 f1_38 : Nat} {x1 x2 x3 : Int32} {fs1 : List k_V} (o1 : h.1 x0 = some (k_o 15 fs1)) (g1_38 : fs1[38]? = some (vR (some f1_38))) {n2 : Nat} {w2 : Nat → Int32} (o2 : h.1 f1_38 = some (k_i n2 w2)) (y3 : vp_in x3 n2) (K1 : ¬ ((w2 (x3).toNatClampNeg) = x2) → k_X (jX12_namedIn G l h0) h 41 [(0, vR (some x0)), (1, vI x1), (2, vI x2), (3, vI x3)] [] Q) (K2 : (w2 (x3).toNatClampNeg) = x2 → k_X (jX12_namedIn G l h0) h 39 [(3, vI x3)] [] Q) : k_X (jX12_namedIn G l h0) h 29 [(0, vR (some x0)), (1, vI x1), (2, vI x2), (3, vI x3)] [] Q := by
  by_cases hc : (w2 (x3).toNatClampNeg) = x2
  · skip
    obtain ⟨h', r, K, q⟩ := K2 hc
    exact ⟨h', r, j_aload_n dX12_namedIn_29 rfl rfl <| j_getf dX12_namedIn_30 kf_X12_98 o1 g1_38 <| j_iload_n dX12_namedIn_33 rfl rfl <| j_iald dX12_namedIn_34 o2 y3 <| j_iload_n dX12_namedIn_35 rfl rfl <| j_icmp_ne_f dX12_namedIn_36 41 (by decide) hc (j_pick [3] rfl K), q⟩
  · skip
    obtain ⟨h', r, K, q⟩ := K1 hc
    exact ⟨h', r, j_aload_n dX12_namedIn_29 rfl rfl <| j_getf dX12_namedIn_30 kf_X12_98 o1 g1_38 <| j_iload_n dX12_namedIn_33 rfl rfl <| j_iald dX12_namedIn_34 o2 y3 <| j_iload_n dX12_namedIn_35 rfl rfl <| j_icmp_ne_t (tgt := 41) dX12_namedIn_36 (by decide) hc K, q⟩
theorem bX12_namedIn_39 {h0 h : k_H} {Q : k_H → k_R → Prop} {x3 : Int32} (q : Q h (.inl (some (vI x3)))) : k_X (jX12_namedIn G l h0) h 39 [(3, vI x3)] [] Q := by
  exact ⟨_, _, j_iload_n dX12_namedIn_39 rfl rfl <| j_iret dX12_namedIn_40 rfl, q⟩
theorem bX12_namedIn_41 {h0 h : k_H} {Q : k_H → k_R → Prop} {x0 : Nat} {x1 x2 x3 : Int32} (K : k_X (jX12_namedIn G l h0) h 2 [(0, vR (some x0)), (1, vI x1), (2, vI x2), (3, vI (x3 + 1))] [] Q) : k_X (jX12_namedIn G l h0) h 41 [(0, vR (some x0)), (1, vI x1), (2, vI x2), (3, vI x3)] [] Q := by
  obtain ⟨h', r, K, q⟩ := K
  exact ⟨h', r, j_iinc (v := x3 + 1) dX12_namedIn_41 rfl (by decide) rfl rfl <| j_goto (tgt := 2) dX12_namedIn_44 (by decide) <| K, q⟩
theorem bX12_namedIn_47 {h0 h : k_H} {Q : k_H → k_R → Prop} (q : Q h (.inl (some (vI (-2147483648))))) : k_X (jX12_namedIn G l h0) h 47 [] [] Q := by
  exact ⟨_, _, j_ldc (v := (-2147483648)) dX12_namedIn_47 ki_X12_87 <| j_iret dX12_namedIn_49 rfl, q⟩
theorem eX12_freeShort {G : k_G} {l : Launch} (hfl : l.flags = flags0) {h : k_H} {Q : k_H → k_R → Prop} {x0 : Nat} (K : k_X (jX12_freeShort G l h) h 0 [(0, vR (some x0))] [] Q) : k_ct (tX12_freeShort G l) [vR (some x0)] h Q := by
  obtain ⟨h', r, K, q⟩ := K
  exact ⟨h', r, k_CtOf (by decide +kernel) (Nat.le_of_ble_eq_true rfl) K hfl, q⟩

theorem bX12_freeShort_0 {h0 h : k_H} {Q : k_H → k_R → Prop} {x0 : Nat} (K : k_X (jX12_freeShort G l h0) h 4 [(0, vR (some x0)), (1, vI 1), (2, vI 1)] [] Q) : k_X (jX12_freeShort G l h0) h 0 [(0, vR (some x0))] [] Q := by
  obtain ⟨h', r, K, q⟩ := K
  exact ⟨h', r, j_iconst (v := 1) dX12_freeShort_0 (by decide) <| j_istore_n dX12_freeShort_1 rfl (by decide) rfl <| j_iconst (v := 1) dX12_freeShort_2 (by decide) <| j_istore_n dX12_freeShort_3 rfl (by decide) rfl <| K, q⟩
theorem bX12_freeShort_4 {h0 h : k_H} {Q : k_H → k_R → Prop} {x0 : Nat} {x1 x2 : Int32} (K1 : x2 = 0 → k_X (jX12_freeShort G l h0) h 70 [(1, vI x1)] [] Q) (K2 : ¬ (x2 = 0) → k_X (jX12_freeShort G l h0) h 8 [(0, vR (some x0)), (1, vI x1)] [] Q) : k_X (jX12_freeShort G l h0) h 4 [(0, vR (some x0)), (1, vI x1), (2, vI x2)] [] Q := by
  by_cases hc : x2 = 0
  · skip
    obtain ⟨h', r, K, q⟩ := K1 hc
    exact ⟨h', r, j_iload_n dX12_freeShort_4 rfl rfl <| j_if_eq_t (tgt := 70) dX12_freeShort_5 (by decide) hc (j_pick [1] rfl K), q⟩
  · skip
    obtain ⟨h', r, K, q⟩ := K2 hc
    exact ⟨h', r, j_iload_n dX12_freeShort_4 rfl rfl <| j_if_eq_f dX12_freeShort_5 70 (by decide) hc (j_pick [0, 1] rfl K), q⟩
theorem bX12_freeShort_8 {h0 h : k_H} {Q : k_H → k_R → Prop} {x0 : Nat} {x1 : Int32} (K : k_X (jX12_freeShort G l h0) h 12 [(0, vR (some x0)), (1, vI x1), (2, vI 0), (3, vI 1)] [] Q) : k_X (jX12_freeShort G l h0) h 8 [(0, vR (some x0)), (1, vI x1)] [] Q := by
  obtain ⟨h', r, K, q⟩ := K
  exact ⟨h', r, j_iconst (v := 0) dX12_freeShort_8 (by decide) <| j_istore_n dX12_freeShort_9 rfl (by decide) rfl <| j_iconst (v := 1) dX12_freeShort_10 (by decide) <| j_istore_n dX12_freeShort_11 rfl (by decide) rfl <| K, q⟩
theorem bX12_freeShort_12 {h0 h : k_H} {Q : k_H → k_R → Prop} {x0 : Nat} {x1 x2 x3 f1_36 : Int32} {fs1 : List k_V} (o1 : h.1 x0 = some (k_o 15 fs1)) (g1_36 : fs1[36]? = some (vI f1_36)) (K1 : f1_36 ≤ x3 → k_X (jX12_freeShort G l h0) h 55 [(0, vR (some x0)), (1, vI x1), (2, vI x2)] [] Q) (K2 : ¬ (f1_36 ≤ x3) → k_X (jX12_freeShort G l h0) h 20 [(0, vR (some x0)), (1, vI x1), (2, vI x2), (3, vI x3)] [] Q) : k_X (jX12_freeShort G l h0) h 12 [(0, vR (some x0)), (1, vI x1), (2, vI x2), (3, vI x3)] [] Q := by
  by_cases hc : f1_36 ≤ x3
  · skip
    obtain ⟨h', r, K, q⟩ := K1 hc
    exact ⟨h', r, j_iload_n dX12_freeShort_12 rfl rfl <| j_aload_n dX12_freeShort_13 rfl rfl <| j_getf dX12_freeShort_14 kf_X12_92 o1 g1_36 <| j_icmp_ge_t (tgt := 55) dX12_freeShort_17 (by decide) hc (j_pick [0, 1, 2] rfl K), q⟩
  · skip
    obtain ⟨h', r, K, q⟩ := K2 hc
    exact ⟨h', r, j_iload_n dX12_freeShort_12 rfl rfl <| j_aload_n dX12_freeShort_13 rfl rfl <| j_getf dX12_freeShort_14 kf_X12_92 o1 g1_36 <| j_icmp_ge_f dX12_freeShort_17 55 (by decide) hc K, q⟩
theorem bX12_freeShort_20 {h0 h : k_H} {Q : k_H → k_R → Prop} {x0 : Nat} {x1 x2 x3 : Int32} (K1 : ¬ (x2 = 0) → k_X (jX12_freeShort G l h0) h 43 [(0, vR (some x0)), (1, vI x1), (3, vI x3)] [] Q) (K2 : x2 = 0 → k_X (jX12_freeShort G l h0) h 24 [(0, vR (some x0)), (1, vI x1), (3, vI x3)] [] Q) : k_X (jX12_freeShort G l h0) h 20 [(0, vR (some x0)), (1, vI x1), (2, vI x2), (3, vI x3)] [] Q := by
  by_cases hc : x2 = 0
  · skip
    obtain ⟨h', r, K, q⟩ := K2 hc
    exact ⟨h', r, j_iload_n dX12_freeShort_20 rfl rfl <| j_if_ne_f dX12_freeShort_21 43 (by decide) hc (j_pick [0, 1, 3] rfl K), q⟩
  · skip
    obtain ⟨h', r, K, q⟩ := K1 hc
    exact ⟨h', r, j_iload_n dX12_freeShort_20 rfl rfl <| j_if_ne_t (tgt := 43) dX12_freeShort_21 (by decide) hc (j_pick [0, 1, 3] rfl K), q⟩
theorem bX12_freeShort_24 {h0 h : k_H} {Q : k_H → k_R → Prop} {x0 f1_40 : Nat} {x1 x3 : Int32} {fs1 : List k_V} (o1 : h.1 x0 = some (k_o 15 fs1)) (g1_40 : fs1[40]? = some (vR (some f1_40))) {n2 : Nat} {w2 : Nat → Int32} (o2 : h.1 f1_40 = some (k_z n2 w2)) (y3 : vp_in x3 n2) (K1 : (w2 (x3).toNatClampNeg) = 0 → k_X (jX12_freeShort G l h0) h 47 [(0, vR (some x0)), (1, vI x1), (3, vI x3)] [] Q) (K2 : ¬ ((w2 (x3).toNatClampNeg) = 0) → k_X (jX12_freeShort G l h0) h 33 [(0, vR (some x0)), (1, vI x1), (3, vI x3)] [] Q) : k_X (jX12_freeShort G l h0) h 24 [(0, vR (some x0)), (1, vI x1), (3, vI x3)] [] Q := by
  by_cases hc : (w2 (x3).toNatClampNeg) = 0
  · skip
    obtain ⟨h', r, K, q⟩ := K1 hc
    exact ⟨h', r, j_aload_n dX12_freeShort_24 rfl rfl <| j_getf dX12_freeShort_25 kf_X12_104 o1 g1_40 <| j_iload_n dX12_freeShort_28 rfl rfl <| j_zald dX12_freeShort_29 o2 y3 <| j_if_eq_t (tgt := 47) dX12_freeShort_30 (by decide) hc K, q⟩
  · skip
    obtain ⟨h', r, K, q⟩ := K2 hc
    exact ⟨h', r, j_aload_n dX12_freeShort_24 rfl rfl <| j_getf dX12_freeShort_25 kf_X12_104 o1 g1_40 <| j_iload_n dX12_freeShort_28 rfl rfl <| j_zald dX12_freeShort_29 o2 y3 <| j_if_eq_f dX12_freeShort_30 47 (by decide) hc K, q⟩
theorem bX12_freeShort_33 {h0 h : k_H} {Q : k_H → k_R → Prop} {x0 f1_39 : Nat} {x1 x3 : Int32} {fs1 : List k_V} (o1 : h.1 x0 = some (k_o 15 fs1)) (g1_39 : fs1[39]? = some (vR (some f1_39))) {n2 : Nat} {w2 : Nat → Int32} (o2 : h.1 f1_39 = some (k_i n2 w2)) (y3 : vp_in x3 n2) (K1 : ¬ ((w2 (x3).toNatClampNeg) = x1) → k_X (jX12_freeShort G l h0) h 47 [(0, vR (some x0)), (1, vI x1), (3, vI x3)] [] Q) (K2 : (w2 (x3).toNatClampNeg) = x1 → k_X (jX12_freeShort G l h0) h 43 [(0, vR (some x0)), (1, vI x1), (3, vI x3)] [] Q) : k_X (jX12_freeShort G l h0) h 33 [(0, vR (some x0)), (1, vI x1), (3, vI x3)] [] Q := by
  by_cases hc : (w2 (x3).toNatClampNeg) = x1
  · skip
    obtain ⟨h', r, K, q⟩ := K2 hc
    exact ⟨h', r, j_aload_n dX12_freeShort_33 rfl rfl <| j_getf dX12_freeShort_34 kf_X12_101 o1 g1_39 <| j_iload_n dX12_freeShort_37 rfl rfl <| j_iald dX12_freeShort_38 o2 y3 <| j_iload_n dX12_freeShort_39 rfl rfl <| j_icmp_ne_f dX12_freeShort_40 47 (by decide) hc K, q⟩
  · skip
    obtain ⟨h', r, K, q⟩ := K1 hc
    exact ⟨h', r, j_aload_n dX12_freeShort_33 rfl rfl <| j_getf dX12_freeShort_34 kf_X12_101 o1 g1_39 <| j_iload_n dX12_freeShort_37 rfl rfl <| j_iald dX12_freeShort_38 o2 y3 <| j_iload_n dX12_freeShort_39 rfl rfl <| j_icmp_ne_t (tgt := 47) dX12_freeShort_40 (by decide) hc K, q⟩
theorem bX12_freeShort_43 {h0 h : k_H} {Q : k_H → k_R → Prop} {x0 : Nat} {x1 x3 : Int32} (K : k_X (jX12_freeShort G l h0) h 48 [(0, vR (some x0)), (1, vI x1), (3, vI x3)] [vI 1] Q) : k_X (jX12_freeShort G l h0) h 43 [(0, vR (some x0)), (1, vI x1), (3, vI x3)] [] Q := by
  obtain ⟨h', r, K, q⟩ := K
  exact ⟨h', r, j_iconst (v := 1) dX12_freeShort_43 (by decide) <| j_goto (tgt := 48) dX12_freeShort_44 (by decide) <| K, q⟩
theorem bX12_freeShort_47 {h0 h : k_H} {Q : k_H → k_R → Prop} {x0 : Nat} {x1 x3 : Int32} (K : k_X (jX12_freeShort G l h0) h 48 [(0, vR (some x0)), (1, vI x1), (3, vI x3)] [vI 0] Q) : k_X (jX12_freeShort G l h0) h 47 [(0, vR (some x0)), (1, vI x1), (3, vI x3)] [] Q := by
  obtain ⟨h', r, K, q⟩ := K
  exact ⟨h', r, j_iconst (v := 0) dX12_freeShort_47 (by decide) <| K, q⟩
theorem bX12_freeShort_48 {h0 h : k_H} {Q : k_H → k_R → Prop} {x0 : Nat} {x1 x3 s0 : Int32} (K : k_X (jX12_freeShort G l h0) h 12 [(0, vR (some x0)), (1, vI x1), (2, vI s0), (3, vI (x3 + 1))] [] Q) : k_X (jX12_freeShort G l h0) h 48 [(0, vR (some x0)), (1, vI x1), (3, vI x3)] [vI s0] Q := by
  obtain ⟨h', r, K, q⟩ := K
  exact ⟨h', r, j_istore_n dX12_freeShort_48 rfl (by decide) rfl <| j_iinc (v := x3 + 1) dX12_freeShort_49 rfl (by decide) rfl rfl <| j_goto (tgt := 12) dX12_freeShort_52 (by decide) <| K, q⟩
theorem bX12_freeShort_55 {h0 h : k_H} {Q : k_H → k_R → Prop} {x0 : Nat} {x1 x2 : Int32} (K1 : x2 = 0 → k_X (jX12_freeShort G l h0) h 64 [(0, vR (some x0)), (2, vI x2)] [vI x1] Q) (K2 : ¬ (x2 = 0) → k_X (jX12_freeShort G l h0) h 60 [(0, vR (some x0)), (2, vI x2)] [vI x1] Q) : k_X (jX12_freeShort G l h0) h 55 [(0, vR (some x0)), (1, vI x1), (2, vI x2)] [] Q := by
  by_cases hc : x2 = 0
  · skip
    obtain ⟨h', r, K, q⟩ := K1 hc
    exact ⟨h', r, j_iload_n dX12_freeShort_55 rfl rfl <| j_iload_n dX12_freeShort_56 rfl rfl <| j_if_eq_t (tgt := 64) dX12_freeShort_57 (by decide) hc (j_pick [0, 2] rfl K), q⟩
  · skip
    obtain ⟨h', r, K, q⟩ := K2 hc
    exact ⟨h', r, j_iload_n dX12_freeShort_55 rfl rfl <| j_iload_n dX12_freeShort_56 rfl rfl <| j_if_eq_f dX12_freeShort_57 64 (by decide) hc (j_pick [0, 2] rfl K), q⟩
theorem bX12_freeShort_60 {h0 h : k_H} {Q : k_H → k_R → Prop} {x0 : Nat} {x2 s0 : Int32} (K : k_X (jX12_freeShort G l h0) h 65 [(0, vR (some x0)), (2, vI x2)] [vI 1, vI s0] Q) : k_X (jX12_freeShort G l h0) h 60 [(0, vR (some x0)), (2, vI x2)] [vI s0] Q := by
  obtain ⟨h', r, K, q⟩ := K
  exact ⟨h', r, j_iconst (v := 1) dX12_freeShort_60 (by decide) <| j_goto (tgt := 65) dX12_freeShort_61 (by decide) <| K, q⟩
theorem bX12_freeShort_64 {h0 h : k_H} {Q : k_H → k_R → Prop} {x0 : Nat} {x2 s0 : Int32} (K : k_X (jX12_freeShort G l h0) h 65 [(0, vR (some x0)), (2, vI x2)] [vI 0, vI s0] Q) : k_X (jX12_freeShort G l h0) h 64 [(0, vR (some x0)), (2, vI x2)] [vI s0] Q := by
  obtain ⟨h', r, K, q⟩ := K
  exact ⟨h', r, j_iconst (v := 0) dX12_freeShort_64 (by decide) <| K, q⟩
theorem bX12_freeShort_65 {h0 h : k_H} {Q : k_H → k_R → Prop} {x0 : Nat} {x2 s0 s1 : Int32} (K : k_X (jX12_freeShort G l h0) h 4 [(0, vR (some x0)), (1, vI (s0 + s1)), (2, vI x2)] [] Q) : k_X (jX12_freeShort G l h0) h 65 [(0, vR (some x0)), (2, vI x2)] [vI s1, vI s0] Q := by
  obtain ⟨h', r, K, q⟩ := K
  exact ⟨h', r, j_iadd dX12_freeShort_65 <| j_istore_n dX12_freeShort_66 rfl (by decide) rfl <| j_goto (tgt := 4) dX12_freeShort_67 (by decide) <| K, q⟩
theorem bX12_freeShort_70 {h0 h : k_H} {Q : k_H → k_R → Prop} {x1 : Int32} (q : Q h (.inl (some (vI x1)))) : k_X (jX12_freeShort G l h0) h 70 [(1, vI x1)] [] Q := by
  exact ⟨_, _, j_iload_n dX12_freeShort_70 rfl rfl <| j_iret dX12_freeShort_71 rfl, q⟩
theorem eX12_directory {G : k_G} {l : Launch} (hfl : l.flags = flags0) {h : k_H} {Q : k_H → k_R → Prop} {x0 : Nat} {x1 : Int32} {x2 : Int32} (K : k_X (jX12_directory G l h) h 0 [(0, vR (some x0)), (1, vI x1), (2, vI x2)] [] Q) : k_ct (tX12_directory G l) [vR (some x0), vI x1, vI x2] h Q := by
  obtain ⟨h', r, K, q⟩ := K
  exact ⟨h', r, k_CtOf (by decide +kernel) (Nat.le_of_ble_eq_true rfl) K hfl, q⟩

theorem bX12_directory_0 {h0 h : k_H} {Q : k_H → k_R → Prop} {x0 : Nat} {x1 x2 : Int32} (w : k_is h x0 15) {P : k_H → Int32 → Prop} (c : k_cti (tX12_isDirectory G l) [vR (some x0), vI x1] h P) (K : ∀ h1 v, P h1 v → k_X (jX12_directory G l h0) h1 5 [(0, vR (some x0)), (1, vI x1), (2, vI x2)] [vI v] Q) : k_X (jX12_directory G l h0) h 0 [(0, vR (some x0)), (1, vI x1), (2, vI x2)] [] Q := by
  obtain ⟨h1, v, c, p⟩ := c
  obtain ⟨h', r, K, q⟩ := K h1 v p
  exact ⟨h', r, j_aload_n dX12_directory_0 rfl rfl <| j_iload_n dX12_directory_1 rfl rfl <| j_callV (v := some (vI v)) (as := [vI x1]) dX12_directory_2 kc_X12_348 rfl rfl w (by decide) (Nat.le_of_ble_eq_true rfl) c K, q⟩
theorem bX12_directory_5 {h0 h : k_H} {Q : k_H → k_R → Prop} {x0 : Nat} {x1 x2 s0 : Int32} {P : k_H → Int32 → Prop} (c : k_cti (tX12_isIn G l) [vI x2, vI 0, vI 9] h P) (K : ∀ h1 v, P h1 v → k_X (jX12_directory G l h0) h1 13 [(0, vR (some x0)), (1, vI x1), (2, vI x2), (3, vI s0)] [vI v] Q) : k_X (jX12_directory G l h0) h 5 [(0, vR (some x0)), (1, vI x1), (2, vI x2)] [vI s0] Q := by
  obtain ⟨h1, v, c, p⟩ := c
  obtain ⟨h', r, K, q⟩ := K h1 v p
  exact ⟨h', r, j_istore_n dX12_directory_5 rfl (by decide) rfl <| j_iload_n dX12_directory_6 rfl rfl <| j_iconst (v := 0) dX12_directory_7 (by decide) <| j_bipush (v := 9) dX12_directory_8 (by decide) <| j_callS (v := some (vI v)) (as := [vI x2, vI 0, vI 9]) dX12_directory_10 kc_X12_137 rfl rfl (by decide) (Nat.le_of_ble_eq_true rfl) c K, q⟩
theorem bX12_directory_13 {h0 h : k_H} {Q : k_H → k_R → Prop} {x0 : Nat} {x1 x2 x3 s0 : Int32} (K1 : ¬ (x3 = 0) → k_X (jX12_directory G l h0) h 24 [(0, vR (some x0)), (1, vI x1), (2, vI x2), (4, vI s0)] [vR (some x0)] Q) (K2 : x3 = 0 → k_X (jX12_directory G l h0) h 20 [(0, vR (some x0)), (1, vI x1), (2, vI x2)] [vR (some x0)] Q) : k_X (jX12_directory G l h0) h 13 [(0, vR (some x0)), (1, vI x1), (2, vI x2), (3, vI x3)] [vI s0] Q := by
  by_cases hc : x3 = 0
  · skip
    obtain ⟨h', r, K, q⟩ := K2 hc
    exact ⟨h', r, j_istore dX12_directory_13 (by decide) rfl <| j_aload_n dX12_directory_15 rfl rfl <| j_iload_n dX12_directory_16 rfl rfl <| j_if_ne_f dX12_directory_17 24 (by decide) hc (j_pick [0, 1, 2] rfl K), q⟩
  · skip
    obtain ⟨h', r, K, q⟩ := K1 hc
    exact ⟨h', r, j_istore dX12_directory_13 (by decide) rfl <| j_aload_n dX12_directory_15 rfl rfl <| j_iload_n dX12_directory_16 rfl rfl <| j_if_ne_t (tgt := 24) dX12_directory_17 (by decide) hc (j_pick [0, 1, 2, 4] rfl K), q⟩
theorem bX12_directory_20 {h0 h : k_H} {Q : k_H → k_R → Prop} {x0 : Nat} {x1 x2 : Int32} {s0 : Option Nat} (K : k_X (jX12_directory G l h0) h 58 [(0, vR (some x0)), (1, vI x1), (2, vI x2)] [vI 1, vR s0] Q) : k_X (jX12_directory G l h0) h 20 [(0, vR (some x0)), (1, vI x1), (2, vI x2)] [vR s0] Q := by
  obtain ⟨h', r, K, q⟩ := K
  exact ⟨h', r, j_iconst (v := 1) dX12_directory_20 (by decide) <| j_goto (tgt := 58) dX12_directory_21 (by decide) <| K, q⟩
theorem bX12_directory_24 {h0 h : k_H} {Q : k_H → k_R → Prop} {x0 : Nat} {x1 x2 x4 : Int32} {s0 : Option Nat} (K1 : ¬ (x4 = 0) → k_X (jX12_directory G l h0) h 33 [(0, vR (some x0)), (1, vI x1), (2, vI x2)] [vR s0] Q) (K2 : x4 = 0 → k_X (jX12_directory G l h0) h 29 [(0, vR (some x0)), (1, vI x1), (2, vI x2)] [vR s0] Q) : k_X (jX12_directory G l h0) h 24 [(0, vR (some x0)), (1, vI x1), (2, vI x2), (4, vI x4)] [vR s0] Q := by
  by_cases hc : x4 = 0
  · skip
    obtain ⟨h', r, K, q⟩ := K2 hc
    exact ⟨h', r, j_iload dX12_directory_24 rfl <| j_if_ne_f dX12_directory_26 33 (by decide) hc (j_pick [0, 1, 2] rfl K), q⟩
  · skip
    obtain ⟨h', r, K, q⟩ := K1 hc
    exact ⟨h', r, j_iload dX12_directory_24 rfl <| j_if_ne_t (tgt := 33) dX12_directory_26 (by decide) hc (j_pick [0, 1, 2] rfl K), q⟩
theorem bX12_directory_29 {h0 h : k_H} {Q : k_H → k_R → Prop} {x0 : Nat} {x1 x2 : Int32} {s0 : Option Nat} (K : k_X (jX12_directory G l h0) h 58 [(0, vR (some x0)), (1, vI x1), (2, vI x2)] [vI 2, vR s0] Q) : k_X (jX12_directory G l h0) h 29 [(0, vR (some x0)), (1, vI x1), (2, vI x2)] [vR s0] Q := by
  obtain ⟨h', r, K, q⟩ := K
  exact ⟨h', r, j_iconst (v := 2) dX12_directory_29 (by decide) <| j_goto (tgt := 58) dX12_directory_30 (by decide) <| K, q⟩
theorem bX12_directory_33 {h0 h : k_H} {Q : k_H → k_R → Prop} {x0 : Nat} {x1 x2 : Int32} {s0 : Option Nat} (w : k_is h x0 15) {P : k_H → Int32 → Prop} (c : k_cti (tX12_namedIn G l) [vR (some x0), vI x1, vI x2] h P) (K : ∀ h1 v, P h1 v → k_X (jX12_directory G l h0) h1 39 [(0, vR (some x0)), (1, vI x1), (2, vI x2)] [vI v, vR s0] Q) : k_X (jX12_directory G l h0) h 33 [(0, vR (some x0)), (1, vI x1), (2, vI x2)] [vR s0] Q := by
  obtain ⟨h1, v, c, p⟩ := c
  obtain ⟨h', r, K, q⟩ := K h1 v p
  exact ⟨h', r, j_aload_n dX12_directory_33 rfl rfl <| j_iload_n dX12_directory_34 rfl rfl <| j_iload_n dX12_directory_35 rfl rfl <| j_callV (v := some (vI v)) (as := [vI x1, vI x2]) dX12_directory_36 kc_X12_351 rfl rfl w (by decide) (Nat.le_of_ble_eq_true rfl) c K, q⟩
theorem bX12_directory_39 {h0 h : k_H} {Q : k_H → k_R → Prop} {x0 : Nat} {x1 x2 s1 : Int32} {s0 : Option Nat} (K1 : ¬ (s1 = (-2147483648)) → k_X (jX12_directory G l h0) h 53 [(0, vR (some x0)), (1, vI x1), (2, vI x2)] [vR s0] Q) (K2 : s1 = (-2147483648) → k_X (jX12_directory G l h0) h 44 [(0, vR (some x0)), (1, vI x1), (2, vI x2)] [vR s0] Q) : k_X (jX12_directory G l h0) h 39 [(0, vR (some x0)), (1, vI x1), (2, vI x2)] [vI s1, vR s0] Q := by
  by_cases hc : s1 = (-2147483648)
  · skip
    obtain ⟨h', r, K, q⟩ := K2 hc
    exact ⟨h', r, j_ldc (v := (-2147483648)) dX12_directory_39 ki_X12_87 <| j_icmp_ne_f dX12_directory_41 53 (by decide) hc K, q⟩
  · skip
    obtain ⟨h', r, K, q⟩ := K1 hc
    exact ⟨h', r, j_ldc (v := (-2147483648)) dX12_directory_39 ki_X12_87 <| j_icmp_ne_t (tgt := 53) dX12_directory_41 (by decide) hc K, q⟩
theorem bX12_directory_44 {h0 h : k_H} {Q : k_H → k_R → Prop} {x0 : Nat} {x1 x2 : Int32} {s0 : Option Nat} (w : k_is h x0 15) {P : k_H → Int32 → Prop} (c : k_cti (tX12_manyThere G l) [vR (some x0)] h P) (K : ∀ h1 v, P h1 v → k_X (jX12_directory G l h0) h1 48 [(0, vR (some x0)), (1, vI x1), (2, vI x2)] [vI v, vR s0] Q) : k_X (jX12_directory G l h0) h 44 [(0, vR (some x0)), (1, vI x1), (2, vI x2)] [vR s0] Q := by
  obtain ⟨h1, v, c, p⟩ := c
  obtain ⟨h', r, K, q⟩ := K h1 v p
  exact ⟨h', r, j_aload_n dX12_directory_44 rfl rfl <| j_callV (v := some (vI v)) (as := []) dX12_directory_45 kc_X12_354 rfl rfl w (by decide) (Nat.le_of_ble_eq_true rfl) c K, q⟩
theorem bX12_directory_48 {h0 h : k_H} {Q : k_H → k_R → Prop} {x0 : Nat} {x1 x2 s1 : Int32} {s0 : Option Nat} (K1 : ¬ (s1 = 9) → k_X (jX12_directory G l h0) h 57 [(0, vR (some x0)), (1, vI x1), (2, vI x2)] [vR s0] Q) (K2 : s1 = 9 → k_X (jX12_directory G l h0) h 53 [(0, vR (some x0)), (1, vI x1), (2, vI x2)] [vR s0] Q) : k_X (jX12_directory G l h0) h 48 [(0, vR (some x0)), (1, vI x1), (2, vI x2)] [vI s1, vR s0] Q := by
  by_cases hc : s1 = 9
  · skip
    obtain ⟨h', r, K, q⟩ := K2 hc
    exact ⟨h', r, j_bipush (v := 9) dX12_directory_48 (by decide) <| j_icmp_ne_f dX12_directory_50 57 (by decide) hc K, q⟩
  · skip
    obtain ⟨h', r, K, q⟩ := K1 hc
    exact ⟨h', r, j_bipush (v := 9) dX12_directory_48 (by decide) <| j_icmp_ne_t (tgt := 57) dX12_directory_50 (by decide) hc K, q⟩
theorem bX12_directory_53 {h0 h : k_H} {Q : k_H → k_R → Prop} {x0 : Nat} {x1 x2 : Int32} {s0 : Option Nat} (K : k_X (jX12_directory G l h0) h 58 [(0, vR (some x0)), (1, vI x1), (2, vI x2)] [vI 3, vR s0] Q) : k_X (jX12_directory G l h0) h 53 [(0, vR (some x0)), (1, vI x1), (2, vI x2)] [vR s0] Q := by
  obtain ⟨h', r, K, q⟩ := K
  exact ⟨h', r, j_iconst (v := 3) dX12_directory_53 (by decide) <| j_goto (tgt := 58) dX12_directory_54 (by decide) <| K, q⟩
theorem bX12_directory_57 {h0 h : k_H} {Q : k_H → k_R → Prop} {x0 : Nat} {x1 x2 : Int32} {s0 : Option Nat} (K : k_X (jX12_directory G l h0) h 58 [(0, vR (some x0)), (1, vI x1), (2, vI x2)] [vI 0, vR s0] Q) : k_X (jX12_directory G l h0) h 57 [(0, vR (some x0)), (1, vI x1), (2, vI x2)] [vR s0] Q := by
  obtain ⟨h', r, K, q⟩ := K
  exact ⟨h', r, j_iconst (v := 0) dX12_directory_57 (by decide) <| K, q⟩
theorem bX12_directory_58 {h0 h : k_H} {Q : k_H → k_R → Prop} {x0 s0 : Nat} {x1 x2 s1 : Int32} (w : k_is h s0 15) {P : k_H → Int32 → Prop} (c : k_cti (tX12_goes G l) [vR (some s0), vI s1] h P) (K : ∀ h1 v, P h1 v → k_X (jX12_directory G l h0) h1 61 [(0, vR (some x0)), (1, vI x1), (2, vI x2)] [vI v] Q) : k_X (jX12_directory G l h0) h 58 [(0, vR (some x0)), (1, vI x1), (2, vI x2)] [vI s1, vR (some s0)] Q := by
  obtain ⟨h1, v, c, p⟩ := c
  obtain ⟨h', r, K, q⟩ := K h1 v p
  exact ⟨h', r, j_callV (v := some (vI v)) (as := [vI s1]) dX12_directory_58 kc_X12_265 rfl rfl w (by decide) (Nat.le_of_ble_eq_true rfl) c K, q⟩
theorem bX12_directory_61 {h0 h : k_H} {Q : k_H → k_R → Prop} {x0 : Nat} {x1 x2 s0 : Int32} (K1 : ¬ (s0 = 0) → k_X (jX12_directory G l h0) h 66 [(0, vR (some x0)), (1, vI x1), (2, vI x2)] [] Q) (K2 : s0 = 0 → k_X (jX12_directory G l h0) h 64 [] [] Q) : k_X (jX12_directory G l h0) h 61 [(0, vR (some x0)), (1, vI x1), (2, vI x2)] [vI s0] Q := by
  by_cases hc : s0 = 0
  · skip
    obtain ⟨h', r, K, q⟩ := K2 hc
    exact ⟨h', r, j_if_ne_f dX12_directory_61 66 (by decide) hc (j_pick [] rfl K), q⟩
  · skip
    obtain ⟨h', r, K, q⟩ := K1 hc
    exact ⟨h', r, j_if_ne_t (tgt := 66) dX12_directory_61 (by decide) hc K, q⟩
theorem bX12_directory_64 {h0 h : k_H} {Q : k_H → k_R → Prop} (q : Q h (.inl (some (vI 0)))) : k_X (jX12_directory G l h0) h 64 [] [] Q := by
  exact ⟨_, _, j_iconst (v := 0) dX12_directory_64 (by decide) <| j_iret dX12_directory_65 rfl, q⟩
theorem bX12_directory_66 {h0 h : k_H} {Q : k_H → k_R → Prop} {x0 : Nat} {x1 x2 f1_36 : Int32} {f1_39 : Option Nat} {fs1 : List k_V} (o1 : h.1 x0 = some (k_o 15 fs1)) (g1_39 : fs1[39]? = some (vR f1_39)) (g1_36 : fs1[36]? = some (vI f1_36)) {P : k_H → Int32 → Prop} (c : k_cti (tX12_freeShort G l) [vR (some x0)] h P) (K : ∀ h1 v, P h1 v → k_X (jX12_directory G l h0) h1 78 [(0, vR (some x0)), (1, vI x1), (2, vI x2)] [vI v, vI f1_36, vR f1_39] Q) : k_X (jX12_directory G l h0) h 66 [(0, vR (some x0)), (1, vI x1), (2, vI x2)] [] Q := by
  obtain ⟨h1, v, c, p⟩ := c
  obtain ⟨h', r, K, q⟩ := K h1 v p
  exact ⟨h', r, j_aload_n dX12_directory_66 rfl rfl <| j_getf dX12_directory_67 kf_X12_101 o1 g1_39 <| j_aload_n dX12_directory_70 rfl rfl <| j_getf dX12_directory_71 kf_X12_92 o1 g1_36 <| j_aload_n dX12_directory_74 rfl rfl <| j_callV (v := some (vI v)) (as := []) dX12_directory_75 kc_X12_357 rfl rfl (k_is_o o1) (by decide) (Nat.le_of_ble_eq_true rfl) c K, q⟩
theorem bX12_directory_78 {h0 h : k_H} {Q : k_H → k_R → Prop} {x0 s0 : Nat} {x1 x2 s1 s2 : Int32} {n1 : Nat} {w1 : Nat → Int32} (o1 : h.1 s0 = some (k_i n1 w1)) (y2 : vp_in s1 n1) (K : k_X (jX12_directory G l h0) (k_up h s0 (k_i n1 (va_up w1 (s1).toNatClampNeg s2))) 79 [(0, vR (some x0)), (1, vI x1), (2, vI x2)] [] Q) : k_X (jX12_directory G l h0) h 78 [(0, vR (some x0)), (1, vI x1), (2, vI x2)] [vI s2, vI s1, vR (some s0)] Q := by
  obtain ⟨h', r, K, q⟩ := K
  exact ⟨h', r, j_iast dX12_directory_78 o1 y2 <| K, q⟩
theorem bX12_directory_79 {h0 h : k_H} {Q : k_H → k_R → Prop} {x0 f1_37 : Nat} {x1 x2 f1_36 : Int32} {fs1 : List k_V} (o1 : h.1 x0 = some (k_o 15 fs1)) (g1_37 : fs1[37]? = some (vR (some f1_37))) (g1_36 : fs1[36]? = some (vI f1_36)) {n2 : Nat} {w2 : Nat → Int32} (o2 : h.1 f1_37 = some (k_i n2 w2)) (y3 : vp_in f1_36 n2) (K : k_X (jX12_directory G l h0) (k_up h f1_37 (k_i n2 (va_up w2 (f1_36).toNatClampNeg x1))) 89 [(0, vR (some x0)), (2, vI x2)] [] Q) : k_X (jX12_directory G l h0) h 79 [(0, vR (some x0)), (1, vI x1), (2, vI x2)] [] Q := by
  obtain ⟨h', r, K, q⟩ := K
  exact ⟨h', r, j_aload_n dX12_directory_79 rfl rfl <| j_getf dX12_directory_80 kf_X12_95 o1 g1_37 <| j_aload_n dX12_directory_83 rfl rfl <| j_getf dX12_directory_84 kf_X12_92 o1 g1_36 <| j_iload_n dX12_directory_87 rfl rfl <| j_iast dX12_directory_88 o2 y3 <| (j_pick [0, 2] rfl K), q⟩
theorem bX12_directory_89 {h0 h : k_H} {Q : k_H → k_R → Prop} {x0 f1_38 : Nat} {x2 f1_36 : Int32} {fs1 : List k_V} (o1 : h.1 x0 = some (k_o 15 fs1)) (g1_38 : fs1[38]? = some (vR (some f1_38))) (g1_36 : fs1[36]? = some (vI f1_36)) {n2 : Nat} {w2 : Nat → Int32} (o2 : h.1 f1_38 = some (k_i n2 w2)) (y3 : vp_in f1_36 n2) (K : k_X (jX12_directory G l h0) (k_up h f1_38 (k_i n2 (va_up w2 (f1_36).toNatClampNeg x2))) 99 [(0, vR (some x0))] [] Q) : k_X (jX12_directory G l h0) h 89 [(0, vR (some x0)), (2, vI x2)] [] Q := by
  obtain ⟨h', r, K, q⟩ := K
  exact ⟨h', r, j_aload_n dX12_directory_89 rfl rfl <| j_getf dX12_directory_90 kf_X12_98 o1 g1_38 <| j_aload_n dX12_directory_93 rfl rfl <| j_getf dX12_directory_94 kf_X12_92 o1 g1_36 <| j_iload_n dX12_directory_97 rfl rfl <| j_iast dX12_directory_98 o2 y3 <| (j_pick [0] rfl K), q⟩
theorem bX12_directory_99 {h0 h : k_H} {Q : k_H → k_R → Prop} {x0 f1_40 : Nat} {f1_36 : Int32} {fs1 : List k_V} (o1 : h.1 x0 = some (k_o 15 fs1)) (g1_40 : fs1[40]? = some (vR (some f1_40))) (g1_36 : fs1[36]? = some (vI f1_36)) {n2 : Nat} {w2 : Nat → Int32} (o2 : h.1 f1_40 = some (k_z n2 w2)) (y3 : vp_in f1_36 n2) (K : k_X (jX12_directory G l h0) (k_up h f1_40 (k_z n2 (va_up w2 (f1_36).toNatClampNeg 1))) 109 [(0, vR (some x0))] [] Q) : k_X (jX12_directory G l h0) h 99 [(0, vR (some x0))] [] Q := by
  obtain ⟨h', r, K, q⟩ := K
  exact ⟨h', r, j_aload_n dX12_directory_99 rfl rfl <| j_getf dX12_directory_100 kf_X12_104 o1 g1_40 <| j_aload_n dX12_directory_103 rfl rfl <| j_getf dX12_directory_104 kf_X12_92 o1 g1_36 <| j_iconst (v := 1) dX12_directory_107 (by decide) <| j_zast dX12_directory_108 o2 y3 (by decide) <| K, q⟩
theorem bX12_directory_109 {h0 h : k_H} {Q : k_H → k_R → Prop} {x0 : Nat} {f1_36 : Int32} {fs1 : List k_V} (o1 : h.1 x0 = some (k_o 15 fs1)) (g1_36 : fs1[36]? = some (vI f1_36)) (z1 : fs1.length = 53) (K : k_X (jX12_directory G l h0) (k_up h x0 (k_o 15 (fs1.set 36 (vI (f1_36 + 1))))) 119 [(0, vR (some x0))] [] Q) : k_X (jX12_directory G l h0) h 109 [(0, vR (some x0))] [] Q := by
  obtain ⟨h', r, K, q⟩ := K
  exact ⟨h', r, j_aload_n dX12_directory_109 rfl rfl <| j_dup dX12_directory_110 rfl <| j_getf dX12_directory_111 kf_X12_92 o1 g1_36 <| j_iconst (v := 1) dX12_directory_114 (by decide) <| j_iadd dX12_directory_115 <| j_putf dX12_directory_116 kp_X12_92 o1 (k_ln z1 (by decide)) (k_fit_i _) rfl <| K, q⟩
theorem bX12_directory_119 {h0 h : k_H} {Q : k_H → k_R → Prop} {x0 : Nat} {f1_36 : Int32} {fs1 : List k_V} (o1 : h.1 x0 = some (k_o 15 fs1)) (g1_36 : fs1[36]? = some (vI f1_36)) (q : Q h (.inl (some (vI (f1_36 - 1))))) : k_X (jX12_directory G l h0) h 119 [(0, vR (some x0))] [] Q := by
  exact ⟨_, _, j_aload_n dX12_directory_119 rfl rfl <| j_getf dX12_directory_120 kf_X12_92 o1 g1_36 <| j_iconst (v := 1) dX12_directory_123 (by decide) <| j_isub dX12_directory_124 <| j_iret dX12_directory_125 rfl, q⟩
theorem eX12_isBelow {G : k_G} {l : Launch} (hfl : l.flags = flags0) {h : k_H} {Q : k_H → k_R → Prop} {x0 : Nat} {x1 : Int32} {x2 : Int32} (K : k_X (jX12_isBelow G l h) h 0 [(0, vR (some x0)), (1, vI x1), (2, vI x2)] [] Q) : k_ct (tX12_isBelow G l) [vR (some x0), vI x1, vI x2] h Q := by
  obtain ⟨h', r, K, q⟩ := K
  exact ⟨h', r, k_CtOf (by decide +kernel) (Nat.le_of_ble_eq_true rfl) K hfl, q⟩

theorem bX12_isBelow_0 {h0 h : k_H} {Q : k_H → k_R → Prop} {x0 : Nat} {x1 x2 : Int32} (K : k_X (jX12_isBelow G l h0) h 2 [(0, vR (some x0)), (2, vI x2), (3, vI x1)] [] Q) : k_X (jX12_isBelow G l h0) h 0 [(0, vR (some x0)), (1, vI x1), (2, vI x2)] [] Q := by
  obtain ⟨h', r, K, q⟩ := K
  exact ⟨h', r, j_iload_n dX12_isBelow_0 rfl rfl <| j_istore_n dX12_isBelow_1 rfl (by decide) rfl <| (j_pick [0, 2, 3] rfl K), q⟩
theorem bX12_isBelow_2 {h0 h : k_H} {Q : k_H → k_R → Prop} {x0 : Nat} {x2 x3 : Int32} (K1 : x3 = (-2147483648) → k_X (jX12_isBelow G l h0) h 23 [(2, vI x2), (3, vI x3)] [] Q) (K2 : ¬ (x3 = (-2147483648)) → k_X (jX12_isBelow G l h0) h 8 [(0, vR (some x0)), (2, vI x2), (3, vI x3)] [] Q) : k_X (jX12_isBelow G l h0) h 2 [(0, vR (some x0)), (2, vI x2), (3, vI x3)] [] Q := by
  by_cases hc : x3 = (-2147483648)
  · skip
    obtain ⟨h', r, K, q⟩ := K1 hc
    exact ⟨h', r, j_iload_n dX12_isBelow_2 rfl rfl <| j_ldc (v := (-2147483648)) dX12_isBelow_3 ki_X12_87 <| j_icmp_eq_t (tgt := 23) dX12_isBelow_5 (by decide) hc (j_pick [1, 2] rfl K), q⟩
  · skip
    obtain ⟨h', r, K, q⟩ := K2 hc
    exact ⟨h', r, j_iload_n dX12_isBelow_2 rfl rfl <| j_ldc (v := (-2147483648)) dX12_isBelow_3 ki_X12_87 <| j_icmp_eq_f dX12_isBelow_5 23 (by decide) hc K, q⟩
theorem bX12_isBelow_8 {h0 h : k_H} {Q : k_H → k_R → Prop} {x0 : Nat} {x2 x3 : Int32} (K1 : x3 = x2 → k_X (jX12_isBelow G l h0) h 23 [(2, vI x2), (3, vI x3)] [] Q) (K2 : ¬ (x3 = x2) → k_X (jX12_isBelow G l h0) h 13 [(0, vR (some x0)), (2, vI x2), (3, vI x3)] [] Q) : k_X (jX12_isBelow G l h0) h 8 [(0, vR (some x0)), (2, vI x2), (3, vI x3)] [] Q := by
  by_cases hc : x3 = x2
  · skip
    obtain ⟨h', r, K, q⟩ := K1 hc
    exact ⟨h', r, j_iload_n dX12_isBelow_8 rfl rfl <| j_iload_n dX12_isBelow_9 rfl rfl <| j_icmp_eq_t (tgt := 23) dX12_isBelow_10 (by decide) hc (j_pick [1, 2] rfl K), q⟩
  · skip
    obtain ⟨h', r, K, q⟩ := K2 hc
    exact ⟨h', r, j_iload_n dX12_isBelow_8 rfl rfl <| j_iload_n dX12_isBelow_9 rfl rfl <| j_icmp_eq_f dX12_isBelow_10 23 (by decide) hc K, q⟩
theorem bX12_isBelow_13 {h0 h : k_H} {Q : k_H → k_R → Prop} {x0 f1_37 : Nat} {x2 x3 : Int32} {fs1 : List k_V} (o1 : h.1 x0 = some (k_o 15 fs1)) (g1_37 : fs1[37]? = some (vR (some f1_37))) {n2 : Nat} {w2 : Nat → Int32} (o2 : h.1 f1_37 = some (k_i n2 w2)) (y3 : vp_in x3 n2) (K : k_X (jX12_isBelow G l h0) h 2 [(0, vR (some x0)), (2, vI x2), (3, vI (w2 (x3).toNatClampNeg))] [] Q) : k_X (jX12_isBelow G l h0) h 13 [(0, vR (some x0)), (2, vI x2), (3, vI x3)] [] Q := by
  obtain ⟨h', r, K, q⟩ := K
  exact ⟨h', r, j_aload_n dX12_isBelow_13 rfl rfl <| j_getf dX12_isBelow_14 kf_X12_95 o1 g1_37 <| j_iload_n dX12_isBelow_17 rfl rfl <| j_iald dX12_isBelow_18 o2 y3 <| j_istore_n dX12_isBelow_19 rfl (by decide) rfl <| j_goto (tgt := 2) dX12_isBelow_20 (by decide) <| K, q⟩
theorem bX12_isBelow_23 {h0 h : k_H} {Q : k_H → k_R → Prop} {x2 x3 : Int32} (K1 : ¬ (x3 = x2) → k_X (jX12_isBelow G l h0) h 32 [] [] Q) (K2 : x3 = x2 → k_X (jX12_isBelow G l h0) h 28 [] [] Q) : k_X (jX12_isBelow G l h0) h 23 [(2, vI x2), (3, vI x3)] [] Q := by
  by_cases hc : x3 = x2
  · skip
    obtain ⟨h', r, K, q⟩ := K2 hc
    exact ⟨h', r, j_iload_n dX12_isBelow_23 rfl rfl <| j_iload_n dX12_isBelow_24 rfl rfl <| j_icmp_ne_f dX12_isBelow_25 32 (by decide) hc (j_pick [] rfl K), q⟩
  · skip
    obtain ⟨h', r, K, q⟩ := K1 hc
    exact ⟨h', r, j_iload_n dX12_isBelow_23 rfl rfl <| j_iload_n dX12_isBelow_24 rfl rfl <| j_icmp_ne_t (tgt := 32) dX12_isBelow_25 (by decide) hc (j_pick [] rfl K), q⟩
theorem bX12_isBelow_28 {h0 h : k_H} {Q : k_H → k_R → Prop} (K : k_X (jX12_isBelow G l h0) h 33 [] [vI 1] Q) : k_X (jX12_isBelow G l h0) h 28 [] [] Q := by
  obtain ⟨h', r, K, q⟩ := K
  exact ⟨h', r, j_iconst (v := 1) dX12_isBelow_28 (by decide) <| j_goto (tgt := 33) dX12_isBelow_29 (by decide) <| K, q⟩
theorem bX12_isBelow_32 {h0 h : k_H} {Q : k_H → k_R → Prop} (K : k_X (jX12_isBelow G l h0) h 33 [] [vI 0] Q) : k_X (jX12_isBelow G l h0) h 32 [] [] Q := by
  obtain ⟨h', r, K, q⟩ := K
  exact ⟨h', r, j_iconst (v := 0) dX12_isBelow_32 (by decide) <| K, q⟩
theorem bX12_isBelow_33 {h0 h : k_H} {Q : k_H → k_R → Prop} {s0 : Int32} (y1 : k_bl s0) (q : Q h (.inl (some (vI s0)))) : k_X (jX12_isBelow G l h0) h 33 [] [vI s0] Q := by
  exact ⟨_, _, j_zret dX12_isBelow_33 rfl y1, q⟩
theorem eX12_move {G : k_G} {l : Launch} (hfl : l.flags = flags0) {h : k_H} {Q : k_H → k_R → Prop} {x0 : Nat} {x1 : Int32} {x2 : Int32} {x3 : Int32} (K : k_X (jX12_move G l h) h 0 [(0, vR (some x0)), (1, vI x1), (2, vI x2), (3, vI x3)] [] Q) : k_ct (tX12_move G l) [vR (some x0), vI x1, vI x2, vI x3] h Q := by
  obtain ⟨h', r, K, q⟩ := K
  exact ⟨h', r, k_CtOf (by decide +kernel) (Nat.le_of_ble_eq_true rfl) K hfl, q⟩

theorem bX12_move_0 {h0 h : k_H} {Q : k_H → k_R → Prop} {x0 : Nat} {x1 x2 x3 : Int32} (w : k_is h x0 15) {P : k_H → Int32 → Prop} (c : k_cti (tX12_isDirectory G l) [vR (some x0), vI x1] h P) (K : ∀ h1 v, P h1 v → k_X (jX12_move G l h0) h1 5 [(0, vR (some x0)), (1, vI x1), (2, vI x2), (3, vI x3)] [vI v] Q) : k_X (jX12_move G l h0) h 0 [(0, vR (some x0)), (1, vI x1), (2, vI x2), (3, vI x3)] [] Q := by
  obtain ⟨h1, v, c, p⟩ := c
  obtain ⟨h', r, K, q⟩ := K h1 v p
  exact ⟨h', r, j_aload_n dX12_move_0 rfl rfl <| j_iload_n dX12_move_1 rfl rfl <| j_callV (v := some (vI v)) (as := [vI x1]) dX12_move_2 kc_X12_348 rfl rfl w (by decide) (Nat.le_of_ble_eq_true rfl) c K, q⟩
theorem bX12_move_5 {h0 h : k_H} {Q : k_H → k_R → Prop} {x0 : Nat} {x1 x2 x3 s0 : Int32} (K1 : s0 = 0 → k_X (jX12_move G l h0) h 20 [(0, vR (some x0)), (1, vI x1), (2, vI x2), (3, vI x3)] [] Q) (K2 : ¬ (s0 = 0) → k_X (jX12_move G l h0) h 8 [(0, vR (some x0)), (1, vI x1), (2, vI x2), (3, vI x3)] [] Q) : k_X (jX12_move G l h0) h 5 [(0, vR (some x0)), (1, vI x1), (2, vI x2), (3, vI x3)] [vI s0] Q := by
  by_cases hc : s0 = 0
  · skip
    obtain ⟨h', r, K, q⟩ := K1 hc
    exact ⟨h', r, j_if_eq_t (tgt := 20) dX12_move_5 (by decide) hc K, q⟩
  · skip
    obtain ⟨h', r, K, q⟩ := K2 hc
    exact ⟨h', r, j_if_eq_f dX12_move_5 20 (by decide) hc K, q⟩
theorem bX12_move_8 {h0 h : k_H} {Q : k_H → k_R → Prop} {x0 : Nat} {x1 x2 x3 : Int32} (w : k_is h x0 15) {P : k_H → Int32 → Prop} (c : k_cti (tX12_isDirectory G l) [vR (some x0), vI x2] h P) (K : ∀ h1 v, P h1 v → k_X (jX12_move G l h0) h1 13 [(0, vR (some x0)), (1, vI x1), (2, vI x2), (3, vI x3)] [vI v] Q) : k_X (jX12_move G l h0) h 8 [(0, vR (some x0)), (1, vI x1), (2, vI x2), (3, vI x3)] [] Q := by
  obtain ⟨h1, v, c, p⟩ := c
  obtain ⟨h', r, K, q⟩ := K h1 v p
  exact ⟨h', r, j_aload_n dX12_move_8 rfl rfl <| j_iload_n dX12_move_9 rfl rfl <| j_callV (v := some (vI v)) (as := [vI x2]) dX12_move_10 kc_X12_348 rfl rfl w (by decide) (Nat.le_of_ble_eq_true rfl) c K, q⟩
theorem bX12_move_13 {h0 h : k_H} {Q : k_H → k_R → Prop} {x0 : Nat} {x1 x2 x3 s0 : Int32} (K1 : s0 = 0 → k_X (jX12_move G l h0) h 20 [(0, vR (some x0)), (1, vI x1), (2, vI x2), (3, vI x3)] [] Q) (K2 : ¬ (s0 = 0) → k_X (jX12_move G l h0) h 16 [(0, vR (some x0)), (1, vI x1), (2, vI x2), (3, vI x3)] [] Q) : k_X (jX12_move G l h0) h 13 [(0, vR (some x0)), (1, vI x1), (2, vI x2), (3, vI x3)] [vI s0] Q := by
  by_cases hc : s0 = 0
  · skip
    obtain ⟨h', r, K, q⟩ := K1 hc
    exact ⟨h', r, j_if_eq_t (tgt := 20) dX12_move_13 (by decide) hc K, q⟩
  · skip
    obtain ⟨h', r, K, q⟩ := K2 hc
    exact ⟨h', r, j_if_eq_f dX12_move_13 20 (by decide) hc K, q⟩
theorem bX12_move_16 {h0 h : k_H} {Q : k_H → k_R → Prop} {x0 : Nat} {x1 x2 x3 : Int32} (K : k_X (jX12_move G l h0) h 21 [(0, vR (some x0)), (1, vI x1), (2, vI x2), (3, vI x3)] [vI 1] Q) : k_X (jX12_move G l h0) h 16 [(0, vR (some x0)), (1, vI x1), (2, vI x2), (3, vI x3)] [] Q := by
  obtain ⟨h', r, K, q⟩ := K
  exact ⟨h', r, j_iconst (v := 1) dX12_move_16 (by decide) <| j_goto (tgt := 21) dX12_move_17 (by decide) <| K, q⟩
theorem bX12_move_20 {h0 h : k_H} {Q : k_H → k_R → Prop} {x0 : Nat} {x1 x2 x3 : Int32} (K : k_X (jX12_move G l h0) h 21 [(0, vR (some x0)), (1, vI x1), (2, vI x2), (3, vI x3)] [vI 0] Q) : k_X (jX12_move G l h0) h 20 [(0, vR (some x0)), (1, vI x1), (2, vI x2), (3, vI x3)] [] Q := by
  obtain ⟨h', r, K, q⟩ := K
  exact ⟨h', r, j_iconst (v := 0) dX12_move_20 (by decide) <| K, q⟩
theorem bX12_move_21 {h0 h : k_H} {Q : k_H → k_R → Prop} {x0 : Nat} {x1 x2 x3 s0 : Int32} {P : k_H → Int32 → Prop} (c : k_cti (tX12_isIn G l) [vI x3, vI 0, vI 9] h P) (K : ∀ h1 v, P h1 v → k_X (jX12_move G l h0) h1 30 [(0, vR (some x0)), (1, vI x1), (2, vI x2), (3, vI x3), (4, vI s0)] [vI v] Q) : k_X (jX12_move G l h0) h 21 [(0, vR (some x0)), (1, vI x1), (2, vI x2), (3, vI x3)] [vI s0] Q := by
  obtain ⟨h1, v, c, p⟩ := c
  obtain ⟨h', r, K, q⟩ := K h1 v p
  exact ⟨h', r, j_istore dX12_move_21 (by decide) rfl <| j_iload_n dX12_move_23 rfl rfl <| j_iconst (v := 0) dX12_move_24 (by decide) <| j_bipush (v := 9) dX12_move_25 (by decide) <| j_callS (v := some (vI v)) (as := [vI x3, vI 0, vI 9]) dX12_move_27 kc_X12_137 rfl rfl (by decide) (Nat.le_of_ble_eq_true rfl) c K, q⟩
theorem bX12_move_30 {h0 h : k_H} {Q : k_H → k_R → Prop} {x0 : Nat} {x1 x2 x3 x4 s0 : Int32} (K1 : x4 = 0 → k_X (jX12_move G l h0) h 59 [(0, vR (some x0)), (1, vI x1), (2, vI x2), (3, vI x3), (4, vI x4), (5, vI s0)] [] Q) (K2 : ¬ (x4 = 0) → k_X (jX12_move G l h0) h 37 [(0, vR (some x0)), (1, vI x1), (2, vI x2), (3, vI x3), (4, vI x4), (5, vI s0)] [] Q) : k_X (jX12_move G l h0) h 30 [(0, vR (some x0)), (1, vI x1), (2, vI x2), (3, vI x3), (4, vI x4)] [vI s0] Q := by
  by_cases hc : x4 = 0
  · skip
    obtain ⟨h', r, K, q⟩ := K1 hc
    exact ⟨h', r, j_istore dX12_move_30 (by decide) rfl <| j_iload dX12_move_32 rfl <| j_if_eq_t (tgt := 59) dX12_move_34 (by decide) hc K, q⟩
  · skip
    obtain ⟨h', r, K, q⟩ := K2 hc
    exact ⟨h', r, j_istore dX12_move_30 (by decide) rfl <| j_iload dX12_move_32 rfl <| j_if_eq_f dX12_move_34 59 (by decide) hc K, q⟩
theorem bX12_move_37 {h0 h : k_H} {Q : k_H → k_R → Prop} {x0 : Nat} {x1 x2 x3 x4 x5 : Int32} (K1 : x5 = 0 → k_X (jX12_move G l h0) h 59 [(0, vR (some x0)), (1, vI x1), (2, vI x2), (3, vI x3), (4, vI x4), (5, vI x5)] [] Q) (K2 : ¬ (x5 = 0) → k_X (jX12_move G l h0) h 42 [(0, vR (some x0)), (1, vI x1), (2, vI x2), (3, vI x3), (4, vI x4), (5, vI x5)] [] Q) : k_X (jX12_move G l h0) h 37 [(0, vR (some x0)), (1, vI x1), (2, vI x2), (3, vI x3), (4, vI x4), (5, vI x5)] [] Q := by
  by_cases hc : x5 = 0
  · skip
    obtain ⟨h', r, K, q⟩ := K1 hc
    exact ⟨h', r, j_iload dX12_move_37 rfl <| j_if_eq_t (tgt := 59) dX12_move_39 (by decide) hc K, q⟩
  · skip
    obtain ⟨h', r, K, q⟩ := K2 hc
    exact ⟨h', r, j_iload dX12_move_37 rfl <| j_if_eq_f dX12_move_39 59 (by decide) hc K, q⟩
theorem bX12_move_42 {h0 h : k_H} {Q : k_H → k_R → Prop} {x0 : Nat} {x1 x2 x3 x4 x5 : Int32} (K1 : x1 ≤ 0 → k_X (jX12_move G l h0) h 59 [(0, vR (some x0)), (1, vI x1), (2, vI x2), (3, vI x3), (4, vI x4), (5, vI x5)] [] Q) (K2 : ¬ (x1 ≤ 0) → k_X (jX12_move G l h0) h 46 [(0, vR (some x0)), (1, vI x1), (2, vI x2), (3, vI x3), (4, vI x4), (5, vI x5)] [] Q) : k_X (jX12_move G l h0) h 42 [(0, vR (some x0)), (1, vI x1), (2, vI x2), (3, vI x3), (4, vI x4), (5, vI x5)] [] Q := by
  by_cases hc : x1 ≤ 0
  · skip
    obtain ⟨h', r, K, q⟩ := K1 hc
    exact ⟨h', r, j_iload_n dX12_move_42 rfl rfl <| j_if_le_t (tgt := 59) dX12_move_43 (by decide) hc K, q⟩
  · skip
    obtain ⟨h', r, K, q⟩ := K2 hc
    exact ⟨h', r, j_iload_n dX12_move_42 rfl rfl <| j_if_le_f dX12_move_43 59 (by decide) hc K, q⟩
theorem bX12_move_46 {h0 h : k_H} {Q : k_H → k_R → Prop} {x0 : Nat} {x1 x2 x3 x4 x5 : Int32} (w : k_is h x0 15) {P : k_H → Int32 → Prop} (c : k_cti (tX12_isBelow G l) [vR (some x0), vI x2, vI x1] h P) (K : ∀ h1 v, P h1 v → k_X (jX12_move G l h0) h1 52 [(0, vR (some x0)), (1, vI x1), (2, vI x2), (3, vI x3), (4, vI x4), (5, vI x5)] [vI v] Q) : k_X (jX12_move G l h0) h 46 [(0, vR (some x0)), (1, vI x1), (2, vI x2), (3, vI x3), (4, vI x4), (5, vI x5)] [] Q := by
  obtain ⟨h1, v, c, p⟩ := c
  obtain ⟨h', r, K, q⟩ := K h1 v p
  exact ⟨h', r, j_aload_n dX12_move_46 rfl rfl <| j_iload_n dX12_move_47 rfl rfl <| j_iload_n dX12_move_48 rfl rfl <| j_callV (v := some (vI v)) (as := [vI x2, vI x1]) dX12_move_49 kc_X12_360 rfl rfl w (by decide) (Nat.le_of_ble_eq_true rfl) c K, q⟩
theorem bX12_move_52 {h0 h : k_H} {Q : k_H → k_R → Prop} {x0 : Nat} {x1 x2 x3 x4 x5 s0 : Int32} (K1 : ¬ (s0 = 0) → k_X (jX12_move G l h0) h 59 [(0, vR (some x0)), (1, vI x1), (2, vI x2), (3, vI x3), (4, vI x4), (5, vI x5)] [] Q) (K2 : s0 = 0 → k_X (jX12_move G l h0) h 55 [(0, vR (some x0)), (1, vI x1), (2, vI x2), (3, vI x3), (4, vI x4), (5, vI x5)] [] Q) : k_X (jX12_move G l h0) h 52 [(0, vR (some x0)), (1, vI x1), (2, vI x2), (3, vI x3), (4, vI x4), (5, vI x5)] [vI s0] Q := by
  by_cases hc : s0 = 0
  · skip
    obtain ⟨h', r, K, q⟩ := K2 hc
    exact ⟨h', r, j_if_ne_f dX12_move_52 59 (by decide) hc K, q⟩
  · skip
    obtain ⟨h', r, K, q⟩ := K1 hc
    exact ⟨h', r, j_if_ne_t (tgt := 59) dX12_move_52 (by decide) hc K, q⟩
theorem bX12_move_55 {h0 h : k_H} {Q : k_H → k_R → Prop} {x0 : Nat} {x1 x2 x3 x4 x5 : Int32} (K : k_X (jX12_move G l h0) h 60 [(0, vR (some x0)), (1, vI x1), (2, vI x2), (3, vI x3), (4, vI x4), (5, vI x5)] [vI 1] Q) : k_X (jX12_move G l h0) h 55 [(0, vR (some x0)), (1, vI x1), (2, vI x2), (3, vI x3), (4, vI x4), (5, vI x5)] [] Q := by
  obtain ⟨h', r, K, q⟩ := K
  exact ⟨h', r, j_iconst (v := 1) dX12_move_55 (by decide) <| j_goto (tgt := 60) dX12_move_56 (by decide) <| K, q⟩
theorem bX12_move_59 {h0 h : k_H} {Q : k_H → k_R → Prop} {x0 : Nat} {x1 x2 x3 x4 x5 : Int32} (K : k_X (jX12_move G l h0) h 60 [(0, vR (some x0)), (1, vI x1), (2, vI x2), (3, vI x3), (4, vI x4), (5, vI x5)] [vI 0] Q) : k_X (jX12_move G l h0) h 59 [(0, vR (some x0)), (1, vI x1), (2, vI x2), (3, vI x3), (4, vI x4), (5, vI x5)] [] Q := by
  obtain ⟨h', r, K, q⟩ := K
  exact ⟨h', r, j_iconst (v := 0) dX12_move_59 (by decide) <| K, q⟩
theorem bX12_move_60 {h0 h : k_H} {Q : k_H → k_R → Prop} {x0 : Nat} {x1 x2 x3 x4 x5 s0 : Int32} (K1 : s0 = 0 → k_X (jX12_move G l h0) h 76 [(0, vR (some x0)), (1, vI x1), (2, vI x2), (3, vI x3), (4, vI x4), (5, vI x5), (6, vI s0)] [] Q) (K2 : ¬ (s0 = 0) → k_X (jX12_move G l h0) h 67 [(0, vR (some x0)), (1, vI x1), (2, vI x2), (3, vI x3), (4, vI x4), (5, vI x5), (6, vI s0)] [] Q) : k_X (jX12_move G l h0) h 60 [(0, vR (some x0)), (1, vI x1), (2, vI x2), (3, vI x3), (4, vI x4), (5, vI x5)] [vI s0] Q := by
  by_cases hc : s0 = 0
  · skip
    obtain ⟨h', r, K, q⟩ := K1 hc
    exact ⟨h', r, j_istore dX12_move_60 (by decide) rfl <| j_iload dX12_move_62 rfl <| j_if_eq_t (tgt := 76) dX12_move_64 (by decide) hc K, q⟩
  · skip
    obtain ⟨h', r, K, q⟩ := K2 hc
    exact ⟨h', r, j_istore dX12_move_60 (by decide) rfl <| j_iload dX12_move_62 rfl <| j_if_eq_f dX12_move_64 76 (by decide) hc K, q⟩
theorem bX12_move_67 {h0 h : k_H} {Q : k_H → k_R → Prop} {x0 : Nat} {x1 x2 x3 x4 x5 x6 : Int32} (w : k_is h x0 15) {P : k_H → Int32 → Prop} (c : k_cti (tX12_namedIn G l) [vR (some x0), vI x2, vI x3] h P) (K : ∀ h1 v, P h1 v → k_X (jX12_move G l h0) h1 73 [(0, vR (some x0)), (1, vI x1), (2, vI x2), (3, vI x3), (4, vI x4), (5, vI x5), (6, vI x6)] [vI v] Q) : k_X (jX12_move G l h0) h 67 [(0, vR (some x0)), (1, vI x1), (2, vI x2), (3, vI x3), (4, vI x4), (5, vI x5), (6, vI x6)] [] Q := by
  obtain ⟨h1, v, c, p⟩ := c
  obtain ⟨h', r, K, q⟩ := K h1 v p
  exact ⟨h', r, j_aload_n dX12_move_67 rfl rfl <| j_iload_n dX12_move_68 rfl rfl <| j_iload_n dX12_move_69 rfl rfl <| j_callV (v := some (vI v)) (as := [vI x2, vI x3]) dX12_move_70 kc_X12_351 rfl rfl w (by decide) (Nat.le_of_ble_eq_true rfl) c K, q⟩
theorem bX12_move_73 {h0 h : k_H} {Q : k_H → k_R → Prop} {x0 : Nat} {x1 x2 x3 x4 x5 x6 s0 : Int32} (K : k_X (jX12_move G l h0) h 78 [(0, vR (some x0)), (1, vI x1), (2, vI x2), (3, vI x3), (4, vI x4), (5, vI x5), (6, vI x6)] [vI s0] Q) : k_X (jX12_move G l h0) h 73 [(0, vR (some x0)), (1, vI x1), (2, vI x2), (3, vI x3), (4, vI x4), (5, vI x5), (6, vI x6)] [vI s0] Q := by
  obtain ⟨h', r, K, q⟩ := K
  exact ⟨h', r, j_goto (tgt := 78) dX12_move_73 (by decide) <| K, q⟩
theorem bX12_move_76 {h0 h : k_H} {Q : k_H → k_R → Prop} {x0 : Nat} {x1 x2 x3 x4 x5 x6 : Int32} (K : k_X (jX12_move G l h0) h 78 [(0, vR (some x0)), (1, vI x1), (2, vI x2), (3, vI x3), (4, vI x4), (5, vI x5), (6, vI x6)] [vI (-2147483648)] Q) : k_X (jX12_move G l h0) h 76 [(0, vR (some x0)), (1, vI x1), (2, vI x2), (3, vI x3), (4, vI x4), (5, vI x5), (6, vI x6)] [] Q := by
  obtain ⟨h', r, K, q⟩ := K
  exact ⟨h', r, j_ldc (v := (-2147483648)) dX12_move_76 ki_X12_87 <| K, q⟩
theorem bX12_move_78 {h0 h : k_H} {Q : k_H → k_R → Prop} {x0 : Nat} {x1 x2 x3 x4 x5 x6 s0 : Int32} (K1 : ¬ (x4 = 0) → k_X (jX12_move G l h0) h 90 [(0, vR (some x0)), (1, vI x1), (2, vI x2), (3, vI x3), (5, vI x5), (6, vI x6), (7, vI s0)] [vR (some x0)] Q) (K2 : x4 = 0 → k_X (jX12_move G l h0) h 86 [(0, vR (some x0)), (1, vI x1), (2, vI x2), (3, vI x3)] [vR (some x0)] Q) : k_X (jX12_move G l h0) h 78 [(0, vR (some x0)), (1, vI x1), (2, vI x2), (3, vI x3), (4, vI x4), (5, vI x5), (6, vI x6)] [vI s0] Q := by
  by_cases hc : x4 = 0
  · skip
    obtain ⟨h', r, K, q⟩ := K2 hc
    exact ⟨h', r, j_istore dX12_move_78 (by decide) rfl <| j_aload_n dX12_move_80 rfl rfl <| j_iload dX12_move_81 rfl <| j_if_ne_f dX12_move_83 90 (by decide) hc (j_pick [0, 1, 2, 3] rfl K), q⟩
  · skip
    obtain ⟨h', r, K, q⟩ := K1 hc
    exact ⟨h', r, j_istore dX12_move_78 (by decide) rfl <| j_aload_n dX12_move_80 rfl rfl <| j_iload dX12_move_81 rfl <| j_if_ne_t (tgt := 90) dX12_move_83 (by decide) hc (j_pick [0, 1, 2, 3, 5, 6, 7] rfl K), q⟩
theorem bX12_move_86 {h0 h : k_H} {Q : k_H → k_R → Prop} {x0 : Nat} {x1 x2 x3 : Int32} {s0 : Option Nat} (K : k_X (jX12_move G l h0) h 122 [(0, vR (some x0)), (1, vI x1), (2, vI x2), (3, vI x3)] [vI 1, vR s0] Q) : k_X (jX12_move G l h0) h 86 [(0, vR (some x0)), (1, vI x1), (2, vI x2), (3, vI x3)] [vR s0] Q := by
  obtain ⟨h', r, K, q⟩ := K
  exact ⟨h', r, j_iconst (v := 1) dX12_move_86 (by decide) <| j_goto (tgt := 122) dX12_move_87 (by decide) <| K, q⟩
theorem bX12_move_90 {h0 h : k_H} {Q : k_H → k_R → Prop} {x0 : Nat} {x1 x2 x3 x5 x6 x7 : Int32} {s0 : Option Nat} (K1 : ¬ (x5 = 0) → k_X (jX12_move G l h0) h 99 [(0, vR (some x0)), (1, vI x1), (2, vI x2), (3, vI x3), (6, vI x6), (7, vI x7)] [vR s0] Q) (K2 : x5 = 0 → k_X (jX12_move G l h0) h 95 [(0, vR (some x0)), (1, vI x1), (2, vI x2), (3, vI x3)] [vR s0] Q) : k_X (jX12_move G l h0) h 90 [(0, vR (some x0)), (1, vI x1), (2, vI x2), (3, vI x3), (5, vI x5), (6, vI x6), (7, vI x7)] [vR s0] Q := by
  by_cases hc : x5 = 0
  · skip
    obtain ⟨h', r, K, q⟩ := K2 hc
    exact ⟨h', r, j_iload dX12_move_90 rfl <| j_if_ne_f dX12_move_92 99 (by decide) hc (j_pick [0, 1, 2, 3] rfl K), q⟩
  · skip
    obtain ⟨h', r, K, q⟩ := K1 hc
    exact ⟨h', r, j_iload dX12_move_90 rfl <| j_if_ne_t (tgt := 99) dX12_move_92 (by decide) hc (j_pick [0, 1, 2, 3, 5, 6] rfl K), q⟩
theorem bX12_move_95 {h0 h : k_H} {Q : k_H → k_R → Prop} {x0 : Nat} {x1 x2 x3 : Int32} {s0 : Option Nat} (K : k_X (jX12_move G l h0) h 122 [(0, vR (some x0)), (1, vI x1), (2, vI x2), (3, vI x3)] [vI 2, vR s0] Q) : k_X (jX12_move G l h0) h 95 [(0, vR (some x0)), (1, vI x1), (2, vI x2), (3, vI x3)] [vR s0] Q := by
  obtain ⟨h', r, K, q⟩ := K
  exact ⟨h', r, j_iconst (v := 2) dX12_move_95 (by decide) <| j_goto (tgt := 122) dX12_move_96 (by decide) <| K, q⟩
theorem bX12_move_99 {h0 h : k_H} {Q : k_H → k_R → Prop} {x0 : Nat} {x1 x2 x3 x6 x7 : Int32} {s0 : Option Nat} (K1 : x6 = 0 → k_X (jX12_move G l h0) h 121 [(0, vR (some x0)), (1, vI x1), (2, vI x2), (3, vI x3)] [vR s0] Q) (K2 : ¬ (x6 = 0) → k_X (jX12_move G l h0) h 104 [(0, vR (some x0)), (1, vI x1), (2, vI x2), (3, vI x3), (7, vI x7)] [vR s0] Q) : k_X (jX12_move G l h0) h 99 [(0, vR (some x0)), (1, vI x1), (2, vI x2), (3, vI x3), (6, vI x6), (7, vI x7)] [vR s0] Q := by
  by_cases hc : x6 = 0
  · skip
    obtain ⟨h', r, K, q⟩ := K1 hc
    exact ⟨h', r, j_iload dX12_move_99 rfl <| j_if_eq_t (tgt := 121) dX12_move_101 (by decide) hc (j_pick [0, 1, 2, 3] rfl K), q⟩
  · skip
    obtain ⟨h', r, K, q⟩ := K2 hc
    exact ⟨h', r, j_iload dX12_move_99 rfl <| j_if_eq_f dX12_move_101 121 (by decide) hc (j_pick [0, 1, 2, 3, 5] rfl K), q⟩
theorem bX12_move_104 {h0 h : k_H} {Q : k_H → k_R → Prop} {x0 : Nat} {x1 x2 x3 x7 : Int32} {s0 : Option Nat} (K1 : x7 = (-2147483648) → k_X (jX12_move G l h0) h 117 [(0, vR (some x0)), (1, vI x1), (2, vI x2), (3, vI x3)] [vR s0] Q) (K2 : ¬ (x7 = (-2147483648)) → k_X (jX12_move G l h0) h 111 [(0, vR (some x0)), (1, vI x1), (2, vI x2), (3, vI x3), (7, vI x7)] [vR s0] Q) : k_X (jX12_move G l h0) h 104 [(0, vR (some x0)), (1, vI x1), (2, vI x2), (3, vI x3), (7, vI x7)] [vR s0] Q := by
  by_cases hc : x7 = (-2147483648)
  · skip
    obtain ⟨h', r, K, q⟩ := K1 hc
    exact ⟨h', r, j_iload dX12_move_104 rfl <| j_ldc (v := (-2147483648)) dX12_move_106 ki_X12_87 <| j_icmp_eq_t (tgt := 117) dX12_move_108 (by decide) hc (j_pick [0, 1, 2, 3] rfl K), q⟩
  · skip
    obtain ⟨h', r, K, q⟩ := K2 hc
    exact ⟨h', r, j_iload dX12_move_104 rfl <| j_ldc (v := (-2147483648)) dX12_move_106 ki_X12_87 <| j_icmp_eq_f dX12_move_108 117 (by decide) hc K, q⟩
theorem bX12_move_111 {h0 h : k_H} {Q : k_H → k_R → Prop} {x0 : Nat} {x1 x2 x3 x7 : Int32} {s0 : Option Nat} (K1 : ¬ (x7 = x1) → k_X (jX12_move G l h0) h 121 [(0, vR (some x0)), (1, vI x1), (2, vI x2), (3, vI x3)] [vR s0] Q) (K2 : x7 = x1 → k_X (jX12_move G l h0) h 117 [(0, vR (some x0)), (1, vI x1), (2, vI x2), (3, vI x3)] [vR s0] Q) : k_X (jX12_move G l h0) h 111 [(0, vR (some x0)), (1, vI x1), (2, vI x2), (3, vI x3), (7, vI x7)] [vR s0] Q := by
  by_cases hc : x7 = x1
  · skip
    obtain ⟨h', r, K, q⟩ := K2 hc
    exact ⟨h', r, j_iload dX12_move_111 rfl <| j_iload_n dX12_move_113 rfl rfl <| j_icmp_ne_f dX12_move_114 121 (by decide) hc (j_pick [0, 1, 2, 3] rfl K), q⟩
  · skip
    obtain ⟨h', r, K, q⟩ := K1 hc
    exact ⟨h', r, j_iload dX12_move_111 rfl <| j_iload_n dX12_move_113 rfl rfl <| j_icmp_ne_t (tgt := 121) dX12_move_114 (by decide) hc (j_pick [0, 1, 2, 3] rfl K), q⟩
theorem bX12_move_117 {h0 h : k_H} {Q : k_H → k_R → Prop} {x0 : Nat} {x1 x2 x3 : Int32} {s0 : Option Nat} (K : k_X (jX12_move G l h0) h 122 [(0, vR (some x0)), (1, vI x1), (2, vI x2), (3, vI x3)] [vI 0, vR s0] Q) : k_X (jX12_move G l h0) h 117 [(0, vR (some x0)), (1, vI x1), (2, vI x2), (3, vI x3)] [vR s0] Q := by
  obtain ⟨h', r, K, q⟩ := K
  exact ⟨h', r, j_iconst (v := 0) dX12_move_117 (by decide) <| j_goto (tgt := 122) dX12_move_118 (by decide) <| K, q⟩
theorem bX12_move_121 {h0 h : k_H} {Q : k_H → k_R → Prop} {x0 : Nat} {x1 x2 x3 : Int32} {s0 : Option Nat} (K : k_X (jX12_move G l h0) h 122 [(0, vR (some x0)), (1, vI x1), (2, vI x2), (3, vI x3)] [vI 3, vR s0] Q) : k_X (jX12_move G l h0) h 121 [(0, vR (some x0)), (1, vI x1), (2, vI x2), (3, vI x3)] [vR s0] Q := by
  obtain ⟨h', r, K, q⟩ := K
  exact ⟨h', r, j_iconst (v := 3) dX12_move_121 (by decide) <| K, q⟩
theorem bX12_move_122 {h0 h : k_H} {Q : k_H → k_R → Prop} {x0 s0 : Nat} {x1 x2 x3 s1 : Int32} (w : k_is h s0 15) {P : k_H → Int32 → Prop} (c : k_cti (tX12_goes G l) [vR (some s0), vI s1] h P) (K : ∀ h1 v, P h1 v → k_X (jX12_move G l h0) h1 125 [(0, vR (some x0)), (1, vI x1), (2, vI x2), (3, vI x3)] [vI v] Q) : k_X (jX12_move G l h0) h 122 [(0, vR (some x0)), (1, vI x1), (2, vI x2), (3, vI x3)] [vI s1, vR (some s0)] Q := by
  obtain ⟨h1, v, c, p⟩ := c
  obtain ⟨h', r, K, q⟩ := K h1 v p
  exact ⟨h', r, j_callV (v := some (vI v)) (as := [vI s1]) dX12_move_122 kc_X12_265 rfl rfl w (by decide) (Nat.le_of_ble_eq_true rfl) c K, q⟩
theorem bX12_move_125 {h0 h : k_H} {Q : k_H → k_R → Prop} {x0 : Nat} {x1 x2 x3 s0 : Int32} (K1 : s0 = 0 → k_X (jX12_move G l h0) h 142 [] [] Q) (K2 : ¬ (s0 = 0) → k_X (jX12_move G l h0) h 128 [(0, vR (some x0)), (1, vI x1), (2, vI x2), (3, vI x3)] [] Q) : k_X (jX12_move G l h0) h 125 [(0, vR (some x0)), (1, vI x1), (2, vI x2), (3, vI x3)] [vI s0] Q := by
  by_cases hc : s0 = 0
  · skip
    obtain ⟨h', r, K, q⟩ := K1 hc
    exact ⟨h', r, j_if_eq_t (tgt := 142) dX12_move_125 (by decide) hc (j_pick [] rfl K), q⟩
  · skip
    obtain ⟨h', r, K, q⟩ := K2 hc
    exact ⟨h', r, j_if_eq_f dX12_move_125 142 (by decide) hc K, q⟩
theorem bX12_move_128 {h0 h : k_H} {Q : k_H → k_R → Prop} {x0 f1_37 : Nat} {x1 x2 x3 : Int32} {fs1 : List k_V} (o1 : h.1 x0 = some (k_o 15 fs1)) (g1_37 : fs1[37]? = some (vR (some f1_37))) {n2 : Nat} {w2 : Nat → Int32} (o2 : h.1 f1_37 = some (k_i n2 w2)) (y3 : vp_in x1 n2) (K : k_X (jX12_move G l h0) (k_up h f1_37 (k_i n2 (va_up w2 (x1).toNatClampNeg x2))) 135 [(0, vR (some x0)), (1, vI x1), (3, vI x3)] [] Q) : k_X (jX12_move G l h0) h 128 [(0, vR (some x0)), (1, vI x1), (2, vI x2), (3, vI x3)] [] Q := by
  obtain ⟨h', r, K, q⟩ := K
  exact ⟨h', r, j_aload_n dX12_move_128 rfl rfl <| j_getf dX12_move_129 kf_X12_95 o1 g1_37 <| j_iload_n dX12_move_132 rfl rfl <| j_iload_n dX12_move_133 rfl rfl <| j_iast dX12_move_134 o2 y3 <| (j_pick [0, 1, 3] rfl K), q⟩
theorem bX12_move_135 {h0 h : k_H} {Q : k_H → k_R → Prop} {x0 f1_38 : Nat} {x1 x3 : Int32} {fs1 : List k_V} (o1 : h.1 x0 = some (k_o 15 fs1)) (g1_38 : fs1[38]? = some (vR (some f1_38))) {n2 : Nat} {w2 : Nat → Int32} (o2 : h.1 f1_38 = some (k_i n2 w2)) (y3 : vp_in x1 n2) (K : k_X (jX12_move G l h0) (k_up h f1_38 (k_i n2 (va_up w2 (x1).toNatClampNeg x3))) 142 [] [] Q) : k_X (jX12_move G l h0) h 135 [(0, vR (some x0)), (1, vI x1), (3, vI x3)] [] Q := by
  obtain ⟨h', r, K, q⟩ := K
  exact ⟨h', r, j_aload_n dX12_move_135 rfl rfl <| j_getf dX12_move_136 kf_X12_98 o1 g1_38 <| j_iload_n dX12_move_139 rfl rfl <| j_iload_n dX12_move_140 rfl rfl <| j_iast dX12_move_141 o2 y3 <| (j_pick [] rfl K), q⟩
theorem bX12_move_142 {h0 h : k_H} {Q : k_H → k_R → Prop} (q : Q h (.inl none)) : k_X (jX12_move G l h0) h 142 [] [] Q := by
  exact ⟨_, _, j_vret dX12_move_142 rfl, q⟩
theorem eX12_remove {G : k_G} {l : Launch} (hfl : l.flags = flags0) {h : k_H} {Q : k_H → k_R → Prop} {x0 : Nat} {x1 : Int32} (K : k_X (jX12_remove G l h) h 0 [(0, vR (some x0)), (1, vI x1)] [] Q) : k_ct (tX12_remove G l) [vR (some x0), vI x1] h Q := by
  obtain ⟨h', r, K, q⟩ := K
  exact ⟨h', r, k_CtOf (by decide +kernel) (Nat.le_of_ble_eq_true rfl) K hfl, q⟩

theorem bX12_remove_0 {h0 h : k_H} {Q : k_H → k_R → Prop} {x0 : Nat} {x1 : Int32} (w : k_is h x0 15) {P : k_H → Int32 → Prop} (c : k_cti (tX12_isDirectory G l) [vR (some x0), vI x1] h P) (K : ∀ h1 v, P h1 v → k_X (jX12_remove G l h0) h1 6 [(0, vR (some x0)), (1, vI x1)] [vI v, vR (some x0)] Q) : k_X (jX12_remove G l h0) h 0 [(0, vR (some x0)), (1, vI x1)] [] Q := by
  obtain ⟨h1, v, c, p⟩ := c
  obtain ⟨h', r, K, q⟩ := K h1 v p
  exact ⟨h', r, j_aload_n dX12_remove_0 rfl rfl <| j_aload_n dX12_remove_1 rfl rfl <| j_iload_n dX12_remove_2 rfl rfl <| j_callV (v := some (vI v)) (as := [vI x1]) dX12_remove_3 kc_X12_348 rfl rfl w (by decide) (Nat.le_of_ble_eq_true rfl) c K, q⟩
theorem bX12_remove_6 {h0 h : k_H} {Q : k_H → k_R → Prop} {x0 : Nat} {x1 s1 : Int32} {s0 : Option Nat} (K1 : ¬ (s1 = 0) → k_X (jX12_remove G l h0) h 13 [(0, vR (some x0)), (1, vI x1)] [vR s0] Q) (K2 : s1 = 0 → k_X (jX12_remove G l h0) h 9 [(0, vR (some x0)), (1, vI x1)] [vR s0] Q) : k_X (jX12_remove G l h0) h 6 [(0, vR (some x0)), (1, vI x1)] [vI s1, vR s0] Q := by
  by_cases hc : s1 = 0
  · skip
    obtain ⟨h', r, K, q⟩ := K2 hc
    exact ⟨h', r, j_if_ne_f dX12_remove_6 13 (by decide) hc K, q⟩
  · skip
    obtain ⟨h', r, K, q⟩ := K1 hc
    exact ⟨h', r, j_if_ne_t (tgt := 13) dX12_remove_6 (by decide) hc K, q⟩
theorem bX12_remove_9 {h0 h : k_H} {Q : k_H → k_R → Prop} {x0 : Nat} {x1 : Int32} {s0 : Option Nat} (K : k_X (jX12_remove G l h0) h 22 [(0, vR (some x0)), (1, vI x1)] [vI 1, vR s0] Q) : k_X (jX12_remove G l h0) h 9 [(0, vR (some x0)), (1, vI x1)] [vR s0] Q := by
  obtain ⟨h', r, K, q⟩ := K
  exact ⟨h', r, j_iconst (v := 1) dX12_remove_9 (by decide) <| j_goto (tgt := 22) dX12_remove_10 (by decide) <| K, q⟩
theorem bX12_remove_13 {h0 h : k_H} {Q : k_H → k_R → Prop} {x0 : Nat} {x1 : Int32} {s0 : Option Nat} (K1 : ¬ (x1 = 0) → k_X (jX12_remove G l h0) h 21 [(0, vR (some x0)), (1, vI x1)] [vR s0] Q) (K2 : x1 = 0 → k_X (jX12_remove G l h0) h 17 [(0, vR (some x0)), (1, vI x1)] [vR s0] Q) : k_X (jX12_remove G l h0) h 13 [(0, vR (some x0)), (1, vI x1)] [vR s0] Q := by
  by_cases hc : x1 = 0
  · skip
    obtain ⟨h', r, K, q⟩ := K2 hc
    exact ⟨h', r, j_iload_n dX12_remove_13 rfl rfl <| j_if_ne_f dX12_remove_14 21 (by decide) hc K, q⟩
  · skip
    obtain ⟨h', r, K, q⟩ := K1 hc
    exact ⟨h', r, j_iload_n dX12_remove_13 rfl rfl <| j_if_ne_t (tgt := 21) dX12_remove_14 (by decide) hc K, q⟩
theorem bX12_remove_17 {h0 h : k_H} {Q : k_H → k_R → Prop} {x0 : Nat} {x1 : Int32} {s0 : Option Nat} (K : k_X (jX12_remove G l h0) h 22 [(0, vR (some x0)), (1, vI x1)] [vI 2, vR s0] Q) : k_X (jX12_remove G l h0) h 17 [(0, vR (some x0)), (1, vI x1)] [vR s0] Q := by
  obtain ⟨h', r, K, q⟩ := K
  exact ⟨h', r, j_iconst (v := 2) dX12_remove_17 (by decide) <| j_goto (tgt := 22) dX12_remove_18 (by decide) <| K, q⟩
theorem bX12_remove_21 {h0 h : k_H} {Q : k_H → k_R → Prop} {x0 : Nat} {x1 : Int32} {s0 : Option Nat} (K : k_X (jX12_remove G l h0) h 22 [(0, vR (some x0)), (1, vI x1)] [vI 0, vR s0] Q) : k_X (jX12_remove G l h0) h 21 [(0, vR (some x0)), (1, vI x1)] [vR s0] Q := by
  obtain ⟨h', r, K, q⟩ := K
  exact ⟨h', r, j_iconst (v := 0) dX12_remove_21 (by decide) <| K, q⟩
theorem bX12_remove_22 {h0 h : k_H} {Q : k_H → k_R → Prop} {x0 s0 : Nat} {x1 s1 : Int32} (w : k_is h s0 15) {P : k_H → Int32 → Prop} (c : k_cti (tX12_goes G l) [vR (some s0), vI s1] h P) (K : ∀ h1 v, P h1 v → k_X (jX12_remove G l h0) h1 25 [(0, vR (some x0)), (1, vI x1)] [vI v] Q) : k_X (jX12_remove G l h0) h 22 [(0, vR (some x0)), (1, vI x1)] [vI s1, vR (some s0)] Q := by
  obtain ⟨h1, v, c, p⟩ := c
  obtain ⟨h', r, K, q⟩ := K h1 v p
  exact ⟨h', r, j_callV (v := some (vI v)) (as := [vI s1]) dX12_remove_22 kc_X12_265 rfl rfl w (by decide) (Nat.le_of_ble_eq_true rfl) c K, q⟩
theorem bX12_remove_25 {h0 h : k_H} {Q : k_H → k_R → Prop} {x0 : Nat} {x1 s0 : Int32} (K1 : ¬ (s0 = 0) → k_X (jX12_remove G l h0) h 30 [(0, vR (some x0)), (1, vI x1)] [] Q) (K2 : s0 = 0 → k_X (jX12_remove G l h0) h 28 [] [] Q) : k_X (jX12_remove G l h0) h 25 [(0, vR (some x0)), (1, vI x1)] [vI s0] Q := by
  by_cases hc : s0 = 0
  · skip
    obtain ⟨h', r, K, q⟩ := K2 hc
    exact ⟨h', r, j_if_ne_f dX12_remove_25 30 (by decide) hc (j_pick [] rfl K), q⟩
  · skip
    obtain ⟨h', r, K, q⟩ := K1 hc
    exact ⟨h', r, j_if_ne_t (tgt := 30) dX12_remove_25 (by decide) hc K, q⟩
theorem bX12_remove_28 {h0 h : k_H} {Q : k_H → k_R → Prop} (q : Q h (.inl (some (vI 0)))) : k_X (jX12_remove G l h0) h 28 [] [] Q := by
  exact ⟨_, _, j_iconst (v := 0) dX12_remove_28 (by decide) <| j_iret dX12_remove_29 rfl, q⟩
theorem bX12_remove_30 {h0 h : k_H} {Q : k_H → k_R → Prop} {x0 : Nat} {x1 : Int32} (K : k_X (jX12_remove G l h0) h 34 [(0, vR (some x0)), (1, vI x1), (2, vI 0), (3, vI 1)] [] Q) : k_X (jX12_remove G l h0) h 30 [(0, vR (some x0)), (1, vI x1)] [] Q := by
  obtain ⟨h', r, K, q⟩ := K
  exact ⟨h', r, j_iconst (v := 0) dX12_remove_30 (by decide) <| j_istore_n dX12_remove_31 rfl (by decide) rfl <| j_iconst (v := 1) dX12_remove_32 (by decide) <| j_istore_n dX12_remove_33 rfl (by decide) rfl <| K, q⟩
theorem bX12_remove_34 {h0 h : k_H} {Q : k_H → k_R → Prop} {x0 : Nat} {x1 x2 x3 f1_36 : Int32} {fs1 : List k_V} (o1 : h.1 x0 = some (k_o 15 fs1)) (g1_36 : fs1[36]? = some (vI f1_36)) (K1 : f1_36 ≤ x3 → k_X (jX12_remove G l h0) h 121 [(0, vR (some x0)), (2, vI x2)] [] Q) (K2 : ¬ (f1_36 ≤ x3) → k_X (jX12_remove G l h0) h 42 [(0, vR (some x0)), (1, vI x1), (2, vI x2), (3, vI x3)] [] Q) : k_X (jX12_remove G l h0) h 34 [(0, vR (some x0)), (1, vI x1), (2, vI x2), (3, vI x3)] [] Q := by
  by_cases hc : f1_36 ≤ x3
  · skip
    obtain ⟨h', r, K, q⟩ := K1 hc
    exact ⟨h', r, j_iload_n dX12_remove_34 rfl rfl <| j_aload_n dX12_remove_35 rfl rfl <| j_getf dX12_remove_36 kf_X12_92 o1 g1_36 <| j_icmp_ge_t (tgt := 121) dX12_remove_39 (by decide) hc (j_pick [0, 2] rfl K), q⟩
  · skip
    obtain ⟨h', r, K, q⟩ := K2 hc
    exact ⟨h', r, j_iload_n dX12_remove_34 rfl rfl <| j_aload_n dX12_remove_35 rfl rfl <| j_getf dX12_remove_36 kf_X12_92 o1 g1_36 <| j_icmp_ge_f dX12_remove_39 121 (by decide) hc K, q⟩
theorem bX12_remove_42 {h0 h : k_H} {Q : k_H → k_R → Prop} {x0 f1_40 : Nat} {x1 x2 x3 : Int32} {f1_41 : Option Nat} {fs1 : List k_V} (o1 : h.1 x0 = some (k_o 15 fs1)) (g1_41 : fs1[41]? = some (vR f1_41)) (g1_40 : fs1[40]? = some (vR (some f1_40))) {n2 : Nat} {w2 : Nat → Int32} (o2 : h.1 f1_40 = some (k_z n2 w2)) (y3 : vp_in x3 n2) (K1 : (w2 (x3).toNatClampNeg) = 0 → k_X (jX12_remove G l h0) h 69 [(0, vR (some x0)), (1, vI x1), (2, vI x2), (3, vI x3)] [vI x3, vR f1_41] Q) (K2 : ¬ ((w2 (x3).toNatClampNeg) = 0) → k_X (jX12_remove G l h0) h 56 [(0, vR (some x0)), (1, vI x1), (2, vI x2), (3, vI x3)] [vI x3, vR f1_41] Q) : k_X (jX12_remove G l h0) h 42 [(0, vR (some x0)), (1, vI x1), (2, vI x2), (3, vI x3)] [] Q := by
  by_cases hc : (w2 (x3).toNatClampNeg) = 0
  · skip
    obtain ⟨h', r, K, q⟩ := K1 hc
    exact ⟨h', r, j_aload_n dX12_remove_42 rfl rfl <| j_getf dX12_remove_43 kf_X12_107 o1 g1_41 <| j_iload_n dX12_remove_46 rfl rfl <| j_aload_n dX12_remove_47 rfl rfl <| j_getf dX12_remove_48 kf_X12_104 o1 g1_40 <| j_iload_n dX12_remove_51 rfl rfl <| j_zald dX12_remove_52 o2 y3 <| j_if_eq_t (tgt := 69) dX12_remove_53 (by decide) hc K, q⟩
  · skip
    obtain ⟨h', r, K, q⟩ := K2 hc
    exact ⟨h', r, j_aload_n dX12_remove_42 rfl rfl <| j_getf dX12_remove_43 kf_X12_107 o1 g1_41 <| j_iload_n dX12_remove_46 rfl rfl <| j_aload_n dX12_remove_47 rfl rfl <| j_getf dX12_remove_48 kf_X12_104 o1 g1_40 <| j_iload_n dX12_remove_51 rfl rfl <| j_zald dX12_remove_52 o2 y3 <| j_if_eq_f dX12_remove_53 69 (by decide) hc K, q⟩
theorem bX12_remove_56 {h0 h : k_H} {Q : k_H → k_R → Prop} {x0 : Nat} {x1 x2 x3 s1 : Int32} {s0 : Option Nat} (w : k_is h x0 15) {P : k_H → Int32 → Prop} (c : k_cti (tX12_isBelow G l) [vR (some x0), vI x3, vI x1] h P) (K : ∀ h1 v, P h1 v → k_X (jX12_remove G l h0) h1 62 [(0, vR (some x0)), (1, vI x1), (2, vI x2), (3, vI x3)] [vI v, vI s1, vR s0] Q) : k_X (jX12_remove G l h0) h 56 [(0, vR (some x0)), (1, vI x1), (2, vI x2), (3, vI x3)] [vI s1, vR s0] Q := by
  obtain ⟨h1, v, c, p⟩ := c
  obtain ⟨h', r, K, q⟩ := K h1 v p
  exact ⟨h', r, j_aload_n dX12_remove_56 rfl rfl <| j_iload_n dX12_remove_57 rfl rfl <| j_iload_n dX12_remove_58 rfl rfl <| j_callV (v := some (vI v)) (as := [vI x3, vI x1]) dX12_remove_59 kc_X12_360 rfl rfl w (by decide) (Nat.le_of_ble_eq_true rfl) c K, q⟩
theorem bX12_remove_62 {h0 h : k_H} {Q : k_H → k_R → Prop} {x0 : Nat} {x1 x2 x3 s1 s2 : Int32} {s0 : Option Nat} (K1 : s2 = 0 → k_X (jX12_remove G l h0) h 69 [(0, vR (some x0)), (1, vI x1), (2, vI x2), (3, vI x3)] [vI s1, vR s0] Q) (K2 : ¬ (s2 = 0) → k_X (jX12_remove G l h0) h 65 [(0, vR (some x0)), (1, vI x1), (2, vI x2), (3, vI x3)] [vI s1, vR s0] Q) : k_X (jX12_remove G l h0) h 62 [(0, vR (some x0)), (1, vI x1), (2, vI x2), (3, vI x3)] [vI s2, vI s1, vR s0] Q := by
  by_cases hc : s2 = 0
  · skip
    obtain ⟨h', r, K, q⟩ := K1 hc
    exact ⟨h', r, j_if_eq_t (tgt := 69) dX12_remove_62 (by decide) hc K, q⟩
  · skip
    obtain ⟨h', r, K, q⟩ := K2 hc
    exact ⟨h', r, j_if_eq_f dX12_remove_62 69 (by decide) hc K, q⟩
theorem bX12_remove_65 {h0 h : k_H} {Q : k_H → k_R → Prop} {x0 : Nat} {x1 x2 x3 s1 : Int32} {s0 : Option Nat} (K : k_X (jX12_remove G l h0) h 70 [(0, vR (some x0)), (1, vI x1), (2, vI x2), (3, vI x3)] [vI 1, vI s1, vR s0] Q) : k_X (jX12_remove G l h0) h 65 [(0, vR (some x0)), (1, vI x1), (2, vI x2), (3, vI x3)] [vI s1, vR s0] Q := by
  obtain ⟨h', r, K, q⟩ := K
  exact ⟨h', r, j_iconst (v := 1) dX12_remove_65 (by decide) <| j_goto (tgt := 70) dX12_remove_66 (by decide) <| K, q⟩
theorem bX12_remove_69 {h0 h : k_H} {Q : k_H → k_R → Prop} {x0 : Nat} {x1 x2 x3 s1 : Int32} {s0 : Option Nat} (K : k_X (jX12_remove G l h0) h 70 [(0, vR (some x0)), (1, vI x1), (2, vI x2), (3, vI x3)] [vI 0, vI s1, vR s0] Q) : k_X (jX12_remove G l h0) h 69 [(0, vR (some x0)), (1, vI x1), (2, vI x2), (3, vI x3)] [vI s1, vR s0] Q := by
  obtain ⟨h', r, K, q⟩ := K
  exact ⟨h', r, j_iconst (v := 0) dX12_remove_69 (by decide) <| K, q⟩
theorem bX12_remove_70 {h0 h : k_H} {Q : k_H → k_R → Prop} {x0 s0 : Nat} {x1 x2 x3 s1 s2 : Int32} {n1 : Nat} {w1 : Nat → Int32} (o1 : h.1 s0 = some (k_z n1 w1)) (y2 : vp_in s1 n1) (y3 : k_bl s2) (K : k_X (jX12_remove G l h0) (k_up h s0 (k_z n1 (va_up w1 (s1).toNatClampNeg s2))) 71 [(0, vR (some x0)), (1, vI x1), (2, vI x2), (3, vI x3)] [] Q) : k_X (jX12_remove G l h0) h 70 [(0, vR (some x0)), (1, vI x1), (2, vI x2), (3, vI x3)] [vI s2, vI s1, vR (some s0)] Q := by
  obtain ⟨h', r, K, q⟩ := K
  exact ⟨h', r, j_zast dX12_remove_70 o1 y2 y3 <| K, q⟩
theorem bX12_remove_71 {h0 h : k_H} {Q : k_H → k_R → Prop} {x0 f1_41 : Nat} {x1 x2 x3 : Int32} {fs1 : List k_V} (o1 : h.1 x0 = some (k_o 15 fs1)) (g1_41 : fs1[41]? = some (vR (some f1_41))) {n2 : Nat} {w2 : Nat → Int32} (o2 : h.1 f1_41 = some (k_z n2 w2)) (y3 : vp_in x3 n2) (K1 : (w2 (x3).toNatClampNeg) = 0 → k_X (jX12_remove G l h0) h 112 [(0, vR (some x0)), (1, vI x1), (3, vI x3)] [vI x2] Q) (K2 : ¬ ((w2 (x3).toNatClampNeg) = 0) → k_X (jX12_remove G l h0) h 81 [(0, vR (some x0)), (1, vI x1), (3, vI x3)] [vI x2] Q) : k_X (jX12_remove G l h0) h 71 [(0, vR (some x0)), (1, vI x1), (2, vI x2), (3, vI x3)] [] Q := by
  by_cases hc : (w2 (x3).toNatClampNeg) = 0
  · skip
    obtain ⟨h', r, K, q⟩ := K1 hc
    exact ⟨h', r, j_iload_n dX12_remove_71 rfl rfl <| j_aload_n dX12_remove_72 rfl rfl <| j_getf dX12_remove_73 kf_X12_107 o1 g1_41 <| j_iload_n dX12_remove_76 rfl rfl <| j_zald dX12_remove_77 o2 y3 <| j_if_eq_t (tgt := 112) dX12_remove_78 (by decide) hc (j_pick [0, 1, 3] rfl K), q⟩
  · skip
    obtain ⟨h', r, K, q⟩ := K2 hc
    exact ⟨h', r, j_iload_n dX12_remove_71 rfl rfl <| j_aload_n dX12_remove_72 rfl rfl <| j_getf dX12_remove_73 kf_X12_107 o1 g1_41 <| j_iload_n dX12_remove_76 rfl rfl <| j_zald dX12_remove_77 o2 y3 <| j_if_eq_f dX12_remove_78 112 (by decide) hc (j_pick [0, 1, 3] rfl K), q⟩
theorem bX12_remove_81 {h0 h : k_H} {Q : k_H → k_R → Prop} {x0 f1_39 : Nat} {x1 x3 s0 : Int32} {fs1 : List k_V} (o1 : h.1 x0 = some (k_o 15 fs1)) (g1_39 : fs1[39]? = some (vR (some f1_39))) {n2 : Nat} {w2 : Nat → Int32} (o2 : h.1 f1_39 = some (k_i n2 w2)) (y3 : vp_in x3 n2) {P : k_H → Int64 → Prop} (c : k_ctj (tX12_firstOf G l) [vI (w2 (x3).toNatClampNeg), vI 10000] h P) (K : ∀ h1 v, P h1 v → k_X (jX12_remove G l h0) h1 94 [(0, vR (some x0)), (1, vI x1), (3, vI x3)] [vJ v, vR (some x0), vI s0] Q) : k_X (jX12_remove G l h0) h 81 [(0, vR (some x0)), (1, vI x1), (3, vI x3)] [vI s0] Q := by
  obtain ⟨h1, v, c, p⟩ := c
  obtain ⟨h', r, K, q⟩ := K h1 v p
  exact ⟨h', r, j_aload_n dX12_remove_81 rfl rfl <| j_aload_n dX12_remove_82 rfl rfl <| j_getf dX12_remove_83 kf_X12_101 o1 g1_39 <| j_iload_n dX12_remove_86 rfl rfl <| j_iald dX12_remove_87 o2 y3 <| j_sipush (v := 10000) dX12_remove_88 (by decide) <| j_callS (v := some (vJ v)) (as := [vI (w2 (x3).toNatClampNeg), vI 10000]) dX12_remove_91 kc_X12_285 rfl rfl (by decide) (Nat.le_of_ble_eq_true rfl) c K, q⟩
theorem bX12_remove_94 {h0 h : k_H} {Q : k_H → k_R → Prop} {x0 f1_39 : Nat} {x1 x3 s0 : Int32} {s1 : Option Nat} {s2 : Int64} {fs1 : List k_V} (o1 : h.1 x0 = some (k_o 15 fs1)) (g1_39 : fs1[39]? = some (vR (some f1_39))) {n2 : Nat} {w2 : Nat → Int32} (o2 : h.1 f1_39 = some (k_i n2 w2)) (y3 : vp_in x3 n2) {P : k_H → Int64 → Prop} (c : k_ctj (tX12_lastOf G l) [vI (w2 (x3).toNatClampNeg), vI 10000] h P) (K : ∀ h1 v, P h1 v → k_X (jX12_remove G l h0) h1 106 [(0, vR (some x0)), (1, vI x1), (3, vI x3)] [vJ v, vJ s2, vR s1, vI s0] Q) : k_X (jX12_remove G l h0) h 94 [(0, vR (some x0)), (1, vI x1), (3, vI x3)] [vJ s2, vR s1, vI s0] Q := by
  obtain ⟨h1, v, c, p⟩ := c
  obtain ⟨h', r, K, q⟩ := K h1 v p
  exact ⟨h', r, j_aload_n dX12_remove_94 rfl rfl <| j_getf dX12_remove_95 kf_X12_101 o1 g1_39 <| j_iload_n dX12_remove_98 rfl rfl <| j_iald dX12_remove_99 o2 y3 <| j_sipush (v := 10000) dX12_remove_100 (by decide) <| j_callS (v := some (vJ v)) (as := [vI (w2 (x3).toNatClampNeg), vI 10000]) dX12_remove_103 kc_X12_289 rfl rfl (by decide) (Nat.le_of_ble_eq_true rfl) c K, q⟩
theorem bX12_remove_106 {h0 h : k_H} {Q : k_H → k_R → Prop} {x0 s1 : Nat} {x1 x3 s0 : Int32} {s2 s3 : Int64} (w : k_is h s1 15) {P : k_H → Int32 → Prop} (c : k_cti (tX12_manyIn G l) [vR (some s1), vJ s2, vJ s3] h P) (K : ∀ h1 v, P h1 v → k_X (jX12_remove G l h0) h1 109 [(0, vR (some x0)), (1, vI x1), (3, vI x3)] [vI v, vI s0] Q) : k_X (jX12_remove G l h0) h 106 [(0, vR (some x0)), (1, vI x1), (3, vI x3)] [vJ s3, vJ s2, vR (some s1), vI s0] Q := by
  obtain ⟨h1, v, c, p⟩ := c
  obtain ⟨h', r, K, q⟩ := K h1 v p
  exact ⟨h', r, j_callV (v := some (vI v)) (as := [vJ s2, vJ s3]) dX12_remove_106 kc_X12_215 rfl rfl w (by decide) (Nat.le_of_ble_eq_true rfl) c K, q⟩
theorem bX12_remove_109 {h0 h : k_H} {Q : k_H → k_R → Prop} {x0 : Nat} {x1 x3 s0 s1 : Int32} (K : k_X (jX12_remove G l h0) h 113 [(0, vR (some x0)), (1, vI x1), (3, vI x3)] [vI s1, vI s0] Q) : k_X (jX12_remove G l h0) h 109 [(0, vR (some x0)), (1, vI x1), (3, vI x3)] [vI s1, vI s0] Q := by
  obtain ⟨h', r, K, q⟩ := K
  exact ⟨h', r, j_goto (tgt := 113) dX12_remove_109 (by decide) <| K, q⟩
theorem bX12_remove_112 {h0 h : k_H} {Q : k_H → k_R → Prop} {x0 : Nat} {x1 x3 s0 : Int32} (K : k_X (jX12_remove G l h0) h 113 [(0, vR (some x0)), (1, vI x1), (3, vI x3)] [vI 0, vI s0] Q) : k_X (jX12_remove G l h0) h 112 [(0, vR (some x0)), (1, vI x1), (3, vI x3)] [vI s0] Q := by
  obtain ⟨h', r, K, q⟩ := K
  exact ⟨h', r, j_iconst (v := 0) dX12_remove_112 (by decide) <| K, q⟩
theorem bX12_remove_113 {h0 h : k_H} {Q : k_H → k_R → Prop} {x0 : Nat} {x1 x3 s0 s1 : Int32} (K : k_X (jX12_remove G l h0) h 34 [(0, vR (some x0)), (1, vI x1), (2, vI (s0 + s1)), (3, vI (x3 + 1))] [] Q) : k_X (jX12_remove G l h0) h 113 [(0, vR (some x0)), (1, vI x1), (3, vI x3)] [vI s1, vI s0] Q := by
  obtain ⟨h', r, K, q⟩ := K
  exact ⟨h', r, j_iadd dX12_remove_113 <| j_istore_n dX12_remove_114 rfl (by decide) rfl <| j_iinc (v := x3 + 1) dX12_remove_115 rfl (by decide) rfl rfl <| j_goto (tgt := 34) dX12_remove_118 (by decide) <| K, q⟩
theorem bX12_remove_121 {h0 h : k_H} {Q : k_H → k_R → Prop} {x0 : Nat} {x2 : Int32} (K1 : x2 ≤ 0 → k_X (jX12_remove G l h0) h 129 [(0, vR (some x0)), (2, vI x2)] [] Q) (K2 : ¬ (x2 ≤ 0) → k_X (jX12_remove G l h0) h 125 [(0, vR (some x0)), (2, vI x2)] [] Q) : k_X (jX12_remove G l h0) h 121 [(0, vR (some x0)), (2, vI x2)] [] Q := by
  by_cases hc : x2 ≤ 0
  · skip
    obtain ⟨h', r, K, q⟩ := K1 hc
    exact ⟨h', r, j_iload_n dX12_remove_121 rfl rfl <| j_if_le_t (tgt := 129) dX12_remove_122 (by decide) hc K, q⟩
  · skip
    obtain ⟨h', r, K, q⟩ := K2 hc
    exact ⟨h', r, j_iload_n dX12_remove_121 rfl rfl <| j_if_le_f dX12_remove_122 129 (by decide) hc K, q⟩
theorem bX12_remove_125 {h0 h : k_H} {Q : k_H → k_R → Prop} {x0 : Nat} {x2 : Int32} (w : k_is h x0 15) {P : k_H → Prop} (c : k_ctv (tX12_opens G l) [vR (some x0)] h P) (K : ∀ h1, P h1 → k_X (jX12_remove G l h0) h1 129 [(0, vR (some x0)), (2, vI x2)] [] Q) : k_X (jX12_remove G l h0) h 125 [(0, vR (some x0)), (2, vI x2)] [] Q := by
  obtain ⟨h1, c, p⟩ := c
  obtain ⟨h', r, K, q⟩ := K h1 p
  exact ⟨h', r, j_aload_n dX12_remove_125 rfl rfl <| j_callV (v := none) (as := []) dX12_remove_126 kc_X12_319 rfl rfl w (by decide) (Nat.le_of_ble_eq_true rfl) c K, q⟩
theorem bX12_remove_129 {h0 h : k_H} {Q : k_H → k_R → Prop} {x0 : Nat} {x2 : Int32} (K : k_X (jX12_remove G l h0) h 131 [(0, vR (some x0)), (2, vI x2), (3, vI 1)] [] Q) : k_X (jX12_remove G l h0) h 129 [(0, vR (some x0)), (2, vI x2)] [] Q := by
  obtain ⟨h', r, K, q⟩ := K
  exact ⟨h', r, j_iconst (v := 1) dX12_remove_129 (by decide) <| j_istore_n dX12_remove_130 rfl (by decide) rfl <| K, q⟩
theorem bX12_remove_131 {h0 h : k_H} {Q : k_H → k_R → Prop} {x0 : Nat} {x2 x3 f1_36 : Int32} {fs1 : List k_V} (o1 : h.1 x0 = some (k_o 15 fs1)) (g1_36 : fs1[36]? = some (vI f1_36)) (K1 : f1_36 ≤ x3 → k_X (jX12_remove G l h0) h 186 [(0, vR (some x0)), (2, vI x2)] [] Q) (K2 : ¬ (f1_36 ≤ x3) → k_X (jX12_remove G l h0) h 139 [(0, vR (some x0)), (2, vI x2), (3, vI x3)] [] Q) : k_X (jX12_remove G l h0) h 131 [(0, vR (some x0)), (2, vI x2), (3, vI x3)] [] Q := by
  by_cases hc : f1_36 ≤ x3
  · skip
    obtain ⟨h', r, K, q⟩ := K1 hc
    exact ⟨h', r, j_iload_n dX12_remove_131 rfl rfl <| j_aload_n dX12_remove_132 rfl rfl <| j_getf dX12_remove_133 kf_X12_92 o1 g1_36 <| j_icmp_ge_t (tgt := 186) dX12_remove_136 (by decide) hc (j_pick [0, 1] rfl K), q⟩
  · skip
    obtain ⟨h', r, K, q⟩ := K2 hc
    exact ⟨h', r, j_iload_n dX12_remove_131 rfl rfl <| j_aload_n dX12_remove_132 rfl rfl <| j_getf dX12_remove_133 kf_X12_92 o1 g1_36 <| j_icmp_ge_f dX12_remove_136 186 (by decide) hc K, q⟩
theorem bX12_remove_139 {h0 h : k_H} {Q : k_H → k_R → Prop} {x0 f1_41 : Nat} {x2 x3 : Int32} {fs1 : List k_V} (o1 : h.1 x0 = some (k_o 15 fs1)) (g1_41 : fs1[41]? = some (vR (some f1_41))) {n2 : Nat} {w2 : Nat → Int32} (o2 : h.1 f1_41 = some (k_z n2 w2)) (y3 : vp_in x3 n2) (K1 : (w2 (x3).toNatClampNeg) = 0 → k_X (jX12_remove G l h0) h 180 [(0, vR (some x0)), (2, vI x2), (3, vI x3)] [] Q) (K2 : ¬ ((w2 (x3).toNatClampNeg) = 0) → k_X (jX12_remove G l h0) h 148 [(0, vR (some x0)), (2, vI x2), (3, vI x3)] [] Q) : k_X (jX12_remove G l h0) h 139 [(0, vR (some x0)), (2, vI x2), (3, vI x3)] [] Q := by
  by_cases hc : (w2 (x3).toNatClampNeg) = 0
  · skip
    obtain ⟨h', r, K, q⟩ := K1 hc
    exact ⟨h', r, j_aload_n dX12_remove_139 rfl rfl <| j_getf dX12_remove_140 kf_X12_107 o1 g1_41 <| j_iload_n dX12_remove_143 rfl rfl <| j_zald dX12_remove_144 o2 y3 <| j_if_eq_t (tgt := 180) dX12_remove_145 (by decide) hc K, q⟩
  · skip
    obtain ⟨h', r, K, q⟩ := K2 hc
    exact ⟨h', r, j_aload_n dX12_remove_139 rfl rfl <| j_getf dX12_remove_140 kf_X12_107 o1 g1_41 <| j_iload_n dX12_remove_143 rfl rfl <| j_zald dX12_remove_144 o2 y3 <| j_if_eq_f dX12_remove_145 180 (by decide) hc K, q⟩
theorem bX12_remove_148 {h0 h : k_H} {Q : k_H → k_R → Prop} {x0 : Nat} {x2 x3 : Int32} (K1 : x2 ≤ 0 → k_X (jX12_remove G l h0) h 180 [(0, vR (some x0)), (2, vI x2), (3, vI x3)] [] Q) (K2 : ¬ (x2 ≤ 0) → k_X (jX12_remove G l h0) h 152 [(0, vR (some x0)), (2, vI x2), (3, vI x3)] [] Q) : k_X (jX12_remove G l h0) h 148 [(0, vR (some x0)), (2, vI x2), (3, vI x3)] [] Q := by
  by_cases hc : x2 ≤ 0
  · skip
    obtain ⟨h', r, K, q⟩ := K1 hc
    exact ⟨h', r, j_iload_n dX12_remove_148 rfl rfl <| j_if_le_t (tgt := 180) dX12_remove_149 (by decide) hc K, q⟩
  · skip
    obtain ⟨h', r, K, q⟩ := K2 hc
    exact ⟨h', r, j_iload_n dX12_remove_148 rfl rfl <| j_if_le_f dX12_remove_149 180 (by decide) hc K, q⟩
theorem bX12_remove_152 {h0 h : k_H} {Q : k_H → k_R → Prop} {x0 f1_39 : Nat} {x2 x3 : Int32} {fs1 : List k_V} (o1 : h.1 x0 = some (k_o 15 fs1)) (g1_39 : fs1[39]? = some (vR (some f1_39))) {n2 : Nat} {w2 : Nat → Int32} (o2 : h.1 f1_39 = some (k_i n2 w2)) (y3 : vp_in x3 n2) {P : k_H → Int64 → Prop} (c : k_ctj (tX12_firstOf G l) [vI (w2 (x3).toNatClampNeg), vI 10000] h P) (K : ∀ h1 v, P h1 v → k_X (jX12_remove G l h0) h1 165 [(0, vR (some x0)), (2, vI x2), (3, vI x3)] [vJ v, vR (some x0)] Q) : k_X (jX12_remove G l h0) h 152 [(0, vR (some x0)), (2, vI x2), (3, vI x3)] [] Q := by
  obtain ⟨h1, v, c, p⟩ := c
  obtain ⟨h', r, K, q⟩ := K h1 v p
  exact ⟨h', r, j_aload_n dX12_remove_152 rfl rfl <| j_aload_n dX12_remove_153 rfl rfl <| j_getf dX12_remove_154 kf_X12_101 o1 g1_39 <| j_iload_n dX12_remove_157 rfl rfl <| j_iald dX12_remove_158 o2 y3 <| j_sipush (v := 10000) dX12_remove_159 (by decide) <| j_callS (v := some (vJ v)) (as := [vI (w2 (x3).toNatClampNeg), vI 10000]) dX12_remove_162 kc_X12_285 rfl rfl (by decide) (Nat.le_of_ble_eq_true rfl) c K, q⟩
theorem bX12_remove_165 {h0 h : k_H} {Q : k_H → k_R → Prop} {x0 f1_39 : Nat} {x2 x3 : Int32} {s0 : Option Nat} {s1 : Int64} {fs1 : List k_V} (o1 : h.1 x0 = some (k_o 15 fs1)) (g1_39 : fs1[39]? = some (vR (some f1_39))) {n2 : Nat} {w2 : Nat → Int32} (o2 : h.1 f1_39 = some (k_i n2 w2)) (y3 : vp_in x3 n2) {P : k_H → Int64 → Prop} (c : k_ctj (tX12_lastOf G l) [vI (w2 (x3).toNatClampNeg), vI 10000] h P) (K : ∀ h1 v, P h1 v → k_X (jX12_remove G l h0) h1 177 [(0, vR (some x0)), (2, vI x2), (3, vI x3)] [vJ v, vJ s1, vR s0] Q) : k_X (jX12_remove G l h0) h 165 [(0, vR (some x0)), (2, vI x2), (3, vI x3)] [vJ s1, vR s0] Q := by
  obtain ⟨h1, v, c, p⟩ := c
  obtain ⟨h', r, K, q⟩ := K h1 v p
  exact ⟨h', r, j_aload_n dX12_remove_165 rfl rfl <| j_getf dX12_remove_166 kf_X12_101 o1 g1_39 <| j_iload_n dX12_remove_169 rfl rfl <| j_iald dX12_remove_170 o2 y3 <| j_sipush (v := 10000) dX12_remove_171 (by decide) <| j_callS (v := some (vJ v)) (as := [vI (w2 (x3).toNatClampNeg), vI 10000]) dX12_remove_174 kc_X12_289 rfl rfl (by decide) (Nat.le_of_ble_eq_true rfl) c K, q⟩
theorem bX12_remove_177 {h0 h : k_H} {Q : k_H → k_R → Prop} {x0 s0 : Nat} {x2 x3 : Int32} {s1 s2 : Int64} (w : k_is h s0 15) {P : k_H → Prop} (c : k_ctv (tX12_clears G l) [vR (some s0), vJ s1, vJ s2] h P) (K : ∀ h1, P h1 → k_X (jX12_remove G l h0) h1 180 [(0, vR (some x0)), (2, vI x2), (3, vI x3)] [] Q) : k_X (jX12_remove G l h0) h 177 [(0, vR (some x0)), (2, vI x2), (3, vI x3)] [vJ s2, vJ s1, vR (some s0)] Q := by
  obtain ⟨h1, c, p⟩ := c
  obtain ⟨h', r, K, q⟩ := K h1 p
  exact ⟨h', r, j_callV (v := none) (as := [vJ s1, vJ s2]) dX12_remove_177 kc_X12_315 rfl rfl w (by decide) (Nat.le_of_ble_eq_true rfl) c K, q⟩
theorem bX12_remove_180 {h0 h : k_H} {Q : k_H → k_R → Prop} {x0 : Nat} {x2 x3 : Int32} (K : k_X (jX12_remove G l h0) h 131 [(0, vR (some x0)), (2, vI x2), (3, vI (x3 + 1))] [] Q) : k_X (jX12_remove G l h0) h 180 [(0, vR (some x0)), (2, vI x2), (3, vI x3)] [] Q := by
  obtain ⟨h', r, K, q⟩ := K
  exact ⟨h', r, j_iinc (v := x3 + 1) dX12_remove_180 rfl (by decide) rfl rfl <| j_goto (tgt := 131) dX12_remove_183 (by decide) <| K, q⟩
theorem bX12_remove_186 {h0 h : k_H} {Q : k_H → k_R → Prop} {x0 : Nat} {x2 : Int32} (K1 : x2 ≤ 0 → k_X (jX12_remove G l h0) h 194 [(0, vR (some x0)), (2, vI x2)] [] Q) (K2 : ¬ (x2 ≤ 0) → k_X (jX12_remove G l h0) h 190 [(0, vR (some x0)), (2, vI x2)] [] Q) : k_X (jX12_remove G l h0) h 186 [(0, vR (some x0)), (2, vI x2)] [] Q := by
  by_cases hc : x2 ≤ 0
  · skip
    obtain ⟨h', r, K, q⟩ := K1 hc
    exact ⟨h', r, j_iload_n dX12_remove_186 rfl rfl <| j_if_le_t (tgt := 194) dX12_remove_187 (by decide) hc K, q⟩
  · skip
    obtain ⟨h', r, K, q⟩ := K2 hc
    exact ⟨h', r, j_iload_n dX12_remove_186 rfl rfl <| j_if_le_f dX12_remove_187 194 (by decide) hc K, q⟩
theorem bX12_remove_190 {h0 h : k_H} {Q : k_H → k_R → Prop} {x0 : Nat} {x2 : Int32} (w : k_is h x0 15) {P : k_H → Prop} (c : k_ctv (tX12_closes G l) [vR (some x0)] h P) (K : ∀ h1, P h1 → k_X (jX12_remove G l h0) h1 194 [(0, vR (some x0)), (2, vI x2)] [] Q) : k_X (jX12_remove G l h0) h 190 [(0, vR (some x0)), (2, vI x2)] [] Q := by
  obtain ⟨h1, c, p⟩ := c
  obtain ⟨h', r, K, q⟩ := K h1 p
  exact ⟨h', r, j_aload_n dX12_remove_190 rfl rfl <| j_callV (v := none) (as := []) dX12_remove_191 kc_X12_330 rfl rfl w (by decide) (Nat.le_of_ble_eq_true rfl) c K, q⟩
theorem bX12_remove_194 {h0 h : k_H} {Q : k_H → k_R → Prop} {x0 : Nat} {x2 : Int32} (K : k_X (jX12_remove G l h0) h 196 [(0, vR (some x0)), (2, vI x2), (3, vI 1)] [] Q) : k_X (jX12_remove G l h0) h 194 [(0, vR (some x0)), (2, vI x2)] [] Q := by
  obtain ⟨h', r, K, q⟩ := K
  exact ⟨h', r, j_iconst (v := 1) dX12_remove_194 (by decide) <| j_istore_n dX12_remove_195 rfl (by decide) rfl <| K, q⟩
theorem bX12_remove_196 {h0 h : k_H} {Q : k_H → k_R → Prop} {x0 : Nat} {x2 x3 f1_36 : Int32} {fs1 : List k_V} (o1 : h.1 x0 = some (k_o 15 fs1)) (g1_36 : fs1[36]? = some (vI f1_36)) (K1 : f1_36 ≤ x3 → k_X (jX12_remove G l h0) h 239 [(2, vI x2)] [] Q) (K2 : ¬ (f1_36 ≤ x3) → k_X (jX12_remove G l h0) h 204 [(0, vR (some x0)), (2, vI x2), (3, vI x3)] [] Q) : k_X (jX12_remove G l h0) h 196 [(0, vR (some x0)), (2, vI x2), (3, vI x3)] [] Q := by
  by_cases hc : f1_36 ≤ x3
  · skip
    obtain ⟨h', r, K, q⟩ := K1 hc
    exact ⟨h', r, j_iload_n dX12_remove_196 rfl rfl <| j_aload_n dX12_remove_197 rfl rfl <| j_getf dX12_remove_198 kf_X12_92 o1 g1_36 <| j_icmp_ge_t (tgt := 239) dX12_remove_201 (by decide) hc (j_pick [1] rfl K), q⟩
  · skip
    obtain ⟨h', r, K, q⟩ := K2 hc
    exact ⟨h', r, j_iload_n dX12_remove_196 rfl rfl <| j_aload_n dX12_remove_197 rfl rfl <| j_getf dX12_remove_198 kf_X12_92 o1 g1_36 <| j_icmp_ge_f dX12_remove_201 239 (by decide) hc K, q⟩
theorem bX12_remove_204 {h0 h : k_H} {Q : k_H → k_R → Prop} {x0 f1_40 : Nat} {x2 x3 : Int32} {fs1 : List k_V} (o1 : h.1 x0 = some (k_o 15 fs1)) (g1_40 : fs1[40]? = some (vR (some f1_40))) {n2 : Nat} {w2 : Nat → Int32} (o2 : h.1 f1_40 = some (k_z n2 w2)) (y3 : vp_in x3 n2) (K1 : (w2 (x3).toNatClampNeg) = 0 → k_X (jX12_remove G l h0) h 231 [(0, vR (some x0)), (2, vI x2), (3, vI x3)] [vI x3, vR (some f1_40)] Q) (K2 : ¬ ((w2 (x3).toNatClampNeg) = 0) → k_X (jX12_remove G l h0) h 218 [(0, vR (some x0)), (2, vI x2), (3, vI x3)] [vI x3, vR (some f1_40)] Q) : k_X (jX12_remove G l h0) h 204 [(0, vR (some x0)), (2, vI x2), (3, vI x3)] [] Q := by
  by_cases hc : (w2 (x3).toNatClampNeg) = 0
  · skip
    obtain ⟨h', r, K, q⟩ := K1 hc
    exact ⟨h', r, j_aload_n dX12_remove_204 rfl rfl <| j_getf dX12_remove_205 kf_X12_104 o1 g1_40 <| j_iload_n dX12_remove_208 rfl rfl <| j_aload_n dX12_remove_209 rfl rfl <| j_getf dX12_remove_210 kf_X12_104 o1 g1_40 <| j_iload_n dX12_remove_213 rfl rfl <| j_zald dX12_remove_214 o2 y3 <| j_if_eq_t (tgt := 231) dX12_remove_215 (by decide) hc K, q⟩
  · skip
    obtain ⟨h', r, K, q⟩ := K2 hc
    exact ⟨h', r, j_aload_n dX12_remove_204 rfl rfl <| j_getf dX12_remove_205 kf_X12_104 o1 g1_40 <| j_iload_n dX12_remove_208 rfl rfl <| j_aload_n dX12_remove_209 rfl rfl <| j_getf dX12_remove_210 kf_X12_104 o1 g1_40 <| j_iload_n dX12_remove_213 rfl rfl <| j_zald dX12_remove_214 o2 y3 <| j_if_eq_f dX12_remove_215 231 (by decide) hc K, q⟩
theorem bX12_remove_218 {h0 h : k_H} {Q : k_H → k_R → Prop} {x0 f1_41 : Nat} {x2 x3 s1 : Int32} {s0 : Option Nat} {fs1 : List k_V} (o1 : h.1 x0 = some (k_o 15 fs1)) (g1_41 : fs1[41]? = some (vR (some f1_41))) {n2 : Nat} {w2 : Nat → Int32} (o2 : h.1 f1_41 = some (k_z n2 w2)) (y3 : vp_in x3 n2) (K1 : ¬ ((w2 (x3).toNatClampNeg) = 0) → k_X (jX12_remove G l h0) h 231 [(0, vR (some x0)), (2, vI x2), (3, vI x3)] [vI s1, vR s0] Q) (K2 : (w2 (x3).toNatClampNeg) = 0 → k_X (jX12_remove G l h0) h 227 [(0, vR (some x0)), (2, vI x2), (3, vI x3)] [vI s1, vR s0] Q) : k_X (jX12_remove G l h0) h 218 [(0, vR (some x0)), (2, vI x2), (3, vI x3)] [vI s1, vR s0] Q := by
  by_cases hc : (w2 (x3).toNatClampNeg) = 0
  · skip
    obtain ⟨h', r, K, q⟩ := K2 hc
    exact ⟨h', r, j_aload_n dX12_remove_218 rfl rfl <| j_getf dX12_remove_219 kf_X12_107 o1 g1_41 <| j_iload_n dX12_remove_222 rfl rfl <| j_zald dX12_remove_223 o2 y3 <| j_if_ne_f dX12_remove_224 231 (by decide) hc K, q⟩
  · skip
    obtain ⟨h', r, K, q⟩ := K1 hc
    exact ⟨h', r, j_aload_n dX12_remove_218 rfl rfl <| j_getf dX12_remove_219 kf_X12_107 o1 g1_41 <| j_iload_n dX12_remove_222 rfl rfl <| j_zald dX12_remove_223 o2 y3 <| j_if_ne_t (tgt := 231) dX12_remove_224 (by decide) hc K, q⟩
theorem bX12_remove_227 {h0 h : k_H} {Q : k_H → k_R → Prop} {x0 : Nat} {x2 x3 s1 : Int32} {s0 : Option Nat} (K : k_X (jX12_remove G l h0) h 232 [(0, vR (some x0)), (2, vI x2), (3, vI x3)] [vI 1, vI s1, vR s0] Q) : k_X (jX12_remove G l h0) h 227 [(0, vR (some x0)), (2, vI x2), (3, vI x3)] [vI s1, vR s0] Q := by
  obtain ⟨h', r, K, q⟩ := K
  exact ⟨h', r, j_iconst (v := 1) dX12_remove_227 (by decide) <| j_goto (tgt := 232) dX12_remove_228 (by decide) <| K, q⟩
theorem bX12_remove_231 {h0 h : k_H} {Q : k_H → k_R → Prop} {x0 : Nat} {x2 x3 s1 : Int32} {s0 : Option Nat} (K : k_X (jX12_remove G l h0) h 232 [(0, vR (some x0)), (2, vI x2), (3, vI x3)] [vI 0, vI s1, vR s0] Q) : k_X (jX12_remove G l h0) h 231 [(0, vR (some x0)), (2, vI x2), (3, vI x3)] [vI s1, vR s0] Q := by
  obtain ⟨h', r, K, q⟩ := K
  exact ⟨h', r, j_iconst (v := 0) dX12_remove_231 (by decide) <| K, q⟩
theorem bX12_remove_232 {h0 h : k_H} {Q : k_H → k_R → Prop} {x0 s0 : Nat} {x2 x3 s1 s2 : Int32} {n1 : Nat} {w1 : Nat → Int32} (o1 : h.1 s0 = some (k_z n1 w1)) (y2 : vp_in s1 n1) (y3 : k_bl s2) (K : k_X (jX12_remove G l h0) (k_up h s0 (k_z n1 (va_up w1 (s1).toNatClampNeg s2))) 233 [(0, vR (some x0)), (2, vI x2), (3, vI x3)] [] Q) : k_X (jX12_remove G l h0) h 232 [(0, vR (some x0)), (2, vI x2), (3, vI x3)] [vI s2, vI s1, vR (some s0)] Q := by
  obtain ⟨h', r, K, q⟩ := K
  exact ⟨h', r, j_zast dX12_remove_232 o1 y2 y3 <| K, q⟩
theorem bX12_remove_233 {h0 h : k_H} {Q : k_H → k_R → Prop} {x0 : Nat} {x2 x3 : Int32} (K : k_X (jX12_remove G l h0) h 196 [(0, vR (some x0)), (2, vI x2), (3, vI (x3 + 1))] [] Q) : k_X (jX12_remove G l h0) h 233 [(0, vR (some x0)), (2, vI x2), (3, vI x3)] [] Q := by
  obtain ⟨h', r, K, q⟩ := K
  exact ⟨h', r, j_iinc (v := x3 + 1) dX12_remove_233 rfl (by decide) rfl rfl <| j_goto (tgt := 196) dX12_remove_236 (by decide) <| K, q⟩
theorem bX12_remove_239 {h0 h : k_H} {Q : k_H → k_R → Prop} {x2 : Int32} (q : Q h (.inl (some (vI x2)))) : k_X (jX12_remove G l h0) h 239 [(2, vI x2)] [] Q := by
  exact ⟨_, _, j_iload_n dX12_remove_239 rfl rfl <| j_iret dX12_remove_240 rfl, q⟩
theorem eX12_shortName {G : k_G} {l : Launch} (hfl : l.flags = flags0) {h : k_H} {Q : k_H → k_R → Prop} {x0 : Nat} {x1 : Int32} (K : k_X (jX12_shortName G l h) h 0 [(0, vR (some x0)), (1, vI x1)] [] Q) : k_ct (tX12_shortName G l) [vR (some x0), vI x1] h Q := by
  obtain ⟨h', r, K, q⟩ := K
  exact ⟨h', r, k_CtOf (by decide +kernel) (Nat.le_of_ble_eq_true rfl) K hfl, q⟩

theorem bX12_shortName_0 {h0 h : k_H} {Q : k_H → k_R → Prop} {x0 : Nat} {x1 : Int32} (w : k_is h x0 15) {P : k_H → Int32 → Prop} (c : k_cti (tX12_isDirectory G l) [vR (some x0), vI x1] h P) (K : ∀ h1 v, P h1 v → k_X (jX12_shortName G l h0) h1 6 [(0, vR (some x0)), (1, vI x1)] [vI v, vR (some x0)] Q) : k_X (jX12_shortName G l h0) h 0 [(0, vR (some x0)), (1, vI x1)] [] Q := by
  obtain ⟨h1, v, c, p⟩ := c
  obtain ⟨h', r, K, q⟩ := K h1 v p
  exact ⟨h', r, j_aload_n dX12_shortName_0 rfl rfl <| j_aload_n dX12_shortName_1 rfl rfl <| j_iload_n dX12_shortName_2 rfl rfl <| j_callV (v := some (vI v)) (as := [vI x1]) dX12_shortName_3 kc_X12_348 rfl rfl w (by decide) (Nat.le_of_ble_eq_true rfl) c K, q⟩
theorem bX12_shortName_6 {h0 h : k_H} {Q : k_H → k_R → Prop} {x0 : Nat} {x1 s1 : Int32} {s0 : Option Nat} (K1 : s1 = 0 → k_X (jX12_shortName G l h0) h 13 [(0, vR (some x0)), (1, vI x1)] [vR s0] Q) (K2 : ¬ (s1 = 0) → k_X (jX12_shortName G l h0) h 9 [(0, vR (some x0)), (1, vI x1)] [vR s0] Q) : k_X (jX12_shortName G l h0) h 6 [(0, vR (some x0)), (1, vI x1)] [vI s1, vR s0] Q := by
  by_cases hc : s1 = 0
  · skip
    obtain ⟨h', r, K, q⟩ := K1 hc
    exact ⟨h', r, j_if_eq_t (tgt := 13) dX12_shortName_6 (by decide) hc K, q⟩
  · skip
    obtain ⟨h', r, K, q⟩ := K2 hc
    exact ⟨h', r, j_if_eq_f dX12_shortName_6 13 (by decide) hc K, q⟩
theorem bX12_shortName_9 {h0 h : k_H} {Q : k_H → k_R → Prop} {x0 : Nat} {x1 : Int32} {s0 : Option Nat} (K : k_X (jX12_shortName G l h0) h 14 [(0, vR (some x0)), (1, vI x1)] [vI 0, vR s0] Q) : k_X (jX12_shortName G l h0) h 9 [(0, vR (some x0)), (1, vI x1)] [vR s0] Q := by
  obtain ⟨h', r, K, q⟩ := K
  exact ⟨h', r, j_iconst (v := 0) dX12_shortName_9 (by decide) <| j_goto (tgt := 14) dX12_shortName_10 (by decide) <| K, q⟩
theorem bX12_shortName_13 {h0 h : k_H} {Q : k_H → k_R → Prop} {x0 : Nat} {x1 : Int32} {s0 : Option Nat} (K : k_X (jX12_shortName G l h0) h 14 [(0, vR (some x0)), (1, vI x1)] [vI 1, vR s0] Q) : k_X (jX12_shortName G l h0) h 13 [(0, vR (some x0)), (1, vI x1)] [vR s0] Q := by
  obtain ⟨h', r, K, q⟩ := K
  exact ⟨h', r, j_iconst (v := 1) dX12_shortName_13 (by decide) <| K, q⟩
theorem bX12_shortName_14 {h0 h : k_H} {Q : k_H → k_R → Prop} {x0 s0 : Nat} {x1 s1 : Int32} (w : k_is h s0 15) {P : k_H → Int32 → Prop} (c : k_cti (tX12_goes G l) [vR (some s0), vI s1] h P) (K : ∀ h1 v, P h1 v → k_X (jX12_shortName G l h0) h1 17 [(0, vR (some x0)), (1, vI x1)] [vI v] Q) : k_X (jX12_shortName G l h0) h 14 [(0, vR (some x0)), (1, vI x1)] [vI s1, vR (some s0)] Q := by
  obtain ⟨h1, v, c, p⟩ := c
  obtain ⟨h', r, K, q⟩ := K h1 v p
  exact ⟨h', r, j_callV (v := some (vI v)) (as := [vI s1]) dX12_shortName_14 kc_X12_265 rfl rfl w (by decide) (Nat.le_of_ble_eq_true rfl) c K, q⟩
theorem bX12_shortName_17 {h0 h : k_H} {Q : k_H → k_R → Prop} {x0 : Nat} {x1 s0 : Int32} (K1 : s0 = 0 → k_X (jX12_shortName G l h0) h 29 [] [] Q) (K2 : ¬ (s0 = 0) → k_X (jX12_shortName G l h0) h 20 [(0, vR (some x0)), (1, vI x1)] [] Q) : k_X (jX12_shortName G l h0) h 17 [(0, vR (some x0)), (1, vI x1)] [vI s0] Q := by
  by_cases hc : s0 = 0
  · skip
    obtain ⟨h', r, K, q⟩ := K1 hc
    exact ⟨h', r, j_if_eq_t (tgt := 29) dX12_shortName_17 (by decide) hc (j_pick [] rfl K), q⟩
  · skip
    obtain ⟨h', r, K, q⟩ := K2 hc
    exact ⟨h', r, j_if_eq_f dX12_shortName_17 29 (by decide) hc K, q⟩
theorem bX12_shortName_20 {h0 h : k_H} {Q : k_H → k_R → Prop} {x0 f1_39 : Nat} {x1 : Int32} {fs1 : List k_V} (o1 : h.1 x0 = some (k_o 15 fs1)) (g1_39 : fs1[39]? = some (vR (some f1_39))) {n2 : Nat} {w2 : Nat → Int32} (o2 : h.1 f1_39 = some (k_i n2 w2)) (y3 : vp_in x1 n2) (K : k_X (jX12_shortName G l h0) h 30 [] [vI (w2 (x1).toNatClampNeg)] Q) : k_X (jX12_shortName G l h0) h 20 [(0, vR (some x0)), (1, vI x1)] [] Q := by
  obtain ⟨h', r, K, q⟩ := K
  exact ⟨h', r, j_aload_n dX12_shortName_20 rfl rfl <| j_getf dX12_shortName_21 kf_X12_101 o1 g1_39 <| j_iload_n dX12_shortName_24 rfl rfl <| j_iald dX12_shortName_25 o2 y3 <| j_goto (tgt := 30) dX12_shortName_26 (by decide) <| (j_pick [] rfl K), q⟩
theorem bX12_shortName_29 {h0 h : k_H} {Q : k_H → k_R → Prop} (K : k_X (jX12_shortName G l h0) h 30 [] [vI 0] Q) : k_X (jX12_shortName G l h0) h 29 [] [] Q := by
  obtain ⟨h', r, K, q⟩ := K
  exact ⟨h', r, j_iconst (v := 0) dX12_shortName_29 (by decide) <| K, q⟩
theorem bX12_shortName_30 {h0 h : k_H} {Q : k_H → k_R → Prop} {s0 : Int32} (q : Q h (.inl (some (vI s0)))) : k_X (jX12_shortName G l h0) h 30 [] [vI s0] Q := by
  exact ⟨_, _, j_iret dX12_shortName_30 rfl, q⟩
theorem eX12_named {G : k_G} {l : Launch} (hfl : l.flags = flags0) {h : k_H} {Q : k_H → k_R → Prop} {x0 : Nat} {x1 : Int32} {x2 : Int32} (K : k_X (jX12_named G l h) h 0 [(0, vR (some x0)), (1, vI x1), (2, vI x2)] [] Q) : k_ct (tX12_named G l) [vR (some x0), vI x1, vI x2] h Q := by
  obtain ⟨h', r, K, q⟩ := K
  exact ⟨h', r, k_CtOf (by decide +kernel) (Nat.le_of_ble_eq_true rfl) K hfl, q⟩

theorem bX12_named_0 {h0 h : k_H} {Q : k_H → k_R → Prop} {x0 : Nat} {x1 x2 : Int32} (w : k_is h x0 15) {P : k_H → Int32 → Prop} (c : k_cti (tX12_isDirectory G l) [vR (some x0), vI x1] h P) (K : ∀ h1 v, P h1 v → k_X (jX12_named G l h0) h1 6 [(0, vR (some x0)), (1, vI x1), (2, vI x2)] [vI v, vR (some x0)] Q) : k_X (jX12_named G l h0) h 0 [(0, vR (some x0)), (1, vI x1), (2, vI x2)] [] Q := by
  obtain ⟨h1, v, c, p⟩ := c
  obtain ⟨h', r, K, q⟩ := K h1 v p
  exact ⟨h', r, j_aload_n dX12_named_0 rfl rfl <| j_aload_n dX12_named_1 rfl rfl <| j_iload_n dX12_named_2 rfl rfl <| j_callV (v := some (vI v)) (as := [vI x1]) dX12_named_3 kc_X12_348 rfl rfl w (by decide) (Nat.le_of_ble_eq_true rfl) c K, q⟩
theorem bX12_named_6 {h0 h : k_H} {Q : k_H → k_R → Prop} {x0 : Nat} {x1 x2 s1 : Int32} {s0 : Option Nat} (K1 : ¬ (s1 = 0) → k_X (jX12_named G l h0) h 13 [(0, vR (some x0)), (1, vI x1), (2, vI x2)] [vR s0] Q) (K2 : s1 = 0 → k_X (jX12_named G l h0) h 9 [(0, vR (some x0)), (1, vI x1), (2, vI x2)] [vR s0] Q) : k_X (jX12_named G l h0) h 6 [(0, vR (some x0)), (1, vI x1), (2, vI x2)] [vI s1, vR s0] Q := by
  by_cases hc : s1 = 0
  · skip
    obtain ⟨h', r, K, q⟩ := K2 hc
    exact ⟨h', r, j_if_ne_f dX12_named_6 13 (by decide) hc K, q⟩
  · skip
    obtain ⟨h', r, K, q⟩ := K1 hc
    exact ⟨h', r, j_if_ne_t (tgt := 13) dX12_named_6 (by decide) hc K, q⟩
theorem bX12_named_9 {h0 h : k_H} {Q : k_H → k_R → Prop} {x0 : Nat} {x1 x2 : Int32} {s0 : Option Nat} (K : k_X (jX12_named G l h0) h 28 [(0, vR (some x0)), (1, vI x1), (2, vI x2)] [vI 1, vR s0] Q) : k_X (jX12_named G l h0) h 9 [(0, vR (some x0)), (1, vI x1), (2, vI x2)] [vR s0] Q := by
  obtain ⟨h', r, K, q⟩ := K
  exact ⟨h', r, j_iconst (v := 1) dX12_named_9 (by decide) <| j_goto (tgt := 28) dX12_named_10 (by decide) <| K, q⟩
theorem bX12_named_13 {h0 h : k_H} {Q : k_H → k_R → Prop} {x0 : Nat} {x1 x2 : Int32} {s0 : Option Nat} {P : k_H → Int32 → Prop} (c : k_cti (tX12_isIn G l) [vI x2, vI 0, vI 9] h P) (K : ∀ h1 v, P h1 v → k_X (jX12_named G l h0) h1 20 [(0, vR (some x0)), (1, vI x1), (2, vI x2)] [vI v, vR s0] Q) : k_X (jX12_named G l h0) h 13 [(0, vR (some x0)), (1, vI x1), (2, vI x2)] [vR s0] Q := by
  obtain ⟨h1, v, c, p⟩ := c
  obtain ⟨h', r, K, q⟩ := K h1 v p
  exact ⟨h', r, j_iload_n dX12_named_13 rfl rfl <| j_iconst (v := 0) dX12_named_14 (by decide) <| j_bipush (v := 9) dX12_named_15 (by decide) <| j_callS (v := some (vI v)) (as := [vI x2, vI 0, vI 9]) dX12_named_17 kc_X12_137 rfl rfl (by decide) (Nat.le_of_ble_eq_true rfl) c K, q⟩
theorem bX12_named_20 {h0 h : k_H} {Q : k_H → k_R → Prop} {x0 : Nat} {x1 x2 s1 : Int32} {s0 : Option Nat} (K1 : s1 = 0 → k_X (jX12_named G l h0) h 27 [(0, vR (some x0)), (1, vI x1), (2, vI x2)] [vR s0] Q) (K2 : ¬ (s1 = 0) → k_X (jX12_named G l h0) h 23 [(0, vR (some x0)), (1, vI x1), (2, vI x2)] [vR s0] Q) : k_X (jX12_named G l h0) h 20 [(0, vR (some x0)), (1, vI x1), (2, vI x2)] [vI s1, vR s0] Q := by
  by_cases hc : s1 = 0
  · skip
    obtain ⟨h', r, K, q⟩ := K1 hc
    exact ⟨h', r, j_if_eq_t (tgt := 27) dX12_named_20 (by decide) hc K, q⟩
  · skip
    obtain ⟨h', r, K, q⟩ := K2 hc
    exact ⟨h', r, j_if_eq_f dX12_named_20 27 (by decide) hc K, q⟩
theorem bX12_named_23 {h0 h : k_H} {Q : k_H → k_R → Prop} {x0 : Nat} {x1 x2 : Int32} {s0 : Option Nat} (K : k_X (jX12_named G l h0) h 28 [(0, vR (some x0)), (1, vI x1), (2, vI x2)] [vI 0, vR s0] Q) : k_X (jX12_named G l h0) h 23 [(0, vR (some x0)), (1, vI x1), (2, vI x2)] [vR s0] Q := by
  obtain ⟨h', r, K, q⟩ := K
  exact ⟨h', r, j_iconst (v := 0) dX12_named_23 (by decide) <| j_goto (tgt := 28) dX12_named_24 (by decide) <| K, q⟩
theorem bX12_named_27 {h0 h : k_H} {Q : k_H → k_R → Prop} {x0 : Nat} {x1 x2 : Int32} {s0 : Option Nat} (K : k_X (jX12_named G l h0) h 28 [(0, vR (some x0)), (1, vI x1), (2, vI x2)] [vI 2, vR s0] Q) : k_X (jX12_named G l h0) h 27 [(0, vR (some x0)), (1, vI x1), (2, vI x2)] [vR s0] Q := by
  obtain ⟨h', r, K, q⟩ := K
  exact ⟨h', r, j_iconst (v := 2) dX12_named_27 (by decide) <| K, q⟩
theorem bX12_named_28 {h0 h : k_H} {Q : k_H → k_R → Prop} {x0 s0 : Nat} {x1 x2 s1 : Int32} (w : k_is h s0 15) {P : k_H → Int32 → Prop} (c : k_cti (tX12_goes G l) [vR (some s0), vI s1] h P) (K : ∀ h1 v, P h1 v → k_X (jX12_named G l h0) h1 31 [(0, vR (some x0)), (1, vI x1), (2, vI x2)] [vI v] Q) : k_X (jX12_named G l h0) h 28 [(0, vR (some x0)), (1, vI x1), (2, vI x2)] [vI s1, vR (some s0)] Q := by
  obtain ⟨h1, v, c, p⟩ := c
  obtain ⟨h', r, K, q⟩ := K h1 v p
  exact ⟨h', r, j_callV (v := some (vI v)) (as := [vI s1]) dX12_named_28 kc_X12_265 rfl rfl w (by decide) (Nat.le_of_ble_eq_true rfl) c K, q⟩
theorem bX12_named_31 {h0 h : k_H} {Q : k_H → k_R → Prop} {x0 : Nat} {x1 x2 s0 : Int32} (K1 : s0 = 0 → k_X (jX12_named G l h0) h 43 [] [] Q) (K2 : ¬ (s0 = 0) → k_X (jX12_named G l h0) h 34 [(0, vR (some x0)), (1, vI x1), (2, vI x2)] [] Q) : k_X (jX12_named G l h0) h 31 [(0, vR (some x0)), (1, vI x1), (2, vI x2)] [vI s0] Q := by
  by_cases hc : s0 = 0
  · skip
    obtain ⟨h', r, K, q⟩ := K1 hc
    exact ⟨h', r, j_if_eq_t (tgt := 43) dX12_named_31 (by decide) hc (j_pick [] rfl K), q⟩
  · skip
    obtain ⟨h', r, K, q⟩ := K2 hc
    exact ⟨h', r, j_if_eq_f dX12_named_31 43 (by decide) hc K, q⟩
theorem bX12_named_34 {h0 h : k_H} {Q : k_H → k_R → Prop} {x0 : Nat} {x1 x2 : Int32} (w : k_is h x0 15) {P : k_H → Int32 → Prop} (c : k_cti (tX12_namedIn G l) [vR (some x0), vI x1, vI x2] h P) (K : ∀ h1 v, P h1 v → k_X (jX12_named G l h0) h1 40 [] [vI v] Q) : k_X (jX12_named G l h0) h 34 [(0, vR (some x0)), (1, vI x1), (2, vI x2)] [] Q := by
  obtain ⟨h1, v, c, p⟩ := c
  obtain ⟨h', r, K, q⟩ := K h1 v p
  exact ⟨h', r, j_aload_n dX12_named_34 rfl rfl <| j_iload_n dX12_named_35 rfl rfl <| j_iload_n dX12_named_36 rfl rfl <| j_callV (v := some (vI v)) (as := [vI x1, vI x2]) dX12_named_37 kc_X12_351 rfl rfl w (by decide) (Nat.le_of_ble_eq_true rfl) c (j_pick [] rfl K), q⟩
theorem bX12_named_40 {h0 h : k_H} {Q : k_H → k_R → Prop} {s0 : Int32} (K : k_X (jX12_named G l h0) h 44 [] [vI s0] Q) : k_X (jX12_named G l h0) h 40 [] [vI s0] Q := by
  obtain ⟨h', r, K, q⟩ := K
  exact ⟨h', r, j_goto (tgt := 44) dX12_named_40 (by decide) <| K, q⟩
theorem bX12_named_43 {h0 h : k_H} {Q : k_H → k_R → Prop} (K : k_X (jX12_named G l h0) h 44 [] [vI 0] Q) : k_X (jX12_named G l h0) h 43 [] [] Q := by
  obtain ⟨h', r, K, q⟩ := K
  exact ⟨h', r, j_iconst (v := 0) dX12_named_43 (by decide) <| K, q⟩
theorem bX12_named_44 {h0 h : k_H} {Q : k_H → k_R → Prop} {s0 : Int32} (q : Q h (.inl (some (vI s0)))) : k_X (jX12_named G l h0) h 44 [] [vI s0] Q := by
  exact ⟨_, _, j_iret dX12_named_44 rfl, q⟩
theorem eX12_recordOf {G : k_G} {l : Launch} (hfl : l.flags = flags0) {h : k_H} {Q : k_H → k_R → Prop} {x0 : Int32} (K : k_X (jX12_recordOf G l h) h 0 [(0, vI x0)] [] Q) : k_ct (tX12_recordOf G l) [vI x0] h Q := by
  obtain ⟨h', r, K, q⟩ := K
  exact ⟨h', r, k_CtOf (by decide +kernel) (Nat.le_of_ble_eq_true rfl) K hfl, q⟩

theorem bX12_recordOf_0 {h0 h : k_H} {Q : k_H → k_R → Prop} {x0 : Int32} {P : k_H → Int64 → Prop} (c : k_ctj (tX12_codeOf G l) [vI (-1), vI x0, vI 10000] h P) (K : ∀ h1 v, P h1 v → k_X (jX12_recordOf G l h0) h1 8 [] [vJ v] Q) : k_X (jX12_recordOf G l h0) h 0 [(0, vI x0)] [] Q := by
  obtain ⟨h1, v, c, p⟩ := c
  obtain ⟨h', r, K, q⟩ := K h1 v p
  exact ⟨h', r, j_iconst (v := (-1)) dX12_recordOf_0 (by decide) <| j_iload_n dX12_recordOf_1 rfl rfl <| j_sipush (v := 10000) dX12_recordOf_2 (by decide) <| j_callS (v := some (vJ v)) (as := [vI (-1), vI x0, vI 10000]) dX12_recordOf_5 kc_X12_155 rfl rfl (by decide) (Nat.le_of_ble_eq_true rfl) c (j_pick [] rfl K), q⟩
theorem bX12_recordOf_8 {h0 h : k_H} {Q : k_H → k_R → Prop} {s0 : Int64} (q : Q h (.inl (some (vJ s0)))) : k_X (jX12_recordOf G l h0) h 8 [] [vJ s0] Q := by
  exact ⟨_, _, j_lret dX12_recordOf_8 rfl, q⟩
theorem eX12_indexOf {G : k_G} {l : Launch} (hfl : l.flags = flags0) {h : k_H} {Q : k_H → k_R → Prop} {x0 : Int32} (K : k_X (jX12_indexOf G l h) h 0 [(0, vI x0)] [] Q) : k_ct (tX12_indexOf G l) [vI x0] h Q := by
  obtain ⟨h', r, K, q⟩ := K
  exact ⟨h', r, k_CtOf (by decide +kernel) (Nat.le_of_ble_eq_true rfl) K hfl, q⟩

theorem bX12_indexOf_0 {h0 h : k_H} {Q : k_H → k_R → Prop} {x0 : Int32} {P : k_H → Int64 → Prop} (c : k_ctj (tX12_codeOf G l) [vI (-6), vI x0, vI 10000] h P) (K : ∀ h1 v, P h1 v → k_X (jX12_indexOf G l h0) h1 9 [] [vJ v] Q) : k_X (jX12_indexOf G l h0) h 0 [(0, vI x0)] [] Q := by
  obtain ⟨h1, v, c, p⟩ := c
  obtain ⟨h', r, K, q⟩ := K h1 v p
  exact ⟨h', r, j_bipush (v := (-6)) dX12_indexOf_0 (by decide) <| j_iload_n dX12_indexOf_2 rfl rfl <| j_sipush (v := 10000) dX12_indexOf_3 (by decide) <| j_callS (v := some (vJ v)) (as := [vI (-6), vI x0, vI 10000]) dX12_indexOf_6 kc_X12_155 rfl rfl (by decide) (Nat.le_of_ble_eq_true rfl) c (j_pick [] rfl K), q⟩
theorem bX12_indexOf_9 {h0 h : k_H} {Q : k_H → k_R → Prop} {s0 : Int64} (q : Q h (.inl (some (vJ s0)))) : k_X (jX12_indexOf G l h0) h 9 [] [vJ s0] Q := by
  exact ⟨_, _, j_lret dX12_indexOf_9 rfl, q⟩
theorem eX12_goesFor {G : k_G} {l : Launch} (hfl : l.flags = flags0) {h : k_H} {Q : k_H → k_R → Prop} {x0 : Int32} {x1 : Int32} (K : k_X (jX12_goesFor G l h) h 0 [(0, vI x0), (1, vI x1)] [] Q) : k_ct (tX12_goesFor G l) [vI x0, vI x1] h Q := by
  obtain ⟨h', r, K, q⟩ := K
  exact ⟨h', r, k_CtOf (by decide +kernel) (Nat.le_of_ble_eq_true rfl) K hfl, q⟩

theorem bX12_goesFor_0 {h0 h : k_H} {Q : k_H → k_R → Prop} {x0 x1 : Int32} (K1 : x0 = (-2147483648) → k_X (jX12_goesFor G l h0) h 18 [] [] Q) (K2 : ¬ (x0 = (-2147483648)) → k_X (jX12_goesFor G l h0) h 6 [(0, vI x0), (1, vI x1)] [] Q) : k_X (jX12_goesFor G l h0) h 0 [(0, vI x0), (1, vI x1)] [] Q := by
  by_cases hc : x0 = (-2147483648)
  · skip
    obtain ⟨h', r, K, q⟩ := K1 hc
    exact ⟨h', r, j_iload_n dX12_goesFor_0 rfl rfl <| j_ldc (v := (-2147483648)) dX12_goesFor_1 ki_X12_87 <| j_icmp_eq_t (tgt := 18) dX12_goesFor_3 (by decide) hc (j_pick [] rfl K), q⟩
  · skip
    obtain ⟨h', r, K, q⟩ := K2 hc
    exact ⟨h', r, j_iload_n dX12_goesFor_0 rfl rfl <| j_ldc (v := (-2147483648)) dX12_goesFor_1 ki_X12_87 <| j_icmp_eq_f dX12_goesFor_3 18 (by decide) hc K, q⟩
theorem bX12_goesFor_6 {h0 h : k_H} {Q : k_H → k_R → Prop} {x0 x1 : Int32} (K1 : x0 = (-1000) → k_X (jX12_goesFor G l h0) h 22 [] [] Q) (K2 : ¬ (x0 = (-1000)) → k_X (jX12_goesFor G l h0) h 13 [(0, vI x0), (1, vI x1)] [] Q) : k_X (jX12_goesFor G l h0) h 6 [(0, vI x0), (1, vI x1)] [] Q := by
  by_cases hc : x0 = (-1000)
  · skip
    obtain ⟨h', r, K, q⟩ := K1 hc
    exact ⟨h', r, j_iload_n dX12_goesFor_6 rfl rfl <| j_sipush (v := (-1000)) dX12_goesFor_7 (by decide) <| j_icmp_eq_t (tgt := 22) dX12_goesFor_10 (by decide) hc (j_pick [] rfl K), q⟩
  · skip
    obtain ⟨h', r, K, q⟩ := K2 hc
    exact ⟨h', r, j_iload_n dX12_goesFor_6 rfl rfl <| j_sipush (v := (-1000)) dX12_goesFor_7 (by decide) <| j_icmp_eq_f dX12_goesFor_10 22 (by decide) hc K, q⟩
theorem bX12_goesFor_13 {h0 h : k_H} {Q : k_H → k_R → Prop} {x0 x1 : Int32} (K1 : x0 < x1 → k_X (jX12_goesFor G l h0) h 22 [] [] Q) (K2 : ¬ (x0 < x1) → k_X (jX12_goesFor G l h0) h 18 [] [] Q) : k_X (jX12_goesFor G l h0) h 13 [(0, vI x0), (1, vI x1)] [] Q := by
  by_cases hc : x0 < x1
  · skip
    obtain ⟨h', r, K, q⟩ := K1 hc
    exact ⟨h', r, j_iload_n dX12_goesFor_13 rfl rfl <| j_iload_n dX12_goesFor_14 rfl rfl <| j_icmp_gt_t (tgt := 22) dX12_goesFor_15 (by decide) hc (j_pick [] rfl K), q⟩
  · skip
    obtain ⟨h', r, K, q⟩ := K2 hc
    exact ⟨h', r, j_iload_n dX12_goesFor_13 rfl rfl <| j_iload_n dX12_goesFor_14 rfl rfl <| j_icmp_gt_f dX12_goesFor_15 22 (by decide) hc (j_pick [] rfl K), q⟩
theorem bX12_goesFor_18 {h0 h : k_H} {Q : k_H → k_R → Prop} (K : k_X (jX12_goesFor G l h0) h 23 [] [vI 1] Q) : k_X (jX12_goesFor G l h0) h 18 [] [] Q := by
  obtain ⟨h', r, K, q⟩ := K
  exact ⟨h', r, j_iconst (v := 1) dX12_goesFor_18 (by decide) <| j_goto (tgt := 23) dX12_goesFor_19 (by decide) <| K, q⟩
theorem bX12_goesFor_22 {h0 h : k_H} {Q : k_H → k_R → Prop} (K : k_X (jX12_goesFor G l h0) h 23 [] [vI 0] Q) : k_X (jX12_goesFor G l h0) h 22 [] [] Q := by
  obtain ⟨h', r, K, q⟩ := K
  exact ⟨h', r, j_iconst (v := 0) dX12_goesFor_22 (by decide) <| K, q⟩
theorem bX12_goesFor_23 {h0 h : k_H} {Q : k_H → k_R → Prop} {s0 : Int32} (y1 : k_bl s0) (q : Q h (.inl (some (vI s0)))) : k_X (jX12_goesFor G l h0) h 23 [] [vI s0] Q := by
  exact ⟨_, _, j_zret dX12_goesFor_23 rfl y1, q⟩
theorem eX12_isAnyStamped {G : k_G} {l : Launch} (hfl : l.flags = flags0) {h : k_H} {Q : k_H → k_R → Prop} {x0 : Nat} {x1 : Int32} {x2 : Int32} (K : k_X (jX12_isAnyStamped G l h) h 0 [(0, vR (some x0)), (1, vI x1), (2, vI x2)] [] Q) : k_ct (tX12_isAnyStamped G l) [vR (some x0), vI x1, vI x2] h Q := by
  obtain ⟨h', r, K, q⟩ := K
  exact ⟨h', r, k_CtOf (by decide +kernel) (Nat.le_of_ble_eq_true rfl) K hfl, q⟩

theorem bX12_isAnyStamped_0 {h0 h : k_H} {Q : k_H → k_R → Prop} {x0 : Nat} {x1 x2 : Int32} (K : k_X (jX12_isAnyStamped G l h0) h 5 [(0, vR (some x0)), (1, vI x1), (2, vI x2), (3, vI 0), (4, vI 0)] [] Q) : k_X (jX12_isAnyStamped G l h0) h 0 [(0, vR (some x0)), (1, vI x1), (2, vI x2)] [] Q := by
  obtain ⟨h', r, K, q⟩ := K
  exact ⟨h', r, j_iconst (v := 0) dX12_isAnyStamped_0 (by decide) <| j_istore_n dX12_isAnyStamped_1 rfl (by decide) rfl <| j_iconst (v := 0) dX12_isAnyStamped_2 (by decide) <| j_istore dX12_isAnyStamped_3 (by decide) rfl <| K, q⟩
theorem bX12_isAnyStamped_5 {h0 h : k_H} {Q : k_H → k_R → Prop} {x0 : Nat} {x1 x2 x3 x4 : Int32} (K1 : 4 ≤ x4 → k_X (jX12_isAnyStamped G l h0) h 57 [(3, vI x3)] [] Q) (K2 : ¬ (4 ≤ x4) → k_X (jX12_isAnyStamped G l h0) h 11 [(0, vR (some x0)), (1, vI x1), (2, vI x2), (3, vI x3), (4, vI x4)] [] Q) : k_X (jX12_isAnyStamped G l h0) h 5 [(0, vR (some x0)), (1, vI x1), (2, vI x2), (3, vI x3), (4, vI x4)] [] Q := by
  by_cases hc : 4 ≤ x4
  · skip
    obtain ⟨h', r, K, q⟩ := K1 hc
    exact ⟨h', r, j_iload dX12_isAnyStamped_5 rfl <| j_iconst (v := 4) dX12_isAnyStamped_7 (by decide) <| j_icmp_ge_t (tgt := 57) dX12_isAnyStamped_8 (by decide) hc (j_pick [3] rfl K), q⟩
  · skip
    obtain ⟨h', r, K, q⟩ := K2 hc
    exact ⟨h', r, j_iload dX12_isAnyStamped_5 rfl <| j_iconst (v := 4) dX12_isAnyStamped_7 (by decide) <| j_icmp_ge_f dX12_isAnyStamped_8 57 (by decide) hc K, q⟩
theorem bX12_isAnyStamped_11 {h0 h : k_H} {Q : k_H → k_R → Prop} {x0 : Nat} {x1 x2 x3 x4 : Int32} (K1 : 3 ≤ x4 → k_X (jX12_isAnyStamped G l h0) h 27 [(0, vR (some x0)), (1, vI x1), (2, vI x2), (3, vI x3), (4, vI x4)] [vI x1, vR (some x0)] Q) (K2 : ¬ (3 ≤ x4) → k_X (jX12_isAnyStamped G l h0) h 19 [(0, vR (some x0)), (1, vI x1), (2, vI x2), (3, vI x3), (4, vI x4)] [vI x1, vR (some x0)] Q) : k_X (jX12_isAnyStamped G l h0) h 11 [(0, vR (some x0)), (1, vI x1), (2, vI x2), (3, vI x3), (4, vI x4)] [] Q := by
  by_cases hc : 3 ≤ x4
  · skip
    obtain ⟨h', r, K, q⟩ := K1 hc
    exact ⟨h', r, j_aload_n dX12_isAnyStamped_11 rfl rfl <| j_iload_n dX12_isAnyStamped_12 rfl rfl <| j_iload dX12_isAnyStamped_13 rfl <| j_iconst (v := 3) dX12_isAnyStamped_15 (by decide) <| j_icmp_ge_t (tgt := 27) dX12_isAnyStamped_16 (by decide) hc K, q⟩
  · skip
    obtain ⟨h', r, K, q⟩ := K2 hc
    exact ⟨h', r, j_aload_n dX12_isAnyStamped_11 rfl rfl <| j_iload_n dX12_isAnyStamped_12 rfl rfl <| j_iload dX12_isAnyStamped_13 rfl <| j_iconst (v := 3) dX12_isAnyStamped_15 (by decide) <| j_icmp_ge_f dX12_isAnyStamped_16 27 (by decide) hc K, q⟩
theorem bX12_isAnyStamped_19 {h0 h : k_H} {Q : k_H → k_R → Prop} {x0 : Nat} {x1 x2 x3 x4 s1 : Int32} {s0 : Option Nat} {P : k_H → Int64 → Prop} (c : k_ctj (tX12_indexOf G l) [vI x4] h P) (K : ∀ h1 v, P h1 v → k_X (jX12_isAnyStamped G l h0) h1 24 [(0, vR (some x0)), (1, vI x1), (2, vI x2), (3, vI x3), (4, vI x4)] [vJ v, vI s1, vR s0] Q) : k_X (jX12_isAnyStamped G l h0) h 19 [(0, vR (some x0)), (1, vI x1), (2, vI x2), (3, vI x3), (4, vI x4)] [vI s1, vR s0] Q := by
  obtain ⟨h1, v, c, p⟩ := c
  obtain ⟨h', r, K, q⟩ := K h1 v p
  exact ⟨h', r, j_iload dX12_isAnyStamped_19 rfl <| j_callS (v := some (vJ v)) (as := [vI x4]) dX12_isAnyStamped_21 kc_X12_363 rfl rfl (by decide) (Nat.le_of_ble_eq_true rfl) c K, q⟩
theorem bX12_isAnyStamped_24 {h0 h : k_H} {Q : k_H → k_R → Prop} {x0 : Nat} {x1 x2 x3 x4 s1 : Int32} {s0 : Option Nat} {s2 : Int64} (K : k_X (jX12_isAnyStamped G l h0) h 31 [(0, vR (some x0)), (1, vI x1), (2, vI x2), (3, vI x3), (4, vI x4)] [vJ s2, vI s1, vR s0] Q) : k_X (jX12_isAnyStamped G l h0) h 24 [(0, vR (some x0)), (1, vI x1), (2, vI x2), (3, vI x3), (4, vI x4)] [vJ s2, vI s1, vR s0] Q := by
  obtain ⟨h', r, K, q⟩ := K
  exact ⟨h', r, j_goto (tgt := 31) dX12_isAnyStamped_24 (by decide) <| K, q⟩
theorem bX12_isAnyStamped_27 {h0 h : k_H} {Q : k_H → k_R → Prop} {x0 : Nat} {x1 x2 x3 x4 s1 : Int32} {s0 : Option Nat} {P : k_H → Int64 → Prop} (c : k_ctj (tX12_recordOf G l) [vI x2] h P) (K : ∀ h1 v, P h1 v → k_X (jX12_isAnyStamped G l h0) h1 31 [(0, vR (some x0)), (1, vI x1), (2, vI x2), (3, vI x3), (4, vI x4)] [vJ v, vI s1, vR s0] Q) : k_X (jX12_isAnyStamped G l h0) h 27 [(0, vR (some x0)), (1, vI x1), (2, vI x2), (3, vI x3), (4, vI x4)] [vI s1, vR s0] Q := by
  obtain ⟨h1, v, c, p⟩ := c
  obtain ⟨h', r, K, q⟩ := K h1 v p
  exact ⟨h', r, j_iload_n dX12_isAnyStamped_27 rfl rfl <| j_callS (v := some (vJ v)) (as := [vI x2]) dX12_isAnyStamped_28 kc_X12_366 rfl rfl (by decide) (Nat.le_of_ble_eq_true rfl) c K, q⟩
theorem bX12_isAnyStamped_31 {h0 h : k_H} {Q : k_H → k_R → Prop} {x0 s0 : Nat} {x1 x2 x3 x4 s1 : Int32} {s2 : Int64} (w : k_is h s0 15) {P : k_H → Prop} (c : k_ctv (tX12_sees G l) [vR (some s0), vI s1, vJ s2] h P) (K : ∀ h1, P h1 → k_X (jX12_isAnyStamped G l h0) h1 34 [(0, vR (some x0)), (1, vI x1), (2, vI x2), (3, vI x3), (4, vI x4)] [] Q) : k_X (jX12_isAnyStamped G l h0) h 31 [(0, vR (some x0)), (1, vI x1), (2, vI x2), (3, vI x3), (4, vI x4)] [vJ s2, vI s1, vR (some s0)] Q := by
  obtain ⟨h1, c, p⟩ := c
  obtain ⟨h', r, K, q⟩ := K h1 p
  exact ⟨h', r, j_callV (v := none) (as := [vI s1, vJ s2]) dX12_isAnyStamped_31 kc_X12_258 rfl rfl w (by decide) (Nat.le_of_ble_eq_true rfl) c K, q⟩
theorem bX12_isAnyStamped_34 {h0 h : k_H} {Q : k_H → k_R → Prop} {x0 : Nat} {x1 x2 x3 x4 : Int32} (K1 : ¬ (x3 = 0) → k_X (jX12_isAnyStamped G l h0) h 45 [(0, vR (some x0)), (1, vI x1), (2, vI x2), (4, vI x4)] [] Q) (K2 : x3 = 0 → k_X (jX12_isAnyStamped G l h0) h 38 [(0, vR (some x0)), (1, vI x1), (2, vI x2), (4, vI x4)] [] Q) : k_X (jX12_isAnyStamped G l h0) h 34 [(0, vR (some x0)), (1, vI x1), (2, vI x2), (3, vI x3), (4, vI x4)] [] Q := by
  by_cases hc : x3 = 0
  · skip
    obtain ⟨h', r, K, q⟩ := K2 hc
    exact ⟨h', r, j_iload_n dX12_isAnyStamped_34 rfl rfl <| j_if_ne_f dX12_isAnyStamped_35 45 (by decide) hc (j_pick [0, 1, 2, 4] rfl K), q⟩
  · skip
    obtain ⟨h', r, K, q⟩ := K1 hc
    exact ⟨h', r, j_iload_n dX12_isAnyStamped_34 rfl rfl <| j_if_ne_t (tgt := 45) dX12_isAnyStamped_35 (by decide) hc (j_pick [0, 1, 2, 4] rfl K), q⟩
theorem bX12_isAnyStamped_38 {h0 h : k_H} {Q : k_H → k_R → Prop} {x0 : Nat} {x1 x2 x4 f1_35 : Int32} {fs1 : List k_V} (o1 : h.1 x0 = some (k_o 15 fs1)) (g1_35 : fs1[35]? = some (vI f1_35)) (K1 : f1_35 = 0 → k_X (jX12_isAnyStamped G l h0) h 49 [(0, vR (some x0)), (1, vI x1), (2, vI x2), (4, vI x4)] [] Q) (K2 : ¬ (f1_35 = 0) → k_X (jX12_isAnyStamped G l h0) h 45 [(0, vR (some x0)), (1, vI x1), (2, vI x2), (4, vI x4)] [] Q) : k_X (jX12_isAnyStamped G l h0) h 38 [(0, vR (some x0)), (1, vI x1), (2, vI x2), (4, vI x4)] [] Q := by
  by_cases hc : f1_35 = 0
  · skip
    obtain ⟨h', r, K, q⟩ := K1 hc
    exact ⟨h', r, j_aload_n dX12_isAnyStamped_38 rfl rfl <| j_getf dX12_isAnyStamped_39 kf_X12_237 o1 g1_35 <| j_if_eq_t (tgt := 49) dX12_isAnyStamped_42 (by decide) hc K, q⟩
  · skip
    obtain ⟨h', r, K, q⟩ := K2 hc
    exact ⟨h', r, j_aload_n dX12_isAnyStamped_38 rfl rfl <| j_getf dX12_isAnyStamped_39 kf_X12_237 o1 g1_35 <| j_if_eq_f dX12_isAnyStamped_42 49 (by decide) hc K, q⟩
theorem bX12_isAnyStamped_45 {h0 h : k_H} {Q : k_H → k_R → Prop} {x0 : Nat} {x1 x2 x4 : Int32} (K : k_X (jX12_isAnyStamped G l h0) h 50 [(0, vR (some x0)), (1, vI x1), (2, vI x2), (4, vI x4)] [vI 1] Q) : k_X (jX12_isAnyStamped G l h0) h 45 [(0, vR (some x0)), (1, vI x1), (2, vI x2), (4, vI x4)] [] Q := by
  obtain ⟨h', r, K, q⟩ := K
  exact ⟨h', r, j_iconst (v := 1) dX12_isAnyStamped_45 (by decide) <| j_goto (tgt := 50) dX12_isAnyStamped_46 (by decide) <| K, q⟩
theorem bX12_isAnyStamped_49 {h0 h : k_H} {Q : k_H → k_R → Prop} {x0 : Nat} {x1 x2 x4 : Int32} (K : k_X (jX12_isAnyStamped G l h0) h 50 [(0, vR (some x0)), (1, vI x1), (2, vI x2), (4, vI x4)] [vI 0] Q) : k_X (jX12_isAnyStamped G l h0) h 49 [(0, vR (some x0)), (1, vI x1), (2, vI x2), (4, vI x4)] [] Q := by
  obtain ⟨h', r, K, q⟩ := K
  exact ⟨h', r, j_iconst (v := 0) dX12_isAnyStamped_49 (by decide) <| K, q⟩
theorem bX12_isAnyStamped_50 {h0 h : k_H} {Q : k_H → k_R → Prop} {x0 : Nat} {x1 x2 x4 s0 : Int32} (K : k_X (jX12_isAnyStamped G l h0) h 5 [(0, vR (some x0)), (1, vI x1), (2, vI x2), (3, vI s0), (4, vI (x4 + 1))] [] Q) : k_X (jX12_isAnyStamped G l h0) h 50 [(0, vR (some x0)), (1, vI x1), (2, vI x2), (4, vI x4)] [vI s0] Q := by
  obtain ⟨h', r, K, q⟩ := K
  exact ⟨h', r, j_istore_n dX12_isAnyStamped_50 rfl (by decide) rfl <| j_iinc (v := x4 + 1) dX12_isAnyStamped_51 rfl (by decide) rfl rfl <| j_goto (tgt := 5) dX12_isAnyStamped_54 (by decide) <| K, q⟩
theorem bX12_isAnyStamped_57 {h0 h : k_H} {Q : k_H → k_R → Prop} {x3 : Int32} (y1 : k_bl x3) (q : Q h (.inl (some (vI x3)))) : k_X (jX12_isAnyStamped G l h0) h 57 [(3, vI x3)] [] Q := by
  exact ⟨_, _, j_iload_n dX12_isAnyStamped_57 rfl rfl <| j_zret dX12_isAnyStamped_58 rfl y1, q⟩
theorem eX12_takesStamps {G : k_G} {l : Launch} (hfl : l.flags = flags0) {h : k_H} {Q : k_H → k_R → Prop} {x0 : Nat} {x1 : Int32} {x2 : Int32} (K : k_X (jX12_takesStamps G l h) h 0 [(0, vR (some x0)), (1, vI x1), (2, vI x2)] [] Q) : k_ct (tX12_takesStamps G l) [vR (some x0), vI x1, vI x2] h Q := by
  obtain ⟨h', r, K, q⟩ := K
  exact ⟨h', r, k_CtOf (by decide +kernel) (Nat.le_of_ble_eq_true rfl) K hfl, q⟩

theorem bX12_takesStamps_0 {h0 h : k_H} {Q : k_H → k_R → Prop} {x0 : Nat} {x1 x2 : Int32} (K : k_X (jX12_takesStamps G l h0) h 5 [(0, vR (some x0)), (1, vI x1), (2, vI x2), (3, vI 0), (4, vI 0)] [] Q) : k_X (jX12_takesStamps G l h0) h 0 [(0, vR (some x0)), (1, vI x1), (2, vI x2)] [] Q := by
  obtain ⟨h', r, K, q⟩ := K
  exact ⟨h', r, j_iconst (v := 0) dX12_takesStamps_0 (by decide) <| j_istore_n dX12_takesStamps_1 rfl (by decide) rfl <| j_iconst (v := 0) dX12_takesStamps_2 (by decide) <| j_istore dX12_takesStamps_3 (by decide) rfl <| K, q⟩
theorem bX12_takesStamps_5 {h0 h : k_H} {Q : k_H → k_R → Prop} {x0 f1_20 : Nat} {x1 x2 x3 x4 : Int32} {fs1 : List k_V} (o1 : h.1 x0 = some (k_o 15 fs1)) (g1_20 : fs1[20]? = some (vR (some f1_20))) {n2 : Nat} {w2 : Nat → Int32} (o2 : h.1 f1_20 = some (k_i n2 w2)) (y3 : vp_in x1 n2) (K1 : (w2 (x1).toNatClampNeg) ≤ x4 → k_X (jX12_takesStamps G l h0) h 156 [(0, vR (some x0)), (1, vI x1), (2, vI x2), (3, vI x3)] [] Q) (K2 : ¬ ((w2 (x1).toNatClampNeg) ≤ x4) → k_X (jX12_takesStamps G l h0) h 16 [(0, vR (some x0)), (1, vI x1), (2, vI x2), (3, vI x3), (4, vI x4)] [] Q) : k_X (jX12_takesStamps G l h0) h 5 [(0, vR (some x0)), (1, vI x1), (2, vI x2), (3, vI x3), (4, vI x4)] [] Q := by
  by_cases hc : (w2 (x1).toNatClampNeg) ≤ x4
  · skip
    obtain ⟨h', r, K, q⟩ := K1 hc
    exact ⟨h', r, j_iload dX12_takesStamps_5 rfl <| j_aload_n dX12_takesStamps_7 rfl rfl <| j_getf dX12_takesStamps_8 kf_X12_57 o1 g1_20 <| j_iload_n dX12_takesStamps_11 rfl rfl <| j_iald dX12_takesStamps_12 o2 y3 <| j_icmp_ge_t (tgt := 156) dX12_takesStamps_13 (by decide) hc (j_pick [0, 1, 2, 3] rfl K), q⟩
  · skip
    obtain ⟨h', r, K, q⟩ := K2 hc
    exact ⟨h', r, j_iload dX12_takesStamps_5 rfl <| j_aload_n dX12_takesStamps_7 rfl rfl <| j_getf dX12_takesStamps_8 kf_X12_57 o1 g1_20 <| j_iload_n dX12_takesStamps_11 rfl rfl <| j_iald dX12_takesStamps_12 o2 y3 <| j_icmp_ge_f dX12_takesStamps_13 156 (by decide) hc K, q⟩
theorem bX12_takesStamps_16 {h0 h : k_H} {Q : k_H → k_R → Prop} {x0 : Nat} {x1 x2 x3 x4 : Int32} (w : k_is h x0 15) {P : k_H → Int32 → Prop} (c : k_cti (tX12_changeAt G l) [vR (some x0), vI x1, vI x4] h P) (K : ∀ h1 v, P h1 v → k_X (jX12_takesStamps G l h0) h1 23 [(0, vR (some x0)), (1, vI x1), (2, vI x2), (3, vI x3), (4, vI x4)] [vI v] Q) : k_X (jX12_takesStamps G l h0) h 16 [(0, vR (some x0)), (1, vI x1), (2, vI x2), (3, vI x3), (4, vI x4)] [] Q := by
  obtain ⟨h1, v, c, p⟩ := c
  obtain ⟨h', r, K, q⟩ := K h1 v p
  exact ⟨h', r, j_aload_n dX12_takesStamps_16 rfl rfl <| j_iload_n dX12_takesStamps_17 rfl rfl <| j_iload dX12_takesStamps_18 rfl <| j_callV (v := some (vI v)) (as := [vI x1, vI x4]) dX12_takesStamps_20 kc_X12_240 rfl rfl w (by decide) (Nat.le_of_ble_eq_true rfl) c K, q⟩
theorem bX12_takesStamps_23 {h0 h : k_H} {Q : k_H → k_R → Prop} {x0 : Nat} {x1 x2 x3 x4 s0 : Int32} (w : k_is h x0 15) {P : k_H → Int32 → Prop} (c : k_cti (tX12_changeAt G l) [vR (some x0), vI x1, vI x3] h P) (K : ∀ h1 v, P h1 v → k_X (jX12_takesStamps G l h0) h1 31 [(0, vR (some x0)), (1, vI x1), (2, vI x2), (3, vI x3), (4, vI x4), (5, vI s0)] [vI v] Q) : k_X (jX12_takesStamps G l h0) h 23 [(0, vR (some x0)), (1, vI x1), (2, vI x2), (3, vI x3), (4, vI x4)] [vI s0] Q := by
  obtain ⟨h1, v, c, p⟩ := c
  obtain ⟨h', r, K, q⟩ := K h1 v p
  exact ⟨h', r, j_istore dX12_takesStamps_23 (by decide) rfl <| j_aload_n dX12_takesStamps_25 rfl rfl <| j_iload_n dX12_takesStamps_26 rfl rfl <| j_iload_n dX12_takesStamps_27 rfl rfl <| j_callV (v := some (vI v)) (as := [vI x1, vI x3]) dX12_takesStamps_28 kc_X12_240 rfl rfl w (by decide) (Nat.le_of_ble_eq_true rfl) c K, q⟩
theorem bX12_takesStamps_31 {h0 h : k_H} {Q : k_H → k_R → Prop} {x0 f1_21 : Nat} {x1 x2 x3 x4 x5 s0 : Int32} {fs1 : List k_V} (o1 : h.1 x0 = some (k_o 15 fs1)) (g1_21 : fs1[21]? = some (vR (some f1_21))) {n2 : Nat} {w2 : Nat → Int32} (o2 : h.1 f1_21 = some (k_i n2 w2)) (y3 : vp_in x5 n2) (K1 : ¬ ((w2 (x5).toNatClampNeg) = 8) → k_X (jX12_takesStamps G l h0) h 64 [(0, vR (some x0)), (1, vI x1), (2, vI x2), (3, vI x3), (4, vI x4), (5, vI x5), (6, vI s0)] [] Q) (K2 : (w2 (x5).toNatClampNeg) = 8 → k_X (jX12_takesStamps G l h0) h 45 [(0, vR (some x0)), (1, vI x1), (2, vI x2), (3, vI x3), (4, vI x4), (5, vI x5), (6, vI s0)] [] Q) : k_X (jX12_takesStamps G l h0) h 31 [(0, vR (some x0)), (1, vI x1), (2, vI x2), (3, vI x3), (4, vI x4), (5, vI x5)] [vI s0] Q := by
  by_cases hc : (w2 (x5).toNatClampNeg) = 8
  · skip
    obtain ⟨h', r, K, q⟩ := K2 hc
    exact ⟨h', r, j_istore dX12_takesStamps_31 (by decide) rfl <| j_aload_n dX12_takesStamps_33 rfl rfl <| j_getf dX12_takesStamps_34 kf_X12_60 o1 g1_21 <| j_iload dX12_takesStamps_37 rfl <| j_iald dX12_takesStamps_39 o2 y3 <| j_bipush (v := 8) dX12_takesStamps_40 (by decide) <| j_icmp_ne_f dX12_takesStamps_42 64 (by decide) hc K, q⟩
  · skip
    obtain ⟨h', r, K, q⟩ := K1 hc
    exact ⟨h', r, j_istore dX12_takesStamps_31 (by decide) rfl <| j_aload_n dX12_takesStamps_33 rfl rfl <| j_getf dX12_takesStamps_34 kf_X12_60 o1 g1_21 <| j_iload dX12_takesStamps_37 rfl <| j_iald dX12_takesStamps_39 o2 y3 <| j_bipush (v := 8) dX12_takesStamps_40 (by decide) <| j_icmp_ne_t (tgt := 64) dX12_takesStamps_42 (by decide) hc K, q⟩
theorem bX12_takesStamps_45 {h0 h : k_H} {Q : k_H → k_R → Prop} {x0 f1_22 : Nat} {x1 x2 x3 x4 x5 x6 : Int32} {fs1 : List k_V} (o1 : h.1 x0 = some (k_o 15 fs1)) (g1_22 : fs1[22]? = some (vR (some f1_22))) {n2 : Nat} {w2 : Nat → Int64} (o2 : h.1 f1_22 = some (k_j n2 w2)) (y3 : vp_in x5 n2) {P : k_H → Int32 → Prop} (c : k_cti (tX12_numberOf G l) [vJ (w2 (x5).toNatClampNeg), vI 2] h P) (K : ∀ h1 v, P h1 v → k_X (jX12_takesStamps G l h0) h1 56 [(0, vR (some x0)), (1, vI x1), (2, vI x2), (3, vI x3), (4, vI x4), (5, vI x5), (6, vI x6)] [vI v] Q) : k_X (jX12_takesStamps G l h0) h 45 [(0, vR (some x0)), (1, vI x1), (2, vI x2), (3, vI x3), (4, vI x4), (5, vI x5), (6, vI x6)] [] Q := by
  obtain ⟨h1, v, c, p⟩ := c
  obtain ⟨h', r, K, q⟩ := K h1 v p
  exact ⟨h', r, j_aload_n dX12_takesStamps_45 rfl rfl <| j_getf dX12_takesStamps_46 kf_X12_63 o1 g1_22 <| j_iload dX12_takesStamps_49 rfl <| j_lald dX12_takesStamps_51 o2 y3 <| j_iconst (v := 2) dX12_takesStamps_52 (by decide) <| j_callS (v := some (vI v)) (as := [vJ (w2 (x5).toNatClampNeg), vI 2]) dX12_takesStamps_53 kc_X12_295 rfl rfl (by decide) (Nat.le_of_ble_eq_true rfl) c K, q⟩
theorem bX12_takesStamps_56 {h0 h : k_H} {Q : k_H → k_R → Prop} {x0 : Nat} {x1 x2 x3 x4 x5 x6 s0 : Int32} (K1 : ¬ (s0 = x2) → k_X (jX12_takesStamps G l h0) h 64 [(0, vR (some x0)), (1, vI x1), (2, vI x2), (3, vI x3), (4, vI x4), (5, vI x5), (6, vI x6)] [] Q) (K2 : s0 = x2 → k_X (jX12_takesStamps G l h0) h 60 [(0, vR (some x0)), (1, vI x1), (2, vI x2), (3, vI x3), (4, vI x4), (5, vI x5), (6, vI x6)] [] Q) : k_X (jX12_takesStamps G l h0) h 56 [(0, vR (some x0)), (1, vI x1), (2, vI x2), (3, vI x3), (4, vI x4), (5, vI x5), (6, vI x6)] [vI s0] Q := by
  by_cases hc : s0 = x2
  · skip
    obtain ⟨h', r, K, q⟩ := K2 hc
    exact ⟨h', r, j_iload_n dX12_takesStamps_56 rfl rfl <| j_icmp_ne_f dX12_takesStamps_57 64 (by decide) hc K, q⟩
  · skip
    obtain ⟨h', r, K, q⟩ := K1 hc
    exact ⟨h', r, j_iload_n dX12_takesStamps_56 rfl rfl <| j_icmp_ne_t (tgt := 64) dX12_takesStamps_57 (by decide) hc K, q⟩
theorem bX12_takesStamps_60 {h0 h : k_H} {Q : k_H → k_R → Prop} {x0 : Nat} {x1 x2 x3 x4 x5 x6 : Int32} (K : k_X (jX12_takesStamps G l h0) h 65 [(0, vR (some x0)), (1, vI x1), (2, vI x2), (3, vI x3), (4, vI x4), (5, vI x5), (6, vI x6)] [vI 1] Q) : k_X (jX12_takesStamps G l h0) h 60 [(0, vR (some x0)), (1, vI x1), (2, vI x2), (3, vI x3), (4, vI x4), (5, vI x5), (6, vI x6)] [] Q := by
  obtain ⟨h', r, K, q⟩ := K
  exact ⟨h', r, j_iconst (v := 1) dX12_takesStamps_60 (by decide) <| j_goto (tgt := 65) dX12_takesStamps_61 (by decide) <| K, q⟩
theorem bX12_takesStamps_64 {h0 h : k_H} {Q : k_H → k_R → Prop} {x0 : Nat} {x1 x2 x3 x4 x5 x6 : Int32} (K : k_X (jX12_takesStamps G l h0) h 65 [(0, vR (some x0)), (1, vI x1), (2, vI x2), (3, vI x3), (4, vI x4), (5, vI x5), (6, vI x6)] [vI 0] Q) : k_X (jX12_takesStamps G l h0) h 64 [(0, vR (some x0)), (1, vI x1), (2, vI x2), (3, vI x3), (4, vI x4), (5, vI x5), (6, vI x6)] [] Q := by
  obtain ⟨h', r, K, q⟩ := K
  exact ⟨h', r, j_iconst (v := 0) dX12_takesStamps_64 (by decide) <| K, q⟩
theorem bX12_takesStamps_65 {h0 h : k_H} {Q : k_H → k_R → Prop} {x0 f1_21 : Nat} {x1 x2 x3 x4 x5 x6 s0 : Int32} {fs1 : List k_V} (o1 : h.1 x0 = some (k_o 15 fs1)) (g1_21 : fs1[21]? = some (vR (some f1_21))) {n2 : Nat} {w2 : Nat → Int32} (o2 : h.1 f1_21 = some (k_i n2 w2)) (y3 : vp_in x5 n2) (y4 : vp_in x6 n2) (K : k_X (jX12_takesStamps G l h0) (k_up h f1_21 (k_i n2 (va_up w2 (x6).toNatClampNeg (w2 (x5).toNatClampNeg)))) 81 [(0, vR (some x0)), (1, vI x1), (2, vI x2), (3, vI x3), (4, vI x4), (5, vI x5), (6, vI x6), (7, vI s0)] [] Q) : k_X (jX12_takesStamps G l h0) h 65 [(0, vR (some x0)), (1, vI x1), (2, vI x2), (3, vI x3), (4, vI x4), (5, vI x5), (6, vI x6)] [vI s0] Q := by
  obtain ⟨h', r, K, q⟩ := K
  exact ⟨h', r, j_istore dX12_takesStamps_65 (by decide) rfl <| j_aload_n dX12_takesStamps_67 rfl rfl <| j_getf dX12_takesStamps_68 kf_X12_60 o1 g1_21 <| j_iload dX12_takesStamps_71 rfl <| j_aload_n dX12_takesStamps_73 rfl rfl <| j_getf dX12_takesStamps_74 kf_X12_60 o1 g1_21 <| j_iload dX12_takesStamps_77 rfl <| j_iald dX12_takesStamps_79 o2 y3 <| j_iast dX12_takesStamps_80 o2 y4 <| K, q⟩
theorem bX12_takesStamps_81 {h0 h : k_H} {Q : k_H → k_R → Prop} {x0 f1_22 : Nat} {x1 x2 x3 x4 x5 x6 x7 : Int32} {fs1 : List k_V} (o1 : h.1 x0 = some (k_o 15 fs1)) (g1_22 : fs1[22]? = some (vR (some f1_22))) {n2 : Nat} {w2 : Nat → Int64} (o2 : h.1 f1_22 = some (k_j n2 w2)) (y3 : vp_in x5 n2) (y4 : vp_in x6 n2) (K : k_X (jX12_takesStamps G l h0) (k_up h f1_22 (k_j n2 (va_up w2 (x6).toNatClampNeg (w2 (x5).toNatClampNeg)))) 95 [(0, vR (some x0)), (1, vI x1), (2, vI x2), (3, vI x3), (4, vI x4), (5, vI x5), (6, vI x6), (7, vI x7)] [] Q) : k_X (jX12_takesStamps G l h0) h 81 [(0, vR (some x0)), (1, vI x1), (2, vI x2), (3, vI x3), (4, vI x4), (5, vI x5), (6, vI x6), (7, vI x7)] [] Q := by
  obtain ⟨h', r, K, q⟩ := K
  exact ⟨h', r, j_aload_n dX12_takesStamps_81 rfl rfl <| j_getf dX12_takesStamps_82 kf_X12_63 o1 g1_22 <| j_iload dX12_takesStamps_85 rfl <| j_aload_n dX12_takesStamps_87 rfl rfl <| j_getf dX12_takesStamps_88 kf_X12_63 o1 g1_22 <| j_iload dX12_takesStamps_91 rfl <| j_lald dX12_takesStamps_93 o2 y3 <| j_last dX12_takesStamps_94 o2 y4 <| K, q⟩
theorem bX12_takesStamps_95 {h0 h : k_H} {Q : k_H → k_R → Prop} {x0 f1_23 : Nat} {x1 x2 x3 x4 x5 x6 x7 : Int32} {fs1 : List k_V} (o1 : h.1 x0 = some (k_o 15 fs1)) (g1_23 : fs1[23]? = some (vR (some f1_23))) {n2 : Nat} {w2 : Nat → Int64} (o2 : h.1 f1_23 = some (k_j n2 w2)) (y3 : vp_in x5 n2) (y4 : vp_in x6 n2) (K : k_X (jX12_takesStamps G l h0) (k_up h f1_23 (k_j n2 (va_up w2 (x6).toNatClampNeg (w2 (x5).toNatClampNeg)))) 109 [(0, vR (some x0)), (1, vI x1), (2, vI x2), (3, vI x3), (4, vI x4), (5, vI x5), (6, vI x6), (7, vI x7)] [] Q) : k_X (jX12_takesStamps G l h0) h 95 [(0, vR (some x0)), (1, vI x1), (2, vI x2), (3, vI x3), (4, vI x4), (5, vI x5), (6, vI x6), (7, vI x7)] [] Q := by
  obtain ⟨h', r, K, q⟩ := K
  exact ⟨h', r, j_aload_n dX12_takesStamps_95 rfl rfl <| j_getf dX12_takesStamps_96 kf_X12_66 o1 g1_23 <| j_iload dX12_takesStamps_99 rfl <| j_aload_n dX12_takesStamps_101 rfl rfl <| j_getf dX12_takesStamps_102 kf_X12_66 o1 g1_23 <| j_iload dX12_takesStamps_105 rfl <| j_lald dX12_takesStamps_107 o2 y3 <| j_last dX12_takesStamps_108 o2 y4 <| K, q⟩
theorem bX12_takesStamps_109 {h0 h : k_H} {Q : k_H → k_R → Prop} {x0 f1_24 : Nat} {x1 x2 x3 x4 x5 x6 x7 : Int32} {fs1 : List k_V} (o1 : h.1 x0 = some (k_o 15 fs1)) (g1_24 : fs1[24]? = some (vR (some f1_24))) {n2 : Nat} {w2 : Nat → Int32} (o2 : h.1 f1_24 = some (k_i n2 w2)) (y3 : vp_in x5 n2) (y4 : vp_in x6 n2) (K : k_X (jX12_takesStamps G l h0) (k_up h f1_24 (k_i n2 (va_up w2 (x6).toNatClampNeg (w2 (x5).toNatClampNeg)))) 123 [(0, vR (some x0)), (1, vI x1), (2, vI x2), (3, vI x3), (4, vI x4), (5, vI x5), (6, vI x6), (7, vI x7)] [] Q) : k_X (jX12_takesStamps G l h0) h 109 [(0, vR (some x0)), (1, vI x1), (2, vI x2), (3, vI x3), (4, vI x4), (5, vI x5), (6, vI x6), (7, vI x7)] [] Q := by
  obtain ⟨h', r, K, q⟩ := K
  exact ⟨h', r, j_aload_n dX12_takesStamps_109 rfl rfl <| j_getf dX12_takesStamps_110 kf_X12_69 o1 g1_24 <| j_iload dX12_takesStamps_113 rfl <| j_aload_n dX12_takesStamps_115 rfl rfl <| j_getf dX12_takesStamps_116 kf_X12_69 o1 g1_24 <| j_iload dX12_takesStamps_119 rfl <| j_iald dX12_takesStamps_121 o2 y3 <| j_iast dX12_takesStamps_122 o2 y4 <| K, q⟩
theorem bX12_takesStamps_123 {h0 h : k_H} {Q : k_H → k_R → Prop} {x0 f1_25 : Nat} {x1 x2 x3 x4 x5 x6 x7 : Int32} {fs1 : List k_V} (o1 : h.1 x0 = some (k_o 15 fs1)) (g1_25 : fs1[25]? = some (vR (some f1_25))) {n2 : Nat} {w2 : Nat → Int32} (o2 : h.1 f1_25 = some (k_i n2 w2)) (y3 : vp_in x5 n2) (y4 : vp_in x6 n2) (K : k_X (jX12_takesStamps G l h0) (k_up h f1_25 (k_i n2 (va_up w2 (x6).toNatClampNeg (w2 (x5).toNatClampNeg)))) 137 [(0, vR (some x0)), (1, vI x1), (2, vI x2), (3, vI x3), (4, vI x4), (7, vI x7)] [] Q) : k_X (jX12_takesStamps G l h0) h 123 [(0, vR (some x0)), (1, vI x1), (2, vI x2), (3, vI x3), (4, vI x4), (5, vI x5), (6, vI x6), (7, vI x7)] [] Q := by
  obtain ⟨h', r, K, q⟩ := K
  exact ⟨h', r, j_aload_n dX12_takesStamps_123 rfl rfl <| j_getf dX12_takesStamps_124 kf_X12_72 o1 g1_25 <| j_iload dX12_takesStamps_127 rfl <| j_aload_n dX12_takesStamps_129 rfl rfl <| j_getf dX12_takesStamps_130 kf_X12_72 o1 g1_25 <| j_iload dX12_takesStamps_133 rfl <| j_iald dX12_takesStamps_135 o2 y3 <| j_iast dX12_takesStamps_136 o2 y4 <| (j_pick [0, 1, 2, 3, 4, 7] rfl K), q⟩
theorem bX12_takesStamps_137 {h0 h : k_H} {Q : k_H → k_R → Prop} {x0 : Nat} {x1 x2 x3 x4 x7 : Int32} (K1 : x7 = 0 → k_X (jX12_takesStamps G l h0) h 147 [(0, vR (some x0)), (1, vI x1), (2, vI x2), (4, vI x4)] [vI x3] Q) (K2 : ¬ (x7 = 0) → k_X (jX12_takesStamps G l h0) h 143 [(0, vR (some x0)), (1, vI x1), (2, vI x2), (4, vI x4)] [vI x3] Q) : k_X (jX12_takesStamps G l h0) h 137 [(0, vR (some x0)), (1, vI x1), (2, vI x2), (3, vI x3), (4, vI x4), (7, vI x7)] [] Q := by
  by_cases hc : x7 = 0
  · skip
    obtain ⟨h', r, K, q⟩ := K1 hc
    exact ⟨h', r, j_iload_n dX12_takesStamps_137 rfl rfl <| j_iload dX12_takesStamps_138 rfl <| j_if_eq_t (tgt := 147) dX12_takesStamps_140 (by decide) hc (j_pick [0, 1, 2, 4] rfl K), q⟩
  · skip
    obtain ⟨h', r, K, q⟩ := K2 hc
    exact ⟨h', r, j_iload_n dX12_takesStamps_137 rfl rfl <| j_iload dX12_takesStamps_138 rfl <| j_if_eq_f dX12_takesStamps_140 147 (by decide) hc (j_pick [0, 1, 2, 4] rfl K), q⟩
theorem bX12_takesStamps_143 {h0 h : k_H} {Q : k_H → k_R → Prop} {x0 : Nat} {x1 x2 x4 s0 : Int32} (K : k_X (jX12_takesStamps G l h0) h 148 [(0, vR (some x0)), (1, vI x1), (2, vI x2), (4, vI x4)] [vI 0, vI s0] Q) : k_X (jX12_takesStamps G l h0) h 143 [(0, vR (some x0)), (1, vI x1), (2, vI x2), (4, vI x4)] [vI s0] Q := by
  obtain ⟨h', r, K, q⟩ := K
  exact ⟨h', r, j_iconst (v := 0) dX12_takesStamps_143 (by decide) <| j_goto (tgt := 148) dX12_takesStamps_144 (by decide) <| K, q⟩
theorem bX12_takesStamps_147 {h0 h : k_H} {Q : k_H → k_R → Prop} {x0 : Nat} {x1 x2 x4 s0 : Int32} (K : k_X (jX12_takesStamps G l h0) h 148 [(0, vR (some x0)), (1, vI x1), (2, vI x2), (4, vI x4)] [vI 1, vI s0] Q) : k_X (jX12_takesStamps G l h0) h 147 [(0, vR (some x0)), (1, vI x1), (2, vI x2), (4, vI x4)] [vI s0] Q := by
  obtain ⟨h', r, K, q⟩ := K
  exact ⟨h', r, j_iconst (v := 1) dX12_takesStamps_147 (by decide) <| K, q⟩
theorem bX12_takesStamps_148 {h0 h : k_H} {Q : k_H → k_R → Prop} {x0 : Nat} {x1 x2 x4 s0 s1 : Int32} (K : k_X (jX12_takesStamps G l h0) h 5 [(0, vR (some x0)), (1, vI x1), (2, vI x2), (3, vI (s0 + s1)), (4, vI (x4 + 1))] [] Q) : k_X (jX12_takesStamps G l h0) h 148 [(0, vR (some x0)), (1, vI x1), (2, vI x2), (4, vI x4)] [vI s1, vI s0] Q := by
  obtain ⟨h', r, K, q⟩ := K
  exact ⟨h', r, j_iadd dX12_takesStamps_148 <| j_istore_n dX12_takesStamps_149 rfl (by decide) rfl <| j_iinc (v := x4 + 1) dX12_takesStamps_150 rfl (by decide) rfl rfl <| j_goto (tgt := 5) dX12_takesStamps_153 (by decide) <| K, q⟩
theorem bX12_takesStamps_156 {h0 h : k_H} {Q : k_H → k_R → Prop} {x0 f1_20 : Nat} {x1 x2 x3 : Int32} {fs1 : List k_V} (o1 : h.1 x0 = some (k_o 15 fs1)) (g1_20 : fs1[20]? = some (vR (some f1_20))) {n2 : Nat} {w2 : Nat → Int32} (o2 : h.1 f1_20 = some (k_i n2 w2)) (y3 : vp_in x1 n2) (K : k_X (jX12_takesStamps G l h0) (k_up h f1_20 (k_i n2 (va_up w2 (x1).toNatClampNeg x3))) 163 [(0, vR (some x0)), (1, vI x1), (2, vI x2)] [] Q) : k_X (jX12_takesStamps G l h0) h 156 [(0, vR (some x0)), (1, vI x1), (2, vI x2), (3, vI x3)] [] Q := by
  obtain ⟨h', r, K, q⟩ := K
  exact ⟨h', r, j_aload_n dX12_takesStamps_156 rfl rfl <| j_getf dX12_takesStamps_157 kf_X12_57 o1 g1_20 <| j_iload_n dX12_takesStamps_160 rfl rfl <| j_iload_n dX12_takesStamps_161 rfl rfl <| j_iast dX12_takesStamps_162 o2 y3 <| (j_pick [0, 1, 2] rfl K), q⟩
theorem bX12_takesStamps_163 {h0 h : k_H} {Q : k_H → k_R → Prop} {x0 : Nat} {x1 x2 : Int32} {P : k_H → Int64 → Prop} (c : k_ctj (tX12_firstOf G l) [vI (-4), vI 10000] h P) (K : ∀ h1 v, P h1 v → k_X (jX12_takesStamps G l h0) h1 172 [(0, vR (some x0)), (1, vI x1), (2, vI x2)] [vJ v, vR (some x0)] Q) : k_X (jX12_takesStamps G l h0) h 163 [(0, vR (some x0)), (1, vI x1), (2, vI x2)] [] Q := by
  obtain ⟨h1, v, c, p⟩ := c
  obtain ⟨h', r, K, q⟩ := K h1 v p
  exact ⟨h', r, j_aload_n dX12_takesStamps_163 rfl rfl <| j_bipush (v := (-4)) dX12_takesStamps_164 (by decide) <| j_sipush (v := 10000) dX12_takesStamps_166 (by decide) <| j_callS (v := some (vJ v)) (as := [vI (-4), vI 10000]) dX12_takesStamps_169 kc_X12_285 rfl rfl (by decide) (Nat.le_of_ble_eq_true rfl) c K, q⟩
theorem bX12_takesStamps_172 {h0 h : k_H} {Q : k_H → k_R → Prop} {x0 s0 : Nat} {x1 x2 : Int32} {s1 : Int64} (w : k_is h s0 15) {P : k_H → Int32 → Prop} (c : k_cti (tX12_placeOf G l) [vR (some s0), vJ s1] h P) (K : ∀ h1 v, P h1 v → k_X (jX12_takesStamps G l h0) h1 175 [(0, vR (some x0)), (1, vI x1), (2, vI x2)] [vI v] Q) : k_X (jX12_takesStamps G l h0) h 172 [(0, vR (some x0)), (1, vI x1), (2, vI x2)] [vJ s1, vR (some s0)] Q := by
  obtain ⟨h1, v, c, p⟩ := c
  obtain ⟨h', r, K, q⟩ := K h1 v p
  exact ⟨h', r, j_callV (v := some (vI v)) (as := [vJ s1]) dX12_takesStamps_172 kc_X12_164 rfl rfl w (by decide) (Nat.le_of_ble_eq_true rfl) c K, q⟩
theorem bX12_takesStamps_175 {h0 h : k_H} {Q : k_H → k_R → Prop} {x0 : Nat} {x1 x2 s0 : Int32} (K : k_X (jX12_takesStamps G l h0) h 177 [(0, vR (some x0)), (1, vI x1), (2, vI x2), (4, vI s0)] [] Q) : k_X (jX12_takesStamps G l h0) h 175 [(0, vR (some x0)), (1, vI x1), (2, vI x2)] [vI s0] Q := by
  obtain ⟨h', r, K, q⟩ := K
  exact ⟨h', r, j_istore dX12_takesStamps_175 (by decide) rfl <| K, q⟩
theorem bX12_takesStamps_177 {h0 h : k_H} {Q : k_H → k_R → Prop} {x0 : Nat} {x1 x2 x4 f1_2 : Int32} {fs1 : List k_V} (o1 : h.1 x0 = some (k_o 15 fs1)) (g1_2 : fs1[2]? = some (vI f1_2)) (K1 : f1_2 ≤ x4 → k_X (jX12_takesStamps G l h0) h 262 [] [] Q) (K2 : ¬ (f1_2 ≤ x4) → k_X (jX12_takesStamps G l h0) h 186 [(0, vR (some x0)), (1, vI x1), (2, vI x2), (4, vI x4)] [] Q) : k_X (jX12_takesStamps G l h0) h 177 [(0, vR (some x0)), (1, vI x1), (2, vI x2), (4, vI x4)] [] Q := by
  by_cases hc : f1_2 ≤ x4
  · skip
    obtain ⟨h', r, K, q⟩ := K1 hc
    exact ⟨h', r, j_iload dX12_takesStamps_177 rfl <| j_aload_n dX12_takesStamps_179 rfl rfl <| j_getf dX12_takesStamps_180 kf_X12_161 o1 g1_2 <| j_icmp_ge_t (tgt := 262) dX12_takesStamps_183 (by decide) hc (j_pick [] rfl K), q⟩
  · skip
    obtain ⟨h', r, K, q⟩ := K2 hc
    exact ⟨h', r, j_iload dX12_takesStamps_177 rfl <| j_aload_n dX12_takesStamps_179 rfl rfl <| j_getf dX12_takesStamps_180 kf_X12_161 o1 g1_2 <| j_icmp_ge_f dX12_takesStamps_183 262 (by decide) hc K, q⟩
theorem bX12_takesStamps_186 {h0 h : k_H} {Q : k_H → k_R → Prop} {x0 f1_3 : Nat} {x1 x2 x4 : Int32} {fs1 : List k_V} (o1 : h.1 x0 = some (k_o 15 fs1)) (g1_3 : fs1[3]? = some (vR (some f1_3))) {n2 : Nat} {w2 : Nat → Int64} (o2 : h.1 f1_3 = some (k_j n2 w2)) (y3 : vp_in x4 n2) {P : k_H → Int64 → Prop} (c : k_ctj (tX12_lastOf G l) [vI (-4), vI 10000] h P) (K : ∀ h1 v, P h1 v → k_X (jX12_takesStamps G l h0) h1 201 [(0, vR (some x0)), (1, vI x1), (2, vI x2), (4, vI x4)] [vJ v, vJ (w2 (x4).toNatClampNeg)] Q) : k_X (jX12_takesStamps G l h0) h 186 [(0, vR (some x0)), (1, vI x1), (2, vI x2), (4, vI x4)] [] Q := by
  obtain ⟨h1, v, c, p⟩ := c
  obtain ⟨h', r, K, q⟩ := K h1 v p
  exact ⟨h', r, j_aload_n dX12_takesStamps_186 rfl rfl <| j_getf dX12_takesStamps_187 kf_X12_9 o1 g1_3 <| j_iload dX12_takesStamps_190 rfl <| j_lald dX12_takesStamps_192 o2 y3 <| j_bipush (v := (-4)) dX12_takesStamps_193 (by decide) <| j_sipush (v := 10000) dX12_takesStamps_195 (by decide) <| j_callS (v := some (vJ v)) (as := [vI (-4), vI 10000]) dX12_takesStamps_198 kc_X12_289 rfl rfl (by decide) (Nat.le_of_ble_eq_true rfl) c K, q⟩
theorem bX12_takesStamps_201 {h0 h : k_H} {Q : k_H → k_R → Prop} {x0 : Nat} {x1 x2 x4 : Int32} {s0 s1 : Int64} (K1 : s1 < s0 → k_X (jX12_takesStamps G l h0) h 262 [] [] Q) (K2 : ¬ (s1 < s0) → k_X (jX12_takesStamps G l h0) h 205 [(0, vR (some x0)), (1, vI x1), (2, vI x2), (4, vI x4)] [] Q) : k_X (jX12_takesStamps G l h0) h 201 [(0, vR (some x0)), (1, vI x1), (2, vI x2), (4, vI x4)] [vJ s1, vJ s0] Q := by
  by_cases hc : s1 < s0
  · skip
    obtain ⟨h', r, K, q⟩ := K1 hc
    exact ⟨h', r, j_lcmp dX12_takesStamps_201 <| j_if_gt_t (tgt := 262) dX12_takesStamps_202 (by decide) ((lg_cmp_gt _ _).mpr hc) (j_pick [] rfl K), q⟩
  · skip
    obtain ⟨h', r, K, q⟩ := K2 hc
    exact ⟨h', r, j_lcmp dX12_takesStamps_201 <| j_if_gt_f dX12_takesStamps_202 262 (by decide) ((not_congr (lg_cmp_gt _ _)).mpr hc) K, q⟩
theorem bX12_takesStamps_205 {h0 h : k_H} {Q : k_H → k_R → Prop} {x0 f1_3 : Nat} {x1 x2 x4 : Int32} {fs1 : List k_V} (o1 : h.1 x0 = some (k_o 15 fs1)) (g1_3 : fs1[3]? = some (vR (some f1_3))) {n2 : Nat} {w2 : Nat → Int64} (o2 : h.1 f1_3 = some (k_j n2 w2)) (y3 : vp_in x4 n2) {P : k_H → Int32 → Prop} (c : k_cti (tX12_numberOf G l) [vJ (w2 (x4).toNatClampNeg), vI 2] h P) (K : ∀ h1 v, P h1 v → k_X (jX12_takesStamps G l h0) h1 216 [(0, vR (some x0)), (1, vI x1), (2, vI x2), (4, vI x4)] [vI v] Q) : k_X (jX12_takesStamps G l h0) h 205 [(0, vR (some x0)), (1, vI x1), (2, vI x2), (4, vI x4)] [] Q := by
  obtain ⟨h1, v, c, p⟩ := c
  obtain ⟨h', r, K, q⟩ := K h1 v p
  exact ⟨h', r, j_aload_n dX12_takesStamps_205 rfl rfl <| j_getf dX12_takesStamps_206 kf_X12_9 o1 g1_3 <| j_iload dX12_takesStamps_209 rfl <| j_lald dX12_takesStamps_211 o2 y3 <| j_iconst (v := 2) dX12_takesStamps_212 (by decide) <| j_callS (v := some (vI v)) (as := [vJ (w2 (x4).toNatClampNeg), vI 2]) dX12_takesStamps_213 kc_X12_295 rfl rfl (by decide) (Nat.le_of_ble_eq_true rfl) c K, q⟩
theorem bX12_takesStamps_216 {h0 h : k_H} {Q : k_H → k_R → Prop} {x0 : Nat} {x1 x2 x4 s0 : Int32} (K1 : ¬ (s0 = x2) → k_X (jX12_takesStamps G l h0) h 256 [(0, vR (some x0)), (1, vI x1), (2, vI x2), (4, vI x4)] [] Q) (K2 : s0 = x2 → k_X (jX12_takesStamps G l h0) h 220 [(0, vR (some x0)), (1, vI x1), (2, vI x2), (4, vI x4)] [] Q) : k_X (jX12_takesStamps G l h0) h 216 [(0, vR (some x0)), (1, vI x1), (2, vI x2), (4, vI x4)] [vI s0] Q := by
  by_cases hc : s0 = x2
  · skip
    obtain ⟨h', r, K, q⟩ := K2 hc
    exact ⟨h', r, j_iload_n dX12_takesStamps_216 rfl rfl <| j_icmp_ne_f dX12_takesStamps_217 256 (by decide) hc K, q⟩
  · skip
    obtain ⟨h', r, K, q⟩ := K1 hc
    exact ⟨h', r, j_iload_n dX12_takesStamps_216 rfl rfl <| j_icmp_ne_t (tgt := 256) dX12_takesStamps_217 (by decide) hc K, q⟩
theorem bX12_takesStamps_220 {h0 h : k_H} {Q : k_H → k_R → Prop} {x0 f1_3 : Nat} {x1 x2 x4 : Int32} {fs1 : List k_V} (o1 : h.1 x0 = some (k_o 15 fs1)) (g1_3 : fs1[3]? = some (vR (some f1_3))) {n2 : Nat} {w2 : Nat → Int64} (o2 : h.1 f1_3 = some (k_j n2 w2)) (y3 : vp_in x4 n2) {P : k_H → Int32 → Prop} (c : k_cti (tX12_isSeen G l) [vR (some x0), vI x1, vJ (w2 (x4).toNatClampNeg)] h P) (K : ∀ h1 v, P h1 v → k_X (jX12_takesStamps G l h0) h1 232 [(0, vR (some x0)), (1, vI x1), (2, vI x2), (4, vI x4)] [vI v] Q) : k_X (jX12_takesStamps G l h0) h 220 [(0, vR (some x0)), (1, vI x1), (2, vI x2), (4, vI x4)] [] Q := by
  obtain ⟨h1, v, c, p⟩ := c
  obtain ⟨h', r, K, q⟩ := K h1 v p
  exact ⟨h', r, j_aload_n dX12_takesStamps_220 rfl rfl <| j_iload_n dX12_takesStamps_221 rfl rfl <| j_aload_n dX12_takesStamps_222 rfl rfl <| j_getf dX12_takesStamps_223 kf_X12_9 o1 g1_3 <| j_iload dX12_takesStamps_226 rfl <| j_lald dX12_takesStamps_228 o2 y3 <| j_callV (v := some (vI v)) (as := [vI x1, vJ (w2 (x4).toNatClampNeg)]) dX12_takesStamps_229 kc_X12_292 rfl rfl (k_is_o o1) (by decide) (Nat.le_of_ble_eq_true rfl) c K, q⟩
theorem bX12_takesStamps_232 {h0 h : k_H} {Q : k_H → k_R → Prop} {x0 : Nat} {x1 x2 x4 s0 : Int32} (K1 : s0 = 0 → k_X (jX12_takesStamps G l h0) h 256 [(0, vR (some x0)), (1, vI x1), (2, vI x2), (4, vI x4)] [] Q) (K2 : ¬ (s0 = 0) → k_X (jX12_takesStamps G l h0) h 235 [(0, vR (some x0)), (1, vI x1), (2, vI x2), (4, vI x4)] [] Q) : k_X (jX12_takesStamps G l h0) h 232 [(0, vR (some x0)), (1, vI x1), (2, vI x2), (4, vI x4)] [vI s0] Q := by
  by_cases hc : s0 = 0
  · skip
    obtain ⟨h', r, K, q⟩ := K1 hc
    exact ⟨h', r, j_if_eq_t (tgt := 256) dX12_takesStamps_232 (by decide) hc K, q⟩
  · skip
    obtain ⟨h', r, K, q⟩ := K2 hc
    exact ⟨h', r, j_if_eq_f dX12_takesStamps_232 256 (by decide) hc K, q⟩
theorem bX12_takesStamps_235 {h0 h : k_H} {Q : k_H → k_R → Prop} {x0 f1_3 : Nat} {x1 x2 x4 : Int32} {fs1 : List k_V} (o1 : h.1 x0 = some (k_o 15 fs1)) (g1_3 : fs1[3]? = some (vR (some f1_3))) {n2 : Nat} {w2 : Nat → Int64} (o2 : h.1 f1_3 = some (k_j n2 w2)) (y3 : vp_in x4 n2) {P : k_H → Prop} (c : k_ctv (tX12_keeps G l) [vR (some x0), vI x1, vI 1, vJ (w2 (x4).toNatClampNeg), vJ (w2 (x4).toNatClampNeg), vI 0] h P) (K : ∀ h1, P h1 → k_X (jX12_takesStamps G l h0) h1 256 [(0, vR (some x0)), (1, vI x1), (2, vI x2), (4, vI x4)] [] Q) : k_X (jX12_takesStamps G l h0) h 235 [(0, vR (some x0)), (1, vI x1), (2, vI x2), (4, vI x4)] [] Q := by
  obtain ⟨h1, c, p⟩ := c
  obtain ⟨h', r, K, q⟩ := K h1 p
  exact ⟨h', r, j_aload_n dX12_takesStamps_235 rfl rfl <| j_iload_n dX12_takesStamps_236 rfl rfl <| j_iconst (v := 1) dX12_takesStamps_237 (by decide) <| j_aload_n dX12_takesStamps_238 rfl rfl <| j_getf dX12_takesStamps_239 kf_X12_9 o1 g1_3 <| j_iload dX12_takesStamps_242 rfl <| j_lald dX12_takesStamps_244 o2 y3 <| j_aload_n dX12_takesStamps_245 rfl rfl <| j_getf dX12_takesStamps_246 kf_X12_9 o1 g1_3 <| j_iload dX12_takesStamps_249 rfl <| j_lald dX12_takesStamps_251 o2 y3 <| j_iconst (v := 0) dX12_takesStamps_252 (by decide) <| j_callV (v := none) (as := [vI x1, vI 1, vJ (w2 (x4).toNatClampNeg), vJ (w2 (x4).toNatClampNeg), vI 0]) dX12_takesStamps_253 kc_X12_304 rfl rfl (k_is_o o1) (by decide) (Nat.le_of_ble_eq_true rfl) c K, q⟩
theorem bX12_takesStamps_256 {h0 h : k_H} {Q : k_H → k_R → Prop} {x0 : Nat} {x1 x2 x4 : Int32} (K : k_X (jX12_takesStamps G l h0) h 177 [(0, vR (some x0)), (1, vI x1), (2, vI x2), (4, vI (x4 + 1))] [] Q) : k_X (jX12_takesStamps G l h0) h 256 [(0, vR (some x0)), (1, vI x1), (2, vI x2), (4, vI x4)] [] Q := by
  obtain ⟨h', r, K, q⟩ := K
  exact ⟨h', r, j_iinc (v := x4 + 1) dX12_takesStamps_256 rfl (by decide) rfl rfl <| j_goto (tgt := 177) dX12_takesStamps_259 (by decide) <| K, q⟩
theorem bX12_takesStamps_262 {h0 h : k_H} {Q : k_H → k_R → Prop} (q : Q h (.inl none)) : k_X (jX12_takesStamps G l h0) h 262 [] [] Q := by
  exact ⟨_, _, j_vret dX12_takesStamps_262 rfl, q⟩
theorem eX12_keepsKey {G : k_G} {l : Launch} (hfl : l.flags = flags0) {h : k_H} {Q : k_H → k_R → Prop} {x0 : Nat} {x1 : Int32} {x2 : Int32} {x3 : Int64} {x5 : Int32} (K : k_X (jX12_keepsKey G l h) h 0 [(0, vR (some x0)), (1, vI x1), (2, vI x2), (3, vJ x3), (5, vI x5)] [] Q) : k_ct (tX12_keepsKey G l) [vR (some x0), vI x1, vI x2, vJ x3, vI x5] h Q := by
  obtain ⟨h', r, K, q⟩ := K
  exact ⟨h', r, k_CtOf (by decide +kernel) (Nat.le_of_ble_eq_true rfl) K hfl, q⟩

theorem bX12_keepsKey_0 {h0 h : k_H} {Q : k_H → k_R → Prop} {x0 : Nat} {x1 x2 x5 : Int32} {x3 : Int64} (w : k_is h x0 15) {P : k_H → Prop} (c : k_ctv (tX12_keeps G l) [vR (some x0), vI x1, vI x2, vJ x3, vJ x3, vI x5] h P) (K : ∀ h1, P h1 → k_X (jX12_keepsKey G l h0) h1 10 [] [] Q) : k_X (jX12_keepsKey G l h0) h 0 [(0, vR (some x0)), (1, vI x1), (2, vI x2), (3, vJ x3), (5, vI x5)] [] Q := by
  obtain ⟨h1, c, p⟩ := c
  obtain ⟨h', r, K, q⟩ := K h1 p
  exact ⟨h', r, j_aload_n dX12_keepsKey_0 rfl rfl <| j_iload_n dX12_keepsKey_1 rfl rfl <| j_iload_n dX12_keepsKey_2 rfl rfl <| j_lload_n dX12_keepsKey_3 rfl rfl <| j_lload_n dX12_keepsKey_4 rfl rfl <| j_iload dX12_keepsKey_5 rfl <| j_callV (v := none) (as := [vI x1, vI x2, vJ x3, vJ x3, vI x5]) dX12_keepsKey_7 kc_X12_304 rfl rfl w (by decide) (Nat.le_of_ble_eq_true rfl) c (j_pick [] rfl K), q⟩
theorem bX12_keepsKey_10 {h0 h : k_H} {Q : k_H → k_R → Prop} (q : Q h (.inl none)) : k_X (jX12_keepsKey G l h0) h 10 [] [] Q := by
  exact ⟨_, _, j_vret dX12_keepsKey_10 rfl, q⟩
theorem eX12_writes {G : k_G} {l : Launch} (hfl : l.flags = flags0) {h : k_H} {Q : k_H → k_R → Prop} {x0 : Nat} {x1 : Int32} {x2 : Int32} {x3 : Int32} {x4 : Int32} (K : k_X (jX12_writes G l h) h 0 [(0, vR (some x0)), (1, vI x1), (2, vI x2), (3, vI x3), (4, vI x4)] [] Q) : k_ct (tX12_writes G l) [vR (some x0), vI x1, vI x2, vI x3, vI x4] h Q := by
  obtain ⟨h', r, K, q⟩ := K
  exact ⟨h', r, k_CtOf (by decide +kernel) (Nat.le_of_ble_eq_true rfl) K hfl, q⟩

theorem bX12_writes_0 {h0 h : k_H} {Q : k_H → k_R → Prop} {x0 : Nat} {x1 x2 x3 x4 : Int32} (w : k_is h x0 15) {P : k_H → Int32 → Prop} (c : k_cti (tX12_goesOnFor G l) [vR (some x0), vI x1, vI 0, vI x2] h P) (K : ∀ h1 v, P h1 v → k_X (jX12_writes G l h0) h1 7 [(0, vR (some x0)), (1, vI x1), (2, vI x2), (3, vI x3), (4, vI x4)] [vI v] Q) : k_X (jX12_writes G l h0) h 0 [(0, vR (some x0)), (1, vI x1), (2, vI x2), (3, vI x3), (4, vI x4)] [] Q := by
  obtain ⟨h1, v, c, p⟩ := c
  obtain ⟨h', r, K, q⟩ := K h1 v p
  exact ⟨h', r, j_aload_n dX12_writes_0 rfl rfl <| j_iload_n dX12_writes_1 rfl rfl <| j_iconst (v := 0) dX12_writes_2 (by decide) <| j_iload_n dX12_writes_3 rfl rfl <| j_callV (v := some (vI v)) (as := [vI x1, vI 0, vI x2]) dX12_writes_4 kc_X12_369 rfl rfl w (by decide) (Nat.le_of_ble_eq_true rfl) c K, q⟩
theorem bX12_writes_7 {h0 h : k_H} {Q : k_H → k_R → Prop} {x0 : Nat} {x1 x2 x3 x4 s0 : Int32} (w : k_is h x0 15) {P : k_H → Int32 → Prop} (c : k_cti (tX12_goesOnFor G l) [vR (some x0), vI x1, vI 1, vI x2] h P) (K : ∀ h1 v, P h1 v → k_X (jX12_writes G l h0) h1 16 [(0, vR (some x0)), (1, vI x1), (2, vI x2), (3, vI x3), (4, vI x4), (5, vI s0)] [vI v] Q) : k_X (jX12_writes G l h0) h 7 [(0, vR (some x0)), (1, vI x1), (2, vI x2), (3, vI x3), (4, vI x4)] [vI s0] Q := by
  obtain ⟨h1, v, c, p⟩ := c
  obtain ⟨h', r, K, q⟩ := K h1 v p
  exact ⟨h', r, j_istore dX12_writes_7 (by decide) rfl <| j_aload_n dX12_writes_9 rfl rfl <| j_iload_n dX12_writes_10 rfl rfl <| j_iconst (v := 1) dX12_writes_11 (by decide) <| j_iload_n dX12_writes_12 rfl rfl <| j_callV (v := some (vI v)) (as := [vI x1, vI 1, vI x2]) dX12_writes_13 kc_X12_369 rfl rfl w (by decide) (Nat.le_of_ble_eq_true rfl) c K, q⟩
theorem bX12_writes_16 {h0 h : k_H} {Q : k_H → k_R → Prop} {x0 : Nat} {x1 x2 x3 x4 x5 s0 : Int32} (w : k_is h x0 15) {P : k_H → Int32 → Prop} (c : k_cti (tX12_goesOnFor G l) [vR (some x0), vI x1, vI 2, vI x2] h P) (K : ∀ h1 v, P h1 v → k_X (jX12_writes G l h0) h1 25 [(0, vR (some x0)), (1, vI x1), (2, vI x2), (3, vI x3), (4, vI x4), (5, vI x5), (6, vI s0)] [vI v] Q) : k_X (jX12_writes G l h0) h 16 [(0, vR (some x0)), (1, vI x1), (2, vI x2), (3, vI x3), (4, vI x4), (5, vI x5)] [vI s0] Q := by
  obtain ⟨h1, v, c, p⟩ := c
  obtain ⟨h', r, K, q⟩ := K h1 v p
  exact ⟨h', r, j_istore dX12_writes_16 (by decide) rfl <| j_aload_n dX12_writes_18 rfl rfl <| j_iload_n dX12_writes_19 rfl rfl <| j_iconst (v := 2) dX12_writes_20 (by decide) <| j_iload_n dX12_writes_21 rfl rfl <| j_callV (v := some (vI v)) (as := [vI x1, vI 2, vI x2]) dX12_writes_22 kc_X12_369 rfl rfl w (by decide) (Nat.le_of_ble_eq_true rfl) c K, q⟩
theorem bX12_writes_25 {h0 h : k_H} {Q : k_H → k_R → Prop} {x0 : Nat} {x1 x2 x3 x4 x5 x6 s0 : Int32} {P : k_H → Int64 → Prop} (c : k_ctj (tX12_recordOf G l) [vI x2] h P) (K : ∀ h1 v, P h1 v → k_X (jX12_writes G l h0) h1 33 [(0, vR (some x0)), (1, vI x1), (2, vI x2), (3, vI x3), (4, vI x4), (5, vI x5), (6, vI x6), (7, vI s0)] [vJ v, vI x1, vR (some x0)] Q) : k_X (jX12_writes G l h0) h 25 [(0, vR (some x0)), (1, vI x1), (2, vI x2), (3, vI x3), (4, vI x4), (5, vI x5), (6, vI x6)] [vI s0] Q := by
  obtain ⟨h1, v, c, p⟩ := c
  obtain ⟨h', r, K, q⟩ := K h1 v p
  exact ⟨h', r, j_istore dX12_writes_25 (by decide) rfl <| j_aload_n dX12_writes_27 rfl rfl <| j_iload_n dX12_writes_28 rfl rfl <| j_iload_n dX12_writes_29 rfl rfl <| j_callS (v := some (vJ v)) (as := [vI x2]) dX12_writes_30 kc_X12_366 rfl rfl (by decide) (Nat.le_of_ble_eq_true rfl) c K, q⟩
theorem bX12_writes_33 {h0 h : k_H} {Q : k_H → k_R → Prop} {x0 s0 : Nat} {x1 x2 x3 x4 x5 x6 x7 s1 : Int32} {s2 : Int64} (w : k_is h s0 15) {P : k_H → Prop} (c : k_ctv (tX12_reads G l) [vR (some s0), vI s1, vJ s2, vI 1] h P) (K : ∀ h1, P h1 → k_X (jX12_writes G l h0) h1 37 [(0, vR (some x0)), (1, vI x1), (2, vI x2), (3, vI x3), (4, vI x4), (5, vI x5), (6, vI x6), (7, vI x7)] [] Q) : k_X (jX12_writes G l h0) h 33 [(0, vR (some x0)), (1, vI x1), (2, vI x2), (3, vI x3), (4, vI x4), (5, vI x5), (6, vI x6), (7, vI x7)] [vJ s2, vI s1, vR (some s0)] Q := by
  obtain ⟨h1, c, p⟩ := c
  obtain ⟨h', r, K, q⟩ := K h1 p
  exact ⟨h', r, j_iconst (v := 1) dX12_writes_33 (by decide) <| j_callV (v := none) (as := [vI s1, vJ s2, vI 1]) dX12_writes_34 kc_X12_278 rfl rfl w (by decide) (Nat.le_of_ble_eq_true rfl) c K, q⟩
theorem bX12_writes_37 {h0 h : k_H} {Q : k_H → k_R → Prop} {x0 : Nat} {x1 x2 x3 x4 x5 x6 x7 f1_33 f1_34 : Int32} {fs1 : List k_V} (o1 : h.1 x0 = some (k_o 15 fs1)) (g1_33 : fs1[33]? = some (vI f1_33)) (g1_34 : fs1[34]? = some (vI f1_34)) (K1 : ¬ (x3 = 0) → k_X (jX12_writes G l h0) h 61 [(0, vR (some x0)), (1, vI x1), (2, vI x2), (3, vI x3), (4, vI x4), (5, vI x5), (6, vI x6), (7, vI x7), (8, vI f1_33), (9, vI f1_34)] [] Q) (K2 : x3 = 0 → k_X (jX12_writes G l h0) h 53 [(0, vR (some x0)), (1, vI x1), (2, vI x2), (3, vI x3), (4, vI x4), (5, vI x5), (6, vI x6), (7, vI x7), (8, vI f1_33), (9, vI f1_34)] [] Q) : k_X (jX12_writes G l h0) h 37 [(0, vR (some x0)), (1, vI x1), (2, vI x2), (3, vI x3), (4, vI x4), (5, vI x5), (6, vI x6), (7, vI x7)] [] Q := by
  by_cases hc : x3 = 0
  · skip
    obtain ⟨h', r, K, q⟩ := K2 hc
    exact ⟨h', r, j_aload_n dX12_writes_37 rfl rfl <| j_getf dX12_writes_38 kf_X12_230 o1 g1_33 <| j_istore dX12_writes_41 (by decide) rfl <| j_aload_n dX12_writes_43 rfl rfl <| j_getf dX12_writes_44 kf_X12_234 o1 g1_34 <| j_istore dX12_writes_47 (by decide) rfl <| j_iload_n dX12_writes_49 rfl rfl <| j_if_ne_f dX12_writes_50 61 (by decide) hc K, q⟩
  · skip
    obtain ⟨h', r, K, q⟩ := K1 hc
    exact ⟨h', r, j_aload_n dX12_writes_37 rfl rfl <| j_getf dX12_writes_38 kf_X12_230 o1 g1_33 <| j_istore dX12_writes_41 (by decide) rfl <| j_aload_n dX12_writes_43 rfl rfl <| j_getf dX12_writes_44 kf_X12_234 o1 g1_34 <| j_istore dX12_writes_47 (by decide) rfl <| j_iload_n dX12_writes_49 rfl rfl <| j_if_ne_t (tgt := 61) dX12_writes_50 (by decide) hc K, q⟩
theorem bX12_writes_53 {h0 h : k_H} {Q : k_H → k_R → Prop} {x0 : Nat} {x1 x2 x3 x4 x5 x6 x7 x8 x9 : Int32} (K1 : ¬ (x8 = 0) → k_X (jX12_writes G l h0) h 61 [(0, vR (some x0)), (1, vI x1), (2, vI x2), (3, vI x3), (4, vI x4), (5, vI x5), (6, vI x6), (7, vI x7), (8, vI x8), (9, vI x9)] [] Q) (K2 : x8 = 0 → k_X (jX12_writes G l h0) h 58 [] [] Q) : k_X (jX12_writes G l h0) h 53 [(0, vR (some x0)), (1, vI x1), (2, vI x2), (3, vI x3), (4, vI x4), (5, vI x5), (6, vI x6), (7, vI x7), (8, vI x8), (9, vI x9)] [] Q := by
  by_cases hc : x8 = 0
  · skip
    obtain ⟨h', r, K, q⟩ := K2 hc
    exact ⟨h', r, j_iload dX12_writes_53 rfl <| j_if_ne_f dX12_writes_55 61 (by decide) hc (j_pick [] rfl K), q⟩
  · skip
    obtain ⟨h', r, K, q⟩ := K1 hc
    exact ⟨h', r, j_iload dX12_writes_53 rfl <| j_if_ne_t (tgt := 61) dX12_writes_55 (by decide) hc K, q⟩
theorem bX12_writes_58 {h0 h : k_H} {Q : k_H → k_R → Prop} (q : Q h (.inl (some (vI (-2147483648))))) : k_X (jX12_writes G l h0) h 58 [] [] Q := by
  exact ⟨_, _, j_ldc (v := (-2147483648)) dX12_writes_58 ki_X12_87 <| j_iret dX12_writes_60 rfl, q⟩
theorem bX12_writes_61 {h0 h : k_H} {Q : k_H → k_R → Prop} {x0 : Nat} {x1 x2 x3 x4 x5 x6 x7 x8 x9 : Int32} (K1 : x5 = 0 → k_X (jX12_writes G l h0) h 86 [(0, vR (some x0)), (1, vI x1), (2, vI x2), (3, vI x3), (4, vI x4), (5, vI x5), (6, vI x6), (7, vI x7), (8, vI x8), (9, vI x9)] [] Q) (K2 : ¬ (x5 = 0) → k_X (jX12_writes G l h0) h 66 [(0, vR (some x0)), (1, vI x1), (2, vI x2), (3, vI x3), (4, vI x4), (5, vI x5), (6, vI x6), (7, vI x7), (8, vI x8), (9, vI x9)] [] Q) : k_X (jX12_writes G l h0) h 61 [(0, vR (some x0)), (1, vI x1), (2, vI x2), (3, vI x3), (4, vI x4), (5, vI x5), (6, vI x6), (7, vI x7), (8, vI x8), (9, vI x9)] [] Q := by
  by_cases hc : x5 = 0
  · skip
    obtain ⟨h', r, K, q⟩ := K1 hc
    exact ⟨h', r, j_iload dX12_writes_61 rfl <| j_if_eq_t (tgt := 86) dX12_writes_63 (by decide) hc K, q⟩
  · skip
    obtain ⟨h', r, K, q⟩ := K2 hc
    exact ⟨h', r, j_iload dX12_writes_61 rfl <| j_if_eq_f dX12_writes_63 86 (by decide) hc K, q⟩
theorem bX12_writes_66 {h0 h : k_H} {Q : k_H → k_R → Prop} {x0 : Nat} {x1 x2 x3 x4 x5 x6 x7 x8 x9 : Int32} (K1 : x8 = 0 → k_X (jX12_writes G l h0) h 86 [(0, vR (some x0)), (1, vI x1), (2, vI x2), (3, vI x3), (4, vI x4), (5, vI x5), (6, vI x6), (7, vI x7), (8, vI x8), (9, vI x9)] [] Q) (K2 : ¬ (x8 = 0) → k_X (jX12_writes G l h0) h 71 [(0, vR (some x0)), (1, vI x1), (2, vI x2), (3, vI x3), (4, vI x4), (5, vI x5), (6, vI x6), (7, vI x7), (8, vI x8), (9, vI x9)] [] Q) : k_X (jX12_writes G l h0) h 66 [(0, vR (some x0)), (1, vI x1), (2, vI x2), (3, vI x3), (4, vI x4), (5, vI x5), (6, vI x6), (7, vI x7), (8, vI x8), (9, vI x9)] [] Q := by
  by_cases hc : x8 = 0
  · skip
    obtain ⟨h', r, K, q⟩ := K1 hc
    exact ⟨h', r, j_iload dX12_writes_66 rfl <| j_if_eq_t (tgt := 86) dX12_writes_68 (by decide) hc K, q⟩
  · skip
    obtain ⟨h', r, K, q⟩ := K2 hc
    exact ⟨h', r, j_iload dX12_writes_66 rfl <| j_if_eq_f dX12_writes_68 86 (by decide) hc K, q⟩
theorem bX12_writes_71 {h0 h : k_H} {Q : k_H → k_R → Prop} {x0 : Nat} {x1 x2 x3 x4 x5 x6 x7 x8 x9 : Int32} {P : k_H → Int64 → Prop} (c : k_ctj (tX12_codeOf G l) [vI (-2), vI x9, vI x2] h P) (K : ∀ h1 v, P h1 v → k_X (jX12_writes G l h0) h1 82 [(0, vR (some x0)), (1, vI x1), (2, vI x2), (3, vI x3), (4, vI x4), (5, vI x5), (6, vI x6), (7, vI x7), (8, vI x8), (9, vI x9)] [vJ v, vI 1, vI x1, vR (some x0)] Q) : k_X (jX12_writes G l h0) h 71 [(0, vR (some x0)), (1, vI x1), (2, vI x2), (3, vI x3), (4, vI x4), (5, vI x5), (6, vI x6), (7, vI x7), (8, vI x8), (9, vI x9)] [] Q := by
  obtain ⟨h1, v, c, p⟩ := c
  obtain ⟨h', r, K, q⟩ := K h1 v p
  exact ⟨h', r, j_aload_n dX12_writes_71 rfl rfl <| j_iload_n dX12_writes_72 rfl rfl <| j_iconst (v := 1) dX12_writes_73 (by decide) <| j_bipush (v := (-2)) dX12_writes_74 (by decide) <| j_iload dX12_writes_76 rfl <| j_iload_n dX12_writes_78 rfl rfl <| j_callS (v := some (vJ v)) (as := [vI (-2), vI x9, vI x2]) dX12_writes_79 kc_X12_155 rfl rfl (by decide) (Nat.le_of_ble_eq_true rfl) c K, q⟩
theorem bX12_writes_82 {h0 h : k_H} {Q : k_H → k_R → Prop} {x0 s0 : Nat} {x1 x2 x3 x4 x5 x6 x7 x8 x9 s1 s2 : Int32} {s3 : Int64} (w : k_is h s0 15) {P : k_H → Prop} (c : k_ctv (tX12_keepsKey G l) [vR (some s0), vI s1, vI s2, vJ s3, vI 0] h P) (K : ∀ h1, P h1 → k_X (jX12_writes G l h0) h1 86 [(0, vR (some x0)), (1, vI x1), (2, vI x2), (3, vI x3), (4, vI x4), (5, vI x5), (6, vI x6), (7, vI x7), (8, vI x8), (9, vI x9)] [] Q) : k_X (jX12_writes G l h0) h 82 [(0, vR (some x0)), (1, vI x1), (2, vI x2), (3, vI x3), (4, vI x4), (5, vI x5), (6, vI x6), (7, vI x7), (8, vI x8), (9, vI x9)] [vJ s3, vI s2, vI s1, vR (some s0)] Q := by
  obtain ⟨h1, c, p⟩ := c
  obtain ⟨h', r, K, q⟩ := K h1 p
  exact ⟨h', r, j_iconst (v := 0) dX12_writes_82 (by decide) <| j_callV (v := none) (as := [vI s1, vI s2, vJ s3, vI 0]) dX12_writes_83 kc_X12_372 rfl rfl w (by decide) (Nat.le_of_ble_eq_true rfl) c K, q⟩
theorem bX12_writes_86 {h0 h : k_H} {Q : k_H → k_R → Prop} {x0 : Nat} {x1 x2 x3 x4 x5 x6 x7 x8 x9 : Int32} (K1 : x5 = 0 → k_X (jX12_writes G l h0) h 110 [(0, vR (some x0)), (1, vI x1), (2, vI x2), (3, vI x3), (4, vI x4), (6, vI x6), (7, vI x7), (8, vI x8), (9, vI x9)] [] Q) (K2 : ¬ (x5 = 0) → k_X (jX12_writes G l h0) h 91 [(0, vR (some x0)), (1, vI x1), (2, vI x2), (3, vI x3), (4, vI x4), (6, vI x6), (7, vI x7), (8, vI x8), (9, vI x9)] [] Q) : k_X (jX12_writes G l h0) h 86 [(0, vR (some x0)), (1, vI x1), (2, vI x2), (3, vI x3), (4, vI x4), (5, vI x5), (6, vI x6), (7, vI x7), (8, vI x8), (9, vI x9)] [] Q := by
  by_cases hc : x5 = 0
  · skip
    obtain ⟨h', r, K, q⟩ := K1 hc
    exact ⟨h', r, j_iload dX12_writes_86 rfl <| j_if_eq_t (tgt := 110) dX12_writes_88 (by decide) hc (j_pick [0, 1, 2, 3, 4, 6, 7, 8, 9] rfl K), q⟩
  · skip
    obtain ⟨h', r, K, q⟩ := K2 hc
    exact ⟨h', r, j_iload dX12_writes_86 rfl <| j_if_eq_f dX12_writes_88 110 (by decide) hc (j_pick [0, 1, 2, 3, 4, 6, 7, 8, 9] rfl K), q⟩
theorem bX12_writes_91 {h0 h : k_H} {Q : k_H → k_R → Prop} {x0 : Nat} {x1 x2 x3 x4 x6 x7 x8 x9 : Int32} (K1 : x3 = 0 → k_X (jX12_writes G l h0) h 110 [(0, vR (some x0)), (1, vI x1), (2, vI x2), (3, vI x3), (4, vI x4), (6, vI x6), (7, vI x7), (8, vI x8), (9, vI x9)] [] Q) (K2 : ¬ (x3 = 0) → k_X (jX12_writes G l h0) h 95 [(0, vR (some x0)), (1, vI x1), (2, vI x2), (3, vI x3), (4, vI x4), (6, vI x6), (7, vI x7), (8, vI x8), (9, vI x9)] [] Q) : k_X (jX12_writes G l h0) h 91 [(0, vR (some x0)), (1, vI x1), (2, vI x2), (3, vI x3), (4, vI x4), (6, vI x6), (7, vI x7), (8, vI x8), (9, vI x9)] [] Q := by
  by_cases hc : x3 = 0
  · skip
    obtain ⟨h', r, K, q⟩ := K1 hc
    exact ⟨h', r, j_iload_n dX12_writes_91 rfl rfl <| j_if_eq_t (tgt := 110) dX12_writes_92 (by decide) hc K, q⟩
  · skip
    obtain ⟨h', r, K, q⟩ := K2 hc
    exact ⟨h', r, j_iload_n dX12_writes_91 rfl rfl <| j_if_eq_f dX12_writes_92 110 (by decide) hc K, q⟩
theorem bX12_writes_95 {h0 h : k_H} {Q : k_H → k_R → Prop} {x0 : Nat} {x1 x2 x3 x4 x6 x7 x8 x9 : Int32} {P : k_H → Int64 → Prop} (c : k_ctj (tX12_codeOf G l) [vI (-2), vI x4, vI x2] h P) (K : ∀ h1 v, P h1 v → k_X (jX12_writes G l h0) h1 106 [(0, vR (some x0)), (1, vI x1), (2, vI x2), (3, vI x3), (4, vI x4), (6, vI x6), (7, vI x7), (8, vI x8), (9, vI x9)] [vJ v, vI 0, vI x1, vR (some x0)] Q) : k_X (jX12_writes G l h0) h 95 [(0, vR (some x0)), (1, vI x1), (2, vI x2), (3, vI x3), (4, vI x4), (6, vI x6), (7, vI x7), (8, vI x8), (9, vI x9)] [] Q := by
  obtain ⟨h1, v, c, p⟩ := c
  obtain ⟨h', r, K, q⟩ := K h1 v p
  exact ⟨h', r, j_aload_n dX12_writes_95 rfl rfl <| j_iload_n dX12_writes_96 rfl rfl <| j_iconst (v := 0) dX12_writes_97 (by decide) <| j_bipush (v := (-2)) dX12_writes_98 (by decide) <| j_iload dX12_writes_100 rfl <| j_iload_n dX12_writes_102 rfl rfl <| j_callS (v := some (vJ v)) (as := [vI (-2), vI x4, vI x2]) dX12_writes_103 kc_X12_155 rfl rfl (by decide) (Nat.le_of_ble_eq_true rfl) c K, q⟩
theorem bX12_writes_106 {h0 h : k_H} {Q : k_H → k_R → Prop} {x0 s0 : Nat} {x1 x2 x3 x4 x6 x7 x8 x9 s1 s2 : Int32} {s3 : Int64} (w : k_is h s0 15) {P : k_H → Prop} (c : k_ctv (tX12_keepsKey G l) [vR (some s0), vI s1, vI s2, vJ s3, vI 0] h P) (K : ∀ h1, P h1 → k_X (jX12_writes G l h0) h1 110 [(0, vR (some x0)), (1, vI x1), (2, vI x2), (3, vI x3), (4, vI x4), (6, vI x6), (7, vI x7), (8, vI x8), (9, vI x9)] [] Q) : k_X (jX12_writes G l h0) h 106 [(0, vR (some x0)), (1, vI x1), (2, vI x2), (3, vI x3), (4, vI x4), (6, vI x6), (7, vI x7), (8, vI x8), (9, vI x9)] [vJ s3, vI s2, vI s1, vR (some s0)] Q := by
  obtain ⟨h1, c, p⟩ := c
  obtain ⟨h', r, K, q⟩ := K h1 p
  exact ⟨h', r, j_iconst (v := 0) dX12_writes_106 (by decide) <| j_callV (v := none) (as := [vI s1, vI s2, vJ s3, vI 0]) dX12_writes_107 kc_X12_372 rfl rfl w (by decide) (Nat.le_of_ble_eq_true rfl) c K, q⟩
theorem bX12_writes_110 {h0 h : k_H} {Q : k_H → k_R → Prop} {x0 : Nat} {x1 x2 x3 x4 x6 x7 x8 x9 : Int32} (K1 : x6 = 0 → k_X (jX12_writes G l h0) h 137 [(0, vR (some x0)), (1, vI x1), (2, vI x2), (3, vI x3), (4, vI x4), (6, vI x6), (7, vI x7), (8, vI x8), (9, vI x9)] [] Q) (K2 : ¬ (x6 = 0) → k_X (jX12_writes G l h0) h 115 [(0, vR (some x0)), (1, vI x1), (2, vI x2), (3, vI x3), (4, vI x4), (6, vI x6), (7, vI x7), (8, vI x8), (9, vI x9)] [] Q) : k_X (jX12_writes G l h0) h 110 [(0, vR (some x0)), (1, vI x1), (2, vI x2), (3, vI x3), (4, vI x4), (6, vI x6), (7, vI x7), (8, vI x8), (9, vI x9)] [] Q := by
  by_cases hc : x6 = 0
  · skip
    obtain ⟨h', r, K, q⟩ := K1 hc
    exact ⟨h', r, j_iload dX12_writes_110 rfl <| j_if_eq_t (tgt := 137) dX12_writes_112 (by decide) hc K, q⟩
  · skip
    obtain ⟨h', r, K, q⟩ := K2 hc
    exact ⟨h', r, j_iload dX12_writes_110 rfl <| j_if_eq_f dX12_writes_112 137 (by decide) hc K, q⟩
theorem bX12_writes_115 {h0 h : k_H} {Q : k_H → k_R → Prop} {x0 : Nat} {x1 x2 x3 x4 x6 x7 x8 x9 : Int32} (K1 : x8 = 0 → k_X (jX12_writes G l h0) h 137 [(0, vR (some x0)), (1, vI x1), (2, vI x2), (3, vI x3), (4, vI x4), (6, vI x6), (7, vI x7), (8, vI x8), (9, vI x9)] [] Q) (K2 : ¬ (x8 = 0) → k_X (jX12_writes G l h0) h 120 [(0, vR (some x0)), (1, vI x1), (2, vI x2), (3, vI x3), (4, vI x4), (6, vI x6), (7, vI x7), (8, vI x8), (9, vI x9)] [] Q) : k_X (jX12_writes G l h0) h 115 [(0, vR (some x0)), (1, vI x1), (2, vI x2), (3, vI x3), (4, vI x4), (6, vI x6), (7, vI x7), (8, vI x8), (9, vI x9)] [] Q := by
  by_cases hc : x8 = 0
  · skip
    obtain ⟨h', r, K, q⟩ := K1 hc
    exact ⟨h', r, j_iload dX12_writes_115 rfl <| j_if_eq_t (tgt := 137) dX12_writes_117 (by decide) hc K, q⟩
  · skip
    obtain ⟨h', r, K, q⟩ := K2 hc
    exact ⟨h', r, j_iload dX12_writes_115 rfl <| j_if_eq_f dX12_writes_117 137 (by decide) hc K, q⟩
theorem bX12_writes_120 {h0 h : k_H} {Q : k_H → k_R → Prop} {x0 : Nat} {x1 x2 x3 x4 x6 x7 x8 x9 : Int32} {P : k_H → Int64 → Prop} (c : k_ctj (tX12_codeOf G l) [vI (-3), vI x9, vI 10000] h P) (K : ∀ h1 v, P h1 v → k_X (jX12_writes G l h0) h1 133 [(0, vR (some x0)), (1, vI x1), (2, vI x2), (3, vI x3), (4, vI x4), (6, vI x6), (7, vI x7), (8, vI x8), (9, vI x9)] [vJ v, vI 2, vI x1, vR (some x0)] Q) : k_X (jX12_writes G l h0) h 120 [(0, vR (some x0)), (1, vI x1), (2, vI x2), (3, vI x3), (4, vI x4), (6, vI x6), (7, vI x7), (8, vI x8), (9, vI x9)] [] Q := by
  obtain ⟨h1, v, c, p⟩ := c
  obtain ⟨h', r, K, q⟩ := K h1 v p
  exact ⟨h', r, j_aload_n dX12_writes_120 rfl rfl <| j_iload_n dX12_writes_121 rfl rfl <| j_iconst (v := 2) dX12_writes_122 (by decide) <| j_bipush (v := (-3)) dX12_writes_123 (by decide) <| j_iload dX12_writes_125 rfl <| j_sipush (v := 10000) dX12_writes_127 (by decide) <| j_callS (v := some (vJ v)) (as := [vI (-3), vI x9, vI 10000]) dX12_writes_130 kc_X12_155 rfl rfl (by decide) (Nat.le_of_ble_eq_true rfl) c K, q⟩
theorem bX12_writes_133 {h0 h : k_H} {Q : k_H → k_R → Prop} {x0 s0 : Nat} {x1 x2 x3 x4 x6 x7 x8 x9 s1 s2 : Int32} {s3 : Int64} (w : k_is h s0 15) {P : k_H → Prop} (c : k_ctv (tX12_keepsKey G l) [vR (some s0), vI s1, vI s2, vJ s3, vI (-1)] h P) (K : ∀ h1, P h1 → k_X (jX12_writes G l h0) h1 137 [(0, vR (some x0)), (1, vI x1), (2, vI x2), (3, vI x3), (4, vI x4), (6, vI x6), (7, vI x7), (8, vI x8), (9, vI x9)] [] Q) : k_X (jX12_writes G l h0) h 133 [(0, vR (some x0)), (1, vI x1), (2, vI x2), (3, vI x3), (4, vI x4), (6, vI x6), (7, vI x7), (8, vI x8), (9, vI x9)] [vJ s3, vI s2, vI s1, vR (some s0)] Q := by
  obtain ⟨h1, c, p⟩ := c
  obtain ⟨h', r, K, q⟩ := K h1 p
  exact ⟨h', r, j_iconst (v := (-1)) dX12_writes_133 (by decide) <| j_callV (v := none) (as := [vI s1, vI s2, vJ s3, vI (-1)]) dX12_writes_134 kc_X12_372 rfl rfl w (by decide) (Nat.le_of_ble_eq_true rfl) c K, q⟩
theorem bX12_writes_137 {h0 h : k_H} {Q : k_H → k_R → Prop} {x0 : Nat} {x1 x2 x3 x4 x6 x7 x8 x9 : Int32} (K1 : x6 = 0 → k_X (jX12_writes G l h0) h 163 [(0, vR (some x0)), (1, vI x1), (2, vI x2), (3, vI x3), (4, vI x4), (7, vI x7), (8, vI x8), (9, vI x9)] [] Q) (K2 : ¬ (x6 = 0) → k_X (jX12_writes G l h0) h 142 [(0, vR (some x0)), (1, vI x1), (2, vI x2), (3, vI x3), (4, vI x4), (7, vI x7), (8, vI x8), (9, vI x9)] [] Q) : k_X (jX12_writes G l h0) h 137 [(0, vR (some x0)), (1, vI x1), (2, vI x2), (3, vI x3), (4, vI x4), (6, vI x6), (7, vI x7), (8, vI x8), (9, vI x9)] [] Q := by
  by_cases hc : x6 = 0
  · skip
    obtain ⟨h', r, K, q⟩ := K1 hc
    exact ⟨h', r, j_iload dX12_writes_137 rfl <| j_if_eq_t (tgt := 163) dX12_writes_139 (by decide) hc (j_pick [0, 1, 2, 3, 4, 6, 7, 8] rfl K), q⟩
  · skip
    obtain ⟨h', r, K, q⟩ := K2 hc
    exact ⟨h', r, j_iload dX12_writes_137 rfl <| j_if_eq_f dX12_writes_139 163 (by decide) hc (j_pick [0, 1, 2, 3, 4, 6, 7, 8] rfl K), q⟩
theorem bX12_writes_142 {h0 h : k_H} {Q : k_H → k_R → Prop} {x0 : Nat} {x1 x2 x3 x4 x7 x8 x9 : Int32} (K1 : x3 = 0 → k_X (jX12_writes G l h0) h 163 [(0, vR (some x0)), (1, vI x1), (2, vI x2), (3, vI x3), (4, vI x4), (7, vI x7), (8, vI x8), (9, vI x9)] [] Q) (K2 : ¬ (x3 = 0) → k_X (jX12_writes G l h0) h 146 [(0, vR (some x0)), (1, vI x1), (2, vI x2), (3, vI x3), (4, vI x4), (7, vI x7), (8, vI x8), (9, vI x9)] [] Q) : k_X (jX12_writes G l h0) h 142 [(0, vR (some x0)), (1, vI x1), (2, vI x2), (3, vI x3), (4, vI x4), (7, vI x7), (8, vI x8), (9, vI x9)] [] Q := by
  by_cases hc : x3 = 0
  · skip
    obtain ⟨h', r, K, q⟩ := K1 hc
    exact ⟨h', r, j_iload_n dX12_writes_142 rfl rfl <| j_if_eq_t (tgt := 163) dX12_writes_143 (by decide) hc K, q⟩
  · skip
    obtain ⟨h', r, K, q⟩ := K2 hc
    exact ⟨h', r, j_iload_n dX12_writes_142 rfl rfl <| j_if_eq_f dX12_writes_143 163 (by decide) hc K, q⟩
theorem bX12_writes_146 {h0 h : k_H} {Q : k_H → k_R → Prop} {x0 : Nat} {x1 x2 x3 x4 x7 x8 x9 : Int32} {P : k_H → Int64 → Prop} (c : k_ctj (tX12_codeOf G l) [vI (-3), vI x4, vI 10000] h P) (K : ∀ h1 v, P h1 v → k_X (jX12_writes G l h0) h1 159 [(0, vR (some x0)), (1, vI x1), (2, vI x2), (3, vI x3), (4, vI x4), (7, vI x7), (8, vI x8), (9, vI x9)] [vJ v, vI 2, vI x1, vR (some x0)] Q) : k_X (jX12_writes G l h0) h 146 [(0, vR (some x0)), (1, vI x1), (2, vI x2), (3, vI x3), (4, vI x4), (7, vI x7), (8, vI x8), (9, vI x9)] [] Q := by
  obtain ⟨h1, v, c, p⟩ := c
  obtain ⟨h', r, K, q⟩ := K h1 v p
  exact ⟨h', r, j_aload_n dX12_writes_146 rfl rfl <| j_iload_n dX12_writes_147 rfl rfl <| j_iconst (v := 2) dX12_writes_148 (by decide) <| j_bipush (v := (-3)) dX12_writes_149 (by decide) <| j_iload dX12_writes_151 rfl <| j_sipush (v := 10000) dX12_writes_153 (by decide) <| j_callS (v := some (vJ v)) (as := [vI (-3), vI x4, vI 10000]) dX12_writes_156 kc_X12_155 rfl rfl (by decide) (Nat.le_of_ble_eq_true rfl) c K, q⟩
theorem bX12_writes_159 {h0 h : k_H} {Q : k_H → k_R → Prop} {x0 s0 : Nat} {x1 x2 x3 x4 x7 x8 x9 s1 s2 : Int32} {s3 : Int64} (w : k_is h s0 15) {P : k_H → Prop} (c : k_ctv (tX12_keepsKey G l) [vR (some s0), vI s1, vI s2, vJ s3, vI 1] h P) (K : ∀ h1, P h1 → k_X (jX12_writes G l h0) h1 163 [(0, vR (some x0)), (1, vI x1), (2, vI x2), (3, vI x3), (4, vI x4), (7, vI x7), (8, vI x8), (9, vI x9)] [] Q) : k_X (jX12_writes G l h0) h 159 [(0, vR (some x0)), (1, vI x1), (2, vI x2), (3, vI x3), (4, vI x4), (7, vI x7), (8, vI x8), (9, vI x9)] [vJ s3, vI s2, vI s1, vR (some s0)] Q := by
  obtain ⟨h1, c, p⟩ := c
  obtain ⟨h', r, K, q⟩ := K h1 p
  exact ⟨h', r, j_iconst (v := 1) dX12_writes_159 (by decide) <| j_callV (v := none) (as := [vI s1, vI s2, vJ s3, vI 1]) dX12_writes_160 kc_X12_372 rfl rfl w (by decide) (Nat.le_of_ble_eq_true rfl) c K, q⟩
theorem bX12_writes_163 {h0 h : k_H} {Q : k_H → k_R → Prop} {x0 : Nat} {x1 x2 x3 x4 x7 x8 x9 : Int32} (K1 : x7 = 0 → k_X (jX12_writes G l h0) h 179 [(0, vR (some x0)), (1, vI x1), (2, vI x2), (3, vI x3), (4, vI x4), (7, vI x7), (8, vI x8), (9, vI x9)] [] Q) (K2 : ¬ (x7 = 0) → k_X (jX12_writes G l h0) h 168 [(0, vR (some x0)), (1, vI x1), (2, vI x2), (3, vI x3), (4, vI x4), (7, vI x7), (8, vI x8), (9, vI x9)] [] Q) : k_X (jX12_writes G l h0) h 163 [(0, vR (some x0)), (1, vI x1), (2, vI x2), (3, vI x3), (4, vI x4), (7, vI x7), (8, vI x8), (9, vI x9)] [] Q := by
  by_cases hc : x7 = 0
  · skip
    obtain ⟨h', r, K, q⟩ := K1 hc
    exact ⟨h', r, j_iload dX12_writes_163 rfl <| j_if_eq_t (tgt := 179) dX12_writes_165 (by decide) hc K, q⟩
  · skip
    obtain ⟨h', r, K, q⟩ := K2 hc
    exact ⟨h', r, j_iload dX12_writes_163 rfl <| j_if_eq_f dX12_writes_165 179 (by decide) hc K, q⟩
theorem bX12_writes_168 {h0 h : k_H} {Q : k_H → k_R → Prop} {x0 : Nat} {x1 x2 x3 x4 x7 x8 x9 : Int32} (K1 : x8 = 0 → k_X (jX12_writes G l h0) h 179 [(0, vR (some x0)), (1, vI x1), (2, vI x2), (3, vI x3), (4, vI x4), (7, vI x7), (8, vI x8), (9, vI x9)] [] Q) (K2 : ¬ (x8 = 0) → k_X (jX12_writes G l h0) h 173 [(0, vR (some x0)), (1, vI x1), (2, vI x2), (3, vI x3), (4, vI x4), (7, vI x7), (8, vI x8), (9, vI x9)] [] Q) : k_X (jX12_writes G l h0) h 168 [(0, vR (some x0)), (1, vI x1), (2, vI x2), (3, vI x3), (4, vI x4), (7, vI x7), (8, vI x8), (9, vI x9)] [] Q := by
  by_cases hc : x8 = 0
  · skip
    obtain ⟨h', r, K, q⟩ := K1 hc
    exact ⟨h', r, j_iload dX12_writes_168 rfl <| j_if_eq_t (tgt := 179) dX12_writes_170 (by decide) hc K, q⟩
  · skip
    obtain ⟨h', r, K, q⟩ := K2 hc
    exact ⟨h', r, j_iload dX12_writes_168 rfl <| j_if_eq_f dX12_writes_170 179 (by decide) hc K, q⟩
theorem bX12_writes_173 {h0 h : k_H} {Q : k_H → k_R → Prop} {x0 : Nat} {x1 x2 x3 x4 x7 x8 x9 : Int32} (w : k_is h x0 15) {P : k_H → Prop} (c : k_ctv (tX12_takesStamps G l) [vR (some x0), vI x1, vI x2] h P) (K : ∀ h1, P h1 → k_X (jX12_writes G l h0) h1 179 [(0, vR (some x0)), (1, vI x1), (2, vI x2), (3, vI x3), (4, vI x4), (7, vI x7), (8, vI x8), (9, vI x9)] [] Q) : k_X (jX12_writes G l h0) h 173 [(0, vR (some x0)), (1, vI x1), (2, vI x2), (3, vI x3), (4, vI x4), (7, vI x7), (8, vI x8), (9, vI x9)] [] Q := by
  obtain ⟨h1, c, p⟩ := c
  obtain ⟨h', r, K, q⟩ := K h1 p
  exact ⟨h', r, j_aload_n dX12_writes_173 rfl rfl <| j_iload_n dX12_writes_174 rfl rfl <| j_iload_n dX12_writes_175 rfl rfl <| j_callV (v := none) (as := [vI x1, vI x2]) dX12_writes_176 kc_X12_376 rfl rfl w (by decide) (Nat.le_of_ble_eq_true rfl) c K, q⟩
theorem bX12_writes_179 {h0 h : k_H} {Q : k_H → k_R → Prop} {x0 : Nat} {x1 x2 x3 x4 x7 x8 x9 : Int32} (K1 : x7 = 0 → k_X (jX12_writes G l h0) h 204 [(0, vR (some x0)), (1, vI x1), (2, vI x2), (3, vI x3), (4, vI x4), (8, vI x8), (9, vI x9)] [] Q) (K2 : ¬ (x7 = 0) → k_X (jX12_writes G l h0) h 184 [(0, vR (some x0)), (1, vI x1), (2, vI x2), (3, vI x3), (4, vI x4), (8, vI x8), (9, vI x9)] [] Q) : k_X (jX12_writes G l h0) h 179 [(0, vR (some x0)), (1, vI x1), (2, vI x2), (3, vI x3), (4, vI x4), (7, vI x7), (8, vI x8), (9, vI x9)] [] Q := by
  by_cases hc : x7 = 0
  · skip
    obtain ⟨h', r, K, q⟩ := K1 hc
    exact ⟨h', r, j_iload dX12_writes_179 rfl <| j_if_eq_t (tgt := 204) dX12_writes_181 (by decide) hc (j_pick [0, 1, 2, 3, 4, 6, 7] rfl K), q⟩
  · skip
    obtain ⟨h', r, K, q⟩ := K2 hc
    exact ⟨h', r, j_iload dX12_writes_179 rfl <| j_if_eq_f dX12_writes_181 204 (by decide) hc (j_pick [0, 1, 2, 3, 4, 6, 7] rfl K), q⟩
theorem bX12_writes_184 {h0 h : k_H} {Q : k_H → k_R → Prop} {x0 : Nat} {x1 x2 x3 x4 x8 x9 : Int32} (K1 : x3 = 0 → k_X (jX12_writes G l h0) h 204 [(0, vR (some x0)), (1, vI x1), (2, vI x2), (3, vI x3), (4, vI x4), (8, vI x8), (9, vI x9)] [] Q) (K2 : ¬ (x3 = 0) → k_X (jX12_writes G l h0) h 188 [(0, vR (some x0)), (1, vI x1), (2, vI x2), (3, vI x3), (4, vI x4), (8, vI x8), (9, vI x9)] [] Q) : k_X (jX12_writes G l h0) h 184 [(0, vR (some x0)), (1, vI x1), (2, vI x2), (3, vI x3), (4, vI x4), (8, vI x8), (9, vI x9)] [] Q := by
  by_cases hc : x3 = 0
  · skip
    obtain ⟨h', r, K, q⟩ := K1 hc
    exact ⟨h', r, j_iload_n dX12_writes_184 rfl rfl <| j_if_eq_t (tgt := 204) dX12_writes_185 (by decide) hc K, q⟩
  · skip
    obtain ⟨h', r, K, q⟩ := K2 hc
    exact ⟨h', r, j_iload_n dX12_writes_184 rfl rfl <| j_if_eq_f dX12_writes_185 204 (by decide) hc K, q⟩
theorem bX12_writes_188 {h0 h : k_H} {Q : k_H → k_R → Prop} {x0 : Nat} {x1 x2 x3 x4 x8 x9 : Int32} {P : k_H → Int64 → Prop} (c : k_ctj (tX12_codeOf G l) [vI (-4), vI 0, vI x2] h P) (K : ∀ h1 v, P h1 v → k_X (jX12_writes G l h0) h1 199 [(0, vR (some x0)), (1, vI x1), (2, vI x2), (3, vI x3), (4, vI x4), (8, vI x8), (9, vI x9)] [vJ v, vI 8, vI x1, vR (some x0)] Q) : k_X (jX12_writes G l h0) h 188 [(0, vR (some x0)), (1, vI x1), (2, vI x2), (3, vI x3), (4, vI x4), (8, vI x8), (9, vI x9)] [] Q := by
  obtain ⟨h1, v, c, p⟩ := c
  obtain ⟨h', r, K, q⟩ := K h1 v p
  exact ⟨h', r, j_aload_n dX12_writes_188 rfl rfl <| j_iload_n dX12_writes_189 rfl rfl <| j_bipush (v := 8) dX12_writes_190 (by decide) <| j_bipush (v := (-4)) dX12_writes_192 (by decide) <| j_iconst (v := 0) dX12_writes_194 (by decide) <| j_iload_n dX12_writes_195 rfl rfl <| j_callS (v := some (vJ v)) (as := [vI (-4), vI 0, vI x2]) dX12_writes_196 kc_X12_155 rfl rfl (by decide) (Nat.le_of_ble_eq_true rfl) c K, q⟩
theorem bX12_writes_199 {h0 h : k_H} {Q : k_H → k_R → Prop} {x0 s0 : Nat} {x1 x2 x3 x4 x8 x9 s1 s2 : Int32} {s3 : Int64} (w : k_is h s0 15) {P : k_H → Prop} (c : k_ctv (tX12_keepsKey G l) [vR (some s0), vI s1, vI s2, vJ s3, vI x4] h P) (K : ∀ h1, P h1 → k_X (jX12_writes G l h0) h1 204 [(0, vR (some x0)), (1, vI x1), (2, vI x2), (3, vI x3), (4, vI x4), (8, vI x8), (9, vI x9)] [] Q) : k_X (jX12_writes G l h0) h 199 [(0, vR (some x0)), (1, vI x1), (2, vI x2), (3, vI x3), (4, vI x4), (8, vI x8), (9, vI x9)] [vJ s3, vI s2, vI s1, vR (some s0)] Q := by
  obtain ⟨h1, c, p⟩ := c
  obtain ⟨h', r, K, q⟩ := K h1 p
  exact ⟨h', r, j_iload dX12_writes_199 rfl <| j_callV (v := none) (as := [vI s1, vI s2, vJ s3, vI x4]) dX12_writes_201 kc_X12_372 rfl rfl w (by decide) (Nat.le_of_ble_eq_true rfl) c K, q⟩
theorem bX12_writes_204 {h0 h : k_H} {Q : k_H → k_R → Prop} {x0 : Nat} {x1 x2 x3 x4 x8 x9 : Int32} (K1 : x3 = 0 → k_X (jX12_writes G l h0) h 214 [(2, vI x2), (3, vI x3), (4, vI x4), (8, vI x8), (9, vI x9)] [vI x1, vR (some x0)] Q) (K2 : ¬ (x3 = 0) → k_X (jX12_writes G l h0) h 210 [(2, vI x2), (3, vI x3), (4, vI x4), (8, vI x8), (9, vI x9)] [vI x1, vR (some x0)] Q) : k_X (jX12_writes G l h0) h 204 [(0, vR (some x0)), (1, vI x1), (2, vI x2), (3, vI x3), (4, vI x4), (8, vI x8), (9, vI x9)] [] Q := by
  by_cases hc : x3 = 0
  · skip
    obtain ⟨h', r, K, q⟩ := K1 hc
    exact ⟨h', r, j_aload_n dX12_writes_204 rfl rfl <| j_iload_n dX12_writes_205 rfl rfl <| j_iload_n dX12_writes_206 rfl rfl <| j_if_eq_t (tgt := 214) dX12_writes_207 (by decide) hc (j_pick [2, 3, 4, 5, 6] rfl K), q⟩
  · skip
    obtain ⟨h', r, K, q⟩ := K2 hc
    exact ⟨h', r, j_aload_n dX12_writes_204 rfl rfl <| j_iload_n dX12_writes_205 rfl rfl <| j_iload_n dX12_writes_206 rfl rfl <| j_if_eq_f dX12_writes_207 214 (by decide) hc (j_pick [2, 3, 4, 5, 6] rfl K), q⟩
theorem bX12_writes_210 {h0 h : k_H} {Q : k_H → k_R → Prop} {x2 x3 x4 x8 x9 s1 : Int32} {s0 : Option Nat} (K : k_X (jX12_writes G l h0) h 215 [(2, vI x2), (3, vI x3), (4, vI x4), (8, vI x8), (9, vI x9)] [vI 0, vI s1, vR s0] Q) : k_X (jX12_writes G l h0) h 210 [(2, vI x2), (3, vI x3), (4, vI x4), (8, vI x8), (9, vI x9)] [vI s1, vR s0] Q := by
  obtain ⟨h', r, K, q⟩ := K
  exact ⟨h', r, j_iconst (v := 0) dX12_writes_210 (by decide) <| j_goto (tgt := 215) dX12_writes_211 (by decide) <| K, q⟩
theorem bX12_writes_214 {h0 h : k_H} {Q : k_H → k_R → Prop} {x2 x3 x4 x8 x9 s1 : Int32} {s0 : Option Nat} (K : k_X (jX12_writes G l h0) h 215 [(2, vI x2), (3, vI x3), (4, vI x4), (8, vI x8), (9, vI x9)] [vI 1, vI s1, vR s0] Q) : k_X (jX12_writes G l h0) h 214 [(2, vI x2), (3, vI x3), (4, vI x4), (8, vI x8), (9, vI x9)] [vI s1, vR s0] Q := by
  obtain ⟨h', r, K, q⟩ := K
  exact ⟨h', r, j_iconst (v := 1) dX12_writes_214 (by decide) <| K, q⟩
theorem bX12_writes_215 {h0 h : k_H} {Q : k_H → k_R → Prop} {x2 x3 x4 x8 x9 s1 s2 : Int32} {s0 : Option Nat} {P : k_H → Int64 → Prop} (c : k_ctj (tX12_recordOf G l) [vI x2] h P) (K : ∀ h1 v, P h1 v → k_X (jX12_writes G l h0) h1 219 [(3, vI x3), (4, vI x4), (8, vI x8), (9, vI x9)] [vJ v, vI s2, vI s1, vR s0] Q) : k_X (jX12_writes G l h0) h 215 [(2, vI x2), (3, vI x3), (4, vI x4), (8, vI x8), (9, vI x9)] [vI s2, vI s1, vR s0] Q := by
  obtain ⟨h1, v, c, p⟩ := c
  obtain ⟨h', r, K, q⟩ := K h1 v p
  exact ⟨h', r, j_iload_n dX12_writes_215 rfl rfl <| j_callS (v := some (vJ v)) (as := [vI x2]) dX12_writes_216 kc_X12_366 rfl rfl (by decide) (Nat.le_of_ble_eq_true rfl) c (j_pick [1, 2, 3, 4] rfl K), q⟩
theorem bX12_writes_219 {h0 h : k_H} {Q : k_H → k_R → Prop} {x3 x4 x8 x9 s1 s2 : Int32} {s0 : Option Nat} {s3 : Int64} (K1 : x3 = 0 → k_X (jX12_writes G l h0) h 228 [(8, vI x8), (9, vI x9)] [vJ s3, vI s2, vI s1, vR s0] Q) (K2 : ¬ (x3 = 0) → k_X (jX12_writes G l h0) h 223 [(4, vI x4), (8, vI x8), (9, vI x9)] [vJ s3, vI s2, vI s1, vR s0] Q) : k_X (jX12_writes G l h0) h 219 [(3, vI x3), (4, vI x4), (8, vI x8), (9, vI x9)] [vJ s3, vI s2, vI s1, vR s0] Q := by
  by_cases hc : x3 = 0
  · skip
    obtain ⟨h', r, K, q⟩ := K1 hc
    exact ⟨h', r, j_iload_n dX12_writes_219 rfl rfl <| j_if_eq_t (tgt := 228) dX12_writes_220 (by decide) hc (j_pick [2, 3] rfl K), q⟩
  · skip
    obtain ⟨h', r, K, q⟩ := K2 hc
    exact ⟨h', r, j_iload_n dX12_writes_219 rfl rfl <| j_if_eq_f dX12_writes_220 228 (by decide) hc (j_pick [1, 2, 3] rfl K), q⟩
theorem bX12_writes_223 {h0 h : k_H} {Q : k_H → k_R → Prop} {x4 x8 x9 s1 s2 : Int32} {s0 : Option Nat} {s3 : Int64} (K : k_X (jX12_writes G l h0) h 229 [(8, vI x8), (9, vI x9)] [vI x4, vJ s3, vI s2, vI s1, vR s0] Q) : k_X (jX12_writes G l h0) h 223 [(4, vI x4), (8, vI x8), (9, vI x9)] [vJ s3, vI s2, vI s1, vR s0] Q := by
  obtain ⟨h', r, K, q⟩ := K
  exact ⟨h', r, j_iload dX12_writes_223 rfl <| j_goto (tgt := 229) dX12_writes_225 (by decide) <| (j_pick [1, 2] rfl K), q⟩
theorem bX12_writes_228 {h0 h : k_H} {Q : k_H → k_R → Prop} {x8 x9 s1 s2 : Int32} {s0 : Option Nat} {s3 : Int64} (K : k_X (jX12_writes G l h0) h 229 [(8, vI x8), (9, vI x9)] [vI 0, vJ s3, vI s2, vI s1, vR s0] Q) : k_X (jX12_writes G l h0) h 228 [(8, vI x8), (9, vI x9)] [vJ s3, vI s2, vI s1, vR s0] Q := by
  obtain ⟨h', r, K, q⟩ := K
  exact ⟨h', r, j_iconst (v := 0) dX12_writes_228 (by decide) <| K, q⟩
theorem bX12_writes_229 {h0 h : k_H} {Q : k_H → k_R → Prop} {x8 x9 s1 s2 s4 : Int32} {s0 : Nat} {s3 : Int64} (w : k_is h s0 15) {P : k_H → Prop} (c : k_ctv (tX12_keepsKey G l) [vR (some s0), vI s1, vI s2, vJ s3, vI s4] h P) (K : ∀ h1, P h1 → k_X (jX12_writes G l h0) h1 232 [(8, vI x8), (9, vI x9)] [] Q) : k_X (jX12_writes G l h0) h 229 [(8, vI x8), (9, vI x9)] [vI s4, vJ s3, vI s2, vI s1, vR (some s0)] Q := by
  obtain ⟨h1, c, p⟩ := c
  obtain ⟨h', r, K, q⟩ := K h1 p
  exact ⟨h', r, j_callV (v := none) (as := [vI s1, vI s2, vJ s3, vI s4]) dX12_writes_229 kc_X12_372 rfl rfl w (by decide) (Nat.le_of_ble_eq_true rfl) c K, q⟩
theorem bX12_writes_232 {h0 h : k_H} {Q : k_H → k_R → Prop} {x8 x9 : Int32} (K1 : x8 = 0 → k_X (jX12_writes G l h0) h 242 [] [] Q) (K2 : ¬ (x8 = 0) → k_X (jX12_writes G l h0) h 237 [(9, vI x9)] [] Q) : k_X (jX12_writes G l h0) h 232 [(8, vI x8), (9, vI x9)] [] Q := by
  by_cases hc : x8 = 0
  · skip
    obtain ⟨h', r, K, q⟩ := K1 hc
    exact ⟨h', r, j_iload dX12_writes_232 rfl <| j_if_eq_t (tgt := 242) dX12_writes_234 (by decide) hc (j_pick [] rfl K), q⟩
  · skip
    obtain ⟨h', r, K, q⟩ := K2 hc
    exact ⟨h', r, j_iload dX12_writes_232 rfl <| j_if_eq_f dX12_writes_234 242 (by decide) hc (j_pick [1] rfl K), q⟩
theorem bX12_writes_237 {h0 h : k_H} {Q : k_H → k_R → Prop} {x9 : Int32} (K : k_X (jX12_writes G l h0) h 244 [] [vI x9] Q) : k_X (jX12_writes G l h0) h 237 [(9, vI x9)] [] Q := by
  obtain ⟨h', r, K, q⟩ := K
  exact ⟨h', r, j_iload dX12_writes_237 rfl <| j_goto (tgt := 244) dX12_writes_239 (by decide) <| (j_pick [] rfl K), q⟩
theorem bX12_writes_242 {h0 h : k_H} {Q : k_H → k_R → Prop} (K : k_X (jX12_writes G l h0) h 244 [] [vI (-2147483648)] Q) : k_X (jX12_writes G l h0) h 242 [] [] Q := by
  obtain ⟨h', r, K, q⟩ := K
  exact ⟨h', r, j_ldc (v := (-2147483648)) dX12_writes_242 ki_X12_87 <| K, q⟩
theorem bX12_writes_244 {h0 h : k_H} {Q : k_H → k_R → Prop} {s0 : Int32} (q : Q h (.inl (some (vI s0)))) : k_X (jX12_writes G l h0) h 244 [] [vI s0] Q := by
  exact ⟨_, _, j_iret dX12_writes_244 rfl, q⟩
theorem eX12_goesOnFor {G : k_G} {l : Launch} (hfl : l.flags = flags0) {h : k_H} {Q : k_H → k_R → Prop} {x0 : Nat} {x1 : Int32} {x2 : Int32} {x3 : Int32} (K : k_X (jX12_goesOnFor G l h) h 0 [(0, vR (some x0)), (1, vI x1), (2, vI x2), (3, vI x3)] [] Q) : k_ct (tX12_goesOnFor G l) [vR (some x0), vI x1, vI x2, vI x3] h Q := by
  obtain ⟨h', r, K, q⟩ := K
  exact ⟨h', r, k_CtOf (by decide +kernel) (Nat.le_of_ble_eq_true rfl) K hfl, q⟩

theorem bX12_goesOnFor_0 {h0 h : k_H} {Q : k_H → k_R → Prop} {x0 : Nat} {x1 x2 x3 : Int32} {P : k_H → Int64 → Prop} (c : k_ctj (tX12_indexOf G l) [vI x2] h P) (K : ∀ h1 v, P h1 v → k_X (jX12_goesOnFor G l h0) h1 6 [(0, vR (some x0)), (3, vI x3)] [vJ v, vI x1, vR (some x0)] Q) : k_X (jX12_goesOnFor G l h0) h 0 [(0, vR (some x0)), (1, vI x1), (2, vI x2), (3, vI x3)] [] Q := by
  obtain ⟨h1, v, c, p⟩ := c
  obtain ⟨h', r, K, q⟩ := K h1 v p
  exact ⟨h', r, j_aload_n dX12_goesOnFor_0 rfl rfl <| j_iload_n dX12_goesOnFor_1 rfl rfl <| j_iload_n dX12_goesOnFor_2 rfl rfl <| j_callS (v := some (vJ v)) (as := [vI x2]) dX12_goesOnFor_3 kc_X12_363 rfl rfl (by decide) (Nat.le_of_ble_eq_true rfl) c (j_pick [0, 3] rfl K), q⟩
theorem bX12_goesOnFor_6 {h0 h : k_H} {Q : k_H → k_R → Prop} {x0 s0 : Nat} {x3 s1 : Int32} {s2 : Int64} (w : k_is h s0 15) {P : k_H → Prop} (c : k_ctv (tX12_reads G l) [vR (some s0), vI s1, vJ s2, vI 1] h P) (K : ∀ h1, P h1 → k_X (jX12_goesOnFor G l h0) h1 10 [(0, vR (some x0)), (3, vI x3)] [] Q) : k_X (jX12_goesOnFor G l h0) h 6 [(0, vR (some x0)), (3, vI x3)] [vJ s2, vI s1, vR (some s0)] Q := by
  obtain ⟨h1, c, p⟩ := c
  obtain ⟨h', r, K, q⟩ := K h1 p
  exact ⟨h', r, j_iconst (v := 1) dX12_goesOnFor_6 (by decide) <| j_callV (v := none) (as := [vI s1, vJ s2, vI 1]) dX12_goesOnFor_7 kc_X12_278 rfl rfl w (by decide) (Nat.le_of_ble_eq_true rfl) c K, q⟩
theorem bX12_goesOnFor_10 {h0 h : k_H} {Q : k_H → k_R → Prop} {x0 : Nat} {x3 f1_33 : Int32} {fs1 : List k_V} (o1 : h.1 x0 = some (k_o 15 fs1)) (g1_33 : fs1[33]? = some (vI f1_33)) (K1 : f1_33 = 0 → k_X (jX12_goesOnFor G l h0) h 24 [(3, vI x3)] [] Q) (K2 : ¬ (f1_33 = 0) → k_X (jX12_goesOnFor G l h0) h 17 [(0, vR (some x0)), (3, vI x3)] [] Q) : k_X (jX12_goesOnFor G l h0) h 10 [(0, vR (some x0)), (3, vI x3)] [] Q := by
  by_cases hc : f1_33 = 0
  · skip
    obtain ⟨h', r, K, q⟩ := K1 hc
    exact ⟨h', r, j_aload_n dX12_goesOnFor_10 rfl rfl <| j_getf dX12_goesOnFor_11 kf_X12_230 o1 g1_33 <| j_if_eq_t (tgt := 24) dX12_goesOnFor_14 (by decide) hc (j_pick [1] rfl K), q⟩
  · skip
    obtain ⟨h', r, K, q⟩ := K2 hc
    exact ⟨h', r, j_aload_n dX12_goesOnFor_10 rfl rfl <| j_getf dX12_goesOnFor_11 kf_X12_230 o1 g1_33 <| j_if_eq_f dX12_goesOnFor_14 24 (by decide) hc K, q⟩
theorem bX12_goesOnFor_17 {h0 h : k_H} {Q : k_H → k_R → Prop} {x0 : Nat} {x3 f1_34 : Int32} {fs1 : List k_V} (o1 : h.1 x0 = some (k_o 15 fs1)) (g1_34 : fs1[34]? = some (vI f1_34)) (K : k_X (jX12_goesOnFor G l h0) h 26 [(3, vI x3)] [vI f1_34] Q) : k_X (jX12_goesOnFor G l h0) h 17 [(0, vR (some x0)), (3, vI x3)] [] Q := by
  obtain ⟨h', r, K, q⟩ := K
  exact ⟨h', r, j_aload_n dX12_goesOnFor_17 rfl rfl <| j_getf dX12_goesOnFor_18 kf_X12_234 o1 g1_34 <| j_goto (tgt := 26) dX12_goesOnFor_21 (by decide) <| (j_pick [1] rfl K), q⟩
theorem bX12_goesOnFor_24 {h0 h : k_H} {Q : k_H → k_R → Prop} {x3 : Int32} (K : k_X (jX12_goesOnFor G l h0) h 26 [(3, vI x3)] [vI (-2147483648)] Q) : k_X (jX12_goesOnFor G l h0) h 24 [(3, vI x3)] [] Q := by
  obtain ⟨h', r, K, q⟩ := K
  exact ⟨h', r, j_ldc (v := (-2147483648)) dX12_goesOnFor_24 ki_X12_87 <| K, q⟩
theorem bX12_goesOnFor_26 {h0 h : k_H} {Q : k_H → k_R → Prop} {x3 s0 : Int32} {P : k_H → Int32 → Prop} (c : k_cti (tX12_goesFor G l) [vI s0, vI x3] h P) (K : ∀ h1 v, P h1 v → k_X (jX12_goesOnFor G l h0) h1 30 [] [vI v] Q) : k_X (jX12_goesOnFor G l h0) h 26 [(3, vI x3)] [vI s0] Q := by
  obtain ⟨h1, v, c, p⟩ := c
  obtain ⟨h', r, K, q⟩ := K h1 v p
  exact ⟨h', r, j_iload_n dX12_goesOnFor_26 rfl rfl <| j_callS (v := some (vI v)) (as := [vI s0, vI x3]) dX12_goesOnFor_27 kc_X12_379 rfl rfl (by decide) (Nat.le_of_ble_eq_true rfl) c (j_pick [] rfl K), q⟩
theorem bX12_goesOnFor_30 {h0 h : k_H} {Q : k_H → k_R → Prop} {s0 : Int32} (y1 : k_bl s0) (q : Q h (.inl (some (vI s0)))) : k_X (jX12_goesOnFor G l h0) h 30 [] [vI s0] Q := by
  exact ⟨_, _, j_zret dX12_goesOnFor_30 rfl y1, q⟩
theorem eX12_saved {G : k_G} {l : Launch} (hfl : l.flags = flags0) {h : k_H} {Q : k_H → k_R → Prop} {x0 : Nat} {x1 : Int32} {x2 : Int32} {x3 : Int32} {x4 : Int32} (K : k_X (jX12_saved G l h) h 0 [(0, vR (some x0)), (1, vI x1), (2, vI x2), (3, vI x3), (4, vI x4)] [] Q) : k_ct (tX12_saved G l) [vR (some x0), vI x1, vI x2, vI x3, vI x4] h Q := by
  obtain ⟨h', r, K, q⟩ := K
  exact ⟨h', r, k_CtOf (by decide +kernel) (Nat.le_of_ble_eq_true rfl) K hfl, q⟩

theorem bX12_saved_0 {h0 h : k_H} {Q : k_H → k_R → Prop} {x0 : Nat} {x1 x2 x3 x4 : Int32} {P : k_H → Int32 → Prop} (c : k_cti (tX12_isIn G l) [vI x2, vI 0, vI 99] h P) (K : ∀ h1 v, P h1 v → k_X (jX12_saved G l h0) h1 7 [(0, vR (some x0)), (1, vI x1), (2, vI x2), (3, vI x3), (4, vI x4)] [vI v] Q) : k_X (jX12_saved G l h0) h 0 [(0, vR (some x0)), (1, vI x1), (2, vI x2), (3, vI x3), (4, vI x4)] [] Q := by
  obtain ⟨h1, v, c, p⟩ := c
  obtain ⟨h', r, K, q⟩ := K h1 v p
  exact ⟨h', r, j_iload_n dX12_saved_0 rfl rfl <| j_iconst (v := 0) dX12_saved_1 (by decide) <| j_bipush (v := 99) dX12_saved_2 (by decide) <| j_callS (v := some (vI v)) (as := [vI x2, vI 0, vI 99]) dX12_saved_4 kc_X12_137 rfl rfl (by decide) (Nat.le_of_ble_eq_true rfl) c K, q⟩
theorem bX12_saved_7 {h0 h : k_H} {Q : k_H → k_R → Prop} {x0 : Nat} {x1 x2 x3 x4 s0 : Int32} (K1 : s0 = 0 → k_X (jX12_saved G l h0) h 29 [(0, vR (some x0)), (1, vI x1), (2, vI x2), (3, vI x3), (4, vI x4)] [] Q) (K2 : ¬ (s0 = 0) → k_X (jX12_saved G l h0) h 10 [(0, vR (some x0)), (1, vI x1), (2, vI x2), (3, vI x3), (4, vI x4)] [] Q) : k_X (jX12_saved G l h0) h 7 [(0, vR (some x0)), (1, vI x1), (2, vI x2), (3, vI x3), (4, vI x4)] [vI s0] Q := by
  by_cases hc : s0 = 0
  · skip
    obtain ⟨h', r, K, q⟩ := K1 hc
    exact ⟨h', r, j_if_eq_t (tgt := 29) dX12_saved_7 (by decide) hc K, q⟩
  · skip
    obtain ⟨h', r, K, q⟩ := K2 hc
    exact ⟨h', r, j_if_eq_f dX12_saved_7 29 (by decide) hc K, q⟩
theorem bX12_saved_10 {h0 h : k_H} {Q : k_H → k_R → Prop} {x0 : Nat} {x1 x2 x3 x4 : Int32} (K1 : x3 = 0 → k_X (jX12_saved G l h0) h 25 [(0, vR (some x0)), (1, vI x1), (2, vI x2), (3, vI x3), (4, vI x4)] [] Q) (K2 : ¬ (x3 = 0) → k_X (jX12_saved G l h0) h 14 [(0, vR (some x0)), (1, vI x1), (2, vI x2), (3, vI x3), (4, vI x4)] [] Q) : k_X (jX12_saved G l h0) h 10 [(0, vR (some x0)), (1, vI x1), (2, vI x2), (3, vI x3), (4, vI x4)] [] Q := by
  by_cases hc : x3 = 0
  · skip
    obtain ⟨h', r, K, q⟩ := K1 hc
    exact ⟨h', r, j_iload_n dX12_saved_10 rfl rfl <| j_if_eq_t (tgt := 25) dX12_saved_11 (by decide) hc K, q⟩
  · skip
    obtain ⟨h', r, K, q⟩ := K2 hc
    exact ⟨h', r, j_iload_n dX12_saved_10 rfl rfl <| j_if_eq_f dX12_saved_11 25 (by decide) hc K, q⟩
theorem bX12_saved_14 {h0 h : k_H} {Q : k_H → k_R → Prop} {x0 : Nat} {x1 x2 x3 x4 : Int32} {P : k_H → Int32 → Prop} (c : k_cti (tX12_isIn G l) [vI x4, vI 0, vI 99] h P) (K : ∀ h1 v, P h1 v → k_X (jX12_saved G l h0) h1 22 [(0, vR (some x0)), (1, vI x1), (2, vI x2), (3, vI x3), (4, vI x4)] [vI v] Q) : k_X (jX12_saved G l h0) h 14 [(0, vR (some x0)), (1, vI x1), (2, vI x2), (3, vI x3), (4, vI x4)] [] Q := by
  obtain ⟨h1, v, c, p⟩ := c
  obtain ⟨h', r, K, q⟩ := K h1 v p
  exact ⟨h', r, j_iload dX12_saved_14 rfl <| j_iconst (v := 0) dX12_saved_16 (by decide) <| j_bipush (v := 99) dX12_saved_17 (by decide) <| j_callS (v := some (vI v)) (as := [vI x4, vI 0, vI 99]) dX12_saved_19 kc_X12_137 rfl rfl (by decide) (Nat.le_of_ble_eq_true rfl) c K, q⟩
theorem bX12_saved_22 {h0 h : k_H} {Q : k_H → k_R → Prop} {x0 : Nat} {x1 x2 x3 x4 s0 : Int32} (K1 : s0 = 0 → k_X (jX12_saved G l h0) h 29 [(0, vR (some x0)), (1, vI x1), (2, vI x2), (3, vI x3), (4, vI x4)] [] Q) (K2 : ¬ (s0 = 0) → k_X (jX12_saved G l h0) h 25 [(0, vR (some x0)), (1, vI x1), (2, vI x2), (3, vI x3), (4, vI x4)] [] Q) : k_X (jX12_saved G l h0) h 22 [(0, vR (some x0)), (1, vI x1), (2, vI x2), (3, vI x3), (4, vI x4)] [vI s0] Q := by
  by_cases hc : s0 = 0
  · skip
    obtain ⟨h', r, K, q⟩ := K1 hc
    exact ⟨h', r, j_if_eq_t (tgt := 29) dX12_saved_22 (by decide) hc K, q⟩
  · skip
    obtain ⟨h', r, K, q⟩ := K2 hc
    exact ⟨h', r, j_if_eq_f dX12_saved_22 29 (by decide) hc K, q⟩
theorem bX12_saved_25 {h0 h : k_H} {Q : k_H → k_R → Prop} {x0 : Nat} {x1 x2 x3 x4 : Int32} (K : k_X (jX12_saved G l h0) h 30 [(0, vR (some x0)), (1, vI x1), (2, vI x2), (3, vI x3), (4, vI x4)] [vI 1] Q) : k_X (jX12_saved G l h0) h 25 [(0, vR (some x0)), (1, vI x1), (2, vI x2), (3, vI x3), (4, vI x4)] [] Q := by
  obtain ⟨h', r, K, q⟩ := K
  exact ⟨h', r, j_iconst (v := 1) dX12_saved_25 (by decide) <| j_goto (tgt := 30) dX12_saved_26 (by decide) <| K, q⟩
theorem bX12_saved_29 {h0 h : k_H} {Q : k_H → k_R → Prop} {x0 : Nat} {x1 x2 x3 x4 : Int32} (K : k_X (jX12_saved G l h0) h 30 [(0, vR (some x0)), (1, vI x1), (2, vI x2), (3, vI x3), (4, vI x4)] [vI 0] Q) : k_X (jX12_saved G l h0) h 29 [(0, vR (some x0)), (1, vI x1), (2, vI x2), (3, vI x3), (4, vI x4)] [] Q := by
  obtain ⟨h', r, K, q⟩ := K
  exact ⟨h', r, j_iconst (v := 0) dX12_saved_29 (by decide) <| K, q⟩
theorem bX12_saved_30 {h0 h : k_H} {Q : k_H → k_R → Prop} {x0 : Nat} {x1 x2 x3 x4 s0 : Int32} {P : k_H → Int32 → Prop} (c : k_cti (tX12_isTransaction G l) [vI x1] h P) (K : ∀ h1 v, P h1 v → k_X (jX12_saved G l h0) h1 36 [(0, vR (some x0)), (1, vI x1), (2, vI x2), (3, vI x3), (4, vI x4), (5, vI s0)] [vI v] Q) : k_X (jX12_saved G l h0) h 30 [(0, vR (some x0)), (1, vI x1), (2, vI x2), (3, vI x3), (4, vI x4)] [vI s0] Q := by
  obtain ⟨h1, v, c, p⟩ := c
  obtain ⟨h', r, K, q⟩ := K h1 v p
  exact ⟨h', r, j_istore dX12_saved_30 (by decide) rfl <| j_iload_n dX12_saved_32 rfl rfl <| j_callS (v := some (vI v)) (as := [vI x1]) dX12_saved_33 kc_X12_262 rfl rfl (by decide) (Nat.le_of_ble_eq_true rfl) c K, q⟩
theorem bX12_saved_36 {h0 h : k_H} {Q : k_H → k_R → Prop} {x0 : Nat} {x1 x2 x3 x4 x5 s0 : Int32} (K1 : s0 = 0 → k_X (jX12_saved G l h0) h 65 [(0, vR (some x0)), (1, vI x1), (2, vI x2), (3, vI x3), (4, vI x4), (5, vI x5)] [] Q) (K2 : ¬ (s0 = 0) → k_X (jX12_saved G l h0) h 39 [(0, vR (some x0)), (1, vI x1), (2, vI x2), (3, vI x3), (4, vI x4), (5, vI x5)] [] Q) : k_X (jX12_saved G l h0) h 36 [(0, vR (some x0)), (1, vI x1), (2, vI x2), (3, vI x3), (4, vI x4), (5, vI x5)] [vI s0] Q := by
  by_cases hc : s0 = 0
  · skip
    obtain ⟨h', r, K, q⟩ := K1 hc
    exact ⟨h', r, j_if_eq_t (tgt := 65) dX12_saved_36 (by decide) hc K, q⟩
  · skip
    obtain ⟨h', r, K, q⟩ := K2 hc
    exact ⟨h', r, j_if_eq_f dX12_saved_36 65 (by decide) hc K, q⟩
theorem bX12_saved_39 {h0 h : k_H} {Q : k_H → k_R → Prop} {x0 : Nat} {x1 x2 x3 x4 x5 : Int32} (K1 : x5 = 0 → k_X (jX12_saved G l h0) h 65 [(0, vR (some x0)), (1, vI x1), (2, vI x2), (3, vI x3), (4, vI x4), (5, vI x5)] [] Q) (K2 : ¬ (x5 = 0) → k_X (jX12_saved G l h0) h 44 [(0, vR (some x0)), (1, vI x1), (2, vI x2), (3, vI x3), (4, vI x4), (5, vI x5)] [] Q) : k_X (jX12_saved G l h0) h 39 [(0, vR (some x0)), (1, vI x1), (2, vI x2), (3, vI x3), (4, vI x4), (5, vI x5)] [] Q := by
  by_cases hc : x5 = 0
  · skip
    obtain ⟨h', r, K, q⟩ := K1 hc
    exact ⟨h', r, j_iload dX12_saved_39 rfl <| j_if_eq_t (tgt := 65) dX12_saved_41 (by decide) hc K, q⟩
  · skip
    obtain ⟨h', r, K, q⟩ := K2 hc
    exact ⟨h', r, j_iload dX12_saved_39 rfl <| j_if_eq_f dX12_saved_41 65 (by decide) hc K, q⟩
theorem bX12_saved_44 {h0 h : k_H} {Q : k_H → k_R → Prop} {x0 : Nat} {x1 x2 x3 x4 x5 : Int32} (w : k_is h x0 15) {P : k_H → Int32 → Prop} (c : k_cti (tX12_isShut G l) [vR (some x0), vI x1] h P) (K : ∀ h1 v, P h1 v → k_X (jX12_saved G l h0) h1 49 [(0, vR (some x0)), (1, vI x1), (2, vI x2), (3, vI x3), (4, vI x4), (5, vI x5)] [vI v] Q) : k_X (jX12_saved G l h0) h 44 [(0, vR (some x0)), (1, vI x1), (2, vI x2), (3, vI x3), (4, vI x4), (5, vI x5)] [] Q := by
  obtain ⟨h1, v, c, p⟩ := c
  obtain ⟨h', r, K, q⟩ := K h1 v p
  exact ⟨h', r, j_aload_n dX12_saved_44 rfl rfl <| j_iload_n dX12_saved_45 rfl rfl <| j_callV (v := some (vI v)) (as := [vI x1]) dX12_saved_46 kc_X12_301 rfl rfl w (by decide) (Nat.le_of_ble_eq_true rfl) c K, q⟩
theorem bX12_saved_49 {h0 h : k_H} {Q : k_H → k_R → Prop} {x0 : Nat} {x1 x2 x3 x4 x5 s0 : Int32} (K1 : ¬ (s0 = 0) → k_X (jX12_saved G l h0) h 65 [(0, vR (some x0)), (1, vI x1), (2, vI x2), (3, vI x3), (4, vI x4), (5, vI x5)] [] Q) (K2 : s0 = 0 → k_X (jX12_saved G l h0) h 52 [(0, vR (some x0)), (1, vI x1), (2, vI x2), (3, vI x3), (4, vI x4), (5, vI x5)] [] Q) : k_X (jX12_saved G l h0) h 49 [(0, vR (some x0)), (1, vI x1), (2, vI x2), (3, vI x3), (4, vI x4), (5, vI x5)] [vI s0] Q := by
  by_cases hc : s0 = 0
  · skip
    obtain ⟨h', r, K, q⟩ := K2 hc
    exact ⟨h', r, j_if_ne_f dX12_saved_49 65 (by decide) hc K, q⟩
  · skip
    obtain ⟨h', r, K, q⟩ := K1 hc
    exact ⟨h', r, j_if_ne_t (tgt := 65) dX12_saved_49 (by decide) hc K, q⟩
theorem bX12_saved_52 {h0 h : k_H} {Q : k_H → k_R → Prop} {x0 : Nat} {x1 x2 x3 x4 x5 : Int32} (w : k_is h x0 15) {P : k_H → Int32 → Prop} (c : k_cti (tX12_isAnyStamped G l) [vR (some x0), vI x1, vI x2] h P) (K : ∀ h1 v, P h1 v → k_X (jX12_saved G l h0) h1 58 [(0, vR (some x0)), (1, vI x1), (2, vI x2), (3, vI x3), (4, vI x4), (5, vI x5)] [vI v] Q) : k_X (jX12_saved G l h0) h 52 [(0, vR (some x0)), (1, vI x1), (2, vI x2), (3, vI x3), (4, vI x4), (5, vI x5)] [] Q := by
  obtain ⟨h1, v, c, p⟩ := c
  obtain ⟨h', r, K, q⟩ := K h1 v p
  exact ⟨h', r, j_aload_n dX12_saved_52 rfl rfl <| j_iload_n dX12_saved_53 rfl rfl <| j_iload_n dX12_saved_54 rfl rfl <| j_callV (v := some (vI v)) (as := [vI x1, vI x2]) dX12_saved_55 kc_X12_382 rfl rfl w (by decide) (Nat.le_of_ble_eq_true rfl) c K, q⟩
theorem bX12_saved_58 {h0 h : k_H} {Q : k_H → k_R → Prop} {x0 : Nat} {x1 x2 x3 x4 x5 s0 : Int32} (K1 : ¬ (s0 = 0) → k_X (jX12_saved G l h0) h 65 [(0, vR (some x0)), (1, vI x1), (2, vI x2), (3, vI x3), (4, vI x4), (5, vI x5)] [] Q) (K2 : s0 = 0 → k_X (jX12_saved G l h0) h 61 [(0, vR (some x0)), (1, vI x1), (2, vI x2), (3, vI x3), (4, vI x4), (5, vI x5)] [] Q) : k_X (jX12_saved G l h0) h 58 [(0, vR (some x0)), (1, vI x1), (2, vI x2), (3, vI x3), (4, vI x4), (5, vI x5)] [vI s0] Q := by
  by_cases hc : s0 = 0
  · skip
    obtain ⟨h', r, K, q⟩ := K2 hc
    exact ⟨h', r, j_if_ne_f dX12_saved_58 65 (by decide) hc K, q⟩
  · skip
    obtain ⟨h', r, K, q⟩ := K1 hc
    exact ⟨h', r, j_if_ne_t (tgt := 65) dX12_saved_58 (by decide) hc K, q⟩
theorem bX12_saved_61 {h0 h : k_H} {Q : k_H → k_R → Prop} {x0 : Nat} {x1 x2 x3 x4 x5 : Int32} (K : k_X (jX12_saved G l h0) h 66 [(0, vR (some x0)), (1, vI x1), (2, vI x2), (3, vI x3), (4, vI x4), (5, vI x5)] [vI 1] Q) : k_X (jX12_saved G l h0) h 61 [(0, vR (some x0)), (1, vI x1), (2, vI x2), (3, vI x3), (4, vI x4), (5, vI x5)] [] Q := by
  obtain ⟨h', r, K, q⟩ := K
  exact ⟨h', r, j_iconst (v := 1) dX12_saved_61 (by decide) <| j_goto (tgt := 66) dX12_saved_62 (by decide) <| K, q⟩
theorem bX12_saved_65 {h0 h : k_H} {Q : k_H → k_R → Prop} {x0 : Nat} {x1 x2 x3 x4 x5 : Int32} (K : k_X (jX12_saved G l h0) h 66 [(0, vR (some x0)), (1, vI x1), (2, vI x2), (3, vI x3), (4, vI x4), (5, vI x5)] [vI 0] Q) : k_X (jX12_saved G l h0) h 65 [(0, vR (some x0)), (1, vI x1), (2, vI x2), (3, vI x3), (4, vI x4), (5, vI x5)] [] Q := by
  obtain ⟨h', r, K, q⟩ := K
  exact ⟨h', r, j_iconst (v := 0) dX12_saved_65 (by decide) <| K, q⟩
theorem bX12_saved_66 {h0 h : k_H} {Q : k_H → k_R → Prop} {x0 : Nat} {x1 x2 x3 x4 x5 s0 : Int32} {P : k_H → Int32 → Prop} (c : k_cti (tX12_isTransaction G l) [vI x1] h P) (K : ∀ h1 v, P h1 v → k_X (jX12_saved G l h0) h1 73 [(0, vR (some x0)), (1, vI x1), (2, vI x2), (3, vI x3), (4, vI x4), (5, vI x5), (6, vI s0)] [vI v, vR (some x0)] Q) : k_X (jX12_saved G l h0) h 66 [(0, vR (some x0)), (1, vI x1), (2, vI x2), (3, vI x3), (4, vI x4), (5, vI x5)] [vI s0] Q := by
  obtain ⟨h1, v, c, p⟩ := c
  obtain ⟨h', r, K, q⟩ := K h1 v p
  exact ⟨h', r, j_istore dX12_saved_66 (by decide) rfl <| j_aload_n dX12_saved_68 rfl rfl <| j_iload_n dX12_saved_69 rfl rfl <| j_callS (v := some (vI v)) (as := [vI x1]) dX12_saved_70 kc_X12_262 rfl rfl (by decide) (Nat.le_of_ble_eq_true rfl) c K, q⟩
theorem bX12_saved_73 {h0 h : k_H} {Q : k_H → k_R → Prop} {x0 : Nat} {x1 x2 x3 x4 x5 x6 s1 : Int32} {s0 : Option Nat} (K1 : ¬ (s1 = 0) → k_X (jX12_saved G l h0) h 80 [(0, vR (some x0)), (1, vI x1), (2, vI x2), (3, vI x3), (4, vI x4), (5, vI x5), (6, vI x6)] [vR s0] Q) (K2 : s1 = 0 → k_X (jX12_saved G l h0) h 76 [(0, vR (some x0)), (1, vI x1), (2, vI x2), (3, vI x3), (4, vI x4)] [vR s0] Q) : k_X (jX12_saved G l h0) h 73 [(0, vR (some x0)), (1, vI x1), (2, vI x2), (3, vI x3), (4, vI x4), (5, vI x5), (6, vI x6)] [vI s1, vR s0] Q := by
  by_cases hc : s1 = 0
  · skip
    obtain ⟨h', r, K, q⟩ := K2 hc
    exact ⟨h', r, j_if_ne_f dX12_saved_73 80 (by decide) hc (j_pick [0, 1, 2, 3, 4] rfl K), q⟩
  · skip
    obtain ⟨h', r, K, q⟩ := K1 hc
    exact ⟨h', r, j_if_ne_t (tgt := 80) dX12_saved_73 (by decide) hc K, q⟩
theorem bX12_saved_76 {h0 h : k_H} {Q : k_H → k_R → Prop} {x0 : Nat} {x1 x2 x3 x4 : Int32} {s0 : Option Nat} (K : k_X (jX12_saved G l h0) h 99 [(0, vR (some x0)), (1, vI x1), (2, vI x2), (3, vI x3), (4, vI x4)] [vI 1, vR s0] Q) : k_X (jX12_saved G l h0) h 76 [(0, vR (some x0)), (1, vI x1), (2, vI x2), (3, vI x3), (4, vI x4)] [vR s0] Q := by
  obtain ⟨h', r, K, q⟩ := K
  exact ⟨h', r, j_iconst (v := 1) dX12_saved_76 (by decide) <| j_goto (tgt := 99) dX12_saved_77 (by decide) <| K, q⟩
theorem bX12_saved_80 {h0 h : k_H} {Q : k_H → k_R → Prop} {x0 : Nat} {x1 x2 x3 x4 x5 x6 : Int32} {s0 : Option Nat} (K1 : ¬ (x5 = 0) → k_X (jX12_saved G l h0) h 89 [(0, vR (some x0)), (1, vI x1), (2, vI x2), (3, vI x3), (4, vI x4), (6, vI x6)] [vR s0] Q) (K2 : x5 = 0 → k_X (jX12_saved G l h0) h 85 [(0, vR (some x0)), (1, vI x1), (2, vI x2), (3, vI x3), (4, vI x4)] [vR s0] Q) : k_X (jX12_saved G l h0) h 80 [(0, vR (some x0)), (1, vI x1), (2, vI x2), (3, vI x3), (4, vI x4), (5, vI x5), (6, vI x6)] [vR s0] Q := by
  by_cases hc : x5 = 0
  · skip
    obtain ⟨h', r, K, q⟩ := K2 hc
    exact ⟨h', r, j_iload dX12_saved_80 rfl <| j_if_ne_f dX12_saved_82 89 (by decide) hc (j_pick [0, 1, 2, 3, 4] rfl K), q⟩
  · skip
    obtain ⟨h', r, K, q⟩ := K1 hc
    exact ⟨h', r, j_iload dX12_saved_80 rfl <| j_if_ne_t (tgt := 89) dX12_saved_82 (by decide) hc (j_pick [0, 1, 2, 3, 4, 6] rfl K), q⟩
theorem bX12_saved_85 {h0 h : k_H} {Q : k_H → k_R → Prop} {x0 : Nat} {x1 x2 x3 x4 : Int32} {s0 : Option Nat} (K : k_X (jX12_saved G l h0) h 99 [(0, vR (some x0)), (1, vI x1), (2, vI x2), (3, vI x3), (4, vI x4)] [vI 2, vR s0] Q) : k_X (jX12_saved G l h0) h 85 [(0, vR (some x0)), (1, vI x1), (2, vI x2), (3, vI x3), (4, vI x4)] [vR s0] Q := by
  obtain ⟨h', r, K, q⟩ := K
  exact ⟨h', r, j_iconst (v := 2) dX12_saved_85 (by decide) <| j_goto (tgt := 99) dX12_saved_86 (by decide) <| K, q⟩
theorem bX12_saved_89 {h0 h : k_H} {Q : k_H → k_R → Prop} {x0 : Nat} {x1 x2 x3 x4 x6 : Int32} {s0 : Option Nat} (K1 : x6 = 0 → k_X (jX12_saved G l h0) h 98 [(0, vR (some x0)), (1, vI x1), (2, vI x2), (3, vI x3), (4, vI x4)] [vR s0] Q) (K2 : ¬ (x6 = 0) → k_X (jX12_saved G l h0) h 94 [(0, vR (some x0)), (1, vI x1), (2, vI x2), (3, vI x3), (4, vI x4)] [vR s0] Q) : k_X (jX12_saved G l h0) h 89 [(0, vR (some x0)), (1, vI x1), (2, vI x2), (3, vI x3), (4, vI x4), (6, vI x6)] [vR s0] Q := by
  by_cases hc : x6 = 0
  · skip
    obtain ⟨h', r, K, q⟩ := K1 hc
    exact ⟨h', r, j_iload dX12_saved_89 rfl <| j_if_eq_t (tgt := 98) dX12_saved_91 (by decide) hc (j_pick [0, 1, 2, 3, 4] rfl K), q⟩
  · skip
    obtain ⟨h', r, K, q⟩ := K2 hc
    exact ⟨h', r, j_iload dX12_saved_89 rfl <| j_if_eq_f dX12_saved_91 98 (by decide) hc (j_pick [0, 1, 2, 3, 4] rfl K), q⟩
theorem bX12_saved_94 {h0 h : k_H} {Q : k_H → k_R → Prop} {x0 : Nat} {x1 x2 x3 x4 : Int32} {s0 : Option Nat} (K : k_X (jX12_saved G l h0) h 99 [(0, vR (some x0)), (1, vI x1), (2, vI x2), (3, vI x3), (4, vI x4)] [vI 0, vR s0] Q) : k_X (jX12_saved G l h0) h 94 [(0, vR (some x0)), (1, vI x1), (2, vI x2), (3, vI x3), (4, vI x4)] [vR s0] Q := by
  obtain ⟨h', r, K, q⟩ := K
  exact ⟨h', r, j_iconst (v := 0) dX12_saved_94 (by decide) <| j_goto (tgt := 99) dX12_saved_95 (by decide) <| K, q⟩
theorem bX12_saved_98 {h0 h : k_H} {Q : k_H → k_R → Prop} {x0 : Nat} {x1 x2 x3 x4 : Int32} {s0 : Option Nat} (K : k_X (jX12_saved G l h0) h 99 [(0, vR (some x0)), (1, vI x1), (2, vI x2), (3, vI x3), (4, vI x4)] [vI 3, vR s0] Q) : k_X (jX12_saved G l h0) h 98 [(0, vR (some x0)), (1, vI x1), (2, vI x2), (3, vI x3), (4, vI x4)] [vR s0] Q := by
  obtain ⟨h', r, K, q⟩ := K
  exact ⟨h', r, j_iconst (v := 3) dX12_saved_98 (by decide) <| K, q⟩
theorem bX12_saved_99 {h0 h : k_H} {Q : k_H → k_R → Prop} {x0 s0 : Nat} {x1 x2 x3 x4 s1 : Int32} (w : k_is h s0 15) {P : k_H → Int32 → Prop} (c : k_cti (tX12_goes G l) [vR (some s0), vI s1] h P) (K : ∀ h1 v, P h1 v → k_X (jX12_saved G l h0) h1 102 [(0, vR (some x0)), (1, vI x1), (2, vI x2), (3, vI x3), (4, vI x4)] [vI v] Q) : k_X (jX12_saved G l h0) h 99 [(0, vR (some x0)), (1, vI x1), (2, vI x2), (3, vI x3), (4, vI x4)] [vI s1, vR (some s0)] Q := by
  obtain ⟨h1, v, c, p⟩ := c
  obtain ⟨h', r, K, q⟩ := K h1 v p
  exact ⟨h', r, j_callV (v := some (vI v)) (as := [vI s1]) dX12_saved_99 kc_X12_265 rfl rfl w (by decide) (Nat.le_of_ble_eq_true rfl) c K, q⟩
theorem bX12_saved_102 {h0 h : k_H} {Q : k_H → k_R → Prop} {x0 : Nat} {x1 x2 x3 x4 s0 : Int32} (K1 : ¬ (s0 = 0) → k_X (jX12_saved G l h0) h 107 [(0, vR (some x0)), (1, vI x1), (2, vI x2), (3, vI x3), (4, vI x4)] [] Q) (K2 : s0 = 0 → k_X (jX12_saved G l h0) h 105 [] [] Q) : k_X (jX12_saved G l h0) h 102 [(0, vR (some x0)), (1, vI x1), (2, vI x2), (3, vI x3), (4, vI x4)] [vI s0] Q := by
  by_cases hc : s0 = 0
  · skip
    obtain ⟨h', r, K, q⟩ := K2 hc
    exact ⟨h', r, j_if_ne_f dX12_saved_102 107 (by decide) hc (j_pick [] rfl K), q⟩
  · skip
    obtain ⟨h', r, K, q⟩ := K1 hc
    exact ⟨h', r, j_if_ne_t (tgt := 107) dX12_saved_102 (by decide) hc K, q⟩
theorem bX12_saved_105 {h0 h : k_H} {Q : k_H → k_R → Prop} (q : Q h (.inl (some (vI 0)))) : k_X (jX12_saved G l h0) h 105 [] [] Q := by
  exact ⟨_, _, j_iconst (v := 0) dX12_saved_105 (by decide) <| j_iret dX12_saved_106 rfl, q⟩
theorem bX12_saved_107 {h0 h : k_H} {Q : k_H → k_R → Prop} {x0 : Nat} {x1 x2 x3 x4 : Int32} (w : k_is h x0 15) {P : k_H → Int32 → Prop} (c : k_cti (tX12_writes G l) [vR (some x0), vI x1, vI x2, vI x3, vI x4] h P) (K : ∀ h1 v, P h1 v → k_X (jX12_saved G l h0) h1 116 [] [vI v] Q) : k_X (jX12_saved G l h0) h 107 [(0, vR (some x0)), (1, vI x1), (2, vI x2), (3, vI x3), (4, vI x4)] [] Q := by
  obtain ⟨h1, v, c, p⟩ := c
  obtain ⟨h', r, K, q⟩ := K h1 v p
  exact ⟨h', r, j_aload_n dX12_saved_107 rfl rfl <| j_iload_n dX12_saved_108 rfl rfl <| j_iload_n dX12_saved_109 rfl rfl <| j_iload_n dX12_saved_110 rfl rfl <| j_iload dX12_saved_111 rfl <| j_callV (v := some (vI v)) (as := [vI x1, vI x2, vI x3, vI x4]) dX12_saved_113 kc_X12_385 rfl rfl w (by decide) (Nat.le_of_ble_eq_true rfl) c (j_pick [] rfl K), q⟩
theorem bX12_saved_116 {h0 h : k_H} {Q : k_H → k_R → Prop} {s0 : Int32} (q : Q h (.inl (some (vI s0)))) : k_X (jX12_saved G l h0) h 116 [] [vI s0] Q := by
  exact ⟨_, _, j_iret dX12_saved_116 rfl, q⟩
theorem eX12_save {G : k_G} {l : Launch} (hfl : l.flags = flags0) {h : k_H} {Q : k_H → k_R → Prop} {x0 : Nat} {x1 : Int32} {x2 : Int32} {x3 : Int32} (K : k_X (jX12_save G l h) h 0 [(0, vR (some x0)), (1, vI x1), (2, vI x2), (3, vI x3)] [] Q) : k_ct (tX12_save G l) [vR (some x0), vI x1, vI x2, vI x3] h Q := by
  obtain ⟨h', r, K, q⟩ := K
  exact ⟨h', r, k_CtOf (by decide +kernel) (Nat.le_of_ble_eq_true rfl) K hfl, q⟩

theorem bX12_save_0 {h0 h : k_H} {Q : k_H → k_R → Prop} {x0 : Nat} {x1 x2 x3 : Int32} (w : k_is h x0 15) {P : k_H → Int32 → Prop} (c : k_cti (tX12_saved G l) [vR (some x0), vI x1, vI x2, vI 1, vI x3] h P) (K : ∀ h1 v, P h1 v → k_X (jX12_save G l h0) h1 8 [] [vI v] Q) : k_X (jX12_save G l h0) h 0 [(0, vR (some x0)), (1, vI x1), (2, vI x2), (3, vI x3)] [] Q := by
  obtain ⟨h1, v, c, p⟩ := c
  obtain ⟨h', r, K, q⟩ := K h1 v p
  exact ⟨h', r, j_aload_n dX12_save_0 rfl rfl <| j_iload_n dX12_save_1 rfl rfl <| j_iload_n dX12_save_2 rfl rfl <| j_iconst (v := 1) dX12_save_3 (by decide) <| j_iload_n dX12_save_4 rfl rfl <| j_callV (v := some (vI v)) (as := [vI x1, vI x2, vI 1, vI x3]) dX12_save_5 kc_X12_389 rfl rfl w (by decide) (Nat.le_of_ble_eq_true rfl) c (j_pick [] rfl K), q⟩
theorem bX12_save_8 {h0 h : k_H} {Q : k_H → k_R → Prop} {s0 : Int32} (q : Q h (.inl (some (vI s0)))) : k_X (jX12_save G l h0) h 8 [] [vI s0] Q := by
  exact ⟨_, _, j_iret dX12_save_8 rfl, q⟩
theorem eX12_erase {G : k_G} {l : Launch} (hfl : l.flags = flags0) {h : k_H} {Q : k_H → k_R → Prop} {x0 : Nat} {x1 : Int32} {x2 : Int32} (K : k_X (jX12_erase G l h) h 0 [(0, vR (some x0)), (1, vI x1), (2, vI x2)] [] Q) : k_ct (tX12_erase G l) [vR (some x0), vI x1, vI x2] h Q := by
  obtain ⟨h', r, K, q⟩ := K
  exact ⟨h', r, k_CtOf (by decide +kernel) (Nat.le_of_ble_eq_true rfl) K hfl, q⟩

theorem bX12_erase_0 {h0 h : k_H} {Q : k_H → k_R → Prop} {x0 : Nat} {x1 x2 : Int32} (w : k_is h x0 15) {P : k_H → Int32 → Prop} (c : k_cti (tX12_saved G l) [vR (some x0), vI x1, vI x2, vI 0, vI 0] h P) (K : ∀ h1 v, P h1 v → k_X (jX12_erase G l h0) h1 8 [] [vI v] Q) : k_X (jX12_erase G l h0) h 0 [(0, vR (some x0)), (1, vI x1), (2, vI x2)] [] Q := by
  obtain ⟨h1, v, c, p⟩ := c
  obtain ⟨h', r, K, q⟩ := K h1 v p
  exact ⟨h', r, j_aload_n dX12_erase_0 rfl rfl <| j_iload_n dX12_erase_1 rfl rfl <| j_iload_n dX12_erase_2 rfl rfl <| j_iconst (v := 0) dX12_erase_3 (by decide) <| j_iconst (v := 0) dX12_erase_4 (by decide) <| j_callV (v := some (vI v)) (as := [vI x1, vI x2, vI 0, vI 0]) dX12_erase_5 kc_X12_389 rfl rfl w (by decide) (Nat.le_of_ble_eq_true rfl) c (j_pick [] rfl K), q⟩
theorem bX12_erase_8 {h0 h : k_H} {Q : k_H → k_R → Prop} {s0 : Int32} (q : Q h (.inl (some (vI s0)))) : k_X (jX12_erase G l h0) h 8 [] [vI s0] Q := by
  exact ⟨_, _, j_iret dX12_erase_8 rfl, q⟩
theorem eX12_isIndex {G : k_G} {l : Launch} (hfl : l.flags = flags0) {h : k_H} {Q : k_H → k_R → Prop} {x0 : Int32} (K : k_X (jX12_isIndex G l h) h 0 [(0, vI x0)] [] Q) : k_ct (tX12_isIndex G l) [vI x0] h Q := by
  obtain ⟨h', r, K, q⟩ := K
  exact ⟨h', r, k_CtOf (by decide +kernel) (Nat.le_of_ble_eq_true rfl) K hfl, q⟩

theorem bX12_isIndex_0 {h0 h : k_H} {Q : k_H → k_R → Prop} {x0 : Int32} {P : k_H → Int32 → Prop} (c : k_cti (tX12_isIn G l) [vI x0, vI 0, vI 2] h P) (K : ∀ h1 v, P h1 v → k_X (jX12_isIndex G l h0) h1 6 [] [vI v] Q) : k_X (jX12_isIndex G l h0) h 0 [(0, vI x0)] [] Q := by
  obtain ⟨h1, v, c, p⟩ := c
  obtain ⟨h', r, K, q⟩ := K h1 v p
  exact ⟨h', r, j_iload_n dX12_isIndex_0 rfl rfl <| j_iconst (v := 0) dX12_isIndex_1 (by decide) <| j_iconst (v := 2) dX12_isIndex_2 (by decide) <| j_callS (v := some (vI v)) (as := [vI x0, vI 0, vI 2]) dX12_isIndex_3 kc_X12_137 rfl rfl (by decide) (Nat.le_of_ble_eq_true rfl) c (j_pick [] rfl K), q⟩
theorem bX12_isIndex_6 {h0 h : k_H} {Q : k_H → k_R → Prop} {s0 : Int32} (y1 : k_bl s0) (q : Q h (.inl (some (vI s0)))) : k_X (jX12_isIndex G l h0) h 6 [] [vI s0] Q := by
  exact ⟨_, _, j_zret dX12_isIndex_6 rfl y1, q⟩
theorem eX12_putsFor {G : k_G} {l : Launch} (hfl : l.flags = flags0) {h : k_H} {Q : k_H → k_R → Prop} {x0 : Nat} {x1 : Int32} {x2 : Int32} {x3 : Int32} (K : k_X (jX12_putsFor G l h) h 0 [(0, vR (some x0)), (1, vI x1), (2, vI x2), (3, vI x3)] [] Q) : k_ct (tX12_putsFor G l) [vR (some x0), vI x1, vI x2, vI x3] h Q := by
  obtain ⟨h', r, K, q⟩ := K
  exact ⟨h', r, k_CtOf (by decide +kernel) (Nat.le_of_ble_eq_true rfl) K hfl, q⟩

theorem bX12_putsFor_0 {h0 h : k_H} {Q : k_H → k_R → Prop} {x0 : Nat} {x1 x2 x3 : Int32} (K1 : ¬ (x1 = 1) → k_X (jX12_putsFor G l h0) h 51 [(0, vR (some x0)), (1, vI x1), (2, vI x2), (3, vI x3)] [] Q) (K2 : x1 = 1 → k_X (jX12_putsFor G l h0) h 5 [(0, vR (some x0)), (3, vI x3)] [] Q) : k_X (jX12_putsFor G l h0) h 0 [(0, vR (some x0)), (1, vI x1), (2, vI x2), (3, vI x3)] [] Q := by
  by_cases hc : x1 = 1
  · skip
    obtain ⟨h', r, K, q⟩ := K2 hc
    exact ⟨h', r, j_iload_n dX12_putsFor_0 rfl rfl <| j_iconst (v := 1) dX12_putsFor_1 (by decide) <| j_icmp_ne_f dX12_putsFor_2 51 (by decide) hc (j_pick [0, 3] rfl K), q⟩
  · skip
    obtain ⟨h', r, K, q⟩ := K1 hc
    exact ⟨h', r, j_iload_n dX12_putsFor_0 rfl rfl <| j_iconst (v := 1) dX12_putsFor_1 (by decide) <| j_icmp_ne_t (tgt := 51) dX12_putsFor_2 (by decide) hc K, q⟩
theorem bX12_putsFor_5 {h0 h : k_H} {Q : k_H → k_R → Prop} {x0 : Nat} {x3 : Int32} {P : k_H → Int64 → Prop} (c : k_ctj (tX12_codeOf G l) [vI (-3), vI x3, vI 10000] h P) (K : ∀ h1 v, P h1 v → k_X (jX12_putsFor G l h0) h1 14 [(0, vR (some x0))] [vJ v] Q) : k_X (jX12_putsFor G l h0) h 5 [(0, vR (some x0)), (3, vI x3)] [] Q := by
  obtain ⟨h1, v, c, p⟩ := c
  obtain ⟨h', r, K, q⟩ := K h1 v p
  exact ⟨h', r, j_bipush (v := (-3)) dX12_putsFor_5 (by decide) <| j_iload_n dX12_putsFor_7 rfl rfl <| j_sipush (v := 10000) dX12_putsFor_8 (by decide) <| j_callS (v := some (vJ v)) (as := [vI (-3), vI x3, vI 10000]) dX12_putsFor_11 kc_X12_155 rfl rfl (by decide) (Nat.le_of_ble_eq_true rfl) c (j_pick [0] rfl K), q⟩
theorem bX12_putsFor_14 {h0 h : k_H} {Q : k_H → k_R → Prop} {x0 : Nat} {s0 : Int64} (w : k_is h x0 15) {P : k_H → Int32 → Prop} (c : k_cti (tX12_hasNow G l) [vR (some x0), vJ s0] h P) (K : ∀ h1 v, P h1 v → k_X (jX12_putsFor G l h0) h1 22 [(0, vR (some x0)), (4, vJ s0)] [vI v] Q) : k_X (jX12_putsFor G l h0) h 14 [(0, vR (some x0))] [vJ s0] Q := by
  obtain ⟨h1, v, c, p⟩ := c
  obtain ⟨h', r, K, q⟩ := K h1 v p
  exact ⟨h', r, j_lstore dX12_putsFor_14 (by decide) rfl <| j_aload_n dX12_putsFor_16 rfl rfl <| j_lload dX12_putsFor_17 rfl <| j_callV (v := some (vI v)) (as := [vJ s0]) dX12_putsFor_19 kc_X12_202 rfl rfl w (by decide) (Nat.le_of_ble_eq_true rfl) c K, q⟩
theorem bX12_putsFor_22 {h0 h : k_H} {Q : k_H → k_R → Prop} {x0 : Nat} {x4 : Int64} {s0 : Int32} (K1 : s0 = 0 → k_X (jX12_putsFor G l h0) h 34 [(0, vR (some x0)), (4, vJ x4)] [] Q) (K2 : ¬ (s0 = 0) → k_X (jX12_putsFor G l h0) h 25 [(0, vR (some x0)), (4, vJ x4)] [] Q) : k_X (jX12_putsFor G l h0) h 22 [(0, vR (some x0)), (4, vJ x4)] [vI s0] Q := by
  by_cases hc : s0 = 0
  · skip
    obtain ⟨h', r, K, q⟩ := K1 hc
    exact ⟨h', r, j_if_eq_t (tgt := 34) dX12_putsFor_22 (by decide) hc K, q⟩
  · skip
    obtain ⟨h', r, K, q⟩ := K2 hc
    exact ⟨h', r, j_if_eq_f dX12_putsFor_22 34 (by decide) hc K, q⟩
theorem bX12_putsFor_25 {h0 h : k_H} {Q : k_H → k_R → Prop} {x0 : Nat} {x4 : Int64} (w : k_is h x0 15) {P : k_H → Int32 → Prop} (c : k_cti (tX12_valueNow G l) [vR (some x0), vJ x4] h P) (K : ∀ h1 v, P h1 v → k_X (jX12_putsFor G l h0) h1 31 [(0, vR (some x0)), (4, vJ x4)] [vI v] Q) : k_X (jX12_putsFor G l h0) h 25 [(0, vR (some x0)), (4, vJ x4)] [] Q := by
  obtain ⟨h1, v, c, p⟩ := c
  obtain ⟨h', r, K, q⟩ := K h1 v p
  exact ⟨h', r, j_aload_n dX12_putsFor_25 rfl rfl <| j_lload dX12_putsFor_26 rfl <| j_callV (v := some (vI v)) (as := [vJ x4]) dX12_putsFor_28 kc_X12_206 rfl rfl w (by decide) (Nat.le_of_ble_eq_true rfl) c K, q⟩
theorem bX12_putsFor_31 {h0 h : k_H} {Q : k_H → k_R → Prop} {x0 : Nat} {x4 : Int64} {s0 : Int32} (K : k_X (jX12_putsFor G l h0) h 35 [(0, vR (some x0)), (4, vJ x4)] [vI s0] Q) : k_X (jX12_putsFor G l h0) h 31 [(0, vR (some x0)), (4, vJ x4)] [vI s0] Q := by
  obtain ⟨h', r, K, q⟩ := K
  exact ⟨h', r, j_goto (tgt := 35) dX12_putsFor_31 (by decide) <| K, q⟩
theorem bX12_putsFor_34 {h0 h : k_H} {Q : k_H → k_R → Prop} {x0 : Nat} {x4 : Int64} (K : k_X (jX12_putsFor G l h0) h 35 [(0, vR (some x0)), (4, vJ x4)] [vI 0] Q) : k_X (jX12_putsFor G l h0) h 34 [(0, vR (some x0)), (4, vJ x4)] [] Q := by
  obtain ⟨h', r, K, q⟩ := K
  exact ⟨h', r, j_iconst (v := 0) dX12_putsFor_34 (by decide) <| K, q⟩
theorem bX12_putsFor_35 {h0 h : k_H} {Q : k_H → k_R → Prop} {x0 : Nat} {x4 : Int64} {s0 : Int32} (w : k_is h x0 15) {P : k_H → Prop} (c : k_ctv (tX12_puts G l) [vR (some x0), vJ x4, vI 1, vI (s0 + 1)] h P) (K : ∀ h1, P h1 → k_X (jX12_putsFor G l h0) h1 48 [] [] Q) : k_X (jX12_putsFor G l h0) h 35 [(0, vR (some x0)), (4, vJ x4)] [vI s0] Q := by
  obtain ⟨h1, c, p⟩ := c
  obtain ⟨h', r, K, q⟩ := K h1 p
  exact ⟨h', r, j_istore dX12_putsFor_35 (by decide) rfl <| j_aload_n dX12_putsFor_37 rfl rfl <| j_lload dX12_putsFor_38 rfl <| j_iconst (v := 1) dX12_putsFor_40 (by decide) <| j_iload dX12_putsFor_41 rfl <| j_iconst (v := 1) dX12_putsFor_43 (by decide) <| j_iadd dX12_putsFor_44 <| j_callV (v := none) (as := [vJ x4, vI 1, vI (s0 + 1)]) dX12_putsFor_45 kc_X12_192 rfl rfl w (by decide) (Nat.le_of_ble_eq_true rfl) c (j_pick [] rfl K), q⟩
theorem bX12_putsFor_48 {h0 h : k_H} {Q : k_H → k_R → Prop} (K : k_X (jX12_putsFor G l h0) h 89 [] [] Q) : k_X (jX12_putsFor G l h0) h 48 [] [] Q := by
  obtain ⟨h', r, K, q⟩ := K
  exact ⟨h', r, j_goto (tgt := 89) dX12_putsFor_48 (by decide) <| K, q⟩
theorem bX12_putsFor_51 {h0 h : k_H} {Q : k_H → k_R → Prop} {x0 : Nat} {x1 x2 x3 : Int32} (K1 : ¬ (x1 = 0) → k_X (jX12_putsFor G l h0) h 66 [(0, vR (some x0)), (1, vI x1), (2, vI x2), (3, vI x3)] [vR (some x0)] Q) (K2 : x1 = 0 → k_X (jX12_putsFor G l h0) h 56 [(1, vI x1), (2, vI x2), (3, vI x3)] [vR (some x0)] Q) : k_X (jX12_putsFor G l h0) h 51 [(0, vR (some x0)), (1, vI x1), (2, vI x2), (3, vI x3)] [] Q := by
  by_cases hc : x1 = 0
  · skip
    obtain ⟨h', r, K, q⟩ := K2 hc
    exact ⟨h', r, j_aload_n dX12_putsFor_51 rfl rfl <| j_iload_n dX12_putsFor_52 rfl rfl <| j_if_ne_f dX12_putsFor_53 66 (by decide) hc (j_pick [1, 2, 3] rfl K), q⟩
  · skip
    obtain ⟨h', r, K, q⟩ := K1 hc
    exact ⟨h', r, j_aload_n dX12_putsFor_51 rfl rfl <| j_iload_n dX12_putsFor_52 rfl rfl <| j_if_ne_t (tgt := 66) dX12_putsFor_53 (by decide) hc K, q⟩
theorem bX12_putsFor_56 {h0 h : k_H} {Q : k_H → k_R → Prop} {x1 x2 x3 : Int32} {s0 : Option Nat} {P : k_H → Int64 → Prop} (c : k_ctj (tX12_codeOf G l) [vI (-2), vI x3, vI x2] h P) (K : ∀ h1 v, P h1 v → k_X (jX12_putsFor G l h0) h1 63 [(1, vI x1), (3, vI x3)] [vJ v, vR s0] Q) : k_X (jX12_putsFor G l h0) h 56 [(1, vI x1), (2, vI x2), (3, vI x3)] [vR s0] Q := by
  obtain ⟨h1, v, c, p⟩ := c
  obtain ⟨h', r, K, q⟩ := K h1 v p
  exact ⟨h', r, j_bipush (v := (-2)) dX12_putsFor_56 (by decide) <| j_iload_n dX12_putsFor_58 rfl rfl <| j_iload_n dX12_putsFor_59 rfl rfl <| j_callS (v := some (vJ v)) (as := [vI (-2), vI x3, vI x2]) dX12_putsFor_60 kc_X12_155 rfl rfl (by decide) (Nat.le_of_ble_eq_true rfl) c (j_pick [0, 2] rfl K), q⟩
theorem bX12_putsFor_63 {h0 h : k_H} {Q : k_H → k_R → Prop} {x1 x3 : Int32} {s0 : Option Nat} {s1 : Int64} (K : k_X (jX12_putsFor G l h0) h 76 [(1, vI x1), (3, vI x3)] [vJ s1, vR s0] Q) : k_X (jX12_putsFor G l h0) h 63 [(1, vI x1), (3, vI x3)] [vJ s1, vR s0] Q := by
  obtain ⟨h', r, K, q⟩ := K
  exact ⟨h', r, j_goto (tgt := 76) dX12_putsFor_63 (by decide) <| K, q⟩
theorem bX12_putsFor_66 {h0 h : k_H} {Q : k_H → k_R → Prop} {x0 : Nat} {x1 x2 x3 f1_0 : Int32} {s0 : Option Nat} {fs1 : List k_V} (o1 : h.1 x0 = some (k_o 15 fs1)) (g1_0 : fs1[0]? = some (vI f1_0)) {P : k_H → Int64 → Prop} (c : k_ctj (tX12_codeOf G l) [vI (-4), vI f1_0, vI x2] h P) (K : ∀ h1 v, P h1 v → k_X (jX12_putsFor G l h0) h1 76 [(1, vI x1), (3, vI x3)] [vJ v, vR s0] Q) : k_X (jX12_putsFor G l h0) h 66 [(0, vR (some x0)), (1, vI x1), (2, vI x2), (3, vI x3)] [vR s0] Q := by
  obtain ⟨h1, v, c, p⟩ := c
  obtain ⟨h', r, K, q⟩ := K h1 v p
  exact ⟨h', r, j_bipush (v := (-4)) dX12_putsFor_66 (by decide) <| j_aload_n dX12_putsFor_68 rfl rfl <| j_getf dX12_putsFor_69 kf_X12_176 o1 g1_0 <| j_iload_n dX12_putsFor_72 rfl rfl <| j_callS (v := some (vJ v)) (as := [vI (-4), vI f1_0, vI x2]) dX12_putsFor_73 kc_X12_155 rfl rfl (by decide) (Nat.le_of_ble_eq_true rfl) c (j_pick [1, 3] rfl K), q⟩
theorem bX12_putsFor_76 {h0 h : k_H} {Q : k_H → k_R → Prop} {x1 x3 : Int32} {s0 : Option Nat} {s1 : Int64} (K1 : ¬ (x1 = 0) → k_X (jX12_putsFor G l h0) h 85 [(3, vI x3)] [vI 1, vJ s1, vR s0] Q) (K2 : x1 = 0 → k_X (jX12_putsFor G l h0) h 81 [] [vI 1, vJ s1, vR s0] Q) : k_X (jX12_putsFor G l h0) h 76 [(1, vI x1), (3, vI x3)] [vJ s1, vR s0] Q := by
  by_cases hc : x1 = 0
  · skip
    obtain ⟨h', r, K, q⟩ := K2 hc
    exact ⟨h', r, j_iconst (v := 1) dX12_putsFor_76 (by decide) <| j_iload_n dX12_putsFor_77 rfl rfl <| j_if_ne_f dX12_putsFor_78 85 (by decide) hc (j_pick [] rfl K), q⟩
  · skip
    obtain ⟨h', r, K, q⟩ := K1 hc
    exact ⟨h', r, j_iconst (v := 1) dX12_putsFor_76 (by decide) <| j_iload_n dX12_putsFor_77 rfl rfl <| j_if_ne_t (tgt := 85) dX12_putsFor_78 (by decide) hc (j_pick [1] rfl K), q⟩
theorem bX12_putsFor_81 {h0 h : k_H} {Q : k_H → k_R → Prop} {s0 : Option Nat} {s1 : Int64} {s2 : Int32} (K : k_X (jX12_putsFor G l h0) h 86 [] [vI 0, vI s2, vJ s1, vR s0] Q) : k_X (jX12_putsFor G l h0) h 81 [] [vI s2, vJ s1, vR s0] Q := by
  obtain ⟨h', r, K, q⟩ := K
  exact ⟨h', r, j_iconst (v := 0) dX12_putsFor_81 (by decide) <| j_goto (tgt := 86) dX12_putsFor_82 (by decide) <| K, q⟩
theorem bX12_putsFor_85 {h0 h : k_H} {Q : k_H → k_R → Prop} {x3 s2 : Int32} {s0 : Option Nat} {s1 : Int64} (K : k_X (jX12_putsFor G l h0) h 86 [] [vI x3, vI s2, vJ s1, vR s0] Q) : k_X (jX12_putsFor G l h0) h 85 [(3, vI x3)] [vI s2, vJ s1, vR s0] Q := by
  obtain ⟨h', r, K, q⟩ := K
  exact ⟨h', r, j_iload_n dX12_putsFor_85 rfl rfl <| (j_pick [] rfl K), q⟩
theorem bX12_putsFor_86 {h0 h : k_H} {Q : k_H → k_R → Prop} {s0 : Nat} {s1 : Int64} {s2 s3 : Int32} (w : k_is h s0 15) {P : k_H → Prop} (c : k_ctv (tX12_puts G l) [vR (some s0), vJ s1, vI s2, vI s3] h P) (K : ∀ h1, P h1 → k_X (jX12_putsFor G l h0) h1 89 [] [] Q) : k_X (jX12_putsFor G l h0) h 86 [] [vI s3, vI s2, vJ s1, vR (some s0)] Q := by
  obtain ⟨h1, c, p⟩ := c
  obtain ⟨h', r, K, q⟩ := K h1 p
  exact ⟨h', r, j_callV (v := none) (as := [vJ s1, vI s2, vI s3]) dX12_putsFor_86 kc_X12_192 rfl rfl w (by decide) (Nat.le_of_ble_eq_true rfl) c K, q⟩
theorem bX12_putsFor_89 {h0 h : k_H} {Q : k_H → k_R → Prop} (q : Q h (.inl none)) : k_X (jX12_putsFor G l h0) h 89 [] [] Q := by
  exact ⟨_, _, j_vret dX12_putsFor_89 rfl, q⟩
theorem eX12_build {G : k_G} {l : Launch} (hfl : l.flags = flags0) {h : k_H} {Q : k_H → k_R → Prop} {x0 : Nat} {x1 : Int32} {x2 : Int32} (K : k_X (jX12_build G l h) h 0 [(0, vR (some x0)), (1, vI x1), (2, vI x2)] [] Q) : k_ct (tX12_build G l) [vR (some x0), vI x1, vI x2] h Q := by
  obtain ⟨h', r, K, q⟩ := K
  exact ⟨h', r, k_CtOf (by decide +kernel) (Nat.le_of_ble_eq_true rfl) K hfl, q⟩

theorem bX12_build_0 {h0 h : k_H} {Q : k_H → k_R → Prop} {x0 : Nat} {x1 x2 : Int32} {P : k_H → Int32 → Prop} (c : k_cti (tX12_isIndex G l) [vI x1] h P) (K : ∀ h1 v, P h1 v → k_X (jX12_build G l h0) h1 4 [(0, vR (some x0)), (1, vI x1), (2, vI x2)] [vI v] Q) : k_X (jX12_build G l h0) h 0 [(0, vR (some x0)), (1, vI x1), (2, vI x2)] [] Q := by
  obtain ⟨h1, v, c, p⟩ := c
  obtain ⟨h', r, K, q⟩ := K h1 v p
  exact ⟨h', r, j_iload_n dX12_build_0 rfl rfl <| j_callS (v := some (vI v)) (as := [vI x1]) dX12_build_1 kc_X12_392 rfl rfl (by decide) (Nat.le_of_ble_eq_true rfl) c K, q⟩
theorem bX12_build_4 {h0 h : k_H} {Q : k_H → k_R → Prop} {x0 : Nat} {x1 x2 s0 : Int32} {P : k_H → Int32 → Prop} (c : k_cti (tX12_isIn G l) [vI x2, vI 1, vI 20] h P) (K : ∀ h1 v, P h1 v → k_X (jX12_build G l h0) h1 12 [(0, vR (some x0)), (1, vI x1), (2, vI x2), (3, vI s0)] [vI v] Q) : k_X (jX12_build G l h0) h 4 [(0, vR (some x0)), (1, vI x1), (2, vI x2)] [vI s0] Q := by
  obtain ⟨h1, v, c, p⟩ := c
  obtain ⟨h', r, K, q⟩ := K h1 v p
  exact ⟨h', r, j_istore_n dX12_build_4 rfl (by decide) rfl <| j_iload_n dX12_build_5 rfl rfl <| j_iconst (v := 1) dX12_build_6 (by decide) <| j_bipush (v := 20) dX12_build_7 (by decide) <| j_callS (v := some (vI v)) (as := [vI x2, vI 1, vI 20]) dX12_build_9 kc_X12_137 rfl rfl (by decide) (Nat.le_of_ble_eq_true rfl) c K, q⟩
theorem bX12_build_12 {h0 h : k_H} {Q : k_H → k_R → Prop} {x0 : Nat} {x1 x2 x3 s0 : Int32} (K1 : x3 = 0 → k_X (jX12_build G l h0) h 29 [(0, vR (some x0)), (1, vI x1), (2, vI x2), (3, vI x3), (4, vI s0)] [] Q) (K2 : ¬ (x3 = 0) → k_X (jX12_build G l h0) h 18 [(0, vR (some x0)), (1, vI x1), (2, vI x2), (3, vI x3), (4, vI s0)] [] Q) : k_X (jX12_build G l h0) h 12 [(0, vR (some x0)), (1, vI x1), (2, vI x2), (3, vI x3)] [vI s0] Q := by
  by_cases hc : x3 = 0
  · skip
    obtain ⟨h', r, K, q⟩ := K1 hc
    exact ⟨h', r, j_istore dX12_build_12 (by decide) rfl <| j_iload_n dX12_build_14 rfl rfl <| j_if_eq_t (tgt := 29) dX12_build_15 (by decide) hc K, q⟩
  · skip
    obtain ⟨h', r, K, q⟩ := K2 hc
    exact ⟨h', r, j_istore dX12_build_12 (by decide) rfl <| j_iload_n dX12_build_14 rfl rfl <| j_if_eq_f dX12_build_15 29 (by decide) hc K, q⟩
theorem bX12_build_18 {h0 h : k_H} {Q : k_H → k_R → Prop} {x0 : Nat} {x1 x2 x3 x4 : Int32} {P : k_H → Int64 → Prop} (c : k_ctj (tX12_indexOf G l) [vI x1] h P) (K : ∀ h1 v, P h1 v → k_X (jX12_build G l h0) h1 23 [(0, vR (some x0)), (1, vI x1), (2, vI x2), (3, vI x3), (4, vI x4)] [vJ v, vR (some x0)] Q) : k_X (jX12_build G l h0) h 18 [(0, vR (some x0)), (1, vI x1), (2, vI x2), (3, vI x3), (4, vI x4)] [] Q := by
  obtain ⟨h1, v, c, p⟩ := c
  obtain ⟨h', r, K, q⟩ := K h1 v p
  exact ⟨h', r, j_aload_n dX12_build_18 rfl rfl <| j_iload_n dX12_build_19 rfl rfl <| j_callS (v := some (vJ v)) (as := [vI x1]) dX12_build_20 kc_X12_363 rfl rfl (by decide) (Nat.le_of_ble_eq_true rfl) c K, q⟩
theorem bX12_build_23 {h0 h : k_H} {Q : k_H → k_R → Prop} {x0 s0 : Nat} {x1 x2 x3 x4 : Int32} {s1 : Int64} (w : k_is h s0 15) {P : k_H → Int32 → Prop} (c : k_cti (tX12_valueNow G l) [vR (some s0), vJ s1] h P) (K : ∀ h1 v, P h1 v → k_X (jX12_build G l h0) h1 26 [(0, vR (some x0)), (1, vI x1), (2, vI x2), (3, vI x3), (4, vI x4)] [vI v] Q) : k_X (jX12_build G l h0) h 23 [(0, vR (some x0)), (1, vI x1), (2, vI x2), (3, vI x3), (4, vI x4)] [vJ s1, vR (some s0)] Q := by
  obtain ⟨h1, v, c, p⟩ := c
  obtain ⟨h', r, K, q⟩ := K h1 v p
  exact ⟨h', r, j_callV (v := some (vI v)) (as := [vJ s1]) dX12_build_23 kc_X12_206 rfl rfl w (by decide) (Nat.le_of_ble_eq_true rfl) c K, q⟩
theorem bX12_build_26 {h0 h : k_H} {Q : k_H → k_R → Prop} {x0 : Nat} {x1 x2 x3 x4 s0 : Int32} (K : k_X (jX12_build G l h0) h 31 [(0, vR (some x0)), (1, vI x1), (2, vI x2), (3, vI x3), (4, vI x4)] [vI s0] Q) : k_X (jX12_build G l h0) h 26 [(0, vR (some x0)), (1, vI x1), (2, vI x2), (3, vI x3), (4, vI x4)] [vI s0] Q := by
  obtain ⟨h', r, K, q⟩ := K
  exact ⟨h', r, j_goto (tgt := 31) dX12_build_26 (by decide) <| K, q⟩
theorem bX12_build_29 {h0 h : k_H} {Q : k_H → k_R → Prop} {x0 : Nat} {x1 x2 x3 x4 : Int32} (K : k_X (jX12_build G l h0) h 31 [(0, vR (some x0)), (1, vI x1), (2, vI x2), (3, vI x3), (4, vI x4)] [vI (-2147483648)] Q) : k_X (jX12_build G l h0) h 29 [(0, vR (some x0)), (1, vI x1), (2, vI x2), (3, vI x3), (4, vI x4)] [] Q := by
  obtain ⟨h', r, K, q⟩ := K
  exact ⟨h', r, j_ldc (v := (-2147483648)) dX12_build_29 ki_X12_87 <| K, q⟩
theorem bX12_build_31 {h0 h : k_H} {Q : k_H → k_R → Prop} {x0 : Nat} {x1 x2 x3 x4 s0 : Int32} (K1 : ¬ (x3 = 0) → k_X (jX12_build G l h0) h 42 [(0, vR (some x0)), (1, vI x1), (2, vI x2), (4, vI x4), (5, vI s0)] [vR (some x0)] Q) (K2 : x3 = 0 → k_X (jX12_build G l h0) h 38 [(0, vR (some x0)), (1, vI x1), (2, vI x2), (5, vI s0)] [vR (some x0)] Q) : k_X (jX12_build G l h0) h 31 [(0, vR (some x0)), (1, vI x1), (2, vI x2), (3, vI x3), (4, vI x4)] [vI s0] Q := by
  by_cases hc : x3 = 0
  · skip
    obtain ⟨h', r, K, q⟩ := K2 hc
    exact ⟨h', r, j_istore dX12_build_31 (by decide) rfl <| j_aload_n dX12_build_33 rfl rfl <| j_iload_n dX12_build_34 rfl rfl <| j_if_ne_f dX12_build_35 42 (by decide) hc (j_pick [0, 1, 2, 5] rfl K), q⟩
  · skip
    obtain ⟨h', r, K, q⟩ := K1 hc
    exact ⟨h', r, j_istore dX12_build_31 (by decide) rfl <| j_aload_n dX12_build_33 rfl rfl <| j_iload_n dX12_build_34 rfl rfl <| j_if_ne_t (tgt := 42) dX12_build_35 (by decide) hc (j_pick [0, 1, 2, 4, 5] rfl K), q⟩
theorem bX12_build_38 {h0 h : k_H} {Q : k_H → k_R → Prop} {x0 : Nat} {x1 x2 x5 : Int32} {s0 : Option Nat} (K : k_X (jX12_build G l h0) h 71 [(0, vR (some x0)), (1, vI x1), (2, vI x2), (5, vI x5)] [vI 1, vR s0] Q) : k_X (jX12_build G l h0) h 38 [(0, vR (some x0)), (1, vI x1), (2, vI x2), (5, vI x5)] [vR s0] Q := by
  obtain ⟨h', r, K, q⟩ := K
  exact ⟨h', r, j_iconst (v := 1) dX12_build_38 (by decide) <| j_goto (tgt := 71) dX12_build_39 (by decide) <| K, q⟩
theorem bX12_build_42 {h0 h : k_H} {Q : k_H → k_R → Prop} {x0 : Nat} {x1 x2 x4 x5 : Int32} {s0 : Option Nat} (K1 : ¬ (x4 = 0) → k_X (jX12_build G l h0) h 51 [(0, vR (some x0)), (1, vI x1), (2, vI x2), (5, vI x5)] [vR s0] Q) (K2 : x4 = 0 → k_X (jX12_build G l h0) h 47 [(0, vR (some x0)), (1, vI x1), (2, vI x2), (5, vI x5)] [vR s0] Q) : k_X (jX12_build G l h0) h 42 [(0, vR (some x0)), (1, vI x1), (2, vI x2), (4, vI x4), (5, vI x5)] [vR s0] Q := by
  by_cases hc : x4 = 0
  · skip
    obtain ⟨h', r, K, q⟩ := K2 hc
    exact ⟨h', r, j_iload dX12_build_42 rfl <| j_if_ne_f dX12_build_44 51 (by decide) hc (j_pick [0, 1, 2, 4] rfl K), q⟩
  · skip
    obtain ⟨h', r, K, q⟩ := K1 hc
    exact ⟨h', r, j_iload dX12_build_42 rfl <| j_if_ne_t (tgt := 51) dX12_build_44 (by decide) hc (j_pick [0, 1, 2, 4] rfl K), q⟩
theorem bX12_build_47 {h0 h : k_H} {Q : k_H → k_R → Prop} {x0 : Nat} {x1 x2 x5 : Int32} {s0 : Option Nat} (K : k_X (jX12_build G l h0) h 71 [(0, vR (some x0)), (1, vI x1), (2, vI x2), (5, vI x5)] [vI 2, vR s0] Q) : k_X (jX12_build G l h0) h 47 [(0, vR (some x0)), (1, vI x1), (2, vI x2), (5, vI x5)] [vR s0] Q := by
  obtain ⟨h', r, K, q⟩ := K
  exact ⟨h', r, j_iconst (v := 2) dX12_build_47 (by decide) <| j_goto (tgt := 71) dX12_build_48 (by decide) <| K, q⟩
theorem bX12_build_51 {h0 h : k_H} {Q : k_H → k_R → Prop} {x0 : Nat} {x1 x2 x5 : Int32} {s0 : Option Nat} (K1 : x5 = (-2147483648) → k_X (jX12_build G l h0) h 66 [(0, vR (some x0)), (1, vI x1), (2, vI x2), (5, vI x5)] [vR s0] Q) (K2 : ¬ (x5 = (-2147483648)) → k_X (jX12_build G l h0) h 58 [(0, vR (some x0)), (1, vI x1), (2, vI x2), (5, vI x5)] [vR s0] Q) : k_X (jX12_build G l h0) h 51 [(0, vR (some x0)), (1, vI x1), (2, vI x2), (5, vI x5)] [vR s0] Q := by
  by_cases hc : x5 = (-2147483648)
  · skip
    obtain ⟨h', r, K, q⟩ := K1 hc
    exact ⟨h', r, j_iload dX12_build_51 rfl <| j_ldc (v := (-2147483648)) dX12_build_53 ki_X12_87 <| j_icmp_eq_t (tgt := 66) dX12_build_55 (by decide) hc K, q⟩
  · skip
    obtain ⟨h', r, K, q⟩ := K2 hc
    exact ⟨h', r, j_iload dX12_build_51 rfl <| j_ldc (v := (-2147483648)) dX12_build_53 ki_X12_87 <| j_icmp_eq_f dX12_build_55 66 (by decide) hc K, q⟩
theorem bX12_build_58 {h0 h : k_H} {Q : k_H → k_R → Prop} {x0 : Nat} {x1 x2 x5 : Int32} {s0 : Option Nat} (K1 : ¬ (x5 = 1000) → k_X (jX12_build G l h0) h 70 [(0, vR (some x0)), (1, vI x1), (2, vI x2), (5, vI x5)] [vR s0] Q) (K2 : x5 = 1000 → k_X (jX12_build G l h0) h 66 [(0, vR (some x0)), (1, vI x1), (2, vI x2), (5, vI x5)] [vR s0] Q) : k_X (jX12_build G l h0) h 58 [(0, vR (some x0)), (1, vI x1), (2, vI x2), (5, vI x5)] [vR s0] Q := by
  by_cases hc : x5 = 1000
  · skip
    obtain ⟨h', r, K, q⟩ := K2 hc
    exact ⟨h', r, j_iload dX12_build_58 rfl <| j_sipush (v := 1000) dX12_build_60 (by decide) <| j_icmp_ne_f dX12_build_63 70 (by decide) hc K, q⟩
  · skip
    obtain ⟨h', r, K, q⟩ := K1 hc
    exact ⟨h', r, j_iload dX12_build_58 rfl <| j_sipush (v := 1000) dX12_build_60 (by decide) <| j_icmp_ne_t (tgt := 70) dX12_build_63 (by decide) hc K, q⟩
theorem bX12_build_66 {h0 h : k_H} {Q : k_H → k_R → Prop} {x0 : Nat} {x1 x2 x5 : Int32} {s0 : Option Nat} (K : k_X (jX12_build G l h0) h 71 [(0, vR (some x0)), (1, vI x1), (2, vI x2), (5, vI x5)] [vI 3, vR s0] Q) : k_X (jX12_build G l h0) h 66 [(0, vR (some x0)), (1, vI x1), (2, vI x2), (5, vI x5)] [vR s0] Q := by
  obtain ⟨h', r, K, q⟩ := K
  exact ⟨h', r, j_iconst (v := 3) dX12_build_66 (by decide) <| j_goto (tgt := 71) dX12_build_67 (by decide) <| K, q⟩
theorem bX12_build_70 {h0 h : k_H} {Q : k_H → k_R → Prop} {x0 : Nat} {x1 x2 x5 : Int32} {s0 : Option Nat} (K : k_X (jX12_build G l h0) h 71 [(0, vR (some x0)), (1, vI x1), (2, vI x2), (5, vI x5)] [vI 0, vR s0] Q) : k_X (jX12_build G l h0) h 70 [(0, vR (some x0)), (1, vI x1), (2, vI x2), (5, vI x5)] [vR s0] Q := by
  obtain ⟨h', r, K, q⟩ := K
  exact ⟨h', r, j_iconst (v := 0) dX12_build_70 (by decide) <| K, q⟩
theorem bX12_build_71 {h0 h : k_H} {Q : k_H → k_R → Prop} {x0 s0 : Nat} {x1 x2 x5 s1 : Int32} (w : k_is h s0 15) {P : k_H → Int32 → Prop} (c : k_cti (tX12_goes G l) [vR (some s0), vI s1] h P) (K : ∀ h1 v, P h1 v → k_X (jX12_build G l h0) h1 74 [(0, vR (some x0)), (1, vI x1), (2, vI x2), (5, vI x5)] [vI v] Q) : k_X (jX12_build G l h0) h 71 [(0, vR (some x0)), (1, vI x1), (2, vI x2), (5, vI x5)] [vI s1, vR (some s0)] Q := by
  obtain ⟨h1, v, c, p⟩ := c
  obtain ⟨h', r, K, q⟩ := K h1 v p
  exact ⟨h', r, j_callV (v := some (vI v)) (as := [vI s1]) dX12_build_71 kc_X12_265 rfl rfl w (by decide) (Nat.le_of_ble_eq_true rfl) c K, q⟩
theorem bX12_build_74 {h0 h : k_H} {Q : k_H → k_R → Prop} {x0 : Nat} {x1 x2 x5 s0 : Int32} (K1 : ¬ (s0 = 0) → k_X (jX12_build G l h0) h 79 [(0, vR (some x0)), (1, vI x1), (2, vI x2), (5, vI x5)] [] Q) (K2 : s0 = 0 → k_X (jX12_build G l h0) h 77 [] [] Q) : k_X (jX12_build G l h0) h 74 [(0, vR (some x0)), (1, vI x1), (2, vI x2), (5, vI x5)] [vI s0] Q := by
  by_cases hc : s0 = 0
  · skip
    obtain ⟨h', r, K, q⟩ := K2 hc
    exact ⟨h', r, j_if_ne_f dX12_build_74 79 (by decide) hc (j_pick [] rfl K), q⟩
  · skip
    obtain ⟨h', r, K, q⟩ := K1 hc
    exact ⟨h', r, j_if_ne_t (tgt := 79) dX12_build_74 (by decide) hc K, q⟩
theorem bX12_build_77 {h0 h : k_H} {Q : k_H → k_R → Prop} (q : Q h (.inl (some (vI 0)))) : k_X (jX12_build G l h0) h 77 [] [] Q := by
  exact ⟨_, _, j_iconst (v := 0) dX12_build_77 (by decide) <| j_iret dX12_build_78 rfl, q⟩
theorem bX12_build_79 {h0 h : k_H} {Q : k_H → k_R → Prop} {x0 : Nat} {x1 x2 x5 : Int32} (w : k_is h x0 15) {P : k_H → Prop} (c : k_ctv (tX12_opens G l) [vR (some x0)] h P) (K : ∀ h1, P h1 → k_X (jX12_build G l h0) h1 83 [(0, vR (some x0)), (1, vI x1), (2, vI x2), (5, vI x5)] [] Q) : k_X (jX12_build G l h0) h 79 [(0, vR (some x0)), (1, vI x1), (2, vI x2), (5, vI x5)] [] Q := by
  obtain ⟨h1, c, p⟩ := c
  obtain ⟨h', r, K, q⟩ := K h1 p
  exact ⟨h', r, j_aload_n dX12_build_79 rfl rfl <| j_callV (v := none) (as := []) dX12_build_80 kc_X12_319 rfl rfl w (by decide) (Nat.le_of_ble_eq_true rfl) c K, q⟩
theorem bX12_build_83 {h0 h : k_H} {Q : k_H → k_R → Prop} {x0 : Nat} {x1 x2 x5 : Int32} (K : k_X (jX12_build G l h0) h 96 [(0, vR (some x0)), (1, vI x1), (2, vI x2), (5, vI x5), (6, vI 0), (7, vI x5), (8, vI 0), (9, vI 0)] [] Q) : k_X (jX12_build G l h0) h 83 [(0, vR (some x0)), (1, vI x1), (2, vI x2), (5, vI x5)] [] Q := by
  obtain ⟨h', r, K, q⟩ := K
  exact ⟨h', r, j_iconst (v := 0) dX12_build_83 (by decide) <| j_istore dX12_build_84 (by decide) rfl <| j_iload dX12_build_86 rfl <| j_istore dX12_build_88 (by decide) rfl <| j_iconst (v := 0) dX12_build_90 (by decide) <| j_istore dX12_build_91 (by decide) rfl <| j_iconst (v := 0) dX12_build_93 (by decide) <| j_istore dX12_build_94 (by decide) rfl <| K, q⟩
theorem bX12_build_96 {h0 h : k_H} {Q : k_H → k_R → Prop} {x0 : Nat} {x1 x2 x5 x6 x7 x8 x9 : Int32} (K1 : 100 ≤ x9 → k_X (jX12_build G l h0) h 180 [(0, vR (some x0)), (1, vI x1), (6, vI x6), (7, vI x7), (8, vI x8)] [] Q) (K2 : ¬ (100 ≤ x9) → k_X (jX12_build G l h0) h 103 [(0, vR (some x0)), (1, vI x1), (2, vI x2), (5, vI x5), (6, vI x6), (7, vI x7), (8, vI x8), (9, vI x9)] [] Q) : k_X (jX12_build G l h0) h 96 [(0, vR (some x0)), (1, vI x1), (2, vI x2), (5, vI x5), (6, vI x6), (7, vI x7), (8, vI x8), (9, vI x9)] [] Q := by
  by_cases hc : 100 ≤ x9
  · skip
    obtain ⟨h', r, K, q⟩ := K1 hc
    exact ⟨h', r, j_iload dX12_build_96 rfl <| j_bipush (v := 100) dX12_build_98 (by decide) <| j_icmp_ge_t (tgt := 180) dX12_build_100 (by decide) hc (j_pick [0, 1, 4, 5, 6] rfl K), q⟩
  · skip
    obtain ⟨h', r, K, q⟩ := K2 hc
    exact ⟨h', r, j_iload dX12_build_96 rfl <| j_bipush (v := 100) dX12_build_98 (by decide) <| j_icmp_ge_f dX12_build_100 180 (by decide) hc K, q⟩
theorem bX12_build_103 {h0 h : k_H} {Q : k_H → k_R → Prop} {x0 : Nat} {x1 x2 x5 x6 x7 x8 x9 : Int32} (K1 : x9 ≤ x5 → k_X (jX12_build G l h0) h 126 [(0, vR (some x0)), (1, vI x1), (2, vI x2), (5, vI x5), (6, vI x6), (7, vI x7), (8, vI x8), (9, vI x9)] [] Q) (K2 : ¬ (x9 ≤ x5) → k_X (jX12_build G l h0) h 110 [(0, vR (some x0)), (1, vI x1), (2, vI x2), (5, vI x5), (6, vI x6), (7, vI x7), (8, vI x8), (9, vI x9)] [] Q) : k_X (jX12_build G l h0) h 103 [(0, vR (some x0)), (1, vI x1), (2, vI x2), (5, vI x5), (6, vI x6), (7, vI x7), (8, vI x8), (9, vI x9)] [] Q := by
  by_cases hc : x9 ≤ x5
  · skip
    obtain ⟨h', r, K, q⟩ := K1 hc
    exact ⟨h', r, j_iload dX12_build_103 rfl <| j_iload dX12_build_105 rfl <| j_icmp_le_t (tgt := 126) dX12_build_107 (by decide) hc K, q⟩
  · skip
    obtain ⟨h', r, K, q⟩ := K2 hc
    exact ⟨h', r, j_iload dX12_build_103 rfl <| j_iload dX12_build_105 rfl <| j_icmp_le_f dX12_build_107 126 (by decide) hc K, q⟩
theorem bX12_build_110 {h0 h : k_H} {Q : k_H → k_R → Prop} {x0 : Nat} {x1 x2 x5 x6 x7 x8 x9 : Int32} {P : k_H → Int64 → Prop} (c : k_ctj (tX12_recordOf G l) [vI x9] h P) (K : ∀ h1 v, P h1 v → k_X (jX12_build G l h0) h1 116 [(0, vR (some x0)), (1, vI x1), (2, vI x2), (5, vI x5), (6, vI x6), (7, vI x7), (8, vI x8), (9, vI x9)] [vJ v, vR (some x0)] Q) : k_X (jX12_build G l h0) h 110 [(0, vR (some x0)), (1, vI x1), (2, vI x2), (5, vI x5), (6, vI x6), (7, vI x7), (8, vI x8), (9, vI x9)] [] Q := by
  obtain ⟨h1, v, c, p⟩ := c
  obtain ⟨h', r, K, q⟩ := K h1 v p
  exact ⟨h', r, j_aload_n dX12_build_110 rfl rfl <| j_iload dX12_build_111 rfl <| j_callS (v := some (vJ v)) (as := [vI x9]) dX12_build_113 kc_X12_366 rfl rfl (by decide) (Nat.le_of_ble_eq_true rfl) c K, q⟩
theorem bX12_build_116 {h0 h : k_H} {Q : k_H → k_R → Prop} {x0 s0 : Nat} {x1 x2 x5 x6 x7 x8 x9 : Int32} {s1 : Int64} (w : k_is h s0 15) {P : k_H → Int32 → Prop} (c : k_cti (tX12_hasNow G l) [vR (some s0), vJ s1] h P) (K : ∀ h1 v, P h1 v → k_X (jX12_build G l h0) h1 119 [(0, vR (some x0)), (1, vI x1), (2, vI x2), (5, vI x5), (6, vI x6), (7, vI x7), (8, vI x8), (9, vI x9)] [vI v] Q) : k_X (jX12_build G l h0) h 116 [(0, vR (some x0)), (1, vI x1), (2, vI x2), (5, vI x5), (6, vI x6), (7, vI x7), (8, vI x8), (9, vI x9)] [vJ s1, vR (some s0)] Q := by
  obtain ⟨h1, v, c, p⟩ := c
  obtain ⟨h', r, K, q⟩ := K h1 v p
  exact ⟨h', r, j_callV (v := some (vI v)) (as := [vJ s1]) dX12_build_116 kc_X12_202 rfl rfl w (by decide) (Nat.le_of_ble_eq_true rfl) c K, q⟩
theorem bX12_build_119 {h0 h : k_H} {Q : k_H → k_R → Prop} {x0 : Nat} {x1 x2 x5 x6 x7 x8 x9 s0 : Int32} (K1 : s0 = 0 → k_X (jX12_build G l h0) h 126 [(0, vR (some x0)), (1, vI x1), (2, vI x2), (5, vI x5), (6, vI x6), (7, vI x7), (8, vI x8), (9, vI x9)] [] Q) (K2 : ¬ (s0 = 0) → k_X (jX12_build G l h0) h 122 [(0, vR (some x0)), (1, vI x1), (2, vI x2), (5, vI x5), (6, vI x6), (7, vI x7), (8, vI x8), (9, vI x9)] [] Q) : k_X (jX12_build G l h0) h 119 [(0, vR (some x0)), (1, vI x1), (2, vI x2), (5, vI x5), (6, vI x6), (7, vI x7), (8, vI x8), (9, vI x9)] [vI s0] Q := by
  by_cases hc : s0 = 0
  · skip
    obtain ⟨h', r, K, q⟩ := K1 hc
    exact ⟨h', r, j_if_eq_t (tgt := 126) dX12_build_119 (by decide) hc K, q⟩
  · skip
    obtain ⟨h', r, K, q⟩ := K2 hc
    exact ⟨h', r, j_if_eq_f dX12_build_119 126 (by decide) hc K, q⟩
theorem bX12_build_122 {h0 h : k_H} {Q : k_H → k_R → Prop} {x0 : Nat} {x1 x2 x5 x6 x7 x8 x9 : Int32} (K : k_X (jX12_build G l h0) h 127 [(0, vR (some x0)), (1, vI x1), (2, vI x2), (5, vI x5), (6, vI x6), (7, vI x7), (8, vI x8), (9, vI x9)] [vI 1] Q) : k_X (jX12_build G l h0) h 122 [(0, vR (some x0)), (1, vI x1), (2, vI x2), (5, vI x5), (6, vI x6), (7, vI x7), (8, vI x8), (9, vI x9)] [] Q := by
  obtain ⟨h', r, K, q⟩ := K
  exact ⟨h', r, j_iconst (v := 1) dX12_build_122 (by decide) <| j_goto (tgt := 127) dX12_build_123 (by decide) <| K, q⟩
theorem bX12_build_126 {h0 h : k_H} {Q : k_H → k_R → Prop} {x0 : Nat} {x1 x2 x5 x6 x7 x8 x9 : Int32} (K : k_X (jX12_build G l h0) h 127 [(0, vR (some x0)), (1, vI x1), (2, vI x2), (5, vI x5), (6, vI x6), (7, vI x7), (8, vI x8), (9, vI x9)] [vI 0] Q) : k_X (jX12_build G l h0) h 126 [(0, vR (some x0)), (1, vI x1), (2, vI x2), (5, vI x5), (6, vI x6), (7, vI x7), (8, vI x8), (9, vI x9)] [] Q := by
  obtain ⟨h', r, K, q⟩ := K
  exact ⟨h', r, j_iconst (v := 0) dX12_build_126 (by decide) <| K, q⟩
theorem bX12_build_127 {h0 h : k_H} {Q : k_H → k_R → Prop} {x0 : Nat} {x1 x2 x5 x6 x7 x8 x9 s0 : Int32} (K1 : s0 = 0 → k_X (jX12_build G l h0) h 166 [(0, vR (some x0)), (1, vI x1), (2, vI x2), (5, vI x5), (6, vI x6), (7, vI x7), (8, vI x8), (9, vI x9), (10, vI s0)] [] Q) (K2 : ¬ (s0 = 0) → k_X (jX12_build G l h0) h 134 [(0, vR (some x0)), (1, vI x1), (2, vI x2), (5, vI x5), (6, vI x6), (7, vI x7), (8, vI x8), (9, vI x9), (10, vI s0)] [] Q) : k_X (jX12_build G l h0) h 127 [(0, vR (some x0)), (1, vI x1), (2, vI x2), (5, vI x5), (6, vI x6), (7, vI x7), (8, vI x8), (9, vI x9)] [vI s0] Q := by
  by_cases hc : s0 = 0
  · skip
    obtain ⟨h', r, K, q⟩ := K1 hc
    exact ⟨h', r, j_istore dX12_build_127 (by decide) rfl <| j_iload dX12_build_129 rfl <| j_if_eq_t (tgt := 166) dX12_build_131 (by decide) hc K, q⟩
  · skip
    obtain ⟨h', r, K, q⟩ := K2 hc
    exact ⟨h', r, j_istore dX12_build_127 (by decide) rfl <| j_iload dX12_build_129 rfl <| j_if_eq_f dX12_build_131 166 (by decide) hc K, q⟩
theorem bX12_build_134 {h0 h : k_H} {Q : k_H → k_R → Prop} {x0 : Nat} {x1 x2 x5 x6 x7 x8 x9 x10 : Int32} (K1 : x2 ≤ x6 → k_X (jX12_build G l h0) h 166 [(0, vR (some x0)), (1, vI x1), (2, vI x2), (5, vI x5), (6, vI x6), (7, vI x7), (8, vI x8), (9, vI x9), (10, vI x10)] [] Q) (K2 : ¬ (x2 ≤ x6) → k_X (jX12_build G l h0) h 140 [(0, vR (some x0)), (1, vI x1), (2, vI x2), (5, vI x5), (6, vI x6), (8, vI x8), (9, vI x9)] [] Q) : k_X (jX12_build G l h0) h 134 [(0, vR (some x0)), (1, vI x1), (2, vI x2), (5, vI x5), (6, vI x6), (7, vI x7), (8, vI x8), (9, vI x9), (10, vI x10)] [] Q := by
  by_cases hc : x2 ≤ x6
  · skip
    obtain ⟨h', r, K, q⟩ := K1 hc
    exact ⟨h', r, j_iload dX12_build_134 rfl <| j_iload_n dX12_build_136 rfl rfl <| j_icmp_ge_t (tgt := 166) dX12_build_137 (by decide) hc K, q⟩
  · skip
    obtain ⟨h', r, K, q⟩ := K2 hc
    exact ⟨h', r, j_iload dX12_build_134 rfl <| j_iload_n dX12_build_136 rfl rfl <| j_icmp_ge_f dX12_build_137 166 (by decide) hc (j_pick [0, 1, 2, 3, 4, 6, 7] rfl K), q⟩
theorem bX12_build_140 {h0 h : k_H} {Q : k_H → k_R → Prop} {x0 : Nat} {x1 x2 x5 x6 x8 x9 : Int32} {P : k_H → Int64 → Prop} (c : k_ctj (tX12_recordOf G l) [vI x9] h P) (K : ∀ h1 v, P h1 v → k_X (jX12_build G l h0) h1 150 [(0, vR (some x0)), (1, vI x1), (2, vI x2), (5, vI x5), (6, vI x6), (8, vI x8), (9, vI x9)] [vJ v, vR (some x0), vI x9, vI x1, vR (some x0)] Q) : k_X (jX12_build G l h0) h 140 [(0, vR (some x0)), (1, vI x1), (2, vI x2), (5, vI x5), (6, vI x6), (8, vI x8), (9, vI x9)] [] Q := by
  obtain ⟨h1, v, c, p⟩ := c
  obtain ⟨h', r, K, q⟩ := K h1 v p
  exact ⟨h', r, j_aload_n dX12_build_140 rfl rfl <| j_iload_n dX12_build_141 rfl rfl <| j_iload dX12_build_142 rfl <| j_aload_n dX12_build_144 rfl rfl <| j_iload dX12_build_145 rfl <| j_callS (v := some (vJ v)) (as := [vI x9]) dX12_build_147 kc_X12_366 rfl rfl (by decide) (Nat.le_of_ble_eq_true rfl) c K, q⟩
theorem bX12_build_150 {h0 h : k_H} {Q : k_H → k_R → Prop} {x0 s3 : Nat} {x1 x2 x5 x6 x8 x9 s1 s2 : Int32} {s0 : Option Nat} {s4 : Int64} (w : k_is h s3 15) {P : k_H → Int32 → Prop} (c : k_cti (tX12_valueNow G l) [vR (some s3), vJ s4] h P) (K : ∀ h1 v, P h1 v → k_X (jX12_build G l h0) h1 153 [(0, vR (some x0)), (1, vI x1), (2, vI x2), (5, vI x5), (6, vI x6), (8, vI x8), (9, vI x9)] [vI v, vI s2, vI s1, vR s0] Q) : k_X (jX12_build G l h0) h 150 [(0, vR (some x0)), (1, vI x1), (2, vI x2), (5, vI x5), (6, vI x6), (8, vI x8), (9, vI x9)] [vJ s4, vR (some s3), vI s2, vI s1, vR s0] Q := by
  obtain ⟨h1, v, c, p⟩ := c
  obtain ⟨h', r, K, q⟩ := K h1 v p
  exact ⟨h', r, j_callV (v := some (vI v)) (as := [vJ s4]) dX12_build_150 kc_X12_206 rfl rfl w (by decide) (Nat.le_of_ble_eq_true rfl) c K, q⟩
theorem bX12_build_153 {h0 h : k_H} {Q : k_H → k_R → Prop} {x0 s0 : Nat} {x1 x2 x5 x6 x8 x9 s1 s2 s3 : Int32} (w : k_is h s0 15) {P : k_H → Prop} (c : k_ctv (tX12_putsFor G l) [vR (some s0), vI s1, vI s2, vI s3] h P) (K : ∀ h1, P h1 → k_X (jX12_build G l h0) h1 156 [(0, vR (some x0)), (1, vI x1), (2, vI x2), (5, vI x5), (6, vI x6), (8, vI x8), (9, vI x9)] [] Q) : k_X (jX12_build G l h0) h 153 [(0, vR (some x0)), (1, vI x1), (2, vI x2), (5, vI x5), (6, vI x6), (8, vI x8), (9, vI x9)] [vI s3, vI s2, vI s1, vR (some s0)] Q := by
  obtain ⟨h1, c, p⟩ := c
  obtain ⟨h', r, K, q⟩ := K h1 p
  exact ⟨h', r, j_callV (v := none) (as := [vI s1, vI s2, vI s3]) dX12_build_153 kc_X12_395 rfl rfl w (by decide) (Nat.le_of_ble_eq_true rfl) c K, q⟩
theorem bX12_build_156 {h0 h : k_H} {Q : k_H → k_R → Prop} {x0 : Nat} {x1 x2 x5 x6 x8 x9 : Int32} (K : k_X (jX12_build G l h0) h 174 [(0, vR (some x0)), (1, vI x1), (2, vI x2), (5, vI x5), (6, vI (x6 + 1)), (7, vI x9), (8, vI x8), (9, vI x9)] [] Q) : k_X (jX12_build G l h0) h 156 [(0, vR (some x0)), (1, vI x1), (2, vI x2), (5, vI x5), (6, vI x6), (8, vI x8), (9, vI x9)] [] Q := by
  obtain ⟨h', r, K, q⟩ := K
  exact ⟨h', r, j_iload dX12_build_156 rfl <| j_istore dX12_build_158 (by decide) rfl <| j_iinc (v := x6 + 1) dX12_build_160 rfl (by decide) rfl rfl <| j_goto (tgt := 174) dX12_build_163 (by decide) <| K, q⟩
theorem bX12_build_166 {h0 h : k_H} {Q : k_H → k_R → Prop} {x0 : Nat} {x1 x2 x5 x6 x7 x8 x9 x10 : Int32} (K1 : x10 = 0 → k_X (jX12_build G l h0) h 174 [(0, vR (some x0)), (1, vI x1), (2, vI x2), (5, vI x5), (6, vI x6), (7, vI x7), (8, vI x8), (9, vI x9)] [] Q) (K2 : ¬ (x10 = 0) → k_X (jX12_build G l h0) h 171 [(0, vR (some x0)), (1, vI x1), (2, vI x2), (5, vI x5), (6, vI x6), (7, vI x7), (8, vI x8), (9, vI x9)] [] Q) : k_X (jX12_build G l h0) h 166 [(0, vR (some x0)), (1, vI x1), (2, vI x2), (5, vI x5), (6, vI x6), (7, vI x7), (8, vI x8), (9, vI x9), (10, vI x10)] [] Q := by
  by_cases hc : x10 = 0
  · skip
    obtain ⟨h', r, K, q⟩ := K1 hc
    exact ⟨h', r, j_iload dX12_build_166 rfl <| j_if_eq_t (tgt := 174) dX12_build_168 (by decide) hc (j_pick [0, 1, 2, 3, 4, 5, 6, 7] rfl K), q⟩
  · skip
    obtain ⟨h', r, K, q⟩ := K2 hc
    exact ⟨h', r, j_iload dX12_build_166 rfl <| j_if_eq_f dX12_build_168 174 (by decide) hc (j_pick [0, 1, 2, 3, 4, 5, 6, 7] rfl K), q⟩
theorem bX12_build_171 {h0 h : k_H} {Q : k_H → k_R → Prop} {x0 : Nat} {x1 x2 x5 x6 x7 x8 x9 : Int32} (K : k_X (jX12_build G l h0) h 174 [(0, vR (some x0)), (1, vI x1), (2, vI x2), (5, vI x5), (6, vI x6), (7, vI x7), (8, vI (x8 + 1)), (9, vI x9)] [] Q) : k_X (jX12_build G l h0) h 171 [(0, vR (some x0)), (1, vI x1), (2, vI x2), (5, vI x5), (6, vI x6), (7, vI x7), (8, vI x8), (9, vI x9)] [] Q := by
  obtain ⟨h', r, K, q⟩ := K
  exact ⟨h', r, j_iinc (v := x8 + 1) dX12_build_171 rfl (by decide) rfl rfl <| K, q⟩
theorem bX12_build_174 {h0 h : k_H} {Q : k_H → k_R → Prop} {x0 : Nat} {x1 x2 x5 x6 x7 x8 x9 : Int32} (K : k_X (jX12_build G l h0) h 96 [(0, vR (some x0)), (1, vI x1), (2, vI x2), (5, vI x5), (6, vI x6), (7, vI x7), (8, vI x8), (9, vI (x9 + 1))] [] Q) : k_X (jX12_build G l h0) h 174 [(0, vR (some x0)), (1, vI x1), (2, vI x2), (5, vI x5), (6, vI x6), (7, vI x7), (8, vI x8), (9, vI x9)] [] Q := by
  obtain ⟨h', r, K, q⟩ := K
  exact ⟨h', r, j_iinc (v := x9 + 1) dX12_build_174 rfl (by decide) rfl rfl <| j_goto (tgt := 96) dX12_build_177 (by decide) <| K, q⟩
theorem bX12_build_180 {h0 h : k_H} {Q : k_H → k_R → Prop} {x0 : Nat} {x1 x6 x7 x8 : Int32} {P : k_H → Int64 → Prop} (c : k_ctj (tX12_indexOf G l) [vI x1] h P) (K : ∀ h1 v, P h1 v → k_X (jX12_build G l h0) h1 185 [(0, vR (some x0)), (6, vI x6), (7, vI x7), (8, vI x8)] [vJ v, vR (some x0)] Q) : k_X (jX12_build G l h0) h 180 [(0, vR (some x0)), (1, vI x1), (6, vI x6), (7, vI x7), (8, vI x8)] [] Q := by
  obtain ⟨h1, v, c, p⟩ := c
  obtain ⟨h', r, K, q⟩ := K h1 v p
  exact ⟨h', r, j_aload_n dX12_build_180 rfl rfl <| j_iload_n dX12_build_181 rfl rfl <| j_callS (v := some (vJ v)) (as := [vI x1]) dX12_build_182 kc_X12_363 rfl rfl (by decide) (Nat.le_of_ble_eq_true rfl) c (j_pick [0, 2, 3, 4] rfl K), q⟩
theorem bX12_build_185 {h0 h : k_H} {Q : k_H → k_R → Prop} {x0 : Nat} {x6 x7 x8 : Int32} {s0 : Option Nat} {s1 : Int64} (K1 : x8 ≤ 0 → k_X (jX12_build G l h0) h 196 [(0, vR (some x0)), (6, vI x6)] [vI 1, vJ s1, vR s0] Q) (K2 : ¬ (x8 ≤ 0) → k_X (jX12_build G l h0) h 191 [(0, vR (some x0)), (6, vI x6), (7, vI x7)] [vI 1, vJ s1, vR s0] Q) : k_X (jX12_build G l h0) h 185 [(0, vR (some x0)), (6, vI x6), (7, vI x7), (8, vI x8)] [vJ s1, vR s0] Q := by
  by_cases hc : x8 ≤ 0
  · skip
    obtain ⟨h', r, K, q⟩ := K1 hc
    exact ⟨h', r, j_iconst (v := 1) dX12_build_185 (by decide) <| j_iload dX12_build_186 rfl <| j_if_le_t (tgt := 196) dX12_build_188 (by decide) hc (j_pick [0, 1] rfl K), q⟩
  · skip
    obtain ⟨h', r, K, q⟩ := K2 hc
    exact ⟨h', r, j_iconst (v := 1) dX12_build_185 (by decide) <| j_iload dX12_build_186 rfl <| j_if_le_f dX12_build_188 196 (by decide) hc (j_pick [0, 1, 2] rfl K), q⟩
theorem bX12_build_191 {h0 h : k_H} {Q : k_H → k_R → Prop} {x0 : Nat} {x6 x7 s2 : Int32} {s0 : Option Nat} {s1 : Int64} (K : k_X (jX12_build G l h0) h 199 [(0, vR (some x0)), (6, vI x6)] [vI x7, vI s2, vJ s1, vR s0] Q) : k_X (jX12_build G l h0) h 191 [(0, vR (some x0)), (6, vI x6), (7, vI x7)] [vI s2, vJ s1, vR s0] Q := by
  obtain ⟨h', r, K, q⟩ := K
  exact ⟨h', r, j_iload dX12_build_191 rfl <| j_goto (tgt := 199) dX12_build_193 (by decide) <| (j_pick [0, 1] rfl K), q⟩
theorem bX12_build_196 {h0 h : k_H} {Q : k_H → k_R → Prop} {x0 : Nat} {x6 s2 : Int32} {s0 : Option Nat} {s1 : Int64} (K : k_X (jX12_build G l h0) h 199 [(0, vR (some x0)), (6, vI x6)] [vI 1000, vI s2, vJ s1, vR s0] Q) : k_X (jX12_build G l h0) h 196 [(0, vR (some x0)), (6, vI x6)] [vI s2, vJ s1, vR s0] Q := by
  obtain ⟨h', r, K, q⟩ := K
  exact ⟨h', r, j_sipush (v := 1000) dX12_build_196 (by decide) <| K, q⟩
theorem bX12_build_199 {h0 h : k_H} {Q : k_H → k_R → Prop} {x0 s0 : Nat} {x6 s2 s3 : Int32} {s1 : Int64} (w : k_is h s0 15) {P : k_H → Prop} (c : k_ctv (tX12_puts G l) [vR (some s0), vJ s1, vI s2, vI s3] h P) (K : ∀ h1, P h1 → k_X (jX12_build G l h0) h1 202 [(0, vR (some x0)), (6, vI x6)] [] Q) : k_X (jX12_build G l h0) h 199 [(0, vR (some x0)), (6, vI x6)] [vI s3, vI s2, vJ s1, vR (some s0)] Q := by
  obtain ⟨h1, c, p⟩ := c
  obtain ⟨h', r, K, q⟩ := K h1 p
  exact ⟨h', r, j_callV (v := none) (as := [vJ s1, vI s2, vI s3]) dX12_build_199 kc_X12_192 rfl rfl w (by decide) (Nat.le_of_ble_eq_true rfl) c K, q⟩
theorem bX12_build_202 {h0 h : k_H} {Q : k_H → k_R → Prop} {x0 : Nat} {x6 : Int32} (w : k_is h x0 15) {P : k_H → Prop} (c : k_ctv (tX12_closes G l) [vR (some x0)] h P) (K : ∀ h1, P h1 → k_X (jX12_build G l h0) h1 206 [(6, vI x6)] [] Q) : k_X (jX12_build G l h0) h 202 [(0, vR (some x0)), (6, vI x6)] [] Q := by
  obtain ⟨h1, c, p⟩ := c
  obtain ⟨h', r, K, q⟩ := K h1 p
  exact ⟨h', r, j_aload_n dX12_build_202 rfl rfl <| j_callV (v := none) (as := []) dX12_build_203 kc_X12_330 rfl rfl w (by decide) (Nat.le_of_ble_eq_true rfl) c (j_pick [1] rfl K), q⟩
theorem bX12_build_206 {h0 h : k_H} {Q : k_H → k_R → Prop} {x6 : Int32} (q : Q h (.inl (some (vI x6)))) : k_X (jX12_build G l h0) h 206 [(6, vI x6)] [] Q := by
  exact ⟨_, _, j_iload dX12_build_206 rfl <| j_iret dX12_build_208 rfl, q⟩
theorem eX12_off {G : k_G} {l : Launch} (hfl : l.flags = flags0) {h : k_H} {Q : k_H → k_R → Prop} {x0 : Nat} {x1 : Int32} (K : k_X (jX12_off G l h) h 0 [(0, vR (some x0)), (1, vI x1)] [] Q) : k_ct (tX12_off G l) [vR (some x0), vI x1] h Q := by
  obtain ⟨h', r, K, q⟩ := K
  exact ⟨h', r, k_CtOf (by decide +kernel) (Nat.le_of_ble_eq_true rfl) K hfl, q⟩

theorem bX12_off_0 {h0 h : k_H} {Q : k_H → k_R → Prop} {x0 : Nat} {x1 : Int32} {P : k_H → Int32 → Prop} (c : k_cti (tX12_isIndex G l) [vI x1] h P) (K : ∀ h1 v, P h1 v → k_X (jX12_off G l h0) h1 5 [(0, vR (some x0)), (1, vI x1)] [vI v, vR (some x0)] Q) : k_X (jX12_off G l h0) h 0 [(0, vR (some x0)), (1, vI x1)] [] Q := by
  obtain ⟨h1, v, c, p⟩ := c
  obtain ⟨h', r, K, q⟩ := K h1 v p
  exact ⟨h', r, j_aload_n dX12_off_0 rfl rfl <| j_iload_n dX12_off_1 rfl rfl <| j_callS (v := some (vI v)) (as := [vI x1]) dX12_off_2 kc_X12_392 rfl rfl (by decide) (Nat.le_of_ble_eq_true rfl) c K, q⟩
theorem bX12_off_5 {h0 h : k_H} {Q : k_H → k_R → Prop} {x0 : Nat} {x1 s1 : Int32} {s0 : Option Nat} (K1 : s1 = 0 → k_X (jX12_off G l h0) h 12 [(0, vR (some x0)), (1, vI x1)] [vR s0] Q) (K2 : ¬ (s1 = 0) → k_X (jX12_off G l h0) h 8 [(0, vR (some x0)), (1, vI x1)] [vR s0] Q) : k_X (jX12_off G l h0) h 5 [(0, vR (some x0)), (1, vI x1)] [vI s1, vR s0] Q := by
  by_cases hc : s1 = 0
  · skip
    obtain ⟨h', r, K, q⟩ := K1 hc
    exact ⟨h', r, j_if_eq_t (tgt := 12) dX12_off_5 (by decide) hc K, q⟩
  · skip
    obtain ⟨h', r, K, q⟩ := K2 hc
    exact ⟨h', r, j_if_eq_f dX12_off_5 12 (by decide) hc K, q⟩
theorem bX12_off_8 {h0 h : k_H} {Q : k_H → k_R → Prop} {x0 : Nat} {x1 : Int32} {s0 : Option Nat} (K : k_X (jX12_off G l h0) h 13 [(0, vR (some x0)), (1, vI x1)] [vI 0, vR s0] Q) : k_X (jX12_off G l h0) h 8 [(0, vR (some x0)), (1, vI x1)] [vR s0] Q := by
  obtain ⟨h', r, K, q⟩ := K
  exact ⟨h', r, j_iconst (v := 0) dX12_off_8 (by decide) <| j_goto (tgt := 13) dX12_off_9 (by decide) <| K, q⟩
theorem bX12_off_12 {h0 h : k_H} {Q : k_H → k_R → Prop} {x0 : Nat} {x1 : Int32} {s0 : Option Nat} (K : k_X (jX12_off G l h0) h 13 [(0, vR (some x0)), (1, vI x1)] [vI 1, vR s0] Q) : k_X (jX12_off G l h0) h 12 [(0, vR (some x0)), (1, vI x1)] [vR s0] Q := by
  obtain ⟨h', r, K, q⟩ := K
  exact ⟨h', r, j_iconst (v := 1) dX12_off_12 (by decide) <| K, q⟩
theorem bX12_off_13 {h0 h : k_H} {Q : k_H → k_R → Prop} {x0 s0 : Nat} {x1 s1 : Int32} (w : k_is h s0 15) {P : k_H → Int32 → Prop} (c : k_cti (tX12_goes G l) [vR (some s0), vI s1] h P) (K : ∀ h1 v, P h1 v → k_X (jX12_off G l h0) h1 16 [(0, vR (some x0)), (1, vI x1)] [vI v] Q) : k_X (jX12_off G l h0) h 13 [(0, vR (some x0)), (1, vI x1)] [vI s1, vR (some s0)] Q := by
  obtain ⟨h1, v, c, p⟩ := c
  obtain ⟨h', r, K, q⟩ := K h1 v p
  exact ⟨h', r, j_callV (v := some (vI v)) (as := [vI s1]) dX12_off_13 kc_X12_265 rfl rfl w (by decide) (Nat.le_of_ble_eq_true rfl) c K, q⟩
theorem bX12_off_16 {h0 h : k_H} {Q : k_H → k_R → Prop} {x0 : Nat} {x1 s0 : Int32} (K1 : ¬ (s0 = 0) → k_X (jX12_off G l h0) h 21 [(0, vR (some x0)), (1, vI x1)] [] Q) (K2 : s0 = 0 → k_X (jX12_off G l h0) h 19 [] [] Q) : k_X (jX12_off G l h0) h 16 [(0, vR (some x0)), (1, vI x1)] [vI s0] Q := by
  by_cases hc : s0 = 0
  · skip
    obtain ⟨h', r, K, q⟩ := K2 hc
    exact ⟨h', r, j_if_ne_f dX12_off_16 21 (by decide) hc (j_pick [] rfl K), q⟩
  · skip
    obtain ⟨h', r, K, q⟩ := K1 hc
    exact ⟨h', r, j_if_ne_t (tgt := 21) dX12_off_16 (by decide) hc K, q⟩
theorem bX12_off_19 {h0 h : k_H} {Q : k_H → k_R → Prop} (q : Q h (.inl (some (vI 0)))) : k_X (jX12_off G l h0) h 19 [] [] Q := by
  exact ⟨_, _, j_iconst (v := 0) dX12_off_19 (by decide) <| j_iret dX12_off_20 rfl, q⟩
theorem bX12_off_21 {h0 h : k_H} {Q : k_H → k_R → Prop} {x0 : Nat} {x1 : Int32} {P : k_H → Int64 → Prop} (c : k_ctj (tX12_firstOf G l) [vI ((-2) - x1), vI 10000] h P) (K : ∀ h1 v, P h1 v → k_X (jX12_off G l h0) h1 31 [(0, vR (some x0)), (1, vI x1)] [vJ v] Q) : k_X (jX12_off G l h0) h 21 [(0, vR (some x0)), (1, vI x1)] [] Q := by
  obtain ⟨h1, v, c, p⟩ := c
  obtain ⟨h', r, K, q⟩ := K h1 v p
  exact ⟨h', r, j_bipush (v := (-2)) dX12_off_21 (by decide) <| j_iload_n dX12_off_23 rfl rfl <| j_isub dX12_off_24 <| j_sipush (v := 10000) dX12_off_25 (by decide) <| j_callS (v := some (vJ v)) (as := [vI ((-2) - x1), vI 10000]) dX12_off_28 kc_X12_285 rfl rfl (by decide) (Nat.le_of_ble_eq_true rfl) c K, q⟩
theorem bX12_off_31 {h0 h : k_H} {Q : k_H → k_R → Prop} {x0 : Nat} {x1 : Int32} {s0 : Int64} {P : k_H → Int64 → Prop} (c : k_ctj (tX12_lastOf G l) [vI ((-2) - x1), vI 10000] h P) (K : ∀ h1 v, P h1 v → k_X (jX12_off G l h0) h1 42 [(0, vR (some x0)), (1, vI x1), (2, vJ s0)] [vJ v] Q) : k_X (jX12_off G l h0) h 31 [(0, vR (some x0)), (1, vI x1)] [vJ s0] Q := by
  obtain ⟨h1, v, c, p⟩ := c
  obtain ⟨h', r, K, q⟩ := K h1 v p
  exact ⟨h', r, j_lstore_n dX12_off_31 rfl (by decide) rfl <| j_bipush (v := (-2)) dX12_off_32 (by decide) <| j_iload_n dX12_off_34 rfl rfl <| j_isub dX12_off_35 <| j_sipush (v := 10000) dX12_off_36 (by decide) <| j_callS (v := some (vJ v)) (as := [vI ((-2) - x1), vI 10000]) dX12_off_39 kc_X12_289 rfl rfl (by decide) (Nat.le_of_ble_eq_true rfl) c K, q⟩
theorem bX12_off_42 {h0 h : k_H} {Q : k_H → k_R → Prop} {x0 : Nat} {x1 : Int32} {x2 s0 : Int64} (w : k_is h x0 15) {P : k_H → Int32 → Prop} (c : k_cti (tX12_manyIn G l) [vR (some x0), vJ x2, vJ s0] h P) (K : ∀ h1 v, P h1 v → k_X (jX12_off G l h0) h1 51 [(0, vR (some x0)), (1, vI x1), (2, vJ x2), (4, vJ s0)] [vI v] Q) : k_X (jX12_off G l h0) h 42 [(0, vR (some x0)), (1, vI x1), (2, vJ x2)] [vJ s0] Q := by
  obtain ⟨h1, v, c, p⟩ := c
  obtain ⟨h', r, K, q⟩ := K h1 v p
  exact ⟨h', r, j_lstore dX12_off_42 (by decide) rfl <| j_aload_n dX12_off_44 rfl rfl <| j_lload_n dX12_off_45 rfl rfl <| j_lload dX12_off_46 rfl <| j_callV (v := some (vI v)) (as := [vJ x2, vJ s0]) dX12_off_48 kc_X12_215 rfl rfl w (by decide) (Nat.le_of_ble_eq_true rfl) c K, q⟩
theorem bX12_off_51 {h0 h : k_H} {Q : k_H → k_R → Prop} {x0 : Nat} {x1 s0 : Int32} {x2 x4 : Int64} (w : k_is h x0 15) {P : k_H → Prop} (c : k_ctv (tX12_opens G l) [vR (some x0)] h P) (K : ∀ h1, P h1 → k_X (jX12_off G l h0) h1 57 [(0, vR (some x0)), (1, vI x1), (2, vJ x2), (4, vJ x4), (6, vI s0)] [] Q) : k_X (jX12_off G l h0) h 51 [(0, vR (some x0)), (1, vI x1), (2, vJ x2), (4, vJ x4)] [vI s0] Q := by
  obtain ⟨h1, c, p⟩ := c
  obtain ⟨h', r, K, q⟩ := K h1 p
  exact ⟨h', r, j_istore dX12_off_51 (by decide) rfl <| j_aload_n dX12_off_53 rfl rfl <| j_callV (v := none) (as := []) dX12_off_54 kc_X12_319 rfl rfl w (by decide) (Nat.le_of_ble_eq_true rfl) c K, q⟩
theorem bX12_off_57 {h0 h : k_H} {Q : k_H → k_R → Prop} {x0 : Nat} {x1 x6 : Int32} {x2 x4 : Int64} (w : k_is h x0 15) {P : k_H → Prop} (c : k_ctv (tX12_clears G l) [vR (some x0), vJ x2, vJ x4] h P) (K : ∀ h1, P h1 → k_X (jX12_off G l h0) h1 64 [(0, vR (some x0)), (1, vI x1), (6, vI x6)] [] Q) : k_X (jX12_off G l h0) h 57 [(0, vR (some x0)), (1, vI x1), (2, vJ x2), (4, vJ x4), (6, vI x6)] [] Q := by
  obtain ⟨h1, c, p⟩ := c
  obtain ⟨h', r, K, q⟩ := K h1 p
  exact ⟨h', r, j_aload_n dX12_off_57 rfl rfl <| j_lload_n dX12_off_58 rfl rfl <| j_lload dX12_off_59 rfl <| j_callV (v := none) (as := [vJ x2, vJ x4]) dX12_off_61 kc_X12_315 rfl rfl w (by decide) (Nat.le_of_ble_eq_true rfl) c (j_pick [0, 1, 4] rfl K), q⟩
theorem bX12_off_64 {h0 h : k_H} {Q : k_H → k_R → Prop} {x0 : Nat} {x1 x6 : Int32} {P : k_H → Int64 → Prop} (c : k_ctj (tX12_indexOf G l) [vI x1] h P) (K : ∀ h1 v, P h1 v → k_X (jX12_off G l h0) h1 69 [(0, vR (some x0)), (6, vI x6)] [vJ v, vR (some x0)] Q) : k_X (jX12_off G l h0) h 64 [(0, vR (some x0)), (1, vI x1), (6, vI x6)] [] Q := by
  obtain ⟨h1, v, c, p⟩ := c
  obtain ⟨h', r, K, q⟩ := K h1 v p
  exact ⟨h', r, j_aload_n dX12_off_64 rfl rfl <| j_iload_n dX12_off_65 rfl rfl <| j_callS (v := some (vJ v)) (as := [vI x1]) dX12_off_66 kc_X12_363 rfl rfl (by decide) (Nat.le_of_ble_eq_true rfl) c (j_pick [0, 2] rfl K), q⟩
theorem bX12_off_69 {h0 h : k_H} {Q : k_H → k_R → Prop} {x0 s0 : Nat} {x6 : Int32} {s1 : Int64} (w : k_is h s0 15) {P : k_H → Prop} (c : k_ctv (tX12_puts G l) [vR (some s0), vJ s1, vI 1, vI (-1000)] h P) (K : ∀ h1, P h1 → k_X (jX12_off G l h0) h1 76 [(0, vR (some x0)), (6, vI x6)] [] Q) : k_X (jX12_off G l h0) h 69 [(0, vR (some x0)), (6, vI x6)] [vJ s1, vR (some s0)] Q := by
  obtain ⟨h1, c, p⟩ := c
  obtain ⟨h', r, K, q⟩ := K h1 p
  exact ⟨h', r, j_iconst (v := 1) dX12_off_69 (by decide) <| j_sipush (v := (-1000)) dX12_off_70 (by decide) <| j_callV (v := none) (as := [vJ s1, vI 1, vI (-1000)]) dX12_off_73 kc_X12_192 rfl rfl w (by decide) (Nat.le_of_ble_eq_true rfl) c K, q⟩
theorem bX12_off_76 {h0 h : k_H} {Q : k_H → k_R → Prop} {x0 : Nat} {x6 : Int32} (w : k_is h x0 15) {P : k_H → Prop} (c : k_ctv (tX12_closes G l) [vR (some x0)] h P) (K : ∀ h1, P h1 → k_X (jX12_off G l h0) h1 80 [(6, vI x6)] [] Q) : k_X (jX12_off G l h0) h 76 [(0, vR (some x0)), (6, vI x6)] [] Q := by
  obtain ⟨h1, c, p⟩ := c
  obtain ⟨h', r, K, q⟩ := K h1 p
  exact ⟨h', r, j_aload_n dX12_off_76 rfl rfl <| j_callV (v := none) (as := []) dX12_off_77 kc_X12_330 rfl rfl w (by decide) (Nat.le_of_ble_eq_true rfl) c (j_pick [1] rfl K), q⟩
theorem bX12_off_80 {h0 h : k_H} {Q : k_H → k_R → Prop} {x6 : Int32} (q : Q h (.inl (some (vI x6)))) : k_X (jX12_off G l h0) h 80 [(6, vI x6)] [] Q := by
  exact ⟨_, _, j_iload dX12_off_80 rfl <| j_iret dX12_off_82 rfl, q⟩
theorem eX12_ranked {G : k_G} {l : Launch} (hfl : l.flags = flags0) {h : k_H} {Q : k_H → k_R → Prop} {x0 : Nat} {x1 : Int32} {x2 : Int32} (K : k_X (jX12_ranked G l h) h 0 [(0, vR (some x0)), (1, vI x1), (2, vI x2)] [] Q) : k_ct (tX12_ranked G l) [vR (some x0), vI x1, vI x2] h Q := by
  obtain ⟨h', r, K, q⟩ := K
  exact ⟨h', r, k_CtOf (by decide +kernel) (Nat.le_of_ble_eq_true rfl) K hfl, q⟩

theorem bX12_ranked_0 {h0 h : k_H} {Q : k_H → k_R → Prop} {x0 : Nat} {x1 x2 : Int32} {P : k_H → Int32 → Prop} (c : k_cti (tX12_isIn G l) [vI x1, vI 0, vI 99] h P) (K : ∀ h1 v, P h1 v → k_X (jX12_ranked G l h0) h1 8 [(0, vR (some x0)), (1, vI x1), (2, vI x2)] [vI v, vR (some x0)] Q) : k_X (jX12_ranked G l h0) h 0 [(0, vR (some x0)), (1, vI x1), (2, vI x2)] [] Q := by
  obtain ⟨h1, v, c, p⟩ := c
  obtain ⟨h', r, K, q⟩ := K h1 v p
  exact ⟨h', r, j_aload_n dX12_ranked_0 rfl rfl <| j_iload_n dX12_ranked_1 rfl rfl <| j_iconst (v := 0) dX12_ranked_2 (by decide) <| j_bipush (v := 99) dX12_ranked_3 (by decide) <| j_callS (v := some (vI v)) (as := [vI x1, vI 0, vI 99]) dX12_ranked_5 kc_X12_137 rfl rfl (by decide) (Nat.le_of_ble_eq_true rfl) c K, q⟩
theorem bX12_ranked_8 {h0 h : k_H} {Q : k_H → k_R → Prop} {x0 : Nat} {x1 x2 s1 : Int32} {s0 : Option Nat} (K1 : s1 = 0 → k_X (jX12_ranked G l h0) h 15 [(0, vR (some x0)), (1, vI x1), (2, vI x2)] [vR s0] Q) (K2 : ¬ (s1 = 0) → k_X (jX12_ranked G l h0) h 11 [(0, vR (some x0)), (1, vI x1), (2, vI x2)] [vR s0] Q) : k_X (jX12_ranked G l h0) h 8 [(0, vR (some x0)), (1, vI x1), (2, vI x2)] [vI s1, vR s0] Q := by
  by_cases hc : s1 = 0
  · skip
    obtain ⟨h', r, K, q⟩ := K1 hc
    exact ⟨h', r, j_if_eq_t (tgt := 15) dX12_ranked_8 (by decide) hc K, q⟩
  · skip
    obtain ⟨h', r, K, q⟩ := K2 hc
    exact ⟨h', r, j_if_eq_f dX12_ranked_8 15 (by decide) hc K, q⟩
theorem bX12_ranked_11 {h0 h : k_H} {Q : k_H → k_R → Prop} {x0 : Nat} {x1 x2 : Int32} {s0 : Option Nat} (K : k_X (jX12_ranked G l h0) h 16 [(0, vR (some x0)), (1, vI x1), (2, vI x2)] [vI 0, vR s0] Q) : k_X (jX12_ranked G l h0) h 11 [(0, vR (some x0)), (1, vI x1), (2, vI x2)] [vR s0] Q := by
  obtain ⟨h', r, K, q⟩ := K
  exact ⟨h', r, j_iconst (v := 0) dX12_ranked_11 (by decide) <| j_goto (tgt := 16) dX12_ranked_12 (by decide) <| K, q⟩
theorem bX12_ranked_15 {h0 h : k_H} {Q : k_H → k_R → Prop} {x0 : Nat} {x1 x2 : Int32} {s0 : Option Nat} (K : k_X (jX12_ranked G l h0) h 16 [(0, vR (some x0)), (1, vI x1), (2, vI x2)] [vI 1, vR s0] Q) : k_X (jX12_ranked G l h0) h 15 [(0, vR (some x0)), (1, vI x1), (2, vI x2)] [vR s0] Q := by
  obtain ⟨h', r, K, q⟩ := K
  exact ⟨h', r, j_iconst (v := 1) dX12_ranked_15 (by decide) <| K, q⟩
theorem bX12_ranked_16 {h0 h : k_H} {Q : k_H → k_R → Prop} {x0 s0 : Nat} {x1 x2 s1 : Int32} (w : k_is h s0 15) {P : k_H → Int32 → Prop} (c : k_cti (tX12_goes G l) [vR (some s0), vI s1] h P) (K : ∀ h1 v, P h1 v → k_X (jX12_ranked G l h0) h1 19 [(0, vR (some x0)), (1, vI x1), (2, vI x2)] [vI v] Q) : k_X (jX12_ranked G l h0) h 16 [(0, vR (some x0)), (1, vI x1), (2, vI x2)] [vI s1, vR (some s0)] Q := by
  obtain ⟨h1, v, c, p⟩ := c
  obtain ⟨h', r, K, q⟩ := K h1 v p
  exact ⟨h', r, j_callV (v := some (vI v)) (as := [vI s1]) dX12_ranked_16 kc_X12_265 rfl rfl w (by decide) (Nat.le_of_ble_eq_true rfl) c K, q⟩
theorem bX12_ranked_19 {h0 h : k_H} {Q : k_H → k_R → Prop} {x0 : Nat} {x1 x2 s0 : Int32} (K1 : ¬ (s0 = 0) → k_X (jX12_ranked G l h0) h 24 [(0, vR (some x0)), (1, vI x1), (2, vI x2)] [] Q) (K2 : s0 = 0 → k_X (jX12_ranked G l h0) h 22 [] [] Q) : k_X (jX12_ranked G l h0) h 19 [(0, vR (some x0)), (1, vI x1), (2, vI x2)] [vI s0] Q := by
  by_cases hc : s0 = 0
  · skip
    obtain ⟨h', r, K, q⟩ := K2 hc
    exact ⟨h', r, j_if_ne_f dX12_ranked_19 24 (by decide) hc (j_pick [] rfl K), q⟩
  · skip
    obtain ⟨h', r, K, q⟩ := K1 hc
    exact ⟨h', r, j_if_ne_t (tgt := 24) dX12_ranked_19 (by decide) hc K, q⟩
theorem bX12_ranked_22 {h0 h : k_H} {Q : k_H → k_R → Prop} (q : Q h (.inl (some (vI 0)))) : k_X (jX12_ranked G l h0) h 22 [] [] Q := by
  exact ⟨_, _, j_iconst (v := 0) dX12_ranked_22 (by decide) <| j_iret dX12_ranked_23 rfl, q⟩
theorem bX12_ranked_24 {h0 h : k_H} {Q : k_H → k_R → Prop} {x0 : Nat} {x1 x2 : Int32} (K : k_X (jX12_ranked G l h0) h 29 [(0, vR (some x0)), (1, vI x1), (2, vI x2), (3, vI 0), (4, vI 0)] [] Q) : k_X (jX12_ranked G l h0) h 24 [(0, vR (some x0)), (1, vI x1), (2, vI x2)] [] Q := by
  obtain ⟨h', r, K, q⟩ := K
  exact ⟨h', r, j_iconst (v := 0) dX12_ranked_24 (by decide) <| j_istore_n dX12_ranked_25 rfl (by decide) rfl <| j_iconst (v := 0) dX12_ranked_26 (by decide) <| j_istore dX12_ranked_27 (by decide) rfl <| K, q⟩
theorem bX12_ranked_29 {h0 h : k_H} {Q : k_H → k_R → Prop} {x0 : Nat} {x1 x2 x3 x4 : Int32} (K1 : 100 ≤ x4 → k_X (jX12_ranked G l h0) h 132 [(3, vI x3)] [] Q) (K2 : ¬ (100 ≤ x4) → k_X (jX12_ranked G l h0) h 36 [(0, vR (some x0)), (1, vI x1), (2, vI x2), (3, vI x3), (4, vI x4)] [] Q) : k_X (jX12_ranked G l h0) h 29 [(0, vR (some x0)), (1, vI x1), (2, vI x2), (3, vI x3), (4, vI x4)] [] Q := by
  by_cases hc : 100 ≤ x4
  · skip
    obtain ⟨h', r, K, q⟩ := K1 hc
    exact ⟨h', r, j_iload dX12_ranked_29 rfl <| j_bipush (v := 100) dX12_ranked_31 (by decide) <| j_icmp_ge_t (tgt := 132) dX12_ranked_33 (by decide) hc (j_pick [3] rfl K), q⟩
  · skip
    obtain ⟨h', r, K, q⟩ := K2 hc
    exact ⟨h', r, j_iload dX12_ranked_29 rfl <| j_bipush (v := 100) dX12_ranked_31 (by decide) <| j_icmp_ge_f dX12_ranked_33 132 (by decide) hc K, q⟩
theorem bX12_ranked_36 {h0 h : k_H} {Q : k_H → k_R → Prop} {x0 : Nat} {x1 x2 x3 x4 : Int32} (K1 : x2 = 0 → k_X (jX12_ranked G l h0) h 48 [(0, vR (some x0)), (1, vI x1), (2, vI x2), (3, vI x3), (4, vI x4)] [] Q) (K2 : ¬ (x2 = 0) → k_X (jX12_ranked G l h0) h 40 [(0, vR (some x0)), (1, vI x1), (2, vI x2), (3, vI x3), (4, vI x4)] [] Q) : k_X (jX12_ranked G l h0) h 36 [(0, vR (some x0)), (1, vI x1), (2, vI x2), (3, vI x3), (4, vI x4)] [] Q := by
  by_cases hc : x2 = 0
  · skip
    obtain ⟨h', r, K, q⟩ := K1 hc
    exact ⟨h', r, j_iload_n dX12_ranked_36 rfl rfl <| j_if_eq_t (tgt := 48) dX12_ranked_37 (by decide) hc K, q⟩
  · skip
    obtain ⟨h', r, K, q⟩ := K2 hc
    exact ⟨h', r, j_iload_n dX12_ranked_36 rfl rfl <| j_if_eq_f dX12_ranked_37 48 (by decide) hc K, q⟩
theorem bX12_ranked_40 {h0 h : k_H} {Q : k_H → k_R → Prop} {x0 : Nat} {x1 x2 x3 x4 : Int32} {P : k_H → Int64 → Prop} (c : k_ctj (tX12_recordOf G l) [vI x4] h P) (K : ∀ h1 v, P h1 v → k_X (jX12_ranked G l h0) h1 45 [(0, vR (some x0)), (1, vI x1), (2, vI x2), (3, vI x3), (4, vI x4)] [vJ v] Q) : k_X (jX12_ranked G l h0) h 40 [(0, vR (some x0)), (1, vI x1), (2, vI x2), (3, vI x3), (4, vI x4)] [] Q := by
  obtain ⟨h1, v, c, p⟩ := c
  obtain ⟨h', r, K, q⟩ := K h1 v p
  exact ⟨h', r, j_iload dX12_ranked_40 rfl <| j_callS (v := some (vJ v)) (as := [vI x4]) dX12_ranked_42 kc_X12_366 rfl rfl (by decide) (Nat.le_of_ble_eq_true rfl) c K, q⟩
theorem bX12_ranked_45 {h0 h : k_H} {Q : k_H → k_R → Prop} {x0 : Nat} {x1 x2 x3 x4 : Int32} {s0 : Int64} (K : k_X (jX12_ranked G l h0) h 58 [(0, vR (some x0)), (1, vI x1), (2, vI x2), (3, vI x3), (4, vI x4)] [vJ s0] Q) : k_X (jX12_ranked G l h0) h 45 [(0, vR (some x0)), (1, vI x1), (2, vI x2), (3, vI x3), (4, vI x4)] [vJ s0] Q := by
  obtain ⟨h', r, K, q⟩ := K
  exact ⟨h', r, j_goto (tgt := 58) dX12_ranked_45 (by decide) <| K, q⟩
theorem bX12_ranked_48 {h0 h : k_H} {Q : k_H → k_R → Prop} {x0 : Nat} {x1 x2 x3 x4 : Int32} {P : k_H → Int64 → Prop} (c : k_ctj (tX12_codeOf G l) [vI (-3), vI x4, vI 10000] h P) (K : ∀ h1 v, P h1 v → k_X (jX12_ranked G l h0) h1 58 [(0, vR (some x0)), (1, vI x1), (2, vI x2), (3, vI x3), (4, vI x4)] [vJ v] Q) : k_X (jX12_ranked G l h0) h 48 [(0, vR (some x0)), (1, vI x1), (2, vI x2), (3, vI x3), (4, vI x4)] [] Q := by
  obtain ⟨h1, v, c, p⟩ := c
  obtain ⟨h', r, K, q⟩ := K h1 v p
  exact ⟨h', r, j_bipush (v := (-3)) dX12_ranked_48 (by decide) <| j_iload dX12_ranked_50 rfl <| j_sipush (v := 10000) dX12_ranked_52 (by decide) <| j_callS (v := some (vJ v)) (as := [vI (-3), vI x4, vI 10000]) dX12_ranked_55 kc_X12_155 rfl rfl (by decide) (Nat.le_of_ble_eq_true rfl) c K, q⟩
theorem bX12_ranked_58 {h0 h : k_H} {Q : k_H → k_R → Prop} {x0 : Nat} {x1 x2 x3 x4 : Int32} {s0 : Int64} (w : k_is h x0 15) {P : k_H → Int32 → Prop} (c : k_cti (tX12_hasNow G l) [vR (some x0), vJ s0] h P) (K : ∀ h1 v, P h1 v → k_X (jX12_ranked G l h0) h1 66 [(0, vR (some x0)), (1, vI x1), (2, vI x2), (3, vI x3), (4, vI x4), (5, vJ s0)] [vI v] Q) : k_X (jX12_ranked G l h0) h 58 [(0, vR (some x0)), (1, vI x1), (2, vI x2), (3, vI x3), (4, vI x4)] [vJ s0] Q := by
  obtain ⟨h1, v, c, p⟩ := c
  obtain ⟨h', r, K, q⟩ := K h1 v p
  exact ⟨h', r, j_lstore dX12_ranked_58 (by decide) rfl <| j_aload_n dX12_ranked_60 rfl rfl <| j_lload dX12_ranked_61 rfl <| j_callV (v := some (vI v)) (as := [vJ s0]) dX12_ranked_63 kc_X12_202 rfl rfl w (by decide) (Nat.le_of_ble_eq_true rfl) c K, q⟩
theorem bX12_ranked_66 {h0 h : k_H} {Q : k_H → k_R → Prop} {x0 : Nat} {x1 x2 x3 x4 s0 : Int32} {x5 : Int64} (K1 : s0 = 0 → k_X (jX12_ranked G l h0) h 83 [(0, vR (some x0)), (1, vI x1), (2, vI x2), (3, vI x3), (4, vI x4), (5, vJ x5)] [] Q) (K2 : ¬ (s0 = 0) → k_X (jX12_ranked G l h0) h 69 [(0, vR (some x0)), (1, vI x1), (2, vI x2), (3, vI x3), (4, vI x4), (5, vJ x5)] [] Q) : k_X (jX12_ranked G l h0) h 66 [(0, vR (some x0)), (1, vI x1), (2, vI x2), (3, vI x3), (4, vI x4), (5, vJ x5)] [vI s0] Q := by
  by_cases hc : s0 = 0
  · skip
    obtain ⟨h', r, K, q⟩ := K1 hc
    exact ⟨h', r, j_if_eq_t (tgt := 83) dX12_ranked_66 (by decide) hc K, q⟩
  · skip
    obtain ⟨h', r, K, q⟩ := K2 hc
    exact ⟨h', r, j_if_eq_f dX12_ranked_66 83 (by decide) hc K, q⟩
theorem bX12_ranked_69 {h0 h : k_H} {Q : k_H → k_R → Prop} {x0 : Nat} {x1 x2 x3 x4 : Int32} {x5 : Int64} (K1 : ¬ (x2 = 0) → k_X (jX12_ranked G l h0) h 79 [(0, vR (some x0)), (1, vI x1), (2, vI x2), (3, vI x3), (4, vI x4), (5, vJ x5)] [] Q) (K2 : x2 = 0 → k_X (jX12_ranked G l h0) h 73 [(0, vR (some x0)), (1, vI x1), (2, vI x2), (3, vI x3), (4, vI x4), (5, vJ x5)] [] Q) : k_X (jX12_ranked G l h0) h 69 [(0, vR (some x0)), (1, vI x1), (2, vI x2), (3, vI x3), (4, vI x4), (5, vJ x5)] [] Q := by
  by_cases hc : x2 = 0
  · skip
    obtain ⟨h', r, K, q⟩ := K2 hc
    exact ⟨h', r, j_iload_n dX12_ranked_69 rfl rfl <| j_if_ne_f dX12_ranked_70 79 (by decide) hc K, q⟩
  · skip
    obtain ⟨h', r, K, q⟩ := K1 hc
    exact ⟨h', r, j_iload_n dX12_ranked_69 rfl rfl <| j_if_ne_t (tgt := 79) dX12_ranked_70 (by decide) hc K, q⟩
theorem bX12_ranked_73 {h0 h : k_H} {Q : k_H → k_R → Prop} {x0 : Nat} {x1 x2 x3 x4 : Int32} {x5 : Int64} (K1 : x1 ≤ x4 → k_X (jX12_ranked G l h0) h 83 [(0, vR (some x0)), (1, vI x1), (2, vI x2), (3, vI x3), (4, vI x4), (5, vJ x5)] [] Q) (K2 : ¬ (x1 ≤ x4) → k_X (jX12_ranked G l h0) h 79 [(0, vR (some x0)), (1, vI x1), (2, vI x2), (3, vI x3), (4, vI x4), (5, vJ x5)] [] Q) : k_X (jX12_ranked G l h0) h 73 [(0, vR (some x0)), (1, vI x1), (2, vI x2), (3, vI x3), (4, vI x4), (5, vJ x5)] [] Q := by
  by_cases hc : x1 ≤ x4
  · skip
    obtain ⟨h', r, K, q⟩ := K1 hc
    exact ⟨h', r, j_iload dX12_ranked_73 rfl <| j_iload_n dX12_ranked_75 rfl rfl <| j_icmp_ge_t (tgt := 83) dX12_ranked_76 (by decide) hc K, q⟩
  · skip
    obtain ⟨h', r, K, q⟩ := K2 hc
    exact ⟨h', r, j_iload dX12_ranked_73 rfl <| j_iload_n dX12_ranked_75 rfl rfl <| j_icmp_ge_f dX12_ranked_76 83 (by decide) hc K, q⟩
theorem bX12_ranked_79 {h0 h : k_H} {Q : k_H → k_R → Prop} {x0 : Nat} {x1 x2 x3 x4 : Int32} {x5 : Int64} (K : k_X (jX12_ranked G l h0) h 84 [(0, vR (some x0)), (1, vI x1), (2, vI x2), (3, vI x3), (4, vI x4), (5, vJ x5)] [vI 1] Q) : k_X (jX12_ranked G l h0) h 79 [(0, vR (some x0)), (1, vI x1), (2, vI x2), (3, vI x3), (4, vI x4), (5, vJ x5)] [] Q := by
  obtain ⟨h', r, K, q⟩ := K
  exact ⟨h', r, j_iconst (v := 1) dX12_ranked_79 (by decide) <| j_goto (tgt := 84) dX12_ranked_80 (by decide) <| K, q⟩
theorem bX12_ranked_83 {h0 h : k_H} {Q : k_H → k_R → Prop} {x0 : Nat} {x1 x2 x3 x4 : Int32} {x5 : Int64} (K : k_X (jX12_ranked G l h0) h 84 [(0, vR (some x0)), (1, vI x1), (2, vI x2), (3, vI x3), (4, vI x4), (5, vJ x5)] [vI 0] Q) : k_X (jX12_ranked G l h0) h 83 [(0, vR (some x0)), (1, vI x1), (2, vI x2), (3, vI x3), (4, vI x4), (5, vJ x5)] [] Q := by
  obtain ⟨h', r, K, q⟩ := K
  exact ⟨h', r, j_iconst (v := 0) dX12_ranked_83 (by decide) <| K, q⟩
theorem bX12_ranked_84 {h0 h : k_H} {Q : k_H → k_R → Prop} {x0 : Nat} {x1 x2 x3 x4 s0 : Int32} {x5 : Int64} (K1 : ¬ (s0 = 0) → k_X (jX12_ranked G l h0) h 96 [(0, vR (some x0)), (1, vI x1), (2, vI x2), (4, vI x4), (5, vJ x5)] [vI x3] Q) (K2 : s0 = 0 → k_X (jX12_ranked G l h0) h 92 [(0, vR (some x0)), (1, vI x1), (2, vI x2), (4, vI x4)] [vI x3] Q) : k_X (jX12_ranked G l h0) h 84 [(0, vR (some x0)), (1, vI x1), (2, vI x2), (3, vI x3), (4, vI x4), (5, vJ x5)] [vI s0] Q := by
  by_cases hc : s0 = 0
  · skip
    obtain ⟨h', r, K, q⟩ := K2 hc
    exact ⟨h', r, j_istore dX12_ranked_84 (by decide) rfl <| j_iload_n dX12_ranked_86 rfl rfl <| j_iload dX12_ranked_87 rfl <| j_if_ne_f dX12_ranked_89 96 (by decide) hc (j_pick [0, 1, 2, 4] rfl K), q⟩
  · skip
    obtain ⟨h', r, K, q⟩ := K1 hc
    exact ⟨h', r, j_istore dX12_ranked_84 (by decide) rfl <| j_iload_n dX12_ranked_86 rfl rfl <| j_iload dX12_ranked_87 rfl <| j_if_ne_t (tgt := 96) dX12_ranked_89 (by decide) hc (j_pick [0, 1, 2, 4, 5] rfl K), q⟩
theorem bX12_ranked_92 {h0 h : k_H} {Q : k_H → k_R → Prop} {x0 : Nat} {x1 x2 x4 s0 : Int32} (K : k_X (jX12_ranked G l h0) h 124 [(0, vR (some x0)), (1, vI x1), (2, vI x2), (4, vI x4)] [vI 0, vI s0] Q) : k_X (jX12_ranked G l h0) h 92 [(0, vR (some x0)), (1, vI x1), (2, vI x2), (4, vI x4)] [vI s0] Q := by
  obtain ⟨h', r, K, q⟩ := K
  exact ⟨h', r, j_iconst (v := 0) dX12_ranked_92 (by decide) <| j_goto (tgt := 124) dX12_ranked_93 (by decide) <| K, q⟩
theorem bX12_ranked_96 {h0 h : k_H} {Q : k_H → k_R → Prop} {x0 : Nat} {x1 x2 x4 s0 : Int32} {x5 : Int64} (K1 : x2 = 0 → k_X (jX12_ranked G l h0) h 118 [(0, vR (some x0)), (1, vI x1), (2, vI x2), (4, vI x4), (5, vJ x5)] [vI s0] Q) (K2 : ¬ (x2 = 0) → k_X (jX12_ranked G l h0) h 100 [(0, vR (some x0)), (1, vI x1), (2, vI x2), (4, vI x4), (5, vJ x5)] [vI s0] Q) : k_X (jX12_ranked G l h0) h 96 [(0, vR (some x0)), (1, vI x1), (2, vI x2), (4, vI x4), (5, vJ x5)] [vI s0] Q := by
  by_cases hc : x2 = 0
  · skip
    obtain ⟨h', r, K, q⟩ := K1 hc
    exact ⟨h', r, j_iload_n dX12_ranked_96 rfl rfl <| j_if_eq_t (tgt := 118) dX12_ranked_97 (by decide) hc K, q⟩
  · skip
    obtain ⟨h', r, K, q⟩ := K2 hc
    exact ⟨h', r, j_iload_n dX12_ranked_96 rfl rfl <| j_if_eq_f dX12_ranked_97 118 (by decide) hc K, q⟩
theorem bX12_ranked_100 {h0 h : k_H} {Q : k_H → k_R → Prop} {x0 : Nat} {x1 x2 x4 s0 : Int32} {x5 : Int64} (w : k_is h x0 15) {P : k_H → Int32 → Prop} (c : k_cti (tX12_valueNow G l) [vR (some x0), vJ x5] h P) (K : ∀ h1 v, P h1 v → k_X (jX12_ranked G l h0) h1 106 [(0, vR (some x0)), (1, vI x1), (2, vI x2), (4, vI x4)] [vI v, vI s0] Q) : k_X (jX12_ranked G l h0) h 100 [(0, vR (some x0)), (1, vI x1), (2, vI x2), (4, vI x4), (5, vJ x5)] [vI s0] Q := by
  obtain ⟨h1, v, c, p⟩ := c
  obtain ⟨h', r, K, q⟩ := K h1 v p
  exact ⟨h', r, j_aload_n dX12_ranked_100 rfl rfl <| j_lload dX12_ranked_101 rfl <| j_callV (v := some (vI v)) (as := [vJ x5]) dX12_ranked_103 kc_X12_206 rfl rfl w (by decide) (Nat.le_of_ble_eq_true rfl) c (j_pick [0, 1, 2, 3] rfl K), q⟩
theorem bX12_ranked_106 {h0 h : k_H} {Q : k_H → k_R → Prop} {x0 : Nat} {x1 x2 x4 s0 s1 : Int32} (K1 : x1 ≤ s1 → k_X (jX12_ranked G l h0) h 114 [(0, vR (some x0)), (1, vI x1), (2, vI x2), (4, vI x4)] [vI s0] Q) (K2 : ¬ (x1 ≤ s1) → k_X (jX12_ranked G l h0) h 110 [(0, vR (some x0)), (1, vI x1), (2, vI x2), (4, vI x4)] [vI s0] Q) : k_X (jX12_ranked G l h0) h 106 [(0, vR (some x0)), (1, vI x1), (2, vI x2), (4, vI x4)] [vI s1, vI s0] Q := by
  by_cases hc : x1 ≤ s1
  · skip
    obtain ⟨h', r, K, q⟩ := K1 hc
    exact ⟨h', r, j_iload_n dX12_ranked_106 rfl rfl <| j_icmp_ge_t (tgt := 114) dX12_ranked_107 (by decide) hc K, q⟩
  · skip
    obtain ⟨h', r, K, q⟩ := K2 hc
    exact ⟨h', r, j_iload_n dX12_ranked_106 rfl rfl <| j_icmp_ge_f dX12_ranked_107 114 (by decide) hc K, q⟩
theorem bX12_ranked_110 {h0 h : k_H} {Q : k_H → k_R → Prop} {x0 : Nat} {x1 x2 x4 s0 : Int32} (K : k_X (jX12_ranked G l h0) h 124 [(0, vR (some x0)), (1, vI x1), (2, vI x2), (4, vI x4)] [vI 1, vI s0] Q) : k_X (jX12_ranked G l h0) h 110 [(0, vR (some x0)), (1, vI x1), (2, vI x2), (4, vI x4)] [vI s0] Q := by
  obtain ⟨h', r, K, q⟩ := K
  exact ⟨h', r, j_iconst (v := 1) dX12_ranked_110 (by decide) <| j_goto (tgt := 124) dX12_ranked_111 (by decide) <| K, q⟩
theorem bX12_ranked_114 {h0 h : k_H} {Q : k_H → k_R → Prop} {x0 : Nat} {x1 x2 x4 s0 : Int32} (K : k_X (jX12_ranked G l h0) h 124 [(0, vR (some x0)), (1, vI x1), (2, vI x2), (4, vI x4)] [vI 0, vI s0] Q) : k_X (jX12_ranked G l h0) h 114 [(0, vR (some x0)), (1, vI x1), (2, vI x2), (4, vI x4)] [vI s0] Q := by
  obtain ⟨h', r, K, q⟩ := K
  exact ⟨h', r, j_iconst (v := 0) dX12_ranked_114 (by decide) <| j_goto (tgt := 124) dX12_ranked_115 (by decide) <| K, q⟩
theorem bX12_ranked_118 {h0 h : k_H} {Q : k_H → k_R → Prop} {x0 : Nat} {x1 x2 x4 s0 : Int32} {x5 : Int64} (w : k_is h x0 15) {P : k_H → Int32 → Prop} (c : k_cti (tX12_valueNow G l) [vR (some x0), vJ x5] h P) (K : ∀ h1 v, P h1 v → k_X (jX12_ranked G l h0) h1 124 [(0, vR (some x0)), (1, vI x1), (2, vI x2), (4, vI x4)] [vI v, vI s0] Q) : k_X (jX12_ranked G l h0) h 118 [(0, vR (some x0)), (1, vI x1), (2, vI x2), (4, vI x4), (5, vJ x5)] [vI s0] Q := by
  obtain ⟨h1, v, c, p⟩ := c
  obtain ⟨h', r, K, q⟩ := K h1 v p
  exact ⟨h', r, j_aload_n dX12_ranked_118 rfl rfl <| j_lload dX12_ranked_119 rfl <| j_callV (v := some (vI v)) (as := [vJ x5]) dX12_ranked_121 kc_X12_206 rfl rfl w (by decide) (Nat.le_of_ble_eq_true rfl) c (j_pick [0, 1, 2, 3] rfl K), q⟩
theorem bX12_ranked_124 {h0 h : k_H} {Q : k_H → k_R → Prop} {x0 : Nat} {x1 x2 x4 s0 s1 : Int32} (K : k_X (jX12_ranked G l h0) h 29 [(0, vR (some x0)), (1, vI x1), (2, vI x2), (3, vI (s0 + s1)), (4, vI (x4 + 1))] [] Q) : k_X (jX12_ranked G l h0) h 124 [(0, vR (some x0)), (1, vI x1), (2, vI x2), (4, vI x4)] [vI s1, vI s0] Q := by
  obtain ⟨h', r, K, q⟩ := K
  exact ⟨h', r, j_iadd dX12_ranked_124 <| j_istore_n dX12_ranked_125 rfl (by decide) rfl <| j_iinc (v := x4 + 1) dX12_ranked_126 rfl (by decide) rfl rfl <| j_goto (tgt := 29) dX12_ranked_129 (by decide) <| K, q⟩
theorem bX12_ranked_132 {h0 h : k_H} {Q : k_H → k_R → Prop} {x3 : Int32} (q : Q h (.inl (some (vI x3)))) : k_X (jX12_ranked G l h0) h 132 [(3, vI x3)] [] Q := by
  exact ⟨_, _, j_iload_n dX12_ranked_132 rfl rfl <| j_iret dX12_ranked_133 rfl, q⟩
theorem eX12_rank {G : k_G} {l : Launch} (hfl : l.flags = flags0) {h : k_H} {Q : k_H → k_R → Prop} {x0 : Nat} {x1 : Int32} (K : k_X (jX12_rank G l h) h 0 [(0, vR (some x0)), (1, vI x1)] [] Q) : k_ct (tX12_rank G l) [vR (some x0), vI x1] h Q := by
  obtain ⟨h', r, K, q⟩ := K
  exact ⟨h', r, k_CtOf (by decide +kernel) (Nat.le_of_ble_eq_true rfl) K hfl, q⟩

theorem bX12_rank_0 {h0 h : k_H} {Q : k_H → k_R → Prop} {x0 : Nat} {x1 : Int32} (w : k_is h x0 15) {P : k_H → Int32 → Prop} (c : k_cti (tX12_ranked G l) [vR (some x0), vI x1, vI 0] h P) (K : ∀ h1 v, P h1 v → k_X (jX12_rank G l h0) h1 6 [] [vI v] Q) : k_X (jX12_rank G l h0) h 0 [(0, vR (some x0)), (1, vI x1)] [] Q := by
  obtain ⟨h1, v, c, p⟩ := c
  obtain ⟨h', r, K, q⟩ := K h1 v p
  exact ⟨h', r, j_aload_n dX12_rank_0 rfl rfl <| j_iload_n dX12_rank_1 rfl rfl <| j_iconst (v := 0) dX12_rank_2 (by decide) <| j_callV (v := some (vI v)) (as := [vI x1, vI 0]) dX12_rank_3 kc_X12_399 rfl rfl w (by decide) (Nat.le_of_ble_eq_true rfl) c (j_pick [] rfl K), q⟩
theorem bX12_rank_6 {h0 h : k_H} {Q : k_H → k_R → Prop} {s0 : Int32} (q : Q h (.inl (some (vI s0)))) : k_X (jX12_rank G l h0) h 6 [] [vI s0] Q := by
  exact ⟨_, _, j_iret dX12_rank_6 rfl, q⟩
theorem eX12_rankAnew {G : k_G} {l : Launch} (hfl : l.flags = flags0) {h : k_H} {Q : k_H → k_R → Prop} {x0 : Nat} {x1 : Int32} (K : k_X (jX12_rankAnew G l h) h 0 [(0, vR (some x0)), (1, vI x1)] [] Q) : k_ct (tX12_rankAnew G l) [vR (some x0), vI x1] h Q := by
  obtain ⟨h', r, K, q⟩ := K
  exact ⟨h', r, k_CtOf (by decide +kernel) (Nat.le_of_ble_eq_true rfl) K hfl, q⟩

theorem bX12_rankAnew_0 {h0 h : k_H} {Q : k_H → k_R → Prop} {x0 : Nat} {x1 : Int32} (w : k_is h x0 15) {P : k_H → Int32 → Prop} (c : k_cti (tX12_ranked G l) [vR (some x0), vI x1, vI 1] h P) (K : ∀ h1 v, P h1 v → k_X (jX12_rankAnew G l h0) h1 6 [] [vI v] Q) : k_X (jX12_rankAnew G l h0) h 0 [(0, vR (some x0)), (1, vI x1)] [] Q := by
  obtain ⟨h1, v, c, p⟩ := c
  obtain ⟨h', r, K, q⟩ := K h1 v p
  exact ⟨h', r, j_aload_n dX12_rankAnew_0 rfl rfl <| j_iload_n dX12_rankAnew_1 rfl rfl <| j_iconst (v := 1) dX12_rankAnew_2 (by decide) <| j_callV (v := some (vI v)) (as := [vI x1, vI 1]) dX12_rankAnew_3 kc_X12_399 rfl rfl w (by decide) (Nat.le_of_ble_eq_true rfl) c (j_pick [] rfl K), q⟩
theorem bX12_rankAnew_6 {h0 h : k_H} {Q : k_H → k_R → Prop} {s0 : Int32} (q : Q h (.inl (some (vI s0)))) : k_X (jX12_rankAnew G l h0) h 6 [] [vI s0] Q := by
  exact ⟨_, _, j_iret dX12_rankAnew_6 rfl, q⟩
theorem eX12_watch {G : k_G} {l : Launch} (hfl : l.flags = flags0) {h : k_H} {Q : k_H → k_R → Prop} {x0 : Nat} {x1 : Int32} {x2 : Int32} {x3 : Int32} (K : k_X (jX12_watch G l h) h 0 [(0, vR (some x0)), (1, vI x1), (2, vI x2), (3, vI x3)] [] Q) : k_ct (tX12_watch G l) [vR (some x0), vI x1, vI x2, vI x3] h Q := by
  obtain ⟨h', r, K, q⟩ := K
  exact ⟨h', r, k_CtOf (by decide +kernel) (Nat.le_of_ble_eq_true rfl) K hfl, q⟩

theorem bX12_watch_0 {h0 h : k_H} {Q : k_H → k_R → Prop} {x0 : Nat} {x1 x2 x3 : Int32} {P : k_H → Int32 → Prop} (c : k_cti (tX12_isKey G l) [vI x1, vI x2, vI x3] h P) (K : ∀ h1 v, P h1 v → k_X (jX12_watch G l h0) h1 6 [(0, vR (some x0)), (1, vI x1), (2, vI x2), (3, vI x3)] [vI v] Q) : k_X (jX12_watch G l h0) h 0 [(0, vR (some x0)), (1, vI x1), (2, vI x2), (3, vI x3)] [] Q := by
  obtain ⟨h1, v, c, p⟩ := c
  obtain ⟨h', r, K, q⟩ := K h1 v p
  exact ⟨h', r, j_iload_n dX12_watch_0 rfl rfl <| j_iload_n dX12_watch_1 rfl rfl <| j_iload_n dX12_watch_2 rfl rfl <| j_callS (v := some (vI v)) (as := [vI x1, vI x2, vI x3]) dX12_watch_3 kc_X12_275 rfl rfl (by decide) (Nat.le_of_ble_eq_true rfl) c K, q⟩
theorem bX12_watch_6 {h0 h : k_H} {Q : k_H → k_R → Prop} {x0 : Nat} {x1 x2 x3 s0 : Int32} (K1 : ¬ (s0 = 0) → k_X (jX12_watch G l h0) h 18 [(0, vR (some x0)), (1, vI x1), (2, vI x2), (3, vI x3)] [vR (some x0)] Q) (K2 : s0 = 0 → k_X (jX12_watch G l h0) h 14 [(0, vR (some x0)), (1, vI x1), (2, vI x2), (3, vI x3)] [vR (some x0)] Q) : k_X (jX12_watch G l h0) h 6 [(0, vR (some x0)), (1, vI x1), (2, vI x2), (3, vI x3)] [vI s0] Q := by
  by_cases hc : s0 = 0
  · skip
    obtain ⟨h', r, K, q⟩ := K2 hc
    exact ⟨h', r, j_istore dX12_watch_6 (by decide) rfl <| j_aload_n dX12_watch_8 rfl rfl <| j_iload dX12_watch_9 rfl <| j_if_ne_f dX12_watch_11 18 (by decide) hc (j_pick [0, 1, 2, 3] rfl K), q⟩
  · skip
    obtain ⟨h', r, K, q⟩ := K1 hc
    exact ⟨h', r, j_istore dX12_watch_6 (by decide) rfl <| j_aload_n dX12_watch_8 rfl rfl <| j_iload dX12_watch_9 rfl <| j_if_ne_t (tgt := 18) dX12_watch_11 (by decide) hc (j_pick [0, 1, 2, 3] rfl K), q⟩
theorem bX12_watch_14 {h0 h : k_H} {Q : k_H → k_R → Prop} {x0 : Nat} {x1 x2 x3 : Int32} {s0 : Option Nat} (K : k_X (jX12_watch G l h0) h 32 [(0, vR (some x0)), (1, vI x1), (2, vI x2), (3, vI x3)] [vI 1, vR s0] Q) : k_X (jX12_watch G l h0) h 14 [(0, vR (some x0)), (1, vI x1), (2, vI x2), (3, vI x3)] [vR s0] Q := by
  obtain ⟨h', r, K, q⟩ := K
  exact ⟨h', r, j_iconst (v := 1) dX12_watch_14 (by decide) <| j_goto (tgt := 32) dX12_watch_15 (by decide) <| K, q⟩
theorem bX12_watch_18 {h0 h : k_H} {Q : k_H → k_R → Prop} {x0 : Nat} {x1 x2 x3 f1_42 : Int32} {s0 : Option Nat} {fs1 : List k_V} (o1 : h.1 x0 = some (k_o 15 fs1)) (g1_42 : fs1[42]? = some (vI f1_42)) (K1 : ¬ (f1_42 = 20) → k_X (jX12_watch G l h0) h 31 [(0, vR (some x0)), (1, vI x1), (2, vI x2), (3, vI x3)] [vR s0] Q) (K2 : f1_42 = 20 → k_X (jX12_watch G l h0) h 27 [(0, vR (some x0)), (1, vI x1), (2, vI x2), (3, vI x3)] [vR s0] Q) : k_X (jX12_watch G l h0) h 18 [(0, vR (some x0)), (1, vI x1), (2, vI x2), (3, vI x3)] [vR s0] Q := by
  by_cases hc : f1_42 = 20
  · skip
    obtain ⟨h', r, K, q⟩ := K2 hc
    exact ⟨h', r, j_aload_n dX12_watch_18 rfl rfl <| j_getf dX12_watch_19 kf_X12_199 o1 g1_42 <| j_bipush (v := 20) dX12_watch_22 (by decide) <| j_icmp_ne_f dX12_watch_24 31 (by decide) hc K, q⟩
  · skip
    obtain ⟨h', r, K, q⟩ := K1 hc
    exact ⟨h', r, j_aload_n dX12_watch_18 rfl rfl <| j_getf dX12_watch_19 kf_X12_199 o1 g1_42 <| j_bipush (v := 20) dX12_watch_22 (by decide) <| j_icmp_ne_t (tgt := 31) dX12_watch_24 (by decide) hc K, q⟩
theorem bX12_watch_27 {h0 h : k_H} {Q : k_H → k_R → Prop} {x0 : Nat} {x1 x2 x3 : Int32} {s0 : Option Nat} (K : k_X (jX12_watch G l h0) h 32 [(0, vR (some x0)), (1, vI x1), (2, vI x2), (3, vI x3)] [vI 2, vR s0] Q) : k_X (jX12_watch G l h0) h 27 [(0, vR (some x0)), (1, vI x1), (2, vI x2), (3, vI x3)] [vR s0] Q := by
  obtain ⟨h', r, K, q⟩ := K
  exact ⟨h', r, j_iconst (v := 2) dX12_watch_27 (by decide) <| j_goto (tgt := 32) dX12_watch_28 (by decide) <| K, q⟩
theorem bX12_watch_31 {h0 h : k_H} {Q : k_H → k_R → Prop} {x0 : Nat} {x1 x2 x3 : Int32} {s0 : Option Nat} (K : k_X (jX12_watch G l h0) h 32 [(0, vR (some x0)), (1, vI x1), (2, vI x2), (3, vI x3)] [vI 0, vR s0] Q) : k_X (jX12_watch G l h0) h 31 [(0, vR (some x0)), (1, vI x1), (2, vI x2), (3, vI x3)] [vR s0] Q := by
  obtain ⟨h', r, K, q⟩ := K
  exact ⟨h', r, j_iconst (v := 0) dX12_watch_31 (by decide) <| K, q⟩
theorem bX12_watch_32 {h0 h : k_H} {Q : k_H → k_R → Prop} {x0 s0 : Nat} {x1 x2 x3 s1 : Int32} (w : k_is h s0 15) {P : k_H → Int32 → Prop} (c : k_cti (tX12_goes G l) [vR (some s0), vI s1] h P) (K : ∀ h1 v, P h1 v → k_X (jX12_watch G l h0) h1 35 [(0, vR (some x0)), (1, vI x1), (2, vI x2), (3, vI x3)] [vI v] Q) : k_X (jX12_watch G l h0) h 32 [(0, vR (some x0)), (1, vI x1), (2, vI x2), (3, vI x3)] [vI s1, vR (some s0)] Q := by
  obtain ⟨h1, v, c, p⟩ := c
  obtain ⟨h', r, K, q⟩ := K h1 v p
  exact ⟨h', r, j_callV (v := some (vI v)) (as := [vI s1]) dX12_watch_32 kc_X12_265 rfl rfl w (by decide) (Nat.le_of_ble_eq_true rfl) c K, q⟩
theorem bX12_watch_35 {h0 h : k_H} {Q : k_H → k_R → Prop} {x0 : Nat} {x1 x2 x3 s0 : Int32} (K1 : ¬ (s0 = 0) → k_X (jX12_watch G l h0) h 40 [(0, vR (some x0)), (1, vI x1), (2, vI x2), (3, vI x3)] [] Q) (K2 : s0 = 0 → k_X (jX12_watch G l h0) h 38 [] [] Q) : k_X (jX12_watch G l h0) h 35 [(0, vR (some x0)), (1, vI x1), (2, vI x2), (3, vI x3)] [vI s0] Q := by
  by_cases hc : s0 = 0
  · skip
    obtain ⟨h', r, K, q⟩ := K2 hc
    exact ⟨h', r, j_if_ne_f dX12_watch_35 40 (by decide) hc (j_pick [] rfl K), q⟩
  · skip
    obtain ⟨h', r, K, q⟩ := K1 hc
    exact ⟨h', r, j_if_ne_t (tgt := 40) dX12_watch_35 (by decide) hc K, q⟩
theorem bX12_watch_38 {h0 h : k_H} {Q : k_H → k_R → Prop} (q : Q h (.inl (some (vI 0)))) : k_X (jX12_watch G l h0) h 38 [] [] Q := by
  exact ⟨_, _, j_iconst (v := 0) dX12_watch_38 (by decide) <| j_iret dX12_watch_39 rfl, q⟩
theorem bX12_watch_40 {h0 h : k_H} {Q : k_H → k_R → Prop} {x0 : Nat} {x1 x2 x3 f1_42 : Int32} {f1_43 : Option Nat} {fs1 : List k_V} (o1 : h.1 x0 = some (k_o 15 fs1)) (g1_43 : fs1[43]? = some (vR f1_43)) (g1_42 : fs1[42]? = some (vI f1_42)) {P : k_H → Int64 → Prop} (c : k_ctj (tX12_codeOf G l) [vI x1, vI x2, vI x3] h P) (K : ∀ h1 v, P h1 v → k_X (jX12_watch G l h0) h1 54 [(0, vR (some x0))] [vJ v, vI f1_42, vR f1_43] Q) : k_X (jX12_watch G l h0) h 40 [(0, vR (some x0)), (1, vI x1), (2, vI x2), (3, vI x3)] [] Q := by
  obtain ⟨h1, v, c, p⟩ := c
  obtain ⟨h', r, K, q⟩ := K h1 v p
  exact ⟨h', r, j_aload_n dX12_watch_40 rfl rfl <| j_getf dX12_watch_41 kf_X12_110 o1 g1_43 <| j_aload_n dX12_watch_44 rfl rfl <| j_getf dX12_watch_45 kf_X12_199 o1 g1_42 <| j_iload_n dX12_watch_48 rfl rfl <| j_iload_n dX12_watch_49 rfl rfl <| j_iload_n dX12_watch_50 rfl rfl <| j_callS (v := some (vJ v)) (as := [vI x1, vI x2, vI x3]) dX12_watch_51 kc_X12_155 rfl rfl (by decide) (Nat.le_of_ble_eq_true rfl) c (j_pick [0] rfl K), q⟩
theorem bX12_watch_54 {h0 h : k_H} {Q : k_H → k_R → Prop} {x0 s0 : Nat} {s1 : Int32} {s2 : Int64} {n1 : Nat} {w1 : Nat → Int64} (o1 : h.1 s0 = some (k_j n1 w1)) (y2 : vp_in s1 n1) (K : k_X (jX12_watch G l h0) (k_up h s0 (k_j n1 (va_up w1 (s1).toNatClampNeg s2))) 55 [(0, vR (some x0))] [] Q) : k_X (jX12_watch G l h0) h 54 [(0, vR (some x0))] [vJ s2, vI s1, vR (some s0)] Q := by
  obtain ⟨h', r, K, q⟩ := K
  exact ⟨h', r, j_last dX12_watch_54 o1 y2 <| K, q⟩
theorem bX12_watch_55 {h0 h : k_H} {Q : k_H → k_R → Prop} {x0 f1_44 : Nat} {f1_42 : Int32} {fs1 : List k_V} (o1 : h.1 x0 = some (k_o 15 fs1)) (g1_44 : fs1[44]? = some (vR (some f1_44))) (g1_42 : fs1[42]? = some (vI f1_42)) {n2 : Nat} {w2 : Nat → Int32} (o2 : h.1 f1_44 = some (k_i n2 w2)) (y3 : vp_in f1_42 n2) (K : k_X (jX12_watch G l h0) (k_up h f1_44 (k_i n2 (va_up w2 (f1_42).toNatClampNeg (-2147483648)))) 66 [(0, vR (some x0))] [] Q) : k_X (jX12_watch G l h0) h 55 [(0, vR (some x0))] [] Q := by
  obtain ⟨h', r, K, q⟩ := K
  exact ⟨h', r, j_aload_n dX12_watch_55 rfl rfl <| j_getf dX12_watch_56 kf_X12_113 o1 g1_44 <| j_aload_n dX12_watch_59 rfl rfl <| j_getf dX12_watch_60 kf_X12_199 o1 g1_42 <| j_ldc (v := (-2147483648)) dX12_watch_63 ki_X12_87 <| j_iast dX12_watch_65 o2 y3 <| K, q⟩
theorem bX12_watch_66 {h0 h : k_H} {Q : k_H → k_R → Prop} {x0 : Nat} {f1_42 : Int32} {fs1 : List k_V} (o1 : h.1 x0 = some (k_o 15 fs1)) (g1_42 : fs1[42]? = some (vI f1_42)) (z1 : fs1.length = 53) (K : k_X (jX12_watch G l h0) (k_up h x0 (k_o 15 (fs1.set 42 (vI (f1_42 + 1))))) 76 [(0, vR (some x0))] [] Q) : k_X (jX12_watch G l h0) h 66 [(0, vR (some x0))] [] Q := by
  obtain ⟨h', r, K, q⟩ := K
  exact ⟨h', r, j_aload_n dX12_watch_66 rfl rfl <| j_dup dX12_watch_67 rfl <| j_getf dX12_watch_68 kf_X12_199 o1 g1_42 <| j_iconst (v := 1) dX12_watch_71 (by decide) <| j_iadd dX12_watch_72 <| j_putf dX12_watch_73 kp_X12_199 o1 (k_ln z1 (by decide)) (k_fit_i _) rfl <| K, q⟩
theorem bX12_watch_76 {h0 h : k_H} {Q : k_H → k_R → Prop} {x0 : Nat} {f1_42 : Int32} {fs1 : List k_V} (o1 : h.1 x0 = some (k_o 15 fs1)) (g1_42 : fs1[42]? = some (vI f1_42)) (q : Q h (.inl (some (vI (f1_42 - 1))))) : k_X (jX12_watch G l h0) h 76 [(0, vR (some x0))] [] Q := by
  exact ⟨_, _, j_aload_n dX12_watch_76 rfl rfl <| j_getf dX12_watch_77 kf_X12_199 o1 g1_42 <| j_iconst (v := 1) dX12_watch_80 (by decide) <| j_isub dX12_watch_81 <| j_iret dX12_watch_82 rfl, q⟩
theorem eX12_fired {G : k_G} {l : Launch} (hfl : l.flags = flags0) {h : k_H} {Q : k_H → k_R → Prop} {x0 : Nat} {x1 : Int32} (K : k_X (jX12_fired G l h) h 0 [(0, vR (some x0)), (1, vI x1)] [] Q) : k_ct (tX12_fired G l) [vR (some x0), vI x1] h Q := by
  obtain ⟨h', r, K, q⟩ := K
  exact ⟨h', r, k_CtOf (by decide +kernel) (Nat.le_of_ble_eq_true rfl) K hfl, q⟩

theorem bX12_fired_0 {h0 h : k_H} {Q : k_H → k_R → Prop} {x0 : Nat} {x1 f1_42 : Int32} {fs1 : List k_V} (o1 : h.1 x0 = some (k_o 15 fs1)) (g1_42 : fs1[42]? = some (vI f1_42)) {P : k_H → Int32 → Prop} (c : k_cti (tX12_isIn G l) [vI x1, vI 0, vI (f1_42 - 1)] h P) (K : ∀ h1 v, P h1 v → k_X (jX12_fired G l h0) h1 12 [(0, vR (some x0)), (1, vI x1)] [vI v, vR (some x0)] Q) : k_X (jX12_fired G l h0) h 0 [(0, vR (some x0)), (1, vI x1)] [] Q := by
  obtain ⟨h1, v, c, p⟩ := c
  obtain ⟨h', r, K, q⟩ := K h1 v p
  exact ⟨h', r, j_aload_n dX12_fired_0 rfl rfl <| j_iload_n dX12_fired_1 rfl rfl <| j_iconst (v := 0) dX12_fired_2 (by decide) <| j_aload_n dX12_fired_3 rfl rfl <| j_getf dX12_fired_4 kf_X12_199 o1 g1_42 <| j_iconst (v := 1) dX12_fired_7 (by decide) <| j_isub dX12_fired_8 <| j_callS (v := some (vI v)) (as := [vI x1, vI 0, vI (f1_42 - 1)]) dX12_fired_9 kc_X12_137 rfl rfl (by decide) (Nat.le_of_ble_eq_true rfl) c K, q⟩
theorem bX12_fired_12 {h0 h : k_H} {Q : k_H → k_R → Prop} {x0 : Nat} {x1 s1 : Int32} {s0 : Option Nat} (K1 : s1 = 0 → k_X (jX12_fired G l h0) h 19 [(0, vR (some x0)), (1, vI x1)] [vR s0] Q) (K2 : ¬ (s1 = 0) → k_X (jX12_fired G l h0) h 15 [(0, vR (some x0)), (1, vI x1)] [vR s0] Q) : k_X (jX12_fired G l h0) h 12 [(0, vR (some x0)), (1, vI x1)] [vI s1, vR s0] Q := by
  by_cases hc : s1 = 0
  · skip
    obtain ⟨h', r, K, q⟩ := K1 hc
    exact ⟨h', r, j_if_eq_t (tgt := 19) dX12_fired_12 (by decide) hc K, q⟩
  · skip
    obtain ⟨h', r, K, q⟩ := K2 hc
    exact ⟨h', r, j_if_eq_f dX12_fired_12 19 (by decide) hc K, q⟩
theorem bX12_fired_15 {h0 h : k_H} {Q : k_H → k_R → Prop} {x0 : Nat} {x1 : Int32} {s0 : Option Nat} (K : k_X (jX12_fired G l h0) h 20 [(0, vR (some x0)), (1, vI x1)] [vI 0, vR s0] Q) : k_X (jX12_fired G l h0) h 15 [(0, vR (some x0)), (1, vI x1)] [vR s0] Q := by
  obtain ⟨h', r, K, q⟩ := K
  exact ⟨h', r, j_iconst (v := 0) dX12_fired_15 (by decide) <| j_goto (tgt := 20) dX12_fired_16 (by decide) <| K, q⟩
theorem bX12_fired_19 {h0 h : k_H} {Q : k_H → k_R → Prop} {x0 : Nat} {x1 : Int32} {s0 : Option Nat} (K : k_X (jX12_fired G l h0) h 20 [(0, vR (some x0)), (1, vI x1)] [vI 1, vR s0] Q) : k_X (jX12_fired G l h0) h 19 [(0, vR (some x0)), (1, vI x1)] [vR s0] Q := by
  obtain ⟨h', r, K, q⟩ := K
  exact ⟨h', r, j_iconst (v := 1) dX12_fired_19 (by decide) <| K, q⟩
theorem bX12_fired_20 {h0 h : k_H} {Q : k_H → k_R → Prop} {x0 s0 : Nat} {x1 s1 : Int32} (w : k_is h s0 15) {P : k_H → Int32 → Prop} (c : k_cti (tX12_goes G l) [vR (some s0), vI s1] h P) (K : ∀ h1 v, P h1 v → k_X (jX12_fired G l h0) h1 23 [(0, vR (some x0)), (1, vI x1)] [vI v] Q) : k_X (jX12_fired G l h0) h 20 [(0, vR (some x0)), (1, vI x1)] [vI s1, vR (some s0)] Q := by
  obtain ⟨h1, v, c, p⟩ := c
  obtain ⟨h', r, K, q⟩ := K h1 v p
  exact ⟨h', r, j_callV (v := some (vI v)) (as := [vI s1]) dX12_fired_20 kc_X12_265 rfl rfl w (by decide) (Nat.le_of_ble_eq_true rfl) c K, q⟩
theorem bX12_fired_23 {h0 h : k_H} {Q : k_H → k_R → Prop} {x0 : Nat} {x1 s0 : Int32} (K1 : s0 = 0 → k_X (jX12_fired G l h0) h 35 [] [] Q) (K2 : ¬ (s0 = 0) → k_X (jX12_fired G l h0) h 26 [(0, vR (some x0)), (1, vI x1)] [] Q) : k_X (jX12_fired G l h0) h 23 [(0, vR (some x0)), (1, vI x1)] [vI s0] Q := by
  by_cases hc : s0 = 0
  · skip
    obtain ⟨h', r, K, q⟩ := K1 hc
    exact ⟨h', r, j_if_eq_t (tgt := 35) dX12_fired_23 (by decide) hc (j_pick [] rfl K), q⟩
  · skip
    obtain ⟨h', r, K, q⟩ := K2 hc
    exact ⟨h', r, j_if_eq_f dX12_fired_23 35 (by decide) hc K, q⟩
theorem bX12_fired_26 {h0 h : k_H} {Q : k_H → k_R → Prop} {x0 f1_44 : Nat} {x1 : Int32} {fs1 : List k_V} (o1 : h.1 x0 = some (k_o 15 fs1)) (g1_44 : fs1[44]? = some (vR (some f1_44))) {n2 : Nat} {w2 : Nat → Int32} (o2 : h.1 f1_44 = some (k_i n2 w2)) (y3 : vp_in x1 n2) (K : k_X (jX12_fired G l h0) h 36 [] [vI (w2 (x1).toNatClampNeg)] Q) : k_X (jX12_fired G l h0) h 26 [(0, vR (some x0)), (1, vI x1)] [] Q := by
  obtain ⟨h', r, K, q⟩ := K
  exact ⟨h', r, j_aload_n dX12_fired_26 rfl rfl <| j_getf dX12_fired_27 kf_X12_113 o1 g1_44 <| j_iload_n dX12_fired_30 rfl rfl <| j_iald dX12_fired_31 o2 y3 <| j_goto (tgt := 36) dX12_fired_32 (by decide) <| (j_pick [] rfl K), q⟩
theorem bX12_fired_35 {h0 h : k_H} {Q : k_H → k_R → Prop} (K : k_X (jX12_fired G l h0) h 36 [] [vI 0] Q) : k_X (jX12_fired G l h0) h 35 [] [] Q := by
  obtain ⟨h', r, K, q⟩ := K
  exact ⟨h', r, j_iconst (v := 0) dX12_fired_35 (by decide) <| K, q⟩
theorem bX12_fired_36 {h0 h : k_H} {Q : k_H → k_R → Prop} {s0 : Int32} (q : Q h (.inl (some (vI s0)))) : k_X (jX12_fired G l h0) h 36 [] [vI s0] Q := by
  exact ⟨_, _, j_iret dX12_fired_36 rfl, q⟩
theorem eX12_offer {G : k_G} {l : Launch} (hfl : l.flags = flags0) {h : k_H} {Q : k_H → k_R → Prop} {x0 : Nat} {x1 : Int32} {x2 : Int32} (K : k_X (jX12_offer G l h) h 0 [(0, vR (some x0)), (1, vI x1), (2, vI x2)] [] Q) : k_ct (tX12_offer G l) [vR (some x0), vI x1, vI x2] h Q := by
  obtain ⟨h', r, K, q⟩ := K
  exact ⟨h', r, k_CtOf (by decide +kernel) (Nat.le_of_ble_eq_true rfl) K hfl, q⟩

theorem bX12_offer_0 {h0 h : k_H} {Q : k_H → k_R → Prop} {x0 : Nat} {x1 x2 : Int32} {P : k_H → Int32 → Prop} (c : k_cti (tX12_isTransaction G l) [vI x1] h P) (K : ∀ h1 v, P h1 v → k_X (jX12_offer G l h0) h1 5 [(0, vR (some x0)), (1, vI x1), (2, vI x2)] [vI v, vR (some x0)] Q) : k_X (jX12_offer G l h0) h 0 [(0, vR (some x0)), (1, vI x1), (2, vI x2)] [] Q := by
  obtain ⟨h1, v, c, p⟩ := c
  obtain ⟨h', r, K, q⟩ := K h1 v p
  exact ⟨h', r, j_aload_n dX12_offer_0 rfl rfl <| j_iload_n dX12_offer_1 rfl rfl <| j_callS (v := some (vI v)) (as := [vI x1]) dX12_offer_2 kc_X12_262 rfl rfl (by decide) (Nat.le_of_ble_eq_true rfl) c K, q⟩
theorem bX12_offer_5 {h0 h : k_H} {Q : k_H → k_R → Prop} {x0 : Nat} {x1 x2 s1 : Int32} {s0 : Option Nat} (K1 : ¬ (s1 = 0) → k_X (jX12_offer G l h0) h 12 [(0, vR (some x0)), (1, vI x1), (2, vI x2)] [vR s0] Q) (K2 : s1 = 0 → k_X (jX12_offer G l h0) h 8 [(0, vR (some x0)), (1, vI x1), (2, vI x2)] [vR s0] Q) : k_X (jX12_offer G l h0) h 5 [(0, vR (some x0)), (1, vI x1), (2, vI x2)] [vI s1, vR s0] Q := by
  by_cases hc : s1 = 0
  · skip
    obtain ⟨h', r, K, q⟩ := K2 hc
    exact ⟨h', r, j_if_ne_f dX12_offer_5 12 (by decide) hc K, q⟩
  · skip
    obtain ⟨h', r, K, q⟩ := K1 hc
    exact ⟨h', r, j_if_ne_t (tgt := 12) dX12_offer_5 (by decide) hc K, q⟩
theorem bX12_offer_8 {h0 h : k_H} {Q : k_H → k_R → Prop} {x0 : Nat} {x1 x2 : Int32} {s0 : Option Nat} (K : k_X (jX12_offer G l h0) h 40 [(0, vR (some x0)), (1, vI x1), (2, vI x2)] [vI 1, vR s0] Q) : k_X (jX12_offer G l h0) h 8 [(0, vR (some x0)), (1, vI x1), (2, vI x2)] [vR s0] Q := by
  obtain ⟨h', r, K, q⟩ := K
  exact ⟨h', r, j_iconst (v := 1) dX12_offer_8 (by decide) <| j_goto (tgt := 40) dX12_offer_9 (by decide) <| K, q⟩
theorem bX12_offer_12 {h0 h : k_H} {Q : k_H → k_R → Prop} {x0 : Nat} {x1 x2 : Int32} {s0 : Option Nat} {P : k_H → Int32 → Prop} (c : k_cti (tX12_isIn G l) [vI x2, vI 0, vI 1000000] h P) (K : ∀ h1 v, P h1 v → k_X (jX12_offer G l h0) h1 20 [(0, vR (some x0)), (1, vI x1), (2, vI x2)] [vI v, vR s0] Q) : k_X (jX12_offer G l h0) h 12 [(0, vR (some x0)), (1, vI x1), (2, vI x2)] [vR s0] Q := by
  obtain ⟨h1, v, c, p⟩ := c
  obtain ⟨h', r, K, q⟩ := K h1 v p
  exact ⟨h', r, j_iload_n dX12_offer_12 rfl rfl <| j_iconst (v := 0) dX12_offer_13 (by decide) <| j_ldcw (v := 1000000) dX12_offer_14 ki_X12_300 <| j_callS (v := some (vI v)) (as := [vI x2, vI 0, vI 1000000]) dX12_offer_17 kc_X12_137 rfl rfl (by decide) (Nat.le_of_ble_eq_true rfl) c K, q⟩
theorem bX12_offer_20 {h0 h : k_H} {Q : k_H → k_R → Prop} {x0 : Nat} {x1 x2 s1 : Int32} {s0 : Option Nat} (K1 : ¬ (s1 = 0) → k_X (jX12_offer G l h0) h 27 [(0, vR (some x0)), (1, vI x1), (2, vI x2)] [vR s0] Q) (K2 : s1 = 0 → k_X (jX12_offer G l h0) h 23 [(0, vR (some x0)), (1, vI x1), (2, vI x2)] [vR s0] Q) : k_X (jX12_offer G l h0) h 20 [(0, vR (some x0)), (1, vI x1), (2, vI x2)] [vI s1, vR s0] Q := by
  by_cases hc : s1 = 0
  · skip
    obtain ⟨h', r, K, q⟩ := K2 hc
    exact ⟨h', r, j_if_ne_f dX12_offer_20 27 (by decide) hc K, q⟩
  · skip
    obtain ⟨h', r, K, q⟩ := K1 hc
    exact ⟨h', r, j_if_ne_t (tgt := 27) dX12_offer_20 (by decide) hc K, q⟩
theorem bX12_offer_23 {h0 h : k_H} {Q : k_H → k_R → Prop} {x0 : Nat} {x1 x2 : Int32} {s0 : Option Nat} (K : k_X (jX12_offer G l h0) h 40 [(0, vR (some x0)), (1, vI x1), (2, vI x2)] [vI 2, vR s0] Q) : k_X (jX12_offer G l h0) h 23 [(0, vR (some x0)), (1, vI x1), (2, vI x2)] [vR s0] Q := by
  obtain ⟨h', r, K, q⟩ := K
  exact ⟨h', r, j_iconst (v := 2) dX12_offer_23 (by decide) <| j_goto (tgt := 40) dX12_offer_24 (by decide) <| K, q⟩
theorem bX12_offer_27 {h0 h : k_H} {Q : k_H → k_R → Prop} {x0 : Nat} {x1 x2 : Int32} {s0 : Option Nat} (w : k_is h x0 15) {P : k_H → Int32 → Prop} (c : k_cti (tX12_isShut G l) [vR (some x0), vI x1] h P) (K : ∀ h1 v, P h1 v → k_X (jX12_offer G l h0) h1 32 [(0, vR (some x0)), (1, vI x1), (2, vI x2)] [vI v, vR s0] Q) : k_X (jX12_offer G l h0) h 27 [(0, vR (some x0)), (1, vI x1), (2, vI x2)] [vR s0] Q := by
  obtain ⟨h1, v, c, p⟩ := c
  obtain ⟨h', r, K, q⟩ := K h1 v p
  exact ⟨h', r, j_aload_n dX12_offer_27 rfl rfl <| j_iload_n dX12_offer_28 rfl rfl <| j_callV (v := some (vI v)) (as := [vI x1]) dX12_offer_29 kc_X12_301 rfl rfl w (by decide) (Nat.le_of_ble_eq_true rfl) c K, q⟩
theorem bX12_offer_32 {h0 h : k_H} {Q : k_H → k_R → Prop} {x0 : Nat} {x1 x2 s1 : Int32} {s0 : Option Nat} (K1 : s1 = 0 → k_X (jX12_offer G l h0) h 39 [(0, vR (some x0)), (1, vI x1), (2, vI x2)] [vR s0] Q) (K2 : ¬ (s1 = 0) → k_X (jX12_offer G l h0) h 35 [(0, vR (some x0)), (1, vI x1), (2, vI x2)] [vR s0] Q) : k_X (jX12_offer G l h0) h 32 [(0, vR (some x0)), (1, vI x1), (2, vI x2)] [vI s1, vR s0] Q := by
  by_cases hc : s1 = 0
  · skip
    obtain ⟨h', r, K, q⟩ := K1 hc
    exact ⟨h', r, j_if_eq_t (tgt := 39) dX12_offer_32 (by decide) hc K, q⟩
  · skip
    obtain ⟨h', r, K, q⟩ := K2 hc
    exact ⟨h', r, j_if_eq_f dX12_offer_32 39 (by decide) hc K, q⟩
theorem bX12_offer_35 {h0 h : k_H} {Q : k_H → k_R → Prop} {x0 : Nat} {x1 x2 : Int32} {s0 : Option Nat} (K : k_X (jX12_offer G l h0) h 40 [(0, vR (some x0)), (1, vI x1), (2, vI x2)] [vI 3, vR s0] Q) : k_X (jX12_offer G l h0) h 35 [(0, vR (some x0)), (1, vI x1), (2, vI x2)] [vR s0] Q := by
  obtain ⟨h', r, K, q⟩ := K
  exact ⟨h', r, j_iconst (v := 3) dX12_offer_35 (by decide) <| j_goto (tgt := 40) dX12_offer_36 (by decide) <| K, q⟩
theorem bX12_offer_39 {h0 h : k_H} {Q : k_H → k_R → Prop} {x0 : Nat} {x1 x2 : Int32} {s0 : Option Nat} (K : k_X (jX12_offer G l h0) h 40 [(0, vR (some x0)), (1, vI x1), (2, vI x2)] [vI 0, vR s0] Q) : k_X (jX12_offer G l h0) h 39 [(0, vR (some x0)), (1, vI x1), (2, vI x2)] [vR s0] Q := by
  obtain ⟨h', r, K, q⟩ := K
  exact ⟨h', r, j_iconst (v := 0) dX12_offer_39 (by decide) <| K, q⟩
theorem bX12_offer_40 {h0 h : k_H} {Q : k_H → k_R → Prop} {x0 s0 : Nat} {x1 x2 s1 : Int32} (w : k_is h s0 15) {P : k_H → Int32 → Prop} (c : k_cti (tX12_goes G l) [vR (some s0), vI s1] h P) (K : ∀ h1 v, P h1 v → k_X (jX12_offer G l h0) h1 43 [(0, vR (some x0)), (1, vI x1), (2, vI x2)] [vI v] Q) : k_X (jX12_offer G l h0) h 40 [(0, vR (some x0)), (1, vI x1), (2, vI x2)] [vI s1, vR (some s0)] Q := by
  obtain ⟨h1, v, c, p⟩ := c
  obtain ⟨h', r, K, q⟩ := K h1 v p
  exact ⟨h', r, j_callV (v := some (vI v)) (as := [vI s1]) dX12_offer_40 kc_X12_265 rfl rfl w (by decide) (Nat.le_of_ble_eq_true rfl) c K, q⟩
theorem bX12_offer_43 {h0 h : k_H} {Q : k_H → k_R → Prop} {x0 : Nat} {x1 x2 s0 : Int32} (K1 : ¬ (s0 = 0) → k_X (jX12_offer G l h0) h 48 [(0, vR (some x0)), (1, vI x1), (2, vI x2)] [] Q) (K2 : s0 = 0 → k_X (jX12_offer G l h0) h 46 [] [] Q) : k_X (jX12_offer G l h0) h 43 [(0, vR (some x0)), (1, vI x1), (2, vI x2)] [vI s0] Q := by
  by_cases hc : s0 = 0
  · skip
    obtain ⟨h', r, K, q⟩ := K2 hc
    exact ⟨h', r, j_if_ne_f dX12_offer_43 48 (by decide) hc (j_pick [] rfl K), q⟩
  · skip
    obtain ⟨h', r, K, q⟩ := K1 hc
    exact ⟨h', r, j_if_ne_t (tgt := 48) dX12_offer_43 (by decide) hc K, q⟩
theorem bX12_offer_46 {h0 h : k_H} {Q : k_H → k_R → Prop} (q : Q h (.inl (some (vI 0)))) : k_X (jX12_offer G l h0) h 46 [] [] Q := by
  exact ⟨_, _, j_iconst (v := 0) dX12_offer_46 (by decide) <| j_iret dX12_offer_47 rfl, q⟩
theorem bX12_offer_48 {h0 h : k_H} {Q : k_H → k_R → Prop} {x0 : Nat} {x1 x2 : Int32} {P : k_H → Int64 → Prop} (c : k_ctj (tX12_codeOf G l) [vI (-5), vI 0, vI 10000] h P) (K : ∀ h1 v, P h1 v → k_X (jX12_offer G l h0) h1 61 [(0, vR (some x0)), (1, vI x1), (2, vI x2)] [vJ v, vI 6, vI x1, vR (some x0)] Q) : k_X (jX12_offer G l h0) h 48 [(0, vR (some x0)), (1, vI x1), (2, vI x2)] [] Q := by
  obtain ⟨h1, v, c, p⟩ := c
  obtain ⟨h', r, K, q⟩ := K h1 v p
  exact ⟨h', r, j_aload_n dX12_offer_48 rfl rfl <| j_iload_n dX12_offer_49 rfl rfl <| j_bipush (v := 6) dX12_offer_50 (by decide) <| j_bipush (v := (-5)) dX12_offer_52 (by decide) <| j_iconst (v := 0) dX12_offer_54 (by decide) <| j_sipush (v := 10000) dX12_offer_55 (by decide) <| j_callS (v := some (vJ v)) (as := [vI (-5), vI 0, vI 10000]) dX12_offer_58 kc_X12_155 rfl rfl (by decide) (Nat.le_of_ble_eq_true rfl) c K, q⟩
theorem bX12_offer_61 {h0 h : k_H} {Q : k_H → k_R → Prop} {x0 s0 : Nat} {x1 x2 s1 s2 : Int32} {s3 : Int64} (w : k_is h s0 15) {P : k_H → Prop} (c : k_ctv (tX12_keepsKey G l) [vR (some s0), vI s1, vI s2, vJ s3, vI x2] h P) (K : ∀ h1, P h1 → k_X (jX12_offer G l h0) h1 65 [(0, vR (some x0)), (1, vI x1)] [] Q) : k_X (jX12_offer G l h0) h 61 [(0, vR (some x0)), (1, vI x1), (2, vI x2)] [vJ s3, vI s2, vI s1, vR (some s0)] Q := by
  obtain ⟨h1, c, p⟩ := c
  obtain ⟨h', r, K, q⟩ := K h1 p
  exact ⟨h', r, j_iload_n dX12_offer_61 rfl rfl <| j_callV (v := none) (as := [vI s1, vI s2, vJ s3, vI x2]) dX12_offer_62 kc_X12_372 rfl rfl w (by decide) (Nat.le_of_ble_eq_true rfl) c (j_pick [0, 1] rfl K), q⟩
theorem bX12_offer_65 {h0 h : k_H} {Q : k_H → k_R → Prop} {x0 f1_20 : Nat} {x1 : Int32} {fs1 : List k_V} (o1 : h.1 x0 = some (k_o 15 fs1)) (g1_20 : fs1[20]? = some (vR (some f1_20))) {n2 : Nat} {w2 : Nat → Int32} (o2 : h.1 f1_20 = some (k_i n2 w2)) (y3 : vp_in x1 n2) (q : Q h (.inl (some (vI (w2 (x1).toNatClampNeg))))) : k_X (jX12_offer G l h0) h 65 [(0, vR (some x0)), (1, vI x1)] [] Q := by
  exact ⟨_, _, j_aload_n dX12_offer_65 rfl rfl <| j_getf dX12_offer_66 kf_X12_57 o1 g1_20 <| j_iload_n dX12_offer_69 rfl rfl <| j_iald dX12_offer_70 o2 y3 <| j_iret dX12_offer_71 rfl, q⟩
theorem eX12_holder {G : k_G} {l : Launch} (hfl : l.flags = flags0) {h : k_H} {Q : k_H → k_R → Prop} {x0 : Nat} {x1 : Int32} (K : k_X (jX12_holder G l h) h 0 [(0, vR (some x0)), (1, vI x1)] [] Q) : k_ct (tX12_holder G l) [vR (some x0), vI x1] h Q := by
  obtain ⟨h', r, K, q⟩ := K
  exact ⟨h', r, k_CtOf (by decide +kernel) (Nat.le_of_ble_eq_true rfl) K hfl, q⟩

theorem bX12_holder_0 {h0 h : k_H} {Q : k_H → k_R → Prop} {x0 : Nat} {x1 : Int32} {P : k_H → Int64 → Prop} (c : k_ctj (tX12_codeOf G l) [vI (-7), vI x1, vI 10000] h P) (K : ∀ h1 v, P h1 v → k_X (jX12_holder G l h0) h1 10 [(0, vR (some x0))] [vJ v, vR (some x0)] Q) : k_X (jX12_holder G l h0) h 0 [(0, vR (some x0)), (1, vI x1)] [] Q := by
  obtain ⟨h1, v, c, p⟩ := c
  obtain ⟨h', r, K, q⟩ := K h1 v p
  exact ⟨h', r, j_aload_n dX12_holder_0 rfl rfl <| j_bipush (v := (-7)) dX12_holder_1 (by decide) <| j_iload_n dX12_holder_3 rfl rfl <| j_sipush (v := 10000) dX12_holder_4 (by decide) <| j_callS (v := some (vJ v)) (as := [vI (-7), vI x1, vI 10000]) dX12_holder_7 kc_X12_155 rfl rfl (by decide) (Nat.le_of_ble_eq_true rfl) c (j_pick [0] rfl K), q⟩
theorem bX12_holder_10 {h0 h : k_H} {Q : k_H → k_R → Prop} {x0 s0 : Nat} {s1 : Int64} (w : k_is h s0 15) {P : k_H → Int32 → Prop} (c : k_cti (tX12_valueNow G l) [vR (some s0), vJ s1] h P) (K : ∀ h1 v, P h1 v → k_X (jX12_holder G l h0) h1 13 [(0, vR (some x0))] [vI v] Q) : k_X (jX12_holder G l h0) h 10 [(0, vR (some x0))] [vJ s1, vR (some s0)] Q := by
  obtain ⟨h1, v, c, p⟩ := c
  obtain ⟨h', r, K, q⟩ := K h1 v p
  exact ⟨h', r, j_callV (v := some (vI v)) (as := [vJ s1]) dX12_holder_10 kc_X12_206 rfl rfl w (by decide) (Nat.le_of_ble_eq_true rfl) c K, q⟩
theorem bX12_holder_13 {h0 h : k_H} {Q : k_H → k_R → Prop} {x0 : Nat} {s0 : Int32} (K1 : s0 < 0 → k_X (jX12_holder G l h0) h 30 [] [] Q) (K2 : ¬ (s0 < 0) → k_X (jX12_holder G l h0) h 18 [(0, vR (some x0)), (2, vI s0)] [] Q) : k_X (jX12_holder G l h0) h 13 [(0, vR (some x0))] [vI s0] Q := by
  by_cases hc : s0 < 0
  · skip
    obtain ⟨h', r, K, q⟩ := K1 hc
    exact ⟨h', r, j_istore_n dX12_holder_13 rfl (by decide) rfl <| j_iload_n dX12_holder_14 rfl rfl <| j_if_lt_t (tgt := 30) dX12_holder_15 (by decide) hc (j_pick [] rfl K), q⟩
  · skip
    obtain ⟨h', r, K, q⟩ := K2 hc
    exact ⟨h', r, j_istore_n dX12_holder_13 rfl (by decide) rfl <| j_iload_n dX12_holder_14 rfl rfl <| j_if_lt_f dX12_holder_15 30 (by decide) hc K, q⟩
theorem bX12_holder_18 {h0 h : k_H} {Q : k_H → k_R → Prop} {x0 : Nat} {x2 f1_0 : Int32} {fs1 : List k_V} (o1 : h.1 x0 = some (k_o 15 fs1)) (g1_0 : fs1[0]? = some (vI f1_0)) (K1 : f1_0 < (x2 - (x2 / 10000) * 10000) → k_X (jX12_holder G l h0) h 35 [(2, vI x2)] [] Q) (K2 : ¬ (f1_0 < (x2 - (x2 / 10000) * 10000)) → k_X (jX12_holder G l h0) h 30 [] [] Q) : k_X (jX12_holder G l h0) h 18 [(0, vR (some x0)), (2, vI x2)] [] Q := by
  by_cases hc : f1_0 < (x2 - (x2 / 10000) * 10000)
  · skip
    obtain ⟨h', r, K, q⟩ := K1 hc
    exact ⟨h', r, j_iload_n dX12_holder_18 rfl rfl <| j_sipush (v := 10000) dX12_holder_19 (by decide) <| j_irem dX12_holder_22 (by decide) <| j_aload_n dX12_holder_23 rfl rfl <| j_getf dX12_holder_24 kf_X12_176 o1 g1_0 <| j_icmp_gt_t (tgt := 35) dX12_holder_27 (by decide) hc (j_pick [1] rfl K), q⟩
  · skip
    obtain ⟨h', r, K, q⟩ := K2 hc
    exact ⟨h', r, j_iload_n dX12_holder_18 rfl rfl <| j_sipush (v := 10000) dX12_holder_19 (by decide) <| j_irem dX12_holder_22 (by decide) <| j_aload_n dX12_holder_23 rfl rfl <| j_getf dX12_holder_24 kf_X12_176 o1 g1_0 <| j_icmp_gt_f dX12_holder_27 35 (by decide) hc (j_pick [] rfl K), q⟩
theorem bX12_holder_30 {h0 h : k_H} {Q : k_H → k_R → Prop} (K : k_X (jX12_holder G l h0) h 40 [] [vI (-2147483648)] Q) : k_X (jX12_holder G l h0) h 30 [] [] Q := by
  obtain ⟨h', r, K, q⟩ := K
  exact ⟨h', r, j_ldc (v := (-2147483648)) dX12_holder_30 ki_X12_87 <| j_goto (tgt := 40) dX12_holder_32 (by decide) <| K, q⟩
theorem bX12_holder_35 {h0 h : k_H} {Q : k_H → k_R → Prop} {x2 : Int32} (K : k_X (jX12_holder G l h0) h 40 [] [vI (x2 / 10000)] Q) : k_X (jX12_holder G l h0) h 35 [(2, vI x2)] [] Q := by
  obtain ⟨h', r, K, q⟩ := K
  exact ⟨h', r, j_iload_n dX12_holder_35 rfl rfl <| j_sipush (v := 10000) dX12_holder_36 (by decide) <| j_idiv dX12_holder_39 (by decide) <| (j_pick [] rfl K), q⟩
theorem bX12_holder_40 {h0 h : k_H} {Q : k_H → k_R → Prop} {s0 : Int32} (q : Q h (.inl (some (vI s0)))) : k_X (jX12_holder G l h0) h 40 [] [vI s0] Q := by
  exact ⟨_, _, j_iret dX12_holder_40 rfl, q⟩
theorem eX12_workOf {G : k_G} {l : Launch} (hfl : l.flags = flags0) {h : k_H} {Q : k_H → k_R → Prop} {x0 : Nat} {x1 : Int32} (K : k_X (jX12_workOf G l h) h 0 [(0, vR (some x0)), (1, vI x1)] [] Q) : k_ct (tX12_workOf G l) [vR (some x0), vI x1] h Q := by
  obtain ⟨h', r, K, q⟩ := K
  exact ⟨h', r, k_CtOf (by decide +kernel) (Nat.le_of_ble_eq_true rfl) K hfl, q⟩

theorem bX12_workOf_0 {h0 h : k_H} {Q : k_H → k_R → Prop} {x0 : Nat} {x1 : Int32} {P : k_H → Int64 → Prop} (c : k_ctj (tX12_firstOf G l) [vI (-5), vI 10000] h P) (K : ∀ h1 v, P h1 v → k_X (jX12_workOf G l h0) h1 9 [(0, vR (some x0)), (1, vI x1)] [vJ v, vR (some x0)] Q) : k_X (jX12_workOf G l h0) h 0 [(0, vR (some x0)), (1, vI x1)] [] Q := by
  obtain ⟨h1, v, c, p⟩ := c
  obtain ⟨h', r, K, q⟩ := K h1 v p
  exact ⟨h', r, j_aload_n dX12_workOf_0 rfl rfl <| j_bipush (v := (-5)) dX12_workOf_1 (by decide) <| j_sipush (v := 10000) dX12_workOf_3 (by decide) <| j_callS (v := some (vJ v)) (as := [vI (-5), vI 10000]) dX12_workOf_6 kc_X12_285 rfl rfl (by decide) (Nat.le_of_ble_eq_true rfl) c K, q⟩
theorem bX12_workOf_9 {h0 h : k_H} {Q : k_H → k_R → Prop} {x0 s0 : Nat} {x1 : Int32} {s1 : Int64} (w : k_is h s0 15) {P : k_H → Int32 → Prop} (c : k_cti (tX12_placeOf G l) [vR (some s0), vJ s1] h P) (K : ∀ h1 v, P h1 v → k_X (jX12_workOf G l h0) h1 12 [(0, vR (some x0)), (1, vI x1)] [vI v] Q) : k_X (jX12_workOf G l h0) h 9 [(0, vR (some x0)), (1, vI x1)] [vJ s1, vR (some s0)] Q := by
  obtain ⟨h1, v, c, p⟩ := c
  obtain ⟨h', r, K, q⟩ := K h1 v p
  exact ⟨h', r, j_callV (v := some (vI v)) (as := [vJ s1]) dX12_workOf_9 kc_X12_164 rfl rfl w (by decide) (Nat.le_of_ble_eq_true rfl) c K, q⟩
theorem bX12_workOf_12 {h0 h : k_H} {Q : k_H → k_R → Prop} {x0 : Nat} {x1 s0 : Int32} (K : k_X (jX12_workOf G l h0) h 13 [(0, vR (some x0)), (1, vI x1), (2, vI s0)] [] Q) : k_X (jX12_workOf G l h0) h 12 [(0, vR (some x0)), (1, vI x1)] [vI s0] Q := by
  obtain ⟨h', r, K, q⟩ := K
  exact ⟨h', r, j_istore_n dX12_workOf_12 rfl (by decide) rfl <| K, q⟩
theorem bX12_workOf_13 {h0 h : k_H} {Q : k_H → k_R → Prop} {x0 : Nat} {x1 x2 f1_2 : Int32} {fs1 : List k_V} (o1 : h.1 x0 = some (k_o 15 fs1)) (g1_2 : fs1[2]? = some (vI f1_2)) (K1 : f1_2 ≤ x2 → k_X (jX12_workOf G l h0) h 77 [] [] Q) (K2 : ¬ (f1_2 ≤ x2) → k_X (jX12_workOf G l h0) h 21 [(0, vR (some x0)), (1, vI x1), (2, vI x2)] [] Q) : k_X (jX12_workOf G l h0) h 13 [(0, vR (some x0)), (1, vI x1), (2, vI x2)] [] Q := by
  by_cases hc : f1_2 ≤ x2
  · skip
    obtain ⟨h', r, K, q⟩ := K1 hc
    exact ⟨h', r, j_iload_n dX12_workOf_13 rfl rfl <| j_aload_n dX12_workOf_14 rfl rfl <| j_getf dX12_workOf_15 kf_X12_161 o1 g1_2 <| j_icmp_ge_t (tgt := 77) dX12_workOf_18 (by decide) hc (j_pick [] rfl K), q⟩
  · skip
    obtain ⟨h', r, K, q⟩ := K2 hc
    exact ⟨h', r, j_iload_n dX12_workOf_13 rfl rfl <| j_aload_n dX12_workOf_14 rfl rfl <| j_getf dX12_workOf_15 kf_X12_161 o1 g1_2 <| j_icmp_ge_f dX12_workOf_18 77 (by decide) hc K, q⟩
theorem bX12_workOf_21 {h0 h : k_H} {Q : k_H → k_R → Prop} {x0 f1_3 : Nat} {x1 x2 : Int32} {fs1 : List k_V} (o1 : h.1 x0 = some (k_o 15 fs1)) (g1_3 : fs1[3]? = some (vR (some f1_3))) {n2 : Nat} {w2 : Nat → Int64} (o2 : h.1 f1_3 = some (k_j n2 w2)) (y3 : vp_in x2 n2) {P : k_H → Int64 → Prop} (c : k_ctj (tX12_lastOf G l) [vI (-5), vI 10000] h P) (K : ∀ h1 v, P h1 v → k_X (jX12_workOf G l h0) h1 35 [(0, vR (some x0)), (1, vI x1), (2, vI x2)] [vJ v, vJ (w2 (x2).toNatClampNeg)] Q) : k_X (jX12_workOf G l h0) h 21 [(0, vR (some x0)), (1, vI x1), (2, vI x2)] [] Q := by
  obtain ⟨h1, v, c, p⟩ := c
  obtain ⟨h', r, K, q⟩ := K h1 v p
  exact ⟨h', r, j_aload_n dX12_workOf_21 rfl rfl <| j_getf dX12_workOf_22 kf_X12_9 o1 g1_3 <| j_iload_n dX12_workOf_25 rfl rfl <| j_lald dX12_workOf_26 o2 y3 <| j_bipush (v := (-5)) dX12_workOf_27 (by decide) <| j_sipush (v := 10000) dX12_workOf_29 (by decide) <| j_callS (v := some (vJ v)) (as := [vI (-5), vI 10000]) dX12_workOf_32 kc_X12_289 rfl rfl (by decide) (Nat.le_of_ble_eq_true rfl) c K, q⟩
theorem bX12_workOf_35 {h0 h : k_H} {Q : k_H → k_R → Prop} {x0 : Nat} {x1 x2 : Int32} {s0 s1 : Int64} (K1 : s1 < s0 → k_X (jX12_workOf G l h0) h 77 [] [] Q) (K2 : ¬ (s1 < s0) → k_X (jX12_workOf G l h0) h 39 [(0, vR (some x0)), (1, vI x1), (2, vI x2)] [] Q) : k_X (jX12_workOf G l h0) h 35 [(0, vR (some x0)), (1, vI x1), (2, vI x2)] [vJ s1, vJ s0] Q := by
  by_cases hc : s1 < s0
  · skip
    obtain ⟨h', r, K, q⟩ := K1 hc
    exact ⟨h', r, j_lcmp dX12_workOf_35 <| j_if_gt_t (tgt := 77) dX12_workOf_36 (by decide) ((lg_cmp_gt _ _).mpr hc) (j_pick [] rfl K), q⟩
  · skip
    obtain ⟨h', r, K, q⟩ := K2 hc
    exact ⟨h', r, j_lcmp dX12_workOf_35 <| j_if_gt_f dX12_workOf_36 77 (by decide) ((not_congr (lg_cmp_gt _ _)).mpr hc) K, q⟩
theorem bX12_workOf_39 {h0 h : k_H} {Q : k_H → k_R → Prop} {x0 : Nat} {x1 x2 f1_0 : Int32} {fs1 : List k_V} (o1 : h.1 x0 = some (k_o 15 fs1)) (g1_0 : fs1[0]? = some (vI f1_0)) {P : k_H → Int32 → Prop} (c : k_cti (tX12_hasAt G l) [vR (some x0), vI x2, vI f1_0] h P) (K : ∀ h1 v, P h1 v → k_X (jX12_workOf G l h0) h1 48 [(0, vR (some x0)), (1, vI x1), (2, vI x2)] [vI v] Q) : k_X (jX12_workOf G l h0) h 39 [(0, vR (some x0)), (1, vI x1), (2, vI x2)] [] Q := by
  obtain ⟨h1, v, c, p⟩ := c
  obtain ⟨h', r, K, q⟩ := K h1 v p
  exact ⟨h', r, j_aload_n dX12_workOf_39 rfl rfl <| j_iload_n dX12_workOf_40 rfl rfl <| j_aload_n dX12_workOf_41 rfl rfl <| j_getf dX12_workOf_42 kf_X12_176 o1 g1_0 <| j_callV (v := some (vI v)) (as := [vI x2, vI f1_0]) dX12_workOf_45 kc_X12_179 rfl rfl (k_is_o o1) (by decide) (Nat.le_of_ble_eq_true rfl) c K, q⟩
theorem bX12_workOf_48 {h0 h : k_H} {Q : k_H → k_R → Prop} {x0 : Nat} {x1 x2 s0 : Int32} (K1 : s0 = 0 → k_X (jX12_workOf G l h0) h 71 [(0, vR (some x0)), (1, vI x1), (2, vI x2)] [] Q) (K2 : ¬ (s0 = 0) → k_X (jX12_workOf G l h0) h 51 [(0, vR (some x0)), (1, vI x1), (2, vI x2)] [] Q) : k_X (jX12_workOf G l h0) h 48 [(0, vR (some x0)), (1, vI x1), (2, vI x2)] [vI s0] Q := by
  by_cases hc : s0 = 0
  · skip
    obtain ⟨h', r, K, q⟩ := K1 hc
    exact ⟨h', r, j_if_eq_t (tgt := 71) dX12_workOf_48 (by decide) hc K, q⟩
  · skip
    obtain ⟨h', r, K, q⟩ := K2 hc
    exact ⟨h', r, j_if_eq_f dX12_workOf_48 71 (by decide) hc K, q⟩
theorem bX12_workOf_51 {h0 h : k_H} {Q : k_H → k_R → Prop} {x0 f1_3 : Nat} {x1 x2 : Int32} {fs1 : List k_V} (o1 : h.1 x0 = some (k_o 15 fs1)) (g1_3 : fs1[3]? = some (vR (some f1_3))) {n2 : Nat} {w2 : Nat → Int64} (o2 : h.1 f1_3 = some (k_j n2 w2)) (y3 : vp_in x2 n2) {P : k_H → Int32 → Prop} (c : k_cti (tX12_numberOf G l) [vJ (w2 (x2).toNatClampNeg), vI 1] h P) (K : ∀ h1 v, P h1 v → k_X (jX12_workOf G l h0) h1 62 [(0, vR (some x0)), (1, vI x1), (2, vI x2)] [vI v, vR (some x0)] Q) : k_X (jX12_workOf G l h0) h 51 [(0, vR (some x0)), (1, vI x1), (2, vI x2)] [] Q := by
  obtain ⟨h1, v, c, p⟩ := c
  obtain ⟨h', r, K, q⟩ := K h1 v p
  exact ⟨h', r, j_aload_n dX12_workOf_51 rfl rfl <| j_aload_n dX12_workOf_52 rfl rfl <| j_getf dX12_workOf_53 kf_X12_9 o1 g1_3 <| j_iload_n dX12_workOf_56 rfl rfl <| j_lald dX12_workOf_57 o2 y3 <| j_iconst (v := 1) dX12_workOf_58 (by decide) <| j_callS (v := some (vI v)) (as := [vJ (w2 (x2).toNatClampNeg), vI 1]) dX12_workOf_59 kc_X12_295 rfl rfl (by decide) (Nat.le_of_ble_eq_true rfl) c K, q⟩
theorem bX12_workOf_62 {h0 h : k_H} {Q : k_H → k_R → Prop} {x0 s0 : Nat} {x1 x2 s1 : Int32} (w : k_is h s0 15) {P : k_H → Int32 → Prop} (c : k_cti (tX12_holder G l) [vR (some s0), vI s1] h P) (K : ∀ h1 v, P h1 v → k_X (jX12_workOf G l h0) h1 65 [(0, vR (some x0)), (1, vI x1), (2, vI x2)] [vI v] Q) : k_X (jX12_workOf G l h0) h 62 [(0, vR (some x0)), (1, vI x1), (2, vI x2)] [vI s1, vR (some s0)] Q := by
  obtain ⟨h1, v, c, p⟩ := c
  obtain ⟨h', r, K, q⟩ := K h1 v p
  exact ⟨h', r, j_callV (v := some (vI v)) (as := [vI s1]) dX12_workOf_62 kc_X12_403 rfl rfl w (by decide) (Nat.le_of_ble_eq_true rfl) c K, q⟩
theorem bX12_workOf_65 {h0 h : k_H} {Q : k_H → k_R → Prop} {x0 : Nat} {x1 x2 s0 : Int32} (K1 : ¬ (s0 = x1) → k_X (jX12_workOf G l h0) h 71 [(0, vR (some x0)), (1, vI x1), (2, vI x2)] [] Q) (K2 : s0 = x1 → k_X (jX12_workOf G l h0) h 69 [(2, vI x2)] [] Q) : k_X (jX12_workOf G l h0) h 65 [(0, vR (some x0)), (1, vI x1), (2, vI x2)] [vI s0] Q := by
  by_cases hc : s0 = x1
  · skip
    obtain ⟨h', r, K, q⟩ := K2 hc
    exact ⟨h', r, j_iload_n dX12_workOf_65 rfl rfl <| j_icmp_ne_f dX12_workOf_66 71 (by decide) hc (j_pick [2] rfl K), q⟩
  · skip
    obtain ⟨h', r, K, q⟩ := K1 hc
    exact ⟨h', r, j_iload_n dX12_workOf_65 rfl rfl <| j_icmp_ne_t (tgt := 71) dX12_workOf_66 (by decide) hc K, q⟩
theorem bX12_workOf_69 {h0 h : k_H} {Q : k_H → k_R → Prop} {x2 : Int32} (q : Q h (.inl (some (vI x2)))) : k_X (jX12_workOf G l h0) h 69 [(2, vI x2)] [] Q := by
  exact ⟨_, _, j_iload_n dX12_workOf_69 rfl rfl <| j_iret dX12_workOf_70 rfl, q⟩
theorem bX12_workOf_71 {h0 h : k_H} {Q : k_H → k_R → Prop} {x0 : Nat} {x1 x2 : Int32} (K : k_X (jX12_workOf G l h0) h 13 [(0, vR (some x0)), (1, vI x1), (2, vI (x2 + 1))] [] Q) : k_X (jX12_workOf G l h0) h 71 [(0, vR (some x0)), (1, vI x1), (2, vI x2)] [] Q := by
  obtain ⟨h', r, K, q⟩ := K
  exact ⟨h', r, j_iinc (v := x2 + 1) dX12_workOf_71 rfl (by decide) rfl rfl <| j_goto (tgt := 13) dX12_workOf_74 (by decide) <| K, q⟩
theorem bX12_workOf_77 {h0 h : k_H} {Q : k_H → k_R → Prop} (q : Q h (.inl (some (vI (-2147483648))))) : k_X (jX12_workOf G l h0) h 77 [] [] Q := by
  exact ⟨_, _, j_ldc (v := (-2147483648)) dX12_workOf_77 ki_X12_87 <| j_iret dX12_workOf_79 rfl, q⟩
theorem eX12_isWorker {G : k_G} {l : Launch} (hfl : l.flags = flags0) {h : k_H} {Q : k_H → k_R → Prop} {x0 : Int32} (K : k_X (jX12_isWorker G l h) h 0 [(0, vI x0)] [] Q) : k_ct (tX12_isWorker G l) [vI x0] h Q := by
  obtain ⟨h', r, K, q⟩ := K
  exact ⟨h', r, k_CtOf (by decide +kernel) (Nat.le_of_ble_eq_true rfl) K hfl, q⟩

theorem bX12_isWorker_0 {h0 h : k_H} {Q : k_H → k_R → Prop} {x0 : Int32} {P : k_H → Int32 → Prop} (c : k_cti (tX12_isIn G l) [vI x0, vI 0, vI 2] h P) (K : ∀ h1 v, P h1 v → k_X (jX12_isWorker G l h0) h1 6 [] [vI v] Q) : k_X (jX12_isWorker G l h0) h 0 [(0, vI x0)] [] Q := by
  obtain ⟨h1, v, c, p⟩ := c
  obtain ⟨h', r, K, q⟩ := K h1 v p
  exact ⟨h', r, j_iload_n dX12_isWorker_0 rfl rfl <| j_iconst (v := 0) dX12_isWorker_1 (by decide) <| j_iconst (v := 2) dX12_isWorker_2 (by decide) <| j_callS (v := some (vI v)) (as := [vI x0, vI 0, vI 2]) dX12_isWorker_3 kc_X12_137 rfl rfl (by decide) (Nat.le_of_ble_eq_true rfl) c (j_pick [] rfl K), q⟩
theorem bX12_isWorker_6 {h0 h : k_H} {Q : k_H → k_R → Prop} {s0 : Int32} (y1 : k_bl s0) (q : Q h (.inl (some (vI s0)))) : k_X (jX12_isWorker G l h0) h 6 [] [vI s0] Q := by
  exact ⟨_, _, j_zret dX12_isWorker_6 rfl y1, q⟩
theorem eX12_take {G : k_G} {l : Launch} (hfl : l.flags = flags0) {h : k_H} {Q : k_H → k_R → Prop} {x0 : Nat} {x1 : Int32} (K : k_X (jX12_take G l h) h 0 [(0, vR (some x0)), (1, vI x1)] [] Q) : k_ct (tX12_take G l) [vR (some x0), vI x1] h Q := by
  obtain ⟨h', r, K, q⟩ := K
  exact ⟨h', r, k_CtOf (by decide +kernel) (Nat.le_of_ble_eq_true rfl) K hfl, q⟩

theorem bX12_take_0 {h0 h : k_H} {Q : k_H → k_R → Prop} {x0 : Nat} {x1 : Int32} {P : k_H → Int32 → Prop} (c : k_cti (tX12_isWorker G l) [vI x1] h P) (K : ∀ h1 v, P h1 v → k_X (jX12_take G l h0) h1 5 [(0, vR (some x0)), (1, vI x1)] [vI v, vR (some x0)] Q) : k_X (jX12_take G l h0) h 0 [(0, vR (some x0)), (1, vI x1)] [] Q := by
  obtain ⟨h1, v, c, p⟩ := c
  obtain ⟨h', r, K, q⟩ := K h1 v p
  exact ⟨h', r, j_aload_n dX12_take_0 rfl rfl <| j_iload_n dX12_take_1 rfl rfl <| j_callS (v := some (vI v)) (as := [vI x1]) dX12_take_2 kc_X12_406 rfl rfl (by decide) (Nat.le_of_ble_eq_true rfl) c K, q⟩
theorem bX12_take_5 {h0 h : k_H} {Q : k_H → k_R → Prop} {x0 : Nat} {x1 s1 : Int32} {s0 : Option Nat} (K1 : s1 = 0 → k_X (jX12_take G l h0) h 12 [(0, vR (some x0)), (1, vI x1)] [vR s0] Q) (K2 : ¬ (s1 = 0) → k_X (jX12_take G l h0) h 8 [(0, vR (some x0)), (1, vI x1)] [vR s0] Q) : k_X (jX12_take G l h0) h 5 [(0, vR (some x0)), (1, vI x1)] [vI s1, vR s0] Q := by
  by_cases hc : s1 = 0
  · skip
    obtain ⟨h', r, K, q⟩ := K1 hc
    exact ⟨h', r, j_if_eq_t (tgt := 12) dX12_take_5 (by decide) hc K, q⟩
  · skip
    obtain ⟨h', r, K, q⟩ := K2 hc
    exact ⟨h', r, j_if_eq_f dX12_take_5 12 (by decide) hc K, q⟩
theorem bX12_take_8 {h0 h : k_H} {Q : k_H → k_R → Prop} {x0 : Nat} {x1 : Int32} {s0 : Option Nat} (K : k_X (jX12_take G l h0) h 13 [(0, vR (some x0)), (1, vI x1)] [vI 0, vR s0] Q) : k_X (jX12_take G l h0) h 8 [(0, vR (some x0)), (1, vI x1)] [vR s0] Q := by
  obtain ⟨h', r, K, q⟩ := K
  exact ⟨h', r, j_iconst (v := 0) dX12_take_8 (by decide) <| j_goto (tgt := 13) dX12_take_9 (by decide) <| K, q⟩
theorem bX12_take_12 {h0 h : k_H} {Q : k_H → k_R → Prop} {x0 : Nat} {x1 : Int32} {s0 : Option Nat} (K : k_X (jX12_take G l h0) h 13 [(0, vR (some x0)), (1, vI x1)] [vI 1, vR s0] Q) : k_X (jX12_take G l h0) h 12 [(0, vR (some x0)), (1, vI x1)] [vR s0] Q := by
  obtain ⟨h', r, K, q⟩ := K
  exact ⟨h', r, j_iconst (v := 1) dX12_take_12 (by decide) <| K, q⟩
theorem bX12_take_13 {h0 h : k_H} {Q : k_H → k_R → Prop} {x0 s0 : Nat} {x1 s1 : Int32} (w : k_is h s0 15) {P : k_H → Int32 → Prop} (c : k_cti (tX12_goes G l) [vR (some s0), vI s1] h P) (K : ∀ h1 v, P h1 v → k_X (jX12_take G l h0) h1 16 [(0, vR (some x0)), (1, vI x1)] [vI v] Q) : k_X (jX12_take G l h0) h 13 [(0, vR (some x0)), (1, vI x1)] [vI s1, vR (some s0)] Q := by
  obtain ⟨h1, v, c, p⟩ := c
  obtain ⟨h', r, K, q⟩ := K h1 v p
  exact ⟨h', r, j_callV (v := some (vI v)) (as := [vI s1]) dX12_take_13 kc_X12_265 rfl rfl w (by decide) (Nat.le_of_ble_eq_true rfl) c K, q⟩
theorem bX12_take_16 {h0 h : k_H} {Q : k_H → k_R → Prop} {x0 : Nat} {x1 s0 : Int32} (K1 : ¬ (s0 = 0) → k_X (jX12_take G l h0) h 21 [(0, vR (some x0)), (1, vI x1)] [] Q) (K2 : s0 = 0 → k_X (jX12_take G l h0) h 19 [] [] Q) : k_X (jX12_take G l h0) h 16 [(0, vR (some x0)), (1, vI x1)] [vI s0] Q := by
  by_cases hc : s0 = 0
  · skip
    obtain ⟨h', r, K, q⟩ := K2 hc
    exact ⟨h', r, j_if_ne_f dX12_take_16 21 (by decide) hc (j_pick [] rfl K), q⟩
  · skip
    obtain ⟨h', r, K, q⟩ := K1 hc
    exact ⟨h', r, j_if_ne_t (tgt := 21) dX12_take_16 (by decide) hc K, q⟩
theorem bX12_take_19 {h0 h : k_H} {Q : k_H → k_R → Prop} (q : Q h (.inl (some (vI 0)))) : k_X (jX12_take G l h0) h 19 [] [] Q := by
  exact ⟨_, _, j_iconst (v := 0) dX12_take_19 (by decide) <| j_iret dX12_take_20 rfl, q⟩
theorem bX12_take_21 {h0 h : k_H} {Q : k_H → k_R → Prop} {x0 : Nat} {x1 : Int32} (w : k_is h x0 15) {P : k_H → Int32 → Prop} (c : k_cti (tX12_workOf G l) [vR (some x0), vI (-2147483648)] h P) (K : ∀ h1 v, P h1 v → k_X (jX12_take G l h0) h1 27 [(0, vR (some x0)), (1, vI x1)] [vI v] Q) : k_X (jX12_take G l h0) h 21 [(0, vR (some x0)), (1, vI x1)] [] Q := by
  obtain ⟨h1, v, c, p⟩ := c
  obtain ⟨h', r, K, q⟩ := K h1 v p
  exact ⟨h', r, j_aload_n dX12_take_21 rfl rfl <| j_ldc (v := (-2147483648)) dX12_take_22 ki_X12_87 <| j_callV (v := some (vI v)) (as := [vI (-2147483648)]) dX12_take_24 kc_X12_409 rfl rfl w (by decide) (Nat.le_of_ble_eq_true rfl) c K, q⟩
theorem bX12_take_27 {h0 h : k_H} {Q : k_H → k_R → Prop} {x0 : Nat} {x1 s0 : Int32} (K1 : ¬ (s0 = (-2147483648)) → k_X (jX12_take G l h0) h 37 [(0, vR (some x0)), (1, vI x1), (2, vI s0)] [] Q) (K2 : s0 = (-2147483648) → k_X (jX12_take G l h0) h 34 [] [] Q) : k_X (jX12_take G l h0) h 27 [(0, vR (some x0)), (1, vI x1)] [vI s0] Q := by
  by_cases hc : s0 = (-2147483648)
  · skip
    obtain ⟨h', r, K, q⟩ := K2 hc
    exact ⟨h', r, j_istore_n dX12_take_27 rfl (by decide) rfl <| j_iload_n dX12_take_28 rfl rfl <| j_ldc (v := (-2147483648)) dX12_take_29 ki_X12_87 <| j_icmp_ne_f dX12_take_31 37 (by decide) hc (j_pick [] rfl K), q⟩
  · skip
    obtain ⟨h', r, K, q⟩ := K1 hc
    exact ⟨h', r, j_istore_n dX12_take_27 rfl (by decide) rfl <| j_iload_n dX12_take_28 rfl rfl <| j_ldc (v := (-2147483648)) dX12_take_29 ki_X12_87 <| j_icmp_ne_t (tgt := 37) dX12_take_31 (by decide) hc K, q⟩
theorem bX12_take_34 {h0 h : k_H} {Q : k_H → k_R → Prop} (q : Q h (.inl (some (vI (-2147483648))))) : k_X (jX12_take G l h0) h 34 [] [] Q := by
  exact ⟨_, _, j_ldc (v := (-2147483648)) dX12_take_34 ki_X12_87 <| j_iret dX12_take_36 rfl, q⟩
theorem bX12_take_37 {h0 h : k_H} {Q : k_H → k_R → Prop} {x0 : Nat} {x1 x2 f1_0 : Int32} {fs1 : List k_V} (o1 : h.1 x0 = some (k_o 15 fs1)) (g1_0 : fs1[0]? = some (vI f1_0)) {P : k_H → Int32 → Prop} (c : k_cti (tX12_valueAt G l) [vR (some x0), vI x2, vI f1_0] h P) (K : ∀ h1 v, P h1 v → k_X (jX12_take G l h0) h1 46 [(0, vR (some x0)), (1, vI x1), (2, vI x2)] [vI v] Q) : k_X (jX12_take G l h0) h 37 [(0, vR (some x0)), (1, vI x1), (2, vI x2)] [] Q := by
  obtain ⟨h1, v, c, p⟩ := c
  obtain ⟨h', r, K, q⟩ := K h1 v p
  exact ⟨h', r, j_aload_n dX12_take_37 rfl rfl <| j_iload_n dX12_take_38 rfl rfl <| j_aload_n dX12_take_39 rfl rfl <| j_getf dX12_take_40 kf_X12_176 o1 g1_0 <| j_callV (v := some (vI v)) (as := [vI x2, vI f1_0]) dX12_take_43 kc_X12_183 rfl rfl (k_is_o o1) (by decide) (Nat.le_of_ble_eq_true rfl) c K, q⟩
theorem bX12_take_46 {h0 h : k_H} {Q : k_H → k_R → Prop} {x0 f1_3 : Nat} {x1 x2 s0 : Int32} {fs1 : List k_V} (o1 : h.1 x0 = some (k_o 15 fs1)) (g1_3 : fs1[3]? = some (vR (some f1_3))) {n2 : Nat} {w2 : Nat → Int64} (o2 : h.1 f1_3 = some (k_j n2 w2)) (y3 : vp_in x2 n2) {P : k_H → Int32 → Prop} (c : k_cti (tX12_numberOf G l) [vJ (w2 (x2).toNatClampNeg), vI 1] h P) (K : ∀ h1 v, P h1 v → k_X (jX12_take G l h0) h1 57 [(0, vR (some x0)), (1, vI x1), (3, vI s0)] [vI v] Q) : k_X (jX12_take G l h0) h 46 [(0, vR (some x0)), (1, vI x1), (2, vI x2)] [vI s0] Q := by
  obtain ⟨h1, v, c, p⟩ := c
  obtain ⟨h', r, K, q⟩ := K h1 v p
  exact ⟨h', r, j_istore_n dX12_take_46 rfl (by decide) rfl <| j_aload_n dX12_take_47 rfl rfl <| j_getf dX12_take_48 kf_X12_9 o1 g1_3 <| j_iload_n dX12_take_51 rfl rfl <| j_lald dX12_take_52 o2 y3 <| j_iconst (v := 1) dX12_take_53 (by decide) <| j_callS (v := some (vI v)) (as := [vJ (w2 (x2).toNatClampNeg), vI 1]) dX12_take_54 kc_X12_295 rfl rfl (by decide) (Nat.le_of_ble_eq_true rfl) c (j_pick [0, 1, 3] rfl K), q⟩
theorem bX12_take_57 {h0 h : k_H} {Q : k_H → k_R → Prop} {x0 : Nat} {x1 x3 s0 : Int32} (w : k_is h x0 15) {P : k_H → Prop} (c : k_ctv (tX12_opens G l) [vR (some x0)] h P) (K : ∀ h1, P h1 → k_X (jX12_take G l h0) h1 63 [(0, vR (some x0)), (1, vI x1), (3, vI x3), (4, vI s0)] [] Q) : k_X (jX12_take G l h0) h 57 [(0, vR (some x0)), (1, vI x1), (3, vI x3)] [vI s0] Q := by
  obtain ⟨h1, c, p⟩ := c
  obtain ⟨h', r, K, q⟩ := K h1 p
  exact ⟨h', r, j_istore dX12_take_57 (by decide) rfl <| j_aload_n dX12_take_59 rfl rfl <| j_callV (v := none) (as := []) dX12_take_60 kc_X12_319 rfl rfl w (by decide) (Nat.le_of_ble_eq_true rfl) c K, q⟩
theorem bX12_take_63 {h0 h : k_H} {Q : k_H → k_R → Prop} {x0 : Nat} {x1 x3 x4 : Int32} {P : k_H → Int64 → Prop} (c : k_ctj (tX12_codeOf G l) [vI (-7), vI x4, vI 10000] h P) (K : ∀ h1 v, P h1 v → k_X (jX12_take G l h0) h1 74 [(0, vR (some x0)), (1, vI x1), (3, vI x3)] [vJ v, vR (some x0)] Q) : k_X (jX12_take G l h0) h 63 [(0, vR (some x0)), (1, vI x1), (3, vI x3), (4, vI x4)] [] Q := by
  obtain ⟨h1, v, c, p⟩ := c
  obtain ⟨h', r, K, q⟩ := K h1 v p
  exact ⟨h', r, j_aload_n dX12_take_63 rfl rfl <| j_bipush (v := (-7)) dX12_take_64 (by decide) <| j_iload dX12_take_66 rfl <| j_sipush (v := 10000) dX12_take_68 (by decide) <| j_callS (v := some (vJ v)) (as := [vI (-7), vI x4, vI 10000]) dX12_take_71 kc_X12_155 rfl rfl (by decide) (Nat.le_of_ble_eq_true rfl) c (j_pick [0, 1, 2] rfl K), q⟩
theorem bX12_take_74 {h0 h : k_H} {Q : k_H → k_R → Prop} {x0 s0 : Nat} {x1 x3 f1_0 : Int32} {s1 : Int64} {fs1 : List k_V} (o1 : h.1 x0 = some (k_o 15 fs1)) (g1_0 : fs1[0]? = some (vI f1_0)) (w : k_is h s0 15) {P : k_H → Prop} (c : k_ctv (tX12_puts G l) [vR (some s0), vJ s1, vI 1, vI (((10000 * x1) + f1_0) + 10)] h P) (K : ∀ h1, P h1 → k_X (jX12_take G l h0) h1 91 [(0, vR (some x0)), (3, vI x3)] [] Q) : k_X (jX12_take G l h0) h 74 [(0, vR (some x0)), (1, vI x1), (3, vI x3)] [vJ s1, vR (some s0)] Q := by
  obtain ⟨h1, c, p⟩ := c
  obtain ⟨h', r, K, q⟩ := K h1 p
  exact ⟨h', r, j_iconst (v := 1) dX12_take_74 (by decide) <| j_sipush (v := 10000) dX12_take_75 (by decide) <| j_iload_n dX12_take_78 rfl rfl <| j_imul dX12_take_79 <| j_aload_n dX12_take_80 rfl rfl <| j_getf dX12_take_81 kf_X12_176 o1 g1_0 <| j_iadd dX12_take_84 <| j_bipush (v := 10) dX12_take_85 (by decide) <| j_iadd dX12_take_87 <| j_callV (v := none) (as := [vJ s1, vI 1, vI (((10000 * x1) + f1_0) + 10)]) dX12_take_88 kc_X12_192 rfl rfl w (by decide) (Nat.le_of_ble_eq_true rfl) c (j_pick [0, 2] rfl K), q⟩
theorem bX12_take_91 {h0 h : k_H} {Q : k_H → k_R → Prop} {x0 : Nat} {x3 : Int32} (w : k_is h x0 15) {P : k_H → Prop} (c : k_ctv (tX12_closes G l) [vR (some x0)] h P) (K : ∀ h1, P h1 → k_X (jX12_take G l h0) h1 95 [(3, vI x3)] [] Q) : k_X (jX12_take G l h0) h 91 [(0, vR (some x0)), (3, vI x3)] [] Q := by
  obtain ⟨h1, c, p⟩ := c
  obtain ⟨h', r, K, q⟩ := K h1 p
  exact ⟨h', r, j_aload_n dX12_take_91 rfl rfl <| j_callV (v := none) (as := []) dX12_take_92 kc_X12_330 rfl rfl w (by decide) (Nat.le_of_ble_eq_true rfl) c (j_pick [1] rfl K), q⟩
theorem bX12_take_95 {h0 h : k_H} {Q : k_H → k_R → Prop} {x3 : Int32} (q : Q h (.inl (some (vI x3)))) : k_X (jX12_take G l h0) h 95 [(3, vI x3)] [] Q := by
  exact ⟨_, _, j_iload_n dX12_take_95 rfl rfl <| j_iret dX12_take_96 rfl, q⟩
theorem eX12_finish {G : k_G} {l : Launch} (hfl : l.flags = flags0) {h : k_H} {Q : k_H → k_R → Prop} {x0 : Nat} {x1 : Int32} (K : k_X (jX12_finish G l h) h 0 [(0, vR (some x0)), (1, vI x1)] [] Q) : k_ct (tX12_finish G l) [vR (some x0), vI x1] h Q := by
  obtain ⟨h', r, K, q⟩ := K
  exact ⟨h', r, k_CtOf (by decide +kernel) (Nat.le_of_ble_eq_true rfl) K hfl, q⟩

theorem bX12_finish_0 {h0 h : k_H} {Q : k_H → k_R → Prop} {x0 : Nat} {x1 : Int32} {P : k_H → Int32 → Prop} (c : k_cti (tX12_isWorker G l) [vI x1] h P) (K : ∀ h1 v, P h1 v → k_X (jX12_finish G l h0) h1 5 [(0, vR (some x0)), (1, vI x1)] [vI v, vR (some x0)] Q) : k_X (jX12_finish G l h0) h 0 [(0, vR (some x0)), (1, vI x1)] [] Q := by
  obtain ⟨h1, v, c, p⟩ := c
  obtain ⟨h', r, K, q⟩ := K h1 v p
  exact ⟨h', r, j_aload_n dX12_finish_0 rfl rfl <| j_iload_n dX12_finish_1 rfl rfl <| j_callS (v := some (vI v)) (as := [vI x1]) dX12_finish_2 kc_X12_406 rfl rfl (by decide) (Nat.le_of_ble_eq_true rfl) c K, q⟩
theorem bX12_finish_5 {h0 h : k_H} {Q : k_H → k_R → Prop} {x0 : Nat} {x1 s1 : Int32} {s0 : Option Nat} (K1 : s1 = 0 → k_X (jX12_finish G l h0) h 12 [(0, vR (some x0)), (1, vI x1)] [vR s0] Q) (K2 : ¬ (s1 = 0) → k_X (jX12_finish G l h0) h 8 [(0, vR (some x0)), (1, vI x1)] [vR s0] Q) : k_X (jX12_finish G l h0) h 5 [(0, vR (some x0)), (1, vI x1)] [vI s1, vR s0] Q := by
  by_cases hc : s1 = 0
  · skip
    obtain ⟨h', r, K, q⟩ := K1 hc
    exact ⟨h', r, j_if_eq_t (tgt := 12) dX12_finish_5 (by decide) hc K, q⟩
  · skip
    obtain ⟨h', r, K, q⟩ := K2 hc
    exact ⟨h', r, j_if_eq_f dX12_finish_5 12 (by decide) hc K, q⟩
theorem bX12_finish_8 {h0 h : k_H} {Q : k_H → k_R → Prop} {x0 : Nat} {x1 : Int32} {s0 : Option Nat} (K : k_X (jX12_finish G l h0) h 13 [(0, vR (some x0)), (1, vI x1)] [vI 0, vR s0] Q) : k_X (jX12_finish G l h0) h 8 [(0, vR (some x0)), (1, vI x1)] [vR s0] Q := by
  obtain ⟨h', r, K, q⟩ := K
  exact ⟨h', r, j_iconst (v := 0) dX12_finish_8 (by decide) <| j_goto (tgt := 13) dX12_finish_9 (by decide) <| K, q⟩
theorem bX12_finish_12 {h0 h : k_H} {Q : k_H → k_R → Prop} {x0 : Nat} {x1 : Int32} {s0 : Option Nat} (K : k_X (jX12_finish G l h0) h 13 [(0, vR (some x0)), (1, vI x1)] [vI 1, vR s0] Q) : k_X (jX12_finish G l h0) h 12 [(0, vR (some x0)), (1, vI x1)] [vR s0] Q := by
  obtain ⟨h', r, K, q⟩ := K
  exact ⟨h', r, j_iconst (v := 1) dX12_finish_12 (by decide) <| K, q⟩
theorem bX12_finish_13 {h0 h : k_H} {Q : k_H → k_R → Prop} {x0 s0 : Nat} {x1 s1 : Int32} (w : k_is h s0 15) {P : k_H → Int32 → Prop} (c : k_cti (tX12_goes G l) [vR (some s0), vI s1] h P) (K : ∀ h1 v, P h1 v → k_X (jX12_finish G l h0) h1 16 [(0, vR (some x0)), (1, vI x1)] [vI v] Q) : k_X (jX12_finish G l h0) h 13 [(0, vR (some x0)), (1, vI x1)] [vI s1, vR (some s0)] Q := by
  obtain ⟨h1, v, c, p⟩ := c
  obtain ⟨h', r, K, q⟩ := K h1 v p
  exact ⟨h', r, j_callV (v := some (vI v)) (as := [vI s1]) dX12_finish_13 kc_X12_265 rfl rfl w (by decide) (Nat.le_of_ble_eq_true rfl) c K, q⟩
theorem bX12_finish_16 {h0 h : k_H} {Q : k_H → k_R → Prop} {x0 : Nat} {x1 s0 : Int32} (K1 : ¬ (s0 = 0) → k_X (jX12_finish G l h0) h 21 [(0, vR (some x0)), (1, vI x1)] [] Q) (K2 : s0 = 0 → k_X (jX12_finish G l h0) h 19 [] [] Q) : k_X (jX12_finish G l h0) h 16 [(0, vR (some x0)), (1, vI x1)] [vI s0] Q := by
  by_cases hc : s0 = 0
  · skip
    obtain ⟨h', r, K, q⟩ := K2 hc
    exact ⟨h', r, j_if_ne_f dX12_finish_16 21 (by decide) hc (j_pick [] rfl K), q⟩
  · skip
    obtain ⟨h', r, K, q⟩ := K1 hc
    exact ⟨h', r, j_if_ne_t (tgt := 21) dX12_finish_16 (by decide) hc K, q⟩
theorem bX12_finish_19 {h0 h : k_H} {Q : k_H → k_R → Prop} (q : Q h (.inl (some (vI 0)))) : k_X (jX12_finish G l h0) h 19 [] [] Q := by
  exact ⟨_, _, j_iconst (v := 0) dX12_finish_19 (by decide) <| j_iret dX12_finish_20 rfl, q⟩
theorem bX12_finish_21 {h0 h : k_H} {Q : k_H → k_R → Prop} {x0 : Nat} {x1 : Int32} (w : k_is h x0 15) {P : k_H → Int32 → Prop} (c : k_cti (tX12_workOf G l) [vR (some x0), vI x1] h P) (K : ∀ h1 v, P h1 v → k_X (jX12_finish G l h0) h1 26 [(0, vR (some x0))] [vI v] Q) : k_X (jX12_finish G l h0) h 21 [(0, vR (some x0)), (1, vI x1)] [] Q := by
  obtain ⟨h1, v, c, p⟩ := c
  obtain ⟨h', r, K, q⟩ := K h1 v p
  exact ⟨h', r, j_aload_n dX12_finish_21 rfl rfl <| j_iload_n dX12_finish_22 rfl rfl <| j_callV (v := some (vI v)) (as := [vI x1]) dX12_finish_23 kc_X12_409 rfl rfl w (by decide) (Nat.le_of_ble_eq_true rfl) c (j_pick [0] rfl K), q⟩
theorem bX12_finish_26 {h0 h : k_H} {Q : k_H → k_R → Prop} {x0 : Nat} {s0 : Int32} (K1 : ¬ (s0 = (-2147483648)) → k_X (jX12_finish G l h0) h 36 [(0, vR (some x0)), (2, vI s0)] [] Q) (K2 : s0 = (-2147483648) → k_X (jX12_finish G l h0) h 33 [] [] Q) : k_X (jX12_finish G l h0) h 26 [(0, vR (some x0))] [vI s0] Q := by
  by_cases hc : s0 = (-2147483648)
  · skip
    obtain ⟨h', r, K, q⟩ := K2 hc
    exact ⟨h', r, j_istore_n dX12_finish_26 rfl (by decide) rfl <| j_iload_n dX12_finish_27 rfl rfl <| j_ldc (v := (-2147483648)) dX12_finish_28 ki_X12_87 <| j_icmp_ne_f dX12_finish_30 36 (by decide) hc (j_pick [] rfl K), q⟩
  · skip
    obtain ⟨h', r, K, q⟩ := K1 hc
    exact ⟨h', r, j_istore_n dX12_finish_26 rfl (by decide) rfl <| j_iload_n dX12_finish_27 rfl rfl <| j_ldc (v := (-2147483648)) dX12_finish_28 ki_X12_87 <| j_icmp_ne_t (tgt := 36) dX12_finish_30 (by decide) hc K, q⟩
theorem bX12_finish_33 {h0 h : k_H} {Q : k_H → k_R → Prop} (q : Q h (.inl (some (vI (-2147483648))))) : k_X (jX12_finish G l h0) h 33 [] [] Q := by
  exact ⟨_, _, j_ldc (v := (-2147483648)) dX12_finish_33 ki_X12_87 <| j_iret dX12_finish_35 rfl, q⟩
theorem bX12_finish_36 {h0 h : k_H} {Q : k_H → k_R → Prop} {x0 : Nat} {x2 f1_0 : Int32} {fs1 : List k_V} (o1 : h.1 x0 = some (k_o 15 fs1)) (g1_0 : fs1[0]? = some (vI f1_0)) {P : k_H → Int32 → Prop} (c : k_cti (tX12_valueAt G l) [vR (some x0), vI x2, vI f1_0] h P) (K : ∀ h1 v, P h1 v → k_X (jX12_finish G l h0) h1 45 [(0, vR (some x0)), (2, vI x2)] [vI v] Q) : k_X (jX12_finish G l h0) h 36 [(0, vR (some x0)), (2, vI x2)] [] Q := by
  obtain ⟨h1, v, c, p⟩ := c
  obtain ⟨h', r, K, q⟩ := K h1 v p
  exact ⟨h', r, j_aload_n dX12_finish_36 rfl rfl <| j_iload_n dX12_finish_37 rfl rfl <| j_aload_n dX12_finish_38 rfl rfl <| j_getf dX12_finish_39 kf_X12_176 o1 g1_0 <| j_callV (v := some (vI v)) (as := [vI x2, vI f1_0]) dX12_finish_42 kc_X12_183 rfl rfl (k_is_o o1) (by decide) (Nat.le_of_ble_eq_true rfl) c K, q⟩
theorem bX12_finish_45 {h0 h : k_H} {Q : k_H → k_R → Prop} {x0 f1_3 : Nat} {x2 s0 : Int32} {fs1 : List k_V} (o1 : h.1 x0 = some (k_o 15 fs1)) (g1_3 : fs1[3]? = some (vR (some f1_3))) {n2 : Nat} {w2 : Nat → Int64} (o2 : h.1 f1_3 = some (k_j n2 w2)) (y3 : vp_in x2 n2) {P : k_H → Int32 → Prop} (c : k_cti (tX12_numberOf G l) [vJ (w2 (x2).toNatClampNeg), vI 1] h P) (K : ∀ h1 v, P h1 v → k_X (jX12_finish G l h0) h1 56 [(0, vR (some x0)), (3, vI s0)] [vI v] Q) : k_X (jX12_finish G l h0) h 45 [(0, vR (some x0)), (2, vI x2)] [vI s0] Q := by
  obtain ⟨h1, v, c, p⟩ := c
  obtain ⟨h', r, K, q⟩ := K h1 v p
  exact ⟨h', r, j_istore_n dX12_finish_45 rfl (by decide) rfl <| j_aload_n dX12_finish_46 rfl rfl <| j_getf dX12_finish_47 kf_X12_9 o1 g1_3 <| j_iload_n dX12_finish_50 rfl rfl <| j_lald dX12_finish_51 o2 y3 <| j_iconst (v := 1) dX12_finish_52 (by decide) <| j_callS (v := some (vI v)) (as := [vJ (w2 (x2).toNatClampNeg), vI 1]) dX12_finish_53 kc_X12_295 rfl rfl (by decide) (Nat.le_of_ble_eq_true rfl) c (j_pick [0, 2] rfl K), q⟩
theorem bX12_finish_56 {h0 h : k_H} {Q : k_H → k_R → Prop} {x0 : Nat} {x3 s0 : Int32} (w : k_is h x0 15) {P : k_H → Prop} (c : k_ctv (tX12_opens G l) [vR (some x0)] h P) (K : ∀ h1, P h1 → k_X (jX12_finish G l h0) h1 62 [(0, vR (some x0)), (3, vI x3), (4, vI s0)] [] Q) : k_X (jX12_finish G l h0) h 56 [(0, vR (some x0)), (3, vI x3)] [vI s0] Q := by
  obtain ⟨h1, c, p⟩ := c
  obtain ⟨h', r, K, q⟩ := K h1 p
  exact ⟨h', r, j_istore dX12_finish_56 (by decide) rfl <| j_aload_n dX12_finish_58 rfl rfl <| j_callV (v := none) (as := []) dX12_finish_59 kc_X12_319 rfl rfl w (by decide) (Nat.le_of_ble_eq_true rfl) c K, q⟩
theorem bX12_finish_62 {h0 h : k_H} {Q : k_H → k_R → Prop} {x0 : Nat} {x3 x4 : Int32} {P : k_H → Int64 → Prop} (c : k_ctj (tX12_codeOf G l) [vI (-5), vI x4, vI 10000] h P) (K : ∀ h1 v, P h1 v → k_X (jX12_finish G l h0) h1 73 [(0, vR (some x0)), (3, vI x3), (4, vI x4)] [vJ v, vR (some x0)] Q) : k_X (jX12_finish G l h0) h 62 [(0, vR (some x0)), (3, vI x3), (4, vI x4)] [] Q := by
  obtain ⟨h1, v, c, p⟩ := c
  obtain ⟨h', r, K, q⟩ := K h1 v p
  exact ⟨h', r, j_aload_n dX12_finish_62 rfl rfl <| j_bipush (v := (-5)) dX12_finish_63 (by decide) <| j_iload dX12_finish_65 rfl <| j_sipush (v := 10000) dX12_finish_67 (by decide) <| j_callS (v := some (vJ v)) (as := [vI (-5), vI x4, vI 10000]) dX12_finish_70 kc_X12_155 rfl rfl (by decide) (Nat.le_of_ble_eq_true rfl) c K, q⟩
theorem bX12_finish_73 {h0 h : k_H} {Q : k_H → k_R → Prop} {x0 s0 : Nat} {x3 x4 : Int32} {s1 : Int64} (w : k_is h s0 15) {P : k_H → Prop} (c : k_ctv (tX12_puts G l) [vR (some s0), vJ s1, vI 0, vI 0] h P) (K : ∀ h1, P h1 → k_X (jX12_finish G l h0) h1 78 [(0, vR (some x0)), (3, vI x3), (4, vI x4)] [] Q) : k_X (jX12_finish G l h0) h 73 [(0, vR (some x0)), (3, vI x3), (4, vI x4)] [vJ s1, vR (some s0)] Q := by
  obtain ⟨h1, c, p⟩ := c
  obtain ⟨h', r, K, q⟩ := K h1 p
  exact ⟨h', r, j_iconst (v := 0) dX12_finish_73 (by decide) <| j_iconst (v := 0) dX12_finish_74 (by decide) <| j_callV (v := none) (as := [vJ s1, vI 0, vI 0]) dX12_finish_75 kc_X12_192 rfl rfl w (by decide) (Nat.le_of_ble_eq_true rfl) c K, q⟩
theorem bX12_finish_78 {h0 h : k_H} {Q : k_H → k_R → Prop} {x0 : Nat} {x3 x4 : Int32} {P : k_H → Int64 → Prop} (c : k_ctj (tX12_codeOf G l) [vI (-7), vI x4, vI 10000] h P) (K : ∀ h1 v, P h1 v → k_X (jX12_finish G l h0) h1 89 [(0, vR (some x0)), (3, vI x3)] [vJ v, vR (some x0)] Q) : k_X (jX12_finish G l h0) h 78 [(0, vR (some x0)), (3, vI x3), (4, vI x4)] [] Q := by
  obtain ⟨h1, v, c, p⟩ := c
  obtain ⟨h', r, K, q⟩ := K h1 v p
  exact ⟨h', r, j_aload_n dX12_finish_78 rfl rfl <| j_bipush (v := (-7)) dX12_finish_79 (by decide) <| j_iload dX12_finish_81 rfl <| j_sipush (v := 10000) dX12_finish_83 (by decide) <| j_callS (v := some (vJ v)) (as := [vI (-7), vI x4, vI 10000]) dX12_finish_86 kc_X12_155 rfl rfl (by decide) (Nat.le_of_ble_eq_true rfl) c (j_pick [0, 1] rfl K), q⟩
theorem bX12_finish_89 {h0 h : k_H} {Q : k_H → k_R → Prop} {x0 s0 : Nat} {x3 : Int32} {s1 : Int64} (w : k_is h s0 15) {P : k_H → Prop} (c : k_ctv (tX12_puts G l) [vR (some s0), vJ s1, vI 0, vI 0] h P) (K : ∀ h1, P h1 → k_X (jX12_finish G l h0) h1 94 [(0, vR (some x0)), (3, vI x3)] [] Q) : k_X (jX12_finish G l h0) h 89 [(0, vR (some x0)), (3, vI x3)] [vJ s1, vR (some s0)] Q := by
  obtain ⟨h1, c, p⟩ := c
  obtain ⟨h', r, K, q⟩ := K h1 p
  exact ⟨h', r, j_iconst (v := 0) dX12_finish_89 (by decide) <| j_iconst (v := 0) dX12_finish_90 (by decide) <| j_callV (v := none) (as := [vJ s1, vI 0, vI 0]) dX12_finish_91 kc_X12_192 rfl rfl w (by decide) (Nat.le_of_ble_eq_true rfl) c K, q⟩
theorem bX12_finish_94 {h0 h : k_H} {Q : k_H → k_R → Prop} {x0 : Nat} {x3 : Int32} (w : k_is h x0 15) {P : k_H → Prop} (c : k_ctv (tX12_closes G l) [vR (some x0)] h P) (K : ∀ h1, P h1 → k_X (jX12_finish G l h0) h1 98 [(3, vI x3)] [] Q) : k_X (jX12_finish G l h0) h 94 [(0, vR (some x0)), (3, vI x3)] [] Q := by
  obtain ⟨h1, c, p⟩ := c
  obtain ⟨h', r, K, q⟩ := K h1 p
  exact ⟨h', r, j_aload_n dX12_finish_94 rfl rfl <| j_callV (v := none) (as := []) dX12_finish_95 kc_X12_330 rfl rfl w (by decide) (Nat.le_of_ble_eq_true rfl) c (j_pick [1] rfl K), q⟩
theorem bX12_finish_98 {h0 h : k_H} {Q : k_H → k_R → Prop} {x3 : Int32} (q : Q h (.inl (some (vI x3)))) : k_X (jX12_finish G l h0) h 98 [(3, vI x3)] [] Q := by
  exact ⟨_, _, j_iload_n dX12_finish_98 rfl rfl <| j_iret dX12_finish_99 rfl, q⟩
theorem eX12_parts {G : k_G} {l : Launch} (hfl : l.flags = flags0) {h : k_H} {Q : k_H → k_R → Prop} {x0 : Nat} (K : k_X (jX12_parts G l h) h 0 [(0, vR (some x0))] [] Q) : k_ct (tX12_parts G l) [vR (some x0)] h Q := by
  obtain ⟨h', r, K, q⟩ := K
  exact ⟨h', r, k_CtOf (by decide +kernel) (Nat.le_of_ble_eq_true rfl) K hfl, q⟩

theorem bX12_parts_0 {h0 h : k_H} {Q : k_H → k_R → Prop} {x0 : Nat} {fs1 : List k_V} (o1 : h.1 x0 = some (k_o 15 fs1)) (z1 : fs1.length = 53) (K : k_X (jX12_parts G l h0) (k_up h x0 (k_o 15 (fs1.set 52 (vI 0)))) 5 [(0, vR (some x0))] [] Q) : k_X (jX12_parts G l h0) h 0 [(0, vR (some x0))] [] Q := by
  obtain ⟨h', r, K, q⟩ := K
  exact ⟨h', r, j_aload_n dX12_parts_0 rfl rfl <| j_iconst (v := 0) dX12_parts_1 (by decide) <| j_putf dX12_parts_2 kp_X12_134 o1 (k_ln z1 (by decide)) (k_fit_i _) rfl <| K, q⟩
theorem bX12_parts_5 {h0 h : k_H} {Q : k_H → k_R → Prop} {x0 : Nat} {f1_49 : Int32} {fs1 : List k_V} (o1 : h.1 x0 = some (k_o 15 fs1)) (g1_49 : fs1[49]? = some (vI f1_49)) (q : Q h (.inl (some (vI f1_49)))) : k_X (jX12_parts G l h0) h 5 [(0, vR (some x0))] [] Q := by
  exact ⟨_, _, j_aload_n dX12_parts_5 rfl rfl <| j_getf dX12_parts_6 kf_X12_125 o1 g1_49 <| j_iret dX12_parts_9 rfl, q⟩
theorem eX12_part {G : k_G} {l : Launch} (hfl : l.flags = flags0) {h : k_H} {Q : k_H → k_R → Prop} {x0 : Nat} {x1 : Int32} {x2 : Int32} (K : k_X (jX12_part G l h) h 0 [(0, vR (some x0)), (1, vI x1), (2, vI x2)] [] Q) : k_ct (tX12_part G l) [vR (some x0), vI x1, vI x2] h Q := by
  obtain ⟨h', r, K, q⟩ := K
  exact ⟨h', r, k_CtOf (by decide +kernel) (Nat.le_of_ble_eq_true rfl) K hfl, q⟩

theorem bX12_part_0 {h0 h : k_H} {Q : k_H → k_R → Prop} {x0 : Nat} {x1 x2 f1_49 : Int32} {fs1 : List k_V} (o1 : h.1 x0 = some (k_o 15 fs1)) (g1_49 : fs1[49]? = some (vI f1_49)) {P : k_H → Int32 → Prop} (c : k_cti (tX12_isIn G l) [vI x1, vI 0, vI (f1_49 - 1)] h P) (K : ∀ h1 v, P h1 v → k_X (jX12_part G l h0) h1 11 [(0, vR (some x0)), (1, vI x1), (2, vI x2)] [vI v] Q) : k_X (jX12_part G l h0) h 0 [(0, vR (some x0)), (1, vI x1), (2, vI x2)] [] Q := by
  obtain ⟨h1, v, c, p⟩ := c
  obtain ⟨h', r, K, q⟩ := K h1 v p
  exact ⟨h', r, j_iload_n dX12_part_0 rfl rfl <| j_iconst (v := 0) dX12_part_1 (by decide) <| j_aload_n dX12_part_2 rfl rfl <| j_getf dX12_part_3 kf_X12_125 o1 g1_49 <| j_iconst (v := 1) dX12_part_6 (by decide) <| j_isub dX12_part_7 <| j_callS (v := some (vI v)) (as := [vI x1, vI 0, vI (f1_49 - 1)]) dX12_part_8 kc_X12_137 rfl rfl (by decide) (Nat.le_of_ble_eq_true rfl) c K, q⟩
theorem bX12_part_11 {h0 h : k_H} {Q : k_H → k_R → Prop} {x0 : Nat} {x1 x2 s0 : Int32} (K1 : ¬ (s0 = 0) → k_X (jX12_part G l h0) h 21 [(0, vR (some x0)), (1, vI x1), (2, vI x2)] [vR (some x0)] Q) (K2 : s0 = 0 → k_X (jX12_part G l h0) h 17 [(0, vR (some x0)), (1, vI x1), (2, vI x2)] [vR (some x0)] Q) : k_X (jX12_part G l h0) h 11 [(0, vR (some x0)), (1, vI x1), (2, vI x2)] [vI s0] Q := by
  by_cases hc : s0 = 0
  · skip
    obtain ⟨h', r, K, q⟩ := K2 hc
    exact ⟨h', r, j_istore_n dX12_part_11 rfl (by decide) rfl <| j_aload_n dX12_part_12 rfl rfl <| j_iload_n dX12_part_13 rfl rfl <| j_if_ne_f dX12_part_14 21 (by decide) hc (j_pick [0, 1, 2] rfl K), q⟩
  · skip
    obtain ⟨h', r, K, q⟩ := K1 hc
    exact ⟨h', r, j_istore_n dX12_part_11 rfl (by decide) rfl <| j_aload_n dX12_part_12 rfl rfl <| j_iload_n dX12_part_13 rfl rfl <| j_if_ne_t (tgt := 21) dX12_part_14 (by decide) hc (j_pick [0, 1, 2] rfl K), q⟩
theorem bX12_part_17 {h0 h : k_H} {Q : k_H → k_R → Prop} {x0 : Nat} {x1 x2 : Int32} {s0 : Option Nat} (K : k_X (jX12_part G l h0) h 35 [(0, vR (some x0)), (1, vI x1), (2, vI x2)] [vI 1, vR s0] Q) : k_X (jX12_part G l h0) h 17 [(0, vR (some x0)), (1, vI x1), (2, vI x2)] [vR s0] Q := by
  obtain ⟨h', r, K, q⟩ := K
  exact ⟨h', r, j_iconst (v := 1) dX12_part_17 (by decide) <| j_goto (tgt := 35) dX12_part_18 (by decide) <| K, q⟩
theorem bX12_part_21 {h0 h : k_H} {Q : k_H → k_R → Prop} {x0 : Nat} {x1 x2 : Int32} {s0 : Option Nat} {P : k_H → Int32 → Prop} (c : k_cti (tX12_isIn G l) [vI x2, vI 0, vI 4] h P) (K : ∀ h1 v, P h1 v → k_X (jX12_part G l h0) h1 27 [(0, vR (some x0)), (1, vI x1), (2, vI x2)] [vI v, vR s0] Q) : k_X (jX12_part G l h0) h 21 [(0, vR (some x0)), (1, vI x1), (2, vI x2)] [vR s0] Q := by
  obtain ⟨h1, v, c, p⟩ := c
  obtain ⟨h', r, K, q⟩ := K h1 v p
  exact ⟨h', r, j_iload_n dX12_part_21 rfl rfl <| j_iconst (v := 0) dX12_part_22 (by decide) <| j_iconst (v := 4) dX12_part_23 (by decide) <| j_callS (v := some (vI v)) (as := [vI x2, vI 0, vI 4]) dX12_part_24 kc_X12_137 rfl rfl (by decide) (Nat.le_of_ble_eq_true rfl) c K, q⟩
theorem bX12_part_27 {h0 h : k_H} {Q : k_H → k_R → Prop} {x0 : Nat} {x1 x2 s1 : Int32} {s0 : Option Nat} (K1 : s1 = 0 → k_X (jX12_part G l h0) h 34 [(0, vR (some x0)), (1, vI x1), (2, vI x2)] [vR s0] Q) (K2 : ¬ (s1 = 0) → k_X (jX12_part G l h0) h 30 [(0, vR (some x0)), (1, vI x1), (2, vI x2)] [vR s0] Q) : k_X (jX12_part G l h0) h 27 [(0, vR (some x0)), (1, vI x1), (2, vI x2)] [vI s1, vR s0] Q := by
  by_cases hc : s1 = 0
  · skip
    obtain ⟨h', r, K, q⟩ := K1 hc
    exact ⟨h', r, j_if_eq_t (tgt := 34) dX12_part_27 (by decide) hc K, q⟩
  · skip
    obtain ⟨h', r, K, q⟩ := K2 hc
    exact ⟨h', r, j_if_eq_f dX12_part_27 34 (by decide) hc K, q⟩
theorem bX12_part_30 {h0 h : k_H} {Q : k_H → k_R → Prop} {x0 : Nat} {x1 x2 : Int32} {s0 : Option Nat} (K : k_X (jX12_part G l h0) h 35 [(0, vR (some x0)), (1, vI x1), (2, vI x2)] [vI 0, vR s0] Q) : k_X (jX12_part G l h0) h 30 [(0, vR (some x0)), (1, vI x1), (2, vI x2)] [vR s0] Q := by
  obtain ⟨h', r, K, q⟩ := K
  exact ⟨h', r, j_iconst (v := 0) dX12_part_30 (by decide) <| j_goto (tgt := 35) dX12_part_31 (by decide) <| K, q⟩
theorem bX12_part_34 {h0 h : k_H} {Q : k_H → k_R → Prop} {x0 : Nat} {x1 x2 : Int32} {s0 : Option Nat} (K : k_X (jX12_part G l h0) h 35 [(0, vR (some x0)), (1, vI x1), (2, vI x2)] [vI 2, vR s0] Q) : k_X (jX12_part G l h0) h 34 [(0, vR (some x0)), (1, vI x1), (2, vI x2)] [vR s0] Q := by
  obtain ⟨h', r, K, q⟩ := K
  exact ⟨h', r, j_iconst (v := 2) dX12_part_34 (by decide) <| K, q⟩
theorem bX12_part_35 {h0 h : k_H} {Q : k_H → k_R → Prop} {x0 s0 : Nat} {x1 x2 s1 : Int32} (w : k_is h s0 15) {P : k_H → Int32 → Prop} (c : k_cti (tX12_goes G l) [vR (some s0), vI s1] h P) (K : ∀ h1 v, P h1 v → k_X (jX12_part G l h0) h1 38 [(0, vR (some x0)), (1, vI x1), (2, vI x2)] [vI v] Q) : k_X (jX12_part G l h0) h 35 [(0, vR (some x0)), (1, vI x1), (2, vI x2)] [vI s1, vR (some s0)] Q := by
  obtain ⟨h1, v, c, p⟩ := c
  obtain ⟨h', r, K, q⟩ := K h1 v p
  exact ⟨h', r, j_callV (v := some (vI v)) (as := [vI s1]) dX12_part_35 kc_X12_265 rfl rfl w (by decide) (Nat.le_of_ble_eq_true rfl) c K, q⟩
theorem bX12_part_38 {h0 h : k_H} {Q : k_H → k_R → Prop} {x0 : Nat} {x1 x2 s0 : Int32} (K1 : ¬ (s0 = 0) → k_X (jX12_part G l h0) h 43 [(0, vR (some x0)), (1, vI x1), (2, vI x2)] [] Q) (K2 : s0 = 0 → k_X (jX12_part G l h0) h 41 [] [] Q) : k_X (jX12_part G l h0) h 38 [(0, vR (some x0)), (1, vI x1), (2, vI x2)] [vI s0] Q := by
  by_cases hc : s0 = 0
  · skip
    obtain ⟨h', r, K, q⟩ := K2 hc
    exact ⟨h', r, j_if_ne_f dX12_part_38 43 (by decide) hc (j_pick [] rfl K), q⟩
  · skip
    obtain ⟨h', r, K, q⟩ := K1 hc
    exact ⟨h', r, j_if_ne_t (tgt := 43) dX12_part_38 (by decide) hc K, q⟩
theorem bX12_part_41 {h0 h : k_H} {Q : k_H → k_R → Prop} (q : Q h (.inl (some (vI 0)))) : k_X (jX12_part G l h0) h 41 [] [] Q := by
  exact ⟨_, _, j_iconst (v := 0) dX12_part_41 (by decide) <| j_iret dX12_part_42 rfl, q⟩
theorem bX12_part_43 {h0 h : k_H} {Q : k_H → k_R → Prop} {x0 : Nat} {x1 x2 : Int32} (K1 : ¬ (x2 = 0) → k_X (jX12_part G l h0) h 56 [(0, vR (some x0)), (1, vI x1), (2, vI x2)] [] Q) (K2 : x2 = 0 → k_X (jX12_part G l h0) h 47 [(0, vR (some x0)), (1, vI x1)] [] Q) : k_X (jX12_part G l h0) h 43 [(0, vR (some x0)), (1, vI x1), (2, vI x2)] [] Q := by
  by_cases hc : x2 = 0
  · skip
    obtain ⟨h', r, K, q⟩ := K2 hc
    exact ⟨h', r, j_iload_n dX12_part_43 rfl rfl <| j_if_ne_f dX12_part_44 56 (by decide) hc (j_pick [0, 1] rfl K), q⟩
  · skip
    obtain ⟨h', r, K, q⟩ := K1 hc
    exact ⟨h', r, j_iload_n dX12_part_43 rfl rfl <| j_if_ne_t (tgt := 56) dX12_part_44 (by decide) hc K, q⟩
theorem bX12_part_47 {h0 h : k_H} {Q : k_H → k_R → Prop} {x0 f1_51 : Nat} {x1 : Int32} {fs1 : List k_V} (o1 : h.1 x0 = some (k_o 15 fs1)) (g1_51 : fs1[51]? = some (vR (some f1_51))) {n2 : Nat} {w2 : Nat → Int32} (o2 : h.1 f1_51 = some (k_i n2 w2)) (y3 : vp_in x1 n2) (K : k_X (jX12_part G l h0) h 90 [] [vI (w2 (x1).toNatClampNeg)] Q) : k_X (jX12_part G l h0) h 47 [(0, vR (some x0)), (1, vI x1)] [] Q := by
  obtain ⟨h', r, K, q⟩ := K
  exact ⟨h', r, j_aload_n dX12_part_47 rfl rfl <| j_getf dX12_part_48 kf_X12_131 o1 g1_51 <| j_iload_n dX12_part_51 rfl rfl <| j_iald dX12_part_52 o2 y3 <| j_goto (tgt := 90) dX12_part_53 (by decide) <| (j_pick [] rfl K), q⟩
theorem bX12_part_56 {h0 h : k_H} {Q : k_H → k_R → Prop} {x0 : Nat} {x1 x2 : Int32} (K1 : ¬ (x2 = 1) → k_X (jX12_part G l h0) h 69 [(0, vR (some x0)), (1, vI x1), (2, vI x2)] [] Q) (K2 : x2 = 1 → k_X (jX12_part G l h0) h 61 [(0, vR (some x0)), (1, vI x1)] [] Q) : k_X (jX12_part G l h0) h 56 [(0, vR (some x0)), (1, vI x1), (2, vI x2)] [] Q := by
  by_cases hc : x2 = 1
  · skip
    obtain ⟨h', r, K, q⟩ := K2 hc
    exact ⟨h', r, j_iload_n dX12_part_56 rfl rfl <| j_iconst (v := 1) dX12_part_57 (by decide) <| j_icmp_ne_f dX12_part_58 69 (by decide) hc (j_pick [0, 1] rfl K), q⟩
  · skip
    obtain ⟨h', r, K, q⟩ := K1 hc
    exact ⟨h', r, j_iload_n dX12_part_56 rfl rfl <| j_iconst (v := 1) dX12_part_57 (by decide) <| j_icmp_ne_t (tgt := 69) dX12_part_58 (by decide) hc K, q⟩
theorem bX12_part_61 {h0 h : k_H} {Q : k_H → k_R → Prop} {x0 : Nat} {x1 : Int32} (w : k_is h x0 15) {P : k_H → Int32 → Prop} (c : k_cti (tX12_manyOf G l) [vR (some x0), vI x1] h P) (K : ∀ h1 v, P h1 v → k_X (jX12_part G l h0) h1 66 [] [vI v] Q) : k_X (jX12_part G l h0) h 61 [(0, vR (some x0)), (1, vI x1)] [] Q := by
  obtain ⟨h1, v, c, p⟩ := c
  obtain ⟨h', r, K, q⟩ := K h1 v p
  exact ⟨h', r, j_aload_n dX12_part_61 rfl rfl <| j_iload_n dX12_part_62 rfl rfl <| j_callV (v := some (vI v)) (as := [vI x1]) dX12_part_63 kc_X12_219 rfl rfl w (by decide) (Nat.le_of_ble_eq_true rfl) c (j_pick [] rfl K), q⟩
theorem bX12_part_66 {h0 h : k_H} {Q : k_H → k_R → Prop} {s0 : Int32} (K : k_X (jX12_part G l h0) h 90 [] [vI s0] Q) : k_X (jX12_part G l h0) h 66 [] [vI s0] Q := by
  obtain ⟨h', r, K, q⟩ := K
  exact ⟨h', r, j_goto (tgt := 90) dX12_part_66 (by decide) <| K, q⟩
theorem bX12_part_69 {h0 h : k_H} {Q : k_H → k_R → Prop} {x0 : Nat} {x1 x2 : Int32} (K1 : ¬ (x1 = 0) → k_X (jX12_part G l h0) h 78 [(0, vR (some x0)), (1, vI x1), (2, vI x2)] [] Q) (K2 : x1 = 0 → k_X (jX12_part G l h0) h 73 [] [] Q) : k_X (jX12_part G l h0) h 69 [(0, vR (some x0)), (1, vI x1), (2, vI x2)] [] Q := by
  by_cases hc : x1 = 0
  · skip
    obtain ⟨h', r, K, q⟩ := K2 hc
    exact ⟨h', r, j_iload_n dX12_part_69 rfl rfl <| j_if_ne_f dX12_part_70 78 (by decide) hc (j_pick [] rfl K), q⟩
  · skip
    obtain ⟨h', r, K, q⟩ := K1 hc
    exact ⟨h', r, j_iload_n dX12_part_69 rfl rfl <| j_if_ne_t (tgt := 78) dX12_part_70 (by decide) hc K, q⟩
theorem bX12_part_73 {h0 h : k_H} {Q : k_H → k_R → Prop} (K : k_X (jX12_part G l h0) h 90 [] [vI (-2147483648)] Q) : k_X (jX12_part G l h0) h 73 [] [] Q := by
  obtain ⟨h', r, K, q⟩ := K
  exact ⟨h', r, j_ldc (v := (-2147483648)) dX12_part_73 ki_X12_87 <| j_goto (tgt := 90) dX12_part_75 (by decide) <| K, q⟩
theorem bX12_part_78 {h0 h : k_H} {Q : k_H → k_R → Prop} {x0 f1_50 : Nat} {x1 x2 : Int32} {fs1 : List k_V} (o1 : h.1 x0 = some (k_o 15 fs1)) (g1_50 : fs1[50]? = some (vR (some f1_50))) {n2 : Nat} {w2 : Nat → Int64} (o2 : h.1 f1_50 = some (k_j n2 w2)) (y3 : vp_in x1 n2) {P : k_H → Int32 → Prop} (c : k_cti (tX12_numberOf G l) [vJ (w2 (x1).toNatClampNeg), vI (x2 - 2)] h P) (K : ∀ h1 v, P h1 v → k_X (jX12_part G l h0) h1 90 [] [vI v] Q) : k_X (jX12_part G l h0) h 78 [(0, vR (some x0)), (1, vI x1), (2, vI x2)] [] Q := by
  obtain ⟨h1, v, c, p⟩ := c
  obtain ⟨h', r, K, q⟩ := K h1 v p
  exact ⟨h', r, j_aload_n dX12_part_78 rfl rfl <| j_getf dX12_part_79 kf_X12_128 o1 g1_50 <| j_iload_n dX12_part_82 rfl rfl <| j_lald dX12_part_83 o2 y3 <| j_iload_n dX12_part_84 rfl rfl <| j_iconst (v := 2) dX12_part_85 (by decide) <| j_isub dX12_part_86 <| j_callS (v := some (vI v)) (as := [vJ (w2 (x1).toNatClampNeg), vI (x2 - 2)]) dX12_part_87 kc_X12_295 rfl rfl (by decide) (Nat.le_of_ble_eq_true rfl) c (j_pick [] rfl K), q⟩
theorem bX12_part_90 {h0 h : k_H} {Q : k_H → k_R → Prop} {s0 : Int32} (q : Q h (.inl (some (vI s0)))) : k_X (jX12_part G l h0) h 90 [] [vI s0] Q := by
  exact ⟨_, _, j_iret dX12_part_90 rfl, q⟩
theorem eX12_mark {G : k_G} {l : Launch} (hfl : l.flags = flags0) {h : k_H} {Q : k_H → k_R → Prop} {x0 : Nat} (K : k_X (jX12_mark G l h) h 0 [(0, vR (some x0))] [] Q) : k_ct (tX12_mark G l) [vR (some x0)] h Q := by
  obtain ⟨h', r, K, q⟩ := K
  exact ⟨h', r, k_CtOf (by decide +kernel) (Nat.le_of_ble_eq_true rfl) K hfl, q⟩

theorem bX12_mark_0 {h0 h : k_H} {Q : k_H → k_R → Prop} {x0 : Nat} {f1_47 : Int32} {fs1 : List k_V} (o1 : h.1 x0 = some (k_o 15 fs1)) (g1_47 : fs1[47]? = some (vI f1_47)) (K1 : ¬ (f1_47 = 10) → k_X (jX12_mark G l h0) h 14 [(0, vR (some x0))] [vR (some x0)] Q) (K2 : f1_47 = 10 → k_X (jX12_mark G l h0) h 10 [(0, vR (some x0))] [vR (some x0)] Q) : k_X (jX12_mark G l h0) h 0 [(0, vR (some x0))] [] Q := by
  by_cases hc : f1_47 = 10
  · skip
    obtain ⟨h', r, K, q⟩ := K2 hc
    exact ⟨h', r, j_aload_n dX12_mark_0 rfl rfl <| j_aload_n dX12_mark_1 rfl rfl <| j_getf dX12_mark_2 kf_X12_412 o1 g1_47 <| j_bipush (v := 10) dX12_mark_5 (by decide) <| j_icmp_ne_f dX12_mark_7 14 (by decide) hc K, q⟩
  · skip
    obtain ⟨h', r, K, q⟩ := K1 hc
    exact ⟨h', r, j_aload_n dX12_mark_0 rfl rfl <| j_aload_n dX12_mark_1 rfl rfl <| j_getf dX12_mark_2 kf_X12_412 o1 g1_47 <| j_bipush (v := 10) dX12_mark_5 (by decide) <| j_icmp_ne_t (tgt := 14) dX12_mark_7 (by decide) hc K, q⟩
theorem bX12_mark_10 {h0 h : k_H} {Q : k_H → k_R → Prop} {x0 : Nat} {s0 : Option Nat} (K : k_X (jX12_mark G l h0) h 15 [(0, vR (some x0))] [vI 1, vR s0] Q) : k_X (jX12_mark G l h0) h 10 [(0, vR (some x0))] [vR s0] Q := by
  obtain ⟨h', r, K, q⟩ := K
  exact ⟨h', r, j_iconst (v := 1) dX12_mark_10 (by decide) <| j_goto (tgt := 15) dX12_mark_11 (by decide) <| K, q⟩
theorem bX12_mark_14 {h0 h : k_H} {Q : k_H → k_R → Prop} {x0 : Nat} {s0 : Option Nat} (K : k_X (jX12_mark G l h0) h 15 [(0, vR (some x0))] [vI 0, vR s0] Q) : k_X (jX12_mark G l h0) h 14 [(0, vR (some x0))] [vR s0] Q := by
  obtain ⟨h', r, K, q⟩ := K
  exact ⟨h', r, j_iconst (v := 0) dX12_mark_14 (by decide) <| K, q⟩
theorem bX12_mark_15 {h0 h : k_H} {Q : k_H → k_R → Prop} {x0 s0 : Nat} {s1 : Int32} (w : k_is h s0 15) {P : k_H → Int32 → Prop} (c : k_cti (tX12_goes G l) [vR (some s0), vI s1] h P) (K : ∀ h1 v, P h1 v → k_X (jX12_mark G l h0) h1 18 [(0, vR (some x0))] [vI v] Q) : k_X (jX12_mark G l h0) h 15 [(0, vR (some x0))] [vI s1, vR (some s0)] Q := by
  obtain ⟨h1, v, c, p⟩ := c
  obtain ⟨h', r, K, q⟩ := K h1 v p
  exact ⟨h', r, j_callV (v := some (vI v)) (as := [vI s1]) dX12_mark_15 kc_X12_265 rfl rfl w (by decide) (Nat.le_of_ble_eq_true rfl) c K, q⟩
theorem bX12_mark_18 {h0 h : k_H} {Q : k_H → k_R → Prop} {x0 : Nat} {s0 : Int32} (K1 : ¬ (s0 = 0) → k_X (jX12_mark G l h0) h 23 [(0, vR (some x0))] [] Q) (K2 : s0 = 0 → k_X (jX12_mark G l h0) h 21 [] [] Q) : k_X (jX12_mark G l h0) h 18 [(0, vR (some x0))] [vI s0] Q := by
  by_cases hc : s0 = 0
  · skip
    obtain ⟨h', r, K, q⟩ := K2 hc
    exact ⟨h', r, j_if_ne_f dX12_mark_18 23 (by decide) hc (j_pick [] rfl K), q⟩
  · skip
    obtain ⟨h', r, K, q⟩ := K1 hc
    exact ⟨h', r, j_if_ne_t (tgt := 23) dX12_mark_18 (by decide) hc K, q⟩
theorem bX12_mark_21 {h0 h : k_H} {Q : k_H → k_R → Prop} (q : Q h (.inl (some (vI 0)))) : k_X (jX12_mark G l h0) h 21 [] [] Q := by
  exact ⟨_, _, j_iconst (v := 0) dX12_mark_21 (by decide) <| j_iret dX12_mark_22 rfl, q⟩
theorem bX12_mark_23 {h0 h : k_H} {Q : k_H → k_R → Prop} {x0 f1_48 : Nat} {f1_47 f1_0 : Int32} {fs1 : List k_V} (o1 : h.1 x0 = some (k_o 15 fs1)) (g1_48 : fs1[48]? = some (vR (some f1_48))) (g1_47 : fs1[47]? = some (vI f1_47)) (g1_0 : fs1[0]? = some (vI f1_0)) {n2 : Nat} {w2 : Nat → Int32} (o2 : h.1 f1_48 = some (k_i n2 w2)) (y3 : vp_in f1_47 n2) (K : k_X (jX12_mark G l h0) (k_up h f1_48 (k_i n2 (va_up w2 (f1_47).toNatClampNeg f1_0))) 36 [(0, vR (some x0))] [] Q) : k_X (jX12_mark G l h0) h 23 [(0, vR (some x0))] [] Q := by
  obtain ⟨h', r, K, q⟩ := K
  exact ⟨h', r, j_aload_n dX12_mark_23 rfl rfl <| j_getf dX12_mark_24 kf_X12_122 o1 g1_48 <| j_aload_n dX12_mark_27 rfl rfl <| j_getf dX12_mark_28 kf_X12_412 o1 g1_47 <| j_aload_n dX12_mark_31 rfl rfl <| j_getf dX12_mark_32 kf_X12_176 o1 g1_0 <| j_iast dX12_mark_35 o2 y3 <| K, q⟩
theorem bX12_mark_36 {h0 h : k_H} {Q : k_H → k_R → Prop} {x0 : Nat} {f1_47 : Int32} {fs1 : List k_V} (o1 : h.1 x0 = some (k_o 15 fs1)) (g1_47 : fs1[47]? = some (vI f1_47)) (z1 : fs1.length = 53) (K : k_X (jX12_mark G l h0) (k_up h x0 (k_o 15 (fs1.set 47 (vI (f1_47 + 1))))) 46 [(0, vR (some x0))] [] Q) : k_X (jX12_mark G l h0) h 36 [(0, vR (some x0))] [] Q := by
  obtain ⟨h', r, K, q⟩ := K
  exact ⟨h', r, j_aload_n dX12_mark_36 rfl rfl <| j_dup dX12_mark_37 rfl <| j_getf dX12_mark_38 kf_X12_412 o1 g1_47 <| j_iconst (v := 1) dX12_mark_41 (by decide) <| j_iadd dX12_mark_42 <| j_putf dX12_mark_43 kp_X12_412 o1 (k_ln z1 (by decide)) (k_fit_i _) rfl <| K, q⟩
theorem bX12_mark_46 {h0 h : k_H} {Q : k_H → k_R → Prop} {x0 : Nat} {f1_47 : Int32} {fs1 : List k_V} (o1 : h.1 x0 = some (k_o 15 fs1)) (g1_47 : fs1[47]? = some (vI f1_47)) (q : Q h (.inl (some (vI (f1_47 - 1))))) : k_X (jX12_mark G l h0) h 46 [(0, vR (some x0))] [] Q := by
  exact ⟨_, _, j_aload_n dX12_mark_46 rfl rfl <| j_getf dX12_mark_47 kf_X12_412 o1 g1_47 <| j_iconst (v := 1) dX12_mark_50 (by decide) <| j_isub dX12_mark_51 <| j_iret dX12_mark_52 rfl, q⟩
theorem eX12_isOther {G : k_G} {l : Launch} (hfl : l.flags = flags0) {h : k_H} {Q : k_H → k_R → Prop} {x0 : Nat} {x1 : Int32} {x2 : Int32} (K : k_X (jX12_isOther G l h) h 0 [(0, vR (some x0)), (1, vI x1), (2, vI x2)] [] Q) : k_ct (tX12_isOther G l) [vR (some x0), vI x1, vI x2] h Q := by
  obtain ⟨h', r, K, q⟩ := K
  exact ⟨h', r, k_CtOf (by decide +kernel) (Nat.le_of_ble_eq_true rfl) K hfl, q⟩

theorem bX12_isOther_0 {h0 h : k_H} {Q : k_H → k_R → Prop} {x0 : Nat} {x1 x2 : Int32} (w : k_is h x0 15) {P : k_H → Int32 → Prop} (c : k_cti (tX12_hasAt G l) [vR (some x0), vI x1, vI x2] h P) (K : ∀ h1 v, P h1 v → k_X (jX12_isOther G l h0) h1 6 [(0, vR (some x0)), (1, vI x1), (2, vI x2)] [vI v] Q) : k_X (jX12_isOther G l h0) h 0 [(0, vR (some x0)), (1, vI x1), (2, vI x2)] [] Q := by
  obtain ⟨h1, v, c, p⟩ := c
  obtain ⟨h', r, K, q⟩ := K h1 v p
  exact ⟨h', r, j_aload_n dX12_isOther_0 rfl rfl <| j_iload_n dX12_isOther_1 rfl rfl <| j_iload_n dX12_isOther_2 rfl rfl <| j_callV (v := some (vI v)) (as := [vI x1, vI x2]) dX12_isOther_3 kc_X12_179 rfl rfl w (by decide) (Nat.le_of_ble_eq_true rfl) c K, q⟩
theorem bX12_isOther_6 {h0 h : k_H} {Q : k_H → k_R → Prop} {x0 : Nat} {x1 x2 s0 f1_0 : Int32} {fs1 : List k_V} (o1 : h.1 x0 = some (k_o 15 fs1)) (g1_0 : fs1[0]? = some (vI f1_0)) {P : k_H → Int32 → Prop} (c : k_cti (tX12_hasAt G l) [vR (some x0), vI x1, vI f1_0] h P) (K : ∀ h1 v, P h1 v → k_X (jX12_isOther G l h0) h1 15 [(0, vR (some x0)), (1, vI x1), (2, vI x2)] [vI v, vI s0] Q) : k_X (jX12_isOther G l h0) h 6 [(0, vR (some x0)), (1, vI x1), (2, vI x2)] [vI s0] Q := by
  obtain ⟨h1, v, c, p⟩ := c
  obtain ⟨h', r, K, q⟩ := K h1 v p
  exact ⟨h', r, j_aload_n dX12_isOther_6 rfl rfl <| j_iload_n dX12_isOther_7 rfl rfl <| j_aload_n dX12_isOther_8 rfl rfl <| j_getf dX12_isOther_9 kf_X12_176 o1 g1_0 <| j_callV (v := some (vI v)) (as := [vI x1, vI f1_0]) dX12_isOther_12 kc_X12_179 rfl rfl (k_is_o o1) (by decide) (Nat.le_of_ble_eq_true rfl) c K, q⟩
theorem bX12_isOther_15 {h0 h : k_H} {Q : k_H → k_R → Prop} {x0 : Nat} {x1 x2 s0 s1 : Int32} (K1 : ¬ (s0 = s1) → k_X (jX12_isOther G l h0) h 36 [] [] Q) (K2 : s0 = s1 → k_X (jX12_isOther G l h0) h 18 [(0, vR (some x0)), (1, vI x1), (2, vI x2)] [] Q) : k_X (jX12_isOther G l h0) h 15 [(0, vR (some x0)), (1, vI x1), (2, vI x2)] [vI s1, vI s0] Q := by
  by_cases hc : s0 = s1
  · skip
    obtain ⟨h', r, K, q⟩ := K2 hc
    exact ⟨h', r, j_icmp_ne_f dX12_isOther_15 36 (by decide) hc K, q⟩
  · skip
    obtain ⟨h', r, K, q⟩ := K1 hc
    exact ⟨h', r, j_icmp_ne_t (tgt := 36) dX12_isOther_15 (by decide) hc (j_pick [] rfl K), q⟩
theorem bX12_isOther_18 {h0 h : k_H} {Q : k_H → k_R → Prop} {x0 : Nat} {x1 x2 : Int32} (w : k_is h x0 15) {P : k_H → Int32 → Prop} (c : k_cti (tX12_valueAt G l) [vR (some x0), vI x1, vI x2] h P) (K : ∀ h1 v, P h1 v → k_X (jX12_isOther G l h0) h1 24 [(0, vR (some x0)), (1, vI x1)] [vI v] Q) : k_X (jX12_isOther G l h0) h 18 [(0, vR (some x0)), (1, vI x1), (2, vI x2)] [] Q := by
  obtain ⟨h1, v, c, p⟩ := c
  obtain ⟨h', r, K, q⟩ := K h1 v p
  exact ⟨h', r, j_aload_n dX12_isOther_18 rfl rfl <| j_iload_n dX12_isOther_19 rfl rfl <| j_iload_n dX12_isOther_20 rfl rfl <| j_callV (v := some (vI v)) (as := [vI x1, vI x2]) dX12_isOther_21 kc_X12_183 rfl rfl w (by decide) (Nat.le_of_ble_eq_true rfl) c (j_pick [0, 1] rfl K), q⟩
theorem bX12_isOther_24 {h0 h : k_H} {Q : k_H → k_R → Prop} {x0 : Nat} {x1 s0 f1_0 : Int32} {fs1 : List k_V} (o1 : h.1 x0 = some (k_o 15 fs1)) (g1_0 : fs1[0]? = some (vI f1_0)) {P : k_H → Int32 → Prop} (c : k_cti (tX12_valueAt G l) [vR (some x0), vI x1, vI f1_0] h P) (K : ∀ h1 v, P h1 v → k_X (jX12_isOther G l h0) h1 33 [] [vI v, vI s0] Q) : k_X (jX12_isOther G l h0) h 24 [(0, vR (some x0)), (1, vI x1)] [vI s0] Q := by
  obtain ⟨h1, v, c, p⟩ := c
  obtain ⟨h', r, K, q⟩ := K h1 v p
  exact ⟨h', r, j_aload_n dX12_isOther_24 rfl rfl <| j_iload_n dX12_isOther_25 rfl rfl <| j_aload_n dX12_isOther_26 rfl rfl <| j_getf dX12_isOther_27 kf_X12_176 o1 g1_0 <| j_callV (v := some (vI v)) (as := [vI x1, vI f1_0]) dX12_isOther_30 kc_X12_183 rfl rfl (k_is_o o1) (by decide) (Nat.le_of_ble_eq_true rfl) c (j_pick [] rfl K), q⟩
theorem bX12_isOther_33 {h0 h : k_H} {Q : k_H → k_R → Prop} {s0 s1 : Int32} (K1 : s0 = s1 → k_X (jX12_isOther G l h0) h 40 [] [] Q) (K2 : ¬ (s0 = s1) → k_X (jX12_isOther G l h0) h 36 [] [] Q) : k_X (jX12_isOther G l h0) h 33 [] [vI s1, vI s0] Q := by
  by_cases hc : s0 = s1
  · skip
    obtain ⟨h', r, K, q⟩ := K1 hc
    exact ⟨h', r, j_icmp_eq_t (tgt := 40) dX12_isOther_33 (by decide) hc K, q⟩
  · skip
    obtain ⟨h', r, K, q⟩ := K2 hc
    exact ⟨h', r, j_icmp_eq_f dX12_isOther_33 40 (by decide) hc K, q⟩
theorem bX12_isOther_36 {h0 h : k_H} {Q : k_H → k_R → Prop} (K : k_X (jX12_isOther G l h0) h 41 [] [vI 1] Q) : k_X (jX12_isOther G l h0) h 36 [] [] Q := by
  obtain ⟨h', r, K, q⟩ := K
  exact ⟨h', r, j_iconst (v := 1) dX12_isOther_36 (by decide) <| j_goto (tgt := 41) dX12_isOther_37 (by decide) <| K, q⟩
theorem bX12_isOther_40 {h0 h : k_H} {Q : k_H → k_R → Prop} (K : k_X (jX12_isOther G l h0) h 41 [] [vI 0] Q) : k_X (jX12_isOther G l h0) h 40 [] [] Q := by
  obtain ⟨h', r, K, q⟩ := K
  exact ⟨h', r, j_iconst (v := 0) dX12_isOther_40 (by decide) <| K, q⟩
theorem bX12_isOther_41 {h0 h : k_H} {Q : k_H → k_R → Prop} {s0 : Int32} (y1 : k_bl s0) (q : Q h (.inl (some (vI s0)))) : k_X (jX12_isOther G l h0) h 41 [] [vI s0] Q := by
  exact ⟨_, _, j_zret dX12_isOther_41 rfl y1, q⟩
theorem eX12_bringBack {G : k_G} {l : Launch} (hfl : l.flags = flags0) {h : k_H} {Q : k_H → k_R → Prop} {x0 : Nat} {x1 : Int32} (K : k_X (jX12_bringBack G l h) h 0 [(0, vR (some x0)), (1, vI x1)] [] Q) : k_ct (tX12_bringBack G l) [vR (some x0), vI x1] h Q := by
  obtain ⟨h', r, K, q⟩ := K
  exact ⟨h', r, k_CtOf (by decide +kernel) (Nat.le_of_ble_eq_true rfl) K hfl, q⟩

theorem bX12_bringBack_0 {h0 h : k_H} {Q : k_H → k_R → Prop} {x0 : Nat} {x1 f1_47 : Int32} {fs1 : List k_V} (o1 : h.1 x0 = some (k_o 15 fs1)) (g1_47 : fs1[47]? = some (vI f1_47)) {P : k_H → Int32 → Prop} (c : k_cti (tX12_isIn G l) [vI x1, vI 0, vI (f1_47 - 1)] h P) (K : ∀ h1 v, P h1 v → k_X (jX12_bringBack G l h0) h1 12 [(0, vR (some x0)), (1, vI x1)] [vI v, vR (some x0)] Q) : k_X (jX12_bringBack G l h0) h 0 [(0, vR (some x0)), (1, vI x1)] [] Q := by
  obtain ⟨h1, v, c, p⟩ := c
  obtain ⟨h', r, K, q⟩ := K h1 v p
  exact ⟨h', r, j_aload_n dX12_bringBack_0 rfl rfl <| j_iload_n dX12_bringBack_1 rfl rfl <| j_iconst (v := 0) dX12_bringBack_2 (by decide) <| j_aload_n dX12_bringBack_3 rfl rfl <| j_getf dX12_bringBack_4 kf_X12_412 o1 g1_47 <| j_iconst (v := 1) dX12_bringBack_7 (by decide) <| j_isub dX12_bringBack_8 <| j_callS (v := some (vI v)) (as := [vI x1, vI 0, vI (f1_47 - 1)]) dX12_bringBack_9 kc_X12_137 rfl rfl (by decide) (Nat.le_of_ble_eq_true rfl) c K, q⟩
theorem bX12_bringBack_12 {h0 h : k_H} {Q : k_H → k_R → Prop} {x0 : Nat} {x1 s1 : Int32} {s0 : Option Nat} (K1 : s1 = 0 → k_X (jX12_bringBack G l h0) h 19 [(0, vR (some x0)), (1, vI x1)] [vR s0] Q) (K2 : ¬ (s1 = 0) → k_X (jX12_bringBack G l h0) h 15 [(0, vR (some x0)), (1, vI x1)] [vR s0] Q) : k_X (jX12_bringBack G l h0) h 12 [(0, vR (some x0)), (1, vI x1)] [vI s1, vR s0] Q := by
  by_cases hc : s1 = 0
  · skip
    obtain ⟨h', r, K, q⟩ := K1 hc
    exact ⟨h', r, j_if_eq_t (tgt := 19) dX12_bringBack_12 (by decide) hc K, q⟩
  · skip
    obtain ⟨h', r, K, q⟩ := K2 hc
    exact ⟨h', r, j_if_eq_f dX12_bringBack_12 19 (by decide) hc K, q⟩
theorem bX12_bringBack_15 {h0 h : k_H} {Q : k_H → k_R → Prop} {x0 : Nat} {x1 : Int32} {s0 : Option Nat} (K : k_X (jX12_bringBack G l h0) h 20 [(0, vR (some x0)), (1, vI x1)] [vI 0, vR s0] Q) : k_X (jX12_bringBack G l h0) h 15 [(0, vR (some x0)), (1, vI x1)] [vR s0] Q := by
  obtain ⟨h', r, K, q⟩ := K
  exact ⟨h', r, j_iconst (v := 0) dX12_bringBack_15 (by decide) <| j_goto (tgt := 20) dX12_bringBack_16 (by decide) <| K, q⟩
theorem bX12_bringBack_19 {h0 h : k_H} {Q : k_H → k_R → Prop} {x0 : Nat} {x1 : Int32} {s0 : Option Nat} (K : k_X (jX12_bringBack G l h0) h 20 [(0, vR (some x0)), (1, vI x1)] [vI 1, vR s0] Q) : k_X (jX12_bringBack G l h0) h 19 [(0, vR (some x0)), (1, vI x1)] [vR s0] Q := by
  obtain ⟨h', r, K, q⟩ := K
  exact ⟨h', r, j_iconst (v := 1) dX12_bringBack_19 (by decide) <| K, q⟩
theorem bX12_bringBack_20 {h0 h : k_H} {Q : k_H → k_R → Prop} {x0 s0 : Nat} {x1 s1 : Int32} (w : k_is h s0 15) {P : k_H → Int32 → Prop} (c : k_cti (tX12_goes G l) [vR (some s0), vI s1] h P) (K : ∀ h1 v, P h1 v → k_X (jX12_bringBack G l h0) h1 23 [(0, vR (some x0)), (1, vI x1)] [vI v] Q) : k_X (jX12_bringBack G l h0) h 20 [(0, vR (some x0)), (1, vI x1)] [vI s1, vR (some s0)] Q := by
  obtain ⟨h1, v, c, p⟩ := c
  obtain ⟨h', r, K, q⟩ := K h1 v p
  exact ⟨h', r, j_callV (v := some (vI v)) (as := [vI s1]) dX12_bringBack_20 kc_X12_265 rfl rfl w (by decide) (Nat.le_of_ble_eq_true rfl) c K, q⟩
theorem bX12_bringBack_23 {h0 h : k_H} {Q : k_H → k_R → Prop} {x0 : Nat} {x1 s0 : Int32} (K1 : ¬ (s0 = 0) → k_X (jX12_bringBack G l h0) h 28 [(0, vR (some x0)), (1, vI x1)] [] Q) (K2 : s0 = 0 → k_X (jX12_bringBack G l h0) h 26 [] [] Q) : k_X (jX12_bringBack G l h0) h 23 [(0, vR (some x0)), (1, vI x1)] [vI s0] Q := by
  by_cases hc : s0 = 0
  · skip
    obtain ⟨h', r, K, q⟩ := K2 hc
    exact ⟨h', r, j_if_ne_f dX12_bringBack_23 28 (by decide) hc (j_pick [] rfl K), q⟩
  · skip
    obtain ⟨h', r, K, q⟩ := K1 hc
    exact ⟨h', r, j_if_ne_t (tgt := 28) dX12_bringBack_23 (by decide) hc K, q⟩
theorem bX12_bringBack_26 {h0 h : k_H} {Q : k_H → k_R → Prop} (q : Q h (.inl (some (vI 0)))) : k_X (jX12_bringBack G l h0) h 26 [] [] Q := by
  exact ⟨_, _, j_iconst (v := 0) dX12_bringBack_26 (by decide) <| j_iret dX12_bringBack_27 rfl, q⟩
theorem bX12_bringBack_28 {h0 h : k_H} {Q : k_H → k_R → Prop} {x0 : Nat} {x1 : Int32} (K : k_X (jX12_bringBack G l h0) h 32 [(0, vR (some x0)), (1, vI x1), (2, vI 0), (3, vI 0)] [] Q) : k_X (jX12_bringBack G l h0) h 28 [(0, vR (some x0)), (1, vI x1)] [] Q := by
  obtain ⟨h', r, K, q⟩ := K
  exact ⟨h', r, j_iconst (v := 0) dX12_bringBack_28 (by decide) <| j_istore_n dX12_bringBack_29 rfl (by decide) rfl <| j_iconst (v := 0) dX12_bringBack_30 (by decide) <| j_istore_n dX12_bringBack_31 rfl (by decide) rfl <| K, q⟩
theorem bX12_bringBack_32 {h0 h : k_H} {Q : k_H → k_R → Prop} {x0 : Nat} {x1 x2 x3 f1_2 : Int32} {fs1 : List k_V} (o1 : h.1 x0 = some (k_o 15 fs1)) (g1_2 : fs1[2]? = some (vI f1_2)) (K1 : f1_2 ≤ x3 → k_X (jX12_bringBack G l h0) h 68 [(0, vR (some x0)), (1, vI x1), (2, vI x2)] [] Q) (K2 : ¬ (f1_2 ≤ x3) → k_X (jX12_bringBack G l h0) h 40 [(0, vR (some x0)), (1, vI x1), (2, vI x2), (3, vI x3)] [] Q) : k_X (jX12_bringBack G l h0) h 32 [(0, vR (some x0)), (1, vI x1), (2, vI x2), (3, vI x3)] [] Q := by
  by_cases hc : f1_2 ≤ x3
  · skip
    obtain ⟨h', r, K, q⟩ := K1 hc
    exact ⟨h', r, j_iload_n dX12_bringBack_32 rfl rfl <| j_aload_n dX12_bringBack_33 rfl rfl <| j_getf dX12_bringBack_34 kf_X12_161 o1 g1_2 <| j_icmp_ge_t (tgt := 68) dX12_bringBack_37 (by decide) hc (j_pick [0, 1, 2] rfl K), q⟩
  · skip
    obtain ⟨h', r, K, q⟩ := K2 hc
    exact ⟨h', r, j_iload_n dX12_bringBack_32 rfl rfl <| j_aload_n dX12_bringBack_33 rfl rfl <| j_getf dX12_bringBack_34 kf_X12_161 o1 g1_2 <| j_icmp_ge_f dX12_bringBack_37 68 (by decide) hc K, q⟩
theorem bX12_bringBack_40 {h0 h : k_H} {Q : k_H → k_R → Prop} {x0 f1_48 : Nat} {x1 x2 x3 : Int32} {fs1 : List k_V} (o1 : h.1 x0 = some (k_o 15 fs1)) (g1_48 : fs1[48]? = some (vR (some f1_48))) {n2 : Nat} {w2 : Nat → Int32} (o2 : h.1 f1_48 = some (k_i n2 w2)) (y3 : vp_in x1 n2) {P : k_H → Int32 → Prop} (c : k_cti (tX12_isOther G l) [vR (some x0), vI x3, vI (w2 (x1).toNatClampNeg)] h P) (K : ∀ h1 v, P h1 v → k_X (jX12_bringBack G l h0) h1 52 [(0, vR (some x0)), (1, vI x1), (3, vI x3)] [vI v, vI x2] Q) : k_X (jX12_bringBack G l h0) h 40 [(0, vR (some x0)), (1, vI x1), (2, vI x2), (3, vI x3)] [] Q := by
  obtain ⟨h1, v, c, p⟩ := c
  obtain ⟨h', r, K, q⟩ := K h1 v p
  exact ⟨h', r, j_iload_n dX12_bringBack_40 rfl rfl <| j_aload_n dX12_bringBack_41 rfl rfl <| j_iload_n dX12_bringBack_42 rfl rfl <| j_aload_n dX12_bringBack_43 rfl rfl <| j_getf dX12_bringBack_44 kf_X12_122 o1 g1_48 <| j_iload_n dX12_bringBack_47 rfl rfl <| j_iald dX12_bringBack_48 o2 y3 <| j_callV (v := some (vI v)) (as := [vI x3, vI (w2 (x1).toNatClampNeg)]) dX12_bringBack_49 kc_X12_415 rfl rfl (k_is_o o1) (by decide) (Nat.le_of_ble_eq_true rfl) c (j_pick [0, 1, 3] rfl K), q⟩
theorem bX12_bringBack_52 {h0 h : k_H} {Q : k_H → k_R → Prop} {x0 : Nat} {x1 x3 s0 s1 : Int32} (K1 : s1 = 0 → k_X (jX12_bringBack G l h0) h 59 [(0, vR (some x0)), (1, vI x1), (3, vI x3)] [vI s0] Q) (K2 : ¬ (s1 = 0) → k_X (jX12_bringBack G l h0) h 55 [(0, vR (some x0)), (1, vI x1), (3, vI x3)] [vI s0] Q) : k_X (jX12_bringBack G l h0) h 52 [(0, vR (some x0)), (1, vI x1), (3, vI x3)] [vI s1, vI s0] Q := by
  by_cases hc : s1 = 0
  · skip
    obtain ⟨h', r, K, q⟩ := K1 hc
    exact ⟨h', r, j_if_eq_t (tgt := 59) dX12_bringBack_52 (by decide) hc K, q⟩
  · skip
    obtain ⟨h', r, K, q⟩ := K2 hc
    exact ⟨h', r, j_if_eq_f dX12_bringBack_52 59 (by decide) hc K, q⟩
theorem bX12_bringBack_55 {h0 h : k_H} {Q : k_H → k_R → Prop} {x0 : Nat} {x1 x3 s0 : Int32} (K : k_X (jX12_bringBack G l h0) h 60 [(0, vR (some x0)), (1, vI x1), (3, vI x3)] [vI 1, vI s0] Q) : k_X (jX12_bringBack G l h0) h 55 [(0, vR (some x0)), (1, vI x1), (3, vI x3)] [vI s0] Q := by
  obtain ⟨h', r, K, q⟩ := K
  exact ⟨h', r, j_iconst (v := 1) dX12_bringBack_55 (by decide) <| j_goto (tgt := 60) dX12_bringBack_56 (by decide) <| K, q⟩
theorem bX12_bringBack_59 {h0 h : k_H} {Q : k_H → k_R → Prop} {x0 : Nat} {x1 x3 s0 : Int32} (K : k_X (jX12_bringBack G l h0) h 60 [(0, vR (some x0)), (1, vI x1), (3, vI x3)] [vI 0, vI s0] Q) : k_X (jX12_bringBack G l h0) h 59 [(0, vR (some x0)), (1, vI x1), (3, vI x3)] [vI s0] Q := by
  obtain ⟨h', r, K, q⟩ := K
  exact ⟨h', r, j_iconst (v := 0) dX12_bringBack_59 (by decide) <| K, q⟩
theorem bX12_bringBack_60 {h0 h : k_H} {Q : k_H → k_R → Prop} {x0 : Nat} {x1 x3 s0 s1 : Int32} (K : k_X (jX12_bringBack G l h0) h 32 [(0, vR (some x0)), (1, vI x1), (2, vI (s0 + s1)), (3, vI (x3 + 1))] [] Q) : k_X (jX12_bringBack G l h0) h 60 [(0, vR (some x0)), (1, vI x1), (3, vI x3)] [vI s1, vI s0] Q := by
  obtain ⟨h', r, K, q⟩ := K
  exact ⟨h', r, j_iadd dX12_bringBack_60 <| j_istore_n dX12_bringBack_61 rfl (by decide) rfl <| j_iinc (v := x3 + 1) dX12_bringBack_62 rfl (by decide) rfl rfl <| j_goto (tgt := 32) dX12_bringBack_65 (by decide) <| K, q⟩
theorem bX12_bringBack_68 {h0 h : k_H} {Q : k_H → k_R → Prop} {x0 : Nat} {x1 x2 : Int32} (K1 : x2 ≤ 0 → k_X (jX12_bringBack G l h0) h 76 [(0, vR (some x0)), (1, vI x1), (2, vI x2)] [] Q) (K2 : ¬ (x2 ≤ 0) → k_X (jX12_bringBack G l h0) h 72 [(0, vR (some x0)), (1, vI x1), (2, vI x2)] [] Q) : k_X (jX12_bringBack G l h0) h 68 [(0, vR (some x0)), (1, vI x1), (2, vI x2)] [] Q := by
  by_cases hc : x2 ≤ 0
  · skip
    obtain ⟨h', r, K, q⟩ := K1 hc
    exact ⟨h', r, j_iload_n dX12_bringBack_68 rfl rfl <| j_if_le_t (tgt := 76) dX12_bringBack_69 (by decide) hc K, q⟩
  · skip
    obtain ⟨h', r, K, q⟩ := K2 hc
    exact ⟨h', r, j_iload_n dX12_bringBack_68 rfl rfl <| j_if_le_f dX12_bringBack_69 76 (by decide) hc K, q⟩
theorem bX12_bringBack_72 {h0 h : k_H} {Q : k_H → k_R → Prop} {x0 : Nat} {x1 x2 : Int32} (w : k_is h x0 15) {P : k_H → Prop} (c : k_ctv (tX12_opens G l) [vR (some x0)] h P) (K : ∀ h1, P h1 → k_X (jX12_bringBack G l h0) h1 76 [(0, vR (some x0)), (1, vI x1), (2, vI x2)] [] Q) : k_X (jX12_bringBack G l h0) h 72 [(0, vR (some x0)), (1, vI x1), (2, vI x2)] [] Q := by
  obtain ⟨h1, c, p⟩ := c
  obtain ⟨h', r, K, q⟩ := K h1 p
  exact ⟨h', r, j_aload_n dX12_bringBack_72 rfl rfl <| j_callV (v := none) (as := []) dX12_bringBack_73 kc_X12_319 rfl rfl w (by decide) (Nat.le_of_ble_eq_true rfl) c K, q⟩
theorem bX12_bringBack_76 {h0 h : k_H} {Q : k_H → k_R → Prop} {x0 : Nat} {x1 x2 : Int32} (K : k_X (jX12_bringBack G l h0) h 78 [(0, vR (some x0)), (1, vI x1), (2, vI x2), (3, vI 0)] [] Q) : k_X (jX12_bringBack G l h0) h 76 [(0, vR (some x0)), (1, vI x1), (2, vI x2)] [] Q := by
  obtain ⟨h', r, K, q⟩ := K
  exact ⟨h', r, j_iconst (v := 0) dX12_bringBack_76 (by decide) <| j_istore_n dX12_bringBack_77 rfl (by decide) rfl <| K, q⟩
theorem bX12_bringBack_78 {h0 h : k_H} {Q : k_H → k_R → Prop} {x0 : Nat} {x1 x2 x3 f1_2 : Int32} {fs1 : List k_V} (o1 : h.1 x0 = some (k_o 15 fs1)) (g1_2 : fs1[2]? = some (vI f1_2)) (K1 : f1_2 ≤ x3 → k_X (jX12_bringBack G l h0) h 155 [(0, vR (some x0)), (2, vI x2)] [] Q) (K2 : ¬ (f1_2 ≤ x3) → k_X (jX12_bringBack G l h0) h 86 [(0, vR (some x0)), (1, vI x1), (2, vI x2), (3, vI x3)] [] Q) : k_X (jX12_bringBack G l h0) h 78 [(0, vR (some x0)), (1, vI x1), (2, vI x2), (3, vI x3)] [] Q := by
  by_cases hc : f1_2 ≤ x3
  · skip
    obtain ⟨h', r, K, q⟩ := K1 hc
    exact ⟨h', r, j_iload_n dX12_bringBack_78 rfl rfl <| j_aload_n dX12_bringBack_79 rfl rfl <| j_getf dX12_bringBack_80 kf_X12_161 o1 g1_2 <| j_icmp_ge_t (tgt := 155) dX12_bringBack_83 (by decide) hc (j_pick [0, 2] rfl K), q⟩
  · skip
    obtain ⟨h', r, K, q⟩ := K2 hc
    exact ⟨h', r, j_iload_n dX12_bringBack_78 rfl rfl <| j_aload_n dX12_bringBack_79 rfl rfl <| j_getf dX12_bringBack_80 kf_X12_161 o1 g1_2 <| j_icmp_ge_f dX12_bringBack_83 155 (by decide) hc K, q⟩
theorem bX12_bringBack_86 {h0 h : k_H} {Q : k_H → k_R → Prop} {x0 : Nat} {x1 x2 x3 : Int32} (K1 : x2 ≤ 0 → k_X (jX12_bringBack G l h0) h 155 [(0, vR (some x0)), (2, vI x2)] [] Q) (K2 : ¬ (x2 ≤ 0) → k_X (jX12_bringBack G l h0) h 90 [(0, vR (some x0)), (1, vI x1), (2, vI x2), (3, vI x3)] [] Q) : k_X (jX12_bringBack G l h0) h 86 [(0, vR (some x0)), (1, vI x1), (2, vI x2), (3, vI x3)] [] Q := by
  by_cases hc : x2 ≤ 0
  · skip
    obtain ⟨h', r, K, q⟩ := K1 hc
    exact ⟨h', r, j_iload_n dX12_bringBack_86 rfl rfl <| j_if_le_t (tgt := 155) dX12_bringBack_87 (by decide) hc (j_pick [0, 2] rfl K), q⟩
  · skip
    obtain ⟨h', r, K, q⟩ := K2 hc
    exact ⟨h', r, j_iload_n dX12_bringBack_86 rfl rfl <| j_if_le_f dX12_bringBack_87 155 (by decide) hc K, q⟩
theorem bX12_bringBack_90 {h0 h : k_H} {Q : k_H → k_R → Prop} {x0 f1_48 : Nat} {x1 x2 x3 : Int32} {fs1 : List k_V} (o1 : h.1 x0 = some (k_o 15 fs1)) (g1_48 : fs1[48]? = some (vR (some f1_48))) {n2 : Nat} {w2 : Nat → Int32} (o2 : h.1 f1_48 = some (k_i n2 w2)) (y3 : vp_in x1 n2) {P : k_H → Int32 → Prop} (c : k_cti (tX12_isOther G l) [vR (some x0), vI x3, vI (w2 (x1).toNatClampNeg)] h P) (K : ∀ h1 v, P h1 v → k_X (jX12_bringBack G l h0) h1 101 [(0, vR (some x0)), (1, vI x1), (2, vI x2), (3, vI x3)] [vI v] Q) : k_X (jX12_bringBack G l h0) h 90 [(0, vR (some x0)), (1, vI x1), (2, vI x2), (3, vI x3)] [] Q := by
  obtain ⟨h1, v, c, p⟩ := c
  obtain ⟨h', r, K, q⟩ := K h1 v p
  exact ⟨h', r, j_aload_n dX12_bringBack_90 rfl rfl <| j_iload_n dX12_bringBack_91 rfl rfl <| j_aload_n dX12_bringBack_92 rfl rfl <| j_getf dX12_bringBack_93 kf_X12_122 o1 g1_48 <| j_iload_n dX12_bringBack_96 rfl rfl <| j_iald dX12_bringBack_97 o2 y3 <| j_callV (v := some (vI v)) (as := [vI x3, vI (w2 (x1).toNatClampNeg)]) dX12_bringBack_98 kc_X12_415 rfl rfl (k_is_o o1) (by decide) (Nat.le_of_ble_eq_true rfl) c K, q⟩
theorem bX12_bringBack_101 {h0 h : k_H} {Q : k_H → k_R → Prop} {x0 : Nat} {x1 x2 x3 s0 : Int32} (K1 : s0 = 0 → k_X (jX12_bringBack G l h0) h 149 [(0, vR (some x0)), (1, vI x1), (2, vI x2), (3, vI x3)] [] Q) (K2 : ¬ (s0 = 0) → k_X (jX12_bringBack G l h0) h 104 [(0, vR (some x0)), (1, vI x1), (2, vI x2), (3, vI x3)] [] Q) : k_X (jX12_bringBack G l h0) h 101 [(0, vR (some x0)), (1, vI x1), (2, vI x2), (3, vI x3)] [vI s0] Q := by
  by_cases hc : s0 = 0
  · skip
    obtain ⟨h', r, K, q⟩ := K1 hc
    exact ⟨h', r, j_if_eq_t (tgt := 149) dX12_bringBack_101 (by decide) hc K, q⟩
  · skip
    obtain ⟨h', r, K, q⟩ := K2 hc
    exact ⟨h', r, j_if_eq_f dX12_bringBack_101 149 (by decide) hc K, q⟩
theorem bX12_bringBack_104 {h0 h : k_H} {Q : k_H → k_R → Prop} {x0 f1_48 : Nat} {x1 x2 x3 : Int32} {fs1 : List k_V} (o1 : h.1 x0 = some (k_o 15 fs1)) (g1_48 : fs1[48]? = some (vR (some f1_48))) {n2 : Nat} {w2 : Nat → Int32} (o2 : h.1 f1_48 = some (k_i n2 w2)) (y3 : vp_in x1 n2) {P : k_H → Int32 → Prop} (c : k_cti (tX12_hasAt G l) [vR (some x0), vI x3, vI (w2 (x1).toNatClampNeg)] h P) (K : ∀ h1 v, P h1 v → k_X (jX12_bringBack G l h0) h1 115 [(0, vR (some x0)), (1, vI x1), (2, vI x2), (3, vI x3)] [vI v] Q) : k_X (jX12_bringBack G l h0) h 104 [(0, vR (some x0)), (1, vI x1), (2, vI x2), (3, vI x3)] [] Q := by
  obtain ⟨h1, v, c, p⟩ := c
  obtain ⟨h', r, K, q⟩ := K h1 v p
  exact ⟨h', r, j_aload_n dX12_bringBack_104 rfl rfl <| j_iload_n dX12_bringBack_105 rfl rfl <| j_aload_n dX12_bringBack_106 rfl rfl <| j_getf dX12_bringBack_107 kf_X12_122 o1 g1_48 <| j_iload_n dX12_bringBack_110 rfl rfl <| j_iald dX12_bringBack_111 o2 y3 <| j_callV (v := some (vI v)) (as := [vI x3, vI (w2 (x1).toNatClampNeg)]) dX12_bringBack_112 kc_X12_179 rfl rfl (k_is_o o1) (by decide) (Nat.le_of_ble_eq_true rfl) c K, q⟩
theorem bX12_bringBack_115 {h0 h : k_H} {Q : k_H → k_R → Prop} {x0 f1_3 : Nat} {x1 x2 x3 s0 : Int32} {fs1 : List k_V} (o1 : h.1 x0 = some (k_o 15 fs1)) (g1_3 : fs1[3]? = some (vR (some f1_3))) {n2 : Nat} {w2 : Nat → Int64} (o2 : h.1 f1_3 = some (k_j n2 w2)) (y3 : vp_in x3 n2) (K1 : s0 = 0 → k_X (jX12_bringBack G l h0) h 145 [(0, vR (some x0)), (1, vI x1), (2, vI x2), (3, vI x3)] [vI s0, vJ (w2 (x3).toNatClampNeg), vR (some x0)] Q) (K2 : ¬ (s0 = 0) → k_X (jX12_bringBack G l h0) h 131 [(0, vR (some x0)), (1, vI x1), (2, vI x2), (3, vI x3)] [vI s0, vJ (w2 (x3).toNatClampNeg), vR (some x0)] Q) : k_X (jX12_bringBack G l h0) h 115 [(0, vR (some x0)), (1, vI x1), (2, vI x2), (3, vI x3)] [vI s0] Q := by
  by_cases hc : s0 = 0
  · skip
    obtain ⟨h', r, K, q⟩ := K1 hc
    exact ⟨h', r, j_istore dX12_bringBack_115 (by decide) rfl <| j_aload_n dX12_bringBack_117 rfl rfl <| j_aload_n dX12_bringBack_118 rfl rfl <| j_getf dX12_bringBack_119 kf_X12_9 o1 g1_3 <| j_iload_n dX12_bringBack_122 rfl rfl <| j_lald dX12_bringBack_123 o2 y3 <| j_iload dX12_bringBack_124 rfl <| j_iload dX12_bringBack_126 rfl <| j_if_eq_t (tgt := 145) dX12_bringBack_128 (by decide) hc (j_pick [0, 1, 2, 3] rfl K), q⟩
  · skip
    obtain ⟨h', r, K, q⟩ := K2 hc
    exact ⟨h', r, j_istore dX12_bringBack_115 (by decide) rfl <| j_aload_n dX12_bringBack_117 rfl rfl <| j_aload_n dX12_bringBack_118 rfl rfl <| j_getf dX12_bringBack_119 kf_X12_9 o1 g1_3 <| j_iload_n dX12_bringBack_122 rfl rfl <| j_lald dX12_bringBack_123 o2 y3 <| j_iload dX12_bringBack_124 rfl <| j_iload dX12_bringBack_126 rfl <| j_if_eq_f dX12_bringBack_128 145 (by decide) hc (j_pick [0, 1, 2, 3] rfl K), q⟩
theorem bX12_bringBack_131 {h0 h : k_H} {Q : k_H → k_R → Prop} {x0 f1_48 : Nat} {x1 x2 x3 s2 : Int32} {s0 : Option Nat} {s1 : Int64} {fs1 : List k_V} (o1 : h.1 x0 = some (k_o 15 fs1)) (g1_48 : fs1[48]? = some (vR (some f1_48))) {n2 : Nat} {w2 : Nat → Int32} (o2 : h.1 f1_48 = some (k_i n2 w2)) (y3 : vp_in x1 n2) {P : k_H → Int32 → Prop} (c : k_cti (tX12_valueAt G l) [vR (some x0), vI x3, vI (w2 (x1).toNatClampNeg)] h P) (K : ∀ h1 v, P h1 v → k_X (jX12_bringBack G l h0) h1 142 [(0, vR (some x0)), (1, vI x1), (2, vI x2), (3, vI x3)] [vI v, vI s2, vJ s1, vR s0] Q) : k_X (jX12_bringBack G l h0) h 131 [(0, vR (some x0)), (1, vI x1), (2, vI x2), (3, vI x3)] [vI s2, vJ s1, vR s0] Q := by
  obtain ⟨h1, v, c, p⟩ := c
  obtain ⟨h', r, K, q⟩ := K h1 v p
  exact ⟨h', r, j_aload_n dX12_bringBack_131 rfl rfl <| j_iload_n dX12_bringBack_132 rfl rfl <| j_aload_n dX12_bringBack_133 rfl rfl <| j_getf dX12_bringBack_134 kf_X12_122 o1 g1_48 <| j_iload_n dX12_bringBack_137 rfl rfl <| j_iald dX12_bringBack_138 o2 y3 <| j_callV (v := some (vI v)) (as := [vI x3, vI (w2 (x1).toNatClampNeg)]) dX12_bringBack_139 kc_X12_183 rfl rfl (k_is_o o1) (by decide) (Nat.le_of_ble_eq_true rfl) c K, q⟩
theorem bX12_bringBack_142 {h0 h : k_H} {Q : k_H → k_R → Prop} {x0 : Nat} {x1 x2 x3 s2 s3 : Int32} {s0 : Option Nat} {s1 : Int64} (K : k_X (jX12_bringBack G l h0) h 146 [(0, vR (some x0)), (1, vI x1), (2, vI x2), (3, vI x3)] [vI s3, vI s2, vJ s1, vR s0] Q) : k_X (jX12_bringBack G l h0) h 142 [(0, vR (some x0)), (1, vI x1), (2, vI x2), (3, vI x3)] [vI s3, vI s2, vJ s1, vR s0] Q := by
  obtain ⟨h', r, K, q⟩ := K
  exact ⟨h', r, j_goto (tgt := 146) dX12_bringBack_142 (by decide) <| K, q⟩
theorem bX12_bringBack_145 {h0 h : k_H} {Q : k_H → k_R → Prop} {x0 : Nat} {x1 x2 x3 s2 : Int32} {s0 : Option Nat} {s1 : Int64} (K : k_X (jX12_bringBack G l h0) h 146 [(0, vR (some x0)), (1, vI x1), (2, vI x2), (3, vI x3)] [vI 0, vI s2, vJ s1, vR s0] Q) : k_X (jX12_bringBack G l h0) h 145 [(0, vR (some x0)), (1, vI x1), (2, vI x2), (3, vI x3)] [vI s2, vJ s1, vR s0] Q := by
  obtain ⟨h', r, K, q⟩ := K
  exact ⟨h', r, j_iconst (v := 0) dX12_bringBack_145 (by decide) <| K, q⟩
theorem bX12_bringBack_146 {h0 h : k_H} {Q : k_H → k_R → Prop} {x0 s0 : Nat} {x1 x2 x3 s2 s3 : Int32} {s1 : Int64} (w : k_is h s0 15) {P : k_H → Prop} (c : k_ctv (tX12_puts G l) [vR (some s0), vJ s1, vI s2, vI s3] h P) (K : ∀ h1, P h1 → k_X (jX12_bringBack G l h0) h1 149 [(0, vR (some x0)), (1, vI x1), (2, vI x2), (3, vI x3)] [] Q) : k_X (jX12_bringBack G l h0) h 146 [(0, vR (some x0)), (1, vI x1), (2, vI x2), (3, vI x3)] [vI s3, vI s2, vJ s1, vR (some s0)] Q := by
  obtain ⟨h1, c, p⟩ := c
  obtain ⟨h', r, K, q⟩ := K h1 p
  exact ⟨h', r, j_callV (v := none) (as := [vJ s1, vI s2, vI s3]) dX12_bringBack_146 kc_X12_192 rfl rfl w (by decide) (Nat.le_of_ble_eq_true rfl) c K, q⟩
theorem bX12_bringBack_149 {h0 h : k_H} {Q : k_H → k_R → Prop} {x0 : Nat} {x1 x2 x3 : Int32} (K : k_X (jX12_bringBack G l h0) h 78 [(0, vR (some x0)), (1, vI x1), (2, vI x2), (3, vI (x3 + 1))] [] Q) : k_X (jX12_bringBack G l h0) h 149 [(0, vR (some x0)), (1, vI x1), (2, vI x2), (3, vI x3)] [] Q := by
  obtain ⟨h', r, K, q⟩ := K
  exact ⟨h', r, j_iinc (v := x3 + 1) dX12_bringBack_149 rfl (by decide) rfl rfl <| j_goto (tgt := 78) dX12_bringBack_152 (by decide) <| K, q⟩
theorem bX12_bringBack_155 {h0 h : k_H} {Q : k_H → k_R → Prop} {x0 : Nat} {x2 : Int32} (K1 : x2 ≤ 0 → k_X (jX12_bringBack G l h0) h 163 [(2, vI x2)] [] Q) (K2 : ¬ (x2 ≤ 0) → k_X (jX12_bringBack G l h0) h 159 [(0, vR (some x0)), (2, vI x2)] [] Q) : k_X (jX12_bringBack G l h0) h 155 [(0, vR (some x0)), (2, vI x2)] [] Q := by
  by_cases hc : x2 ≤ 0
  · skip
    obtain ⟨h', r, K, q⟩ := K1 hc
    exact ⟨h', r, j_iload_n dX12_bringBack_155 rfl rfl <| j_if_le_t (tgt := 163) dX12_bringBack_156 (by decide) hc (j_pick [1] rfl K), q⟩
  · skip
    obtain ⟨h', r, K, q⟩ := K2 hc
    exact ⟨h', r, j_iload_n dX12_bringBack_155 rfl rfl <| j_if_le_f dX12_bringBack_156 163 (by decide) hc K, q⟩
theorem bX12_bringBack_159 {h0 h : k_H} {Q : k_H → k_R → Prop} {x0 : Nat} {x2 : Int32} (w : k_is h x0 15) {P : k_H → Prop} (c : k_ctv (tX12_closes G l) [vR (some x0)] h P) (K : ∀ h1, P h1 → k_X (jX12_bringBack G l h0) h1 163 [(2, vI x2)] [] Q) : k_X (jX12_bringBack G l h0) h 159 [(0, vR (some x0)), (2, vI x2)] [] Q := by
  obtain ⟨h1, c, p⟩ := c
  obtain ⟨h', r, K, q⟩ := K h1 p
  exact ⟨h', r, j_aload_n dX12_bringBack_159 rfl rfl <| j_callV (v := none) (as := []) dX12_bringBack_160 kc_X12_330 rfl rfl w (by decide) (Nat.le_of_ble_eq_true rfl) c (j_pick [1] rfl K), q⟩
theorem bX12_bringBack_163 {h0 h : k_H} {Q : k_H → k_R → Prop} {x2 : Int32} (q : Q h (.inl (some (vI x2)))) : k_X (jX12_bringBack G l h0) h 163 [(2, vI x2)] [] Q := by
  exact ⟨_, _, j_iload_n dX12_bringBack_163 rfl rfl <| j_iret dX12_bringBack_164 rfl, q⟩
end BM
