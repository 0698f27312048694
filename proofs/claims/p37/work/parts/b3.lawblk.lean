section LB2
variable {G : k_G} {l : Launch}

theorem eL_isRefused {G : k_G} {l : Launch} (hfl : l.flags = flags0) {h : k_H} {Q : k_H → k_R → Prop} {x0 : Option Nat} {x1 : Option Nat} {x2 : Option Nat} {x3 : Int32} (K : k_X (jL_isRefused G l h) h 0 [(0, vR x0), (1, vR x1), (2, vR x2), (3, vI x3)] [] Q) : k_ct (tL_isRefused G l) [vR x0, vR x1, vR x2, vI x3] h Q := by
  obtain ⟨h', r, K, q⟩ := K
  exact ⟨h', r, k_CtOf (by decide +kernel) (Nat.le_of_ble_eq_true rfl) K hfl, q⟩

theorem bL_isRefused_0 {h0 h : k_H} {Q : k_H → k_R → Prop} {x0 x1 x2 : Option Nat} {x3 : Int32} (K1 : ¬ ((x3 - (x3 / 2) * 2) = 0) → k_X (jL_isRefused G l h0) h 10 [(0, vR x0), (1, vR x1), (2, vR x2), (3, vI x3)] [] Q) (K2 : (x3 - (x3 / 2) * 2) = 0 → k_X (jL_isRefused G l h0) h 6 [(0, vR x0), (1, vR x1), (2, vR x2), (3, vI x3)] [] Q) : k_X (jL_isRefused G l h0) h 0 [(0, vR x0), (1, vR x1), (2, vR x2), (3, vI x3)] [] Q := by
  by_cases hc : (x3 - (x3 / 2) * 2) = 0
  · skip
    obtain ⟨h', r, K, q⟩ := K2 hc
    exact ⟨h', r, j_iload_n dL_isRefused_0 rfl rfl <| j_iconst (v := 2) dL_isRefused_1 (by decide) <| j_irem dL_isRefused_2 (by decide) <| j_if_ne_f dL_isRefused_3 10 (by decide) hc K, q⟩
  · skip
    obtain ⟨h', r, K, q⟩ := K1 hc
    exact ⟨h', r, j_iload_n dL_isRefused_0 rfl rfl <| j_iconst (v := 2) dL_isRefused_1 (by decide) <| j_irem dL_isRefused_2 (by decide) <| j_if_ne_t (tgt := 10) dL_isRefused_3 (by decide) hc K, q⟩
theorem bL_isRefused_6 {h0 h : k_H} {Q : k_H → k_R → Prop} {x0 x1 x2 : Option Nat} {x3 : Int32} (K : k_X (jL_isRefused G l h0) h 11 [(0, vR x0), (1, vR x1), (2, vR x2), (3, vI x3)] [vI 1] Q) : k_X (jL_isRefused G l h0) h 6 [(0, vR x0), (1, vR x1), (2, vR x2), (3, vI x3)] [] Q := by
  obtain ⟨h', r, K, q⟩ := K
  exact ⟨h', r, j_iconst (v := 1) dL_isRefused_6 (by decide) <| j_goto (tgt := 11) dL_isRefused_7 (by decide) <| K, q⟩
theorem bL_isRefused_10 {h0 h : k_H} {Q : k_H → k_R → Prop} {x0 x1 x2 : Option Nat} {x3 : Int32} (K : k_X (jL_isRefused G l h0) h 11 [(0, vR x0), (1, vR x1), (2, vR x2), (3, vI x3)] [vI 0] Q) : k_X (jL_isRefused G l h0) h 10 [(0, vR x0), (1, vR x1), (2, vR x2), (3, vI x3)] [] Q := by
  obtain ⟨h', r, K, q⟩ := K
  exact ⟨h', r, j_iconst (v := 0) dL_isRefused_10 (by decide) <| K, q⟩
theorem bL_isRefused_11 {h0 h : k_H} {Q : k_H → k_R → Prop} {x0 x1 x2 : Option Nat} {x3 s0 : Int32} (K1 : s0 = 0 → k_X (jL_isRefused G l h0) h 27 [(0, vR x0), (1, vR x1), (2, vR x2), (3, vI x3), (4, vI s0)] [] Q) (K2 : ¬ (s0 = 0) → k_X (jL_isRefused G l h0) h 18 [(0, vR x0), (1, vR x1), (2, vR x2), (3, vI x3), (4, vI s0)] [] Q) : k_X (jL_isRefused G l h0) h 11 [(0, vR x0), (1, vR x1), (2, vR x2), (3, vI x3)] [vI s0] Q := by
  by_cases hc : s0 = 0
  · skip
    obtain ⟨h', r, K, q⟩ := K1 hc
    exact ⟨h', r, j_istore dL_isRefused_11 (by decide) rfl <| j_iload dL_isRefused_13 rfl <| j_if_eq_t (tgt := 27) dL_isRefused_15 (by decide) hc K, q⟩
  · skip
    obtain ⟨h', r, K, q⟩ := K2 hc
    exact ⟨h', r, j_istore dL_isRefused_11 (by decide) rfl <| j_iload dL_isRefused_13 rfl <| j_if_eq_f dL_isRefused_15 27 (by decide) hc K, q⟩
theorem bL_isRefused_18 {h0 h : k_H} {Q : k_H → k_R → Prop} {x0 x1 x2 : Option Nat} {x3 x4 : Int32} (K : k_X (jL_isRefused G l h0) h 33 [(0, vR x0), (1, vR x1), (2, vR x2), (3, vI x3), (4, vI x4)] [vI ((-1) - (x3 - (x3 / 30) * 30))] Q) : k_X (jL_isRefused G l h0) h 18 [(0, vR x0), (1, vR x1), (2, vR x2), (3, vI x3), (4, vI x4)] [] Q := by
  obtain ⟨h', r, K, q⟩ := K
  exact ⟨h', r, j_iconst (v := (-1)) dL_isRefused_18 (by decide) <| j_iload_n dL_isRefused_19 rfl rfl <| j_bipush (v := 30) dL_isRefused_20 (by decide) <| j_irem dL_isRefused_22 (by decide) <| j_isub dL_isRefused_23 <| j_goto (tgt := 33) dL_isRefused_24 (by decide) <| K, q⟩
theorem bL_isRefused_27 {h0 h : k_H} {Q : k_H → k_R → Prop} {x0 x1 x2 : Option Nat} {x3 x4 : Int32} (K : k_X (jL_isRefused G l h0) h 33 [(0, vR x0), (1, vR x1), (2, vR x2), (3, vI x3), (4, vI x4)] [vI (4 + (x3 - (x3 / 30) * 30))] Q) : k_X (jL_isRefused G l h0) h 27 [(0, vR x0), (1, vR x1), (2, vR x2), (3, vI x3), (4, vI x4)] [] Q := by
  obtain ⟨h', r, K, q⟩ := K
  exact ⟨h', r, j_iconst (v := 4) dL_isRefused_27 (by decide) <| j_iload_n dL_isRefused_28 rfl rfl <| j_bipush (v := 30) dL_isRefused_29 (by decide) <| j_irem dL_isRefused_31 (by decide) <| j_iadd dL_isRefused_32 <| K, q⟩
theorem bL_isRefused_33 {h0 h : k_H} {Q : k_H → k_R → Prop} {x0 x1 x2 : Option Nat} {x3 x4 s0 : Int32} (K1 : x4 = 0 → k_X (jL_isRefused G l h0) h 51 [(0, vR x0), (1, vR x1), (2, vR x2), (3, vI x3), (4, vI x4), (5, vI s0)] [] Q) (K2 : ¬ (x4 = 0) → k_X (jL_isRefused G l h0) h 40 [(0, vR x0), (1, vR x1), (2, vR x2), (3, vI x3), (4, vI x4), (5, vI s0)] [] Q) : k_X (jL_isRefused G l h0) h 33 [(0, vR x0), (1, vR x1), (2, vR x2), (3, vI x3), (4, vI x4)] [vI s0] Q := by
  by_cases hc : x4 = 0
  · skip
    obtain ⟨h', r, K, q⟩ := K1 hc
    exact ⟨h', r, j_istore dL_isRefused_33 (by decide) rfl <| j_iload dL_isRefused_35 rfl <| j_if_eq_t (tgt := 51) dL_isRefused_37 (by decide) hc K, q⟩
  · skip
    obtain ⟨h', r, K, q⟩ := K2 hc
    exact ⟨h', r, j_istore dL_isRefused_33 (by decide) rfl <| j_iload dL_isRefused_35 rfl <| j_if_eq_f dL_isRefused_37 51 (by decide) hc K, q⟩
theorem bL_isRefused_40 {h0 h : k_H} {Q : k_H → k_R → Prop} {x0 x1 x2 : Option Nat} {x3 x4 x5 : Int32} (K : k_X (jL_isRefused G l h0) h 59 [(0, vR x0), (1, vR x1), (2, vR x2), (3, vI x3), (4, vI x4), (5, vI x5)] [vI ((-1000) - (x3 - (x3 / 30) * 30))] Q) : k_X (jL_isRefused G l h0) h 40 [(0, vR x0), (1, vR x1), (2, vR x2), (3, vI x3), (4, vI x4), (5, vI x5)] [] Q := by
  obtain ⟨h', r, K, q⟩ := K
  exact ⟨h', r, j_sipush (v := (-1000)) dL_isRefused_40 (by decide) <| j_iload_n dL_isRefused_43 rfl rfl <| j_bipush (v := 30) dL_isRefused_44 (by decide) <| j_irem dL_isRefused_46 (by decide) <| j_isub dL_isRefused_47 <| j_goto (tgt := 59) dL_isRefused_48 (by decide) <| K, q⟩
theorem bL_isRefused_51 {h0 h : k_H} {Q : k_H → k_R → Prop} {x0 x1 x2 : Option Nat} {x3 x4 x5 : Int32} (K : k_X (jL_isRefused G l h0) h 59 [(0, vR x0), (1, vR x1), (2, vR x2), (3, vI x3), (4, vI x4), (5, vI x5)] [vI (10001 + (x3 - (x3 / 30) * 30))] Q) : k_X (jL_isRefused G l h0) h 51 [(0, vR x0), (1, vR x1), (2, vR x2), (3, vI x3), (4, vI x4), (5, vI x5)] [] Q := by
  obtain ⟨h', r, K, q⟩ := K
  exact ⟨h', r, j_sipush (v := 10001) dL_isRefused_51 (by decide) <| j_iload_n dL_isRefused_54 rfl rfl <| j_bipush (v := 30) dL_isRefused_55 (by decide) <| j_irem dL_isRefused_57 (by decide) <| j_iadd dL_isRefused_58 <| K, q⟩
theorem bL_isRefused_59 {h0 h : k_H} {Q : k_H → k_R → Prop} {x0 x1 x2 : Option Nat} {x3 x4 x5 s0 : Int32} {P : k_H → Int64 → Prop} (c : k_ctj (tL_all G l) [vR x0, vR x1] h P) (K : ∀ h1 v, P h1 v → k_X (jL_isRefused G l h0) h1 66 [(0, vR x0), (1, vR x1), (2, vR x2), (3, vI x3), (4, vI x4), (5, vI x5), (6, vI s0)] [vJ v] Q) : k_X (jL_isRefused G l h0) h 59 [(0, vR x0), (1, vR x1), (2, vR x2), (3, vI x3), (4, vI x4), (5, vI x5)] [vI s0] Q := by
  obtain ⟨h1, v, c, p⟩ := c
  obtain ⟨h', r, K, q⟩ := K h1 v p
  exact ⟨h', r, j_istore dL_isRefused_59 (by decide) rfl <| j_aload_n dL_isRefused_61 rfl rfl <| j_aload_n dL_isRefused_62 rfl rfl <| j_callS (v := some (vJ v)) (as := [vR x0, vR x1]) dL_isRefused_63 kc_L_145 rfl rfl (by decide) (Nat.le_of_ble_eq_true rfl) c K, q⟩
theorem bL_isRefused_59x {h0 h : k_H} {Q : k_H → k_R → Prop} {x0 x1 x2 : Option Nat} {x3 x4 x5 s0 : Int32} {E : String} {P : k_H → Prop} (c : k_ctx (tL_all G l) [vR x0, vR x1] h E P) (q : ∀ h1, P h1 → Q h1 (.inr E)) : k_X (jL_isRefused G l h0) h 59 [(0, vR x0), (1, vR x1), (2, vR x2), (3, vI x3), (4, vI x4), (5, vI x5)] [vI s0] Q := by
  obtain ⟨h1, c, p⟩ := c
  exact ⟨h1, _, j_istore dL_isRefused_59 (by decide) rfl <| j_aload_n dL_isRefused_61 rfl rfl <| j_aload_n dL_isRefused_62 rfl rfl <| j_callSx (as := [vR x0, vR x1]) dL_isRefused_63 kc_L_145 rfl rfl (by decide) (Nat.le_of_ble_eq_true rfl) c, q h1 p⟩
theorem bL_isRefused_66 {h0 h : k_H} {Q : k_H → k_R → Prop} {x0 x1 x2 : Option Nat} {x3 x4 x5 x6 : Int32} {s0 : Int64} {P : k_H → Int32 → Prop} (c : k_cti (tL_act G l) [vR x0, vI 0, vI x5, vI 0, vI 0, vI 0, vI 0, vI 0] h P) (K : ∀ h1 v, P h1 v → k_X (jL_isRefused G l h0) h1 80 [(0, vR x0), (1, vR x1), (2, vR x2), (3, vI x3), (4, vI x4), (5, vI x5), (6, vI x6), (7, vJ s0)] [vI v] Q) : k_X (jL_isRefused G l h0) h 66 [(0, vR x0), (1, vR x1), (2, vR x2), (3, vI x3), (4, vI x4), (5, vI x5), (6, vI x6)] [vJ s0] Q := by
  obtain ⟨h1, v, c, p⟩ := c
  obtain ⟨h', r, K, q⟩ := K h1 v p
  exact ⟨h', r, j_lstore dL_isRefused_66 (by decide) rfl <| j_aload_n dL_isRefused_68 rfl rfl <| j_iconst (v := 0) dL_isRefused_69 (by decide) <| j_iload dL_isRefused_70 rfl <| j_iconst (v := 0) dL_isRefused_72 (by decide) <| j_iconst (v := 0) dL_isRefused_73 (by decide) <| j_iconst (v := 0) dL_isRefused_74 (by decide) <| j_iconst (v := 0) dL_isRefused_75 (by decide) <| j_iconst (v := 0) dL_isRefused_76 (by decide) <| j_callW (v := some (vI v)) (as := [vR x0, vI 0, vI x5, vI 0, vI 0, vI 0, vI 0, vI 0]) dL_isRefused_77 kcw_L_149 rfl rfl (by decide) (Nat.le_of_ble_eq_true rfl) c K, q⟩
theorem bL_isRefused_80 {h0 h : k_H} {Q : k_H → k_R → Prop} {x0 x1 x2 : Option Nat} {x3 x4 x5 x6 s0 : Int32} {x7 : Int64} (K1 : ¬ (s0 = (-2000000001)) → k_X (jL_isRefused G l h0) h 526 [(0, vR x0), (1, vR x1), (2, vR x2), (3, vI x3), (4, vI x4), (5, vI x5), (6, vI x6), (7, vJ x7)] [] Q) (K2 : s0 = (-2000000001) → k_X (jL_isRefused G l h0) h 85 [(0, vR x0), (1, vR x1), (2, vR x2), (3, vI x3), (4, vI x4), (5, vI x5), (6, vI x6), (7, vJ x7)] [] Q) : k_X (jL_isRefused G l h0) h 80 [(0, vR x0), (1, vR x1), (2, vR x2), (3, vI x3), (4, vI x4), (5, vI x5), (6, vI x6), (7, vJ x7)] [vI s0] Q := by
  by_cases hc : s0 = (-2000000001)
  · skip
    obtain ⟨h', r, K, q⟩ := K2 hc
    exact ⟨h', r, j_ldc (v := (-2000000001)) dL_isRefused_80 ki_L_107 <| j_icmp_ne_f dL_isRefused_82 526 (by decide) hc K, q⟩
  · skip
    obtain ⟨h', r, K, q⟩ := K1 hc
    exact ⟨h', r, j_ldc (v := (-2000000001)) dL_isRefused_80 ki_L_107 <| j_icmp_ne_t (tgt := 526) dL_isRefused_82 (by decide) hc K, q⟩
theorem bL_isRefused_85 {h0 h : k_H} {Q : k_H → k_R → Prop} {x0 x1 x2 : Option Nat} {x3 x4 x5 x6 : Int32} {x7 : Int64} {P : k_H → Int32 → Prop} (c : k_cti (tL_act G l) [vR x0, vI 1, vI x5, vI 10001, vI 0, vI 0, vI 0, vI 0] h P) (K : ∀ h1 v, P h1 v → k_X (jL_isRefused G l h0) h1 99 [(0, vR x0), (1, vR x1), (2, vR x2), (3, vI x3), (4, vI x4), (5, vI x5), (6, vI x6), (7, vJ x7)] [vI v] Q) : k_X (jL_isRefused G l h0) h 85 [(0, vR x0), (1, vR x1), (2, vR x2), (3, vI x3), (4, vI x4), (5, vI x5), (6, vI x6), (7, vJ x7)] [] Q := by
  obtain ⟨h1, v, c, p⟩ := c
  obtain ⟨h', r, K, q⟩ := K h1 v p
  exact ⟨h', r, j_aload_n dL_isRefused_85 rfl rfl <| j_iconst (v := 1) dL_isRefused_86 (by decide) <| j_iload dL_isRefused_87 rfl <| j_sipush (v := 10001) dL_isRefused_89 (by decide) <| j_iconst (v := 0) dL_isRefused_92 (by decide) <| j_iconst (v := 0) dL_isRefused_93 (by decide) <| j_iconst (v := 0) dL_isRefused_94 (by decide) <| j_iconst (v := 0) dL_isRefused_95 (by decide) <| j_callW (v := some (vI v)) (as := [vR x0, vI 1, vI x5, vI 10001, vI 0, vI 0, vI 0, vI 0]) dL_isRefused_96 kcw_L_149 rfl rfl (by decide) (Nat.le_of_ble_eq_true rfl) c K, q⟩
theorem bL_isRefused_99 {h0 h : k_H} {Q : k_H → k_R → Prop} {x0 x1 x2 : Option Nat} {x3 x4 x5 x6 s0 : Int32} {x7 : Int64} (K1 : ¬ (s0 = (-2000000001)) → k_X (jL_isRefused G l h0) h 526 [(0, vR x0), (1, vR x1), (2, vR x2), (3, vI x3), (4, vI x4), (5, vI x5), (6, vI x6), (7, vJ x7)] [] Q) (K2 : s0 = (-2000000001) → k_X (jL_isRefused G l h0) h 104 [(0, vR x0), (1, vR x1), (2, vR x2), (3, vI x3), (4, vI x4), (5, vI x5), (6, vI x6), (7, vJ x7)] [] Q) : k_X (jL_isRefused G l h0) h 99 [(0, vR x0), (1, vR x1), (2, vR x2), (3, vI x3), (4, vI x4), (5, vI x5), (6, vI x6), (7, vJ x7)] [vI s0] Q := by
  by_cases hc : s0 = (-2000000001)
  · skip
    obtain ⟨h', r, K, q⟩ := K2 hc
    exact ⟨h', r, j_ldc (v := (-2000000001)) dL_isRefused_99 ki_L_107 <| j_icmp_ne_f dL_isRefused_101 526 (by decide) hc K, q⟩
  · skip
    obtain ⟨h', r, K, q⟩ := K1 hc
    exact ⟨h', r, j_ldc (v := (-2000000001)) dL_isRefused_99 ki_L_107 <| j_icmp_ne_t (tgt := 526) dL_isRefused_101 (by decide) hc K, q⟩
theorem bL_isRefused_104 {h0 h : k_H} {Q : k_H → k_R → Prop} {x0 x1 x2 : Option Nat} {x3 x4 x5 x6 : Int32} {x7 : Int64} {P : k_H → Int32 → Prop} (c : k_cti (tL_act G l) [vR x0, vI 1, vI 0, vI x6, vI 0, vI 0, vI 0, vI 0] h P) (K : ∀ h1 v, P h1 v → k_X (jL_isRefused G l h0) h1 116 [(0, vR x0), (1, vR x1), (2, vR x2), (3, vI x3), (4, vI x4), (5, vI x5), (6, vI x6), (7, vJ x7)] [vI v] Q) : k_X (jL_isRefused G l h0) h 104 [(0, vR x0), (1, vR x1), (2, vR x2), (3, vI x3), (4, vI x4), (5, vI x5), (6, vI x6), (7, vJ x7)] [] Q := by
  obtain ⟨h1, v, c, p⟩ := c
  obtain ⟨h', r, K, q⟩ := K h1 v p
  exact ⟨h', r, j_aload_n dL_isRefused_104 rfl rfl <| j_iconst (v := 1) dL_isRefused_105 (by decide) <| j_iconst (v := 0) dL_isRefused_106 (by decide) <| j_iload dL_isRefused_107 rfl <| j_iconst (v := 0) dL_isRefused_109 (by decide) <| j_iconst (v := 0) dL_isRefused_110 (by decide) <| j_iconst (v := 0) dL_isRefused_111 (by decide) <| j_iconst (v := 0) dL_isRefused_112 (by decide) <| j_callW (v := some (vI v)) (as := [vR x0, vI 1, vI 0, vI x6, vI 0, vI 0, vI 0, vI 0]) dL_isRefused_113 kcw_L_149 rfl rfl (by decide) (Nat.le_of_ble_eq_true rfl) c K, q⟩
theorem bL_isRefused_116 {h0 h : k_H} {Q : k_H → k_R → Prop} {x0 x1 x2 : Option Nat} {x3 x4 x5 x6 s0 : Int32} {x7 : Int64} (K1 : ¬ (s0 = (-2000000002)) → k_X (jL_isRefused G l h0) h 526 [(0, vR x0), (1, vR x1), (2, vR x2), (3, vI x3), (4, vI x4), (5, vI x5), (6, vI x6), (7, vJ x7)] [] Q) (K2 : s0 = (-2000000002) → k_X (jL_isRefused G l h0) h 121 [(0, vR x0), (1, vR x1), (2, vR x2), (3, vI x3), (4, vI x4), (5, vI x5), (6, vI x6), (7, vJ x7)] [] Q) : k_X (jL_isRefused G l h0) h 116 [(0, vR x0), (1, vR x1), (2, vR x2), (3, vI x3), (4, vI x4), (5, vI x5), (6, vI x6), (7, vJ x7)] [vI s0] Q := by
  by_cases hc : s0 = (-2000000002)
  · skip
    obtain ⟨h', r, K, q⟩ := K2 hc
    exact ⟨h', r, j_ldc (v := (-2000000002)) dL_isRefused_116 ki_L_110 <| j_icmp_ne_f dL_isRefused_118 526 (by decide) hc K, q⟩
  · skip
    obtain ⟨h', r, K, q⟩ := K1 hc
    exact ⟨h', r, j_ldc (v := (-2000000002)) dL_isRefused_116 ki_L_110 <| j_icmp_ne_t (tgt := 526) dL_isRefused_118 (by decide) hc K, q⟩
theorem bL_isRefused_121 {h0 h : k_H} {Q : k_H → k_R → Prop} {x0 x1 x2 : Option Nat} {x3 x4 x5 x6 : Int32} {x7 : Int64} {P : k_H → Int32 → Prop} (c : k_cti (tL_act G l) [vR x0, vI 1, vI 0, vI 5, vI x6, vI 0, vI 0, vI 0] h P) (K : ∀ h1 v, P h1 v → k_X (jL_isRefused G l h0) h1 133 [(0, vR x0), (1, vR x1), (2, vR x2), (3, vI x3), (4, vI x4), (5, vI x5), (6, vI x6), (7, vJ x7)] [vI v] Q) : k_X (jL_isRefused G l h0) h 121 [(0, vR x0), (1, vR x1), (2, vR x2), (3, vI x3), (4, vI x4), (5, vI x5), (6, vI x6), (7, vJ x7)] [] Q := by
  obtain ⟨h1, v, c, p⟩ := c
  obtain ⟨h', r, K, q⟩ := K h1 v p
  exact ⟨h', r, j_aload_n dL_isRefused_121 rfl rfl <| j_iconst (v := 1) dL_isRefused_122 (by decide) <| j_iconst (v := 0) dL_isRefused_123 (by decide) <| j_iconst (v := 5) dL_isRefused_124 (by decide) <| j_iload dL_isRefused_125 rfl <| j_iconst (v := 0) dL_isRefused_127 (by decide) <| j_iconst (v := 0) dL_isRefused_128 (by decide) <| j_iconst (v := 0) dL_isRefused_129 (by decide) <| j_callW (v := some (vI v)) (as := [vR x0, vI 1, vI 0, vI 5, vI x6, vI 0, vI 0, vI 0]) dL_isRefused_130 kcw_L_149 rfl rfl (by decide) (Nat.le_of_ble_eq_true rfl) c K, q⟩
theorem bL_isRefused_133 {h0 h : k_H} {Q : k_H → k_R → Prop} {x0 x1 x2 : Option Nat} {x3 x4 x5 x6 s0 : Int32} {x7 : Int64} (K1 : ¬ (s0 = (-2000000002)) → k_X (jL_isRefused G l h0) h 526 [(0, vR x0), (1, vR x1), (2, vR x2), (3, vI x3), (4, vI x4), (5, vI x5), (6, vI x6), (7, vJ x7)] [] Q) (K2 : s0 = (-2000000002) → k_X (jL_isRefused G l h0) h 138 [(0, vR x0), (1, vR x1), (2, vR x2), (3, vI x3), (4, vI x4), (5, vI x5), (6, vI x6), (7, vJ x7)] [] Q) : k_X (jL_isRefused G l h0) h 133 [(0, vR x0), (1, vR x1), (2, vR x2), (3, vI x3), (4, vI x4), (5, vI x5), (6, vI x6), (7, vJ x7)] [vI s0] Q := by
  by_cases hc : s0 = (-2000000002)
  · skip
    obtain ⟨h', r, K, q⟩ := K2 hc
    exact ⟨h', r, j_ldc (v := (-2000000002)) dL_isRefused_133 ki_L_110 <| j_icmp_ne_f dL_isRefused_135 526 (by decide) hc K, q⟩
  · skip
    obtain ⟨h', r, K, q⟩ := K1 hc
    exact ⟨h', r, j_ldc (v := (-2000000002)) dL_isRefused_133 ki_L_110 <| j_icmp_ne_t (tgt := 526) dL_isRefused_135 (by decide) hc K, q⟩
theorem bL_isRefused_138 {h0 h : k_H} {Q : k_H → k_R → Prop} {x0 x1 x2 : Option Nat} {x3 x4 x5 x6 : Int32} {x7 : Int64} {P : k_H → Int32 → Prop} (c : k_cti (tL_act G l) [vR x0, vI 1, vI 0, vI 5, vI 10000, vI (x3 - (x3 / 30) * 30), vI 0, vI 0] h P) (K : ∀ h1 v, P h1 v → k_X (jL_isRefused G l h0) h1 154 [(0, vR x0), (1, vR x1), (2, vR x2), (3, vI x3), (4, vI x4), (5, vI x5), (6, vI x6), (7, vJ x7)] [vI v] Q) : k_X (jL_isRefused G l h0) h 138 [(0, vR x0), (1, vR x1), (2, vR x2), (3, vI x3), (4, vI x4), (5, vI x5), (6, vI x6), (7, vJ x7)] [] Q := by
  obtain ⟨h1, v, c, p⟩ := c
  obtain ⟨h', r, K, q⟩ := K h1 v p
  exact ⟨h', r, j_aload_n dL_isRefused_138 rfl rfl <| j_iconst (v := 1) dL_isRefused_139 (by decide) <| j_iconst (v := 0) dL_isRefused_140 (by decide) <| j_iconst (v := 5) dL_isRefused_141 (by decide) <| j_sipush (v := 10000) dL_isRefused_142 (by decide) <| j_iload_n dL_isRefused_145 rfl rfl <| j_bipush (v := 30) dL_isRefused_146 (by decide) <| j_irem dL_isRefused_148 (by decide) <| j_iconst (v := 0) dL_isRefused_149 (by decide) <| j_iconst (v := 0) dL_isRefused_150 (by decide) <| j_callW (v := some (vI v)) (as := [vR x0, vI 1, vI 0, vI 5, vI 10000, vI (x3 - (x3 / 30) * 30), vI 0, vI 0]) dL_isRefused_151 kcw_L_149 rfl rfl (by decide) (Nat.le_of_ble_eq_true rfl) c K, q⟩
theorem bL_isRefused_154 {h0 h : k_H} {Q : k_H → k_R → Prop} {x0 x1 x2 : Option Nat} {x3 x4 x5 x6 s0 : Int32} {x7 : Int64} (K1 : ¬ (s0 = (-2000000002)) → k_X (jL_isRefused G l h0) h 526 [(0, vR x0), (1, vR x1), (2, vR x2), (3, vI x3), (4, vI x4), (5, vI x5), (6, vI x6), (7, vJ x7)] [] Q) (K2 : s0 = (-2000000002) → k_X (jL_isRefused G l h0) h 159 [(0, vR x0), (1, vR x1), (2, vR x2), (3, vI x3), (4, vI x4), (5, vI x5), (6, vI x6), (7, vJ x7)] [] Q) : k_X (jL_isRefused G l h0) h 154 [(0, vR x0), (1, vR x1), (2, vR x2), (3, vI x3), (4, vI x4), (5, vI x5), (6, vI x6), (7, vJ x7)] [vI s0] Q := by
  by_cases hc : s0 = (-2000000002)
  · skip
    obtain ⟨h', r, K, q⟩ := K2 hc
    exact ⟨h', r, j_ldc (v := (-2000000002)) dL_isRefused_154 ki_L_110 <| j_icmp_ne_f dL_isRefused_156 526 (by decide) hc K, q⟩
  · skip
    obtain ⟨h', r, K, q⟩ := K1 hc
    exact ⟨h', r, j_ldc (v := (-2000000002)) dL_isRefused_154 ki_L_110 <| j_icmp_ne_t (tgt := 526) dL_isRefused_156 (by decide) hc K, q⟩
theorem bL_isRefused_159 {h0 h : k_H} {Q : k_H → k_R → Prop} {x0 x1 x2 : Option Nat} {x3 x4 x5 x6 : Int32} {x7 : Int64} {P : k_H → Int32 → Prop} (c : k_cti (tL_act G l) [vR x0, vI 1, vI 0, vI 10000, vI 10000, vI 10000, vI 0, vI 0] h P) (K : ∀ h1 v, P h1 v → k_X (jL_isRefused G l h0) h1 176 [(0, vR x0), (1, vR x1), (2, vR x2), (3, vI x3), (4, vI x4), (5, vI x5), (6, vI x6), (7, vJ x7)] [vI v] Q) : k_X (jL_isRefused G l h0) h 159 [(0, vR x0), (1, vR x1), (2, vR x2), (3, vI x3), (4, vI x4), (5, vI x5), (6, vI x6), (7, vJ x7)] [] Q := by
  obtain ⟨h1, v, c, p⟩ := c
  obtain ⟨h', r, K, q⟩ := K h1 v p
  exact ⟨h', r, j_aload_n dL_isRefused_159 rfl rfl <| j_iconst (v := 1) dL_isRefused_160 (by decide) <| j_iconst (v := 0) dL_isRefused_161 (by decide) <| j_sipush (v := 10000) dL_isRefused_162 (by decide) <| j_sipush (v := 10000) dL_isRefused_165 (by decide) <| j_sipush (v := 10000) dL_isRefused_168 (by decide) <| j_iconst (v := 0) dL_isRefused_171 (by decide) <| j_iconst (v := 0) dL_isRefused_172 (by decide) <| j_callW (v := some (vI v)) (as := [vR x0, vI 1, vI 0, vI 10000, vI 10000, vI 10000, vI 0, vI 0]) dL_isRefused_173 kcw_L_149 rfl rfl (by decide) (Nat.le_of_ble_eq_true rfl) c K, q⟩
theorem bL_isRefused_176 {h0 h : k_H} {Q : k_H → k_R → Prop} {x0 x1 x2 : Option Nat} {x3 x4 x5 x6 s0 : Int32} {x7 : Int64} (K1 : ¬ (s0 = (-2000000002)) → k_X (jL_isRefused G l h0) h 526 [(0, vR x0), (1, vR x1), (2, vR x2), (3, vI x3), (4, vI x4), (5, vI x5), (6, vI x6), (7, vJ x7)] [] Q) (K2 : s0 = (-2000000002) → k_X (jL_isRefused G l h0) h 181 [(0, vR x0), (1, vR x1), (2, vR x2), (3, vI x3), (4, vI x4), (5, vI x5), (6, vI x6), (7, vJ x7)] [] Q) : k_X (jL_isRefused G l h0) h 176 [(0, vR x0), (1, vR x1), (2, vR x2), (3, vI x3), (4, vI x4), (5, vI x5), (6, vI x6), (7, vJ x7)] [vI s0] Q := by
  by_cases hc : s0 = (-2000000002)
  · skip
    obtain ⟨h', r, K, q⟩ := K2 hc
    exact ⟨h', r, j_ldc (v := (-2000000002)) dL_isRefused_176 ki_L_110 <| j_icmp_ne_f dL_isRefused_178 526 (by decide) hc K, q⟩
  · skip
    obtain ⟨h', r, K, q⟩ := K1 hc
    exact ⟨h', r, j_ldc (v := (-2000000002)) dL_isRefused_176 ki_L_110 <| j_icmp_ne_t (tgt := 526) dL_isRefused_178 (by decide) hc K, q⟩
theorem bL_isRefused_181 {h0 h : k_H} {Q : k_H → k_R → Prop} {x0 x1 x2 : Option Nat} {x3 x4 x5 x6 : Int32} {x7 : Int64} {P : k_H → Int32 → Prop} (c : k_cti (tL_act G l) [vR x0, vI 1, vI 0, vI 5, vI 5, vI x6, vI 0, vI 0] h P) (K : ∀ h1 v, P h1 v → k_X (jL_isRefused G l h0) h1 193 [(0, vR x0), (1, vR x1), (2, vR x2), (3, vI x3), (4, vI x4), (5, vI x5), (6, vI x6), (7, vJ x7)] [vI v] Q) : k_X (jL_isRefused G l h0) h 181 [(0, vR x0), (1, vR x1), (2, vR x2), (3, vI x3), (4, vI x4), (5, vI x5), (6, vI x6), (7, vJ x7)] [] Q := by
  obtain ⟨h1, v, c, p⟩ := c
  obtain ⟨h', r, K, q⟩ := K h1 v p
  exact ⟨h', r, j_aload_n dL_isRefused_181 rfl rfl <| j_iconst (v := 1) dL_isRefused_182 (by decide) <| j_iconst (v := 0) dL_isRefused_183 (by decide) <| j_iconst (v := 5) dL_isRefused_184 (by decide) <| j_iconst (v := 5) dL_isRefused_185 (by decide) <| j_iload dL_isRefused_186 rfl <| j_iconst (v := 0) dL_isRefused_188 (by decide) <| j_iconst (v := 0) dL_isRefused_189 (by decide) <| j_callW (v := some (vI v)) (as := [vR x0, vI 1, vI 0, vI 5, vI 5, vI x6, vI 0, vI 0]) dL_isRefused_190 kcw_L_149 rfl rfl (by decide) (Nat.le_of_ble_eq_true rfl) c K, q⟩
theorem bL_isRefused_193 {h0 h : k_H} {Q : k_H → k_R → Prop} {x0 x1 x2 : Option Nat} {x3 x4 x5 x6 s0 : Int32} {x7 : Int64} (K1 : ¬ (s0 = (-2000000002)) → k_X (jL_isRefused G l h0) h 526 [(0, vR x0), (1, vR x1), (2, vR x2), (3, vI x3), (4, vI x4), (5, vI x5), (6, vI x6), (7, vJ x7)] [] Q) (K2 : s0 = (-2000000002) → k_X (jL_isRefused G l h0) h 198 [(0, vR x0), (1, vR x1), (2, vR x2), (3, vI x3), (4, vI x4), (5, vI x5), (6, vI x6), (7, vJ x7)] [] Q) : k_X (jL_isRefused G l h0) h 193 [(0, vR x0), (1, vR x1), (2, vR x2), (3, vI x3), (4, vI x4), (5, vI x5), (6, vI x6), (7, vJ x7)] [vI s0] Q := by
  by_cases hc : s0 = (-2000000002)
  · skip
    obtain ⟨h', r, K, q⟩ := K2 hc
    exact ⟨h', r, j_ldc (v := (-2000000002)) dL_isRefused_193 ki_L_110 <| j_icmp_ne_f dL_isRefused_195 526 (by decide) hc K, q⟩
  · skip
    obtain ⟨h', r, K, q⟩ := K1 hc
    exact ⟨h', r, j_ldc (v := (-2000000002)) dL_isRefused_193 ki_L_110 <| j_icmp_ne_t (tgt := 526) dL_isRefused_195 (by decide) hc K, q⟩
theorem bL_isRefused_198 {h0 h : k_H} {Q : k_H → k_R → Prop} {x0 x1 x2 : Option Nat} {x3 x4 x5 x6 : Int32} {x7 : Int64} {P : k_H → Int32 → Prop} (c : k_cti (tL_act G l) [vR x0, vI 2, vI x5, vI 5, vI 5, vI 0, vI 0, vI 0] h P) (K : ∀ h1 v, P h1 v → k_X (jL_isRefused G l h0) h1 210 [(0, vR x0), (1, vR x1), (2, vR x2), (3, vI x3), (4, vI x4), (5, vI x5), (6, vI x6), (7, vJ x7)] [vI v] Q) : k_X (jL_isRefused G l h0) h 198 [(0, vR x0), (1, vR x1), (2, vR x2), (3, vI x3), (4, vI x4), (5, vI x5), (6, vI x6), (7, vJ x7)] [] Q := by
  obtain ⟨h1, v, c, p⟩ := c
  obtain ⟨h', r, K, q⟩ := K h1 v p
  exact ⟨h', r, j_aload_n dL_isRefused_198 rfl rfl <| j_iconst (v := 2) dL_isRefused_199 (by decide) <| j_iload dL_isRefused_200 rfl <| j_iconst (v := 5) dL_isRefused_202 (by decide) <| j_iconst (v := 5) dL_isRefused_203 (by decide) <| j_iconst (v := 0) dL_isRefused_204 (by decide) <| j_iconst (v := 0) dL_isRefused_205 (by decide) <| j_iconst (v := 0) dL_isRefused_206 (by decide) <| j_callW (v := some (vI v)) (as := [vR x0, vI 2, vI x5, vI 5, vI 5, vI 0, vI 0, vI 0]) dL_isRefused_207 kcw_L_149 rfl rfl (by decide) (Nat.le_of_ble_eq_true rfl) c K, q⟩
theorem bL_isRefused_210 {h0 h : k_H} {Q : k_H → k_R → Prop} {x0 x1 x2 : Option Nat} {x3 x4 x5 x6 s0 : Int32} {x7 : Int64} (K1 : ¬ (s0 = (-2000000001)) → k_X (jL_isRefused G l h0) h 526 [(0, vR x0), (1, vR x1), (2, vR x2), (3, vI x3), (4, vI x4), (5, vI x5), (6, vI x6), (7, vJ x7)] [] Q) (K2 : s0 = (-2000000001) → k_X (jL_isRefused G l h0) h 215 [(0, vR x0), (1, vR x1), (2, vR x2), (3, vI x3), (4, vI x4), (5, vI x5), (6, vI x6), (7, vJ x7)] [] Q) : k_X (jL_isRefused G l h0) h 210 [(0, vR x0), (1, vR x1), (2, vR x2), (3, vI x3), (4, vI x4), (5, vI x5), (6, vI x6), (7, vJ x7)] [vI s0] Q := by
  by_cases hc : s0 = (-2000000001)
  · skip
    obtain ⟨h', r, K, q⟩ := K2 hc
    exact ⟨h', r, j_ldc (v := (-2000000001)) dL_isRefused_210 ki_L_107 <| j_icmp_ne_f dL_isRefused_212 526 (by decide) hc K, q⟩
  · skip
    obtain ⟨h', r, K, q⟩ := K1 hc
    exact ⟨h', r, j_ldc (v := (-2000000001)) dL_isRefused_210 ki_L_107 <| j_icmp_ne_t (tgt := 526) dL_isRefused_212 (by decide) hc K, q⟩
theorem bL_isRefused_215 {h0 h : k_H} {Q : k_H → k_R → Prop} {x0 x1 x2 : Option Nat} {x3 x4 x5 x6 : Int32} {x7 : Int64} {P : k_H → Int32 → Prop} (c : k_cti (tL_act G l) [vR x0, vI 2, vI 0, vI 10000, vI (x3 - (x3 / 30) * 30), vI 0, vI 0, vI 0] h P) (K : ∀ h1 v, P h1 v → k_X (jL_isRefused G l h0) h1 231 [(0, vR x0), (1, vR x1), (2, vR x2), (3, vI x3), (4, vI x4), (5, vI x5), (6, vI x6), (7, vJ x7)] [vI v] Q) : k_X (jL_isRefused G l h0) h 215 [(0, vR x0), (1, vR x1), (2, vR x2), (3, vI x3), (4, vI x4), (5, vI x5), (6, vI x6), (7, vJ x7)] [] Q := by
  obtain ⟨h1, v, c, p⟩ := c
  obtain ⟨h', r, K, q⟩ := K h1 v p
  exact ⟨h', r, j_aload_n dL_isRefused_215 rfl rfl <| j_iconst (v := 2) dL_isRefused_216 (by decide) <| j_iconst (v := 0) dL_isRefused_217 (by decide) <| j_sipush (v := 10000) dL_isRefused_218 (by decide) <| j_iload_n dL_isRefused_221 rfl rfl <| j_bipush (v := 30) dL_isRefused_222 (by decide) <| j_irem dL_isRefused_224 (by decide) <| j_iconst (v := 0) dL_isRefused_225 (by decide) <| j_iconst (v := 0) dL_isRefused_226 (by decide) <| j_iconst (v := 0) dL_isRefused_227 (by decide) <| j_callW (v := some (vI v)) (as := [vR x0, vI 2, vI 0, vI 10000, vI (x3 - (x3 / 30) * 30), vI 0, vI 0, vI 0]) dL_isRefused_228 kcw_L_149 rfl rfl (by decide) (Nat.le_of_ble_eq_true rfl) c K, q⟩
theorem bL_isRefused_231 {h0 h : k_H} {Q : k_H → k_R → Prop} {x0 x1 x2 : Option Nat} {x3 x4 x5 x6 s0 : Int32} {x7 : Int64} (K1 : ¬ (s0 = (-2000000002)) → k_X (jL_isRefused G l h0) h 526 [(0, vR x0), (1, vR x1), (2, vR x2), (3, vI x3), (4, vI x4), (5, vI x5), (6, vI x6), (7, vJ x7)] [] Q) (K2 : s0 = (-2000000002) → k_X (jL_isRefused G l h0) h 236 [(0, vR x0), (1, vR x1), (2, vR x2), (3, vI x3), (4, vI x4), (5, vI x5), (6, vI x6), (7, vJ x7)] [] Q) : k_X (jL_isRefused G l h0) h 231 [(0, vR x0), (1, vR x1), (2, vR x2), (3, vI x3), (4, vI x4), (5, vI x5), (6, vI x6), (7, vJ x7)] [vI s0] Q := by
  by_cases hc : s0 = (-2000000002)
  · skip
    obtain ⟨h', r, K, q⟩ := K2 hc
    exact ⟨h', r, j_ldc (v := (-2000000002)) dL_isRefused_231 ki_L_110 <| j_icmp_ne_f dL_isRefused_233 526 (by decide) hc K, q⟩
  · skip
    obtain ⟨h', r, K, q⟩ := K1 hc
    exact ⟨h', r, j_ldc (v := (-2000000002)) dL_isRefused_231 ki_L_110 <| j_icmp_ne_t (tgt := 526) dL_isRefused_233 (by decide) hc K, q⟩
theorem bL_isRefused_236 {h0 h : k_H} {Q : k_H → k_R → Prop} {x0 x1 x2 : Option Nat} {x3 x4 x5 x6 : Int32} {x7 : Int64} {P : k_H → Int32 → Prop} (c : k_cti (tL_act G l) [vR x0, vI 2, vI 0, vI x6, vI 10000, vI 0, vI 0, vI 0] h P) (K : ∀ h1 v, P h1 v → k_X (jL_isRefused G l h0) h1 250 [(0, vR x0), (1, vR x1), (2, vR x2), (3, vI x3), (4, vI x4), (5, vI x5), (6, vI x6), (7, vJ x7)] [vI v] Q) : k_X (jL_isRefused G l h0) h 236 [(0, vR x0), (1, vR x1), (2, vR x2), (3, vI x3), (4, vI x4), (5, vI x5), (6, vI x6), (7, vJ x7)] [] Q := by
  obtain ⟨h1, v, c, p⟩ := c
  obtain ⟨h', r, K, q⟩ := K h1 v p
  exact ⟨h', r, j_aload_n dL_isRefused_236 rfl rfl <| j_iconst (v := 2) dL_isRefused_237 (by decide) <| j_iconst (v := 0) dL_isRefused_238 (by decide) <| j_iload dL_isRefused_239 rfl <| j_sipush (v := 10000) dL_isRefused_241 (by decide) <| j_iconst (v := 0) dL_isRefused_244 (by decide) <| j_iconst (v := 0) dL_isRefused_245 (by decide) <| j_iconst (v := 0) dL_isRefused_246 (by decide) <| j_callW (v := some (vI v)) (as := [vR x0, vI 2, vI 0, vI x6, vI 10000, vI 0, vI 0, vI 0]) dL_isRefused_247 kcw_L_149 rfl rfl (by decide) (Nat.le_of_ble_eq_true rfl) c K, q⟩
theorem bL_isRefused_250 {h0 h : k_H} {Q : k_H → k_R → Prop} {x0 x1 x2 : Option Nat} {x3 x4 x5 x6 s0 : Int32} {x7 : Int64} (K1 : ¬ (s0 = (-2000000002)) → k_X (jL_isRefused G l h0) h 526 [(0, vR x0), (1, vR x1), (2, vR x2), (3, vI x3), (4, vI x4), (5, vI x5), (6, vI x6), (7, vJ x7)] [] Q) (K2 : s0 = (-2000000002) → k_X (jL_isRefused G l h0) h 255 [(0, vR x0), (1, vR x1), (2, vR x2), (3, vI x3), (4, vI x4), (5, vI x5), (6, vI x6), (7, vJ x7)] [] Q) : k_X (jL_isRefused G l h0) h 250 [(0, vR x0), (1, vR x1), (2, vR x2), (3, vI x3), (4, vI x4), (5, vI x5), (6, vI x6), (7, vJ x7)] [vI s0] Q := by
  by_cases hc : s0 = (-2000000002)
  · skip
    obtain ⟨h', r, K, q⟩ := K2 hc
    exact ⟨h', r, j_ldc (v := (-2000000002)) dL_isRefused_250 ki_L_110 <| j_icmp_ne_f dL_isRefused_252 526 (by decide) hc K, q⟩
  · skip
    obtain ⟨h', r, K, q⟩ := K1 hc
    exact ⟨h', r, j_ldc (v := (-2000000002)) dL_isRefused_250 ki_L_110 <| j_icmp_ne_t (tgt := 526) dL_isRefused_252 (by decide) hc K, q⟩
theorem bL_isRefused_255 {h0 h : k_H} {Q : k_H → k_R → Prop} {x0 x1 x2 : Option Nat} {x3 x4 x5 x6 : Int32} {x7 : Int64} {P : k_H → Int32 → Prop} (c : k_cti (tL_act G l) [vR x0, vI 3, vI 0, vI 5, vI 5, vI ((-1) - (x3 - (x3 / 30) * 30)), vI 9, vI 0] h P) (K : ∀ h1 v, P h1 v → k_X (jL_isRefused G l h0) h1 272 [(0, vR x0), (1, vR x1), (2, vR x2), (3, vI x3), (4, vI x4), (5, vI x5), (6, vI x6), (7, vJ x7)] [vI v] Q) : k_X (jL_isRefused G l h0) h 255 [(0, vR x0), (1, vR x1), (2, vR x2), (3, vI x3), (4, vI x4), (5, vI x5), (6, vI x6), (7, vJ x7)] [] Q := by
  obtain ⟨h1, v, c, p⟩ := c
  obtain ⟨h', r, K, q⟩ := K h1 v p
  exact ⟨h', r, j_aload_n dL_isRefused_255 rfl rfl <| j_iconst (v := 3) dL_isRefused_256 (by decide) <| j_iconst (v := 0) dL_isRefused_257 (by decide) <| j_iconst (v := 5) dL_isRefused_258 (by decide) <| j_iconst (v := 5) dL_isRefused_259 (by decide) <| j_iconst (v := (-1)) dL_isRefused_260 (by decide) <| j_iload_n dL_isRefused_261 rfl rfl <| j_bipush (v := 30) dL_isRefused_262 (by decide) <| j_irem dL_isRefused_264 (by decide) <| j_isub dL_isRefused_265 <| j_bipush (v := 9) dL_isRefused_266 (by decide) <| j_iconst (v := 0) dL_isRefused_268 (by decide) <| j_callW (v := some (vI v)) (as := [vR x0, vI 3, vI 0, vI 5, vI 5, vI ((-1) - (x3 - (x3 / 30) * 30)), vI 9, vI 0]) dL_isRefused_269 kcw_L_149 rfl rfl (by decide) (Nat.le_of_ble_eq_true rfl) c K, q⟩
theorem bL_isRefused_272 {h0 h : k_H} {Q : k_H → k_R → Prop} {x0 x1 x2 : Option Nat} {x3 x4 x5 x6 s0 : Int32} {x7 : Int64} (K1 : ¬ (s0 = (-2000000001)) → k_X (jL_isRefused G l h0) h 526 [(0, vR x0), (1, vR x1), (2, vR x2), (3, vI x3), (4, vI x4), (5, vI x5), (6, vI x6), (7, vJ x7)] [] Q) (K2 : s0 = (-2000000001) → k_X (jL_isRefused G l h0) h 277 [(0, vR x0), (1, vR x1), (2, vR x2), (3, vI x3), (4, vI x4), (5, vI x5), (6, vI x6), (7, vJ x7)] [] Q) : k_X (jL_isRefused G l h0) h 272 [(0, vR x0), (1, vR x1), (2, vR x2), (3, vI x3), (4, vI x4), (5, vI x5), (6, vI x6), (7, vJ x7)] [vI s0] Q := by
  by_cases hc : s0 = (-2000000001)
  · skip
    obtain ⟨h', r, K, q⟩ := K2 hc
    exact ⟨h', r, j_ldc (v := (-2000000001)) dL_isRefused_272 ki_L_107 <| j_icmp_ne_f dL_isRefused_274 526 (by decide) hc K, q⟩
  · skip
    obtain ⟨h', r, K, q⟩ := K1 hc
    exact ⟨h', r, j_ldc (v := (-2000000001)) dL_isRefused_272 ki_L_107 <| j_icmp_ne_t (tgt := 526) dL_isRefused_274 (by decide) hc K, q⟩
theorem bL_isRefused_277 {h0 h : k_H} {Q : k_H → k_R → Prop} {x0 x1 x2 : Option Nat} {x3 x4 x5 x6 : Int32} {x7 : Int64} (K1 : x4 = 0 → k_X (jL_isRefused G l h0) h 292 [(0, vR x0), (1, vR x1), (2, vR x2), (3, vI x3), (4, vI x4), (5, vI x5), (6, vI x6), (7, vJ x7)] [vI 0, vI 5, vI 5, vI 0, vI 3, vR x0] Q) (K2 : ¬ (x4 = 0) → k_X (jL_isRefused G l h0) h 288 [(0, vR x0), (1, vR x1), (2, vR x2), (3, vI x3), (4, vI x4), (5, vI x5), (6, vI x6), (7, vJ x7)] [vI 0, vI 5, vI 5, vI 0, vI 3, vR x0] Q) : k_X (jL_isRefused G l h0) h 277 [(0, vR x0), (1, vR x1), (2, vR x2), (3, vI x3), (4, vI x4), (5, vI x5), (6, vI x6), (7, vJ x7)] [] Q := by
  by_cases hc : x4 = 0
  · skip
    obtain ⟨h', r, K, q⟩ := K1 hc
    exact ⟨h', r, j_aload_n dL_isRefused_277 rfl rfl <| j_iconst (v := 3) dL_isRefused_278 (by decide) <| j_iconst (v := 0) dL_isRefused_279 (by decide) <| j_iconst (v := 5) dL_isRefused_280 (by decide) <| j_iconst (v := 5) dL_isRefused_281 (by decide) <| j_iconst (v := 0) dL_isRefused_282 (by decide) <| j_iload dL_isRefused_283 rfl <| j_if_eq_t (tgt := 292) dL_isRefused_285 (by decide) hc K, q⟩
  · skip
    obtain ⟨h', r, K, q⟩ := K2 hc
    exact ⟨h', r, j_aload_n dL_isRefused_277 rfl rfl <| j_iconst (v := 3) dL_isRefused_278 (by decide) <| j_iconst (v := 0) dL_isRefused_279 (by decide) <| j_iconst (v := 5) dL_isRefused_280 (by decide) <| j_iconst (v := 5) dL_isRefused_281 (by decide) <| j_iconst (v := 0) dL_isRefused_282 (by decide) <| j_iload dL_isRefused_283 rfl <| j_if_eq_f dL_isRefused_285 292 (by decide) hc K, q⟩
theorem bL_isRefused_288 {h0 h : k_H} {Q : k_H → k_R → Prop} {x0 x1 x2 s0 : Option Nat} {x3 x4 x5 x6 s1 s2 s3 s4 s5 : Int32} {x7 : Int64} (K : k_X (jL_isRefused G l h0) h 298 [(0, vR x0), (1, vR x1), (2, vR x2), (3, vI x3), (4, vI x4), (5, vI x5), (6, vI x6), (7, vJ x7)] [vI (-1), vI s5, vI s4, vI s3, vI s2, vI s1, vR s0] Q) : k_X (jL_isRefused G l h0) h 288 [(0, vR x0), (1, vR x1), (2, vR x2), (3, vI x3), (4, vI x4), (5, vI x5), (6, vI x6), (7, vJ x7)] [vI s5, vI s4, vI s3, vI s2, vI s1, vR s0] Q := by
  obtain ⟨h', r, K, q⟩ := K
  exact ⟨h', r, j_iconst (v := (-1)) dL_isRefused_288 (by decide) <| j_goto (tgt := 298) dL_isRefused_289 (by decide) <| K, q⟩
theorem bL_isRefused_292 {h0 h : k_H} {Q : k_H → k_R → Prop} {x0 x1 x2 s0 : Option Nat} {x3 x4 x5 x6 s1 s2 s3 s4 s5 : Int32} {x7 : Int64} (K : k_X (jL_isRefused G l h0) h 298 [(0, vR x0), (1, vR x1), (2, vR x2), (3, vI x3), (4, vI x4), (5, vI x5), (6, vI x6), (7, vJ x7)] [vI (3 + (x3 - (x3 / 30) * 30)), vI s5, vI s4, vI s3, vI s2, vI s1, vR s0] Q) : k_X (jL_isRefused G l h0) h 292 [(0, vR x0), (1, vR x1), (2, vR x2), (3, vI x3), (4, vI x4), (5, vI x5), (6, vI x6), (7, vJ x7)] [vI s5, vI s4, vI s3, vI s2, vI s1, vR s0] Q := by
  obtain ⟨h', r, K, q⟩ := K
  exact ⟨h', r, j_iconst (v := 3) dL_isRefused_292 (by decide) <| j_iload_n dL_isRefused_293 rfl rfl <| j_bipush (v := 30) dL_isRefused_294 (by decide) <| j_irem dL_isRefused_296 (by decide) <| j_iadd dL_isRefused_297 <| K, q⟩
theorem bL_isRefused_298 {h0 h : k_H} {Q : k_H → k_R → Prop} {x0 x1 x2 s0 : Option Nat} {x3 x4 x5 x6 s1 s2 s3 s4 s5 s6 : Int32} {x7 : Int64} {P : k_H → Int32 → Prop} (c : k_cti (tL_act G l) [vR s0, vI s1, vI s2, vI s3, vI s4, vI s5, vI s6, vI 0] h P) (K : ∀ h1 v, P h1 v → k_X (jL_isRefused G l h0) h1 302 [(0, vR x0), (1, vR x1), (2, vR x2), (3, vI x3), (4, vI x4), (5, vI x5), (6, vI x6), (7, vJ x7)] [vI v] Q) : k_X (jL_isRefused G l h0) h 298 [(0, vR x0), (1, vR x1), (2, vR x2), (3, vI x3), (4, vI x4), (5, vI x5), (6, vI x6), (7, vJ x7)] [vI s6, vI s5, vI s4, vI s3, vI s2, vI s1, vR s0] Q := by
  obtain ⟨h1, v, c, p⟩ := c
  obtain ⟨h', r, K, q⟩ := K h1 v p
  exact ⟨h', r, j_iconst (v := 0) dL_isRefused_298 (by decide) <| j_callW (v := some (vI v)) (as := [vR s0, vI s1, vI s2, vI s3, vI s4, vI s5, vI s6, vI 0]) dL_isRefused_299 kcw_L_149 rfl rfl (by decide) (Nat.le_of_ble_eq_true rfl) c K, q⟩
theorem bL_isRefused_302 {h0 h : k_H} {Q : k_H → k_R → Prop} {x0 x1 x2 : Option Nat} {x3 x4 x5 x6 s0 : Int32} {x7 : Int64} (K1 : ¬ (s0 = (-2000000002)) → k_X (jL_isRefused G l h0) h 526 [(0, vR x0), (1, vR x1), (2, vR x2), (3, vI x3), (4, vI x4), (5, vI x5), (6, vI x6), (7, vJ x7)] [] Q) (K2 : s0 = (-2000000002) → k_X (jL_isRefused G l h0) h 307 [(0, vR x0), (1, vR x1), (2, vR x2), (3, vI x3), (4, vI x4), (5, vI x5), (6, vI x6), (7, vJ x7)] [] Q) : k_X (jL_isRefused G l h0) h 302 [(0, vR x0), (1, vR x1), (2, vR x2), (3, vI x3), (4, vI x4), (5, vI x5), (6, vI x6), (7, vJ x7)] [vI s0] Q := by
  by_cases hc : s0 = (-2000000002)
  · skip
    obtain ⟨h', r, K, q⟩ := K2 hc
    exact ⟨h', r, j_ldc (v := (-2000000002)) dL_isRefused_302 ki_L_110 <| j_icmp_ne_f dL_isRefused_304 526 (by decide) hc K, q⟩
  · skip
    obtain ⟨h', r, K, q⟩ := K1 hc
    exact ⟨h', r, j_ldc (v := (-2000000002)) dL_isRefused_302 ki_L_110 <| j_icmp_ne_t (tgt := 526) dL_isRefused_304 (by decide) hc K, q⟩
theorem bL_isRefused_307 {h0 h : k_H} {Q : k_H → k_R → Prop} {x0 x1 x2 : Option Nat} {x3 x4 x5 x6 : Int32} {x7 : Int64} {P : k_H → Int32 → Prop} (c : k_cti (tL_act G l) [vR x0, vI 4, vI x5, vI 9, vI 5, vI 5, vI 5, vI 0] h P) (K : ∀ h1 v, P h1 v → k_X (jL_isRefused G l h0) h1 320 [(0, vR x0), (1, vR x1), (2, vR x2), (3, vI x3), (4, vI x4), (5, vI x5), (6, vI x6), (7, vJ x7)] [vI v] Q) : k_X (jL_isRefused G l h0) h 307 [(0, vR x0), (1, vR x1), (2, vR x2), (3, vI x3), (4, vI x4), (5, vI x5), (6, vI x6), (7, vJ x7)] [] Q := by
  obtain ⟨h1, v, c, p⟩ := c
  obtain ⟨h', r, K, q⟩ := K h1 v p
  exact ⟨h', r, j_aload_n dL_isRefused_307 rfl rfl <| j_iconst (v := 4) dL_isRefused_308 (by decide) <| j_iload dL_isRefused_309 rfl <| j_bipush (v := 9) dL_isRefused_311 (by decide) <| j_iconst (v := 5) dL_isRefused_313 (by decide) <| j_iconst (v := 5) dL_isRefused_314 (by decide) <| j_iconst (v := 5) dL_isRefused_315 (by decide) <| j_iconst (v := 0) dL_isRefused_316 (by decide) <| j_callW (v := some (vI v)) (as := [vR x0, vI 4, vI x5, vI 9, vI 5, vI 5, vI 5, vI 0]) dL_isRefused_317 kcw_L_149 rfl rfl (by decide) (Nat.le_of_ble_eq_true rfl) c K, q⟩
theorem bL_isRefused_320 {h0 h : k_H} {Q : k_H → k_R → Prop} {x0 x1 x2 : Option Nat} {x3 x4 x5 x6 s0 : Int32} {x7 : Int64} (K1 : ¬ (s0 = (-2000000001)) → k_X (jL_isRefused G l h0) h 526 [(0, vR x0), (1, vR x1), (2, vR x2), (3, vI x3), (4, vI x4), (5, vI x5), (6, vI x6), (7, vJ x7)] [] Q) (K2 : s0 = (-2000000001) → k_X (jL_isRefused G l h0) h 325 [(0, vR x0), (1, vR x1), (2, vR x2), (3, vI x3), (4, vI x4), (5, vI x5), (6, vI x6), (7, vJ x7)] [] Q) : k_X (jL_isRefused G l h0) h 320 [(0, vR x0), (1, vR x1), (2, vR x2), (3, vI x3), (4, vI x4), (5, vI x5), (6, vI x6), (7, vJ x7)] [vI s0] Q := by
  by_cases hc : s0 = (-2000000001)
  · skip
    obtain ⟨h', r, K, q⟩ := K2 hc
    exact ⟨h', r, j_ldc (v := (-2000000001)) dL_isRefused_320 ki_L_107 <| j_icmp_ne_f dL_isRefused_322 526 (by decide) hc K, q⟩
  · skip
    obtain ⟨h', r, K, q⟩ := K1 hc
    exact ⟨h', r, j_ldc (v := (-2000000001)) dL_isRefused_320 ki_L_107 <| j_icmp_ne_t (tgt := 526) dL_isRefused_322 (by decide) hc K, q⟩
theorem bL_isRefused_325 {h0 h : k_H} {Q : k_H → k_R → Prop} {x0 x1 x2 : Option Nat} {x3 x4 x5 x6 : Int32} {x7 : Int64} (K1 : x4 = 0 → k_X (jL_isRefused G l h0) h 342 [(0, vR x0), (1, vR x1), (2, vR x2), (3, vI x3), (4, vI x4), (5, vI x5), (6, vI x6), (7, vJ x7)] [vI 0, vI 4, vR x0] Q) (K2 : ¬ (x4 = 0) → k_X (jL_isRefused G l h0) h 333 [(0, vR x0), (1, vR x1), (2, vR x2), (3, vI x3), (4, vI x4), (5, vI x5), (6, vI x6), (7, vJ x7)] [vI 0, vI 4, vR x0] Q) : k_X (jL_isRefused G l h0) h 325 [(0, vR x0), (1, vR x1), (2, vR x2), (3, vI x3), (4, vI x4), (5, vI x5), (6, vI x6), (7, vJ x7)] [] Q := by
  by_cases hc : x4 = 0
  · skip
    obtain ⟨h', r, K, q⟩ := K1 hc
    exact ⟨h', r, j_aload_n dL_isRefused_325 rfl rfl <| j_iconst (v := 4) dL_isRefused_326 (by decide) <| j_iconst (v := 0) dL_isRefused_327 (by decide) <| j_iload dL_isRefused_328 rfl <| j_if_eq_t (tgt := 342) dL_isRefused_330 (by decide) hc K, q⟩
  · skip
    obtain ⟨h', r, K, q⟩ := K2 hc
    exact ⟨h', r, j_aload_n dL_isRefused_325 rfl rfl <| j_iconst (v := 4) dL_isRefused_326 (by decide) <| j_iconst (v := 0) dL_isRefused_327 (by decide) <| j_iload dL_isRefused_328 rfl <| j_if_eq_f dL_isRefused_330 342 (by decide) hc K, q⟩
theorem bL_isRefused_333 {h0 h : k_H} {Q : k_H → k_R → Prop} {x0 x1 x2 s0 : Option Nat} {x3 x4 x5 x6 s1 s2 : Int32} {x7 : Int64} (K : k_X (jL_isRefused G l h0) h 344 [(0, vR x0), (1, vR x1), (2, vR x2), (3, vI x3), (4, vI x4), (5, vI x5), (6, vI x6), (7, vJ x7)] [vI ((-1) - (x3 - (x3 / 30) * 30)), vI s2, vI s1, vR s0] Q) : k_X (jL_isRefused G l h0) h 333 [(0, vR x0), (1, vR x1), (2, vR x2), (3, vI x3), (4, vI x4), (5, vI x5), (6, vI x6), (7, vJ x7)] [vI s2, vI s1, vR s0] Q := by
  obtain ⟨h', r, K, q⟩ := K
  exact ⟨h', r, j_iconst (v := (-1)) dL_isRefused_333 (by decide) <| j_iload_n dL_isRefused_334 rfl rfl <| j_bipush (v := 30) dL_isRefused_335 (by decide) <| j_irem dL_isRefused_337 (by decide) <| j_isub dL_isRefused_338 <| j_goto (tgt := 344) dL_isRefused_339 (by decide) <| K, q⟩
theorem bL_isRefused_342 {h0 h : k_H} {Q : k_H → k_R → Prop} {x0 x1 x2 s0 : Option Nat} {x3 x4 x5 x6 s1 s2 : Int32} {x7 : Int64} (K : k_X (jL_isRefused G l h0) h 344 [(0, vR x0), (1, vR x1), (2, vR x2), (3, vI x3), (4, vI x4), (5, vI x5), (6, vI x6), (7, vJ x7)] [vI 7, vI s2, vI s1, vR s0] Q) : k_X (jL_isRefused G l h0) h 342 [(0, vR x0), (1, vR x1), (2, vR x2), (3, vI x3), (4, vI x4), (5, vI x5), (6, vI x6), (7, vJ x7)] [vI s2, vI s1, vR s0] Q := by
  obtain ⟨h', r, K, q⟩ := K
  exact ⟨h', r, j_bipush (v := 7) dL_isRefused_342 (by decide) <| K, q⟩
theorem bL_isRefused_344 {h0 h : k_H} {Q : k_H → k_R → Prop} {x0 x1 x2 s0 : Option Nat} {x3 x4 x5 x6 s1 s2 s3 : Int32} {x7 : Int64} {P : k_H → Int32 → Prop} (c : k_cti (tL_act G l) [vR s0, vI s1, vI s2, vI s3, vI 5, vI 5, vI 5, vI 0] h P) (K : ∀ h1 v, P h1 v → k_X (jL_isRefused G l h0) h1 351 [(0, vR x0), (1, vR x1), (2, vR x2), (3, vI x3), (4, vI x4), (5, vI x5), (6, vI x6), (7, vJ x7)] [vI v] Q) : k_X (jL_isRefused G l h0) h 344 [(0, vR x0), (1, vR x1), (2, vR x2), (3, vI x3), (4, vI x4), (5, vI x5), (6, vI x6), (7, vJ x7)] [vI s3, vI s2, vI s1, vR s0] Q := by
  obtain ⟨h1, v, c, p⟩ := c
  obtain ⟨h', r, K, q⟩ := K h1 v p
  exact ⟨h', r, j_iconst (v := 5) dL_isRefused_344 (by decide) <| j_iconst (v := 5) dL_isRefused_345 (by decide) <| j_iconst (v := 5) dL_isRefused_346 (by decide) <| j_iconst (v := 0) dL_isRefused_347 (by decide) <| j_callW (v := some (vI v)) (as := [vR s0, vI s1, vI s2, vI s3, vI 5, vI 5, vI 5, vI 0]) dL_isRefused_348 kcw_L_149 rfl rfl (by decide) (Nat.le_of_ble_eq_true rfl) c K, q⟩
theorem bL_isRefused_351 {h0 h : k_H} {Q : k_H → k_R → Prop} {x0 x1 x2 : Option Nat} {x3 x4 x5 x6 s0 : Int32} {x7 : Int64} (K1 : ¬ (s0 = (-2000000002)) → k_X (jL_isRefused G l h0) h 526 [(0, vR x0), (1, vR x1), (2, vR x2), (3, vI x3), (4, vI x4), (5, vI x5), (6, vI x6), (7, vJ x7)] [] Q) (K2 : s0 = (-2000000002) → k_X (jL_isRefused G l h0) h 356 [(0, vR x0), (1, vR x1), (2, vR x2), (3, vI x3), (4, vI x4), (5, vI x5), (6, vI x6), (7, vJ x7)] [] Q) : k_X (jL_isRefused G l h0) h 351 [(0, vR x0), (1, vR x1), (2, vR x2), (3, vI x3), (4, vI x4), (5, vI x5), (6, vI x6), (7, vJ x7)] [vI s0] Q := by
  by_cases hc : s0 = (-2000000002)
  · skip
    obtain ⟨h', r, K, q⟩ := K2 hc
    exact ⟨h', r, j_ldc (v := (-2000000002)) dL_isRefused_351 ki_L_110 <| j_icmp_ne_f dL_isRefused_353 526 (by decide) hc K, q⟩
  · skip
    obtain ⟨h', r, K, q⟩ := K1 hc
    exact ⟨h', r, j_ldc (v := (-2000000002)) dL_isRefused_351 ki_L_110 <| j_icmp_ne_t (tgt := 526) dL_isRefused_353 (by decide) hc K, q⟩
theorem bL_isRefused_356 {h0 h : k_H} {Q : k_H → k_R → Prop} {x0 x1 x2 : Option Nat} {x3 x4 x5 x6 : Int32} {x7 : Int64} (K1 : x4 = 0 → k_X (jL_isRefused G l h0) h 373 [(0, vR x0), (1, vR x1), (2, vR x2), (3, vI x3), (4, vI x4), (5, vI x5), (6, vI x6), (7, vJ x7)] [vI 5, vI 5, vI 5, vI 0, vI 0, vI 4, vR x0] Q) (K2 : ¬ (x4 = 0) → k_X (jL_isRefused G l h0) h 368 [(0, vR x0), (1, vR x1), (2, vR x2), (3, vI x3), (4, vI x4), (5, vI x5), (6, vI x6), (7, vJ x7)] [vI 5, vI 5, vI 5, vI 0, vI 0, vI 4, vR x0] Q) : k_X (jL_isRefused G l h0) h 356 [(0, vR x0), (1, vR x1), (2, vR x2), (3, vI x3), (4, vI x4), (5, vI x5), (6, vI x6), (7, vJ x7)] [] Q := by
  by_cases hc : x4 = 0
  · skip
    obtain ⟨h', r, K, q⟩ := K1 hc
    exact ⟨h', r, j_aload_n dL_isRefused_356 rfl rfl <| j_iconst (v := 4) dL_isRefused_357 (by decide) <| j_iconst (v := 0) dL_isRefused_358 (by decide) <| j_iconst (v := 0) dL_isRefused_359 (by decide) <| j_iconst (v := 5) dL_isRefused_360 (by decide) <| j_iconst (v := 5) dL_isRefused_361 (by decide) <| j_iconst (v := 5) dL_isRefused_362 (by decide) <| j_iload dL_isRefused_363 rfl <| j_if_eq_t (tgt := 373) dL_isRefused_365 (by decide) hc K, q⟩
  · skip
    obtain ⟨h', r, K, q⟩ := K2 hc
    exact ⟨h', r, j_aload_n dL_isRefused_356 rfl rfl <| j_iconst (v := 4) dL_isRefused_357 (by decide) <| j_iconst (v := 0) dL_isRefused_358 (by decide) <| j_iconst (v := 0) dL_isRefused_359 (by decide) <| j_iconst (v := 5) dL_isRefused_360 (by decide) <| j_iconst (v := 5) dL_isRefused_361 (by decide) <| j_iconst (v := 5) dL_isRefused_362 (by decide) <| j_iload dL_isRefused_363 rfl <| j_if_eq_f dL_isRefused_365 373 (by decide) hc K, q⟩
theorem bL_isRefused_368 {h0 h : k_H} {Q : k_H → k_R → Prop} {x0 x1 x2 s0 : Option Nat} {x3 x4 x5 x6 s1 s2 s3 s4 s5 s6 : Int32} {x7 : Int64} (K : k_X (jL_isRefused G l h0) h 380 [(0, vR x0), (1, vR x1), (2, vR x2), (3, vI x3), (4, vI x4), (5, vI x5), (6, vI x6), (7, vJ x7)] [vI (-1000001), vI s6, vI s5, vI s4, vI s3, vI s2, vI s1, vR s0] Q) : k_X (jL_isRefused G l h0) h 368 [(0, vR x0), (1, vR x1), (2, vR x2), (3, vI x3), (4, vI x4), (5, vI x5), (6, vI x6), (7, vJ x7)] [vI s6, vI s5, vI s4, vI s3, vI s2, vI s1, vR s0] Q := by
  obtain ⟨h', r, K, q⟩ := K
  exact ⟨h', r, j_ldc (v := (-1000001)) dL_isRefused_368 ki_L_153 <| j_goto (tgt := 380) dL_isRefused_370 (by decide) <| K, q⟩
theorem bL_isRefused_373 {h0 h : k_H} {Q : k_H → k_R → Prop} {x0 x1 x2 s0 : Option Nat} {x3 x4 x5 x6 s1 s2 s3 s4 s5 s6 : Int32} {x7 : Int64} (K : k_X (jL_isRefused G l h0) h 380 [(0, vR x0), (1, vR x1), (2, vR x2), (3, vI x3), (4, vI x4), (5, vI x5), (6, vI x6), (7, vJ x7)] [vI (1000001 + (x3 - (x3 / 30) * 30)), vI s6, vI s5, vI s4, vI s3, vI s2, vI s1, vR s0] Q) : k_X (jL_isRefused G l h0) h 373 [(0, vR x0), (1, vR x1), (2, vR x2), (3, vI x3), (4, vI x4), (5, vI x5), (6, vI x6), (7, vJ x7)] [vI s6, vI s5, vI s4, vI s3, vI s2, vI s1, vR s0] Q := by
  obtain ⟨h', r, K, q⟩ := K
  exact ⟨h', r, j_ldc (v := 1000001) dL_isRefused_373 ki_L_154 <| j_iload_n dL_isRefused_375 rfl rfl <| j_bipush (v := 30) dL_isRefused_376 (by decide) <| j_irem dL_isRefused_378 (by decide) <| j_iadd dL_isRefused_379 <| K, q⟩
theorem bL_isRefused_380 {h0 h : k_H} {Q : k_H → k_R → Prop} {x0 x1 x2 s0 : Option Nat} {x3 x4 x5 x6 s1 s2 s3 s4 s5 s6 s7 : Int32} {x7 : Int64} {P : k_H → Int32 → Prop} (c : k_cti (tL_act G l) [vR s0, vI s1, vI s2, vI s3, vI s4, vI s5, vI s6, vI s7] h P) (K : ∀ h1 v, P h1 v → k_X (jL_isRefused G l h0) h1 383 [(0, vR x0), (1, vR x1), (2, vR x2), (3, vI x3), (4, vI x4), (5, vI x5), (6, vI x6), (7, vJ x7)] [vI v] Q) : k_X (jL_isRefused G l h0) h 380 [(0, vR x0), (1, vR x1), (2, vR x2), (3, vI x3), (4, vI x4), (5, vI x5), (6, vI x6), (7, vJ x7)] [vI s7, vI s6, vI s5, vI s4, vI s3, vI s2, vI s1, vR s0] Q := by
  obtain ⟨h1, v, c, p⟩ := c
  obtain ⟨h', r, K, q⟩ := K h1 v p
  exact ⟨h', r, j_callW (v := some (vI v)) (as := [vR s0, vI s1, vI s2, vI s3, vI s4, vI s5, vI s6, vI s7]) dL_isRefused_380 kcw_L_149 rfl rfl (by decide) (Nat.le_of_ble_eq_true rfl) c K, q⟩
theorem bL_isRefused_383 {h0 h : k_H} {Q : k_H → k_R → Prop} {x0 x1 x2 : Option Nat} {x3 x4 x5 x6 s0 : Int32} {x7 : Int64} (K1 : ¬ (s0 = (-2000000002)) → k_X (jL_isRefused G l h0) h 526 [(0, vR x0), (1, vR x1), (2, vR x2), (3, vI x3), (4, vI x4), (5, vI x5), (6, vI x6), (7, vJ x7)] [] Q) (K2 : s0 = (-2000000002) → k_X (jL_isRefused G l h0) h 388 [(0, vR x0), (1, vR x1), (2, vR x2), (3, vI x3), (4, vI x4), (5, vI x5), (6, vI x6), (7, vJ x7)] [] Q) : k_X (jL_isRefused G l h0) h 383 [(0, vR x0), (1, vR x1), (2, vR x2), (3, vI x3), (4, vI x4), (5, vI x5), (6, vI x6), (7, vJ x7)] [vI s0] Q := by
  by_cases hc : s0 = (-2000000002)
  · skip
    obtain ⟨h', r, K, q⟩ := K2 hc
    exact ⟨h', r, j_ldc (v := (-2000000002)) dL_isRefused_383 ki_L_110 <| j_icmp_ne_f dL_isRefused_385 526 (by decide) hc K, q⟩
  · skip
    obtain ⟨h', r, K, q⟩ := K1 hc
    exact ⟨h', r, j_ldc (v := (-2000000002)) dL_isRefused_383 ki_L_110 <| j_icmp_ne_t (tgt := 526) dL_isRefused_385 (by decide) hc K, q⟩
theorem bL_isRefused_388 {h0 h : k_H} {Q : k_H → k_R → Prop} {x0 x1 x2 : Option Nat} {x3 x4 x5 x6 : Int32} {x7 : Int64} {P : k_H → Int32 → Prop} (c : k_cti (tL_act G l) [vR x0, vI 4, vI 0, vI (x3 - (x3 / 7) * 7), vI ((-7) + (x3 - (x3 / 7) * 7)), vI 5, vI 5, vI 0] h P) (K : ∀ h1 v, P h1 v → k_X (jL_isRefused G l h0) h1 408 [(0, vR x0), (1, vR x1), (2, vR x2), (3, vI x3), (4, vI x4), (5, vI x5), (6, vI x6), (7, vJ x7)] [vI v] Q) : k_X (jL_isRefused G l h0) h 388 [(0, vR x0), (1, vR x1), (2, vR x2), (3, vI x3), (4, vI x4), (5, vI x5), (6, vI x6), (7, vJ x7)] [] Q := by
  obtain ⟨h1, v, c, p⟩ := c
  obtain ⟨h', r, K, q⟩ := K h1 v p
  exact ⟨h', r, j_aload_n dL_isRefused_388 rfl rfl <| j_iconst (v := 4) dL_isRefused_389 (by decide) <| j_iconst (v := 0) dL_isRefused_390 (by decide) <| j_iload_n dL_isRefused_391 rfl rfl <| j_bipush (v := 7) dL_isRefused_392 (by decide) <| j_irem dL_isRefused_394 (by decide) <| j_bipush (v := (-7)) dL_isRefused_395 (by decide) <| j_iload_n dL_isRefused_397 rfl rfl <| j_bipush (v := 7) dL_isRefused_398 (by decide) <| j_irem dL_isRefused_400 (by decide) <| j_iadd dL_isRefused_401 <| j_iconst (v := 5) dL_isRefused_402 (by decide) <| j_iconst (v := 5) dL_isRefused_403 (by decide) <| j_iconst (v := 0) dL_isRefused_404 (by decide) <| j_callW (v := some (vI v)) (as := [vR x0, vI 4, vI 0, vI (x3 - (x3 / 7) * 7), vI ((-7) + (x3 - (x3 / 7) * 7)), vI 5, vI 5, vI 0]) dL_isRefused_405 kcw_L_149 rfl rfl (by decide) (Nat.le_of_ble_eq_true rfl) c K, q⟩
theorem bL_isRefused_408 {h0 h : k_H} {Q : k_H → k_R → Prop} {x0 x1 x2 : Option Nat} {x3 x4 x5 x6 s0 : Int32} {x7 : Int64} (K1 : ¬ (s0 = (-2000000002)) → k_X (jL_isRefused G l h0) h 526 [(0, vR x0), (1, vR x1), (2, vR x2), (3, vI x3), (4, vI x4), (5, vI x5), (6, vI x6), (7, vJ x7)] [] Q) (K2 : s0 = (-2000000002) → k_X (jL_isRefused G l h0) h 413 [(0, vR x0), (1, vR x1), (2, vR x2), (3, vI x3), (4, vI x4), (5, vI x5), (6, vI x6), (7, vJ x7)] [] Q) : k_X (jL_isRefused G l h0) h 408 [(0, vR x0), (1, vR x1), (2, vR x2), (3, vI x3), (4, vI x4), (5, vI x5), (6, vI x6), (7, vJ x7)] [vI s0] Q := by
  by_cases hc : s0 = (-2000000002)
  · skip
    obtain ⟨h', r, K, q⟩ := K2 hc
    exact ⟨h', r, j_ldc (v := (-2000000002)) dL_isRefused_408 ki_L_110 <| j_icmp_ne_f dL_isRefused_410 526 (by decide) hc K, q⟩
  · skip
    obtain ⟨h', r, K, q⟩ := K1 hc
    exact ⟨h', r, j_ldc (v := (-2000000002)) dL_isRefused_408 ki_L_110 <| j_icmp_ne_t (tgt := 526) dL_isRefused_410 (by decide) hc K, q⟩
theorem bL_isRefused_413 {h0 h : k_H} {Q : k_H → k_R → Prop} {x0 x1 x2 : Option Nat} {x3 x4 x5 x6 : Int32} {x7 : Int64} {P : k_H → Int32 → Prop} (c : k_cti (tL_act G l) [vR x0, vI 5, vI x5, vI 5, vI 5, vI 0, vI 0, vI 0] h P) (K : ∀ h1 v, P h1 v → k_X (jL_isRefused G l h0) h1 425 [(0, vR x0), (1, vR x1), (2, vR x2), (3, vI x3), (4, vI x4), (5, vI x5), (6, vI x6), (7, vJ x7)] [vI v] Q) : k_X (jL_isRefused G l h0) h 413 [(0, vR x0), (1, vR x1), (2, vR x2), (3, vI x3), (4, vI x4), (5, vI x5), (6, vI x6), (7, vJ x7)] [] Q := by
  obtain ⟨h1, v, c, p⟩ := c
  obtain ⟨h', r, K, q⟩ := K h1 v p
  exact ⟨h', r, j_aload_n dL_isRefused_413 rfl rfl <| j_iconst (v := 5) dL_isRefused_414 (by decide) <| j_iload dL_isRefused_415 rfl <| j_iconst (v := 5) dL_isRefused_417 (by decide) <| j_iconst (v := 5) dL_isRefused_418 (by decide) <| j_iconst (v := 0) dL_isRefused_419 (by decide) <| j_iconst (v := 0) dL_isRefused_420 (by decide) <| j_iconst (v := 0) dL_isRefused_421 (by decide) <| j_callW (v := some (vI v)) (as := [vR x0, vI 5, vI x5, vI 5, vI 5, vI 0, vI 0, vI 0]) dL_isRefused_422 kcw_L_149 rfl rfl (by decide) (Nat.le_of_ble_eq_true rfl) c K, q⟩
theorem bL_isRefused_425 {h0 h : k_H} {Q : k_H → k_R → Prop} {x0 x1 x2 : Option Nat} {x3 x4 x5 x6 s0 : Int32} {x7 : Int64} (K1 : ¬ (s0 = (-2000000001)) → k_X (jL_isRefused G l h0) h 526 [(0, vR x0), (1, vR x1), (2, vR x2), (3, vI x3), (4, vI x4), (5, vI x5), (6, vI x6), (7, vJ x7)] [] Q) (K2 : s0 = (-2000000001) → k_X (jL_isRefused G l h0) h 430 [(0, vR x0), (1, vR x1), (2, vR x2), (3, vI x3), (4, vI x4), (5, vI x5), (6, vI x6), (7, vJ x7)] [] Q) : k_X (jL_isRefused G l h0) h 425 [(0, vR x0), (1, vR x1), (2, vR x2), (3, vI x3), (4, vI x4), (5, vI x5), (6, vI x6), (7, vJ x7)] [vI s0] Q := by
  by_cases hc : s0 = (-2000000001)
  · skip
    obtain ⟨h', r, K, q⟩ := K2 hc
    exact ⟨h', r, j_ldc (v := (-2000000001)) dL_isRefused_425 ki_L_107 <| j_icmp_ne_f dL_isRefused_427 526 (by decide) hc K, q⟩
  · skip
    obtain ⟨h', r, K, q⟩ := K1 hc
    exact ⟨h', r, j_ldc (v := (-2000000001)) dL_isRefused_425 ki_L_107 <| j_icmp_ne_t (tgt := 526) dL_isRefused_427 (by decide) hc K, q⟩
theorem bL_isRefused_430 {h0 h : k_H} {Q : k_H → k_R → Prop} {x0 x1 x2 : Option Nat} {x3 x4 x5 x6 : Int32} {x7 : Int64} {P : k_H → Int32 → Prop} (c : k_cti (tL_act G l) [vR x0, vI 5, vI 0, vI ((-7) + (x3 - (x3 / 7) * 7)), vI 5, vI 0, vI 0, vI 0] h P) (K : ∀ h1 v, P h1 v → k_X (jL_isRefused G l h0) h1 447 [(0, vR x0), (1, vR x1), (2, vR x2), (3, vI x3), (4, vI x4), (5, vI x5), (6, vI x6), (7, vJ x7)] [vI v] Q) : k_X (jL_isRefused G l h0) h 430 [(0, vR x0), (1, vR x1), (2, vR x2), (3, vI x3), (4, vI x4), (5, vI x5), (6, vI x6), (7, vJ x7)] [] Q := by
  obtain ⟨h1, v, c, p⟩ := c
  obtain ⟨h', r, K, q⟩ := K h1 v p
  exact ⟨h', r, j_aload_n dL_isRefused_430 rfl rfl <| j_iconst (v := 5) dL_isRefused_431 (by decide) <| j_iconst (v := 0) dL_isRefused_432 (by decide) <| j_bipush (v := (-7)) dL_isRefused_433 (by decide) <| j_iload_n dL_isRefused_435 rfl rfl <| j_bipush (v := 7) dL_isRefused_436 (by decide) <| j_irem dL_isRefused_438 (by decide) <| j_iadd dL_isRefused_439 <| j_iconst (v := 5) dL_isRefused_440 (by decide) <| j_iconst (v := 0) dL_isRefused_441 (by decide) <| j_iconst (v := 0) dL_isRefused_442 (by decide) <| j_iconst (v := 0) dL_isRefused_443 (by decide) <| j_callW (v := some (vI v)) (as := [vR x0, vI 5, vI 0, vI ((-7) + (x3 - (x3 / 7) * 7)), vI 5, vI 0, vI 0, vI 0]) dL_isRefused_444 kcw_L_149 rfl rfl (by decide) (Nat.le_of_ble_eq_true rfl) c K, q⟩
theorem bL_isRefused_447 {h0 h : k_H} {Q : k_H → k_R → Prop} {x0 x1 x2 : Option Nat} {x3 x4 x5 x6 s0 : Int32} {x7 : Int64} (K1 : ¬ (s0 = (-2000000002)) → k_X (jL_isRefused G l h0) h 526 [(0, vR x0), (1, vR x1), (2, vR x2), (3, vI x3), (4, vI x4), (5, vI x5), (6, vI x6), (7, vJ x7)] [] Q) (K2 : s0 = (-2000000002) → k_X (jL_isRefused G l h0) h 452 [(0, vR x0), (1, vR x1), (2, vR x2), (3, vI x3), (4, vI x4), (5, vI x5), (6, vI x6), (7, vJ x7)] [] Q) : k_X (jL_isRefused G l h0) h 447 [(0, vR x0), (1, vR x1), (2, vR x2), (3, vI x3), (4, vI x4), (5, vI x5), (6, vI x6), (7, vJ x7)] [vI s0] Q := by
  by_cases hc : s0 = (-2000000002)
  · skip
    obtain ⟨h', r, K, q⟩ := K2 hc
    exact ⟨h', r, j_ldc (v := (-2000000002)) dL_isRefused_447 ki_L_110 <| j_icmp_ne_f dL_isRefused_449 526 (by decide) hc K, q⟩
  · skip
    obtain ⟨h', r, K, q⟩ := K1 hc
    exact ⟨h', r, j_ldc (v := (-2000000002)) dL_isRefused_447 ki_L_110 <| j_icmp_ne_t (tgt := 526) dL_isRefused_449 (by decide) hc K, q⟩
theorem bL_isRefused_452 {h0 h : k_H} {Q : k_H → k_R → Prop} {x0 x1 x2 : Option Nat} {x3 x4 x5 x6 : Int32} {x7 : Int64} {P : k_H → Int32 → Prop} (c : k_cti (tL_act G l) [vR x0, vI 5, vI 0, vI 10000, vI 10000, vI 0, vI 0, vI 0] h P) (K : ∀ h1 v, P h1 v → k_X (jL_isRefused G l h0) h1 467 [(0, vR x0), (1, vR x1), (2, vR x2), (3, vI x3), (4, vI x4), (5, vI x5), (6, vI x6), (7, vJ x7)] [vI v] Q) : k_X (jL_isRefused G l h0) h 452 [(0, vR x0), (1, vR x1), (2, vR x2), (3, vI x3), (4, vI x4), (5, vI x5), (6, vI x6), (7, vJ x7)] [] Q := by
  obtain ⟨h1, v, c, p⟩ := c
  obtain ⟨h', r, K, q⟩ := K h1 v p
  exact ⟨h', r, j_aload_n dL_isRefused_452 rfl rfl <| j_iconst (v := 5) dL_isRefused_453 (by decide) <| j_iconst (v := 0) dL_isRefused_454 (by decide) <| j_sipush (v := 10000) dL_isRefused_455 (by decide) <| j_sipush (v := 10000) dL_isRefused_458 (by decide) <| j_iconst (v := 0) dL_isRefused_461 (by decide) <| j_iconst (v := 0) dL_isRefused_462 (by decide) <| j_iconst (v := 0) dL_isRefused_463 (by decide) <| j_callW (v := some (vI v)) (as := [vR x0, vI 5, vI 0, vI 10000, vI 10000, vI 0, vI 0, vI 0]) dL_isRefused_464 kcw_L_149 rfl rfl (by decide) (Nat.le_of_ble_eq_true rfl) c K, q⟩
theorem bL_isRefused_467 {h0 h : k_H} {Q : k_H → k_R → Prop} {x0 x1 x2 : Option Nat} {x3 x4 x5 x6 s0 : Int32} {x7 : Int64} (K1 : ¬ (s0 = (-2000000002)) → k_X (jL_isRefused G l h0) h 526 [(0, vR x0), (1, vR x1), (2, vR x2), (3, vI x3), (4, vI x4), (5, vI x5), (6, vI x6), (7, vJ x7)] [] Q) (K2 : s0 = (-2000000002) → k_X (jL_isRefused G l h0) h 472 [(0, vR x0), (1, vR x1), (2, vR x2), (3, vI x3), (4, vI x4), (5, vI x5), (6, vI x6), (7, vJ x7)] [] Q) : k_X (jL_isRefused G l h0) h 467 [(0, vR x0), (1, vR x1), (2, vR x2), (3, vI x3), (4, vI x4), (5, vI x5), (6, vI x6), (7, vJ x7)] [vI s0] Q := by
  by_cases hc : s0 = (-2000000002)
  · skip
    obtain ⟨h', r, K, q⟩ := K2 hc
    exact ⟨h', r, j_ldc (v := (-2000000002)) dL_isRefused_467 ki_L_110 <| j_icmp_ne_f dL_isRefused_469 526 (by decide) hc K, q⟩
  · skip
    obtain ⟨h', r, K, q⟩ := K1 hc
    exact ⟨h', r, j_ldc (v := (-2000000002)) dL_isRefused_467 ki_L_110 <| j_icmp_ne_t (tgt := 526) dL_isRefused_469 (by decide) hc K, q⟩
theorem bL_isRefused_472 {h0 h : k_H} {Q : k_H → k_R → Prop} {x0 x1 x2 : Option Nat} {x3 x4 x5 x6 : Int32} {x7 : Int64} {P : k_H → Int32 → Prop} (c : k_cti (tL_act G l) [vR x0, vI 6, vI x5, vI 0, vI 0, vI 0, vI 0, vI 0] h P) (K : ∀ h1 v, P h1 v → k_X (jL_isRefused G l h0) h1 485 [(0, vR x0), (1, vR x1), (2, vR x2), (3, vI x3), (4, vI x4), (5, vI x5), (6, vI x6), (7, vJ x7)] [vI v] Q) : k_X (jL_isRefused G l h0) h 472 [(0, vR x0), (1, vR x1), (2, vR x2), (3, vI x3), (4, vI x4), (5, vI x5), (6, vI x6), (7, vJ x7)] [] Q := by
  obtain ⟨h1, v, c, p⟩ := c
  obtain ⟨h', r, K, q⟩ := K h1 v p
  exact ⟨h', r, j_aload_n dL_isRefused_472 rfl rfl <| j_bipush (v := 6) dL_isRefused_473 (by decide) <| j_iload dL_isRefused_475 rfl <| j_iconst (v := 0) dL_isRefused_477 (by decide) <| j_iconst (v := 0) dL_isRefused_478 (by decide) <| j_iconst (v := 0) dL_isRefused_479 (by decide) <| j_iconst (v := 0) dL_isRefused_480 (by decide) <| j_iconst (v := 0) dL_isRefused_481 (by decide) <| j_callW (v := some (vI v)) (as := [vR x0, vI 6, vI x5, vI 0, vI 0, vI 0, vI 0, vI 0]) dL_isRefused_482 kcw_L_149 rfl rfl (by decide) (Nat.le_of_ble_eq_true rfl) c K, q⟩
theorem bL_isRefused_485 {h0 h : k_H} {Q : k_H → k_R → Prop} {x0 x1 x2 : Option Nat} {x3 x4 x5 x6 s0 : Int32} {x7 : Int64} (K1 : ¬ (s0 = (-2000000001)) → k_X (jL_isRefused G l h0) h 526 [(0, vR x0), (1, vR x1), (2, vR x2), (3, vI x3), (4, vI x4), (5, vI x5), (6, vI x6), (7, vJ x7)] [] Q) (K2 : s0 = (-2000000001) → k_X (jL_isRefused G l h0) h 490 [(0, vR x0), (1, vR x1), (2, vR x2), (3, vI x3), (4, vI x4), (5, vI x5), (6, vI x6), (7, vJ x7)] [] Q) : k_X (jL_isRefused G l h0) h 485 [(0, vR x0), (1, vR x1), (2, vR x2), (3, vI x3), (4, vI x4), (5, vI x5), (6, vI x6), (7, vJ x7)] [vI s0] Q := by
  by_cases hc : s0 = (-2000000001)
  · skip
    obtain ⟨h', r, K, q⟩ := K2 hc
    exact ⟨h', r, j_ldc (v := (-2000000001)) dL_isRefused_485 ki_L_107 <| j_icmp_ne_f dL_isRefused_487 526 (by decide) hc K, q⟩
  · skip
    obtain ⟨h', r, K, q⟩ := K1 hc
    exact ⟨h', r, j_ldc (v := (-2000000001)) dL_isRefused_485 ki_L_107 <| j_icmp_ne_t (tgt := 526) dL_isRefused_487 (by decide) hc K, q⟩
theorem bL_isRefused_490 {h0 h : k_H} {Q : k_H → k_R → Prop} {x0 x1 x2 : Option Nat} {x3 x4 x5 x6 : Int32} {x7 : Int64} (K1 : x4 = 0 → k_X (jL_isRefused G l h0) h 507 [(0, vR x0), (1, vR x1), (2, vR x2), (3, vI x3), (4, vI x4), (5, vI x5), (6, vI x6), (7, vJ x7)] [vI 7, vR x0] Q) (K2 : ¬ (x4 = 0) → k_X (jL_isRefused G l h0) h 498 [(0, vR x0), (1, vR x1), (2, vR x2), (3, vI x3), (4, vI x4), (5, vI x5), (6, vI x6), (7, vJ x7)] [vI 7, vR x0] Q) : k_X (jL_isRefused G l h0) h 490 [(0, vR x0), (1, vR x1), (2, vR x2), (3, vI x3), (4, vI x4), (5, vI x5), (6, vI x6), (7, vJ x7)] [] Q := by
  by_cases hc : x4 = 0
  · skip
    obtain ⟨h', r, K, q⟩ := K1 hc
    exact ⟨h', r, j_aload_n dL_isRefused_490 rfl rfl <| j_bipush (v := 7) dL_isRefused_491 (by decide) <| j_iload dL_isRefused_493 rfl <| j_if_eq_t (tgt := 507) dL_isRefused_495 (by decide) hc K, q⟩
  · skip
    obtain ⟨h', r, K, q⟩ := K2 hc
    exact ⟨h', r, j_aload_n dL_isRefused_490 rfl rfl <| j_bipush (v := 7) dL_isRefused_491 (by decide) <| j_iload dL_isRefused_493 rfl <| j_if_eq_f dL_isRefused_495 507 (by decide) hc K, q⟩
theorem bL_isRefused_498 {h0 h : k_H} {Q : k_H → k_R → Prop} {x0 x1 x2 s0 : Option Nat} {x3 x4 x5 x6 s1 : Int32} {x7 : Int64} (K : k_X (jL_isRefused G l h0) h 509 [(0, vR x0), (1, vR x1), (2, vR x2), (3, vI x3), (4, vI x4), (5, vI x5), (6, vI x6), (7, vJ x7)] [vI (0 - (x3 - (x3 / 30) * 30)), vI s1, vR s0] Q) : k_X (jL_isRefused G l h0) h 498 [(0, vR x0), (1, vR x1), (2, vR x2), (3, vI x3), (4, vI x4), (5, vI x5), (6, vI x6), (7, vJ x7)] [vI s1, vR s0] Q := by
  obtain ⟨h', r, K, q⟩ := K
  exact ⟨h', r, j_iconst (v := 0) dL_isRefused_498 (by decide) <| j_iload_n dL_isRefused_499 rfl rfl <| j_bipush (v := 30) dL_isRefused_500 (by decide) <| j_irem dL_isRefused_502 (by decide) <| j_isub dL_isRefused_503 <| j_goto (tgt := 509) dL_isRefused_504 (by decide) <| K, q⟩
theorem bL_isRefused_507 {h0 h : k_H} {Q : k_H → k_R → Prop} {x0 x1 x2 s0 : Option Nat} {x3 x4 x5 x6 s1 : Int32} {x7 : Int64} (K : k_X (jL_isRefused G l h0) h 509 [(0, vR x0), (1, vR x1), (2, vR x2), (3, vI x3), (4, vI x4), (5, vI x5), (6, vI x6), (7, vJ x7)] [vI 11, vI s1, vR s0] Q) : k_X (jL_isRefused G l h0) h 507 [(0, vR x0), (1, vR x1), (2, vR x2), (3, vI x3), (4, vI x4), (5, vI x5), (6, vI x6), (7, vJ x7)] [vI s1, vR s0] Q := by
  obtain ⟨h', r, K, q⟩ := K
  exact ⟨h', r, j_bipush (v := 11) dL_isRefused_507 (by decide) <| K, q⟩
theorem bL_isRefused_509 {h0 h : k_H} {Q : k_H → k_R → Prop} {x0 x1 x2 s0 : Option Nat} {x3 x4 x5 x6 s1 s2 : Int32} {x7 : Int64} {P : k_H → Int32 → Prop} (c : k_cti (tL_act G l) [vR s0, vI s1, vI s2, vI 0, vI 0, vI 0, vI 0, vI 0] h P) (K : ∀ h1 v, P h1 v → k_X (jL_isRefused G l h0) h1 517 [(0, vR x0), (1, vR x1), (2, vR x2), (3, vI x3), (4, vI x4), (5, vI x5), (6, vI x6), (7, vJ x7)] [vI v] Q) : k_X (jL_isRefused G l h0) h 509 [(0, vR x0), (1, vR x1), (2, vR x2), (3, vI x3), (4, vI x4), (5, vI x5), (6, vI x6), (7, vJ x7)] [vI s2, vI s1, vR s0] Q := by
  obtain ⟨h1, v, c, p⟩ := c
  obtain ⟨h', r, K, q⟩ := K h1 v p
  exact ⟨h', r, j_iconst (v := 0) dL_isRefused_509 (by decide) <| j_iconst (v := 0) dL_isRefused_510 (by decide) <| j_iconst (v := 0) dL_isRefused_511 (by decide) <| j_iconst (v := 0) dL_isRefused_512 (by decide) <| j_iconst (v := 0) dL_isRefused_513 (by decide) <| j_callW (v := some (vI v)) (as := [vR s0, vI s1, vI s2, vI 0, vI 0, vI 0, vI 0, vI 0]) dL_isRefused_514 kcw_L_149 rfl rfl (by decide) (Nat.le_of_ble_eq_true rfl) c K, q⟩
theorem bL_isRefused_517 {h0 h : k_H} {Q : k_H → k_R → Prop} {x0 x1 x2 : Option Nat} {x3 x4 x5 x6 s0 : Int32} {x7 : Int64} (K1 : ¬ (s0 = (-2000000002)) → k_X (jL_isRefused G l h0) h 526 [(0, vR x0), (1, vR x1), (2, vR x2), (3, vI x3), (4, vI x4), (5, vI x5), (6, vI x6), (7, vJ x7)] [] Q) (K2 : s0 = (-2000000002) → k_X (jL_isRefused G l h0) h 522 [(0, vR x0), (1, vR x1), (2, vR x2), (3, vI x3), (4, vI x4), (5, vI x5), (6, vI x6), (7, vJ x7)] [] Q) : k_X (jL_isRefused G l h0) h 517 [(0, vR x0), (1, vR x1), (2, vR x2), (3, vI x3), (4, vI x4), (5, vI x5), (6, vI x6), (7, vJ x7)] [vI s0] Q := by
  by_cases hc : s0 = (-2000000002)
  · skip
    obtain ⟨h', r, K, q⟩ := K2 hc
    exact ⟨h', r, j_ldc (v := (-2000000002)) dL_isRefused_517 ki_L_110 <| j_icmp_ne_f dL_isRefused_519 526 (by decide) hc K, q⟩
  · skip
    obtain ⟨h', r, K, q⟩ := K1 hc
    exact ⟨h', r, j_ldc (v := (-2000000002)) dL_isRefused_517 ki_L_110 <| j_icmp_ne_t (tgt := 526) dL_isRefused_519 (by decide) hc K, q⟩
theorem bL_isRefused_522 {h0 h : k_H} {Q : k_H → k_R → Prop} {x0 x1 x2 : Option Nat} {x3 x4 x5 x6 : Int32} {x7 : Int64} (K : k_X (jL_isRefused G l h0) h 527 [(0, vR x0), (1, vR x1), (2, vR x2), (3, vI x3), (4, vI x4), (5, vI x5), (6, vI x6), (7, vJ x7)] [vI 1] Q) : k_X (jL_isRefused G l h0) h 522 [(0, vR x0), (1, vR x1), (2, vR x2), (3, vI x3), (4, vI x4), (5, vI x5), (6, vI x6), (7, vJ x7)] [] Q := by
  obtain ⟨h', r, K, q⟩ := K
  exact ⟨h', r, j_iconst (v := 1) dL_isRefused_522 (by decide) <| j_goto (tgt := 527) dL_isRefused_523 (by decide) <| K, q⟩
theorem bL_isRefused_526 {h0 h : k_H} {Q : k_H → k_R → Prop} {x0 x1 x2 : Option Nat} {x3 x4 x5 x6 : Int32} {x7 : Int64} (K : k_X (jL_isRefused G l h0) h 527 [(0, vR x0), (1, vR x1), (2, vR x2), (3, vI x3), (4, vI x4), (5, vI x5), (6, vI x6), (7, vJ x7)] [vI 0] Q) : k_X (jL_isRefused G l h0) h 526 [(0, vR x0), (1, vR x1), (2, vR x2), (3, vI x3), (4, vI x4), (5, vI x5), (6, vI x6), (7, vJ x7)] [] Q := by
  obtain ⟨h', r, K, q⟩ := K
  exact ⟨h', r, j_iconst (v := 0) dL_isRefused_526 (by decide) <| K, q⟩
theorem bL_isRefused_527 {h0 h : k_H} {Q : k_H → k_R → Prop} {x0 x1 x2 : Option Nat} {x3 x4 x5 x6 s0 : Int32} {x7 : Int64} (K1 : s0 = 0 → k_X (jL_isRefused G l h0) h 993 [(0, vR x0), (1, vR x1), (2, vR x2), (3, vI x3), (4, vI x4), (7, vJ x7)] [] Q) (K2 : ¬ (s0 = 0) → k_X (jL_isRefused G l h0) h 534 [(0, vR x0), (1, vR x1), (2, vR x2), (3, vI x3), (4, vI x4), (5, vI x5), (6, vI x6), (7, vJ x7)] [] Q) : k_X (jL_isRefused G l h0) h 527 [(0, vR x0), (1, vR x1), (2, vR x2), (3, vI x3), (4, vI x4), (5, vI x5), (6, vI x6), (7, vJ x7)] [vI s0] Q := by
  by_cases hc : s0 = 0
  · skip
    obtain ⟨h', r, K, q⟩ := K1 hc
    exact ⟨h', r, j_istore dL_isRefused_527 (by decide) rfl <| j_iload dL_isRefused_529 rfl <| j_if_eq_t (tgt := 993) dL_isRefused_531 (by decide) hc (j_pick [0, 1, 2, 3, 4, 7] rfl K), q⟩
  · skip
    obtain ⟨h', r, K, q⟩ := K2 hc
    exact ⟨h', r, j_istore dL_isRefused_527 (by decide) rfl <| j_iload dL_isRefused_529 rfl <| j_if_eq_f dL_isRefused_531 993 (by decide) hc (j_pick [0, 1, 2, 3, 4, 5, 6, 7] rfl K), q⟩
theorem bL_isRefused_534 {h0 h : k_H} {Q : k_H → k_R → Prop} {x0 x1 x2 : Option Nat} {x3 x4 x5 x6 : Int32} {x7 : Int64} (K1 : x4 = 0 → k_X (jL_isRefused G l h0) h 551 [(0, vR x0), (1, vR x1), (2, vR x2), (3, vI x3), (4, vI x4), (5, vI x5), (6, vI x6), (7, vJ x7)] [vI 8, vR x0] Q) (K2 : ¬ (x4 = 0) → k_X (jL_isRefused G l h0) h 542 [(0, vR x0), (1, vR x1), (2, vR x2), (3, vI x3), (4, vI x4), (5, vI x5), (6, vI x6), (7, vJ x7)] [vI 8, vR x0] Q) : k_X (jL_isRefused G l h0) h 534 [(0, vR x0), (1, vR x1), (2, vR x2), (3, vI x3), (4, vI x4), (5, vI x5), (6, vI x6), (7, vJ x7)] [] Q := by
  by_cases hc : x4 = 0
  · skip
    obtain ⟨h', r, K, q⟩ := K1 hc
    exact ⟨h', r, j_aload_n dL_isRefused_534 rfl rfl <| j_bipush (v := 8) dL_isRefused_535 (by decide) <| j_iload dL_isRefused_537 rfl <| j_if_eq_t (tgt := 551) dL_isRefused_539 (by decide) hc K, q⟩
  · skip
    obtain ⟨h', r, K, q⟩ := K2 hc
    exact ⟨h', r, j_aload_n dL_isRefused_534 rfl rfl <| j_bipush (v := 8) dL_isRefused_535 (by decide) <| j_iload dL_isRefused_537 rfl <| j_if_eq_f dL_isRefused_539 551 (by decide) hc K, q⟩
theorem bL_isRefused_542 {h0 h : k_H} {Q : k_H → k_R → Prop} {x0 x1 x2 s0 : Option Nat} {x3 x4 x5 x6 s1 : Int32} {x7 : Int64} (K : k_X (jL_isRefused G l h0) h 556 [(0, vR x0), (1, vR x1), (2, vR x2), (3, vI x3), (4, vI x4), (5, vI x5), (6, vI x6), (7, vJ x7)] [vI ((-1) - (x3 - (x3 / 30) * 30)), vI s1, vR s0] Q) : k_X (jL_isRefused G l h0) h 542 [(0, vR x0), (1, vR x1), (2, vR x2), (3, vI x3), (4, vI x4), (5, vI x5), (6, vI x6), (7, vJ x7)] [vI s1, vR s0] Q := by
  obtain ⟨h', r, K, q⟩ := K
  exact ⟨h', r, j_iconst (v := (-1)) dL_isRefused_542 (by decide) <| j_iload_n dL_isRefused_543 rfl rfl <| j_bipush (v := 30) dL_isRefused_544 (by decide) <| j_irem dL_isRefused_546 (by decide) <| j_isub dL_isRefused_547 <| j_goto (tgt := 556) dL_isRefused_548 (by decide) <| K, q⟩
theorem bL_isRefused_551 {h0 h : k_H} {Q : k_H → k_R → Prop} {x0 x2 s0 : Option Nat} {x1 : Nat} {x3 x4 x5 x6 s1 : Int32} {x7 : Int64} {n1 : Nat} {w1 : Nat → Int32} (o1 : h.1 x1 = some (k_i n1 w1)) (y2 : vp_in 0 n1) (K : k_X (jL_isRefused G l h0) h 556 [(0, vR x0), (1, vR (some x1)), (2, vR x2), (3, vI x3), (4, vI x4), (5, vI x5), (6, vI x6), (7, vJ x7)] [vI ((w1 (0 : Int32).toNatClampNeg) + 1), vI s1, vR s0] Q) : k_X (jL_isRefused G l h0) h 551 [(0, vR x0), (1, vR (some x1)), (2, vR x2), (3, vI x3), (4, vI x4), (5, vI x5), (6, vI x6), (7, vJ x7)] [vI s1, vR s0] Q := by
  obtain ⟨h', r, K, q⟩ := K
  exact ⟨h', r, j_aload_n dL_isRefused_551 rfl rfl <| j_iconst (v := 0) dL_isRefused_552 (by decide) <| j_iald dL_isRefused_553 o1 y2 <| j_iconst (v := 1) dL_isRefused_554 (by decide) <| j_iadd dL_isRefused_555 <| K, q⟩
theorem bL_isRefused_556 {h0 h : k_H} {Q : k_H → k_R → Prop} {x0 x1 x2 s0 : Option Nat} {x3 x4 x5 x6 s1 s2 : Int32} {x7 : Int64} {P : k_H → Int32 → Prop} (c : k_cti (tL_act G l) [vR s0, vI s1, vI s2, vI 5, vI 5, vI 5, vI 0, vI 0] h P) (K : ∀ h1 v, P h1 v → k_X (jL_isRefused G l h0) h1 564 [(0, vR x0), (1, vR x1), (2, vR x2), (3, vI x3), (4, vI x4), (5, vI x5), (6, vI x6), (7, vJ x7)] [vI v] Q) : k_X (jL_isRefused G l h0) h 556 [(0, vR x0), (1, vR x1), (2, vR x2), (3, vI x3), (4, vI x4), (5, vI x5), (6, vI x6), (7, vJ x7)] [vI s2, vI s1, vR s0] Q := by
  obtain ⟨h1, v, c, p⟩ := c
  obtain ⟨h', r, K, q⟩ := K h1 v p
  exact ⟨h', r, j_iconst (v := 5) dL_isRefused_556 (by decide) <| j_iconst (v := 5) dL_isRefused_557 (by decide) <| j_iconst (v := 5) dL_isRefused_558 (by decide) <| j_iconst (v := 0) dL_isRefused_559 (by decide) <| j_iconst (v := 0) dL_isRefused_560 (by decide) <| j_callW (v := some (vI v)) (as := [vR s0, vI s1, vI s2, vI 5, vI 5, vI 5, vI 0, vI 0]) dL_isRefused_561 kcw_L_149 rfl rfl (by decide) (Nat.le_of_ble_eq_true rfl) c K, q⟩
theorem bL_isRefused_564 {h0 h : k_H} {Q : k_H → k_R → Prop} {x0 x1 x2 : Option Nat} {x3 x4 x5 x6 s0 : Int32} {x7 : Int64} (K1 : ¬ (s0 = (-2000000002)) → k_X (jL_isRefused G l h0) h 993 [(0, vR x0), (1, vR x1), (2, vR x2), (3, vI x3), (4, vI x4), (7, vJ x7)] [] Q) (K2 : s0 = (-2000000002) → k_X (jL_isRefused G l h0) h 569 [(0, vR x0), (1, vR x1), (2, vR x2), (3, vI x3), (4, vI x4), (5, vI x5), (6, vI x6), (7, vJ x7)] [] Q) : k_X (jL_isRefused G l h0) h 564 [(0, vR x0), (1, vR x1), (2, vR x2), (3, vI x3), (4, vI x4), (5, vI x5), (6, vI x6), (7, vJ x7)] [vI s0] Q := by
  by_cases hc : s0 = (-2000000002)
  · skip
    obtain ⟨h', r, K, q⟩ := K2 hc
    exact ⟨h', r, j_ldc (v := (-2000000002)) dL_isRefused_564 ki_L_110 <| j_icmp_ne_f dL_isRefused_566 993 (by decide) hc K, q⟩
  · skip
    obtain ⟨h', r, K, q⟩ := K1 hc
    exact ⟨h', r, j_ldc (v := (-2000000002)) dL_isRefused_564 ki_L_110 <| j_icmp_ne_t (tgt := 993) dL_isRefused_566 (by decide) hc (j_pick [0, 1, 2, 3, 4, 7] rfl K), q⟩
theorem bL_isRefused_569 {h0 h : k_H} {Q : k_H → k_R → Prop} {x0 x1 x2 : Option Nat} {x3 x4 x5 x6 : Int32} {x7 : Int64} {P : k_H → Int32 → Prop} (c : k_cti (tL_act G l) [vR x0, vI 9, vI x6, vI 5, vI 5, vI ((-1) - (x3 - (x3 / 30) * 30)), vI 0, vI 0] h P) (K : ∀ h1 v, P h1 v → k_X (jL_isRefused G l h0) h1 587 [(0, vR x0), (1, vR x1), (2, vR x2), (3, vI x3), (4, vI x4), (5, vI x5), (6, vI x6), (7, vJ x7)] [vI v] Q) : k_X (jL_isRefused G l h0) h 569 [(0, vR x0), (1, vR x1), (2, vR x2), (3, vI x3), (4, vI x4), (5, vI x5), (6, vI x6), (7, vJ x7)] [] Q := by
  obtain ⟨h1, v, c, p⟩ := c
  obtain ⟨h', r, K, q⟩ := K h1 v p
  exact ⟨h', r, j_aload_n dL_isRefused_569 rfl rfl <| j_bipush (v := 9) dL_isRefused_570 (by decide) <| j_iload dL_isRefused_572 rfl <| j_iconst (v := 5) dL_isRefused_574 (by decide) <| j_iconst (v := 5) dL_isRefused_575 (by decide) <| j_iconst (v := (-1)) dL_isRefused_576 (by decide) <| j_iload_n dL_isRefused_577 rfl rfl <| j_bipush (v := 30) dL_isRefused_578 (by decide) <| j_irem dL_isRefused_580 (by decide) <| j_isub dL_isRefused_581 <| j_iconst (v := 0) dL_isRefused_582 (by decide) <| j_iconst (v := 0) dL_isRefused_583 (by decide) <| j_callW (v := some (vI v)) (as := [vR x0, vI 9, vI x6, vI 5, vI 5, vI ((-1) - (x3 - (x3 / 30) * 30)), vI 0, vI 0]) dL_isRefused_584 kcw_L_149 rfl rfl (by decide) (Nat.le_of_ble_eq_true rfl) c K, q⟩
theorem bL_isRefused_587 {h0 h : k_H} {Q : k_H → k_R → Prop} {x0 x1 x2 : Option Nat} {x3 x4 x5 x6 s0 : Int32} {x7 : Int64} (K1 : ¬ (s0 = (-2000000001)) → k_X (jL_isRefused G l h0) h 993 [(0, vR x0), (1, vR x1), (2, vR x2), (3, vI x3), (4, vI x4), (7, vJ x7)] [] Q) (K2 : s0 = (-2000000001) → k_X (jL_isRefused G l h0) h 592 [(0, vR x0), (1, vR x1), (2, vR x2), (3, vI x3), (4, vI x4), (5, vI x5), (6, vI x6), (7, vJ x7)] [] Q) : k_X (jL_isRefused G l h0) h 587 [(0, vR x0), (1, vR x1), (2, vR x2), (3, vI x3), (4, vI x4), (5, vI x5), (6, vI x6), (7, vJ x7)] [vI s0] Q := by
  by_cases hc : s0 = (-2000000001)
  · skip
    obtain ⟨h', r, K, q⟩ := K2 hc
    exact ⟨h', r, j_ldc (v := (-2000000001)) dL_isRefused_587 ki_L_107 <| j_icmp_ne_f dL_isRefused_589 993 (by decide) hc K, q⟩
  · skip
    obtain ⟨h', r, K, q⟩ := K1 hc
    exact ⟨h', r, j_ldc (v := (-2000000001)) dL_isRefused_587 ki_L_107 <| j_icmp_ne_t (tgt := 993) dL_isRefused_589 (by decide) hc (j_pick [0, 1, 2, 3, 4, 7] rfl K), q⟩
theorem bL_isRefused_592 {h0 h : k_H} {Q : k_H → k_R → Prop} {x0 x1 x2 : Option Nat} {x3 x4 x5 x6 : Int32} {x7 : Int64} {P : k_H → Int32 → Prop} (c : k_cti (tL_act G l) [vR x0, vI 9, vI x6, vI 5, vI 5, vI 0, vI 0, vI 0] h P) (K : ∀ h1 v, P h1 v → k_X (jL_isRefused G l h0) h1 605 [(0, vR x0), (1, vR x1), (2, vR x2), (3, vI x3), (4, vI x4), (5, vI x5), (7, vJ x7)] [vI v] Q) : k_X (jL_isRefused G l h0) h 592 [(0, vR x0), (1, vR x1), (2, vR x2), (3, vI x3), (4, vI x4), (5, vI x5), (6, vI x6), (7, vJ x7)] [] Q := by
  obtain ⟨h1, v, c, p⟩ := c
  obtain ⟨h', r, K, q⟩ := K h1 v p
  exact ⟨h', r, j_aload_n dL_isRefused_592 rfl rfl <| j_bipush (v := 9) dL_isRefused_593 (by decide) <| j_iload dL_isRefused_595 rfl <| j_iconst (v := 5) dL_isRefused_597 (by decide) <| j_iconst (v := 5) dL_isRefused_598 (by decide) <| j_iconst (v := 0) dL_isRefused_599 (by decide) <| j_iconst (v := 0) dL_isRefused_600 (by decide) <| j_iconst (v := 0) dL_isRefused_601 (by decide) <| j_callW (v := some (vI v)) (as := [vR x0, vI 9, vI x6, vI 5, vI 5, vI 0, vI 0, vI 0]) dL_isRefused_602 kcw_L_149 rfl rfl (by decide) (Nat.le_of_ble_eq_true rfl) c (j_pick [0, 1, 2, 3, 4, 5, 7] rfl K), q⟩
theorem bL_isRefused_605 {h0 h : k_H} {Q : k_H → k_R → Prop} {x0 x1 x2 : Option Nat} {x3 x4 x5 s0 : Int32} {x7 : Int64} (K1 : ¬ (s0 = (-2000000002)) → k_X (jL_isRefused G l h0) h 993 [(0, vR x0), (1, vR x1), (2, vR x2), (3, vI x3), (4, vI x4), (7, vJ x7)] [] Q) (K2 : s0 = (-2000000002) → k_X (jL_isRefused G l h0) h 610 [(0, vR x0), (1, vR x1), (2, vR x2), (3, vI x3), (4, vI x4), (5, vI x5), (7, vJ x7)] [] Q) : k_X (jL_isRefused G l h0) h 605 [(0, vR x0), (1, vR x1), (2, vR x2), (3, vI x3), (4, vI x4), (5, vI x5), (7, vJ x7)] [vI s0] Q := by
  by_cases hc : s0 = (-2000000002)
  · skip
    obtain ⟨h', r, K, q⟩ := K2 hc
    exact ⟨h', r, j_ldc (v := (-2000000002)) dL_isRefused_605 ki_L_110 <| j_icmp_ne_f dL_isRefused_607 993 (by decide) hc K, q⟩
  · skip
    obtain ⟨h', r, K, q⟩ := K1 hc
    exact ⟨h', r, j_ldc (v := (-2000000002)) dL_isRefused_605 ki_L_110 <| j_icmp_ne_t (tgt := 993) dL_isRefused_607 (by decide) hc (j_pick [0, 1, 2, 3, 4, 6] rfl K), q⟩
theorem bL_isRefused_610 {h0 h : k_H} {Q : k_H → k_R → Prop} {x0 x1 x2 : Option Nat} {x3 x4 x5 : Int32} {x7 : Int64} {P : k_H → Int32 → Prop} (c : k_cti (tL_act G l) [vR x0, vI 10, vI x5, vI 999, vI 0, vI 0, vI 0, vI 0] h P) (K : ∀ h1 v, P h1 v → k_X (jL_isRefused G l h0) h1 625 [(0, vR x0), (1, vR x1), (2, vR x2), (3, vI x3), (4, vI x4), (5, vI x5), (7, vJ x7)] [vI v] Q) : k_X (jL_isRefused G l h0) h 610 [(0, vR x0), (1, vR x1), (2, vR x2), (3, vI x3), (4, vI x4), (5, vI x5), (7, vJ x7)] [] Q := by
  obtain ⟨h1, v, c, p⟩ := c
  obtain ⟨h', r, K, q⟩ := K h1 v p
  exact ⟨h', r, j_aload_n dL_isRefused_610 rfl rfl <| j_bipush (v := 10) dL_isRefused_611 (by decide) <| j_iload dL_isRefused_613 rfl <| j_sipush (v := 999) dL_isRefused_615 (by decide) <| j_iconst (v := 0) dL_isRefused_618 (by decide) <| j_iconst (v := 0) dL_isRefused_619 (by decide) <| j_iconst (v := 0) dL_isRefused_620 (by decide) <| j_iconst (v := 0) dL_isRefused_621 (by decide) <| j_callW (v := some (vI v)) (as := [vR x0, vI 10, vI x5, vI 999, vI 0, vI 0, vI 0, vI 0]) dL_isRefused_622 kcw_L_149 rfl rfl (by decide) (Nat.le_of_ble_eq_true rfl) c K, q⟩
theorem bL_isRefused_625 {h0 h : k_H} {Q : k_H → k_R → Prop} {x0 x1 x2 : Option Nat} {x3 x4 x5 s0 : Int32} {x7 : Int64} (K1 : ¬ (s0 = (-2000000001)) → k_X (jL_isRefused G l h0) h 993 [(0, vR x0), (1, vR x1), (2, vR x2), (3, vI x3), (4, vI x4), (7, vJ x7)] [] Q) (K2 : s0 = (-2000000001) → k_X (jL_isRefused G l h0) h 630 [(0, vR x0), (1, vR x1), (2, vR x2), (3, vI x3), (4, vI x4), (5, vI x5), (7, vJ x7)] [] Q) : k_X (jL_isRefused G l h0) h 625 [(0, vR x0), (1, vR x1), (2, vR x2), (3, vI x3), (4, vI x4), (5, vI x5), (7, vJ x7)] [vI s0] Q := by
  by_cases hc : s0 = (-2000000001)
  · skip
    obtain ⟨h', r, K, q⟩ := K2 hc
    exact ⟨h', r, j_ldc (v := (-2000000001)) dL_isRefused_625 ki_L_107 <| j_icmp_ne_f dL_isRefused_627 993 (by decide) hc K, q⟩
  · skip
    obtain ⟨h', r, K, q⟩ := K1 hc
    exact ⟨h', r, j_ldc (v := (-2000000001)) dL_isRefused_625 ki_L_107 <| j_icmp_ne_t (tgt := 993) dL_isRefused_627 (by decide) hc (j_pick [0, 1, 2, 3, 4, 6] rfl K), q⟩
theorem bL_isRefused_630 {h0 h : k_H} {Q : k_H → k_R → Prop} {x0 x1 x2 : Option Nat} {x3 x4 x5 : Int32} {x7 : Int64} (K1 : x4 = 0 → k_X (jL_isRefused G l h0) h 643 [(0, vR x0), (1, vR x1), (2, vR x2), (3, vI x3), (4, vI x4), (5, vI x5), (7, vJ x7)] [vI 0, vI 10, vR x0] Q) (K2 : ¬ (x4 = 0) → k_X (jL_isRefused G l h0) h 639 [(0, vR x0), (1, vR x1), (2, vR x2), (3, vI x3), (4, vI x4), (5, vI x5), (7, vJ x7)] [vI 0, vI 10, vR x0] Q) : k_X (jL_isRefused G l h0) h 630 [(0, vR x0), (1, vR x1), (2, vR x2), (3, vI x3), (4, vI x4), (5, vI x5), (7, vJ x7)] [] Q := by
  by_cases hc : x4 = 0
  · skip
    obtain ⟨h', r, K, q⟩ := K1 hc
    exact ⟨h', r, j_aload_n dL_isRefused_630 rfl rfl <| j_bipush (v := 10) dL_isRefused_631 (by decide) <| j_iconst (v := 0) dL_isRefused_633 (by decide) <| j_iload dL_isRefused_634 rfl <| j_if_eq_t (tgt := 643) dL_isRefused_636 (by decide) hc K, q⟩
  · skip
    obtain ⟨h', r, K, q⟩ := K2 hc
    exact ⟨h', r, j_aload_n dL_isRefused_630 rfl rfl <| j_bipush (v := 10) dL_isRefused_631 (by decide) <| j_iconst (v := 0) dL_isRefused_633 (by decide) <| j_iload dL_isRefused_634 rfl <| j_if_eq_f dL_isRefused_636 643 (by decide) hc K, q⟩
theorem bL_isRefused_639 {h0 h : k_H} {Q : k_H → k_R → Prop} {x0 x1 x2 s0 : Option Nat} {x3 x4 x5 s1 s2 : Int32} {x7 : Int64} (K : k_X (jL_isRefused G l h0) h 650 [(0, vR x0), (1, vR x1), (2, vR x2), (3, vI x3), (4, vI x4), (5, vI x5), (7, vJ x7)] [vI (-1), vI s2, vI s1, vR s0] Q) : k_X (jL_isRefused G l h0) h 639 [(0, vR x0), (1, vR x1), (2, vR x2), (3, vI x3), (4, vI x4), (5, vI x5), (7, vJ x7)] [vI s2, vI s1, vR s0] Q := by
  obtain ⟨h', r, K, q⟩ := K
  exact ⟨h', r, j_iconst (v := (-1)) dL_isRefused_639 (by decide) <| j_goto (tgt := 650) dL_isRefused_640 (by decide) <| K, q⟩
theorem bL_isRefused_643 {h0 h : k_H} {Q : k_H → k_R → Prop} {x0 x1 x2 s0 : Option Nat} {x3 x4 x5 s1 s2 : Int32} {x7 : Int64} (K : k_X (jL_isRefused G l h0) h 650 [(0, vR x0), (1, vR x1), (2, vR x2), (3, vI x3), (4, vI x4), (5, vI x5), (7, vJ x7)] [vI (100 + (x3 - (x3 / 30) * 30)), vI s2, vI s1, vR s0] Q) : k_X (jL_isRefused G l h0) h 643 [(0, vR x0), (1, vR x1), (2, vR x2), (3, vI x3), (4, vI x4), (5, vI x5), (7, vJ x7)] [vI s2, vI s1, vR s0] Q := by
  obtain ⟨h', r, K, q⟩ := K
  exact ⟨h', r, j_bipush (v := 100) dL_isRefused_643 (by decide) <| j_iload_n dL_isRefused_645 rfl rfl <| j_bipush (v := 30) dL_isRefused_646 (by decide) <| j_irem dL_isRefused_648 (by decide) <| j_iadd dL_isRefused_649 <| K, q⟩
theorem bL_isRefused_650 {h0 h : k_H} {Q : k_H → k_R → Prop} {x0 x1 x2 s0 : Option Nat} {x3 x4 x5 s1 s2 s3 : Int32} {x7 : Int64} {P : k_H → Int32 → Prop} (c : k_cti (tL_act G l) [vR s0, vI s1, vI s2, vI s3, vI 0, vI 0, vI 0, vI 0] h P) (K : ∀ h1 v, P h1 v → k_X (jL_isRefused G l h0) h1 657 [(0, vR x0), (1, vR x1), (2, vR x2), (3, vI x3), (4, vI x4), (5, vI x5), (7, vJ x7)] [vI v] Q) : k_X (jL_isRefused G l h0) h 650 [(0, vR x0), (1, vR x1), (2, vR x2), (3, vI x3), (4, vI x4), (5, vI x5), (7, vJ x7)] [vI s3, vI s2, vI s1, vR s0] Q := by
  obtain ⟨h1, v, c, p⟩ := c
  obtain ⟨h', r, K, q⟩ := K h1 v p
  exact ⟨h', r, j_iconst (v := 0) dL_isRefused_650 (by decide) <| j_iconst (v := 0) dL_isRefused_651 (by decide) <| j_iconst (v := 0) dL_isRefused_652 (by decide) <| j_iconst (v := 0) dL_isRefused_653 (by decide) <| j_callW (v := some (vI v)) (as := [vR s0, vI s1, vI s2, vI s3, vI 0, vI 0, vI 0, vI 0]) dL_isRefused_654 kcw_L_149 rfl rfl (by decide) (Nat.le_of_ble_eq_true rfl) c K, q⟩
theorem bL_isRefused_657 {h0 h : k_H} {Q : k_H → k_R → Prop} {x0 x1 x2 : Option Nat} {x3 x4 x5 s0 : Int32} {x7 : Int64} (K1 : ¬ (s0 = (-2000000002)) → k_X (jL_isRefused G l h0) h 993 [(0, vR x0), (1, vR x1), (2, vR x2), (3, vI x3), (4, vI x4), (7, vJ x7)] [] Q) (K2 : s0 = (-2000000002) → k_X (jL_isRefused G l h0) h 662 [(0, vR x0), (1, vR x1), (2, vR x2), (3, vI x3), (4, vI x4), (5, vI x5), (7, vJ x7)] [] Q) : k_X (jL_isRefused G l h0) h 657 [(0, vR x0), (1, vR x1), (2, vR x2), (3, vI x3), (4, vI x4), (5, vI x5), (7, vJ x7)] [vI s0] Q := by
  by_cases hc : s0 = (-2000000002)
  · skip
    obtain ⟨h', r, K, q⟩ := K2 hc
    exact ⟨h', r, j_ldc (v := (-2000000002)) dL_isRefused_657 ki_L_110 <| j_icmp_ne_f dL_isRefused_659 993 (by decide) hc K, q⟩
  · skip
    obtain ⟨h', r, K, q⟩ := K1 hc
    exact ⟨h', r, j_ldc (v := (-2000000002)) dL_isRefused_657 ki_L_110 <| j_icmp_ne_t (tgt := 993) dL_isRefused_659 (by decide) hc (j_pick [0, 1, 2, 3, 4, 6] rfl K), q⟩
theorem bL_isRefused_662 {h0 h : k_H} {Q : k_H → k_R → Prop} {x0 x1 x2 : Option Nat} {x3 x4 x5 : Int32} {x7 : Int64} (K1 : x4 = 0 → k_X (jL_isRefused G l h0) h 681 [(0, vR x0), (1, vR x1), (2, vR x2), (3, vI x3), (4, vI x4), (5, vI x5), (7, vJ x7)] [vI 0, vI 0, vI 10, vR x0] Q) (K2 : ¬ (x4 = 0) → k_X (jL_isRefused G l h0) h 672 [(0, vR x0), (1, vR x1), (2, vR x2), (3, vI x3), (4, vI x4), (5, vI x5), (7, vJ x7)] [vI 0, vI 0, vI 10, vR x0] Q) : k_X (jL_isRefused G l h0) h 662 [(0, vR x0), (1, vR x1), (2, vR x2), (3, vI x3), (4, vI x4), (5, vI x5), (7, vJ x7)] [] Q := by
  by_cases hc : x4 = 0
  · skip
    obtain ⟨h', r, K, q⟩ := K1 hc
    exact ⟨h', r, j_aload_n dL_isRefused_662 rfl rfl <| j_bipush (v := 10) dL_isRefused_663 (by decide) <| j_iconst (v := 0) dL_isRefused_665 (by decide) <| j_iconst (v := 0) dL_isRefused_666 (by decide) <| j_iload dL_isRefused_667 rfl <| j_if_eq_t (tgt := 681) dL_isRefused_669 (by decide) hc K, q⟩
  · skip
    obtain ⟨h', r, K, q⟩ := K2 hc
    exact ⟨h', r, j_aload_n dL_isRefused_662 rfl rfl <| j_bipush (v := 10) dL_isRefused_663 (by decide) <| j_iconst (v := 0) dL_isRefused_665 (by decide) <| j_iconst (v := 0) dL_isRefused_666 (by decide) <| j_iload dL_isRefused_667 rfl <| j_if_eq_f dL_isRefused_669 681 (by decide) hc K, q⟩
theorem bL_isRefused_672 {h0 h : k_H} {Q : k_H → k_R → Prop} {x0 x1 x2 s0 : Option Nat} {x3 x4 x5 s1 s2 s3 : Int32} {x7 : Int64} (K : k_X (jL_isRefused G l h0) h 683 [(0, vR x0), (1, vR x1), (2, vR x2), (3, vI x3), (4, vI x4), (5, vI x5), (7, vJ x7)] [vI ((-1) - (x3 - (x3 / 30) * 30)), vI s3, vI s2, vI s1, vR s0] Q) : k_X (jL_isRefused G l h0) h 672 [(0, vR x0), (1, vR x1), (2, vR x2), (3, vI x3), (4, vI x4), (5, vI x5), (7, vJ x7)] [vI s3, vI s2, vI s1, vR s0] Q := by
  obtain ⟨h', r, K, q⟩ := K
  exact ⟨h', r, j_iconst (v := (-1)) dL_isRefused_672 (by decide) <| j_iload_n dL_isRefused_673 rfl rfl <| j_bipush (v := 30) dL_isRefused_674 (by decide) <| j_irem dL_isRefused_676 (by decide) <| j_isub dL_isRefused_677 <| j_goto (tgt := 683) dL_isRefused_678 (by decide) <| K, q⟩
theorem bL_isRefused_681 {h0 h : k_H} {Q : k_H → k_R → Prop} {x0 x1 x2 s0 : Option Nat} {x3 x4 x5 s1 s2 s3 : Int32} {x7 : Int64} (K : k_X (jL_isRefused G l h0) h 683 [(0, vR x0), (1, vR x1), (2, vR x2), (3, vI x3), (4, vI x4), (5, vI x5), (7, vJ x7)] [vI 100, vI s3, vI s2, vI s1, vR s0] Q) : k_X (jL_isRefused G l h0) h 681 [(0, vR x0), (1, vR x1), (2, vR x2), (3, vI x3), (4, vI x4), (5, vI x5), (7, vJ x7)] [vI s3, vI s2, vI s1, vR s0] Q := by
  obtain ⟨h', r, K, q⟩ := K
  exact ⟨h', r, j_bipush (v := 100) dL_isRefused_681 (by decide) <| K, q⟩
theorem bL_isRefused_683 {h0 h : k_H} {Q : k_H → k_R → Prop} {x0 x1 x2 s0 : Option Nat} {x3 x4 x5 s1 s2 s3 s4 : Int32} {x7 : Int64} {P : k_H → Int32 → Prop} (c : k_cti (tL_act G l) [vR s0, vI s1, vI s2, vI s3, vI s4, vI 0, vI 0, vI 0] h P) (K : ∀ h1 v, P h1 v → k_X (jL_isRefused G l h0) h1 689 [(0, vR x0), (1, vR x1), (2, vR x2), (3, vI x3), (4, vI x4), (5, vI x5), (7, vJ x7)] [vI v] Q) : k_X (jL_isRefused G l h0) h 683 [(0, vR x0), (1, vR x1), (2, vR x2), (3, vI x3), (4, vI x4), (5, vI x5), (7, vJ x7)] [vI s4, vI s3, vI s2, vI s1, vR s0] Q := by
  obtain ⟨h1, v, c, p⟩ := c
  obtain ⟨h', r, K, q⟩ := K h1 v p
  exact ⟨h', r, j_iconst (v := 0) dL_isRefused_683 (by decide) <| j_iconst (v := 0) dL_isRefused_684 (by decide) <| j_iconst (v := 0) dL_isRefused_685 (by decide) <| j_callW (v := some (vI v)) (as := [vR s0, vI s1, vI s2, vI s3, vI s4, vI 0, vI 0, vI 0]) dL_isRefused_686 kcw_L_149 rfl rfl (by decide) (Nat.le_of_ble_eq_true rfl) c K, q⟩
theorem bL_isRefused_689 {h0 h : k_H} {Q : k_H → k_R → Prop} {x0 x1 x2 : Option Nat} {x3 x4 x5 s0 : Int32} {x7 : Int64} (K1 : ¬ (s0 = (-2000000002)) → k_X (jL_isRefused G l h0) h 993 [(0, vR x0), (1, vR x1), (2, vR x2), (3, vI x3), (4, vI x4), (7, vJ x7)] [] Q) (K2 : s0 = (-2000000002) → k_X (jL_isRefused G l h0) h 694 [(0, vR x0), (1, vR x1), (2, vR x2), (3, vI x3), (4, vI x4), (5, vI x5), (7, vJ x7)] [] Q) : k_X (jL_isRefused G l h0) h 689 [(0, vR x0), (1, vR x1), (2, vR x2), (3, vI x3), (4, vI x4), (5, vI x5), (7, vJ x7)] [vI s0] Q := by
  by_cases hc : s0 = (-2000000002)
  · skip
    obtain ⟨h', r, K, q⟩ := K2 hc
    exact ⟨h', r, j_ldc (v := (-2000000002)) dL_isRefused_689 ki_L_110 <| j_icmp_ne_f dL_isRefused_691 993 (by decide) hc K, q⟩
  · skip
    obtain ⟨h', r, K, q⟩ := K1 hc
    exact ⟨h', r, j_ldc (v := (-2000000002)) dL_isRefused_689 ki_L_110 <| j_icmp_ne_t (tgt := 993) dL_isRefused_691 (by decide) hc (j_pick [0, 1, 2, 3, 4, 6] rfl K), q⟩
theorem bL_isRefused_694 {h0 h : k_H} {Q : k_H → k_R → Prop} {x0 x1 x2 : Option Nat} {x3 x4 x5 : Int32} {x7 : Int64} (K1 : x4 = 0 → k_X (jL_isRefused G l h0) h 707 [(0, vR x0), (1, vR x1), (2, vR x2), (3, vI x3), (4, vI x4), (5, vI x5), (7, vJ x7)] [vI 0, vI 11, vR x0] Q) (K2 : ¬ (x4 = 0) → k_X (jL_isRefused G l h0) h 703 [(0, vR x0), (1, vR x1), (2, vR x2), (3, vI x3), (4, vI x4), (5, vI x5), (7, vJ x7)] [vI 0, vI 11, vR x0] Q) : k_X (jL_isRefused G l h0) h 694 [(0, vR x0), (1, vR x1), (2, vR x2), (3, vI x3), (4, vI x4), (5, vI x5), (7, vJ x7)] [] Q := by
  by_cases hc : x4 = 0
  · skip
    obtain ⟨h', r, K, q⟩ := K1 hc
    exact ⟨h', r, j_aload_n dL_isRefused_694 rfl rfl <| j_bipush (v := 11) dL_isRefused_695 (by decide) <| j_iconst (v := 0) dL_isRefused_697 (by decide) <| j_iload dL_isRefused_698 rfl <| j_if_eq_t (tgt := 707) dL_isRefused_700 (by decide) hc K, q⟩
  · skip
    obtain ⟨h', r, K, q⟩ := K2 hc
    exact ⟨h', r, j_aload_n dL_isRefused_694 rfl rfl <| j_bipush (v := 11) dL_isRefused_695 (by decide) <| j_iconst (v := 0) dL_isRefused_697 (by decide) <| j_iload dL_isRefused_698 rfl <| j_if_eq_f dL_isRefused_700 707 (by decide) hc K, q⟩
theorem bL_isRefused_703 {h0 h : k_H} {Q : k_H → k_R → Prop} {x0 x1 x2 s0 : Option Nat} {x3 x4 x5 s1 s2 : Int32} {x7 : Int64} (K : k_X (jL_isRefused G l h0) h 714 [(0, vR x0), (1, vR x1), (2, vR x2), (3, vI x3), (4, vI x4), (5, vI x5), (7, vJ x7)] [vI (-1), vI s2, vI s1, vR s0] Q) : k_X (jL_isRefused G l h0) h 703 [(0, vR x0), (1, vR x1), (2, vR x2), (3, vI x3), (4, vI x4), (5, vI x5), (7, vJ x7)] [vI s2, vI s1, vR s0] Q := by
  obtain ⟨h', r, K, q⟩ := K
  exact ⟨h', r, j_iconst (v := (-1)) dL_isRefused_703 (by decide) <| j_goto (tgt := 714) dL_isRefused_704 (by decide) <| K, q⟩
theorem bL_isRefused_707 {h0 h : k_H} {Q : k_H → k_R → Prop} {x0 x1 x2 s0 : Option Nat} {x3 x4 x5 s1 s2 : Int32} {x7 : Int64} (K : k_X (jL_isRefused G l h0) h 714 [(0, vR x0), (1, vR x1), (2, vR x2), (3, vI x3), (4, vI x4), (5, vI x5), (7, vJ x7)] [vI (100 + (x3 - (x3 / 30) * 30)), vI s2, vI s1, vR s0] Q) : k_X (jL_isRefused G l h0) h 707 [(0, vR x0), (1, vR x1), (2, vR x2), (3, vI x3), (4, vI x4), (5, vI x5), (7, vJ x7)] [vI s2, vI s1, vR s0] Q := by
  obtain ⟨h', r, K, q⟩ := K
  exact ⟨h', r, j_bipush (v := 100) dL_isRefused_707 (by decide) <| j_iload_n dL_isRefused_709 rfl rfl <| j_bipush (v := 30) dL_isRefused_710 (by decide) <| j_irem dL_isRefused_712 (by decide) <| j_iadd dL_isRefused_713 <| K, q⟩
theorem bL_isRefused_714 {h0 h : k_H} {Q : k_H → k_R → Prop} {x0 x1 x2 s0 : Option Nat} {x3 x4 x5 s1 s2 s3 : Int32} {x7 : Int64} {P : k_H → Int32 → Prop} (c : k_cti (tL_act G l) [vR s0, vI s1, vI s2, vI s3, vI 0, vI 0, vI 0, vI 0] h P) (K : ∀ h1 v, P h1 v → k_X (jL_isRefused G l h0) h1 721 [(0, vR x0), (1, vR x1), (2, vR x2), (3, vI x3), (4, vI x4), (5, vI x5), (7, vJ x7)] [vI v] Q) : k_X (jL_isRefused G l h0) h 714 [(0, vR x0), (1, vR x1), (2, vR x2), (3, vI x3), (4, vI x4), (5, vI x5), (7, vJ x7)] [vI s3, vI s2, vI s1, vR s0] Q := by
  obtain ⟨h1, v, c, p⟩ := c
  obtain ⟨h', r, K, q⟩ := K h1 v p
  exact ⟨h', r, j_iconst (v := 0) dL_isRefused_714 (by decide) <| j_iconst (v := 0) dL_isRefused_715 (by decide) <| j_iconst (v := 0) dL_isRefused_716 (by decide) <| j_iconst (v := 0) dL_isRefused_717 (by decide) <| j_callW (v := some (vI v)) (as := [vR s0, vI s1, vI s2, vI s3, vI 0, vI 0, vI 0, vI 0]) dL_isRefused_718 kcw_L_149 rfl rfl (by decide) (Nat.le_of_ble_eq_true rfl) c K, q⟩
theorem bL_isRefused_721 {h0 h : k_H} {Q : k_H → k_R → Prop} {x0 x1 x2 : Option Nat} {x3 x4 x5 s0 : Int32} {x7 : Int64} (K1 : ¬ (s0 = (-2000000002)) → k_X (jL_isRefused G l h0) h 993 [(0, vR x0), (1, vR x1), (2, vR x2), (3, vI x3), (4, vI x4), (7, vJ x7)] [] Q) (K2 : s0 = (-2000000002) → k_X (jL_isRefused G l h0) h 726 [(0, vR x0), (1, vR x1), (2, vR x2), (3, vI x3), (4, vI x4), (5, vI x5), (7, vJ x7)] [] Q) : k_X (jL_isRefused G l h0) h 721 [(0, vR x0), (1, vR x1), (2, vR x2), (3, vI x3), (4, vI x4), (5, vI x5), (7, vJ x7)] [vI s0] Q := by
  by_cases hc : s0 = (-2000000002)
  · skip
    obtain ⟨h', r, K, q⟩ := K2 hc
    exact ⟨h', r, j_ldc (v := (-2000000002)) dL_isRefused_721 ki_L_110 <| j_icmp_ne_f dL_isRefused_723 993 (by decide) hc K, q⟩
  · skip
    obtain ⟨h', r, K, q⟩ := K1 hc
    exact ⟨h', r, j_ldc (v := (-2000000002)) dL_isRefused_721 ki_L_110 <| j_icmp_ne_t (tgt := 993) dL_isRefused_723 (by decide) hc (j_pick [0, 1, 2, 3, 4, 6] rfl K), q⟩
theorem bL_isRefused_726 {h0 h : k_H} {Q : k_H → k_R → Prop} {x0 x1 x2 : Option Nat} {x3 x4 x5 : Int32} {x7 : Int64} (K1 : x4 = 0 → k_X (jL_isRefused G l h0) h 738 [(0, vR x0), (1, vR x1), (2, vR x2), (3, vI x3), (4, vI x4), (5, vI x5), (7, vJ x7)] [vI 12, vR x0] Q) (K2 : ¬ (x4 = 0) → k_X (jL_isRefused G l h0) h 734 [(0, vR x0), (1, vR x1), (2, vR x2), (3, vI x3), (4, vI x4), (5, vI x5), (7, vJ x7)] [vI 12, vR x0] Q) : k_X (jL_isRefused G l h0) h 726 [(0, vR x0), (1, vR x1), (2, vR x2), (3, vI x3), (4, vI x4), (5, vI x5), (7, vJ x7)] [] Q := by
  by_cases hc : x4 = 0
  · skip
    obtain ⟨h', r, K, q⟩ := K1 hc
    exact ⟨h', r, j_aload_n dL_isRefused_726 rfl rfl <| j_bipush (v := 12) dL_isRefused_727 (by decide) <| j_iload dL_isRefused_729 rfl <| j_if_eq_t (tgt := 738) dL_isRefused_731 (by decide) hc K, q⟩
  · skip
    obtain ⟨h', r, K, q⟩ := K2 hc
    exact ⟨h', r, j_aload_n dL_isRefused_726 rfl rfl <| j_bipush (v := 12) dL_isRefused_727 (by decide) <| j_iload dL_isRefused_729 rfl <| j_if_eq_f dL_isRefused_731 738 (by decide) hc K, q⟩
theorem bL_isRefused_734 {h0 h : k_H} {Q : k_H → k_R → Prop} {x0 x1 x2 s0 : Option Nat} {x3 x4 x5 s1 : Int32} {x7 : Int64} (K : k_X (jL_isRefused G l h0) h 744 [(0, vR x0), (1, vR x1), (2, vR x2), (3, vI x3), (4, vI x4), (5, vI x5), (7, vJ x7)] [vI (-1), vI s1, vR s0] Q) : k_X (jL_isRefused G l h0) h 734 [(0, vR x0), (1, vR x1), (2, vR x2), (3, vI x3), (4, vI x4), (5, vI x5), (7, vJ x7)] [vI s1, vR s0] Q := by
  obtain ⟨h', r, K, q⟩ := K
  exact ⟨h', r, j_iconst (v := (-1)) dL_isRefused_734 (by decide) <| j_goto (tgt := 744) dL_isRefused_735 (by decide) <| K, q⟩
theorem bL_isRefused_738 {h0 h : k_H} {Q : k_H → k_R → Prop} {x0 x1 x2 s0 : Option Nat} {x3 x4 x5 s1 : Int32} {x7 : Int64} (K : k_X (jL_isRefused G l h0) h 744 [(0, vR x0), (1, vR x1), (2, vR x2), (3, vI x3), (4, vI x4), (5, vI x5), (7, vJ x7)] [vI (3 + (x3 - (x3 / 30) * 30)), vI s1, vR s0] Q) : k_X (jL_isRefused G l h0) h 738 [(0, vR x0), (1, vR x1), (2, vR x2), (3, vI x3), (4, vI x4), (5, vI x5), (7, vJ x7)] [vI s1, vR s0] Q := by
  obtain ⟨h', r, K, q⟩ := K
  exact ⟨h', r, j_iconst (v := 3) dL_isRefused_738 (by decide) <| j_iload_n dL_isRefused_739 rfl rfl <| j_bipush (v := 30) dL_isRefused_740 (by decide) <| j_irem dL_isRefused_742 (by decide) <| j_iadd dL_isRefused_743 <| K, q⟩
theorem bL_isRefused_744 {h0 h : k_H} {Q : k_H → k_R → Prop} {x0 x1 x2 s0 : Option Nat} {x3 x4 x5 s1 s2 : Int32} {x7 : Int64} {P : k_H → Int32 → Prop} (c : k_cti (tL_act G l) [vR s0, vI s1, vI s2, vI 99, vI 0, vI 0, vI 0, vI 0] h P) (K : ∀ h1 v, P h1 v → k_X (jL_isRefused G l h0) h1 753 [(0, vR x0), (1, vR x1), (2, vR x2), (3, vI x3), (4, vI x4), (5, vI x5), (7, vJ x7)] [vI v] Q) : k_X (jL_isRefused G l h0) h 744 [(0, vR x0), (1, vR x1), (2, vR x2), (3, vI x3), (4, vI x4), (5, vI x5), (7, vJ x7)] [vI s2, vI s1, vR s0] Q := by
  obtain ⟨h1, v, c, p⟩ := c
  obtain ⟨h', r, K, q⟩ := K h1 v p
  exact ⟨h', r, j_bipush (v := 99) dL_isRefused_744 (by decide) <| j_iconst (v := 0) dL_isRefused_746 (by decide) <| j_iconst (v := 0) dL_isRefused_747 (by decide) <| j_iconst (v := 0) dL_isRefused_748 (by decide) <| j_iconst (v := 0) dL_isRefused_749 (by decide) <| j_callW (v := some (vI v)) (as := [vR s0, vI s1, vI s2, vI 99, vI 0, vI 0, vI 0, vI 0]) dL_isRefused_750 kcw_L_149 rfl rfl (by decide) (Nat.le_of_ble_eq_true rfl) c K, q⟩
theorem bL_isRefused_753 {h0 h : k_H} {Q : k_H → k_R → Prop} {x0 x1 x2 : Option Nat} {x3 x4 x5 s0 : Int32} {x7 : Int64} (K1 : ¬ (s0 = (-2000000001)) → k_X (jL_isRefused G l h0) h 993 [(0, vR x0), (1, vR x1), (2, vR x2), (3, vI x3), (4, vI x4), (7, vJ x7)] [] Q) (K2 : s0 = (-2000000001) → k_X (jL_isRefused G l h0) h 758 [(0, vR x0), (1, vR x1), (2, vR x2), (3, vI x3), (4, vI x4), (5, vI x5), (7, vJ x7)] [] Q) : k_X (jL_isRefused G l h0) h 753 [(0, vR x0), (1, vR x1), (2, vR x2), (3, vI x3), (4, vI x4), (5, vI x5), (7, vJ x7)] [vI s0] Q := by
  by_cases hc : s0 = (-2000000001)
  · skip
    obtain ⟨h', r, K, q⟩ := K2 hc
    exact ⟨h', r, j_ldc (v := (-2000000001)) dL_isRefused_753 ki_L_107 <| j_icmp_ne_f dL_isRefused_755 993 (by decide) hc K, q⟩
  · skip
    obtain ⟨h', r, K, q⟩ := K1 hc
    exact ⟨h', r, j_ldc (v := (-2000000001)) dL_isRefused_753 ki_L_107 <| j_icmp_ne_t (tgt := 993) dL_isRefused_755 (by decide) hc (j_pick [0, 1, 2, 3, 4, 6] rfl K), q⟩
theorem bL_isRefused_758 {h0 h : k_H} {Q : k_H → k_R → Prop} {x0 x1 x2 : Option Nat} {x3 x4 x5 : Int32} {x7 : Int64} (K1 : x4 = 0 → k_X (jL_isRefused G l h0) h 778 [(0, vR x0), (1, vR x1), (2, vR x2), (3, vI x3), (4, vI x4), (5, vI x5), (7, vJ x7)] [vI (x3 - (x3 / 3) * 3), vI 12, vR x0] Q) (K2 : ¬ (x4 = 0) → k_X (jL_isRefused G l h0) h 769 [(0, vR x0), (1, vR x1), (2, vR x2), (3, vI x3), (4, vI x4), (5, vI x5), (7, vJ x7)] [vI (x3 - (x3 / 3) * 3), vI 12, vR x0] Q) : k_X (jL_isRefused G l h0) h 758 [(0, vR x0), (1, vR x1), (2, vR x2), (3, vI x3), (4, vI x4), (5, vI x5), (7, vJ x7)] [] Q := by
  by_cases hc : x4 = 0
  · skip
    obtain ⟨h', r, K, q⟩ := K1 hc
    exact ⟨h', r, j_aload_n dL_isRefused_758 rfl rfl <| j_bipush (v := 12) dL_isRefused_759 (by decide) <| j_iload_n dL_isRefused_761 rfl rfl <| j_iconst (v := 3) dL_isRefused_762 (by decide) <| j_irem dL_isRefused_763 (by decide) <| j_iload dL_isRefused_764 rfl <| j_if_eq_t (tgt := 778) dL_isRefused_766 (by decide) hc K, q⟩
  · skip
    obtain ⟨h', r, K, q⟩ := K2 hc
    exact ⟨h', r, j_aload_n dL_isRefused_758 rfl rfl <| j_bipush (v := 12) dL_isRefused_759 (by decide) <| j_iload_n dL_isRefused_761 rfl rfl <| j_iconst (v := 3) dL_isRefused_762 (by decide) <| j_irem dL_isRefused_763 (by decide) <| j_iload dL_isRefused_764 rfl <| j_if_eq_f dL_isRefused_766 778 (by decide) hc K, q⟩
theorem bL_isRefused_769 {h0 h : k_H} {Q : k_H → k_R → Prop} {x0 x1 x2 s0 : Option Nat} {x3 x4 x5 s1 s2 : Int32} {x7 : Int64} (K : k_X (jL_isRefused G l h0) h 780 [(0, vR x0), (1, vR x1), (2, vR x2), (3, vI x3), (4, vI x4), (5, vI x5), (7, vJ x7)] [vI (0 - (x3 - (x3 / 30) * 30)), vI s2, vI s1, vR s0] Q) : k_X (jL_isRefused G l h0) h 769 [(0, vR x0), (1, vR x1), (2, vR x2), (3, vI x3), (4, vI x4), (5, vI x5), (7, vJ x7)] [vI s2, vI s1, vR s0] Q := by
  obtain ⟨h', r, K, q⟩ := K
  exact ⟨h', r, j_iconst (v := 0) dL_isRefused_769 (by decide) <| j_iload_n dL_isRefused_770 rfl rfl <| j_bipush (v := 30) dL_isRefused_771 (by decide) <| j_irem dL_isRefused_773 (by decide) <| j_isub dL_isRefused_774 <| j_goto (tgt := 780) dL_isRefused_775 (by decide) <| K, q⟩
theorem bL_isRefused_778 {h0 h : k_H} {Q : k_H → k_R → Prop} {x0 x1 x2 s0 : Option Nat} {x3 x4 x5 s1 s2 : Int32} {x7 : Int64} (K : k_X (jL_isRefused G l h0) h 780 [(0, vR x0), (1, vR x1), (2, vR x2), (3, vI x3), (4, vI x4), (5, vI x5), (7, vJ x7)] [vI 21, vI s2, vI s1, vR s0] Q) : k_X (jL_isRefused G l h0) h 778 [(0, vR x0), (1, vR x1), (2, vR x2), (3, vI x3), (4, vI x4), (5, vI x5), (7, vJ x7)] [vI s2, vI s1, vR s0] Q := by
  obtain ⟨h', r, K, q⟩ := K
  exact ⟨h', r, j_bipush (v := 21) dL_isRefused_778 (by decide) <| K, q⟩
theorem bL_isRefused_780 {h0 h : k_H} {Q : k_H → k_R → Prop} {x0 x1 x2 s0 : Option Nat} {x3 x4 x5 s1 s2 s3 : Int32} {x7 : Int64} {P : k_H → Int32 → Prop} (c : k_cti (tL_act G l) [vR s0, vI s1, vI s2, vI s3, vI 0, vI 0, vI 0, vI 0] h P) (K : ∀ h1 v, P h1 v → k_X (jL_isRefused G l h0) h1 787 [(0, vR x0), (1, vR x1), (2, vR x2), (3, vI x3), (4, vI x4), (5, vI x5), (7, vJ x7)] [vI v] Q) : k_X (jL_isRefused G l h0) h 780 [(0, vR x0), (1, vR x1), (2, vR x2), (3, vI x3), (4, vI x4), (5, vI x5), (7, vJ x7)] [vI s3, vI s2, vI s1, vR s0] Q := by
  obtain ⟨h1, v, c, p⟩ := c
  obtain ⟨h', r, K, q⟩ := K h1 v p
  exact ⟨h', r, j_iconst (v := 0) dL_isRefused_780 (by decide) <| j_iconst (v := 0) dL_isRefused_781 (by decide) <| j_iconst (v := 0) dL_isRefused_782 (by decide) <| j_iconst (v := 0) dL_isRefused_783 (by decide) <| j_callW (v := some (vI v)) (as := [vR s0, vI s1, vI s2, vI s3, vI 0, vI 0, vI 0, vI 0]) dL_isRefused_784 kcw_L_149 rfl rfl (by decide) (Nat.le_of_ble_eq_true rfl) c K, q⟩
theorem bL_isRefused_787 {h0 h : k_H} {Q : k_H → k_R → Prop} {x0 x1 x2 : Option Nat} {x3 x4 x5 s0 : Int32} {x7 : Int64} (K1 : ¬ (s0 = (-2000000002)) → k_X (jL_isRefused G l h0) h 993 [(0, vR x0), (1, vR x1), (2, vR x2), (3, vI x3), (4, vI x4), (7, vJ x7)] [] Q) (K2 : s0 = (-2000000002) → k_X (jL_isRefused G l h0) h 792 [(0, vR x0), (1, vR x1), (2, vR x2), (3, vI x3), (4, vI x4), (5, vI x5), (7, vJ x7)] [] Q) : k_X (jL_isRefused G l h0) h 787 [(0, vR x0), (1, vR x1), (2, vR x2), (3, vI x3), (4, vI x4), (5, vI x5), (7, vJ x7)] [vI s0] Q := by
  by_cases hc : s0 = (-2000000002)
  · skip
    obtain ⟨h', r, K, q⟩ := K2 hc
    exact ⟨h', r, j_ldc (v := (-2000000002)) dL_isRefused_787 ki_L_110 <| j_icmp_ne_f dL_isRefused_789 993 (by decide) hc K, q⟩
  · skip
    obtain ⟨h', r, K, q⟩ := K1 hc
    exact ⟨h', r, j_ldc (v := (-2000000002)) dL_isRefused_787 ki_L_110 <| j_icmp_ne_t (tgt := 993) dL_isRefused_789 (by decide) hc (j_pick [0, 1, 2, 3, 4, 6] rfl K), q⟩
theorem bL_isRefused_792 {h0 h : k_H} {Q : k_H → k_R → Prop} {x0 x1 x2 : Option Nat} {x3 x4 x5 : Int32} {x7 : Int64} (K1 : x4 = 0 → k_X (jL_isRefused G l h0) h 804 [(0, vR x0), (1, vR x1), (2, vR x2), (3, vI x3), (4, vI x4), (5, vI x5), (7, vJ x7)] [vI 13, vR x0] Q) (K2 : ¬ (x4 = 0) → k_X (jL_isRefused G l h0) h 800 [(0, vR x0), (1, vR x1), (2, vR x2), (3, vI x3), (4, vI x4), (5, vI x5), (7, vJ x7)] [vI 13, vR x0] Q) : k_X (jL_isRefused G l h0) h 792 [(0, vR x0), (1, vR x1), (2, vR x2), (3, vI x3), (4, vI x4), (5, vI x5), (7, vJ x7)] [] Q := by
  by_cases hc : x4 = 0
  · skip
    obtain ⟨h', r, K, q⟩ := K1 hc
    exact ⟨h', r, j_aload_n dL_isRefused_792 rfl rfl <| j_bipush (v := 13) dL_isRefused_793 (by decide) <| j_iload dL_isRefused_795 rfl <| j_if_eq_t (tgt := 804) dL_isRefused_797 (by decide) hc K, q⟩
  · skip
    obtain ⟨h', r, K, q⟩ := K2 hc
    exact ⟨h', r, j_aload_n dL_isRefused_792 rfl rfl <| j_bipush (v := 13) dL_isRefused_793 (by decide) <| j_iload dL_isRefused_795 rfl <| j_if_eq_f dL_isRefused_797 804 (by decide) hc K, q⟩
theorem bL_isRefused_800 {h0 h : k_H} {Q : k_H → k_R → Prop} {x0 x1 x2 s0 : Option Nat} {x3 x4 x5 s1 : Int32} {x7 : Int64} (K : k_X (jL_isRefused G l h0) h 810 [(0, vR x0), (1, vR x1), (2, vR x2), (3, vI x3), (4, vI x4), (5, vI x5), (7, vJ x7)] [vI (-1), vI s1, vR s0] Q) : k_X (jL_isRefused G l h0) h 800 [(0, vR x0), (1, vR x1), (2, vR x2), (3, vI x3), (4, vI x4), (5, vI x5), (7, vJ x7)] [vI s1, vR s0] Q := by
  obtain ⟨h', r, K, q⟩ := K
  exact ⟨h', r, j_iconst (v := (-1)) dL_isRefused_800 (by decide) <| j_goto (tgt := 810) dL_isRefused_801 (by decide) <| K, q⟩
theorem bL_isRefused_804 {h0 h : k_H} {Q : k_H → k_R → Prop} {x0 x1 x2 s0 : Option Nat} {x3 x4 x5 s1 : Int32} {x7 : Int64} (K : k_X (jL_isRefused G l h0) h 810 [(0, vR x0), (1, vR x1), (2, vR x2), (3, vI x3), (4, vI x4), (5, vI x5), (7, vJ x7)] [vI (3 + (x3 - (x3 / 30) * 30)), vI s1, vR s0] Q) : k_X (jL_isRefused G l h0) h 804 [(0, vR x0), (1, vR x1), (2, vR x2), (3, vI x3), (4, vI x4), (5, vI x5), (7, vJ x7)] [vI s1, vR s0] Q := by
  obtain ⟨h', r, K, q⟩ := K
  exact ⟨h', r, j_iconst (v := 3) dL_isRefused_804 (by decide) <| j_iload_n dL_isRefused_805 rfl rfl <| j_bipush (v := 30) dL_isRefused_806 (by decide) <| j_irem dL_isRefused_808 (by decide) <| j_iadd dL_isRefused_809 <| K, q⟩
theorem bL_isRefused_810 {h0 h : k_H} {Q : k_H → k_R → Prop} {x0 x1 x2 s0 : Option Nat} {x3 x4 x5 s1 s2 : Int32} {x7 : Int64} {P : k_H → Int32 → Prop} (c : k_cti (tL_act G l) [vR s0, vI s1, vI s2, vI 0, vI 0, vI 0, vI 0, vI 0] h P) (K : ∀ h1 v, P h1 v → k_X (jL_isRefused G l h0) h1 818 [(0, vR x0), (1, vR x1), (2, vR x2), (3, vI x3), (4, vI x4), (5, vI x5), (7, vJ x7)] [vI v] Q) : k_X (jL_isRefused G l h0) h 810 [(0, vR x0), (1, vR x1), (2, vR x2), (3, vI x3), (4, vI x4), (5, vI x5), (7, vJ x7)] [vI s2, vI s1, vR s0] Q := by
  obtain ⟨h1, v, c, p⟩ := c
  obtain ⟨h', r, K, q⟩ := K h1 v p
  exact ⟨h', r, j_iconst (v := 0) dL_isRefused_810 (by decide) <| j_iconst (v := 0) dL_isRefused_811 (by decide) <| j_iconst (v := 0) dL_isRefused_812 (by decide) <| j_iconst (v := 0) dL_isRefused_813 (by decide) <| j_iconst (v := 0) dL_isRefused_814 (by decide) <| j_callW (v := some (vI v)) (as := [vR s0, vI s1, vI s2, vI 0, vI 0, vI 0, vI 0, vI 0]) dL_isRefused_815 kcw_L_149 rfl rfl (by decide) (Nat.le_of_ble_eq_true rfl) c K, q⟩
theorem bL_isRefused_818 {h0 h : k_H} {Q : k_H → k_R → Prop} {x0 x1 x2 : Option Nat} {x3 x4 x5 s0 : Int32} {x7 : Int64} (K1 : ¬ (s0 = (-2000000001)) → k_X (jL_isRefused G l h0) h 993 [(0, vR x0), (1, vR x1), (2, vR x2), (3, vI x3), (4, vI x4), (7, vJ x7)] [] Q) (K2 : s0 = (-2000000001) → k_X (jL_isRefused G l h0) h 823 [(0, vR x0), (1, vR x1), (2, vR x2), (3, vI x3), (4, vI x4), (5, vI x5), (7, vJ x7)] [] Q) : k_X (jL_isRefused G l h0) h 818 [(0, vR x0), (1, vR x1), (2, vR x2), (3, vI x3), (4, vI x4), (5, vI x5), (7, vJ x7)] [vI s0] Q := by
  by_cases hc : s0 = (-2000000001)
  · skip
    obtain ⟨h', r, K, q⟩ := K2 hc
    exact ⟨h', r, j_ldc (v := (-2000000001)) dL_isRefused_818 ki_L_107 <| j_icmp_ne_f dL_isRefused_820 993 (by decide) hc K, q⟩
  · skip
    obtain ⟨h', r, K, q⟩ := K1 hc
    exact ⟨h', r, j_ldc (v := (-2000000001)) dL_isRefused_818 ki_L_107 <| j_icmp_ne_t (tgt := 993) dL_isRefused_820 (by decide) hc (j_pick [0, 1, 2, 3, 4, 6] rfl K), q⟩
theorem bL_isRefused_823 {h0 h : k_H} {Q : k_H → k_R → Prop} {x0 x1 x2 : Option Nat} {x3 x4 x5 : Int32} {x7 : Int64} (K1 : x4 = 0 → k_X (jL_isRefused G l h0) h 840 [(0, vR x0), (1, vR x1), (2, vR x2), (3, vI x3), (4, vI x4), (5, vI x5), (7, vJ x7)] [vI 14, vR x0] Q) (K2 : ¬ (x4 = 0) → k_X (jL_isRefused G l h0) h 831 [(0, vR x0), (1, vR x1), (2, vR x2), (3, vI x3), (4, vI x4), (5, vI x5), (7, vJ x7)] [vI 14, vR x0] Q) : k_X (jL_isRefused G l h0) h 823 [(0, vR x0), (1, vR x1), (2, vR x2), (3, vI x3), (4, vI x4), (5, vI x5), (7, vJ x7)] [] Q := by
  by_cases hc : x4 = 0
  · skip
    obtain ⟨h', r, K, q⟩ := K1 hc
    exact ⟨h', r, j_aload_n dL_isRefused_823 rfl rfl <| j_bipush (v := 14) dL_isRefused_824 (by decide) <| j_iload dL_isRefused_826 rfl <| j_if_eq_t (tgt := 840) dL_isRefused_828 (by decide) hc K, q⟩
  · skip
    obtain ⟨h', r, K, q⟩ := K2 hc
    exact ⟨h', r, j_aload_n dL_isRefused_823 rfl rfl <| j_bipush (v := 14) dL_isRefused_824 (by decide) <| j_iload dL_isRefused_826 rfl <| j_if_eq_f dL_isRefused_828 840 (by decide) hc K, q⟩
theorem bL_isRefused_831 {h0 h : k_H} {Q : k_H → k_R → Prop} {x0 x1 x2 s0 : Option Nat} {x3 x4 x5 s1 : Int32} {x7 : Int64} (K : k_X (jL_isRefused G l h0) h 842 [(0, vR x0), (1, vR x1), (2, vR x2), (3, vI x3), (4, vI x4), (5, vI x5), (7, vJ x7)] [vI ((-1) - (x3 - (x3 / 30) * 30)), vI s1, vR s0] Q) : k_X (jL_isRefused G l h0) h 831 [(0, vR x0), (1, vR x1), (2, vR x2), (3, vI x3), (4, vI x4), (5, vI x5), (7, vJ x7)] [vI s1, vR s0] Q := by
  obtain ⟨h', r, K, q⟩ := K
  exact ⟨h', r, j_iconst (v := (-1)) dL_isRefused_831 (by decide) <| j_iload_n dL_isRefused_832 rfl rfl <| j_bipush (v := 30) dL_isRefused_833 (by decide) <| j_irem dL_isRefused_835 (by decide) <| j_isub dL_isRefused_836 <| j_goto (tgt := 842) dL_isRefused_837 (by decide) <| K, q⟩
theorem bL_isRefused_840 {h0 h : k_H} {Q : k_H → k_R → Prop} {x0 x1 x2 s0 : Option Nat} {x3 x4 x5 s1 : Int32} {x7 : Int64} (K : k_X (jL_isRefused G l h0) h 842 [(0, vR x0), (1, vR x1), (2, vR x2), (3, vI x3), (4, vI x4), (5, vI x5), (7, vJ x7)] [vI 100, vI s1, vR s0] Q) : k_X (jL_isRefused G l h0) h 840 [(0, vR x0), (1, vR x1), (2, vR x2), (3, vI x3), (4, vI x4), (5, vI x5), (7, vJ x7)] [vI s1, vR s0] Q := by
  obtain ⟨h', r, K, q⟩ := K
  exact ⟨h', r, j_bipush (v := 100) dL_isRefused_840 (by decide) <| K, q⟩
theorem bL_isRefused_842 {h0 h : k_H} {Q : k_H → k_R → Prop} {x0 x1 x2 s0 : Option Nat} {x3 x4 x5 s1 s2 : Int32} {x7 : Int64} {P : k_H → Int32 → Prop} (c : k_cti (tL_act G l) [vR s0, vI s1, vI s2, vI 0, vI 0, vI 0, vI 0, vI 0] h P) (K : ∀ h1 v, P h1 v → k_X (jL_isRefused G l h0) h1 850 [(0, vR x0), (1, vR x1), (2, vR x2), (3, vI x3), (4, vI x4), (5, vI x5), (7, vJ x7)] [vI v] Q) : k_X (jL_isRefused G l h0) h 842 [(0, vR x0), (1, vR x1), (2, vR x2), (3, vI x3), (4, vI x4), (5, vI x5), (7, vJ x7)] [vI s2, vI s1, vR s0] Q := by
  obtain ⟨h1, v, c, p⟩ := c
  obtain ⟨h', r, K, q⟩ := K h1 v p
  exact ⟨h', r, j_iconst (v := 0) dL_isRefused_842 (by decide) <| j_iconst (v := 0) dL_isRefused_843 (by decide) <| j_iconst (v := 0) dL_isRefused_844 (by decide) <| j_iconst (v := 0) dL_isRefused_845 (by decide) <| j_iconst (v := 0) dL_isRefused_846 (by decide) <| j_callW (v := some (vI v)) (as := [vR s0, vI s1, vI s2, vI 0, vI 0, vI 0, vI 0, vI 0]) dL_isRefused_847 kcw_L_149 rfl rfl (by decide) (Nat.le_of_ble_eq_true rfl) c K, q⟩
theorem bL_isRefused_850 {h0 h : k_H} {Q : k_H → k_R → Prop} {x0 x1 x2 : Option Nat} {x3 x4 x5 s0 : Int32} {x7 : Int64} (K1 : ¬ (s0 = (-2000000002)) → k_X (jL_isRefused G l h0) h 993 [(0, vR x0), (1, vR x1), (2, vR x2), (3, vI x3), (4, vI x4), (7, vJ x7)] [] Q) (K2 : s0 = (-2000000002) → k_X (jL_isRefused G l h0) h 855 [(0, vR x0), (1, vR x1), (2, vR x2), (3, vI x3), (4, vI x4), (5, vI x5), (7, vJ x7)] [] Q) : k_X (jL_isRefused G l h0) h 850 [(0, vR x0), (1, vR x1), (2, vR x2), (3, vI x3), (4, vI x4), (5, vI x5), (7, vJ x7)] [vI s0] Q := by
  by_cases hc : s0 = (-2000000002)
  · skip
    obtain ⟨h', r, K, q⟩ := K2 hc
    exact ⟨h', r, j_ldc (v := (-2000000002)) dL_isRefused_850 ki_L_110 <| j_icmp_ne_f dL_isRefused_852 993 (by decide) hc K, q⟩
  · skip
    obtain ⟨h', r, K, q⟩ := K1 hc
    exact ⟨h', r, j_ldc (v := (-2000000002)) dL_isRefused_850 ki_L_110 <| j_icmp_ne_t (tgt := 993) dL_isRefused_852 (by decide) hc (j_pick [0, 1, 2, 3, 4, 6] rfl K), q⟩
theorem bL_isRefused_855 {h0 h : k_H} {Q : k_H → k_R → Prop} {x0 x1 x2 : Option Nat} {x3 x4 x5 : Int32} {x7 : Int64} (K1 : x4 = 0 → k_X (jL_isRefused G l h0) h 867 [(0, vR x0), (1, vR x1), (2, vR x2), (3, vI x3), (4, vI x4), (5, vI x5), (7, vJ x7)] [vI 15, vR x0] Q) (K2 : ¬ (x4 = 0) → k_X (jL_isRefused G l h0) h 863 [(0, vR x0), (1, vR x1), (2, vR x2), (3, vI x3), (4, vI x4), (5, vI x5), (7, vJ x7)] [vI 15, vR x0] Q) : k_X (jL_isRefused G l h0) h 855 [(0, vR x0), (1, vR x1), (2, vR x2), (3, vI x3), (4, vI x4), (5, vI x5), (7, vJ x7)] [] Q := by
  by_cases hc : x4 = 0
  · skip
    obtain ⟨h', r, K, q⟩ := K1 hc
    exact ⟨h', r, j_aload_n dL_isRefused_855 rfl rfl <| j_bipush (v := 15) dL_isRefused_856 (by decide) <| j_iload dL_isRefused_858 rfl <| j_if_eq_t (tgt := 867) dL_isRefused_860 (by decide) hc K, q⟩
  · skip
    obtain ⟨h', r, K, q⟩ := K2 hc
    exact ⟨h', r, j_aload_n dL_isRefused_855 rfl rfl <| j_bipush (v := 15) dL_isRefused_856 (by decide) <| j_iload dL_isRefused_858 rfl <| j_if_eq_f dL_isRefused_860 867 (by decide) hc K, q⟩
theorem bL_isRefused_863 {h0 h : k_H} {Q : k_H → k_R → Prop} {x0 x1 x2 s0 : Option Nat} {x3 x4 x5 s1 : Int32} {x7 : Int64} (K : k_X (jL_isRefused G l h0) h 874 [(0, vR x0), (1, vR x1), (2, vR x2), (3, vI x3), (4, vI x4), (5, vI x5), (7, vJ x7)] [vI (-1), vI s1, vR s0] Q) : k_X (jL_isRefused G l h0) h 863 [(0, vR x0), (1, vR x1), (2, vR x2), (3, vI x3), (4, vI x4), (5, vI x5), (7, vJ x7)] [vI s1, vR s0] Q := by
  obtain ⟨h', r, K, q⟩ := K
  exact ⟨h', r, j_iconst (v := (-1)) dL_isRefused_863 (by decide) <| j_goto (tgt := 874) dL_isRefused_864 (by decide) <| K, q⟩
theorem bL_isRefused_867 {h0 h : k_H} {Q : k_H → k_R → Prop} {x0 x1 x2 s0 : Option Nat} {x3 x4 x5 s1 : Int32} {x7 : Int64} (K : k_X (jL_isRefused G l h0) h 874 [(0, vR x0), (1, vR x1), (2, vR x2), (3, vI x3), (4, vI x4), (5, vI x5), (7, vJ x7)] [vI (100 + (x3 - (x3 / 30) * 30)), vI s1, vR s0] Q) : k_X (jL_isRefused G l h0) h 867 [(0, vR x0), (1, vR x1), (2, vR x2), (3, vI x3), (4, vI x4), (5, vI x5), (7, vJ x7)] [vI s1, vR s0] Q := by
  obtain ⟨h', r, K, q⟩ := K
  exact ⟨h', r, j_bipush (v := 100) dL_isRefused_867 (by decide) <| j_iload_n dL_isRefused_869 rfl rfl <| j_bipush (v := 30) dL_isRefused_870 (by decide) <| j_irem dL_isRefused_872 (by decide) <| j_iadd dL_isRefused_873 <| K, q⟩
theorem bL_isRefused_874 {h0 h : k_H} {Q : k_H → k_R → Prop} {x0 x1 x2 s0 : Option Nat} {x3 x4 x5 s1 s2 : Int32} {x7 : Int64} {P : k_H → Int32 → Prop} (c : k_cti (tL_act G l) [vR s0, vI s1, vI s2, vI 0, vI 0, vI 0, vI 0, vI 0] h P) (K : ∀ h1 v, P h1 v → k_X (jL_isRefused G l h0) h1 882 [(0, vR x0), (1, vR x1), (2, vR x2), (3, vI x3), (4, vI x4), (5, vI x5), (7, vJ x7)] [vI v] Q) : k_X (jL_isRefused G l h0) h 874 [(0, vR x0), (1, vR x1), (2, vR x2), (3, vI x3), (4, vI x4), (5, vI x5), (7, vJ x7)] [vI s2, vI s1, vR s0] Q := by
  obtain ⟨h1, v, c, p⟩ := c
  obtain ⟨h', r, K, q⟩ := K h1 v p
  exact ⟨h', r, j_iconst (v := 0) dL_isRefused_874 (by decide) <| j_iconst (v := 0) dL_isRefused_875 (by decide) <| j_iconst (v := 0) dL_isRefused_876 (by decide) <| j_iconst (v := 0) dL_isRefused_877 (by decide) <| j_iconst (v := 0) dL_isRefused_878 (by decide) <| j_callW (v := some (vI v)) (as := [vR s0, vI s1, vI s2, vI 0, vI 0, vI 0, vI 0, vI 0]) dL_isRefused_879 kcw_L_149 rfl rfl (by decide) (Nat.le_of_ble_eq_true rfl) c K, q⟩
theorem bL_isRefused_882 {h0 h : k_H} {Q : k_H → k_R → Prop} {x0 x1 x2 : Option Nat} {x3 x4 x5 s0 : Int32} {x7 : Int64} (K1 : ¬ (s0 = (-2000000002)) → k_X (jL_isRefused G l h0) h 993 [(0, vR x0), (1, vR x1), (2, vR x2), (3, vI x3), (4, vI x4), (7, vJ x7)] [] Q) (K2 : s0 = (-2000000002) → k_X (jL_isRefused G l h0) h 887 [(0, vR x0), (1, vR x1), (2, vR x2), (3, vI x3), (4, vI x4), (5, vI x5), (7, vJ x7)] [] Q) : k_X (jL_isRefused G l h0) h 882 [(0, vR x0), (1, vR x1), (2, vR x2), (3, vI x3), (4, vI x4), (5, vI x5), (7, vJ x7)] [vI s0] Q := by
  by_cases hc : s0 = (-2000000002)
  · skip
    obtain ⟨h', r, K, q⟩ := K2 hc
    exact ⟨h', r, j_ldc (v := (-2000000002)) dL_isRefused_882 ki_L_110 <| j_icmp_ne_f dL_isRefused_884 993 (by decide) hc K, q⟩
  · skip
    obtain ⟨h', r, K, q⟩ := K1 hc
    exact ⟨h', r, j_ldc (v := (-2000000002)) dL_isRefused_882 ki_L_110 <| j_icmp_ne_t (tgt := 993) dL_isRefused_884 (by decide) hc (j_pick [0, 1, 2, 3, 4, 6] rfl K), q⟩
theorem bL_isRefused_887 {h0 h : k_H} {Q : k_H → k_R → Prop} {x0 x1 x2 : Option Nat} {x3 x4 x5 : Int32} {x7 : Int64} {P : k_H → Int32 → Prop} (c : k_cti (tL_act G l) [vR x0, vI 16, vI 5, vI 10000, vI 5, vI 0, vI 0, vI 0] h P) (K : ∀ h1 v, P h1 v → k_X (jL_isRefused G l h0) h1 901 [(0, vR x0), (1, vR x1), (2, vR x2), (3, vI x3), (4, vI x4), (5, vI x5), (7, vJ x7)] [vI v] Q) : k_X (jL_isRefused G l h0) h 887 [(0, vR x0), (1, vR x1), (2, vR x2), (3, vI x3), (4, vI x4), (5, vI x5), (7, vJ x7)] [] Q := by
  obtain ⟨h1, v, c, p⟩ := c
  obtain ⟨h', r, K, q⟩ := K h1 v p
  exact ⟨h', r, j_aload_n dL_isRefused_887 rfl rfl <| j_bipush (v := 16) dL_isRefused_888 (by decide) <| j_iconst (v := 5) dL_isRefused_890 (by decide) <| j_sipush (v := 10000) dL_isRefused_891 (by decide) <| j_iconst (v := 5) dL_isRefused_894 (by decide) <| j_iconst (v := 0) dL_isRefused_895 (by decide) <| j_iconst (v := 0) dL_isRefused_896 (by decide) <| j_iconst (v := 0) dL_isRefused_897 (by decide) <| j_callW (v := some (vI v)) (as := [vR x0, vI 16, vI 5, vI 10000, vI 5, vI 0, vI 0, vI 0]) dL_isRefused_898 kcw_L_149 rfl rfl (by decide) (Nat.le_of_ble_eq_true rfl) c K, q⟩
theorem bL_isRefused_901 {h0 h : k_H} {Q : k_H → k_R → Prop} {x0 x1 x2 : Option Nat} {x3 x4 x5 s0 : Int32} {x7 : Int64} (K1 : ¬ (s0 = (-2000000002)) → k_X (jL_isRefused G l h0) h 993 [(0, vR x0), (1, vR x1), (2, vR x2), (3, vI x3), (4, vI x4), (7, vJ x7)] [] Q) (K2 : s0 = (-2000000002) → k_X (jL_isRefused G l h0) h 906 [(0, vR x0), (1, vR x1), (2, vR x2), (3, vI x3), (4, vI x4), (5, vI x5), (7, vJ x7)] [] Q) : k_X (jL_isRefused G l h0) h 901 [(0, vR x0), (1, vR x1), (2, vR x2), (3, vI x3), (4, vI x4), (5, vI x5), (7, vJ x7)] [vI s0] Q := by
  by_cases hc : s0 = (-2000000002)
  · skip
    obtain ⟨h', r, K, q⟩ := K2 hc
    exact ⟨h', r, j_ldc (v := (-2000000002)) dL_isRefused_901 ki_L_110 <| j_icmp_ne_f dL_isRefused_903 993 (by decide) hc K, q⟩
  · skip
    obtain ⟨h', r, K, q⟩ := K1 hc
    exact ⟨h', r, j_ldc (v := (-2000000002)) dL_isRefused_901 ki_L_110 <| j_icmp_ne_t (tgt := 993) dL_isRefused_903 (by decide) hc (j_pick [0, 1, 2, 3, 4, 6] rfl K), q⟩
theorem bL_isRefused_906 {h0 h : k_H} {Q : k_H → k_R → Prop} {x0 x1 x2 : Option Nat} {x3 x4 x5 : Int32} {x7 : Int64} (K1 : x4 = 0 → k_X (jL_isRefused G l h0) h 923 [(0, vR x0), (1, vR x1), (2, vR x2), (3, vI x3), (4, vI x4), (5, vI x5), (7, vJ x7)] [vI 17, vR x0] Q) (K2 : ¬ (x4 = 0) → k_X (jL_isRefused G l h0) h 914 [(0, vR x0), (1, vR x1), (2, vR x2), (3, vI x3), (4, vI x4), (5, vI x5), (7, vJ x7)] [vI 17, vR x0] Q) : k_X (jL_isRefused G l h0) h 906 [(0, vR x0), (1, vR x1), (2, vR x2), (3, vI x3), (4, vI x4), (5, vI x5), (7, vJ x7)] [] Q := by
  by_cases hc : x4 = 0
  · skip
    obtain ⟨h', r, K, q⟩ := K1 hc
    exact ⟨h', r, j_aload_n dL_isRefused_906 rfl rfl <| j_bipush (v := 17) dL_isRefused_907 (by decide) <| j_iload dL_isRefused_909 rfl <| j_if_eq_t (tgt := 923) dL_isRefused_911 (by decide) hc K, q⟩
  · skip
    obtain ⟨h', r, K, q⟩ := K2 hc
    exact ⟨h', r, j_aload_n dL_isRefused_906 rfl rfl <| j_bipush (v := 17) dL_isRefused_907 (by decide) <| j_iload dL_isRefused_909 rfl <| j_if_eq_f dL_isRefused_911 923 (by decide) hc K, q⟩
theorem bL_isRefused_914 {h0 h : k_H} {Q : k_H → k_R → Prop} {x0 x1 x2 s0 : Option Nat} {x3 x4 x5 s1 : Int32} {x7 : Int64} (K : k_X (jL_isRefused G l h0) h 926 [(0, vR x0), (1, vR x1), (2, vR x2), (3, vI x3), (4, vI x4), (5, vI x5), (7, vJ x7)] [vI ((-1) - (x3 - (x3 / 30) * 30)), vI s1, vR s0] Q) : k_X (jL_isRefused G l h0) h 914 [(0, vR x0), (1, vR x1), (2, vR x2), (3, vI x3), (4, vI x4), (5, vI x5), (7, vJ x7)] [vI s1, vR s0] Q := by
  obtain ⟨h', r, K, q⟩ := K
  exact ⟨h', r, j_iconst (v := (-1)) dL_isRefused_914 (by decide) <| j_iload_n dL_isRefused_915 rfl rfl <| j_bipush (v := 30) dL_isRefused_916 (by decide) <| j_irem dL_isRefused_918 (by decide) <| j_isub dL_isRefused_919 <| j_goto (tgt := 926) dL_isRefused_920 (by decide) <| K, q⟩
theorem bL_isRefused_923 {h0 h : k_H} {Q : k_H → k_R → Prop} {x0 x2 s0 : Option Nat} {x1 : Nat} {x3 x4 x5 s1 : Int32} {x7 : Int64} {n1 : Nat} {w1 : Nat → Int32} (o1 : h.1 x1 = some (k_i n1 w1)) (y2 : vp_in 1 n1) (K : k_X (jL_isRefused G l h0) h 926 [(0, vR x0), (1, vR (some x1)), (2, vR x2), (3, vI x3), (4, vI x4), (5, vI x5), (7, vJ x7)] [vI (w1 (1 : Int32).toNatClampNeg), vI s1, vR s0] Q) : k_X (jL_isRefused G l h0) h 923 [(0, vR x0), (1, vR (some x1)), (2, vR x2), (3, vI x3), (4, vI x4), (5, vI x5), (7, vJ x7)] [vI s1, vR s0] Q := by
  obtain ⟨h', r, K, q⟩ := K
  exact ⟨h', r, j_aload_n dL_isRefused_923 rfl rfl <| j_iconst (v := 1) dL_isRefused_924 (by decide) <| j_iald dL_isRefused_925 o1 y2 <| K, q⟩
theorem bL_isRefused_926 {h0 h : k_H} {Q : k_H → k_R → Prop} {x0 x1 x2 s0 : Option Nat} {x3 x4 x5 s1 s2 : Int32} {x7 : Int64} {P : k_H → Int32 → Prop} (c : k_cti (tL_act G l) [vR s0, vI s1, vI s2, vI 0, vI 0, vI 0, vI 0, vI 0] h P) (K : ∀ h1 v, P h1 v → k_X (jL_isRefused G l h0) h1 934 [(0, vR x0), (1, vR x1), (2, vR x2), (3, vI x3), (4, vI x4), (5, vI x5), (7, vJ x7)] [vI v] Q) : k_X (jL_isRefused G l h0) h 926 [(0, vR x0), (1, vR x1), (2, vR x2), (3, vI x3), (4, vI x4), (5, vI x5), (7, vJ x7)] [vI s2, vI s1, vR s0] Q := by
  obtain ⟨h1, v, c, p⟩ := c
  obtain ⟨h', r, K, q⟩ := K h1 v p
  exact ⟨h', r, j_iconst (v := 0) dL_isRefused_926 (by decide) <| j_iconst (v := 0) dL_isRefused_927 (by decide) <| j_iconst (v := 0) dL_isRefused_928 (by decide) <| j_iconst (v := 0) dL_isRefused_929 (by decide) <| j_iconst (v := 0) dL_isRefused_930 (by decide) <| j_callW (v := some (vI v)) (as := [vR s0, vI s1, vI s2, vI 0, vI 0, vI 0, vI 0, vI 0]) dL_isRefused_931 kcw_L_149 rfl rfl (by decide) (Nat.le_of_ble_eq_true rfl) c K, q⟩
theorem bL_isRefused_934 {h0 h : k_H} {Q : k_H → k_R → Prop} {x0 x1 x2 : Option Nat} {x3 x4 x5 s0 : Int32} {x7 : Int64} (K1 : ¬ (s0 = (-2000000001)) → k_X (jL_isRefused G l h0) h 993 [(0, vR x0), (1, vR x1), (2, vR x2), (3, vI x3), (4, vI x4), (7, vJ x7)] [] Q) (K2 : s0 = (-2000000001) → k_X (jL_isRefused G l h0) h 939 [(0, vR x0), (1, vR x1), (2, vR x2), (3, vI x3), (4, vI x4), (5, vI x5), (7, vJ x7)] [] Q) : k_X (jL_isRefused G l h0) h 934 [(0, vR x0), (1, vR x1), (2, vR x2), (3, vI x3), (4, vI x4), (5, vI x5), (7, vJ x7)] [vI s0] Q := by
  by_cases hc : s0 = (-2000000001)
  · skip
    obtain ⟨h', r, K, q⟩ := K2 hc
    exact ⟨h', r, j_ldc (v := (-2000000001)) dL_isRefused_934 ki_L_107 <| j_icmp_ne_f dL_isRefused_936 993 (by decide) hc K, q⟩
  · skip
    obtain ⟨h', r, K, q⟩ := K1 hc
    exact ⟨h', r, j_ldc (v := (-2000000001)) dL_isRefused_934 ki_L_107 <| j_icmp_ne_t (tgt := 993) dL_isRefused_936 (by decide) hc (j_pick [0, 1, 2, 3, 4, 6] rfl K), q⟩
theorem bL_isRefused_939 {h0 h : k_H} {Q : k_H → k_R → Prop} {x0 x1 x2 : Option Nat} {x3 x4 x5 : Int32} {x7 : Int64} {P : k_H → Int32 → Prop} (c : k_cti (tL_act G l) [vR x0, vI 18, vI x5, vI (-1), vI 0, vI 0, vI 0, vI 0] h P) (K : ∀ h1 v, P h1 v → k_X (jL_isRefused G l h0) h1 952 [(0, vR x0), (1, vR x1), (2, vR x2), (3, vI x3), (4, vI x4), (7, vJ x7)] [vI v] Q) : k_X (jL_isRefused G l h0) h 939 [(0, vR x0), (1, vR x1), (2, vR x2), (3, vI x3), (4, vI x4), (5, vI x5), (7, vJ x7)] [] Q := by
  obtain ⟨h1, v, c, p⟩ := c
  obtain ⟨h', r, K, q⟩ := K h1 v p
  exact ⟨h', r, j_aload_n dL_isRefused_939 rfl rfl <| j_bipush (v := 18) dL_isRefused_940 (by decide) <| j_iload dL_isRefused_942 rfl <| j_iconst (v := (-1)) dL_isRefused_944 (by decide) <| j_iconst (v := 0) dL_isRefused_945 (by decide) <| j_iconst (v := 0) dL_isRefused_946 (by decide) <| j_iconst (v := 0) dL_isRefused_947 (by decide) <| j_iconst (v := 0) dL_isRefused_948 (by decide) <| j_callW (v := some (vI v)) (as := [vR x0, vI 18, vI x5, vI (-1), vI 0, vI 0, vI 0, vI 0]) dL_isRefused_949 kcw_L_149 rfl rfl (by decide) (Nat.le_of_ble_eq_true rfl) c (j_pick [0, 1, 2, 3, 4, 6] rfl K), q⟩
theorem bL_isRefused_952 {h0 h : k_H} {Q : k_H → k_R → Prop} {x0 x1 x2 : Option Nat} {x3 x4 s0 : Int32} {x7 : Int64} (K1 : ¬ (s0 = (-2000000001)) → k_X (jL_isRefused G l h0) h 993 [(0, vR x0), (1, vR x1), (2, vR x2), (3, vI x3), (4, vI x4), (7, vJ x7)] [] Q) (K2 : s0 = (-2000000001) → k_X (jL_isRefused G l h0) h 957 [(0, vR x0), (1, vR x1), (2, vR x2), (3, vI x3), (4, vI x4), (7, vJ x7)] [] Q) : k_X (jL_isRefused G l h0) h 952 [(0, vR x0), (1, vR x1), (2, vR x2), (3, vI x3), (4, vI x4), (7, vJ x7)] [vI s0] Q := by
  by_cases hc : s0 = (-2000000001)
  · skip
    obtain ⟨h', r, K, q⟩ := K2 hc
    exact ⟨h', r, j_ldc (v := (-2000000001)) dL_isRefused_952 ki_L_107 <| j_icmp_ne_f dL_isRefused_954 993 (by decide) hc K, q⟩
  · skip
    obtain ⟨h', r, K, q⟩ := K1 hc
    exact ⟨h', r, j_ldc (v := (-2000000001)) dL_isRefused_952 ki_L_107 <| j_icmp_ne_t (tgt := 993) dL_isRefused_954 (by decide) hc K, q⟩
theorem bL_isRefused_957 {h0 h : k_H} {Q : k_H → k_R → Prop} {x0 x1 x2 : Option Nat} {x3 x4 : Int32} {x7 : Int64} (K1 : x4 = 0 → k_X (jL_isRefused G l h0) h 970 [(0, vR x0), (1, vR x1), (2, vR x2), (3, vI x3), (4, vI x4), (7, vJ x7)] [vI 0, vI 18, vR x0] Q) (K2 : ¬ (x4 = 0) → k_X (jL_isRefused G l h0) h 966 [(0, vR x0), (1, vR x1), (2, vR x2), (3, vI x3), (4, vI x4), (7, vJ x7)] [vI 0, vI 18, vR x0] Q) : k_X (jL_isRefused G l h0) h 957 [(0, vR x0), (1, vR x1), (2, vR x2), (3, vI x3), (4, vI x4), (7, vJ x7)] [] Q := by
  by_cases hc : x4 = 0
  · skip
    obtain ⟨h', r, K, q⟩ := K1 hc
    exact ⟨h', r, j_aload_n dL_isRefused_957 rfl rfl <| j_bipush (v := 18) dL_isRefused_958 (by decide) <| j_iconst (v := 0) dL_isRefused_960 (by decide) <| j_iload dL_isRefused_961 rfl <| j_if_eq_t (tgt := 970) dL_isRefused_963 (by decide) hc K, q⟩
  · skip
    obtain ⟨h', r, K, q⟩ := K2 hc
    exact ⟨h', r, j_aload_n dL_isRefused_957 rfl rfl <| j_bipush (v := 18) dL_isRefused_958 (by decide) <| j_iconst (v := 0) dL_isRefused_960 (by decide) <| j_iload dL_isRefused_961 rfl <| j_if_eq_f dL_isRefused_963 970 (by decide) hc K, q⟩
theorem bL_isRefused_966 {h0 h : k_H} {Q : k_H → k_R → Prop} {x0 x1 x2 s0 : Option Nat} {x3 x4 s1 s2 : Int32} {x7 : Int64} (K : k_X (jL_isRefused G l h0) h 977 [(0, vR x0), (1, vR x1), (2, vR x2), (3, vI x3), (4, vI x4), (7, vJ x7)] [vI (-1), vI s2, vI s1, vR s0] Q) : k_X (jL_isRefused G l h0) h 966 [(0, vR x0), (1, vR x1), (2, vR x2), (3, vI x3), (4, vI x4), (7, vJ x7)] [vI s2, vI s1, vR s0] Q := by
  obtain ⟨h', r, K, q⟩ := K
  exact ⟨h', r, j_iconst (v := (-1)) dL_isRefused_966 (by decide) <| j_goto (tgt := 977) dL_isRefused_967 (by decide) <| K, q⟩
theorem bL_isRefused_970 {h0 h : k_H} {Q : k_H → k_R → Prop} {x0 x1 x2 s0 : Option Nat} {x3 x4 s1 s2 : Int32} {x7 : Int64} (K : k_X (jL_isRefused G l h0) h 977 [(0, vR x0), (1, vR x1), (2, vR x2), (3, vI x3), (4, vI x4), (7, vJ x7)] [vI (1000001 + (x3 - (x3 / 30) * 30)), vI s2, vI s1, vR s0] Q) : k_X (jL_isRefused G l h0) h 970 [(0, vR x0), (1, vR x1), (2, vR x2), (3, vI x3), (4, vI x4), (7, vJ x7)] [vI s2, vI s1, vR s0] Q := by
  obtain ⟨h', r, K, q⟩ := K
  exact ⟨h', r, j_ldc (v := 1000001) dL_isRefused_970 ki_L_154 <| j_iload_n dL_isRefused_972 rfl rfl <| j_bipush (v := 30) dL_isRefused_973 (by decide) <| j_irem dL_isRefused_975 (by decide) <| j_iadd dL_isRefused_976 <| K, q⟩
theorem bL_isRefused_977 {h0 h : k_H} {Q : k_H → k_R → Prop} {x0 x1 x2 s0 : Option Nat} {x3 x4 s1 s2 s3 : Int32} {x7 : Int64} {P : k_H → Int32 → Prop} (c : k_cti (tL_act G l) [vR s0, vI s1, vI s2, vI s3, vI 0, vI 0, vI 0, vI 0] h P) (K : ∀ h1 v, P h1 v → k_X (jL_isRefused G l h0) h1 984 [(0, vR x0), (1, vR x1), (2, vR x2), (3, vI x3), (4, vI x4), (7, vJ x7)] [vI v] Q) : k_X (jL_isRefused G l h0) h 977 [(0, vR x0), (1, vR x1), (2, vR x2), (3, vI x3), (4, vI x4), (7, vJ x7)] [vI s3, vI s2, vI s1, vR s0] Q := by
  obtain ⟨h1, v, c, p⟩ := c
  obtain ⟨h', r, K, q⟩ := K h1 v p
  exact ⟨h', r, j_iconst (v := 0) dL_isRefused_977 (by decide) <| j_iconst (v := 0) dL_isRefused_978 (by decide) <| j_iconst (v := 0) dL_isRefused_979 (by decide) <| j_iconst (v := 0) dL_isRefused_980 (by decide) <| j_callW (v := some (vI v)) (as := [vR s0, vI s1, vI s2, vI s3, vI 0, vI 0, vI 0, vI 0]) dL_isRefused_981 kcw_L_149 rfl rfl (by decide) (Nat.le_of_ble_eq_true rfl) c K, q⟩
theorem bL_isRefused_984 {h0 h : k_H} {Q : k_H → k_R → Prop} {x0 x1 x2 : Option Nat} {x3 x4 s0 : Int32} {x7 : Int64} (K1 : ¬ (s0 = (-2000000002)) → k_X (jL_isRefused G l h0) h 993 [(0, vR x0), (1, vR x1), (2, vR x2), (3, vI x3), (4, vI x4), (7, vJ x7)] [] Q) (K2 : s0 = (-2000000002) → k_X (jL_isRefused G l h0) h 989 [(0, vR x0), (1, vR x1), (2, vR x2), (3, vI x3), (4, vI x4), (7, vJ x7)] [] Q) : k_X (jL_isRefused G l h0) h 984 [(0, vR x0), (1, vR x1), (2, vR x2), (3, vI x3), (4, vI x4), (7, vJ x7)] [vI s0] Q := by
  by_cases hc : s0 = (-2000000002)
  · skip
    obtain ⟨h', r, K, q⟩ := K2 hc
    exact ⟨h', r, j_ldc (v := (-2000000002)) dL_isRefused_984 ki_L_110 <| j_icmp_ne_f dL_isRefused_986 993 (by decide) hc K, q⟩
  · skip
    obtain ⟨h', r, K, q⟩ := K1 hc
    exact ⟨h', r, j_ldc (v := (-2000000002)) dL_isRefused_984 ki_L_110 <| j_icmp_ne_t (tgt := 993) dL_isRefused_986 (by decide) hc K, q⟩
theorem bL_isRefused_989 {h0 h : k_H} {Q : k_H → k_R → Prop} {x0 x1 x2 : Option Nat} {x3 x4 : Int32} {x7 : Int64} (K : k_X (jL_isRefused G l h0) h 994 [(0, vR x0), (1, vR x1), (2, vR x2), (3, vI x3), (4, vI x4), (7, vJ x7)] [vI 1] Q) : k_X (jL_isRefused G l h0) h 989 [(0, vR x0), (1, vR x1), (2, vR x2), (3, vI x3), (4, vI x4), (7, vJ x7)] [] Q := by
  obtain ⟨h', r, K, q⟩ := K
  exact ⟨h', r, j_iconst (v := 1) dL_isRefused_989 (by decide) <| j_goto (tgt := 994) dL_isRefused_990 (by decide) <| K, q⟩
theorem bL_isRefused_993 {h0 h : k_H} {Q : k_H → k_R → Prop} {x0 x1 x2 : Option Nat} {x3 x4 : Int32} {x7 : Int64} (K : k_X (jL_isRefused G l h0) h 994 [(0, vR x0), (1, vR x1), (2, vR x2), (3, vI x3), (4, vI x4), (7, vJ x7)] [vI 0] Q) : k_X (jL_isRefused G l h0) h 993 [(0, vR x0), (1, vR x1), (2, vR x2), (3, vI x3), (4, vI x4), (7, vJ x7)] [] Q := by
  obtain ⟨h', r, K, q⟩ := K
  exact ⟨h', r, j_iconst (v := 0) dL_isRefused_993 (by decide) <| K, q⟩
theorem bL_isRefused_994 {h0 h : k_H} {Q : k_H → k_R → Prop} {x0 x1 x2 : Option Nat} {x3 x4 s0 : Int32} {x7 : Int64} (K1 : s0 = 0 → k_X (jL_isRefused G l h0) h 1423 [(0, vR x0), (1, vR x1), (2, vR x2), (7, vJ x7)] [] Q) (K2 : ¬ (s0 = 0) → k_X (jL_isRefused G l h0) h 1001 [(0, vR x0), (1, vR x1), (2, vR x2), (3, vI x3), (4, vI x4), (7, vJ x7)] [] Q) : k_X (jL_isRefused G l h0) h 994 [(0, vR x0), (1, vR x1), (2, vR x2), (3, vI x3), (4, vI x4), (7, vJ x7)] [vI s0] Q := by
  by_cases hc : s0 = 0
  · skip
    obtain ⟨h', r, K, q⟩ := K1 hc
    exact ⟨h', r, j_istore dL_isRefused_994 (by decide) rfl <| j_iload dL_isRefused_996 rfl <| j_if_eq_t (tgt := 1423) dL_isRefused_998 (by decide) hc (j_pick [0, 1, 2, 5] rfl K), q⟩
  · skip
    obtain ⟨h', r, K, q⟩ := K2 hc
    exact ⟨h', r, j_istore dL_isRefused_994 (by decide) rfl <| j_iload dL_isRefused_996 rfl <| j_if_eq_f dL_isRefused_998 1423 (by decide) hc (j_pick [0, 1, 2, 3, 4, 5] rfl K), q⟩
theorem bL_isRefused_1001 {h0 h : k_H} {Q : k_H → k_R → Prop} {x0 x1 x2 : Option Nat} {x3 x4 : Int32} {x7 : Int64} (K1 : x4 = 0 → k_X (jL_isRefused G l h0) h 1013 [(0, vR x0), (1, vR x1), (2, vR x2), (3, vI x3), (4, vI x4), (7, vJ x7)] [vI 19, vR x0] Q) (K2 : ¬ (x4 = 0) → k_X (jL_isRefused G l h0) h 1009 [(0, vR x0), (1, vR x1), (2, vR x2), (3, vI x3), (4, vI x4), (7, vJ x7)] [vI 19, vR x0] Q) : k_X (jL_isRefused G l h0) h 1001 [(0, vR x0), (1, vR x1), (2, vR x2), (3, vI x3), (4, vI x4), (7, vJ x7)] [] Q := by
  by_cases hc : x4 = 0
  · skip
    obtain ⟨h', r, K, q⟩ := K1 hc
    exact ⟨h', r, j_aload_n dL_isRefused_1001 rfl rfl <| j_bipush (v := 19) dL_isRefused_1002 (by decide) <| j_iload dL_isRefused_1004 rfl <| j_if_eq_t (tgt := 1013) dL_isRefused_1006 (by decide) hc K, q⟩
  · skip
    obtain ⟨h', r, K, q⟩ := K2 hc
    exact ⟨h', r, j_aload_n dL_isRefused_1001 rfl rfl <| j_bipush (v := 19) dL_isRefused_1002 (by decide) <| j_iload dL_isRefused_1004 rfl <| j_if_eq_f dL_isRefused_1006 1013 (by decide) hc K, q⟩
theorem bL_isRefused_1009 {h0 h : k_H} {Q : k_H → k_R → Prop} {x0 x1 x2 s0 : Option Nat} {x3 x4 s1 : Int32} {x7 : Int64} (K : k_X (jL_isRefused G l h0) h 1019 [(0, vR x0), (1, vR x1), (2, vR x2), (3, vI x3), (4, vI x4), (7, vJ x7)] [vI (-1), vI s1, vR s0] Q) : k_X (jL_isRefused G l h0) h 1009 [(0, vR x0), (1, vR x1), (2, vR x2), (3, vI x3), (4, vI x4), (7, vJ x7)] [vI s1, vR s0] Q := by
  obtain ⟨h', r, K, q⟩ := K
  exact ⟨h', r, j_iconst (v := (-1)) dL_isRefused_1009 (by decide) <| j_goto (tgt := 1019) dL_isRefused_1010 (by decide) <| K, q⟩
theorem bL_isRefused_1013 {h0 h : k_H} {Q : k_H → k_R → Prop} {x0 x1 x2 s0 : Option Nat} {x3 x4 s1 : Int32} {x7 : Int64} (K : k_X (jL_isRefused G l h0) h 1019 [(0, vR x0), (1, vR x1), (2, vR x2), (3, vI x3), (4, vI x4), (7, vJ x7)] [vI (3 + (x3 - (x3 / 30) * 30)), vI s1, vR s0] Q) : k_X (jL_isRefused G l h0) h 1013 [(0, vR x0), (1, vR x1), (2, vR x2), (3, vI x3), (4, vI x4), (7, vJ x7)] [vI s1, vR s0] Q := by
  obtain ⟨h', r, K, q⟩ := K
  exact ⟨h', r, j_iconst (v := 3) dL_isRefused_1013 (by decide) <| j_iload_n dL_isRefused_1014 rfl rfl <| j_bipush (v := 30) dL_isRefused_1015 (by decide) <| j_irem dL_isRefused_1017 (by decide) <| j_iadd dL_isRefused_1018 <| K, q⟩
theorem bL_isRefused_1019 {h0 h : k_H} {Q : k_H → k_R → Prop} {x0 x1 x2 s0 : Option Nat} {x3 x4 s1 s2 : Int32} {x7 : Int64} {P : k_H → Int32 → Prop} (c : k_cti (tL_act G l) [vR s0, vI s1, vI s2, vI 0, vI 0, vI 0, vI 0, vI 0] h P) (K : ∀ h1 v, P h1 v → k_X (jL_isRefused G l h0) h1 1027 [(0, vR x0), (1, vR x1), (2, vR x2), (3, vI x3), (4, vI x4), (7, vJ x7)] [vI v] Q) : k_X (jL_isRefused G l h0) h 1019 [(0, vR x0), (1, vR x1), (2, vR x2), (3, vI x3), (4, vI x4), (7, vJ x7)] [vI s2, vI s1, vR s0] Q := by
  obtain ⟨h1, v, c, p⟩ := c
  obtain ⟨h', r, K, q⟩ := K h1 v p
  exact ⟨h', r, j_iconst (v := 0) dL_isRefused_1019 (by decide) <| j_iconst (v := 0) dL_isRefused_1020 (by decide) <| j_iconst (v := 0) dL_isRefused_1021 (by decide) <| j_iconst (v := 0) dL_isRefused_1022 (by decide) <| j_iconst (v := 0) dL_isRefused_1023 (by decide) <| j_callW (v := some (vI v)) (as := [vR s0, vI s1, vI s2, vI 0, vI 0, vI 0, vI 0, vI 0]) dL_isRefused_1024 kcw_L_149 rfl rfl (by decide) (Nat.le_of_ble_eq_true rfl) c K, q⟩
theorem bL_isRefused_1027 {h0 h : k_H} {Q : k_H → k_R → Prop} {x0 x1 x2 : Option Nat} {x3 x4 s0 : Int32} {x7 : Int64} (K1 : ¬ (s0 = (-2000000001)) → k_X (jL_isRefused G l h0) h 1423 [(0, vR x0), (1, vR x1), (2, vR x2), (7, vJ x7)] [] Q) (K2 : s0 = (-2000000001) → k_X (jL_isRefused G l h0) h 1032 [(0, vR x0), (1, vR x1), (2, vR x2), (3, vI x3), (4, vI x4), (7, vJ x7)] [] Q) : k_X (jL_isRefused G l h0) h 1027 [(0, vR x0), (1, vR x1), (2, vR x2), (3, vI x3), (4, vI x4), (7, vJ x7)] [vI s0] Q := by
  by_cases hc : s0 = (-2000000001)
  · skip
    obtain ⟨h', r, K, q⟩ := K2 hc
    exact ⟨h', r, j_ldc (v := (-2000000001)) dL_isRefused_1027 ki_L_107 <| j_icmp_ne_f dL_isRefused_1029 1423 (by decide) hc K, q⟩
  · skip
    obtain ⟨h', r, K, q⟩ := K1 hc
    exact ⟨h', r, j_ldc (v := (-2000000001)) dL_isRefused_1027 ki_L_107 <| j_icmp_ne_t (tgt := 1423) dL_isRefused_1029 (by decide) hc (j_pick [0, 1, 2, 5] rfl K), q⟩
theorem bL_isRefused_1032 {h0 h : k_H} {Q : k_H → k_R → Prop} {x0 x1 x2 : Option Nat} {x3 x4 : Int32} {x7 : Int64} (K1 : x4 = 0 → k_X (jL_isRefused G l h0) h 1049 [(0, vR x0), (1, vR x1), (2, vR x2), (3, vI x3), (4, vI x4), (7, vJ x7)] [vI 20, vR x0] Q) (K2 : ¬ (x4 = 0) → k_X (jL_isRefused G l h0) h 1040 [(0, vR x0), (1, vR x1), (2, vR x2), (3, vI x3), (4, vI x4), (7, vJ x7)] [vI 20, vR x0] Q) : k_X (jL_isRefused G l h0) h 1032 [(0, vR x0), (1, vR x1), (2, vR x2), (3, vI x3), (4, vI x4), (7, vJ x7)] [] Q := by
  by_cases hc : x4 = 0
  · skip
    obtain ⟨h', r, K, q⟩ := K1 hc
    exact ⟨h', r, j_aload_n dL_isRefused_1032 rfl rfl <| j_bipush (v := 20) dL_isRefused_1033 (by decide) <| j_iload dL_isRefused_1035 rfl <| j_if_eq_t (tgt := 1049) dL_isRefused_1037 (by decide) hc K, q⟩
  · skip
    obtain ⟨h', r, K, q⟩ := K2 hc
    exact ⟨h', r, j_aload_n dL_isRefused_1032 rfl rfl <| j_bipush (v := 20) dL_isRefused_1033 (by decide) <| j_iload dL_isRefused_1035 rfl <| j_if_eq_f dL_isRefused_1037 1049 (by decide) hc K, q⟩
theorem bL_isRefused_1040 {h0 h : k_H} {Q : k_H → k_R → Prop} {x0 x1 x2 s0 : Option Nat} {x3 x4 s1 : Int32} {x7 : Int64} (K : k_X (jL_isRefused G l h0) h 1050 [(0, vR x0), (1, vR x1), (2, vR x2), (3, vI x3), (4, vI x4), (7, vJ x7)] [vI ((-1) - (x3 - (x3 / 30) * 30)), vI s1, vR s0] Q) : k_X (jL_isRefused G l h0) h 1040 [(0, vR x0), (1, vR x1), (2, vR x2), (3, vI x3), (4, vI x4), (7, vJ x7)] [vI s1, vR s0] Q := by
  obtain ⟨h', r, K, q⟩ := K
  exact ⟨h', r, j_iconst (v := (-1)) dL_isRefused_1040 (by decide) <| j_iload_n dL_isRefused_1041 rfl rfl <| j_bipush (v := 30) dL_isRefused_1042 (by decide) <| j_irem dL_isRefused_1044 (by decide) <| j_isub dL_isRefused_1045 <| j_goto (tgt := 1050) dL_isRefused_1046 (by decide) <| K, q⟩
theorem bL_isRefused_1049 {h0 h : k_H} {Q : k_H → k_R → Prop} {x0 x1 x2 s0 : Option Nat} {x3 x4 s1 : Int32} {x7 : Int64} (K : k_X (jL_isRefused G l h0) h 1050 [(0, vR x0), (1, vR x1), (2, vR x2), (3, vI x3), (4, vI x4), (7, vJ x7)] [vI 3, vI s1, vR s0] Q) : k_X (jL_isRefused G l h0) h 1049 [(0, vR x0), (1, vR x1), (2, vR x2), (3, vI x3), (4, vI x4), (7, vJ x7)] [vI s1, vR s0] Q := by
  obtain ⟨h', r, K, q⟩ := K
  exact ⟨h', r, j_iconst (v := 3) dL_isRefused_1049 (by decide) <| K, q⟩
theorem bL_isRefused_1050 {h0 h : k_H} {Q : k_H → k_R → Prop} {x0 x1 x2 s0 : Option Nat} {x3 x4 s1 s2 : Int32} {x7 : Int64} {P : k_H → Int32 → Prop} (c : k_cti (tL_act G l) [vR s0, vI s1, vI s2, vI 0, vI 0, vI 0, vI 0, vI 0] h P) (K : ∀ h1 v, P h1 v → k_X (jL_isRefused G l h0) h1 1058 [(0, vR x0), (1, vR x1), (2, vR x2), (3, vI x3), (4, vI x4), (7, vJ x7)] [vI v] Q) : k_X (jL_isRefused G l h0) h 1050 [(0, vR x0), (1, vR x1), (2, vR x2), (3, vI x3), (4, vI x4), (7, vJ x7)] [vI s2, vI s1, vR s0] Q := by
  obtain ⟨h1, v, c, p⟩ := c
  obtain ⟨h', r, K, q⟩ := K h1 v p
  exact ⟨h', r, j_iconst (v := 0) dL_isRefused_1050 (by decide) <| j_iconst (v := 0) dL_isRefused_1051 (by decide) <| j_iconst (v := 0) dL_isRefused_1052 (by decide) <| j_iconst (v := 0) dL_isRefused_1053 (by decide) <| j_iconst (v := 0) dL_isRefused_1054 (by decide) <| j_callW (v := some (vI v)) (as := [vR s0, vI s1, vI s2, vI 0, vI 0, vI 0, vI 0, vI 0]) dL_isRefused_1055 kcw_L_149 rfl rfl (by decide) (Nat.le_of_ble_eq_true rfl) c K, q⟩
theorem bL_isRefused_1058 {h0 h : k_H} {Q : k_H → k_R → Prop} {x0 x1 x2 : Option Nat} {x3 x4 s0 : Int32} {x7 : Int64} (K1 : ¬ (s0 = (-2000000001)) → k_X (jL_isRefused G l h0) h 1423 [(0, vR x0), (1, vR x1), (2, vR x2), (7, vJ x7)] [] Q) (K2 : s0 = (-2000000001) → k_X (jL_isRefused G l h0) h 1063 [(0, vR x0), (1, vR x1), (2, vR x2), (3, vI x3), (4, vI x4), (7, vJ x7)] [] Q) : k_X (jL_isRefused G l h0) h 1058 [(0, vR x0), (1, vR x1), (2, vR x2), (3, vI x3), (4, vI x4), (7, vJ x7)] [vI s0] Q := by
  by_cases hc : s0 = (-2000000001)
  · skip
    obtain ⟨h', r, K, q⟩ := K2 hc
    exact ⟨h', r, j_ldc (v := (-2000000001)) dL_isRefused_1058 ki_L_107 <| j_icmp_ne_f dL_isRefused_1060 1423 (by decide) hc K, q⟩
  · skip
    obtain ⟨h', r, K, q⟩ := K1 hc
    exact ⟨h', r, j_ldc (v := (-2000000001)) dL_isRefused_1058 ki_L_107 <| j_icmp_ne_t (tgt := 1423) dL_isRefused_1060 (by decide) hc (j_pick [0, 1, 2, 5] rfl K), q⟩
theorem bL_isRefused_1063 {h0 h : k_H} {Q : k_H → k_R → Prop} {x0 x1 x2 : Option Nat} {x3 x4 : Int32} {x7 : Int64} (K1 : x4 = 0 → k_X (jL_isRefused G l h0) h 1075 [(0, vR x0), (1, vR x1), (2, vR x2), (3, vI x3), (4, vI x4), (7, vJ x7)] [vI 21, vR x0] Q) (K2 : ¬ (x4 = 0) → k_X (jL_isRefused G l h0) h 1071 [(0, vR x0), (1, vR x1), (2, vR x2), (3, vI x3), (4, vI x4), (7, vJ x7)] [vI 21, vR x0] Q) : k_X (jL_isRefused G l h0) h 1063 [(0, vR x0), (1, vR x1), (2, vR x2), (3, vI x3), (4, vI x4), (7, vJ x7)] [] Q := by
  by_cases hc : x4 = 0
  · skip
    obtain ⟨h', r, K, q⟩ := K1 hc
    exact ⟨h', r, j_aload_n dL_isRefused_1063 rfl rfl <| j_bipush (v := 21) dL_isRefused_1064 (by decide) <| j_iload dL_isRefused_1066 rfl <| j_if_eq_t (tgt := 1075) dL_isRefused_1068 (by decide) hc K, q⟩
  · skip
    obtain ⟨h', r, K, q⟩ := K2 hc
    exact ⟨h', r, j_aload_n dL_isRefused_1063 rfl rfl <| j_bipush (v := 21) dL_isRefused_1064 (by decide) <| j_iload dL_isRefused_1066 rfl <| j_if_eq_f dL_isRefused_1068 1075 (by decide) hc K, q⟩
theorem bL_isRefused_1071 {h0 h : k_H} {Q : k_H → k_R → Prop} {x0 x1 x2 s0 : Option Nat} {x3 x4 s1 : Int32} {x7 : Int64} (K : k_X (jL_isRefused G l h0) h 1084 [(0, vR x0), (1, vR x1), (2, vR x2), (3, vI x3), (4, vI x4), (7, vJ x7)] [vI (-1), vI s1, vR s0] Q) : k_X (jL_isRefused G l h0) h 1071 [(0, vR x0), (1, vR x1), (2, vR x2), (3, vI x3), (4, vI x4), (7, vJ x7)] [vI s1, vR s0] Q := by
  obtain ⟨h', r, K, q⟩ := K
  exact ⟨h', r, j_iconst (v := (-1)) dL_isRefused_1071 (by decide) <| j_goto (tgt := 1084) dL_isRefused_1072 (by decide) <| K, q⟩
theorem bL_isRefused_1075 {h0 h : k_H} {Q : k_H → k_R → Prop} {x0 : Nat} {x1 x2 s0 : Option Nat} {x3 x4 s1 : Int32} {x7 : Int64} (w : k_is h x0 14) {P : k_H → Int32 → Prop} (c : k_cti (tX11_parts G l) [vR (some x0)] h P) (K : ∀ h1 v, P h1 v → k_X (jL_isRefused G l h0) h1 1079 [(0, vR (some x0)), (1, vR x1), (2, vR x2), (3, vI x3), (4, vI x4), (7, vJ x7)] [vI v, vI s1, vR s0] Q) : k_X (jL_isRefused G l h0) h 1075 [(0, vR (some x0)), (1, vR x1), (2, vR x2), (3, vI x3), (4, vI x4), (7, vJ x7)] [vI s1, vR s0] Q := by
  obtain ⟨h1, v, c, p⟩ := c
  obtain ⟨h', r, K, q⟩ := K h1 v p
  exact ⟨h', r, j_aload_n dL_isRefused_1075 rfl rfl <| j_callV (v := some (vI v)) (as := []) dL_isRefused_1076 kc_L_133 rfl rfl w (by decide) (Nat.le_of_ble_eq_true rfl) c K, q⟩
theorem bL_isRefused_1079 {h0 h : k_H} {Q : k_H → k_R → Prop} {x0 x1 x2 s0 : Option Nat} {x3 x4 s1 s2 : Int32} {x7 : Int64} (K : k_X (jL_isRefused G l h0) h 1084 [(0, vR x0), (1, vR x1), (2, vR x2), (3, vI x3), (4, vI x4), (7, vJ x7)] [vI (s2 + (x3 - (x3 / 30) * 30)), vI s1, vR s0] Q) : k_X (jL_isRefused G l h0) h 1079 [(0, vR x0), (1, vR x1), (2, vR x2), (3, vI x3), (4, vI x4), (7, vJ x7)] [vI s2, vI s1, vR s0] Q := by
  obtain ⟨h', r, K, q⟩ := K
  exact ⟨h', r, j_iload_n dL_isRefused_1079 rfl rfl <| j_bipush (v := 30) dL_isRefused_1080 (by decide) <| j_irem dL_isRefused_1082 (by decide) <| j_iadd dL_isRefused_1083 <| K, q⟩
theorem bL_isRefused_1084 {h0 h : k_H} {Q : k_H → k_R → Prop} {x0 x1 x2 s0 : Option Nat} {x3 x4 s1 s2 : Int32} {x7 : Int64} {P : k_H → Int32 → Prop} (c : k_cti (tL_act G l) [vR s0, vI s1, vI s2, vI 9, vI 0, vI 0, vI 0, vI 0] h P) (K : ∀ h1 v, P h1 v → k_X (jL_isRefused G l h0) h1 1093 [(0, vR x0), (1, vR x1), (2, vR x2), (3, vI x3), (4, vI x4), (7, vJ x7)] [vI v] Q) : k_X (jL_isRefused G l h0) h 1084 [(0, vR x0), (1, vR x1), (2, vR x2), (3, vI x3), (4, vI x4), (7, vJ x7)] [vI s2, vI s1, vR s0] Q := by
  obtain ⟨h1, v, c, p⟩ := c
  obtain ⟨h', r, K, q⟩ := K h1 v p
  exact ⟨h', r, j_bipush (v := 9) dL_isRefused_1084 (by decide) <| j_iconst (v := 0) dL_isRefused_1086 (by decide) <| j_iconst (v := 0) dL_isRefused_1087 (by decide) <| j_iconst (v := 0) dL_isRefused_1088 (by decide) <| j_iconst (v := 0) dL_isRefused_1089 (by decide) <| j_callW (v := some (vI v)) (as := [vR s0, vI s1, vI s2, vI 9, vI 0, vI 0, vI 0, vI 0]) dL_isRefused_1090 kcw_L_149 rfl rfl (by decide) (Nat.le_of_ble_eq_true rfl) c K, q⟩
theorem bL_isRefused_1093 {h0 h : k_H} {Q : k_H → k_R → Prop} {x0 x1 x2 : Option Nat} {x3 x4 s0 : Int32} {x7 : Int64} (K1 : ¬ (s0 = (-2000000001)) → k_X (jL_isRefused G l h0) h 1423 [(0, vR x0), (1, vR x1), (2, vR x2), (7, vJ x7)] [] Q) (K2 : s0 = (-2000000001) → k_X (jL_isRefused G l h0) h 1098 [(0, vR x0), (1, vR x1), (2, vR x2), (3, vI x3), (4, vI x4), (7, vJ x7)] [] Q) : k_X (jL_isRefused G l h0) h 1093 [(0, vR x0), (1, vR x1), (2, vR x2), (3, vI x3), (4, vI x4), (7, vJ x7)] [vI s0] Q := by
  by_cases hc : s0 = (-2000000001)
  · skip
    obtain ⟨h', r, K, q⟩ := K2 hc
    exact ⟨h', r, j_ldc (v := (-2000000001)) dL_isRefused_1093 ki_L_107 <| j_icmp_ne_f dL_isRefused_1095 1423 (by decide) hc K, q⟩
  · skip
    obtain ⟨h', r, K, q⟩ := K1 hc
    exact ⟨h', r, j_ldc (v := (-2000000001)) dL_isRefused_1093 ki_L_107 <| j_icmp_ne_t (tgt := 1423) dL_isRefused_1095 (by decide) hc (j_pick [0, 1, 2, 5] rfl K), q⟩
theorem bL_isRefused_1098 {h0 h : k_H} {Q : k_H → k_R → Prop} {x0 x1 x2 : Option Nat} {x3 x4 : Int32} {x7 : Int64} (K1 : x4 = 0 → k_X (jL_isRefused G l h0) h 1116 [(0, vR x0), (1, vR x1), (2, vR x2), (3, vI x3), (4, vI x4), (7, vJ x7)] [vI 0, vI 21, vR x0] Q) (K2 : ¬ (x4 = 0) → k_X (jL_isRefused G l h0) h 1107 [(0, vR x0), (1, vR x1), (2, vR x2), (3, vI x3), (4, vI x4), (7, vJ x7)] [vI 0, vI 21, vR x0] Q) : k_X (jL_isRefused G l h0) h 1098 [(0, vR x0), (1, vR x1), (2, vR x2), (3, vI x3), (4, vI x4), (7, vJ x7)] [] Q := by
  by_cases hc : x4 = 0
  · skip
    obtain ⟨h', r, K, q⟩ := K1 hc
    exact ⟨h', r, j_aload_n dL_isRefused_1098 rfl rfl <| j_bipush (v := 21) dL_isRefused_1099 (by decide) <| j_iconst (v := 0) dL_isRefused_1101 (by decide) <| j_iload dL_isRefused_1102 rfl <| j_if_eq_t (tgt := 1116) dL_isRefused_1104 (by decide) hc K, q⟩
  · skip
    obtain ⟨h', r, K, q⟩ := K2 hc
    exact ⟨h', r, j_aload_n dL_isRefused_1098 rfl rfl <| j_bipush (v := 21) dL_isRefused_1099 (by decide) <| j_iconst (v := 0) dL_isRefused_1101 (by decide) <| j_iload dL_isRefused_1102 rfl <| j_if_eq_f dL_isRefused_1104 1116 (by decide) hc K, q⟩
theorem bL_isRefused_1107 {h0 h : k_H} {Q : k_H → k_R → Prop} {x0 x1 x2 s0 : Option Nat} {x3 x4 s1 s2 : Int32} {x7 : Int64} (K : k_X (jL_isRefused G l h0) h 1117 [(0, vR x0), (1, vR x1), (2, vR x2), (3, vI x3), (4, vI x4), (7, vJ x7)] [vI ((-1) - (x3 - (x3 / 30) * 30)), vI s2, vI s1, vR s0] Q) : k_X (jL_isRefused G l h0) h 1107 [(0, vR x0), (1, vR x1), (2, vR x2), (3, vI x3), (4, vI x4), (7, vJ x7)] [vI s2, vI s1, vR s0] Q := by
  obtain ⟨h', r, K, q⟩ := K
  exact ⟨h', r, j_iconst (v := (-1)) dL_isRefused_1107 (by decide) <| j_iload_n dL_isRefused_1108 rfl rfl <| j_bipush (v := 30) dL_isRefused_1109 (by decide) <| j_irem dL_isRefused_1111 (by decide) <| j_isub dL_isRefused_1112 <| j_goto (tgt := 1117) dL_isRefused_1113 (by decide) <| K, q⟩
theorem bL_isRefused_1116 {h0 h : k_H} {Q : k_H → k_R → Prop} {x0 x1 x2 s0 : Option Nat} {x3 x4 s1 s2 : Int32} {x7 : Int64} (K : k_X (jL_isRefused G l h0) h 1117 [(0, vR x0), (1, vR x1), (2, vR x2), (3, vI x3), (4, vI x4), (7, vJ x7)] [vI 5, vI s2, vI s1, vR s0] Q) : k_X (jL_isRefused G l h0) h 1116 [(0, vR x0), (1, vR x1), (2, vR x2), (3, vI x3), (4, vI x4), (7, vJ x7)] [vI s2, vI s1, vR s0] Q := by
  obtain ⟨h', r, K, q⟩ := K
  exact ⟨h', r, j_iconst (v := 5) dL_isRefused_1116 (by decide) <| K, q⟩
theorem bL_isRefused_1117 {h0 h : k_H} {Q : k_H → k_R → Prop} {x0 x1 x2 s0 : Option Nat} {x3 x4 s1 s2 s3 : Int32} {x7 : Int64} {P : k_H → Int32 → Prop} (c : k_cti (tL_act G l) [vR s0, vI s1, vI s2, vI s3, vI 0, vI 0, vI 0, vI 0] h P) (K : ∀ h1 v, P h1 v → k_X (jL_isRefused G l h0) h1 1124 [(0, vR x0), (1, vR x1), (2, vR x2), (3, vI x3), (4, vI x4), (7, vJ x7)] [vI v] Q) : k_X (jL_isRefused G l h0) h 1117 [(0, vR x0), (1, vR x1), (2, vR x2), (3, vI x3), (4, vI x4), (7, vJ x7)] [vI s3, vI s2, vI s1, vR s0] Q := by
  obtain ⟨h1, v, c, p⟩ := c
  obtain ⟨h', r, K, q⟩ := K h1 v p
  exact ⟨h', r, j_iconst (v := 0) dL_isRefused_1117 (by decide) <| j_iconst (v := 0) dL_isRefused_1118 (by decide) <| j_iconst (v := 0) dL_isRefused_1119 (by decide) <| j_iconst (v := 0) dL_isRefused_1120 (by decide) <| j_callW (v := some (vI v)) (as := [vR s0, vI s1, vI s2, vI s3, vI 0, vI 0, vI 0, vI 0]) dL_isRefused_1121 kcw_L_149 rfl rfl (by decide) (Nat.le_of_ble_eq_true rfl) c K, q⟩
theorem bL_isRefused_1124 {h0 h : k_H} {Q : k_H → k_R → Prop} {x0 x1 x2 : Option Nat} {x3 x4 s0 : Int32} {x7 : Int64} (K1 : ¬ (s0 = (-2000000002)) → k_X (jL_isRefused G l h0) h 1423 [(0, vR x0), (1, vR x1), (2, vR x2), (7, vJ x7)] [] Q) (K2 : s0 = (-2000000002) → k_X (jL_isRefused G l h0) h 1129 [(0, vR x0), (1, vR x1), (2, vR x2), (3, vI x3), (4, vI x4), (7, vJ x7)] [] Q) : k_X (jL_isRefused G l h0) h 1124 [(0, vR x0), (1, vR x1), (2, vR x2), (3, vI x3), (4, vI x4), (7, vJ x7)] [vI s0] Q := by
  by_cases hc : s0 = (-2000000002)
  · skip
    obtain ⟨h', r, K, q⟩ := K2 hc
    exact ⟨h', r, j_ldc (v := (-2000000002)) dL_isRefused_1124 ki_L_110 <| j_icmp_ne_f dL_isRefused_1126 1423 (by decide) hc K, q⟩
  · skip
    obtain ⟨h', r, K, q⟩ := K1 hc
    exact ⟨h', r, j_ldc (v := (-2000000002)) dL_isRefused_1124 ki_L_110 <| j_icmp_ne_t (tgt := 1423) dL_isRefused_1126 (by decide) hc (j_pick [0, 1, 2, 5] rfl K), q⟩
theorem bL_isRefused_1129 {h0 h : k_H} {Q : k_H → k_R → Prop} {x0 x1 x2 : Option Nat} {x3 x4 : Int32} {x7 : Int64} (K1 : x4 = 0 → k_X (jL_isRefused G l h0) h 1141 [(0, vR x0), (1, vR x1), (2, vR x2), (3, vI x3), (4, vI x4), (7, vJ x7)] [vI 23, vR x0] Q) (K2 : ¬ (x4 = 0) → k_X (jL_isRefused G l h0) h 1137 [(0, vR x0), (1, vR x1), (2, vR x2), (3, vI x3), (4, vI x4), (7, vJ x7)] [vI 23, vR x0] Q) : k_X (jL_isRefused G l h0) h 1129 [(0, vR x0), (1, vR x1), (2, vR x2), (3, vI x3), (4, vI x4), (7, vJ x7)] [] Q := by
  by_cases hc : x4 = 0
  · skip
    obtain ⟨h', r, K, q⟩ := K1 hc
    exact ⟨h', r, j_aload_n dL_isRefused_1129 rfl rfl <| j_bipush (v := 23) dL_isRefused_1130 (by decide) <| j_iload dL_isRefused_1132 rfl <| j_if_eq_t (tgt := 1141) dL_isRefused_1134 (by decide) hc K, q⟩
  · skip
    obtain ⟨h', r, K, q⟩ := K2 hc
    exact ⟨h', r, j_aload_n dL_isRefused_1129 rfl rfl <| j_bipush (v := 23) dL_isRefused_1130 (by decide) <| j_iload dL_isRefused_1132 rfl <| j_if_eq_f dL_isRefused_1134 1141 (by decide) hc K, q⟩
theorem bL_isRefused_1137 {h0 h : k_H} {Q : k_H → k_R → Prop} {x0 x1 x2 s0 : Option Nat} {x3 x4 s1 : Int32} {x7 : Int64} (K : k_X (jL_isRefused G l h0) h 1149 [(0, vR x0), (1, vR x1), (2, vR x2), (3, vI x3), (4, vI x4), (7, vJ x7)] [vI (-1), vI s1, vR s0] Q) : k_X (jL_isRefused G l h0) h 1137 [(0, vR x0), (1, vR x1), (2, vR x2), (3, vI x3), (4, vI x4), (7, vJ x7)] [vI s1, vR s0] Q := by
  obtain ⟨h', r, K, q⟩ := K
  exact ⟨h', r, j_iconst (v := (-1)) dL_isRefused_1137 (by decide) <| j_goto (tgt := 1149) dL_isRefused_1138 (by decide) <| K, q⟩
theorem bL_isRefused_1141 {h0 h : k_H} {Q : k_H → k_R → Prop} {x0 x2 s0 : Option Nat} {x1 : Nat} {x3 x4 s1 : Int32} {x7 : Int64} {n1 : Nat} {w1 : Nat → Int32} (o1 : h.1 x1 = some (k_i n1 w1)) (y2 : vp_in 2 n1) (K : k_X (jL_isRefused G l h0) h 1149 [(0, vR x0), (1, vR (some x1)), (2, vR x2), (3, vI x3), (4, vI x4), (7, vJ x7)] [vI ((w1 (2 : Int32).toNatClampNeg) + (x3 - (x3 / 30) * 30)), vI s1, vR s0] Q) : k_X (jL_isRefused G l h0) h 1141 [(0, vR x0), (1, vR (some x1)), (2, vR x2), (3, vI x3), (4, vI x4), (7, vJ x7)] [vI s1, vR s0] Q := by
  obtain ⟨h', r, K, q⟩ := K
  exact ⟨h', r, j_aload_n dL_isRefused_1141 rfl rfl <| j_iconst (v := 2) dL_isRefused_1142 (by decide) <| j_iald dL_isRefused_1143 o1 y2 <| j_iload_n dL_isRefused_1144 rfl rfl <| j_bipush (v := 30) dL_isRefused_1145 (by decide) <| j_irem dL_isRefused_1147 (by decide) <| j_iadd dL_isRefused_1148 <| K, q⟩
theorem bL_isRefused_1149 {h0 h : k_H} {Q : k_H → k_R → Prop} {x0 x1 x2 s0 : Option Nat} {x3 x4 s1 s2 : Int32} {x7 : Int64} {P : k_H → Int32 → Prop} (c : k_cti (tL_act G l) [vR s0, vI s1, vI s2, vI 0, vI 0, vI 0, vI 0, vI 0] h P) (K : ∀ h1 v, P h1 v → k_X (jL_isRefused G l h0) h1 1157 [(0, vR x0), (1, vR x1), (2, vR x2), (3, vI x3), (4, vI x4), (7, vJ x7)] [vI v] Q) : k_X (jL_isRefused G l h0) h 1149 [(0, vR x0), (1, vR x1), (2, vR x2), (3, vI x3), (4, vI x4), (7, vJ x7)] [vI s2, vI s1, vR s0] Q := by
  obtain ⟨h1, v, c, p⟩ := c
  obtain ⟨h', r, K, q⟩ := K h1 v p
  exact ⟨h', r, j_iconst (v := 0) dL_isRefused_1149 (by decide) <| j_iconst (v := 0) dL_isRefused_1150 (by decide) <| j_iconst (v := 0) dL_isRefused_1151 (by decide) <| j_iconst (v := 0) dL_isRefused_1152 (by decide) <| j_iconst (v := 0) dL_isRefused_1153 (by decide) <| j_callW (v := some (vI v)) (as := [vR s0, vI s1, vI s2, vI 0, vI 0, vI 0, vI 0, vI 0]) dL_isRefused_1154 kcw_L_149 rfl rfl (by decide) (Nat.le_of_ble_eq_true rfl) c K, q⟩
theorem bL_isRefused_1157 {h0 h : k_H} {Q : k_H → k_R → Prop} {x0 x1 x2 : Option Nat} {x3 x4 s0 : Int32} {x7 : Int64} (K1 : ¬ (s0 = (-2000000001)) → k_X (jL_isRefused G l h0) h 1423 [(0, vR x0), (1, vR x1), (2, vR x2), (7, vJ x7)] [] Q) (K2 : s0 = (-2000000001) → k_X (jL_isRefused G l h0) h 1162 [(0, vR x0), (1, vR x1), (2, vR x2), (3, vI x3), (4, vI x4), (7, vJ x7)] [] Q) : k_X (jL_isRefused G l h0) h 1157 [(0, vR x0), (1, vR x1), (2, vR x2), (3, vI x3), (4, vI x4), (7, vJ x7)] [vI s0] Q := by
  by_cases hc : s0 = (-2000000001)
  · skip
    obtain ⟨h', r, K, q⟩ := K2 hc
    exact ⟨h', r, j_ldc (v := (-2000000001)) dL_isRefused_1157 ki_L_107 <| j_icmp_ne_f dL_isRefused_1159 1423 (by decide) hc K, q⟩
  · skip
    obtain ⟨h', r, K, q⟩ := K1 hc
    exact ⟨h', r, j_ldc (v := (-2000000001)) dL_isRefused_1157 ki_L_107 <| j_icmp_ne_t (tgt := 1423) dL_isRefused_1159 (by decide) hc (j_pick [0, 1, 2, 5] rfl K), q⟩
theorem bL_isRefused_1162 {h0 h : k_H} {Q : k_H → k_R → Prop} {x0 x1 x2 : Option Nat} {x3 x4 : Int32} {x7 : Int64} (K1 : x4 = 0 → k_X (jL_isRefused G l h0) h 1174 [(0, vR x0), (1, vR x1), (2, vR x2), (3, vI x3), (4, vI x4), (7, vJ x7)] [vI 24, vR x0] Q) (K2 : ¬ (x4 = 0) → k_X (jL_isRefused G l h0) h 1170 [(0, vR x0), (1, vR x1), (2, vR x2), (3, vI x3), (4, vI x4), (7, vJ x7)] [vI 24, vR x0] Q) : k_X (jL_isRefused G l h0) h 1162 [(0, vR x0), (1, vR x1), (2, vR x2), (3, vI x3), (4, vI x4), (7, vJ x7)] [] Q := by
  by_cases hc : x4 = 0
  · skip
    obtain ⟨h', r, K, q⟩ := K1 hc
    exact ⟨h', r, j_aload_n dL_isRefused_1162 rfl rfl <| j_bipush (v := 24) dL_isRefused_1163 (by decide) <| j_iload dL_isRefused_1165 rfl <| j_if_eq_t (tgt := 1174) dL_isRefused_1167 (by decide) hc K, q⟩
  · skip
    obtain ⟨h', r, K, q⟩ := K2 hc
    exact ⟨h', r, j_aload_n dL_isRefused_1162 rfl rfl <| j_bipush (v := 24) dL_isRefused_1163 (by decide) <| j_iload dL_isRefused_1165 rfl <| j_if_eq_f dL_isRefused_1167 1174 (by decide) hc K, q⟩
theorem bL_isRefused_1170 {h0 h : k_H} {Q : k_H → k_R → Prop} {x0 x1 x2 s0 : Option Nat} {x3 x4 s1 : Int32} {x7 : Int64} (K : k_X (jL_isRefused G l h0) h 1182 [(0, vR x0), (1, vR x1), (2, vR x2), (3, vI x3), (4, vI x4), (7, vJ x7)] [vI (-1), vI s1, vR s0] Q) : k_X (jL_isRefused G l h0) h 1170 [(0, vR x0), (1, vR x1), (2, vR x2), (3, vI x3), (4, vI x4), (7, vJ x7)] [vI s1, vR s0] Q := by
  obtain ⟨h', r, K, q⟩ := K
  exact ⟨h', r, j_iconst (v := (-1)) dL_isRefused_1170 (by decide) <| j_goto (tgt := 1182) dL_isRefused_1171 (by decide) <| K, q⟩
theorem bL_isRefused_1174 {h0 h : k_H} {Q : k_H → k_R → Prop} {x0 x2 s0 : Option Nat} {x1 : Nat} {x3 x4 s1 : Int32} {x7 : Int64} {n1 : Nat} {w1 : Nat → Int32} (o1 : h.1 x1 = some (k_i n1 w1)) (y2 : vp_in 3 n1) (K : k_X (jL_isRefused G l h0) h 1182 [(0, vR x0), (1, vR (some x1)), (2, vR x2), (3, vI x3), (4, vI x4), (7, vJ x7)] [vI ((w1 (3 : Int32).toNatClampNeg) + (x3 - (x3 / 30) * 30)), vI s1, vR s0] Q) : k_X (jL_isRefused G l h0) h 1174 [(0, vR x0), (1, vR (some x1)), (2, vR x2), (3, vI x3), (4, vI x4), (7, vJ x7)] [vI s1, vR s0] Q := by
  obtain ⟨h', r, K, q⟩ := K
  exact ⟨h', r, j_aload_n dL_isRefused_1174 rfl rfl <| j_iconst (v := 3) dL_isRefused_1175 (by decide) <| j_iald dL_isRefused_1176 o1 y2 <| j_iload_n dL_isRefused_1177 rfl rfl <| j_bipush (v := 30) dL_isRefused_1178 (by decide) <| j_irem dL_isRefused_1180 (by decide) <| j_iadd dL_isRefused_1181 <| K, q⟩
theorem bL_isRefused_1182 {h0 h : k_H} {Q : k_H → k_R → Prop} {x0 x1 x2 s0 : Option Nat} {x3 x4 s1 s2 : Int32} {x7 : Int64} {P : k_H → Int32 → Prop} (c : k_cti (tL_act G l) [vR s0, vI s1, vI s2, vI 0, vI 0, vI 0, vI 0, vI 0] h P) (K : ∀ h1 v, P h1 v → k_X (jL_isRefused G l h0) h1 1190 [(0, vR x0), (1, vR x1), (2, vR x2), (3, vI x3), (4, vI x4), (7, vJ x7)] [vI v] Q) : k_X (jL_isRefused G l h0) h 1182 [(0, vR x0), (1, vR x1), (2, vR x2), (3, vI x3), (4, vI x4), (7, vJ x7)] [vI s2, vI s1, vR s0] Q := by
  obtain ⟨h1, v, c, p⟩ := c
  obtain ⟨h', r, K, q⟩ := K h1 v p
  exact ⟨h', r, j_iconst (v := 0) dL_isRefused_1182 (by decide) <| j_iconst (v := 0) dL_isRefused_1183 (by decide) <| j_iconst (v := 0) dL_isRefused_1184 (by decide) <| j_iconst (v := 0) dL_isRefused_1185 (by decide) <| j_iconst (v := 0) dL_isRefused_1186 (by decide) <| j_callW (v := some (vI v)) (as := [vR s0, vI s1, vI s2, vI 0, vI 0, vI 0, vI 0, vI 0]) dL_isRefused_1187 kcw_L_149 rfl rfl (by decide) (Nat.le_of_ble_eq_true rfl) c K, q⟩
theorem bL_isRefused_1190 {h0 h : k_H} {Q : k_H → k_R → Prop} {x0 x1 x2 : Option Nat} {x3 x4 s0 : Int32} {x7 : Int64} (K1 : ¬ (s0 = (-2000000001)) → k_X (jL_isRefused G l h0) h 1423 [(0, vR x0), (1, vR x1), (2, vR x2), (7, vJ x7)] [] Q) (K2 : s0 = (-2000000001) → k_X (jL_isRefused G l h0) h 1195 [(0, vR x0), (1, vR x1), (2, vR x2), (3, vI x3), (4, vI x4), (7, vJ x7)] [] Q) : k_X (jL_isRefused G l h0) h 1190 [(0, vR x0), (1, vR x1), (2, vR x2), (3, vI x3), (4, vI x4), (7, vJ x7)] [vI s0] Q := by
  by_cases hc : s0 = (-2000000001)
  · skip
    obtain ⟨h', r, K, q⟩ := K2 hc
    exact ⟨h', r, j_ldc (v := (-2000000001)) dL_isRefused_1190 ki_L_107 <| j_icmp_ne_f dL_isRefused_1192 1423 (by decide) hc K, q⟩
  · skip
    obtain ⟨h', r, K, q⟩ := K1 hc
    exact ⟨h', r, j_ldc (v := (-2000000001)) dL_isRefused_1190 ki_L_107 <| j_icmp_ne_t (tgt := 1423) dL_isRefused_1192 (by decide) hc (j_pick [0, 1, 2, 5] rfl K), q⟩
theorem bL_isRefused_1195 {h0 h : k_H} {Q : k_H → k_R → Prop} {x0 x1 x2 : Option Nat} {x3 x4 : Int32} {x7 : Int64} (K1 : x4 = 0 → k_X (jL_isRefused G l h0) h 1213 [(0, vR x0), (1, vR x1), (2, vR x2), (3, vI x3), (4, vI x4), (7, vJ x7)] [vI 0, vI 24, vR x0] Q) (K2 : ¬ (x4 = 0) → k_X (jL_isRefused G l h0) h 1204 [(0, vR x0), (1, vR x1), (2, vR x2), (3, vI x3), (4, vI x4), (7, vJ x7)] [vI 0, vI 24, vR x0] Q) : k_X (jL_isRefused G l h0) h 1195 [(0, vR x0), (1, vR x1), (2, vR x2), (3, vI x3), (4, vI x4), (7, vJ x7)] [] Q := by
  by_cases hc : x4 = 0
  · skip
    obtain ⟨h', r, K, q⟩ := K1 hc
    exact ⟨h', r, j_aload_n dL_isRefused_1195 rfl rfl <| j_bipush (v := 24) dL_isRefused_1196 (by decide) <| j_iconst (v := 0) dL_isRefused_1198 (by decide) <| j_iload dL_isRefused_1199 rfl <| j_if_eq_t (tgt := 1213) dL_isRefused_1201 (by decide) hc K, q⟩
  · skip
    obtain ⟨h', r, K, q⟩ := K2 hc
    exact ⟨h', r, j_aload_n dL_isRefused_1195 rfl rfl <| j_bipush (v := 24) dL_isRefused_1196 (by decide) <| j_iconst (v := 0) dL_isRefused_1198 (by decide) <| j_iload dL_isRefused_1199 rfl <| j_if_eq_f dL_isRefused_1201 1213 (by decide) hc K, q⟩
theorem bL_isRefused_1204 {h0 h : k_H} {Q : k_H → k_R → Prop} {x0 x1 x2 s0 : Option Nat} {x3 x4 s1 s2 : Int32} {x7 : Int64} (K : k_X (jL_isRefused G l h0) h 1215 [(0, vR x0), (1, vR x1), (2, vR x2), (3, vI x3), (4, vI x4), (7, vJ x7)] [vI ((-1) - (x3 - (x3 / 30) * 30)), vI s2, vI s1, vR s0] Q) : k_X (jL_isRefused G l h0) h 1204 [(0, vR x0), (1, vR x1), (2, vR x2), (3, vI x3), (4, vI x4), (7, vJ x7)] [vI s2, vI s1, vR s0] Q := by
  obtain ⟨h', r, K, q⟩ := K
  exact ⟨h', r, j_iconst (v := (-1)) dL_isRefused_1204 (by decide) <| j_iload_n dL_isRefused_1205 rfl rfl <| j_bipush (v := 30) dL_isRefused_1206 (by decide) <| j_irem dL_isRefused_1208 (by decide) <| j_isub dL_isRefused_1209 <| j_goto (tgt := 1215) dL_isRefused_1210 (by decide) <| K, q⟩
theorem bL_isRefused_1213 {h0 h : k_H} {Q : k_H → k_R → Prop} {x0 x1 x2 s0 : Option Nat} {x3 x4 s1 s2 : Int32} {x7 : Int64} (K : k_X (jL_isRefused G l h0) h 1215 [(0, vR x0), (1, vR x1), (2, vR x2), (3, vI x3), (4, vI x4), (7, vJ x7)] [vI 10, vI s2, vI s1, vR s0] Q) : k_X (jL_isRefused G l h0) h 1213 [(0, vR x0), (1, vR x1), (2, vR x2), (3, vI x3), (4, vI x4), (7, vJ x7)] [vI s2, vI s1, vR s0] Q := by
  obtain ⟨h', r, K, q⟩ := K
  exact ⟨h', r, j_bipush (v := 10) dL_isRefused_1213 (by decide) <| K, q⟩
theorem bL_isRefused_1215 {h0 h : k_H} {Q : k_H → k_R → Prop} {x0 x1 x2 s0 : Option Nat} {x3 x4 s1 s2 s3 : Int32} {x7 : Int64} {P : k_H → Int32 → Prop} (c : k_cti (tL_act G l) [vR s0, vI s1, vI s2, vI s3, vI 0, vI 0, vI 0, vI 0] h P) (K : ∀ h1 v, P h1 v → k_X (jL_isRefused G l h0) h1 1222 [(0, vR x0), (1, vR x1), (2, vR x2), (3, vI x3), (4, vI x4), (7, vJ x7)] [vI v] Q) : k_X (jL_isRefused G l h0) h 1215 [(0, vR x0), (1, vR x1), (2, vR x2), (3, vI x3), (4, vI x4), (7, vJ x7)] [vI s3, vI s2, vI s1, vR s0] Q := by
  obtain ⟨h1, v, c, p⟩ := c
  obtain ⟨h', r, K, q⟩ := K h1 v p
  exact ⟨h', r, j_iconst (v := 0) dL_isRefused_1215 (by decide) <| j_iconst (v := 0) dL_isRefused_1216 (by decide) <| j_iconst (v := 0) dL_isRefused_1217 (by decide) <| j_iconst (v := 0) dL_isRefused_1218 (by decide) <| j_callW (v := some (vI v)) (as := [vR s0, vI s1, vI s2, vI s3, vI 0, vI 0, vI 0, vI 0]) dL_isRefused_1219 kcw_L_149 rfl rfl (by decide) (Nat.le_of_ble_eq_true rfl) c K, q⟩
theorem bL_isRefused_1222 {h0 h : k_H} {Q : k_H → k_R → Prop} {x0 x1 x2 : Option Nat} {x3 x4 s0 : Int32} {x7 : Int64} (K1 : ¬ (s0 = (-2000000002)) → k_X (jL_isRefused G l h0) h 1423 [(0, vR x0), (1, vR x1), (2, vR x2), (7, vJ x7)] [] Q) (K2 : s0 = (-2000000002) → k_X (jL_isRefused G l h0) h 1227 [(0, vR x0), (1, vR x1), (2, vR x2), (3, vI x3), (4, vI x4), (7, vJ x7)] [] Q) : k_X (jL_isRefused G l h0) h 1222 [(0, vR x0), (1, vR x1), (2, vR x2), (3, vI x3), (4, vI x4), (7, vJ x7)] [vI s0] Q := by
  by_cases hc : s0 = (-2000000002)
  · skip
    obtain ⟨h', r, K, q⟩ := K2 hc
    exact ⟨h', r, j_ldc (v := (-2000000002)) dL_isRefused_1222 ki_L_110 <| j_icmp_ne_f dL_isRefused_1224 1423 (by decide) hc K, q⟩
  · skip
    obtain ⟨h', r, K, q⟩ := K1 hc
    exact ⟨h', r, j_ldc (v := (-2000000002)) dL_isRefused_1222 ki_L_110 <| j_icmp_ne_t (tgt := 1423) dL_isRefused_1224 (by decide) hc (j_pick [0, 1, 2, 5] rfl K), q⟩
theorem bL_isRefused_1227 {h0 h : k_H} {Q : k_H → k_R → Prop} {x0 x1 x2 : Option Nat} {x3 x4 : Int32} {x7 : Int64} (K1 : x4 = 0 → k_X (jL_isRefused G l h0) h 1239 [(0, vR x0), (1, vR x1), (2, vR x2), (3, vI x3), (4, vI x4), (7, vJ x7)] [vI 25, vR x0] Q) (K2 : ¬ (x4 = 0) → k_X (jL_isRefused G l h0) h 1235 [(0, vR x0), (1, vR x1), (2, vR x2), (3, vI x3), (4, vI x4), (7, vJ x7)] [vI 25, vR x0] Q) : k_X (jL_isRefused G l h0) h 1227 [(0, vR x0), (1, vR x1), (2, vR x2), (3, vI x3), (4, vI x4), (7, vJ x7)] [] Q := by
  by_cases hc : x4 = 0
  · skip
    obtain ⟨h', r, K, q⟩ := K1 hc
    exact ⟨h', r, j_aload_n dL_isRefused_1227 rfl rfl <| j_bipush (v := 25) dL_isRefused_1228 (by decide) <| j_iload dL_isRefused_1230 rfl <| j_if_eq_t (tgt := 1239) dL_isRefused_1232 (by decide) hc K, q⟩
  · skip
    obtain ⟨h', r, K, q⟩ := K2 hc
    exact ⟨h', r, j_aload_n dL_isRefused_1227 rfl rfl <| j_bipush (v := 25) dL_isRefused_1228 (by decide) <| j_iload dL_isRefused_1230 rfl <| j_if_eq_f dL_isRefused_1232 1239 (by decide) hc K, q⟩
theorem bL_isRefused_1235 {h0 h : k_H} {Q : k_H → k_R → Prop} {x0 x1 x2 s0 : Option Nat} {x3 x4 s1 : Int32} {x7 : Int64} (K : k_X (jL_isRefused G l h0) h 1242 [(0, vR x0), (1, vR x1), (2, vR x2), (3, vI x3), (4, vI x4), (7, vJ x7)] [vI (-1), vI s1, vR s0] Q) : k_X (jL_isRefused G l h0) h 1235 [(0, vR x0), (1, vR x1), (2, vR x2), (3, vI x3), (4, vI x4), (7, vJ x7)] [vI s1, vR s0] Q := by
  obtain ⟨h', r, K, q⟩ := K
  exact ⟨h', r, j_iconst (v := (-1)) dL_isRefused_1235 (by decide) <| j_goto (tgt := 1242) dL_isRefused_1236 (by decide) <| K, q⟩
theorem bL_isRefused_1239 {h0 h : k_H} {Q : k_H → k_R → Prop} {x0 x2 s0 : Option Nat} {x1 : Nat} {x3 x4 s1 : Int32} {x7 : Int64} {n1 : Nat} {w1 : Nat → Int32} (o1 : h.1 x1 = some (k_i n1 w1)) (y2 : vp_in 3 n1) (K : k_X (jL_isRefused G l h0) h 1242 [(0, vR x0), (1, vR (some x1)), (2, vR x2), (3, vI x3), (4, vI x4), (7, vJ x7)] [vI (w1 (3 : Int32).toNatClampNeg), vI s1, vR s0] Q) : k_X (jL_isRefused G l h0) h 1239 [(0, vR x0), (1, vR (some x1)), (2, vR x2), (3, vI x3), (4, vI x4), (7, vJ x7)] [vI s1, vR s0] Q := by
  obtain ⟨h', r, K, q⟩ := K
  exact ⟨h', r, j_aload_n dL_isRefused_1239 rfl rfl <| j_iconst (v := 3) dL_isRefused_1240 (by decide) <| j_iald dL_isRefused_1241 o1 y2 <| K, q⟩
theorem bL_isRefused_1242 {h0 h : k_H} {Q : k_H → k_R → Prop} {x0 x1 x2 s0 : Option Nat} {x3 x4 s1 s2 : Int32} {x7 : Int64} {P : k_H → Int32 → Prop} (c : k_cti (tL_act G l) [vR s0, vI s1, vI s2, vI 0, vI 0, vI 0, vI 0, vI 0] h P) (K : ∀ h1 v, P h1 v → k_X (jL_isRefused G l h0) h1 1250 [(0, vR x0), (1, vR x1), (2, vR x2), (3, vI x3), (4, vI x4), (7, vJ x7)] [vI v] Q) : k_X (jL_isRefused G l h0) h 1242 [(0, vR x0), (1, vR x1), (2, vR x2), (3, vI x3), (4, vI x4), (7, vJ x7)] [vI s2, vI s1, vR s0] Q := by
  obtain ⟨h1, v, c, p⟩ := c
  obtain ⟨h', r, K, q⟩ := K h1 v p
  exact ⟨h', r, j_iconst (v := 0) dL_isRefused_1242 (by decide) <| j_iconst (v := 0) dL_isRefused_1243 (by decide) <| j_iconst (v := 0) dL_isRefused_1244 (by decide) <| j_iconst (v := 0) dL_isRefused_1245 (by decide) <| j_iconst (v := 0) dL_isRefused_1246 (by decide) <| j_callW (v := some (vI v)) (as := [vR s0, vI s1, vI s2, vI 0, vI 0, vI 0, vI 0, vI 0]) dL_isRefused_1247 kcw_L_149 rfl rfl (by decide) (Nat.le_of_ble_eq_true rfl) c K, q⟩
theorem bL_isRefused_1250 {h0 h : k_H} {Q : k_H → k_R → Prop} {x0 x1 x2 : Option Nat} {x3 x4 s0 : Int32} {x7 : Int64} (K1 : ¬ (s0 = (-2000000001)) → k_X (jL_isRefused G l h0) h 1423 [(0, vR x0), (1, vR x1), (2, vR x2), (7, vJ x7)] [] Q) (K2 : s0 = (-2000000001) → k_X (jL_isRefused G l h0) h 1255 [(0, vR x0), (1, vR x1), (2, vR x2), (3, vI x3), (4, vI x4), (7, vJ x7)] [] Q) : k_X (jL_isRefused G l h0) h 1250 [(0, vR x0), (1, vR x1), (2, vR x2), (3, vI x3), (4, vI x4), (7, vJ x7)] [vI s0] Q := by
  by_cases hc : s0 = (-2000000001)
  · skip
    obtain ⟨h', r, K, q⟩ := K2 hc
    exact ⟨h', r, j_ldc (v := (-2000000001)) dL_isRefused_1250 ki_L_107 <| j_icmp_ne_f dL_isRefused_1252 1423 (by decide) hc K, q⟩
  · skip
    obtain ⟨h', r, K, q⟩ := K1 hc
    exact ⟨h', r, j_ldc (v := (-2000000001)) dL_isRefused_1250 ki_L_107 <| j_icmp_ne_t (tgt := 1423) dL_isRefused_1252 (by decide) hc (j_pick [0, 1, 2, 5] rfl K), q⟩
theorem bL_isRefused_1255 {h0 h : k_H} {Q : k_H → k_R → Prop} {x0 x1 x2 : Option Nat} {x3 x4 : Int32} {x7 : Int64} {P : k_H → Int32 → Prop} (c : k_cti (tL_act G l) [vR x0, vI 25, vI 0, vI 0, vI 0, vI 0, vI 0, vI 0] h P) (K : ∀ h1 v, P h1 v → k_X (jL_isRefused G l h0) h1 1267 [(0, vR x0), (1, vR x1), (2, vR x2), (3, vI x3), (4, vI x4), (7, vJ x7)] [vI v] Q) : k_X (jL_isRefused G l h0) h 1255 [(0, vR x0), (1, vR x1), (2, vR x2), (3, vI x3), (4, vI x4), (7, vJ x7)] [] Q := by
  obtain ⟨h1, v, c, p⟩ := c
  obtain ⟨h', r, K, q⟩ := K h1 v p
  exact ⟨h', r, j_aload_n dL_isRefused_1255 rfl rfl <| j_bipush (v := 25) dL_isRefused_1256 (by decide) <| j_iconst (v := 0) dL_isRefused_1258 (by decide) <| j_iconst (v := 0) dL_isRefused_1259 (by decide) <| j_iconst (v := 0) dL_isRefused_1260 (by decide) <| j_iconst (v := 0) dL_isRefused_1261 (by decide) <| j_iconst (v := 0) dL_isRefused_1262 (by decide) <| j_iconst (v := 0) dL_isRefused_1263 (by decide) <| j_callW (v := some (vI v)) (as := [vR x0, vI 25, vI 0, vI 0, vI 0, vI 0, vI 0, vI 0]) dL_isRefused_1264 kcw_L_149 rfl rfl (by decide) (Nat.le_of_ble_eq_true rfl) c K, q⟩
theorem bL_isRefused_1267 {h0 h : k_H} {Q : k_H → k_R → Prop} {x0 x1 x2 : Option Nat} {x3 x4 s0 : Int32} {x7 : Int64} (K1 : ¬ (s0 = (-2000000003)) → k_X (jL_isRefused G l h0) h 1423 [(0, vR x0), (1, vR x1), (2, vR x2), (7, vJ x7)] [] Q) (K2 : s0 = (-2000000003) → k_X (jL_isRefused G l h0) h 1272 [(0, vR x0), (1, vR x1), (2, vR x2), (3, vI x3), (4, vI x4), (7, vJ x7)] [] Q) : k_X (jL_isRefused G l h0) h 1267 [(0, vR x0), (1, vR x1), (2, vR x2), (3, vI x3), (4, vI x4), (7, vJ x7)] [vI s0] Q := by
  by_cases hc : s0 = (-2000000003)
  · skip
    obtain ⟨h', r, K, q⟩ := K2 hc
    exact ⟨h', r, j_ldc (v := (-2000000003)) dL_isRefused_1267 ki_L_113 <| j_icmp_ne_f dL_isRefused_1269 1423 (by decide) hc K, q⟩
  · skip
    obtain ⟨h', r, K, q⟩ := K1 hc
    exact ⟨h', r, j_ldc (v := (-2000000003)) dL_isRefused_1267 ki_L_113 <| j_icmp_ne_t (tgt := 1423) dL_isRefused_1269 (by decide) hc (j_pick [0, 1, 2, 5] rfl K), q⟩
theorem bL_isRefused_1272 {h0 h : k_H} {Q : k_H → k_R → Prop} {x0 x1 x2 : Option Nat} {x3 x4 : Int32} {x7 : Int64} (K1 : x4 = 0 → k_X (jL_isRefused G l h0) h 1284 [(0, vR x0), (1, vR x1), (2, vR x2), (3, vI x3), (4, vI x4), (7, vJ x7)] [vI 26, vR x0] Q) (K2 : ¬ (x4 = 0) → k_X (jL_isRefused G l h0) h 1280 [(0, vR x0), (1, vR x1), (2, vR x2), (3, vI x3), (4, vI x4), (7, vJ x7)] [vI 26, vR x0] Q) : k_X (jL_isRefused G l h0) h 1272 [(0, vR x0), (1, vR x1), (2, vR x2), (3, vI x3), (4, vI x4), (7, vJ x7)] [] Q := by
  by_cases hc : x4 = 0
  · skip
    obtain ⟨h', r, K, q⟩ := K1 hc
    exact ⟨h', r, j_aload_n dL_isRefused_1272 rfl rfl <| j_bipush (v := 26) dL_isRefused_1273 (by decide) <| j_iload dL_isRefused_1275 rfl <| j_if_eq_t (tgt := 1284) dL_isRefused_1277 (by decide) hc K, q⟩
  · skip
    obtain ⟨h', r, K, q⟩ := K2 hc
    exact ⟨h', r, j_aload_n dL_isRefused_1272 rfl rfl <| j_bipush (v := 26) dL_isRefused_1273 (by decide) <| j_iload dL_isRefused_1275 rfl <| j_if_eq_f dL_isRefused_1277 1284 (by decide) hc K, q⟩
theorem bL_isRefused_1280 {h0 h : k_H} {Q : k_H → k_R → Prop} {x0 x1 x2 s0 : Option Nat} {x3 x4 s1 : Int32} {x7 : Int64} (K : k_X (jL_isRefused G l h0) h 1292 [(0, vR x0), (1, vR x1), (2, vR x2), (3, vI x3), (4, vI x4), (7, vJ x7)] [vI (-1), vI s1, vR s0] Q) : k_X (jL_isRefused G l h0) h 1280 [(0, vR x0), (1, vR x1), (2, vR x2), (3, vI x3), (4, vI x4), (7, vJ x7)] [vI s1, vR s0] Q := by
  obtain ⟨h', r, K, q⟩ := K
  exact ⟨h', r, j_iconst (v := (-1)) dL_isRefused_1280 (by decide) <| j_goto (tgt := 1292) dL_isRefused_1281 (by decide) <| K, q⟩
theorem bL_isRefused_1284 {h0 h : k_H} {Q : k_H → k_R → Prop} {x0 x2 s0 : Option Nat} {x1 : Nat} {x3 x4 s1 : Int32} {x7 : Int64} {n1 : Nat} {w1 : Nat → Int32} (o1 : h.1 x1 = some (k_i n1 w1)) (y2 : vp_in 3 n1) (K : k_X (jL_isRefused G l h0) h 1292 [(0, vR x0), (1, vR (some x1)), (2, vR x2), (3, vI x3), (4, vI x4), (7, vJ x7)] [vI ((w1 (3 : Int32).toNatClampNeg) + (x3 - (x3 / 30) * 30)), vI s1, vR s0] Q) : k_X (jL_isRefused G l h0) h 1284 [(0, vR x0), (1, vR (some x1)), (2, vR x2), (3, vI x3), (4, vI x4), (7, vJ x7)] [vI s1, vR s0] Q := by
  obtain ⟨h', r, K, q⟩ := K
  exact ⟨h', r, j_aload_n dL_isRefused_1284 rfl rfl <| j_iconst (v := 3) dL_isRefused_1285 (by decide) <| j_iald dL_isRefused_1286 o1 y2 <| j_iload_n dL_isRefused_1287 rfl rfl <| j_bipush (v := 30) dL_isRefused_1288 (by decide) <| j_irem dL_isRefused_1290 (by decide) <| j_iadd dL_isRefused_1291 <| K, q⟩
theorem bL_isRefused_1292 {h0 h : k_H} {Q : k_H → k_R → Prop} {x0 x1 x2 s0 : Option Nat} {x3 x4 s1 s2 : Int32} {x7 : Int64} {P : k_H → Int32 → Prop} (c : k_cti (tL_act G l) [vR s0, vI s1, vI s2, vI 0, vI 0, vI 0, vI 0, vI 0] h P) (K : ∀ h1 v, P h1 v → k_X (jL_isRefused G l h0) h1 1300 [(0, vR x0), (1, vR x1), (2, vR x2), (3, vI x3), (4, vI x4), (7, vJ x7)] [vI v] Q) : k_X (jL_isRefused G l h0) h 1292 [(0, vR x0), (1, vR x1), (2, vR x2), (3, vI x3), (4, vI x4), (7, vJ x7)] [vI s2, vI s1, vR s0] Q := by
  obtain ⟨h1, v, c, p⟩ := c
  obtain ⟨h', r, K, q⟩ := K h1 v p
  exact ⟨h', r, j_iconst (v := 0) dL_isRefused_1292 (by decide) <| j_iconst (v := 0) dL_isRefused_1293 (by decide) <| j_iconst (v := 0) dL_isRefused_1294 (by decide) <| j_iconst (v := 0) dL_isRefused_1295 (by decide) <| j_iconst (v := 0) dL_isRefused_1296 (by decide) <| j_callW (v := some (vI v)) (as := [vR s0, vI s1, vI s2, vI 0, vI 0, vI 0, vI 0, vI 0]) dL_isRefused_1297 kcw_L_149 rfl rfl (by decide) (Nat.le_of_ble_eq_true rfl) c K, q⟩
theorem bL_isRefused_1300 {h0 h : k_H} {Q : k_H → k_R → Prop} {x0 x1 x2 : Option Nat} {x3 x4 s0 : Int32} {x7 : Int64} (K1 : ¬ (s0 = (-2000000001)) → k_X (jL_isRefused G l h0) h 1423 [(0, vR x0), (1, vR x1), (2, vR x2), (7, vJ x7)] [] Q) (K2 : s0 = (-2000000001) → k_X (jL_isRefused G l h0) h 1305 [(0, vR x0), (1, vR x1), (2, vR x2), (3, vI x3), (4, vI x4), (7, vJ x7)] [] Q) : k_X (jL_isRefused G l h0) h 1300 [(0, vR x0), (1, vR x1), (2, vR x2), (3, vI x3), (4, vI x4), (7, vJ x7)] [vI s0] Q := by
  by_cases hc : s0 = (-2000000001)
  · skip
    obtain ⟨h', r, K, q⟩ := K2 hc
    exact ⟨h', r, j_ldc (v := (-2000000001)) dL_isRefused_1300 ki_L_107 <| j_icmp_ne_f dL_isRefused_1302 1423 (by decide) hc K, q⟩
  · skip
    obtain ⟨h', r, K, q⟩ := K1 hc
    exact ⟨h', r, j_ldc (v := (-2000000001)) dL_isRefused_1300 ki_L_107 <| j_icmp_ne_t (tgt := 1423) dL_isRefused_1302 (by decide) hc (j_pick [0, 1, 2, 5] rfl K), q⟩
theorem bL_isRefused_1305 {h0 h : k_H} {Q : k_H → k_R → Prop} {x0 x1 x2 : Option Nat} {x3 x4 : Int32} {x7 : Int64} (K1 : x4 = 0 → k_X (jL_isRefused G l h0) h 1318 [(0, vR x0), (1, vR x1), (2, vR x2), (3, vI x3), (4, vI x4), (7, vJ x7)] [vI 0, vI 27, vR x0] Q) (K2 : ¬ (x4 = 0) → k_X (jL_isRefused G l h0) h 1314 [(0, vR x0), (1, vR x1), (2, vR x2), (4, vI x4), (7, vJ x7)] [vI 0, vI 27, vR x0] Q) : k_X (jL_isRefused G l h0) h 1305 [(0, vR x0), (1, vR x1), (2, vR x2), (3, vI x3), (4, vI x4), (7, vJ x7)] [] Q := by
  by_cases hc : x4 = 0
  · skip
    obtain ⟨h', r, K, q⟩ := K1 hc
    exact ⟨h', r, j_aload_n dL_isRefused_1305 rfl rfl <| j_bipush (v := 27) dL_isRefused_1306 (by decide) <| j_iconst (v := 0) dL_isRefused_1308 (by decide) <| j_iload dL_isRefused_1309 rfl <| j_if_eq_t (tgt := 1318) dL_isRefused_1311 (by decide) hc K, q⟩
  · skip
    obtain ⟨h', r, K, q⟩ := K2 hc
    exact ⟨h', r, j_aload_n dL_isRefused_1305 rfl rfl <| j_bipush (v := 27) dL_isRefused_1306 (by decide) <| j_iconst (v := 0) dL_isRefused_1308 (by decide) <| j_iload dL_isRefused_1309 rfl <| j_if_eq_f dL_isRefused_1311 1318 (by decide) hc (j_pick [0, 1, 2, 4, 5] rfl K), q⟩
theorem bL_isRefused_1314 {h0 h : k_H} {Q : k_H → k_R → Prop} {x0 x1 x2 s0 : Option Nat} {x4 s1 s2 : Int32} {x7 : Int64} (K : k_X (jL_isRefused G l h0) h 1325 [(0, vR x0), (1, vR x1), (2, vR x2), (4, vI x4), (7, vJ x7)] [vI (-1), vI s2, vI s1, vR s0] Q) : k_X (jL_isRefused G l h0) h 1314 [(0, vR x0), (1, vR x1), (2, vR x2), (4, vI x4), (7, vJ x7)] [vI s2, vI s1, vR s0] Q := by
  obtain ⟨h', r, K, q⟩ := K
  exact ⟨h', r, j_iconst (v := (-1)) dL_isRefused_1314 (by decide) <| j_goto (tgt := 1325) dL_isRefused_1315 (by decide) <| K, q⟩
theorem bL_isRefused_1318 {h0 h : k_H} {Q : k_H → k_R → Prop} {x0 x1 x2 s0 : Option Nat} {x3 x4 s1 s2 : Int32} {x7 : Int64} (K : k_X (jL_isRefused G l h0) h 1325 [(0, vR x0), (1, vR x1), (2, vR x2), (4, vI x4), (7, vJ x7)] [vI (10 + (x3 - (x3 / 30) * 30)), vI s2, vI s1, vR s0] Q) : k_X (jL_isRefused G l h0) h 1318 [(0, vR x0), (1, vR x1), (2, vR x2), (3, vI x3), (4, vI x4), (7, vJ x7)] [vI s2, vI s1, vR s0] Q := by
  obtain ⟨h', r, K, q⟩ := K
  exact ⟨h', r, j_bipush (v := 10) dL_isRefused_1318 (by decide) <| j_iload_n dL_isRefused_1320 rfl rfl <| j_bipush (v := 30) dL_isRefused_1321 (by decide) <| j_irem dL_isRefused_1323 (by decide) <| j_iadd dL_isRefused_1324 <| (j_pick [0, 1, 2, 4, 5] rfl K), q⟩
theorem bL_isRefused_1325 {h0 h : k_H} {Q : k_H → k_R → Prop} {x0 x1 x2 s0 : Option Nat} {x4 s1 s2 s3 : Int32} {x7 : Int64} {P : k_H → Int32 → Prop} (c : k_cti (tL_act G l) [vR s0, vI s1, vI s2, vI s3, vI 0, vI 0, vI 0, vI 0] h P) (K : ∀ h1 v, P h1 v → k_X (jL_isRefused G l h0) h1 1332 [(0, vR x0), (1, vR x1), (2, vR x2), (4, vI x4), (7, vJ x7)] [vI v] Q) : k_X (jL_isRefused G l h0) h 1325 [(0, vR x0), (1, vR x1), (2, vR x2), (4, vI x4), (7, vJ x7)] [vI s3, vI s2, vI s1, vR s0] Q := by
  obtain ⟨h1, v, c, p⟩ := c
  obtain ⟨h', r, K, q⟩ := K h1 v p
  exact ⟨h', r, j_iconst (v := 0) dL_isRefused_1325 (by decide) <| j_iconst (v := 0) dL_isRefused_1326 (by decide) <| j_iconst (v := 0) dL_isRefused_1327 (by decide) <| j_iconst (v := 0) dL_isRefused_1328 (by decide) <| j_callW (v := some (vI v)) (as := [vR s0, vI s1, vI s2, vI s3, vI 0, vI 0, vI 0, vI 0]) dL_isRefused_1329 kcw_L_149 rfl rfl (by decide) (Nat.le_of_ble_eq_true rfl) c K, q⟩
theorem bL_isRefused_1332 {h0 h : k_H} {Q : k_H → k_R → Prop} {x0 x1 x2 : Option Nat} {x4 s0 : Int32} {x7 : Int64} (K1 : ¬ (s0 = (-2000000002)) → k_X (jL_isRefused G l h0) h 1423 [(0, vR x0), (1, vR x1), (2, vR x2), (7, vJ x7)] [] Q) (K2 : s0 = (-2000000002) → k_X (jL_isRefused G l h0) h 1337 [(0, vR x0), (1, vR x1), (2, vR x2), (4, vI x4), (7, vJ x7)] [] Q) : k_X (jL_isRefused G l h0) h 1332 [(0, vR x0), (1, vR x1), (2, vR x2), (4, vI x4), (7, vJ x7)] [vI s0] Q := by
  by_cases hc : s0 = (-2000000002)
  · skip
    obtain ⟨h', r, K, q⟩ := K2 hc
    exact ⟨h', r, j_ldc (v := (-2000000002)) dL_isRefused_1332 ki_L_110 <| j_icmp_ne_f dL_isRefused_1334 1423 (by decide) hc K, q⟩
  · skip
    obtain ⟨h', r, K, q⟩ := K1 hc
    exact ⟨h', r, j_ldc (v := (-2000000002)) dL_isRefused_1332 ki_L_110 <| j_icmp_ne_t (tgt := 1423) dL_isRefused_1334 (by decide) hc (j_pick [0, 1, 2, 4] rfl K), q⟩
theorem bL_isRefused_1337 {h0 h : k_H} {Q : k_H → k_R → Prop} {x0 x1 x2 : Option Nat} {x4 : Int32} {x7 : Int64} (K1 : x4 = 0 → k_X (jL_isRefused G l h0) h 1347 [(0, vR x0), (1, vR x1), (2, vR x2), (4, vI x4), (7, vJ x7)] [vR x0] Q) (K2 : ¬ (x4 = 0) → k_X (jL_isRefused G l h0) h 1343 [(0, vR x0), (1, vR x1), (2, vR x2), (4, vI x4), (7, vJ x7)] [vR x0] Q) : k_X (jL_isRefused G l h0) h 1337 [(0, vR x0), (1, vR x1), (2, vR x2), (4, vI x4), (7, vJ x7)] [] Q := by
  by_cases hc : x4 = 0
  · skip
    obtain ⟨h', r, K, q⟩ := K1 hc
    exact ⟨h', r, j_aload_n dL_isRefused_1337 rfl rfl <| j_iload dL_isRefused_1338 rfl <| j_if_eq_t (tgt := 1347) dL_isRefused_1340 (by decide) hc K, q⟩
  · skip
    obtain ⟨h', r, K, q⟩ := K2 hc
    exact ⟨h', r, j_aload_n dL_isRefused_1337 rfl rfl <| j_iload dL_isRefused_1338 rfl <| j_if_eq_f dL_isRefused_1340 1347 (by decide) hc K, q⟩
theorem bL_isRefused_1343 {h0 h : k_H} {Q : k_H → k_R → Prop} {x0 x1 x2 s0 : Option Nat} {x4 : Int32} {x7 : Int64} (K : k_X (jL_isRefused G l h0) h 1350 [(0, vR x0), (1, vR x1), (2, vR x2), (4, vI x4), (7, vJ x7)] [vI (-1), vR s0] Q) : k_X (jL_isRefused G l h0) h 1343 [(0, vR x0), (1, vR x1), (2, vR x2), (4, vI x4), (7, vJ x7)] [vR s0] Q := by
  obtain ⟨h', r, K, q⟩ := K
  exact ⟨h', r, j_iconst (v := (-1)) dL_isRefused_1343 (by decide) <| j_goto (tgt := 1350) dL_isRefused_1344 (by decide) <| K, q⟩
theorem bL_isRefused_1347 {h0 h : k_H} {Q : k_H → k_R → Prop} {x0 x2 s0 : Option Nat} {x1 : Nat} {x4 : Int32} {x7 : Int64} {n1 : Nat} {w1 : Nat → Int32} (o1 : h.1 x1 = some (k_i n1 w1)) (y2 : vp_in 3 n1) (K : k_X (jL_isRefused G l h0) h 1350 [(0, vR x0), (1, vR (some x1)), (2, vR x2), (4, vI x4), (7, vJ x7)] [vI (w1 (3 : Int32).toNatClampNeg), vR s0] Q) : k_X (jL_isRefused G l h0) h 1347 [(0, vR x0), (1, vR (some x1)), (2, vR x2), (4, vI x4), (7, vJ x7)] [vR s0] Q := by
  obtain ⟨h', r, K, q⟩ := K
  exact ⟨h', r, j_aload_n dL_isRefused_1347 rfl rfl <| j_iconst (v := 3) dL_isRefused_1348 (by decide) <| j_iald dL_isRefused_1349 o1 y2 <| K, q⟩
theorem bL_isRefused_1350 {h0 h : k_H} {Q : k_H → k_R → Prop} {x0 x1 x2 s0 : Option Nat} {x4 s1 : Int32} {x7 : Int64} {P : k_H → Int32 → Prop} (c : k_cti (tL_silent G l) [vR s0, vI s1, vI 0, vI 99] h P) (K : ∀ h1 v, P h1 v → k_X (jL_isRefused G l h0) h1 1356 [(0, vR x0), (1, vR x1), (2, vR x2), (4, vI x4), (7, vJ x7)] [vI v] Q) : k_X (jL_isRefused G l h0) h 1350 [(0, vR x0), (1, vR x1), (2, vR x2), (4, vI x4), (7, vJ x7)] [vI s1, vR s0] Q := by
  obtain ⟨h1, v, c, p⟩ := c
  obtain ⟨h', r, K, q⟩ := K h1 v p
  exact ⟨h', r, j_iconst (v := 0) dL_isRefused_1350 (by decide) <| j_bipush (v := 99) dL_isRefused_1351 (by decide) <| j_callW (v := some (vI v)) (as := [vR s0, vI s1, vI 0, vI 99]) dL_isRefused_1353 kcw_L_155 rfl rfl (by decide) (Nat.le_of_ble_eq_true rfl) c K, q⟩
theorem bL_isRefused_1356 {h0 h : k_H} {Q : k_H → k_R → Prop} {x0 x1 x2 : Option Nat} {x4 s0 : Int32} {x7 : Int64} (K1 : ¬ (s0 = (-2000000001)) → k_X (jL_isRefused G l h0) h 1423 [(0, vR x0), (1, vR x1), (2, vR x2), (7, vJ x7)] [] Q) (K2 : s0 = (-2000000001) → k_X (jL_isRefused G l h0) h 1361 [(0, vR x0), (1, vR x1), (2, vR x2), (4, vI x4), (7, vJ x7)] [] Q) : k_X (jL_isRefused G l h0) h 1356 [(0, vR x0), (1, vR x1), (2, vR x2), (4, vI x4), (7, vJ x7)] [vI s0] Q := by
  by_cases hc : s0 = (-2000000001)
  · skip
    obtain ⟨h', r, K, q⟩ := K2 hc
    exact ⟨h', r, j_ldc (v := (-2000000001)) dL_isRefused_1356 ki_L_107 <| j_icmp_ne_f dL_isRefused_1358 1423 (by decide) hc K, q⟩
  · skip
    obtain ⟨h', r, K, q⟩ := K1 hc
    exact ⟨h', r, j_ldc (v := (-2000000001)) dL_isRefused_1356 ki_L_107 <| j_icmp_ne_t (tgt := 1423) dL_isRefused_1358 (by decide) hc (j_pick [0, 1, 2, 4] rfl K), q⟩
theorem bL_isRefused_1361 {h0 h : k_H} {Q : k_H → k_R → Prop} {x0 x1 x2 : Option Nat} {x4 : Int32} {x7 : Int64} (K1 : x4 = 0 → k_X (jL_isRefused G l h0) h 1372 [(0, vR x0), (1, vR x1), (2, vR x2), (4, vI x4), (7, vJ x7)] [vI 0, vR x0] Q) (K2 : ¬ (x4 = 0) → k_X (jL_isRefused G l h0) h 1368 [(0, vR x0), (1, vR x1), (2, vR x2), (4, vI x4), (7, vJ x7)] [vI 0, vR x0] Q) : k_X (jL_isRefused G l h0) h 1361 [(0, vR x0), (1, vR x1), (2, vR x2), (4, vI x4), (7, vJ x7)] [] Q := by
  by_cases hc : x4 = 0
  · skip
    obtain ⟨h', r, K, q⟩ := K1 hc
    exact ⟨h', r, j_aload_n dL_isRefused_1361 rfl rfl <| j_iconst (v := 0) dL_isRefused_1362 (by decide) <| j_iload dL_isRefused_1363 rfl <| j_if_eq_t (tgt := 1372) dL_isRefused_1365 (by decide) hc K, q⟩
  · skip
    obtain ⟨h', r, K, q⟩ := K2 hc
    exact ⟨h', r, j_aload_n dL_isRefused_1361 rfl rfl <| j_iconst (v := 0) dL_isRefused_1362 (by decide) <| j_iload dL_isRefused_1363 rfl <| j_if_eq_f dL_isRefused_1365 1372 (by decide) hc K, q⟩
theorem bL_isRefused_1368 {h0 h : k_H} {Q : k_H → k_R → Prop} {x0 x1 x2 s0 : Option Nat} {x4 s1 : Int32} {x7 : Int64} (K : k_X (jL_isRefused G l h0) h 1375 [(0, vR x0), (1, vR x1), (2, vR x2), (4, vI x4), (7, vJ x7)] [vI (-1), vI s1, vR s0] Q) : k_X (jL_isRefused G l h0) h 1368 [(0, vR x0), (1, vR x1), (2, vR x2), (4, vI x4), (7, vJ x7)] [vI s1, vR s0] Q := by
  obtain ⟨h', r, K, q⟩ := K
  exact ⟨h', r, j_iconst (v := (-1)) dL_isRefused_1368 (by decide) <| j_goto (tgt := 1375) dL_isRefused_1369 (by decide) <| K, q⟩
theorem bL_isRefused_1372 {h0 h : k_H} {Q : k_H → k_R → Prop} {x0 x2 s0 : Option Nat} {x1 : Nat} {x4 s1 : Int32} {x7 : Int64} {n1 : Nat} {w1 : Nat → Int32} (o1 : h.1 x1 = some (k_i n1 w1)) (y2 : vp_in 3 n1) (K : k_X (jL_isRefused G l h0) h 1375 [(0, vR x0), (1, vR (some x1)), (2, vR x2), (4, vI x4), (7, vJ x7)] [vI (w1 (3 : Int32).toNatClampNeg), vI s1, vR s0] Q) : k_X (jL_isRefused G l h0) h 1372 [(0, vR x0), (1, vR (some x1)), (2, vR x2), (4, vI x4), (7, vJ x7)] [vI s1, vR s0] Q := by
  obtain ⟨h', r, K, q⟩ := K
  exact ⟨h', r, j_aload_n dL_isRefused_1372 rfl rfl <| j_iconst (v := 3) dL_isRefused_1373 (by decide) <| j_iald dL_isRefused_1374 o1 y2 <| K, q⟩
theorem bL_isRefused_1375 {h0 h : k_H} {Q : k_H → k_R → Prop} {x0 x1 x2 s0 : Option Nat} {x4 s1 s2 : Int32} {x7 : Int64} {P : k_H → Int32 → Prop} (c : k_cti (tL_silent G l) [vR s0, vI s1, vI s2, vI 99] h P) (K : ∀ h1 v, P h1 v → k_X (jL_isRefused G l h0) h1 1380 [(0, vR x0), (1, vR x1), (2, vR x2), (4, vI x4), (7, vJ x7)] [vI v] Q) : k_X (jL_isRefused G l h0) h 1375 [(0, vR x0), (1, vR x1), (2, vR x2), (4, vI x4), (7, vJ x7)] [vI s2, vI s1, vR s0] Q := by
  obtain ⟨h1, v, c, p⟩ := c
  obtain ⟨h', r, K, q⟩ := K h1 v p
  exact ⟨h', r, j_bipush (v := 99) dL_isRefused_1375 (by decide) <| j_callW (v := some (vI v)) (as := [vR s0, vI s1, vI s2, vI 99]) dL_isRefused_1377 kcw_L_155 rfl rfl (by decide) (Nat.le_of_ble_eq_true rfl) c K, q⟩
theorem bL_isRefused_1380 {h0 h : k_H} {Q : k_H → k_R → Prop} {x0 x1 x2 : Option Nat} {x4 s0 : Int32} {x7 : Int64} (K1 : ¬ (s0 = (-2000000001)) → k_X (jL_isRefused G l h0) h 1423 [(0, vR x0), (1, vR x1), (2, vR x2), (7, vJ x7)] [] Q) (K2 : s0 = (-2000000001) → k_X (jL_isRefused G l h0) h 1385 [(0, vR x0), (1, vR x1), (2, vR x2), (4, vI x4), (7, vJ x7)] [] Q) : k_X (jL_isRefused G l h0) h 1380 [(0, vR x0), (1, vR x1), (2, vR x2), (4, vI x4), (7, vJ x7)] [vI s0] Q := by
  by_cases hc : s0 = (-2000000001)
  · skip
    obtain ⟨h', r, K, q⟩ := K2 hc
    exact ⟨h', r, j_ldc (v := (-2000000001)) dL_isRefused_1380 ki_L_107 <| j_icmp_ne_f dL_isRefused_1382 1423 (by decide) hc K, q⟩
  · skip
    obtain ⟨h', r, K, q⟩ := K1 hc
    exact ⟨h', r, j_ldc (v := (-2000000001)) dL_isRefused_1380 ki_L_107 <| j_icmp_ne_t (tgt := 1423) dL_isRefused_1382 (by decide) hc (j_pick [0, 1, 2, 4] rfl K), q⟩
theorem bL_isRefused_1385 {h0 h : k_H} {Q : k_H → k_R → Prop} {x0 x1 x2 : Option Nat} {x4 : Int32} {x7 : Int64} (K1 : x4 = 0 → k_X (jL_isRefused G l h0) h 1397 [(0, vR x0), (1, vR x1), (2, vR x2), (7, vJ x7)] [vI 0, vI 0, vR x0] Q) (K2 : ¬ (x4 = 0) → k_X (jL_isRefused G l h0) h 1393 [(0, vR x0), (1, vR x1), (2, vR x2), (7, vJ x7)] [vI 0, vI 0, vR x0] Q) : k_X (jL_isRefused G l h0) h 1385 [(0, vR x0), (1, vR x1), (2, vR x2), (4, vI x4), (7, vJ x7)] [] Q := by
  by_cases hc : x4 = 0
  · skip
    obtain ⟨h', r, K, q⟩ := K1 hc
    exact ⟨h', r, j_aload_n dL_isRefused_1385 rfl rfl <| j_iconst (v := 0) dL_isRefused_1386 (by decide) <| j_iconst (v := 0) dL_isRefused_1387 (by decide) <| j_iload dL_isRefused_1388 rfl <| j_if_eq_t (tgt := 1397) dL_isRefused_1390 (by decide) hc (j_pick [0, 1, 2, 4] rfl K), q⟩
  · skip
    obtain ⟨h', r, K, q⟩ := K2 hc
    exact ⟨h', r, j_aload_n dL_isRefused_1385 rfl rfl <| j_iconst (v := 0) dL_isRefused_1386 (by decide) <| j_iconst (v := 0) dL_isRefused_1387 (by decide) <| j_iload dL_isRefused_1388 rfl <| j_if_eq_f dL_isRefused_1390 1397 (by decide) hc (j_pick [0, 1, 2, 4] rfl K), q⟩
theorem bL_isRefused_1393 {h0 h : k_H} {Q : k_H → k_R → Prop} {x0 x1 x2 s0 : Option Nat} {x7 : Int64} {s1 s2 : Int32} (K : k_X (jL_isRefused G l h0) h 1399 [(0, vR x0), (1, vR x1), (2, vR x2), (7, vJ x7)] [vI (-1), vI s2, vI s1, vR s0] Q) : k_X (jL_isRefused G l h0) h 1393 [(0, vR x0), (1, vR x1), (2, vR x2), (7, vJ x7)] [vI s2, vI s1, vR s0] Q := by
  obtain ⟨h', r, K, q⟩ := K
  exact ⟨h', r, j_iconst (v := (-1)) dL_isRefused_1393 (by decide) <| j_goto (tgt := 1399) dL_isRefused_1394 (by decide) <| K, q⟩
theorem bL_isRefused_1397 {h0 h : k_H} {Q : k_H → k_R → Prop} {x0 x1 x2 s0 : Option Nat} {x7 : Int64} {s1 s2 : Int32} (K : k_X (jL_isRefused G l h0) h 1399 [(0, vR x0), (1, vR x1), (2, vR x2), (7, vJ x7)] [vI 10, vI s2, vI s1, vR s0] Q) : k_X (jL_isRefused G l h0) h 1397 [(0, vR x0), (1, vR x1), (2, vR x2), (7, vJ x7)] [vI s2, vI s1, vR s0] Q := by
  obtain ⟨h', r, K, q⟩ := K
  exact ⟨h', r, j_bipush (v := 10) dL_isRefused_1397 (by decide) <| K, q⟩
theorem bL_isRefused_1399 {h0 h : k_H} {Q : k_H → k_R → Prop} {x0 x1 x2 s0 : Option Nat} {x7 : Int64} {s1 s2 s3 : Int32} {P : k_H → Int32 → Prop} (c : k_cti (tL_silent G l) [vR s0, vI s1, vI s2, vI s3] h P) (K : ∀ h1 v, P h1 v → k_X (jL_isRefused G l h0) h1 1402 [(0, vR x0), (1, vR x1), (2, vR x2), (7, vJ x7)] [vI v] Q) : k_X (jL_isRefused G l h0) h 1399 [(0, vR x0), (1, vR x1), (2, vR x2), (7, vJ x7)] [vI s3, vI s2, vI s1, vR s0] Q := by
  obtain ⟨h1, v, c, p⟩ := c
  obtain ⟨h', r, K, q⟩ := K h1 v p
  exact ⟨h', r, j_callW (v := some (vI v)) (as := [vR s0, vI s1, vI s2, vI s3]) dL_isRefused_1399 kcw_L_155 rfl rfl (by decide) (Nat.le_of_ble_eq_true rfl) c K, q⟩
theorem bL_isRefused_1402 {h0 h : k_H} {Q : k_H → k_R → Prop} {x0 x1 x2 : Option Nat} {x7 : Int64} {s0 : Int32} (K1 : ¬ (s0 = (-2000000002)) → k_X (jL_isRefused G l h0) h 1423 [(0, vR x0), (1, vR x1), (2, vR x2), (7, vJ x7)] [] Q) (K2 : s0 = (-2000000002) → k_X (jL_isRefused G l h0) h 1407 [(0, vR x0), (1, vR x1), (2, vR x2), (7, vJ x7)] [] Q) : k_X (jL_isRefused G l h0) h 1402 [(0, vR x0), (1, vR x1), (2, vR x2), (7, vJ x7)] [vI s0] Q := by
  by_cases hc : s0 = (-2000000002)
  · skip
    obtain ⟨h', r, K, q⟩ := K2 hc
    exact ⟨h', r, j_ldc (v := (-2000000002)) dL_isRefused_1402 ki_L_110 <| j_icmp_ne_f dL_isRefused_1404 1423 (by decide) hc K, q⟩
  · skip
    obtain ⟨h', r, K, q⟩ := K1 hc
    exact ⟨h', r, j_ldc (v := (-2000000002)) dL_isRefused_1402 ki_L_110 <| j_icmp_ne_t (tgt := 1423) dL_isRefused_1404 (by decide) hc K, q⟩
theorem bL_isRefused_1407 {h0 h : k_H} {Q : k_H → k_R → Prop} {x0 x1 x2 : Option Nat} {x7 : Int64} {P : k_H → Int32 → Prop} (c : k_cti (tL_silent G l) [vR x0, vI 0, vI 0, vI 5] h P) (K : ∀ h1 v, P h1 v → k_X (jL_isRefused G l h0) h1 1414 [(0, vR x0), (1, vR x1), (2, vR x2), (7, vJ x7)] [vI v] Q) : k_X (jL_isRefused G l h0) h 1407 [(0, vR x0), (1, vR x1), (2, vR x2), (7, vJ x7)] [] Q := by
  obtain ⟨h1, v, c, p⟩ := c
  obtain ⟨h', r, K, q⟩ := K h1 v p
  exact ⟨h', r, j_aload_n dL_isRefused_1407 rfl rfl <| j_iconst (v := 0) dL_isRefused_1408 (by decide) <| j_iconst (v := 0) dL_isRefused_1409 (by decide) <| j_iconst (v := 5) dL_isRefused_1410 (by decide) <| j_callW (v := some (vI v)) (as := [vR x0, vI 0, vI 0, vI 5]) dL_isRefused_1411 kcw_L_155 rfl rfl (by decide) (Nat.le_of_ble_eq_true rfl) c K, q⟩
theorem bL_isRefused_1414 {h0 h : k_H} {Q : k_H → k_R → Prop} {x0 x1 x2 : Option Nat} {x7 : Int64} {s0 : Int32} (K1 : ¬ (s0 = (-2000000003)) → k_X (jL_isRefused G l h0) h 1423 [(0, vR x0), (1, vR x1), (2, vR x2), (7, vJ x7)] [] Q) (K2 : s0 = (-2000000003) → k_X (jL_isRefused G l h0) h 1419 [(0, vR x0), (1, vR x1), (2, vR x2), (7, vJ x7)] [] Q) : k_X (jL_isRefused G l h0) h 1414 [(0, vR x0), (1, vR x1), (2, vR x2), (7, vJ x7)] [vI s0] Q := by
  by_cases hc : s0 = (-2000000003)
  · skip
    obtain ⟨h', r, K, q⟩ := K2 hc
    exact ⟨h', r, j_ldc (v := (-2000000003)) dL_isRefused_1414 ki_L_113 <| j_icmp_ne_f dL_isRefused_1416 1423 (by decide) hc K, q⟩
  · skip
    obtain ⟨h', r, K, q⟩ := K1 hc
    exact ⟨h', r, j_ldc (v := (-2000000003)) dL_isRefused_1414 ki_L_113 <| j_icmp_ne_t (tgt := 1423) dL_isRefused_1416 (by decide) hc K, q⟩
theorem bL_isRefused_1419 {h0 h : k_H} {Q : k_H → k_R → Prop} {x0 x1 x2 : Option Nat} {x7 : Int64} (K : k_X (jL_isRefused G l h0) h 1424 [(0, vR x0), (1, vR x1), (2, vR x2), (7, vJ x7)] [vI 1] Q) : k_X (jL_isRefused G l h0) h 1419 [(0, vR x0), (1, vR x1), (2, vR x2), (7, vJ x7)] [] Q := by
  obtain ⟨h', r, K, q⟩ := K
  exact ⟨h', r, j_iconst (v := 1) dL_isRefused_1419 (by decide) <| j_goto (tgt := 1424) dL_isRefused_1420 (by decide) <| K, q⟩
theorem bL_isRefused_1423 {h0 h : k_H} {Q : k_H → k_R → Prop} {x0 x1 x2 : Option Nat} {x7 : Int64} (K : k_X (jL_isRefused G l h0) h 1424 [(0, vR x0), (1, vR x1), (2, vR x2), (7, vJ x7)] [vI 0] Q) : k_X (jL_isRefused G l h0) h 1423 [(0, vR x0), (1, vR x1), (2, vR x2), (7, vJ x7)] [] Q := by
  obtain ⟨h', r, K, q⟩ := K
  exact ⟨h', r, j_iconst (v := 0) dL_isRefused_1423 (by decide) <| K, q⟩
theorem bL_isRefused_1424 {h0 h : k_H} {Q : k_H → k_R → Prop} {x0 x1 x2 : Option Nat} {x7 : Int64} {s0 : Int32} (K : k_X (jL_isRefused G l h0) h 1429 [(0, vR x0), (1, vR x1), (2, vR x2), (7, vJ x7), (9, vI s0), (10, vI 0)] [] Q) : k_X (jL_isRefused G l h0) h 1424 [(0, vR x0), (1, vR x1), (2, vR x2), (7, vJ x7)] [vI s0] Q := by
  obtain ⟨h', r, K, q⟩ := K
  exact ⟨h', r, j_istore dL_isRefused_1424 (by decide) rfl <| j_iconst (v := 0) dL_isRefused_1426 (by decide) <| j_istore dL_isRefused_1427 (by decide) rfl <| K, q⟩
theorem bL_isRefused_1429 {h0 h : k_H} {Q : k_H → k_R → Prop} {x0 x1 x2 : Option Nat} {x7 : Int64} {x9 x10 : Int32} (K1 : 4 ≤ x10 → k_X (jL_isRefused G l h0) h 1551 [(0, vR x0), (1, vR x1), (7, vJ x7), (9, vI x9)] [] Q) (K2 : ¬ (4 ≤ x10) → k_X (jL_isRefused G l h0) h 1435 [(0, vR x0), (1, vR x1), (2, vR x2), (7, vJ x7), (9, vI x9), (10, vI x10)] [] Q) : k_X (jL_isRefused G l h0) h 1429 [(0, vR x0), (1, vR x1), (2, vR x2), (7, vJ x7), (9, vI x9), (10, vI x10)] [] Q := by
  by_cases hc : 4 ≤ x10
  · skip
    obtain ⟨h', r, K, q⟩ := K1 hc
    exact ⟨h', r, j_iload dL_isRefused_1429 rfl <| j_iconst (v := 4) dL_isRefused_1431 (by decide) <| j_icmp_ge_t (tgt := 1551) dL_isRefused_1432 (by decide) hc (j_pick [0, 1, 3, 4] rfl K), q⟩
  · skip
    obtain ⟨h', r, K, q⟩ := K2 hc
    exact ⟨h', r, j_iload dL_isRefused_1429 rfl <| j_iconst (v := 4) dL_isRefused_1431 (by decide) <| j_icmp_ge_f dL_isRefused_1432 1551 (by decide) hc K, q⟩
theorem bL_isRefused_1435 {h0 h : k_H} {Q : k_H → k_R → Prop} {x0 x1 x2 : Option Nat} {x7 : Int64} {x9 x10 : Int32} (K1 : x9 = 0 → k_X (jL_isRefused G l h0) h 1551 [(0, vR x0), (1, vR x1), (7, vJ x7), (9, vI x9)] [] Q) (K2 : ¬ (x9 = 0) → k_X (jL_isRefused G l h0) h 1440 [(0, vR x0), (1, vR x1), (2, vR x2), (7, vJ x7), (10, vI x10)] [] Q) : k_X (jL_isRefused G l h0) h 1435 [(0, vR x0), (1, vR x1), (2, vR x2), (7, vJ x7), (9, vI x9), (10, vI x10)] [] Q := by
  by_cases hc : x9 = 0
  · skip
    obtain ⟨h', r, K, q⟩ := K1 hc
    exact ⟨h', r, j_iload dL_isRefused_1435 rfl <| j_if_eq_t (tgt := 1551) dL_isRefused_1437 (by decide) hc (j_pick [0, 1, 3, 4] rfl K), q⟩
  · skip
    obtain ⟨h', r, K, q⟩ := K2 hc
    exact ⟨h', r, j_iload dL_isRefused_1435 rfl <| j_if_eq_f dL_isRefused_1437 1551 (by decide) hc (j_pick [0, 1, 2, 3, 5] rfl K), q⟩
theorem bL_isRefused_1440 {h0 h : k_H} {Q : k_H → k_R → Prop} {x0 x1 : Option Nat} {x2 : Nat} {x7 : Int64} {x10 : Int32} {n1 : Nat} {w1 : Nat → Int32} (o1 : h.1 x2 = some (k_i n1 w1)) (y2 : vp_in (5 * x10) n1) (K1 : (w1 (5 * x10).toNatClampNeg) = 1 → k_X (jL_isRefused G l h0) h 1538 [(0, vR x0), (1, vR x1), (2, vR (some x2)), (7, vJ x7), (10, vI x10)] [] Q) (K2 : ¬ ((w1 (5 * x10).toNatClampNeg) = 1) → k_X (jL_isRefused G l h0) h 1450 [(0, vR x0), (1, vR x1), (2, vR (some x2)), (7, vJ x7), (10, vI x10)] [] Q) : k_X (jL_isRefused G l h0) h 1440 [(0, vR x0), (1, vR x1), (2, vR (some x2)), (7, vJ x7), (10, vI x10)] [] Q := by
  by_cases hc : (w1 (5 * x10).toNatClampNeg) = 1
  · skip
    obtain ⟨h', r, K, q⟩ := K1 hc
    exact ⟨h', r, j_aload_n dL_isRefused_1440 rfl rfl <| j_iconst (v := 5) dL_isRefused_1441 (by decide) <| j_iload dL_isRefused_1442 rfl <| j_imul dL_isRefused_1444 <| j_iald dL_isRefused_1445 o1 y2 <| j_iconst (v := 1) dL_isRefused_1446 (by decide) <| j_icmp_eq_t (tgt := 1538) dL_isRefused_1447 (by decide) hc K, q⟩
  · skip
    obtain ⟨h', r, K, q⟩ := K2 hc
    exact ⟨h', r, j_aload_n dL_isRefused_1440 rfl rfl <| j_iconst (v := 5) dL_isRefused_1441 (by decide) <| j_iload dL_isRefused_1442 rfl <| j_imul dL_isRefused_1444 <| j_iald dL_isRefused_1445 o1 y2 <| j_iconst (v := 1) dL_isRefused_1446 (by decide) <| j_icmp_eq_f dL_isRefused_1447 1538 (by decide) hc K, q⟩
theorem bL_isRefused_1450 {h0 h : k_H} {Q : k_H → k_R → Prop} {x0 x1 x2 : Option Nat} {x7 : Int64} {x10 : Int32} {P : k_H → Int32 → Prop} (c : k_cti (tL_act G l) [vR x0, vI 1, vI x10, vI 5, vI 5, vI 5, vI 1, vI 0] h P) (K : ∀ h1 v, P h1 v → k_X (jL_isRefused G l h0) h1 1462 [(0, vR x0), (1, vR x1), (2, vR x2), (7, vJ x7), (10, vI x10)] [vI v] Q) : k_X (jL_isRefused G l h0) h 1450 [(0, vR x0), (1, vR x1), (2, vR x2), (7, vJ x7), (10, vI x10)] [] Q := by
  obtain ⟨h1, v, c, p⟩ := c
  obtain ⟨h', r, K, q⟩ := K h1 v p
  exact ⟨h', r, j_aload_n dL_isRefused_1450 rfl rfl <| j_iconst (v := 1) dL_isRefused_1451 (by decide) <| j_iload dL_isRefused_1452 rfl <| j_iconst (v := 5) dL_isRefused_1454 (by decide) <| j_iconst (v := 5) dL_isRefused_1455 (by decide) <| j_iconst (v := 5) dL_isRefused_1456 (by decide) <| j_iconst (v := 1) dL_isRefused_1457 (by decide) <| j_iconst (v := 0) dL_isRefused_1458 (by decide) <| j_callW (v := some (vI v)) (as := [vR x0, vI 1, vI x10, vI 5, vI 5, vI 5, vI 1, vI 0]) dL_isRefused_1459 kcw_L_149 rfl rfl (by decide) (Nat.le_of_ble_eq_true rfl) c K, q⟩
theorem bL_isRefused_1462 {h0 h : k_H} {Q : k_H → k_R → Prop} {x0 x1 x2 : Option Nat} {x7 : Int64} {x10 s0 : Int32} (K1 : ¬ (s0 = (-2000000003)) → k_X (jL_isRefused G l h0) h 1542 [(0, vR x0), (1, vR x1), (2, vR x2), (7, vJ x7), (10, vI x10)] [] Q) (K2 : s0 = (-2000000003) → k_X (jL_isRefused G l h0) h 1467 [(0, vR x0), (1, vR x1), (2, vR x2), (7, vJ x7), (10, vI x10)] [] Q) : k_X (jL_isRefused G l h0) h 1462 [(0, vR x0), (1, vR x1), (2, vR x2), (7, vJ x7), (10, vI x10)] [vI s0] Q := by
  by_cases hc : s0 = (-2000000003)
  · skip
    obtain ⟨h', r, K, q⟩ := K2 hc
    exact ⟨h', r, j_ldc (v := (-2000000003)) dL_isRefused_1462 ki_L_113 <| j_icmp_ne_f dL_isRefused_1464 1542 (by decide) hc K, q⟩
  · skip
    obtain ⟨h', r, K, q⟩ := K1 hc
    exact ⟨h', r, j_ldc (v := (-2000000003)) dL_isRefused_1462 ki_L_113 <| j_icmp_ne_t (tgt := 1542) dL_isRefused_1464 (by decide) hc K, q⟩
theorem bL_isRefused_1467 {h0 h : k_H} {Q : k_H → k_R → Prop} {x0 x1 x2 : Option Nat} {x7 : Int64} {x10 : Int32} {P : k_H → Int32 → Prop} (c : k_cti (tL_act G l) [vR x0, vI 4, vI x10, vI 0, vI 5, vI 5, vI 5, vI 0] h P) (K : ∀ h1 v, P h1 v → k_X (jL_isRefused G l h0) h1 1479 [(0, vR x0), (1, vR x1), (2, vR x2), (7, vJ x7), (10, vI x10)] [vI v] Q) : k_X (jL_isRefused G l h0) h 1467 [(0, vR x0), (1, vR x1), (2, vR x2), (7, vJ x7), (10, vI x10)] [] Q := by
  obtain ⟨h1, v, c, p⟩ := c
  obtain ⟨h', r, K, q⟩ := K h1 v p
  exact ⟨h', r, j_aload_n dL_isRefused_1467 rfl rfl <| j_iconst (v := 4) dL_isRefused_1468 (by decide) <| j_iload dL_isRefused_1469 rfl <| j_iconst (v := 0) dL_isRefused_1471 (by decide) <| j_iconst (v := 5) dL_isRefused_1472 (by decide) <| j_iconst (v := 5) dL_isRefused_1473 (by decide) <| j_iconst (v := 5) dL_isRefused_1474 (by decide) <| j_iconst (v := 0) dL_isRefused_1475 (by decide) <| j_callW (v := some (vI v)) (as := [vR x0, vI 4, vI x10, vI 0, vI 5, vI 5, vI 5, vI 0]) dL_isRefused_1476 kcw_L_149 rfl rfl (by decide) (Nat.le_of_ble_eq_true rfl) c K, q⟩
theorem bL_isRefused_1479 {h0 h : k_H} {Q : k_H → k_R → Prop} {x0 x1 x2 : Option Nat} {x7 : Int64} {x10 s0 : Int32} (K1 : ¬ (s0 = (-2000000003)) → k_X (jL_isRefused G l h0) h 1542 [(0, vR x0), (1, vR x1), (2, vR x2), (7, vJ x7), (10, vI x10)] [] Q) (K2 : s0 = (-2000000003) → k_X (jL_isRefused G l h0) h 1484 [(0, vR x0), (1, vR x1), (2, vR x2), (7, vJ x7), (10, vI x10)] [] Q) : k_X (jL_isRefused G l h0) h 1479 [(0, vR x0), (1, vR x1), (2, vR x2), (7, vJ x7), (10, vI x10)] [vI s0] Q := by
  by_cases hc : s0 = (-2000000003)
  · skip
    obtain ⟨h', r, K, q⟩ := K2 hc
    exact ⟨h', r, j_ldc (v := (-2000000003)) dL_isRefused_1479 ki_L_113 <| j_icmp_ne_f dL_isRefused_1481 1542 (by decide) hc K, q⟩
  · skip
    obtain ⟨h', r, K, q⟩ := K1 hc
    exact ⟨h', r, j_ldc (v := (-2000000003)) dL_isRefused_1479 ki_L_113 <| j_icmp_ne_t (tgt := 1542) dL_isRefused_1481 (by decide) hc K, q⟩
theorem bL_isRefused_1484 {h0 h : k_H} {Q : k_H → k_R → Prop} {x0 x1 x2 : Option Nat} {x7 : Int64} {x10 : Int32} {P : k_H → Int32 → Prop} (c : k_cti (tL_act G l) [vR x0, vI 6, vI x10, vI 0, vI 0, vI 0, vI 0, vI 0] h P) (K : ∀ h1 v, P h1 v → k_X (jL_isRefused G l h0) h1 1497 [(0, vR x0), (1, vR x1), (2, vR x2), (7, vJ x7), (10, vI x10)] [vI v] Q) : k_X (jL_isRefused G l h0) h 1484 [(0, vR x0), (1, vR x1), (2, vR x2), (7, vJ x7), (10, vI x10)] [] Q := by
  obtain ⟨h1, v, c, p⟩ := c
  obtain ⟨h', r, K, q⟩ := K h1 v p
  exact ⟨h', r, j_aload_n dL_isRefused_1484 rfl rfl <| j_bipush (v := 6) dL_isRefused_1485 (by decide) <| j_iload dL_isRefused_1487 rfl <| j_iconst (v := 0) dL_isRefused_1489 (by decide) <| j_iconst (v := 0) dL_isRefused_1490 (by decide) <| j_iconst (v := 0) dL_isRefused_1491 (by decide) <| j_iconst (v := 0) dL_isRefused_1492 (by decide) <| j_iconst (v := 0) dL_isRefused_1493 (by decide) <| j_callW (v := some (vI v)) (as := [vR x0, vI 6, vI x10, vI 0, vI 0, vI 0, vI 0, vI 0]) dL_isRefused_1494 kcw_L_149 rfl rfl (by decide) (Nat.le_of_ble_eq_true rfl) c K, q⟩
theorem bL_isRefused_1497 {h0 h : k_H} {Q : k_H → k_R → Prop} {x0 x1 x2 : Option Nat} {x7 : Int64} {x10 s0 : Int32} (K1 : ¬ (s0 = (-2000000003)) → k_X (jL_isRefused G l h0) h 1542 [(0, vR x0), (1, vR x1), (2, vR x2), (7, vJ x7), (10, vI x10)] [] Q) (K2 : s0 = (-2000000003) → k_X (jL_isRefused G l h0) h 1502 [(0, vR x0), (1, vR x1), (2, vR x2), (7, vJ x7), (10, vI x10)] [] Q) : k_X (jL_isRefused G l h0) h 1497 [(0, vR x0), (1, vR x1), (2, vR x2), (7, vJ x7), (10, vI x10)] [vI s0] Q := by
  by_cases hc : s0 = (-2000000003)
  · skip
    obtain ⟨h', r, K, q⟩ := K2 hc
    exact ⟨h', r, j_ldc (v := (-2000000003)) dL_isRefused_1497 ki_L_113 <| j_icmp_ne_f dL_isRefused_1499 1542 (by decide) hc K, q⟩
  · skip
    obtain ⟨h', r, K, q⟩ := K1 hc
    exact ⟨h', r, j_ldc (v := (-2000000003)) dL_isRefused_1497 ki_L_113 <| j_icmp_ne_t (tgt := 1542) dL_isRefused_1499 (by decide) hc K, q⟩
theorem bL_isRefused_1502 {h0 h : k_H} {Q : k_H → k_R → Prop} {x0 x1 x2 : Option Nat} {x7 : Int64} {x10 : Int32} {P : k_H → Int32 → Prop} (c : k_cti (tL_act G l) [vR x0, vI 10, vI x10, vI 5, vI 5, vI 0, vI 0, vI 0] h P) (K : ∀ h1 v, P h1 v → k_X (jL_isRefused G l h0) h1 1515 [(0, vR x0), (1, vR x1), (2, vR x2), (7, vJ x7), (10, vI x10)] [vI v] Q) : k_X (jL_isRefused G l h0) h 1502 [(0, vR x0), (1, vR x1), (2, vR x2), (7, vJ x7), (10, vI x10)] [] Q := by
  obtain ⟨h1, v, c, p⟩ := c
  obtain ⟨h', r, K, q⟩ := K h1 v p
  exact ⟨h', r, j_aload_n dL_isRefused_1502 rfl rfl <| j_bipush (v := 10) dL_isRefused_1503 (by decide) <| j_iload dL_isRefused_1505 rfl <| j_iconst (v := 5) dL_isRefused_1507 (by decide) <| j_iconst (v := 5) dL_isRefused_1508 (by decide) <| j_iconst (v := 0) dL_isRefused_1509 (by decide) <| j_iconst (v := 0) dL_isRefused_1510 (by decide) <| j_iconst (v := 0) dL_isRefused_1511 (by decide) <| j_callW (v := some (vI v)) (as := [vR x0, vI 10, vI x10, vI 5, vI 5, vI 0, vI 0, vI 0]) dL_isRefused_1512 kcw_L_149 rfl rfl (by decide) (Nat.le_of_ble_eq_true rfl) c K, q⟩
theorem bL_isRefused_1515 {h0 h : k_H} {Q : k_H → k_R → Prop} {x0 x1 x2 : Option Nat} {x7 : Int64} {x10 s0 : Int32} (K1 : ¬ (s0 = (-2000000003)) → k_X (jL_isRefused G l h0) h 1542 [(0, vR x0), (1, vR x1), (2, vR x2), (7, vJ x7), (10, vI x10)] [] Q) (K2 : s0 = (-2000000003) → k_X (jL_isRefused G l h0) h 1520 [(0, vR x0), (1, vR x1), (2, vR x2), (7, vJ x7), (10, vI x10)] [] Q) : k_X (jL_isRefused G l h0) h 1515 [(0, vR x0), (1, vR x1), (2, vR x2), (7, vJ x7), (10, vI x10)] [vI s0] Q := by
  by_cases hc : s0 = (-2000000003)
  · skip
    obtain ⟨h', r, K, q⟩ := K2 hc
    exact ⟨h', r, j_ldc (v := (-2000000003)) dL_isRefused_1515 ki_L_113 <| j_icmp_ne_f dL_isRefused_1517 1542 (by decide) hc K, q⟩
  · skip
    obtain ⟨h', r, K, q⟩ := K1 hc
    exact ⟨h', r, j_ldc (v := (-2000000003)) dL_isRefused_1515 ki_L_113 <| j_icmp_ne_t (tgt := 1542) dL_isRefused_1517 (by decide) hc K, q⟩
theorem bL_isRefused_1520 {h0 h : k_H} {Q : k_H → k_R → Prop} {x0 x1 x2 : Option Nat} {x7 : Int64} {x10 : Int32} {P : k_H → Int32 → Prop} (c : k_cti (tL_act G l) [vR x0, vI 18, vI x10, vI 5, vI 0, vI 0, vI 0, vI 0] h P) (K : ∀ h1 v, P h1 v → k_X (jL_isRefused G l h0) h1 1533 [(0, vR x0), (1, vR x1), (2, vR x2), (7, vJ x7), (10, vI x10)] [vI v] Q) : k_X (jL_isRefused G l h0) h 1520 [(0, vR x0), (1, vR x1), (2, vR x2), (7, vJ x7), (10, vI x10)] [] Q := by
  obtain ⟨h1, v, c, p⟩ := c
  obtain ⟨h', r, K, q⟩ := K h1 v p
  exact ⟨h', r, j_aload_n dL_isRefused_1520 rfl rfl <| j_bipush (v := 18) dL_isRefused_1521 (by decide) <| j_iload dL_isRefused_1523 rfl <| j_iconst (v := 5) dL_isRefused_1525 (by decide) <| j_iconst (v := 0) dL_isRefused_1526 (by decide) <| j_iconst (v := 0) dL_isRefused_1527 (by decide) <| j_iconst (v := 0) dL_isRefused_1528 (by decide) <| j_iconst (v := 0) dL_isRefused_1529 (by decide) <| j_callW (v := some (vI v)) (as := [vR x0, vI 18, vI x10, vI 5, vI 0, vI 0, vI 0, vI 0]) dL_isRefused_1530 kcw_L_149 rfl rfl (by decide) (Nat.le_of_ble_eq_true rfl) c K, q⟩
theorem bL_isRefused_1533 {h0 h : k_H} {Q : k_H → k_R → Prop} {x0 x1 x2 : Option Nat} {x7 : Int64} {x10 s0 : Int32} (K1 : ¬ (s0 = (-2000000003)) → k_X (jL_isRefused G l h0) h 1542 [(0, vR x0), (1, vR x1), (2, vR x2), (7, vJ x7), (10, vI x10)] [] Q) (K2 : s0 = (-2000000003) → k_X (jL_isRefused G l h0) h 1538 [(0, vR x0), (1, vR x1), (2, vR x2), (7, vJ x7), (10, vI x10)] [] Q) : k_X (jL_isRefused G l h0) h 1533 [(0, vR x0), (1, vR x1), (2, vR x2), (7, vJ x7), (10, vI x10)] [vI s0] Q := by
  by_cases hc : s0 = (-2000000003)
  · skip
    obtain ⟨h', r, K, q⟩ := K2 hc
    exact ⟨h', r, j_ldc (v := (-2000000003)) dL_isRefused_1533 ki_L_113 <| j_icmp_ne_f dL_isRefused_1535 1542 (by decide) hc K, q⟩
  · skip
    obtain ⟨h', r, K, q⟩ := K1 hc
    exact ⟨h', r, j_ldc (v := (-2000000003)) dL_isRefused_1533 ki_L_113 <| j_icmp_ne_t (tgt := 1542) dL_isRefused_1535 (by decide) hc K, q⟩
theorem bL_isRefused_1538 {h0 h : k_H} {Q : k_H → k_R → Prop} {x0 x1 x2 : Option Nat} {x7 : Int64} {x10 : Int32} (K : k_X (jL_isRefused G l h0) h 1543 [(0, vR x0), (1, vR x1), (2, vR x2), (7, vJ x7), (10, vI x10)] [vI 1] Q) : k_X (jL_isRefused G l h0) h 1538 [(0, vR x0), (1, vR x1), (2, vR x2), (7, vJ x7), (10, vI x10)] [] Q := by
  obtain ⟨h', r, K, q⟩ := K
  exact ⟨h', r, j_iconst (v := 1) dL_isRefused_1538 (by decide) <| j_goto (tgt := 1543) dL_isRefused_1539 (by decide) <| K, q⟩
theorem bL_isRefused_1542 {h0 h : k_H} {Q : k_H → k_R → Prop} {x0 x1 x2 : Option Nat} {x7 : Int64} {x10 : Int32} (K : k_X (jL_isRefused G l h0) h 1543 [(0, vR x0), (1, vR x1), (2, vR x2), (7, vJ x7), (10, vI x10)] [vI 0] Q) : k_X (jL_isRefused G l h0) h 1542 [(0, vR x0), (1, vR x1), (2, vR x2), (7, vJ x7), (10, vI x10)] [] Q := by
  obtain ⟨h', r, K, q⟩ := K
  exact ⟨h', r, j_iconst (v := 0) dL_isRefused_1542 (by decide) <| K, q⟩
theorem bL_isRefused_1543 {h0 h : k_H} {Q : k_H → k_R → Prop} {x0 x1 x2 : Option Nat} {x7 : Int64} {x10 s0 : Int32} (K : k_X (jL_isRefused G l h0) h 1429 [(0, vR x0), (1, vR x1), (2, vR x2), (7, vJ x7), (9, vI s0), (10, vI (x10 + 1))] [] Q) : k_X (jL_isRefused G l h0) h 1543 [(0, vR x0), (1, vR x1), (2, vR x2), (7, vJ x7), (10, vI x10)] [vI s0] Q := by
  obtain ⟨h', r, K, q⟩ := K
  exact ⟨h', r, j_istore dL_isRefused_1543 (by decide) rfl <| j_iinc (v := x10 + 1) dL_isRefused_1545 rfl (by decide) rfl rfl <| j_goto (tgt := 1429) dL_isRefused_1548 (by decide) <| K, q⟩
theorem bL_isRefused_1551 {h0 h : k_H} {Q : k_H → k_R → Prop} {x0 x1 : Option Nat} {x7 : Int64} {x9 : Int32} (K1 : x9 = 0 → k_X (jL_isRefused G l h0) h 1571 [] [] Q) (K2 : ¬ (x9 = 0) → k_X (jL_isRefused G l h0) h 1556 [(0, vR x0), (1, vR x1), (7, vJ x7)] [] Q) : k_X (jL_isRefused G l h0) h 1551 [(0, vR x0), (1, vR x1), (7, vJ x7), (9, vI x9)] [] Q := by
  by_cases hc : x9 = 0
  · skip
    obtain ⟨h', r, K, q⟩ := K1 hc
    exact ⟨h', r, j_iload dL_isRefused_1551 rfl <| j_if_eq_t (tgt := 1571) dL_isRefused_1553 (by decide) hc (j_pick [] rfl K), q⟩
  · skip
    obtain ⟨h', r, K, q⟩ := K2 hc
    exact ⟨h', r, j_iload dL_isRefused_1551 rfl <| j_if_eq_f dL_isRefused_1553 1571 (by decide) hc (j_pick [0, 1, 2] rfl K), q⟩
theorem bL_isRefused_1556 {h0 h : k_H} {Q : k_H → k_R → Prop} {x0 x1 : Option Nat} {x7 : Int64} {P : k_H → Int64 → Prop} (c : k_ctj (tL_all G l) [vR x0, vR x1] h P) (K : ∀ h1 v, P h1 v → k_X (jL_isRefused G l h0) h1 1561 [(7, vJ x7)] [vJ v] Q) : k_X (jL_isRefused G l h0) h 1556 [(0, vR x0), (1, vR x1), (7, vJ x7)] [] Q := by
  obtain ⟨h1, v, c, p⟩ := c
  obtain ⟨h', r, K, q⟩ := K h1 v p
  exact ⟨h', r, j_aload_n dL_isRefused_1556 rfl rfl <| j_aload_n dL_isRefused_1557 rfl rfl <| j_callS (v := some (vJ v)) (as := [vR x0, vR x1]) dL_isRefused_1558 kc_L_145 rfl rfl (by decide) (Nat.le_of_ble_eq_true rfl) c (j_pick [2] rfl K), q⟩
theorem bL_isRefused_1556x {h0 h : k_H} {Q : k_H → k_R → Prop} {x0 x1 : Option Nat} {x7 : Int64} {E : String} {P : k_H → Prop} (c : k_ctx (tL_all G l) [vR x0, vR x1] h E P) (q : ∀ h1, P h1 → Q h1 (.inr E)) : k_X (jL_isRefused G l h0) h 1556 [(0, vR x0), (1, vR x1), (7, vJ x7)] [] Q := by
  obtain ⟨h1, c, p⟩ := c
  exact ⟨h1, _, j_aload_n dL_isRefused_1556 rfl rfl <| j_aload_n dL_isRefused_1557 rfl rfl <| j_callSx (as := [vR x0, vR x1]) dL_isRefused_1558 kc_L_145 rfl rfl (by decide) (Nat.le_of_ble_eq_true rfl) c, q h1 p⟩
theorem bL_isRefused_1561 {h0 h : k_H} {Q : k_H → k_R → Prop} {x7 s0 : Int64} (K1 : ¬ (s0 = x7) → k_X (jL_isRefused G l h0) h 1571 [] [] Q) (K2 : s0 = x7 → k_X (jL_isRefused G l h0) h 1567 [] [] Q) : k_X (jL_isRefused G l h0) h 1561 [(7, vJ x7)] [vJ s0] Q := by
  by_cases hc : s0 = x7
  · skip
    obtain ⟨h', r, K, q⟩ := K2 hc
    exact ⟨h', r, j_lload dL_isRefused_1561 rfl <| j_lcmp dL_isRefused_1563 <| j_if_ne_f dL_isRefused_1564 1571 (by decide) ((lg_cmp_eq _ _).mpr hc) (j_pick [] rfl K), q⟩
  · skip
    obtain ⟨h', r, K, q⟩ := K1 hc
    exact ⟨h', r, j_lload dL_isRefused_1561 rfl <| j_lcmp dL_isRefused_1563 <| j_if_ne_t (tgt := 1571) dL_isRefused_1564 (by decide) ((not_congr (lg_cmp_eq _ _)).mpr hc) (j_pick [] rfl K), q⟩
theorem bL_isRefused_1567 {h0 h : k_H} {Q : k_H → k_R → Prop} (K : k_X (jL_isRefused G l h0) h 1572 [] [vI 1] Q) : k_X (jL_isRefused G l h0) h 1567 [] [] Q := by
  obtain ⟨h', r, K, q⟩ := K
  exact ⟨h', r, j_iconst (v := 1) dL_isRefused_1567 (by decide) <| j_goto (tgt := 1572) dL_isRefused_1568 (by decide) <| K, q⟩
theorem bL_isRefused_1571 {h0 h : k_H} {Q : k_H → k_R → Prop} (K : k_X (jL_isRefused G l h0) h 1572 [] [vI 0] Q) : k_X (jL_isRefused G l h0) h 1571 [] [] Q := by
  obtain ⟨h', r, K, q⟩ := K
  exact ⟨h', r, j_iconst (v := 0) dL_isRefused_1571 (by decide) <| K, q⟩
theorem bL_isRefused_1572 {h0 h : k_H} {Q : k_H → k_R → Prop} {s0 : Int32} (y1 : k_bl s0) (q : Q h (.inl (some (vI s0)))) : k_X (jL_isRefused G l h0) h 1572 [] [vI s0] Q := by
  exact ⟨_, _, j_zret dL_isRefused_1572 rfl y1, q⟩
end LB2
