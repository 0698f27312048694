section LB1
variable {G : k_G} {l : Launch}

theorem eL_tells {G : k_G} {l : Launch} (hfl : l.flags = flags0) {h : k_H} {Q : k_H → k_R → Prop} {x0 : Option Nat} {x1 : Int32} {x2 : Int32} {x3 : Int32} (K : k_X (jL_tells G l h) h 0 [(0, vR x0), (1, vI x1), (2, vI x2), (3, vI x3)] [] Q) : k_ct (tL_tells G l) [vR x0, vI x1, vI x2, vI x3] h Q := by
  obtain ⟨h', r, K, q⟩ := K
  exact ⟨h', r, k_CtOf (by decide +kernel) (Nat.le_of_ble_eq_true rfl) K hfl, q⟩

theorem bL_tells_0 {h0 h : k_H} {Q : k_H → k_R → Prop} {x0 : Nat} {x1 x2 x3 : Int32} (w : k_is h x0 14) {P : k_H → Prop} (c : k_ctv (tX11_move G l) [vR (some x0), vI x1, vI x2, vI x3] h P) (K : ∀ h1, P h1 → k_X (jL_tells G l h0) h1 7 [] [] Q) : k_X (jL_tells G l h0) h 0 [(0, vR (some x0)), (1, vI x1), (2, vI x2), (3, vI x3)] [] Q := by
  obtain ⟨h1, c, p⟩ := c
  obtain ⟨h', r, K, q⟩ := K h1 p
  exact ⟨h', r, j_aload_n dL_tells_0 rfl rfl <| j_iload_n dL_tells_1 rfl rfl <| j_iload_n dL_tells_2 rfl rfl <| j_iload_n dL_tells_3 rfl rfl <| j_callV (v := none) (as := [vI x1, vI x2, vI x3]) dL_tells_4 kc_L_114 rfl rfl w (by decide) (Nat.le_of_ble_eq_true rfl) c (j_pick [] rfl K), q⟩
theorem bL_tells_0x {h0 h : k_H} {Q : k_H → k_R → Prop} {x0 : Nat} {x1 x2 x3 : Int32} (w : k_is h x0 14) {E : String} {P : k_H → Prop} (c : k_ctx (tX11_move G l) [vR (some x0), vI x1, vI x2, vI x3] h E P) (q : ∀ h1, P h1 → Q h1 (.inr E)) : k_X (jL_tells G l h0) h 0 [(0, vR (some x0)), (1, vI x1), (2, vI x2), (3, vI x3)] [] Q := by
  obtain ⟨h1, c, p⟩ := c
  exact ⟨h1, _, j_aload_n dL_tells_0 rfl rfl <| j_iload_n dL_tells_1 rfl rfl <| j_iload_n dL_tells_2 rfl rfl <| j_iload_n dL_tells_3 rfl rfl <| j_callVx (as := [vI x1, vI x2, vI x3]) dL_tells_4 kc_L_114 rfl rfl w (by decide) (Nat.le_of_ble_eq_true rfl) c, q h1 p⟩
theorem bL_tells_7 {h0 h : k_H} {Q : k_H → k_R → Prop} (q : Q h (.inl (some (vI 1)))) : k_X (jL_tells G l h0) h 7 [] [] Q := by
  exact ⟨_, _, j_iconst (v := 1) dL_tells_7 (by decide) <| j_zret dL_tells_8 rfl (by decide), q⟩
theorem eL_loses {G : k_G} {l : Launch} (hfl : l.flags = flags0) {h : k_H} {Q : k_H → k_R → Prop} {x0 : Option Nat} {x1 : Int32} (K : k_X (jL_loses G l h) h 0 [(0, vR x0), (1, vI x1)] [] Q) : k_ct (tL_loses G l) [vR x0, vI x1] h Q := by
  obtain ⟨h', r, K, q⟩ := K
  exact ⟨h', r, k_CtOf (by decide +kernel) (Nat.le_of_ble_eq_true rfl) K hfl, q⟩

theorem bL_loses_0 {h0 h : k_H} {Q : k_H → k_R → Prop} {x0 : Nat} {x1 : Int32} (w : k_is h x0 14) {P : k_H → Prop} (c : k_ctv (tX11_lose G l) [vR (some x0), vI x1] h P) (K : ∀ h1, P h1 → k_X (jL_loses G l h0) h1 5 [] [] Q) : k_X (jL_loses G l h0) h 0 [(0, vR (some x0)), (1, vI x1)] [] Q := by
  obtain ⟨h1, c, p⟩ := c
  obtain ⟨h', r, K, q⟩ := K h1 p
  exact ⟨h', r, j_aload_n dL_loses_0 rfl rfl <| j_iload_n dL_loses_1 rfl rfl <| j_callV (v := none) (as := [vI x1]) dL_loses_2 kc_L_124 rfl rfl w (by decide) (Nat.le_of_ble_eq_true rfl) c (j_pick [] rfl K), q⟩
theorem bL_loses_5 {h0 h : k_H} {Q : k_H → k_R → Prop} (q : Q h (.inl (some (vI 1)))) : k_X (jL_loses G l h0) h 5 [] [] Q := by
  exact ⟨_, _, j_iconst (v := 1) dL_loses_5 (by decide) <| j_zret dL_loses_6 rfl (by decide), q⟩
theorem eL_all {G : k_G} {l : Launch} (hfl : l.flags = flags0) {h : k_H} {Q : k_H → k_R → Prop} {x0 : Option Nat} {x1 : Option Nat} (K : k_X (jL_all G l h) h 0 [(0, vR x0)] [] Q) : k_ct (tL_all G l) [vR x0, vR x1] h Q := by
  obtain ⟨h', r, K, q⟩ := K
  exact ⟨h', r, k_CtOf (by decide +kernel) (Nat.le_of_ble_eq_true rfl) (j_pick [0] rfl K) hfl, q⟩

theorem bL_all_0 {h0 h : k_H} {Q : k_H → k_R → Prop} {x0 : Nat} (w : k_is h x0 14) {P : k_H → Int32 → Prop} (c : k_cti (tX11_version G l) [vR (some x0)] h P) (K : ∀ h1 v, P h1 v → k_X (jL_all G l h0) h1 4 [(0, vR (some x0))] [vI v] Q) : k_X (jL_all G l h0) h 0 [(0, vR (some x0))] [] Q := by
  obtain ⟨h1, v, c, p⟩ := c
  obtain ⟨h', r, K, q⟩ := K h1 v p
  exact ⟨h', r, j_aload_n dL_all_0 rfl rfl <| j_callV (v := some (vI v)) (as := []) dL_all_1 kc_L_128 rfl rfl w (by decide) (Nat.le_of_ble_eq_true rfl) c K, q⟩
theorem bL_all_4 {h0 h : k_H} {Q : k_H → k_R → Prop} {x0 : Nat} {s0 : Int32} (w : k_is h x0 14) {P : k_H → Int32 → Prop} (c : k_cti (tX11_parts G l) [vR (some x0)] h P) (K : ∀ h1 v, P h1 v → k_X (jL_all G l h0) h1 14 [(0, vR (some x0)), (2, vI s0)] [vI v, vJ 31, vJ s0.toInt64] Q) : k_X (jL_all G l h0) h 4 [(0, vR (some x0))] [vI s0] Q := by
  obtain ⟨h1, v, c, p⟩ := c
  obtain ⟨h', r, K, q⟩ := K h1 v p
  exact ⟨h', r, j_istore_n dL_all_4 rfl (by decide) rfl <| j_iload_n dL_all_5 rfl rfl <| j_i2l dL_all_6 <| j_ldc2 (v := 31) dL_all_7 ki_L_131 <| j_aload_n dL_all_10 rfl rfl <| j_callV (v := some (vI v)) (as := []) dL_all_11 kc_L_133 rfl rfl w (by decide) (Nat.le_of_ble_eq_true rfl) c K, q⟩
theorem bL_all_14 {h0 h : k_H} {Q : k_H → k_R → Prop} {x0 : Nat} {x2 s2 : Int32} {s0 s1 : Int64} (w : k_is h x0 14) {P : k_H → Int32 → Prop} (c : k_cti (tX11_why G l) [vR (some x0)] h P) (K : ∀ h1 v, P h1 v → k_X (jL_all G l h0) h1 24 [(0, vR (some x0)), (2, vI x2)] [vI v, vJ 7, vJ (s0 + (s1 * s2.toInt64))] Q) : k_X (jL_all G l h0) h 14 [(0, vR (some x0)), (2, vI x2)] [vI s2, vJ s1, vJ s0] Q := by
  obtain ⟨h1, v, c, p⟩ := c
  obtain ⟨h', r, K, q⟩ := K h1 v p
  exact ⟨h', r, j_i2l dL_all_14 <| j_lmul dL_all_15 <| j_ladd dL_all_16 <| j_ldc2 (v := 7) dL_all_17 ki_L_136 <| j_aload_n dL_all_20 rfl rfl <| j_callV (v := some (vI v)) (as := []) dL_all_21 kc_L_138 rfl rfl w (by decide) (Nat.le_of_ble_eq_true rfl) c K, q⟩
theorem bL_all_24 {h0 h : k_H} {Q : k_H → k_R → Prop} {x0 : Option Nat} {x2 s2 : Int32} {s0 s1 : Int64} (K : k_X (jL_all G l h0) h 31 [(0, vR x0), (2, vI x2), (3, vJ (s0 + (s1 * s2.toInt64))), (5, vI 0)] [] Q) : k_X (jL_all G l h0) h 24 [(0, vR x0), (2, vI x2)] [vI s2, vJ s1, vJ s0] Q := by
  obtain ⟨h', r, K, q⟩ := K
  exact ⟨h', r, j_i2l dL_all_24 <| j_lmul dL_all_25 <| j_ladd dL_all_26 <| j_lstore_n dL_all_27 rfl (by decide) rfl <| j_iconst (v := 0) dL_all_28 (by decide) <| j_istore dL_all_29 (by decide) rfl <| K, q⟩
theorem bL_all_31 {h0 h : k_H} {Q : k_H → k_R → Prop} {x0 : Option Nat} {x2 x5 : Int32} {x3 : Int64} (K1 : 8 ≤ x5 → k_X (jL_all G l h0) h 113 [(0, vR x0), (3, vJ x3)] [] Q) (K2 : ¬ (8 ≤ x5) → k_X (jL_all G l h0) h 38 [(0, vR x0), (2, vI x2), (3, vJ x3), (5, vI x5)] [] Q) : k_X (jL_all G l h0) h 31 [(0, vR x0), (2, vI x2), (3, vJ x3), (5, vI x5)] [] Q := by
  by_cases hc : 8 ≤ x5
  · skip
    obtain ⟨h', r, K, q⟩ := K1 hc
    exact ⟨h', r, j_iload dL_all_31 rfl <| j_bipush (v := 8) dL_all_33 (by decide) <| j_icmp_ge_t (tgt := 113) dL_all_35 (by decide) hc (j_pick [0, 2] rfl K), q⟩
  · skip
    obtain ⟨h', r, K, q⟩ := K2 hc
    exact ⟨h', r, j_iload dL_all_31 rfl <| j_bipush (v := 8) dL_all_33 (by decide) <| j_icmp_ge_f dL_all_35 113 (by decide) hc K, q⟩
theorem bL_all_38 {h0 h : k_H} {Q : k_H → k_R → Prop} {x0 : Nat} {x2 x5 : Int32} {x3 : Int64} (w : k_is h x0 14) {P : k_H → Int32 → Prop} (c : k_cti (tX11_value G l) [vR (some x0), vI x2, vI x5, vI 10000, vI 10000] h P) (K : ∀ h1 v, P h1 v → k_X (jL_all G l h0) h1 56 [(0, vR (some x0)), (2, vI x2), (5, vI x5)] [vI v, vJ (1000003 * x3)] Q) : k_X (jL_all G l h0) h 38 [(0, vR (some x0)), (2, vI x2), (3, vJ x3), (5, vI x5)] [] Q := by
  obtain ⟨h1, v, c, p⟩ := c
  obtain ⟨h', r, K, q⟩ := K h1 v p
  exact ⟨h', r, j_ldc2 (v := 1000003) dL_all_38 ki_L_141 <| j_lload_n dL_all_41 rfl rfl <| j_lmul dL_all_42 <| j_aload_n dL_all_43 rfl rfl <| j_iload_n dL_all_44 rfl rfl <| j_iload dL_all_45 rfl <| j_sipush (v := 10000) dL_all_47 (by decide) <| j_sipush (v := 10000) dL_all_50 (by decide) <| j_callV (v := some (vI v)) (as := [vI x2, vI x5, vI 10000, vI 10000]) dL_all_53 kc_L_42 rfl rfl w (by decide) (Nat.le_of_ble_eq_true rfl) c (j_pick [0, 1, 3] rfl K), q⟩
theorem bL_all_38x {h0 h : k_H} {Q : k_H → k_R → Prop} {x0 : Nat} {x2 x5 : Int32} {x3 : Int64} (w : k_is h x0 14) {E : String} {P : k_H → Prop} (c : k_ctx (tX11_value G l) [vR (some x0), vI x2, vI x5, vI 10000, vI 10000] h E P) (q : ∀ h1, P h1 → Q h1 (.inr E)) : k_X (jL_all G l h0) h 38 [(0, vR (some x0)), (2, vI x2), (3, vJ x3), (5, vI x5)] [] Q := by
  obtain ⟨h1, c, p⟩ := c
  exact ⟨h1, _, j_ldc2 (v := 1000003) dL_all_38 ki_L_141 <| j_lload_n dL_all_41 rfl rfl <| j_lmul dL_all_42 <| j_aload_n dL_all_43 rfl rfl <| j_iload_n dL_all_44 rfl rfl <| j_iload dL_all_45 rfl <| j_sipush (v := 10000) dL_all_47 (by decide) <| j_sipush (v := 10000) dL_all_50 (by decide) <| j_callVx (as := [vI x2, vI x5, vI 10000, vI 10000]) dL_all_53 kc_L_42 rfl rfl w (by decide) (Nat.le_of_ble_eq_true rfl) c, q h1 p⟩
theorem bL_all_56 {h0 h : k_H} {Q : k_H → k_R → Prop} {x0 : Nat} {x2 x5 s1 : Int32} {s0 : Int64} (w : k_is h x0 14) {P : k_H → Int32 → Prop} (c : k_cti (tX11_value G l) [vR (some x0), vI x2, vI (-1), vI x5, vI 10000] h P) (K : ∀ h1 v, P h1 v → k_X (jL_all G l h0) h1 72 [(0, vR (some x0)), (2, vI x2), (5, vI x5)] [vI v, vJ 31, vJ (s0 + s1.toInt64)] Q) : k_X (jL_all G l h0) h 56 [(0, vR (some x0)), (2, vI x2), (5, vI x5)] [vI s1, vJ s0] Q := by
  obtain ⟨h1, v, c, p⟩ := c
  obtain ⟨h', r, K, q⟩ := K h1 v p
  exact ⟨h', r, j_i2l dL_all_56 <| j_ladd dL_all_57 <| j_ldc2 (v := 31) dL_all_58 ki_L_131 <| j_aload_n dL_all_61 rfl rfl <| j_iload_n dL_all_62 rfl rfl <| j_iconst (v := (-1)) dL_all_63 (by decide) <| j_iload dL_all_64 rfl <| j_sipush (v := 10000) dL_all_66 (by decide) <| j_callV (v := some (vI v)) (as := [vI x2, vI (-1), vI x5, vI 10000]) dL_all_69 kc_L_42 rfl rfl w (by decide) (Nat.le_of_ble_eq_true rfl) c K, q⟩
theorem bL_all_56x {h0 h : k_H} {Q : k_H → k_R → Prop} {x0 : Nat} {x2 x5 s1 : Int32} {s0 : Int64} (w : k_is h x0 14) {E : String} {P : k_H → Prop} (c : k_ctx (tX11_value G l) [vR (some x0), vI x2, vI (-1), vI x5, vI 10000] h E P) (q : ∀ h1, P h1 → Q h1 (.inr E)) : k_X (jL_all G l h0) h 56 [(0, vR (some x0)), (2, vI x2), (5, vI x5)] [vI s1, vJ s0] Q := by
  obtain ⟨h1, c, p⟩ := c
  exact ⟨h1, _, j_i2l dL_all_56 <| j_ladd dL_all_57 <| j_ldc2 (v := 31) dL_all_58 ki_L_131 <| j_aload_n dL_all_61 rfl rfl <| j_iload_n dL_all_62 rfl rfl <| j_iconst (v := (-1)) dL_all_63 (by decide) <| j_iload dL_all_64 rfl <| j_sipush (v := 10000) dL_all_66 (by decide) <| j_callVx (as := [vI x2, vI (-1), vI x5, vI 10000]) dL_all_69 kc_L_42 rfl rfl w (by decide) (Nat.le_of_ble_eq_true rfl) c, q h1 p⟩
theorem bL_all_72 {h0 h : k_H} {Q : k_H → k_R → Prop} {x0 : Nat} {x2 x5 s2 : Int32} {s0 s1 : Int64} (w : k_is h x0 14) {P : k_H → Int32 → Prop} (c : k_cti (tX11_value G l) [vR (some x0), vI x2, vI (-3), vI x5, vI 10000] h P) (K : ∀ h1 v, P h1 v → k_X (jL_all G l h0) h1 90 [(0, vR (some x0)), (2, vI x2), (5, vI x5)] [vI v, vJ 7, vJ (s0 + (s1 * s2.toInt64))] Q) : k_X (jL_all G l h0) h 72 [(0, vR (some x0)), (2, vI x2), (5, vI x5)] [vI s2, vJ s1, vJ s0] Q := by
  obtain ⟨h1, v, c, p⟩ := c
  obtain ⟨h', r, K, q⟩ := K h1 v p
  exact ⟨h', r, j_i2l dL_all_72 <| j_lmul dL_all_73 <| j_ladd dL_all_74 <| j_ldc2 (v := 7) dL_all_75 ki_L_136 <| j_aload_n dL_all_78 rfl rfl <| j_iload_n dL_all_79 rfl rfl <| j_bipush (v := (-3)) dL_all_80 (by decide) <| j_iload dL_all_82 rfl <| j_sipush (v := 10000) dL_all_84 (by decide) <| j_callV (v := some (vI v)) (as := [vI x2, vI (-3), vI x5, vI 10000]) dL_all_87 kc_L_42 rfl rfl w (by decide) (Nat.le_of_ble_eq_true rfl) c K, q⟩
theorem bL_all_72x {h0 h : k_H} {Q : k_H → k_R → Prop} {x0 : Nat} {x2 x5 s2 : Int32} {s0 s1 : Int64} (w : k_is h x0 14) {E : String} {P : k_H → Prop} (c : k_ctx (tX11_value G l) [vR (some x0), vI x2, vI (-3), vI x5, vI 10000] h E P) (q : ∀ h1, P h1 → Q h1 (.inr E)) : k_X (jL_all G l h0) h 72 [(0, vR (some x0)), (2, vI x2), (5, vI x5)] [vI s2, vJ s1, vJ s0] Q := by
  obtain ⟨h1, c, p⟩ := c
  exact ⟨h1, _, j_i2l dL_all_72 <| j_lmul dL_all_73 <| j_ladd dL_all_74 <| j_ldc2 (v := 7) dL_all_75 ki_L_136 <| j_aload_n dL_all_78 rfl rfl <| j_iload_n dL_all_79 rfl rfl <| j_bipush (v := (-3)) dL_all_80 (by decide) <| j_iload dL_all_82 rfl <| j_sipush (v := 10000) dL_all_84 (by decide) <| j_callVx (as := [vI x2, vI (-3), vI x5, vI 10000]) dL_all_87 kc_L_42 rfl rfl w (by decide) (Nat.le_of_ble_eq_true rfl) c, q h1 p⟩
theorem bL_all_90 {h0 h : k_H} {Q : k_H → k_R → Prop} {x0 : Nat} {x2 x5 s2 : Int32} {s0 s1 : Int64} (w : k_is h x0 14) {P : k_H → Int32 → Prop} (c : k_cti (tX11_named G l) [vR (some x0), vI 0, vI x5] h P) (K : ∀ h1 v, P h1 v → k_X (jL_all G l h0) h1 103 [(0, vR (some x0)), (2, vI x2), (5, vI x5)] [vI v, vJ 3, vJ (s0 + (s1 * s2.toInt64))] Q) : k_X (jL_all G l h0) h 90 [(0, vR (some x0)), (2, vI x2), (5, vI x5)] [vI s2, vJ s1, vJ s0] Q := by
  obtain ⟨h1, v, c, p⟩ := c
  obtain ⟨h', r, K, q⟩ := K h1 v p
  exact ⟨h', r, j_i2l dL_all_90 <| j_lmul dL_all_91 <| j_ladd dL_all_92 <| j_ldc2 (v := 3) dL_all_93 ki_L_143 <| j_aload_n dL_all_96 rfl rfl <| j_iconst (v := 0) dL_all_97 (by decide) <| j_iload dL_all_98 rfl <| j_callV (v := some (vI v)) (as := [vI 0, vI x5]) dL_all_100 kc_L_102 rfl rfl w (by decide) (Nat.le_of_ble_eq_true rfl) c K, q⟩
theorem bL_all_90x {h0 h : k_H} {Q : k_H → k_R → Prop} {x0 : Nat} {x2 x5 s2 : Int32} {s0 s1 : Int64} (w : k_is h x0 14) {E : String} {P : k_H → Prop} (c : k_ctx (tX11_named G l) [vR (some x0), vI 0, vI x5] h E P) (q : ∀ h1, P h1 → Q h1 (.inr E)) : k_X (jL_all G l h0) h 90 [(0, vR (some x0)), (2, vI x2), (5, vI x5)] [vI s2, vJ s1, vJ s0] Q := by
  obtain ⟨h1, c, p⟩ := c
  exact ⟨h1, _, j_i2l dL_all_90 <| j_lmul dL_all_91 <| j_ladd dL_all_92 <| j_ldc2 (v := 3) dL_all_93 ki_L_143 <| j_aload_n dL_all_96 rfl rfl <| j_iconst (v := 0) dL_all_97 (by decide) <| j_iload dL_all_98 rfl <| j_callVx (as := [vI 0, vI x5]) dL_all_100 kc_L_102 rfl rfl w (by decide) (Nat.le_of_ble_eq_true rfl) c, q h1 p⟩
theorem bL_all_103 {h0 h : k_H} {Q : k_H → k_R → Prop} {x0 : Option Nat} {x2 x5 s2 : Int32} {s0 s1 : Int64} (K : k_X (jL_all G l h0) h 31 [(0, vR x0), (2, vI x2), (3, vJ (s0 + (s1 * s2.toInt64))), (5, vI (x5 + 1))] [] Q) : k_X (jL_all G l h0) h 103 [(0, vR x0), (2, vI x2), (5, vI x5)] [vI s2, vJ s1, vJ s0] Q := by
  obtain ⟨h', r, K, q⟩ := K
  exact ⟨h', r, j_i2l dL_all_103 <| j_lmul dL_all_104 <| j_ladd dL_all_105 <| j_lstore_n dL_all_106 rfl (by decide) rfl <| j_iinc (v := x5 + 1) dL_all_107 rfl (by decide) rfl rfl <| j_goto (tgt := 31) dL_all_110 (by decide) <| K, q⟩
theorem bL_all_113 {h0 h : k_H} {Q : k_H → k_R → Prop} {x0 : Option Nat} {x3 : Int64} (K : k_X (jL_all G l h0) h 116 [(0, vR x0), (3, vJ x3), (5, vI 0)] [] Q) : k_X (jL_all G l h0) h 113 [(0, vR x0), (3, vJ x3)] [] Q := by
  obtain ⟨h', r, K, q⟩ := K
  exact ⟨h', r, j_iconst (v := 0) dL_all_113 (by decide) <| j_istore dL_all_114 (by decide) rfl <| K, q⟩
theorem bL_all_116 {h0 h : k_H} {Q : k_H → k_R → Prop} {x0 : Nat} {x3 : Int64} {x5 : Int32} (w : k_is h x0 14) {P : k_H → Int32 → Prop} (c : k_cti (tX11_parts G l) [vR (some x0)] h P) (K : ∀ h1 v, P h1 v → k_X (jL_all G l h0) h1 122 [(0, vR (some x0)), (3, vJ x3), (5, vI x5)] [vI v, vI x5] Q) : k_X (jL_all G l h0) h 116 [(0, vR (some x0)), (3, vJ x3), (5, vI x5)] [] Q := by
  obtain ⟨h1, v, c, p⟩ := c
  obtain ⟨h', r, K, q⟩ := K h1 v p
  exact ⟨h', r, j_iload dL_all_116 rfl <| j_aload_n dL_all_118 rfl rfl <| j_callV (v := some (vI v)) (as := []) dL_all_119 kc_L_133 rfl rfl w (by decide) (Nat.le_of_ble_eq_true rfl) c K, q⟩
theorem bL_all_122 {h0 h : k_H} {Q : k_H → k_R → Prop} {x0 : Option Nat} {x3 : Int64} {x5 s0 s1 : Int32} (K1 : s1 ≤ s0 → k_X (jL_all G l h0) h 159 [(3, vJ x3)] [] Q) (K2 : ¬ (s1 ≤ s0) → k_X (jL_all G l h0) h 125 [(0, vR x0), (3, vJ x3), (5, vI x5)] [] Q) : k_X (jL_all G l h0) h 122 [(0, vR x0), (3, vJ x3), (5, vI x5)] [vI s1, vI s0] Q := by
  by_cases hc : s1 ≤ s0
  · skip
    obtain ⟨h', r, K, q⟩ := K1 hc
    exact ⟨h', r, j_icmp_ge_t (tgt := 159) dL_all_122 (by decide) hc (j_pick [1] rfl K), q⟩
  · skip
    obtain ⟨h', r, K, q⟩ := K2 hc
    exact ⟨h', r, j_icmp_ge_f dL_all_122 159 (by decide) hc K, q⟩
theorem bL_all_125 {h0 h : k_H} {Q : k_H → k_R → Prop} {x0 : Nat} {x3 : Int64} {x5 : Int32} (w : k_is h x0 14) {P : k_H → Int32 → Prop} (c : k_cti (tX11_part G l) [vR (some x0), vI x5, vI 1] h P) (K : ∀ h1 v, P h1 v → k_X (jL_all G l h0) h1 137 [(0, vR (some x0)), (5, vI x5)] [vI v, vJ (31 * x3)] Q) : k_X (jL_all G l h0) h 125 [(0, vR (some x0)), (3, vJ x3), (5, vI x5)] [] Q := by
  obtain ⟨h1, v, c, p⟩ := c
  obtain ⟨h', r, K, q⟩ := K h1 v p
  exact ⟨h', r, j_ldc2 (v := 31) dL_all_125 ki_L_131 <| j_lload_n dL_all_128 rfl rfl <| j_lmul dL_all_129 <| j_aload_n dL_all_130 rfl rfl <| j_iload dL_all_131 rfl <| j_iconst (v := 1) dL_all_133 (by decide) <| j_callV (v := some (vI v)) (as := [vI x5, vI 1]) dL_all_134 kc_L_83 rfl rfl w (by decide) (Nat.le_of_ble_eq_true rfl) c (j_pick [0, 2] rfl K), q⟩
theorem bL_all_125x {h0 h : k_H} {Q : k_H → k_R → Prop} {x0 : Nat} {x3 : Int64} {x5 : Int32} (w : k_is h x0 14) {E : String} {P : k_H → Prop} (c : k_ctx (tX11_part G l) [vR (some x0), vI x5, vI 1] h E P) (q : ∀ h1, P h1 → Q h1 (.inr E)) : k_X (jL_all G l h0) h 125 [(0, vR (some x0)), (3, vJ x3), (5, vI x5)] [] Q := by
  obtain ⟨h1, c, p⟩ := c
  exact ⟨h1, _, j_ldc2 (v := 31) dL_all_125 ki_L_131 <| j_lload_n dL_all_128 rfl rfl <| j_lmul dL_all_129 <| j_aload_n dL_all_130 rfl rfl <| j_iload dL_all_131 rfl <| j_iconst (v := 1) dL_all_133 (by decide) <| j_callVx (as := [vI x5, vI 1]) dL_all_134 kc_L_83 rfl rfl w (by decide) (Nat.le_of_ble_eq_true rfl) c, q h1 p⟩
theorem bL_all_137 {h0 h : k_H} {Q : k_H → k_R → Prop} {x0 : Nat} {x5 s1 : Int32} {s0 : Int64} (w : k_is h x0 14) {P : k_H → Int32 → Prop} (c : k_cti (tX11_part G l) [vR (some x0), vI x5, vI 2] h P) (K : ∀ h1 v, P h1 v → k_X (jL_all G l h0) h1 149 [(0, vR (some x0)), (5, vI x5)] [vI v, vJ 7, vJ (s0 + s1.toInt64)] Q) : k_X (jL_all G l h0) h 137 [(0, vR (some x0)), (5, vI x5)] [vI s1, vJ s0] Q := by
  obtain ⟨h1, v, c, p⟩ := c
  obtain ⟨h', r, K, q⟩ := K h1 v p
  exact ⟨h', r, j_i2l dL_all_137 <| j_ladd dL_all_138 <| j_ldc2 (v := 7) dL_all_139 ki_L_136 <| j_aload_n dL_all_142 rfl rfl <| j_iload dL_all_143 rfl <| j_iconst (v := 2) dL_all_145 (by decide) <| j_callV (v := some (vI v)) (as := [vI x5, vI 2]) dL_all_146 kc_L_83 rfl rfl w (by decide) (Nat.le_of_ble_eq_true rfl) c K, q⟩
theorem bL_all_137x {h0 h : k_H} {Q : k_H → k_R → Prop} {x0 : Nat} {x5 s1 : Int32} {s0 : Int64} (w : k_is h x0 14) {E : String} {P : k_H → Prop} (c : k_ctx (tX11_part G l) [vR (some x0), vI x5, vI 2] h E P) (q : ∀ h1, P h1 → Q h1 (.inr E)) : k_X (jL_all G l h0) h 137 [(0, vR (some x0)), (5, vI x5)] [vI s1, vJ s0] Q := by
  obtain ⟨h1, c, p⟩ := c
  exact ⟨h1, _, j_i2l dL_all_137 <| j_ladd dL_all_138 <| j_ldc2 (v := 7) dL_all_139 ki_L_136 <| j_aload_n dL_all_142 rfl rfl <| j_iload dL_all_143 rfl <| j_iconst (v := 2) dL_all_145 (by decide) <| j_callVx (as := [vI x5, vI 2]) dL_all_146 kc_L_83 rfl rfl w (by decide) (Nat.le_of_ble_eq_true rfl) c, q h1 p⟩
theorem bL_all_149 {h0 h : k_H} {Q : k_H → k_R → Prop} {x0 : Option Nat} {x5 s2 : Int32} {s0 s1 : Int64} (K : k_X (jL_all G l h0) h 116 [(0, vR x0), (3, vJ (s0 + (s1 * s2.toInt64))), (5, vI (x5 + 1))] [] Q) : k_X (jL_all G l h0) h 149 [(0, vR x0), (5, vI x5)] [vI s2, vJ s1, vJ s0] Q := by
  obtain ⟨h', r, K, q⟩ := K
  exact ⟨h', r, j_i2l dL_all_149 <| j_lmul dL_all_150 <| j_ladd dL_all_151 <| j_lstore_n dL_all_152 rfl (by decide) rfl <| j_iinc (v := x5 + 1) dL_all_153 rfl (by decide) rfl rfl <| j_goto (tgt := 116) dL_all_156 (by decide) <| K, q⟩
theorem bL_all_159 {h0 h : k_H} {Q : k_H → k_R → Prop} {x3 : Int64} (q : Q h (.inl (some (vJ x3)))) : k_X (jL_all G l h0) h 159 [(3, vJ x3)] [] Q := by
  exact ⟨_, _, j_lload_n dL_all_159 rfl rfl <| j_lret dL_all_160 rfl, q⟩
theorem eL_goesFor {G : k_G} {l : Launch} (hfl : l.flags = flags0) {h : k_H} {Q : k_H → k_R → Prop} {x0 : Int32} {x1 : Int32} (K : k_X (jL_goesFor G l h) h 0 [(0, vI x0), (1, vI x1)] [] Q) : k_ct (tL_goesFor G l) [vI x0, vI x1] h Q := by
  obtain ⟨h', r, K, q⟩ := K
  exact ⟨h', r, k_CtOf (by decide +kernel) (Nat.le_of_ble_eq_true rfl) K hfl, q⟩

theorem bL_goesFor_0 {h0 h : k_H} {Q : k_H → k_R → Prop} {x0 x1 : Int32} (K1 : x0 = (-2147483648) → k_X (jL_goesFor G l h0) h 18 [] [] Q) (K2 : ¬ (x0 = (-2147483648)) → k_X (jL_goesFor G l h0) h 6 [(0, vI x0), (1, vI x1)] [] Q) : k_X (jL_goesFor G l h0) h 0 [(0, vI x0), (1, vI x1)] [] Q := by
  by_cases hc : x0 = (-2147483648)
  · skip
    obtain ⟨h', r, K, q⟩ := K1 hc
    exact ⟨h', r, j_iload_n dL_goesFor_0 rfl rfl <| j_ldc (v := (-2147483648)) dL_goesFor_1 ki_L_159 <| j_icmp_eq_t (tgt := 18) dL_goesFor_3 (by decide) hc (j_pick [] rfl K), q⟩
  · skip
    obtain ⟨h', r, K, q⟩ := K2 hc
    exact ⟨h', r, j_iload_n dL_goesFor_0 rfl rfl <| j_ldc (v := (-2147483648)) dL_goesFor_1 ki_L_159 <| j_icmp_eq_f dL_goesFor_3 18 (by decide) hc K, q⟩
theorem bL_goesFor_6 {h0 h : k_H} {Q : k_H → k_R → Prop} {x0 x1 : Int32} (K1 : x0 = (-1000) → k_X (jL_goesFor G l h0) h 22 [] [] Q) (K2 : ¬ (x0 = (-1000)) → k_X (jL_goesFor G l h0) h 13 [(0, vI x0), (1, vI x1)] [] Q) : k_X (jL_goesFor G l h0) h 6 [(0, vI x0), (1, vI x1)] [] Q := by
  by_cases hc : x0 = (-1000)
  · skip
    obtain ⟨h', r, K, q⟩ := K1 hc
    exact ⟨h', r, j_iload_n dL_goesFor_6 rfl rfl <| j_sipush (v := (-1000)) dL_goesFor_7 (by decide) <| j_icmp_eq_t (tgt := 22) dL_goesFor_10 (by decide) hc (j_pick [] rfl K), q⟩
  · skip
    obtain ⟨h', r, K, q⟩ := K2 hc
    exact ⟨h', r, j_iload_n dL_goesFor_6 rfl rfl <| j_sipush (v := (-1000)) dL_goesFor_7 (by decide) <| j_icmp_eq_f dL_goesFor_10 22 (by decide) hc K, q⟩
theorem bL_goesFor_13 {h0 h : k_H} {Q : k_H → k_R → Prop} {x0 x1 : Int32} (K1 : x0 < x1 → k_X (jL_goesFor G l h0) h 22 [] [] Q) (K2 : ¬ (x0 < x1) → k_X (jL_goesFor G l h0) h 18 [] [] Q) : k_X (jL_goesFor G l h0) h 13 [(0, vI x0), (1, vI x1)] [] Q := by
  by_cases hc : x0 < x1
  · skip
    obtain ⟨h', r, K, q⟩ := K1 hc
    exact ⟨h', r, j_iload_n dL_goesFor_13 rfl rfl <| j_iload_n dL_goesFor_14 rfl rfl <| j_icmp_lt_t (tgt := 22) dL_goesFor_15 (by decide) hc (j_pick [] rfl K), q⟩
  · skip
    obtain ⟨h', r, K, q⟩ := K2 hc
    exact ⟨h', r, j_iload_n dL_goesFor_13 rfl rfl <| j_iload_n dL_goesFor_14 rfl rfl <| j_icmp_lt_f dL_goesFor_15 22 (by decide) hc (j_pick [] rfl K), q⟩
theorem bL_goesFor_18 {h0 h : k_H} {Q : k_H → k_R → Prop} (K : k_X (jL_goesFor G l h0) h 23 [] [vI 1] Q) : k_X (jL_goesFor G l h0) h 18 [] [] Q := by
  obtain ⟨h', r, K, q⟩ := K
  exact ⟨h', r, j_iconst (v := 1) dL_goesFor_18 (by decide) <| j_goto (tgt := 23) dL_goesFor_19 (by decide) <| K, q⟩
theorem bL_goesFor_22 {h0 h : k_H} {Q : k_H → k_R → Prop} (K : k_X (jL_goesFor G l h0) h 23 [] [vI 0] Q) : k_X (jL_goesFor G l h0) h 22 [] [] Q := by
  obtain ⟨h', r, K, q⟩ := K
  exact ⟨h', r, j_iconst (v := 0) dL_goesFor_22 (by decide) <| K, q⟩
theorem bL_goesFor_23 {h0 h : k_H} {Q : k_H → k_R → Prop} {s0 : Int32} (y1 : k_bl s0) (q : Q h (.inl (some (vI s0)))) : k_X (jL_goesFor G l h0) h 23 [] [vI s0] Q := by
  exact ⟨_, _, j_zret dL_goesFor_23 rfl y1, q⟩
theorem eL_areIndexed {G : k_G} {l : Launch} (hfl : l.flags = flags0) {h : k_H} {Q : k_H → k_R → Prop} {x0 : Option Nat} {x1 : Int32} {x2 : Int32} {x3 : Int32} (K : k_X (jL_areIndexed G l h) h 0 [(0, vR x0), (1, vI x1), (2, vI x2), (3, vI x3)] [] Q) : k_ct (tL_areIndexed G l) [vR x0, vI x1, vI x2, vI x3] h Q := by
  obtain ⟨h', r, K, q⟩ := K
  exact ⟨h', r, k_CtOf (by decide +kernel) (Nat.le_of_ble_eq_true rfl) K hfl, q⟩

theorem bL_areIndexed_0 {h0 h : k_H} {Q : k_H → k_R → Prop} {x0 : Nat} {x1 x2 x3 : Int32} (w : k_is h x0 14) {P : k_H → Int32 → Prop} (c : k_cti (tX11_value G l) [vR (some x0), vI x1, vI (-6), vI 0, vI 10000] h P) (K : ∀ h1 v, P h1 v → k_X (jL_areIndexed G l h0) h1 11 [(0, vR (some x0)), (1, vI x1), (2, vI x2), (3, vI x3)] [vI v] Q) : k_X (jL_areIndexed G l h0) h 0 [(0, vR (some x0)), (1, vI x1), (2, vI x2), (3, vI x3)] [] Q := by
  obtain ⟨h1, v, c, p⟩ := c
  obtain ⟨h', r, K, q⟩ := K h1 v p
  exact ⟨h', r, j_aload_n dL_areIndexed_0 rfl rfl <| j_iload_n dL_areIndexed_1 rfl rfl <| j_bipush (v := (-6)) dL_areIndexed_2 (by decide) <| j_iconst (v := 0) dL_areIndexed_4 (by decide) <| j_sipush (v := 10000) dL_areIndexed_5 (by decide) <| j_callV (v := some (vI v)) (as := [vI x1, vI (-6), vI 0, vI 10000]) dL_areIndexed_8 kc_L_42 rfl rfl w (by decide) (Nat.le_of_ble_eq_true rfl) c K, q⟩
theorem bL_areIndexed_0x {h0 h : k_H} {Q : k_H → k_R → Prop} {x0 : Nat} {x1 x2 x3 : Int32} (w : k_is h x0 14) {E : String} {P : k_H → Prop} (c : k_ctx (tX11_value G l) [vR (some x0), vI x1, vI (-6), vI 0, vI 10000] h E P) (q : ∀ h1, P h1 → Q h1 (.inr E)) : k_X (jL_areIndexed G l h0) h 0 [(0, vR (some x0)), (1, vI x1), (2, vI x2), (3, vI x3)] [] Q := by
  obtain ⟨h1, c, p⟩ := c
  exact ⟨h1, _, j_aload_n dL_areIndexed_0 rfl rfl <| j_iload_n dL_areIndexed_1 rfl rfl <| j_bipush (v := (-6)) dL_areIndexed_2 (by decide) <| j_iconst (v := 0) dL_areIndexed_4 (by decide) <| j_sipush (v := 10000) dL_areIndexed_5 (by decide) <| j_callVx (as := [vI x1, vI (-6), vI 0, vI 10000]) dL_areIndexed_8 kc_L_42 rfl rfl w (by decide) (Nat.le_of_ble_eq_true rfl) c, q h1 p⟩
theorem bL_areIndexed_11 {h0 h : k_H} {Q : k_H → k_R → Prop} {x0 : Nat} {x1 x2 x3 s0 : Int32} (w : k_is h x0 14) {P : k_H → Int32 → Prop} (c : k_cti (tX11_value G l) [vR (some x0), vI x1, vI (-6), vI 1, vI 10000] h P) (K : ∀ h1 v, P h1 v → k_X (jL_areIndexed G l h0) h1 24 [(0, vR (some x0)), (1, vI x1), (2, vI x2), (3, vI x3), (4, vI s0)] [vI v] Q) : k_X (jL_areIndexed G l h0) h 11 [(0, vR (some x0)), (1, vI x1), (2, vI x2), (3, vI x3)] [vI s0] Q := by
  obtain ⟨h1, v, c, p⟩ := c
  obtain ⟨h', r, K, q⟩ := K h1 v p
  exact ⟨h', r, j_istore dL_areIndexed_11 (by decide) rfl <| j_aload_n dL_areIndexed_13 rfl rfl <| j_iload_n dL_areIndexed_14 rfl rfl <| j_bipush (v := (-6)) dL_areIndexed_15 (by decide) <| j_iconst (v := 1) dL_areIndexed_17 (by decide) <| j_sipush (v := 10000) dL_areIndexed_18 (by decide) <| j_callV (v := some (vI v)) (as := [vI x1, vI (-6), vI 1, vI 10000]) dL_areIndexed_21 kc_L_42 rfl rfl w (by decide) (Nat.le_of_ble_eq_true rfl) c K, q⟩
theorem bL_areIndexed_11x {h0 h : k_H} {Q : k_H → k_R → Prop} {x0 : Nat} {x1 x2 x3 s0 : Int32} (w : k_is h x0 14) {E : String} {P : k_H → Prop} (c : k_ctx (tX11_value G l) [vR (some x0), vI x1, vI (-6), vI 1, vI 10000] h E P) (q : ∀ h1, P h1 → Q h1 (.inr E)) : k_X (jL_areIndexed G l h0) h 11 [(0, vR (some x0)), (1, vI x1), (2, vI x2), (3, vI x3)] [vI s0] Q := by
  obtain ⟨h1, c, p⟩ := c
  exact ⟨h1, _, j_istore dL_areIndexed_11 (by decide) rfl <| j_aload_n dL_areIndexed_13 rfl rfl <| j_iload_n dL_areIndexed_14 rfl rfl <| j_bipush (v := (-6)) dL_areIndexed_15 (by decide) <| j_iconst (v := 1) dL_areIndexed_17 (by decide) <| j_sipush (v := 10000) dL_areIndexed_18 (by decide) <| j_callVx (as := [vI x1, vI (-6), vI 1, vI 10000]) dL_areIndexed_21 kc_L_42 rfl rfl w (by decide) (Nat.le_of_ble_eq_true rfl) c, q h1 p⟩
theorem bL_areIndexed_24 {h0 h : k_H} {Q : k_H → k_R → Prop} {x0 : Nat} {x1 x2 x3 x4 s0 : Int32} (w : k_is h x0 14) {P : k_H → Int32 → Prop} (c : k_cti (tX11_value G l) [vR (some x0), vI x1, vI (-6), vI 2, vI 10000] h P) (K : ∀ h1 v, P h1 v → k_X (jL_areIndexed G l h0) h1 37 [(0, vR (some x0)), (1, vI x1), (2, vI x2), (3, vI x3), (4, vI x4), (5, vI s0)] [vI v] Q) : k_X (jL_areIndexed G l h0) h 24 [(0, vR (some x0)), (1, vI x1), (2, vI x2), (3, vI x3), (4, vI x4)] [vI s0] Q := by
  obtain ⟨h1, v, c, p⟩ := c
  obtain ⟨h', r, K, q⟩ := K h1 v p
  exact ⟨h', r, j_istore dL_areIndexed_24 (by decide) rfl <| j_aload_n dL_areIndexed_26 rfl rfl <| j_iload_n dL_areIndexed_27 rfl rfl <| j_bipush (v := (-6)) dL_areIndexed_28 (by decide) <| j_iconst (v := 2) dL_areIndexed_30 (by decide) <| j_sipush (v := 10000) dL_areIndexed_31 (by decide) <| j_callV (v := some (vI v)) (as := [vI x1, vI (-6), vI 2, vI 10000]) dL_areIndexed_34 kc_L_42 rfl rfl w (by decide) (Nat.le_of_ble_eq_true rfl) c K, q⟩
theorem bL_areIndexed_24x {h0 h : k_H} {Q : k_H → k_R → Prop} {x0 : Nat} {x1 x2 x3 x4 s0 : Int32} (w : k_is h x0 14) {E : String} {P : k_H → Prop} (c : k_ctx (tX11_value G l) [vR (some x0), vI x1, vI (-6), vI 2, vI 10000] h E P) (q : ∀ h1, P h1 → Q h1 (.inr E)) : k_X (jL_areIndexed G l h0) h 24 [(0, vR (some x0)), (1, vI x1), (2, vI x2), (3, vI x3), (4, vI x4)] [vI s0] Q := by
  obtain ⟨h1, c, p⟩ := c
  exact ⟨h1, _, j_istore dL_areIndexed_24 (by decide) rfl <| j_aload_n dL_areIndexed_26 rfl rfl <| j_iload_n dL_areIndexed_27 rfl rfl <| j_bipush (v := (-6)) dL_areIndexed_28 (by decide) <| j_iconst (v := 2) dL_areIndexed_30 (by decide) <| j_sipush (v := 10000) dL_areIndexed_31 (by decide) <| j_callVx (as := [vI x1, vI (-6), vI 2, vI 10000]) dL_areIndexed_34 kc_L_42 rfl rfl w (by decide) (Nat.le_of_ble_eq_true rfl) c, q h1 p⟩
theorem bL_areIndexed_37 {h0 h : k_H} {Q : k_H → k_R → Prop} {x0 : Option Nat} {x1 x2 x3 x4 x5 s0 : Int32} (K : k_X (jL_areIndexed G l h0) h 51 [(0, vR x0), (1, vI x1), (2, vI x2), (3, vI x3), (4, vI x4), (5, vI x5), (6, vI s0), (7, vI 0), (8, vI 0), (9, vI 0), (10, vI 0)] [] Q) : k_X (jL_areIndexed G l h0) h 37 [(0, vR x0), (1, vI x1), (2, vI x2), (3, vI x3), (4, vI x4), (5, vI x5)] [vI s0] Q := by
  obtain ⟨h', r, K, q⟩ := K
  exact ⟨h', r, j_istore dL_areIndexed_37 (by decide) rfl <| j_iconst (v := 0) dL_areIndexed_39 (by decide) <| j_istore dL_areIndexed_40 (by decide) rfl <| j_iconst (v := 0) dL_areIndexed_42 (by decide) <| j_istore dL_areIndexed_43 (by decide) rfl <| j_iconst (v := 0) dL_areIndexed_45 (by decide) <| j_istore dL_areIndexed_46 (by decide) rfl <| j_iconst (v := 0) dL_areIndexed_48 (by decide) <| j_istore dL_areIndexed_49 (by decide) rfl <| K, q⟩
theorem bL_areIndexed_51 {h0 h : k_H} {Q : k_H → k_R → Prop} {x0 : Option Nat} {x1 x2 x3 x4 x5 x6 x7 x8 x9 x10 : Int32} (K1 : 12 ≤ x10 → k_X (jL_areIndexed G l h0) h 205 [(0, vR x0), (1, vI x1), (2, vI x2), (3, vI x3), (5, vI x5), (7, vI x7), (8, vI x8), (9, vI x9)] [] Q) (K2 : ¬ (12 ≤ x10) → k_X (jL_areIndexed G l h0) h 58 [(0, vR x0), (1, vI x1), (2, vI x2), (3, vI x3), (4, vI x4), (5, vI x5), (6, vI x6), (7, vI x7), (8, vI x8), (9, vI x9), (10, vI x10)] [] Q) : k_X (jL_areIndexed G l h0) h 51 [(0, vR x0), (1, vI x1), (2, vI x2), (3, vI x3), (4, vI x4), (5, vI x5), (6, vI x6), (7, vI x7), (8, vI x8), (9, vI x9), (10, vI x10)] [] Q := by
  by_cases hc : 12 ≤ x10
  · skip
    obtain ⟨h', r, K, q⟩ := K1 hc
    exact ⟨h', r, j_iload dL_areIndexed_51 rfl <| j_bipush (v := 12) dL_areIndexed_53 (by decide) <| j_icmp_ge_t (tgt := 205) dL_areIndexed_55 (by decide) hc (j_pick [0, 1, 2, 3, 5, 7, 8, 9] rfl K), q⟩
  · skip
    obtain ⟨h', r, K, q⟩ := K2 hc
    exact ⟨h', r, j_iload dL_areIndexed_51 rfl <| j_bipush (v := 12) dL_areIndexed_53 (by decide) <| j_icmp_ge_f dL_areIndexed_55 205 (by decide) hc K, q⟩
theorem bL_areIndexed_58 {h0 h : k_H} {Q : k_H → k_R → Prop} {x0 : Nat} {x1 x2 x3 x4 x5 x6 x7 x8 x9 x10 : Int32} (w : k_is h x0 14) {P : k_H → Int32 → Prop} (c : k_cti (tX11_value G l) [vR (some x0), vI x1, vI (-1), vI x10, vI 10000] h P) (K : ∀ h1 v, P h1 v → k_X (jL_areIndexed G l h0) h1 69 [(0, vR (some x0)), (1, vI x1), (2, vI x2), (3, vI x3), (4, vI x4), (5, vI x5), (6, vI x6), (7, vI x7), (8, vI x8), (9, vI x9), (10, vI x10)] [vI v] Q) : k_X (jL_areIndexed G l h0) h 58 [(0, vR (some x0)), (1, vI x1), (2, vI x2), (3, vI x3), (4, vI x4), (5, vI x5), (6, vI x6), (7, vI x7), (8, vI x8), (9, vI x9), (10, vI x10)] [] Q := by
  obtain ⟨h1, v, c, p⟩ := c
  obtain ⟨h', r, K, q⟩ := K h1 v p
  exact ⟨h', r, j_aload_n dL_areIndexed_58 rfl rfl <| j_iload_n dL_areIndexed_59 rfl rfl <| j_iconst (v := (-1)) dL_areIndexed_60 (by decide) <| j_iload dL_areIndexed_61 rfl <| j_sipush (v := 10000) dL_areIndexed_63 (by decide) <| j_callV (v := some (vI v)) (as := [vI x1, vI (-1), vI x10, vI 10000]) dL_areIndexed_66 kc_L_42 rfl rfl w (by decide) (Nat.le_of_ble_eq_true rfl) c K, q⟩
theorem bL_areIndexed_58x {h0 h : k_H} {Q : k_H → k_R → Prop} {x0 : Nat} {x1 x2 x3 x4 x5 x6 x7 x8 x9 x10 : Int32} (w : k_is h x0 14) {E : String} {P : k_H → Prop} (c : k_ctx (tX11_value G l) [vR (some x0), vI x1, vI (-1), vI x10, vI 10000] h E P) (q : ∀ h1, P h1 → Q h1 (.inr E)) : k_X (jL_areIndexed G l h0) h 58 [(0, vR (some x0)), (1, vI x1), (2, vI x2), (3, vI x3), (4, vI x4), (5, vI x5), (6, vI x6), (7, vI x7), (8, vI x8), (9, vI x9), (10, vI x10)] [] Q := by
  obtain ⟨h1, c, p⟩ := c
  exact ⟨h1, _, j_aload_n dL_areIndexed_58 rfl rfl <| j_iload_n dL_areIndexed_59 rfl rfl <| j_iconst (v := (-1)) dL_areIndexed_60 (by decide) <| j_iload dL_areIndexed_61 rfl <| j_sipush (v := 10000) dL_areIndexed_63 (by decide) <| j_callVx (as := [vI x1, vI (-1), vI x10, vI 10000]) dL_areIndexed_66 kc_L_42 rfl rfl w (by decide) (Nat.le_of_ble_eq_true rfl) c, q h1 p⟩
theorem bL_areIndexed_69 {h0 h : k_H} {Q : k_H → k_R → Prop} {x0 : Option Nat} {x1 x2 x3 x4 x5 x6 x7 x8 x9 x10 s0 : Int32} (K1 : s0 = (-2147483648) → k_X (jL_areIndexed G l h0) h 82 [(0, vR x0), (1, vI x1), (2, vI x2), (3, vI x3), (4, vI x4), (5, vI x5), (6, vI x6), (7, vI x7), (8, vI x8), (9, vI x9), (10, vI x10), (11, vI s0)] [] Q) (K2 : ¬ (s0 = (-2147483648)) → k_X (jL_areIndexed G l h0) h 78 [(0, vR x0), (1, vI x1), (2, vI x2), (3, vI x3), (4, vI x4), (5, vI x5), (6, vI x6), (7, vI x7), (8, vI x8), (9, vI x9), (10, vI x10), (11, vI s0)] [] Q) : k_X (jL_areIndexed G l h0) h 69 [(0, vR x0), (1, vI x1), (2, vI x2), (3, vI x3), (4, vI x4), (5, vI x5), (6, vI x6), (7, vI x7), (8, vI x8), (9, vI x9), (10, vI x10)] [vI s0] Q := by
  by_cases hc : s0 = (-2147483648)
  · skip
    obtain ⟨h', r, K, q⟩ := K1 hc
    exact ⟨h', r, j_istore dL_areIndexed_69 (by decide) rfl <| j_iload dL_areIndexed_71 rfl <| j_ldc (v := (-2147483648)) dL_areIndexed_73 ki_L_159 <| j_icmp_eq_t (tgt := 82) dL_areIndexed_75 (by decide) hc K, q⟩
  · skip
    obtain ⟨h', r, K, q⟩ := K2 hc
    exact ⟨h', r, j_istore dL_areIndexed_69 (by decide) rfl <| j_iload dL_areIndexed_71 rfl <| j_ldc (v := (-2147483648)) dL_areIndexed_73 ki_L_159 <| j_icmp_eq_f dL_areIndexed_75 82 (by decide) hc K, q⟩
theorem bL_areIndexed_78 {h0 h : k_H} {Q : k_H → k_R → Prop} {x0 : Option Nat} {x1 x2 x3 x4 x5 x6 x7 x8 x9 x10 x11 : Int32} (K : k_X (jL_areIndexed G l h0) h 83 [(0, vR x0), (1, vI x1), (2, vI x2), (3, vI x3), (4, vI x4), (5, vI x5), (6, vI x6), (7, vI x7), (8, vI x8), (9, vI x9), (10, vI x10), (11, vI x11)] [vI 1] Q) : k_X (jL_areIndexed G l h0) h 78 [(0, vR x0), (1, vI x1), (2, vI x2), (3, vI x3), (4, vI x4), (5, vI x5), (6, vI x6), (7, vI x7), (8, vI x8), (9, vI x9), (10, vI x10), (11, vI x11)] [] Q := by
  obtain ⟨h', r, K, q⟩ := K
  exact ⟨h', r, j_iconst (v := 1) dL_areIndexed_78 (by decide) <| j_goto (tgt := 83) dL_areIndexed_79 (by decide) <| K, q⟩
theorem bL_areIndexed_82 {h0 h : k_H} {Q : k_H → k_R → Prop} {x0 : Option Nat} {x1 x2 x3 x4 x5 x6 x7 x8 x9 x10 x11 : Int32} (K : k_X (jL_areIndexed G l h0) h 83 [(0, vR x0), (1, vI x1), (2, vI x2), (3, vI x3), (4, vI x4), (5, vI x5), (6, vI x6), (7, vI x7), (8, vI x8), (9, vI x9), (10, vI x10), (11, vI x11)] [vI 0] Q) : k_X (jL_areIndexed G l h0) h 82 [(0, vR x0), (1, vI x1), (2, vI x2), (3, vI x3), (4, vI x4), (5, vI x5), (6, vI x6), (7, vI x7), (8, vI x8), (9, vI x9), (10, vI x10), (11, vI x11)] [] Q := by
  obtain ⟨h', r, K, q⟩ := K
  exact ⟨h', r, j_iconst (v := 0) dL_areIndexed_82 (by decide) <| K, q⟩
theorem bL_areIndexed_83 {h0 h : k_H} {Q : k_H → k_R → Prop} {x0 : Option Nat} {x1 x2 x3 x4 x5 x6 x7 x8 x9 x10 x11 s0 : Int32} (K1 : s0 = 0 → k_X (jL_areIndexed G l h0) h 96 [(0, vR x0), (1, vI x1), (2, vI x2), (3, vI x3), (4, vI x4), (5, vI x5), (6, vI x6), (8, vI x8), (9, vI x9), (10, vI x10), (11, vI x11), (12, vI s0)] [vI x7] Q) (K2 : ¬ (s0 = 0) → k_X (jL_areIndexed G l h0) h 92 [(0, vR x0), (1, vI x1), (2, vI x2), (3, vI x3), (4, vI x4), (5, vI x5), (6, vI x6), (8, vI x8), (9, vI x9), (10, vI x10), (11, vI x11), (12, vI s0)] [vI x7] Q) : k_X (jL_areIndexed G l h0) h 83 [(0, vR x0), (1, vI x1), (2, vI x2), (3, vI x3), (4, vI x4), (5, vI x5), (6, vI x6), (7, vI x7), (8, vI x8), (9, vI x9), (10, vI x10), (11, vI x11)] [vI s0] Q := by
  by_cases hc : s0 = 0
  · skip
    obtain ⟨h', r, K, q⟩ := K1 hc
    exact ⟨h', r, j_istore dL_areIndexed_83 (by decide) rfl <| j_iload dL_areIndexed_85 rfl <| j_iload dL_areIndexed_87 rfl <| j_if_eq_t (tgt := 96) dL_areIndexed_89 (by decide) hc (j_pick [0, 1, 2, 3, 4, 5, 6, 8, 9, 10, 11, 12] rfl K), q⟩
  · skip
    obtain ⟨h', r, K, q⟩ := K2 hc
    exact ⟨h', r, j_istore dL_areIndexed_83 (by decide) rfl <| j_iload dL_areIndexed_85 rfl <| j_iload dL_areIndexed_87 rfl <| j_if_eq_f dL_areIndexed_89 96 (by decide) hc (j_pick [0, 1, 2, 3, 4, 5, 6, 8, 9, 10, 11, 12] rfl K), q⟩
theorem bL_areIndexed_92 {h0 h : k_H} {Q : k_H → k_R → Prop} {x0 : Option Nat} {x1 x2 x3 x4 x5 x6 x8 x9 x10 x11 x12 s0 : Int32} (K : k_X (jL_areIndexed G l h0) h 97 [(0, vR x0), (1, vI x1), (2, vI x2), (3, vI x3), (4, vI x4), (5, vI x5), (6, vI x6), (8, vI x8), (9, vI x9), (10, vI x10), (11, vI x11), (12, vI x12)] [vI 1, vI s0] Q) : k_X (jL_areIndexed G l h0) h 92 [(0, vR x0), (1, vI x1), (2, vI x2), (3, vI x3), (4, vI x4), (5, vI x5), (6, vI x6), (8, vI x8), (9, vI x9), (10, vI x10), (11, vI x11), (12, vI x12)] [vI s0] Q := by
  obtain ⟨h', r, K, q⟩ := K
  exact ⟨h', r, j_iconst (v := 1) dL_areIndexed_92 (by decide) <| j_goto (tgt := 97) dL_areIndexed_93 (by decide) <| K, q⟩
theorem bL_areIndexed_96 {h0 h : k_H} {Q : k_H → k_R → Prop} {x0 : Option Nat} {x1 x2 x3 x4 x5 x6 x8 x9 x10 x11 x12 s0 : Int32} (K : k_X (jL_areIndexed G l h0) h 97 [(0, vR x0), (1, vI x1), (2, vI x2), (3, vI x3), (4, vI x4), (5, vI x5), (6, vI x6), (8, vI x8), (9, vI x9), (10, vI x10), (11, vI x11), (12, vI x12)] [vI 0, vI s0] Q) : k_X (jL_areIndexed G l h0) h 96 [(0, vR x0), (1, vI x1), (2, vI x2), (3, vI x3), (4, vI x4), (5, vI x5), (6, vI x6), (8, vI x8), (9, vI x9), (10, vI x10), (11, vI x11), (12, vI x12)] [vI s0] Q := by
  obtain ⟨h', r, K, q⟩ := K
  exact ⟨h', r, j_iconst (v := 0) dL_areIndexed_96 (by decide) <| K, q⟩
theorem bL_areIndexed_97 {h0 h : k_H} {Q : k_H → k_R → Prop} {x0 : Option Nat} {x1 x2 x3 x4 x5 x6 x8 x9 x10 x11 x12 s0 s1 : Int32} (K1 : x12 = 0 → k_X (jL_areIndexed G l h0) h 121 [(0, vR x0), (1, vI x1), (2, vI x2), (3, vI x3), (4, vI x4), (5, vI x5), (6, vI x6), (7, vI (s0 + s1)), (9, vI x9), (10, vI x10), (11, vI x11), (12, vI x12)] [vI x8] Q) (K2 : ¬ (x12 = 0) → k_X (jL_areIndexed G l h0) h 107 [(0, vR x0), (1, vI x1), (2, vI x2), (3, vI x3), (4, vI x4), (5, vI x5), (6, vI x6), (7, vI (s0 + s1)), (9, vI x9), (10, vI x10), (11, vI x11), (12, vI x12)] [vI x8] Q) : k_X (jL_areIndexed G l h0) h 97 [(0, vR x0), (1, vI x1), (2, vI x2), (3, vI x3), (4, vI x4), (5, vI x5), (6, vI x6), (8, vI x8), (9, vI x9), (10, vI x10), (11, vI x11), (12, vI x12)] [vI s1, vI s0] Q := by
  by_cases hc : x12 = 0
  · skip
    obtain ⟨h', r, K, q⟩ := K1 hc
    exact ⟨h', r, j_iadd dL_areIndexed_97 <| j_istore dL_areIndexed_98 (by decide) rfl <| j_iload dL_areIndexed_100 rfl <| j_iload dL_areIndexed_102 rfl <| j_if_eq_t (tgt := 121) dL_areIndexed_104 (by decide) hc (j_pick [0, 1, 2, 3, 4, 5, 6, 7, 9, 10, 11, 12] rfl K), q⟩
  · skip
    obtain ⟨h', r, K, q⟩ := K2 hc
    exact ⟨h', r, j_iadd dL_areIndexed_97 <| j_istore dL_areIndexed_98 (by decide) rfl <| j_iload dL_areIndexed_100 rfl <| j_iload dL_areIndexed_102 rfl <| j_if_eq_f dL_areIndexed_104 121 (by decide) hc (j_pick [0, 1, 2, 3, 4, 5, 6, 7, 9, 10, 11, 12] rfl K), q⟩
theorem bL_areIndexed_107 {h0 h : k_H} {Q : k_H → k_R → Prop} {x0 : Option Nat} {x1 x2 x3 x4 x5 x6 x7 x9 x10 x11 x12 s0 : Int32} {P : k_H → Int32 → Prop} (c : k_cti (tL_goesFor G l) [vI x4, vI x10] h P) (K : ∀ h1 v, P h1 v → k_X (jL_areIndexed G l h0) h1 114 [(0, vR x0), (1, vI x1), (2, vI x2), (3, vI x3), (4, vI x4), (5, vI x5), (6, vI x6), (7, vI x7), (9, vI x9), (10, vI x10), (11, vI x11), (12, vI x12)] [vI v, vI s0] Q) : k_X (jL_areIndexed G l h0) h 107 [(0, vR x0), (1, vI x1), (2, vI x2), (3, vI x3), (4, vI x4), (5, vI x5), (6, vI x6), (7, vI x7), (9, vI x9), (10, vI x10), (11, vI x11), (12, vI x12)] [vI s0] Q := by
  obtain ⟨h1, v, c, p⟩ := c
  obtain ⟨h', r, K, q⟩ := K h1 v p
  exact ⟨h', r, j_iload dL_areIndexed_107 rfl <| j_iload dL_areIndexed_109 rfl <| j_callS (v := some (vI v)) (as := [vI x4, vI x10]) dL_areIndexed_111 kc_L_160 rfl rfl (by decide) (Nat.le_of_ble_eq_true rfl) c K, q⟩
theorem bL_areIndexed_114 {h0 h : k_H} {Q : k_H → k_R → Prop} {x0 : Option Nat} {x1 x2 x3 x4 x5 x6 x7 x9 x10 x11 x12 s0 s1 : Int32} (K1 : s1 = 0 → k_X (jL_areIndexed G l h0) h 121 [(0, vR x0), (1, vI x1), (2, vI x2), (3, vI x3), (4, vI x4), (5, vI x5), (6, vI x6), (7, vI x7), (9, vI x9), (10, vI x10), (11, vI x11), (12, vI x12)] [vI s0] Q) (K2 : ¬ (s1 = 0) → k_X (jL_areIndexed G l h0) h 117 [(0, vR x0), (1, vI x1), (2, vI x2), (3, vI x3), (4, vI x4), (5, vI x5), (6, vI x6), (7, vI x7), (9, vI x9), (10, vI x10), (11, vI x11), (12, vI x12)] [vI s0] Q) : k_X (jL_areIndexed G l h0) h 114 [(0, vR x0), (1, vI x1), (2, vI x2), (3, vI x3), (4, vI x4), (5, vI x5), (6, vI x6), (7, vI x7), (9, vI x9), (10, vI x10), (11, vI x11), (12, vI x12)] [vI s1, vI s0] Q := by
  by_cases hc : s1 = 0
  · skip
    obtain ⟨h', r, K, q⟩ := K1 hc
    exact ⟨h', r, j_if_eq_t (tgt := 121) dL_areIndexed_114 (by decide) hc K, q⟩
  · skip
    obtain ⟨h', r, K, q⟩ := K2 hc
    exact ⟨h', r, j_if_eq_f dL_areIndexed_114 121 (by decide) hc K, q⟩
theorem bL_areIndexed_117 {h0 h : k_H} {Q : k_H → k_R → Prop} {x0 : Option Nat} {x1 x2 x3 x4 x5 x6 x7 x9 x10 x11 x12 s0 : Int32} (K : k_X (jL_areIndexed G l h0) h 122 [(0, vR x0), (1, vI x1), (2, vI x2), (3, vI x3), (4, vI x4), (5, vI x5), (6, vI x6), (7, vI x7), (9, vI x9), (10, vI x10), (11, vI x11), (12, vI x12)] [vI 1, vI s0] Q) : k_X (jL_areIndexed G l h0) h 117 [(0, vR x0), (1, vI x1), (2, vI x2), (3, vI x3), (4, vI x4), (5, vI x5), (6, vI x6), (7, vI x7), (9, vI x9), (10, vI x10), (11, vI x11), (12, vI x12)] [vI s0] Q := by
  obtain ⟨h', r, K, q⟩ := K
  exact ⟨h', r, j_iconst (v := 1) dL_areIndexed_117 (by decide) <| j_goto (tgt := 122) dL_areIndexed_118 (by decide) <| K, q⟩
theorem bL_areIndexed_121 {h0 h : k_H} {Q : k_H → k_R → Prop} {x0 : Option Nat} {x1 x2 x3 x4 x5 x6 x7 x9 x10 x11 x12 s0 : Int32} (K : k_X (jL_areIndexed G l h0) h 122 [(0, vR x0), (1, vI x1), (2, vI x2), (3, vI x3), (4, vI x4), (5, vI x5), (6, vI x6), (7, vI x7), (9, vI x9), (10, vI x10), (11, vI x11), (12, vI x12)] [vI 0, vI s0] Q) : k_X (jL_areIndexed G l h0) h 121 [(0, vR x0), (1, vI x1), (2, vI x2), (3, vI x3), (4, vI x4), (5, vI x5), (6, vI x6), (7, vI x7), (9, vI x9), (10, vI x10), (11, vI x11), (12, vI x12)] [vI s0] Q := by
  obtain ⟨h', r, K, q⟩ := K
  exact ⟨h', r, j_iconst (v := 0) dL_areIndexed_121 (by decide) <| K, q⟩
theorem bL_areIndexed_122 {h0 h : k_H} {Q : k_H → k_R → Prop} {x0 : Option Nat} {x1 x2 x3 x4 x5 x6 x7 x9 x10 x11 x12 s0 s1 : Int32} (K1 : x12 = 0 → k_X (jL_areIndexed G l h0) h 146 [(0, vR x0), (1, vI x1), (2, vI x2), (3, vI x3), (4, vI x4), (5, vI x5), (6, vI x6), (7, vI x7), (8, vI (s0 + s1)), (10, vI x10), (11, vI x11), (12, vI x12)] [vI x9] Q) (K2 : ¬ (x12 = 0) → k_X (jL_areIndexed G l h0) h 132 [(0, vR x0), (1, vI x1), (2, vI x2), (3, vI x3), (4, vI x4), (5, vI x5), (6, vI x6), (7, vI x7), (8, vI (s0 + s1)), (10, vI x10), (11, vI x11), (12, vI x12)] [vI x9] Q) : k_X (jL_areIndexed G l h0) h 122 [(0, vR x0), (1, vI x1), (2, vI x2), (3, vI x3), (4, vI x4), (5, vI x5), (6, vI x6), (7, vI x7), (9, vI x9), (10, vI x10), (11, vI x11), (12, vI x12)] [vI s1, vI s0] Q := by
  by_cases hc : x12 = 0
  · skip
    obtain ⟨h', r, K, q⟩ := K1 hc
    exact ⟨h', r, j_iadd dL_areIndexed_122 <| j_istore dL_areIndexed_123 (by decide) rfl <| j_iload dL_areIndexed_125 rfl <| j_iload dL_areIndexed_127 rfl <| j_if_eq_t (tgt := 146) dL_areIndexed_129 (by decide) hc (j_pick [0, 1, 2, 3, 4, 5, 6, 7, 8, 10, 11, 12] rfl K), q⟩
  · skip
    obtain ⟨h', r, K, q⟩ := K2 hc
    exact ⟨h', r, j_iadd dL_areIndexed_122 <| j_istore dL_areIndexed_123 (by decide) rfl <| j_iload dL_areIndexed_125 rfl <| j_iload dL_areIndexed_127 rfl <| j_if_eq_f dL_areIndexed_129 146 (by decide) hc (j_pick [0, 1, 2, 3, 4, 5, 6, 7, 8, 10, 11, 12] rfl K), q⟩
theorem bL_areIndexed_132 {h0 h : k_H} {Q : k_H → k_R → Prop} {x0 : Option Nat} {x1 x2 x3 x4 x5 x6 x7 x8 x10 x11 x12 s0 : Int32} {P : k_H → Int32 → Prop} (c : k_cti (tL_goesFor G l) [vI x6, vI x10] h P) (K : ∀ h1 v, P h1 v → k_X (jL_areIndexed G l h0) h1 139 [(0, vR x0), (1, vI x1), (2, vI x2), (3, vI x3), (4, vI x4), (5, vI x5), (6, vI x6), (7, vI x7), (8, vI x8), (10, vI x10), (11, vI x11), (12, vI x12)] [vI v, vI s0] Q) : k_X (jL_areIndexed G l h0) h 132 [(0, vR x0), (1, vI x1), (2, vI x2), (3, vI x3), (4, vI x4), (5, vI x5), (6, vI x6), (7, vI x7), (8, vI x8), (10, vI x10), (11, vI x11), (12, vI x12)] [vI s0] Q := by
  obtain ⟨h1, v, c, p⟩ := c
  obtain ⟨h', r, K, q⟩ := K h1 v p
  exact ⟨h', r, j_iload dL_areIndexed_132 rfl <| j_iload dL_areIndexed_134 rfl <| j_callS (v := some (vI v)) (as := [vI x6, vI x10]) dL_areIndexed_136 kc_L_160 rfl rfl (by decide) (Nat.le_of_ble_eq_true rfl) c K, q⟩
theorem bL_areIndexed_139 {h0 h : k_H} {Q : k_H → k_R → Prop} {x0 : Option Nat} {x1 x2 x3 x4 x5 x6 x7 x8 x10 x11 x12 s0 s1 : Int32} (K1 : s1 = 0 → k_X (jL_areIndexed G l h0) h 146 [(0, vR x0), (1, vI x1), (2, vI x2), (3, vI x3), (4, vI x4), (5, vI x5), (6, vI x6), (7, vI x7), (8, vI x8), (10, vI x10), (11, vI x11), (12, vI x12)] [vI s0] Q) (K2 : ¬ (s1 = 0) → k_X (jL_areIndexed G l h0) h 142 [(0, vR x0), (1, vI x1), (2, vI x2), (3, vI x3), (4, vI x4), (5, vI x5), (6, vI x6), (7, vI x7), (8, vI x8), (10, vI x10), (11, vI x11), (12, vI x12)] [vI s0] Q) : k_X (jL_areIndexed G l h0) h 139 [(0, vR x0), (1, vI x1), (2, vI x2), (3, vI x3), (4, vI x4), (5, vI x5), (6, vI x6), (7, vI x7), (8, vI x8), (10, vI x10), (11, vI x11), (12, vI x12)] [vI s1, vI s0] Q := by
  by_cases hc : s1 = 0
  · skip
    obtain ⟨h', r, K, q⟩ := K1 hc
    exact ⟨h', r, j_if_eq_t (tgt := 146) dL_areIndexed_139 (by decide) hc K, q⟩
  · skip
    obtain ⟨h', r, K, q⟩ := K2 hc
    exact ⟨h', r, j_if_eq_f dL_areIndexed_139 146 (by decide) hc K, q⟩
theorem bL_areIndexed_142 {h0 h : k_H} {Q : k_H → k_R → Prop} {x0 : Option Nat} {x1 x2 x3 x4 x5 x6 x7 x8 x10 x11 x12 s0 : Int32} (K : k_X (jL_areIndexed G l h0) h 147 [(0, vR x0), (1, vI x1), (2, vI x2), (3, vI x3), (4, vI x4), (5, vI x5), (6, vI x6), (7, vI x7), (8, vI x8), (10, vI x10), (11, vI x11), (12, vI x12)] [vI 1, vI s0] Q) : k_X (jL_areIndexed G l h0) h 142 [(0, vR x0), (1, vI x1), (2, vI x2), (3, vI x3), (4, vI x4), (5, vI x5), (6, vI x6), (7, vI x7), (8, vI x8), (10, vI x10), (11, vI x11), (12, vI x12)] [vI s0] Q := by
  obtain ⟨h', r, K, q⟩ := K
  exact ⟨h', r, j_iconst (v := 1) dL_areIndexed_142 (by decide) <| j_goto (tgt := 147) dL_areIndexed_143 (by decide) <| K, q⟩
theorem bL_areIndexed_146 {h0 h : k_H} {Q : k_H → k_R → Prop} {x0 : Option Nat} {x1 x2 x3 x4 x5 x6 x7 x8 x10 x11 x12 s0 : Int32} (K : k_X (jL_areIndexed G l h0) h 147 [(0, vR x0), (1, vI x1), (2, vI x2), (3, vI x3), (4, vI x4), (5, vI x5), (6, vI x6), (7, vI x7), (8, vI x8), (10, vI x10), (11, vI x11), (12, vI x12)] [vI 0, vI s0] Q) : k_X (jL_areIndexed G l h0) h 146 [(0, vR x0), (1, vI x1), (2, vI x2), (3, vI x3), (4, vI x4), (5, vI x5), (6, vI x6), (7, vI x7), (8, vI x8), (10, vI x10), (11, vI x11), (12, vI x12)] [vI s0] Q := by
  obtain ⟨h', r, K, q⟩ := K
  exact ⟨h', r, j_iconst (v := 0) dL_areIndexed_146 (by decide) <| K, q⟩
theorem bL_areIndexed_147 {h0 h : k_H} {Q : k_H → k_R → Prop} {x0 : Option Nat} {x1 x2 x3 x4 x5 x6 x7 x8 x10 x11 x12 s0 s1 : Int32} (K1 : x12 = 0 → k_X (jL_areIndexed G l h0) h 199 [(0, vR x0), (1, vI x1), (2, vI x2), (3, vI x3), (4, vI x4), (5, vI x5), (6, vI x6), (7, vI x7), (8, vI x8), (9, vI (s0 + s1)), (10, vI x10)] [] Q) (K2 : ¬ (x12 = 0) → k_X (jL_areIndexed G l h0) h 155 [(0, vR x0), (1, vI x1), (2, vI x2), (3, vI x3), (4, vI x4), (5, vI x5), (6, vI x6), (7, vI x7), (8, vI x8), (9, vI (s0 + s1)), (10, vI x10), (11, vI x11)] [] Q) : k_X (jL_areIndexed G l h0) h 147 [(0, vR x0), (1, vI x1), (2, vI x2), (3, vI x3), (4, vI x4), (5, vI x5), (6, vI x6), (7, vI x7), (8, vI x8), (10, vI x10), (11, vI x11), (12, vI x12)] [vI s1, vI s0] Q := by
  by_cases hc : x12 = 0
  · skip
    obtain ⟨h', r, K, q⟩ := K1 hc
    exact ⟨h', r, j_iadd dL_areIndexed_147 <| j_istore dL_areIndexed_148 (by decide) rfl <| j_iload dL_areIndexed_150 rfl <| j_if_eq_t (tgt := 199) dL_areIndexed_152 (by decide) hc (j_pick [0, 1, 2, 3, 4, 5, 6, 7, 8, 9, 10] rfl K), q⟩
  · skip
    obtain ⟨h', r, K, q⟩ := K2 hc
    exact ⟨h', r, j_iadd dL_areIndexed_147 <| j_istore dL_areIndexed_148 (by decide) rfl <| j_iload dL_areIndexed_150 rfl <| j_if_eq_f dL_areIndexed_152 199 (by decide) hc (j_pick [0, 1, 2, 3, 4, 5, 6, 7, 8, 9, 10, 11] rfl K), q⟩
theorem bL_areIndexed_155 {h0 h : k_H} {Q : k_H → k_R → Prop} {x0 : Option Nat} {x1 x2 x3 x4 x5 x6 x7 x8 x9 x10 x11 : Int32} (K1 : x11 < 0 → k_X (jL_areIndexed G l h0) h 197 [] [] Q) (K2 : ¬ (x11 < 0) → k_X (jL_areIndexed G l h0) h 160 [(0, vR x0), (1, vI x1), (2, vI x2), (3, vI x3), (4, vI x4), (5, vI x5), (6, vI x6), (7, vI x7), (8, vI x8), (9, vI x9), (10, vI x10), (11, vI x11)] [] Q) : k_X (jL_areIndexed G l h0) h 155 [(0, vR x0), (1, vI x1), (2, vI x2), (3, vI x3), (4, vI x4), (5, vI x5), (6, vI x6), (7, vI x7), (8, vI x8), (9, vI x9), (10, vI x10), (11, vI x11)] [] Q := by
  by_cases hc : x11 < 0
  · skip
    obtain ⟨h', r, K, q⟩ := K1 hc
    exact ⟨h', r, j_iload dL_areIndexed_155 rfl <| j_if_lt_t (tgt := 197) dL_areIndexed_157 (by decide) hc (j_pick [] rfl K), q⟩
  · skip
    obtain ⟨h', r, K, q⟩ := K2 hc
    exact ⟨h', r, j_iload dL_areIndexed_155 rfl <| j_if_lt_f dL_areIndexed_157 197 (by decide) hc K, q⟩
theorem bL_areIndexed_160 {h0 h : k_H} {Q : k_H → k_R → Prop} {x0 : Option Nat} {x1 x2 x3 x4 x5 x6 x7 x8 x9 x10 x11 : Int32} (K1 : 99 < x11 → k_X (jL_areIndexed G l h0) h 197 [] [] Q) (K2 : ¬ (99 < x11) → k_X (jL_areIndexed G l h0) h 167 [(0, vR x0), (1, vI x1), (2, vI x2), (3, vI x3), (4, vI x4), (5, vI x5), (6, vI x6), (7, vI x7), (8, vI x8), (9, vI x9), (10, vI x10), (11, vI x11)] [] Q) : k_X (jL_areIndexed G l h0) h 160 [(0, vR x0), (1, vI x1), (2, vI x2), (3, vI x3), (4, vI x4), (5, vI x5), (6, vI x6), (7, vI x7), (8, vI x8), (9, vI x9), (10, vI x10), (11, vI x11)] [] Q := by
  by_cases hc : 99 < x11
  · skip
    obtain ⟨h', r, K, q⟩ := K1 hc
    exact ⟨h', r, j_iload dL_areIndexed_160 rfl <| j_bipush (v := 99) dL_areIndexed_162 (by decide) <| j_icmp_gt_t (tgt := 197) dL_areIndexed_164 (by decide) hc (j_pick [] rfl K), q⟩
  · skip
    obtain ⟨h', r, K, q⟩ := K2 hc
    exact ⟨h', r, j_iload dL_areIndexed_160 rfl <| j_bipush (v := 99) dL_areIndexed_162 (by decide) <| j_icmp_gt_f dL_areIndexed_164 197 (by decide) hc K, q⟩
theorem bL_areIndexed_167 {h0 h : k_H} {Q : k_H → k_R → Prop} {x0 : Nat} {x1 x2 x3 x4 x5 x6 x7 x8 x9 x10 x11 : Int32} (w : k_is h x0 14) {P : k_H → Int32 → Prop} (c : k_cti (tX11_value G l) [vR (some x0), vI x1, vI (-2), vI x11, vI x10] h P) (K : ∀ h1 v, P h1 v → k_X (jL_areIndexed G l h0) h1 178 [(0, vR (some x0)), (1, vI x1), (2, vI x2), (3, vI x3), (4, vI x4), (5, vI x5), (6, vI x6), (7, vI x7), (8, vI x8), (9, vI x9), (10, vI x10)] [vI v] Q) : k_X (jL_areIndexed G l h0) h 167 [(0, vR (some x0)), (1, vI x1), (2, vI x2), (3, vI x3), (4, vI x4), (5, vI x5), (6, vI x6), (7, vI x7), (8, vI x8), (9, vI x9), (10, vI x10), (11, vI x11)] [] Q := by
  obtain ⟨h1, v, c, p⟩ := c
  obtain ⟨h', r, K, q⟩ := K h1 v p
  exact ⟨h', r, j_aload_n dL_areIndexed_167 rfl rfl <| j_iload_n dL_areIndexed_168 rfl rfl <| j_bipush (v := (-2)) dL_areIndexed_169 (by decide) <| j_iload dL_areIndexed_171 rfl <| j_iload dL_areIndexed_173 rfl <| j_callV (v := some (vI v)) (as := [vI x1, vI (-2), vI x11, vI x10]) dL_areIndexed_175 kc_L_42 rfl rfl w (by decide) (Nat.le_of_ble_eq_true rfl) c (j_pick [0, 1, 2, 3, 4, 5, 6, 7, 8, 9, 10] rfl K), q⟩
theorem bL_areIndexed_167x {h0 h : k_H} {Q : k_H → k_R → Prop} {x0 : Nat} {x1 x2 x3 x4 x5 x6 x7 x8 x9 x10 x11 : Int32} (w : k_is h x0 14) {E : String} {P : k_H → Prop} (c : k_ctx (tX11_value G l) [vR (some x0), vI x1, vI (-2), vI x11, vI x10] h E P) (q : ∀ h1, P h1 → Q h1 (.inr E)) : k_X (jL_areIndexed G l h0) h 167 [(0, vR (some x0)), (1, vI x1), (2, vI x2), (3, vI x3), (4, vI x4), (5, vI x5), (6, vI x6), (7, vI x7), (8, vI x8), (9, vI x9), (10, vI x10), (11, vI x11)] [] Q := by
  obtain ⟨h1, c, p⟩ := c
  exact ⟨h1, _, j_aload_n dL_areIndexed_167 rfl rfl <| j_iload_n dL_areIndexed_168 rfl rfl <| j_bipush (v := (-2)) dL_areIndexed_169 (by decide) <| j_iload dL_areIndexed_171 rfl <| j_iload dL_areIndexed_173 rfl <| j_callVx (as := [vI x1, vI (-2), vI x11, vI x10]) dL_areIndexed_175 kc_L_42 rfl rfl w (by decide) (Nat.le_of_ble_eq_true rfl) c, q h1 p⟩
theorem bL_areIndexed_178 {h0 h : k_H} {Q : k_H → k_R → Prop} {x0 : Option Nat} {x1 x2 x3 x4 x5 x6 x7 x8 x9 x10 s0 : Int32} {P : k_H → Int32 → Prop} (c : k_cti (tL_goesFor G l) [vI x4, vI x10] h P) (K : ∀ h1 v, P h1 v → k_X (jL_areIndexed G l h0) h1 185 [(0, vR x0), (1, vI x1), (2, vI x2), (3, vI x3), (4, vI x4), (5, vI x5), (6, vI x6), (7, vI x7), (8, vI x8), (9, vI x9), (10, vI x10)] [vI v, vI s0] Q) : k_X (jL_areIndexed G l h0) h 178 [(0, vR x0), (1, vI x1), (2, vI x2), (3, vI x3), (4, vI x4), (5, vI x5), (6, vI x6), (7, vI x7), (8, vI x8), (9, vI x9), (10, vI x10)] [vI s0] Q := by
  obtain ⟨h1, v, c, p⟩ := c
  obtain ⟨h', r, K, q⟩ := K h1 v p
  exact ⟨h', r, j_iload dL_areIndexed_178 rfl <| j_iload dL_areIndexed_180 rfl <| j_callS (v := some (vI v)) (as := [vI x4, vI x10]) dL_areIndexed_182 kc_L_160 rfl rfl (by decide) (Nat.le_of_ble_eq_true rfl) c K, q⟩
theorem bL_areIndexed_185 {h0 h : k_H} {Q : k_H → k_R → Prop} {x0 : Option Nat} {x1 x2 x3 x4 x5 x6 x7 x8 x9 x10 s0 s1 : Int32} (K1 : s1 = 0 → k_X (jL_areIndexed G l h0) h 192 [(0, vR x0), (1, vI x1), (2, vI x2), (3, vI x3), (4, vI x4), (5, vI x5), (6, vI x6), (7, vI x7), (8, vI x8), (9, vI x9), (10, vI x10)] [vI s0] Q) (K2 : ¬ (s1 = 0) → k_X (jL_areIndexed G l h0) h 188 [(0, vR x0), (1, vI x1), (2, vI x2), (3, vI x3), (4, vI x4), (5, vI x5), (6, vI x6), (7, vI x7), (8, vI x8), (9, vI x9), (10, vI x10)] [vI s0] Q) : k_X (jL_areIndexed G l h0) h 185 [(0, vR x0), (1, vI x1), (2, vI x2), (3, vI x3), (4, vI x4), (5, vI x5), (6, vI x6), (7, vI x7), (8, vI x8), (9, vI x9), (10, vI x10)] [vI s1, vI s0] Q := by
  by_cases hc : s1 = 0
  · skip
    obtain ⟨h', r, K, q⟩ := K1 hc
    exact ⟨h', r, j_if_eq_t (tgt := 192) dL_areIndexed_185 (by decide) hc K, q⟩
  · skip
    obtain ⟨h', r, K, q⟩ := K2 hc
    exact ⟨h', r, j_if_eq_f dL_areIndexed_185 192 (by decide) hc K, q⟩
theorem bL_areIndexed_188 {h0 h : k_H} {Q : k_H → k_R → Prop} {x0 : Option Nat} {x1 x2 x3 x4 x5 x6 x7 x8 x9 x10 s0 : Int32} (K : k_X (jL_areIndexed G l h0) h 194 [(0, vR x0), (1, vI x1), (2, vI x2), (3, vI x3), (4, vI x4), (5, vI x5), (6, vI x6), (7, vI x7), (8, vI x8), (9, vI x9), (10, vI x10)] [vI 0, vI s0] Q) : k_X (jL_areIndexed G l h0) h 188 [(0, vR x0), (1, vI x1), (2, vI x2), (3, vI x3), (4, vI x4), (5, vI x5), (6, vI x6), (7, vI x7), (8, vI x8), (9, vI x9), (10, vI x10)] [vI s0] Q := by
  obtain ⟨h', r, K, q⟩ := K
  exact ⟨h', r, j_iconst (v := 0) dL_areIndexed_188 (by decide) <| j_goto (tgt := 194) dL_areIndexed_189 (by decide) <| K, q⟩
theorem bL_areIndexed_192 {h0 h : k_H} {Q : k_H → k_R → Prop} {x0 : Option Nat} {x1 x2 x3 x4 x5 x6 x7 x8 x9 x10 s0 : Int32} (K : k_X (jL_areIndexed G l h0) h 194 [(0, vR x0), (1, vI x1), (2, vI x2), (3, vI x3), (4, vI x4), (5, vI x5), (6, vI x6), (7, vI x7), (8, vI x8), (9, vI x9), (10, vI x10)] [vI (-2147483648), vI s0] Q) : k_X (jL_areIndexed G l h0) h 192 [(0, vR x0), (1, vI x1), (2, vI x2), (3, vI x3), (4, vI x4), (5, vI x5), (6, vI x6), (7, vI x7), (8, vI x8), (9, vI x9), (10, vI x10)] [vI s0] Q := by
  obtain ⟨h', r, K, q⟩ := K
  exact ⟨h', r, j_ldc (v := (-2147483648)) dL_areIndexed_192 ki_L_159 <| K, q⟩
theorem bL_areIndexed_194 {h0 h : k_H} {Q : k_H → k_R → Prop} {x0 : Option Nat} {x1 x2 x3 x4 x5 x6 x7 x8 x9 x10 s0 s1 : Int32} (K1 : s0 = s1 → k_X (jL_areIndexed G l h0) h 199 [(0, vR x0), (1, vI x1), (2, vI x2), (3, vI x3), (4, vI x4), (5, vI x5), (6, vI x6), (7, vI x7), (8, vI x8), (9, vI x9), (10, vI x10)] [] Q) (K2 : ¬ (s0 = s1) → k_X (jL_areIndexed G l h0) h 197 [] [] Q) : k_X (jL_areIndexed G l h0) h 194 [(0, vR x0), (1, vI x1), (2, vI x2), (3, vI x3), (4, vI x4), (5, vI x5), (6, vI x6), (7, vI x7), (8, vI x8), (9, vI x9), (10, vI x10)] [vI s1, vI s0] Q := by
  by_cases hc : s0 = s1
  · skip
    obtain ⟨h', r, K, q⟩ := K1 hc
    exact ⟨h', r, j_icmp_eq_t (tgt := 199) dL_areIndexed_194 (by decide) hc K, q⟩
  · skip
    obtain ⟨h', r, K, q⟩ := K2 hc
    exact ⟨h', r, j_icmp_eq_f dL_areIndexed_194 199 (by decide) hc (j_pick [] rfl K), q⟩
theorem bL_areIndexed_197 {h0 h : k_H} {Q : k_H → k_R → Prop} (q : Q h (.inl (some (vI 0)))) : k_X (jL_areIndexed G l h0) h 197 [] [] Q := by
  exact ⟨_, _, j_iconst (v := 0) dL_areIndexed_197 (by decide) <| j_zret dL_areIndexed_198 rfl (by decide), q⟩
theorem bL_areIndexed_199 {h0 h : k_H} {Q : k_H → k_R → Prop} {x0 : Option Nat} {x1 x2 x3 x4 x5 x6 x7 x8 x9 x10 : Int32} (K : k_X (jL_areIndexed G l h0) h 51 [(0, vR x0), (1, vI x1), (2, vI x2), (3, vI x3), (4, vI x4), (5, vI x5), (6, vI x6), (7, vI x7), (8, vI x8), (9, vI x9), (10, vI (x10 + 1))] [] Q) : k_X (jL_areIndexed G l h0) h 199 [(0, vR x0), (1, vI x1), (2, vI x2), (3, vI x3), (4, vI x4), (5, vI x5), (6, vI x6), (7, vI x7), (8, vI x8), (9, vI x9), (10, vI x10)] [] Q := by
  obtain ⟨h', r, K, q⟩ := K
  exact ⟨h', r, j_iinc (v := x10 + 1) dL_areIndexed_199 rfl (by decide) rfl rfl <| j_goto (tgt := 51) dL_areIndexed_202 (by decide) <| K, q⟩
theorem bL_areIndexed_205 {h0 h : k_H} {Q : k_H → k_R → Prop} {x0 : Nat} {x1 x2 x3 x5 x7 x8 x9 : Int32} (w : k_is h x0 14) {P : k_H → Int32 → Prop} (c : k_cti (tX11_begin G l) [vR (some x0), vI 3, vI 0] h P) (K : ∀ h1 v, P h1 v → k_X (jL_areIndexed G l h0) h1 211 [(0, vR (some x0)), (1, vI x1), (2, vI x2), (3, vI x3), (5, vI x5), (7, vI x7), (8, vI x8), (9, vI x9)] [vI v] Q) : k_X (jL_areIndexed G l h0) h 205 [(0, vR (some x0)), (1, vI x1), (2, vI x2), (3, vI x3), (5, vI x5), (7, vI x7), (8, vI x8), (9, vI x9)] [] Q := by
  obtain ⟨h1, v, c, p⟩ := c
  obtain ⟨h', r, K, q⟩ := K h1 v p
  exact ⟨h', r, j_aload_n dL_areIndexed_205 rfl rfl <| j_iconst (v := 3) dL_areIndexed_206 (by decide) <| j_iconst (v := 0) dL_areIndexed_207 (by decide) <| j_callV (v := some (vI v)) (as := [vI 3, vI 0]) dL_areIndexed_208 kc_L_9 rfl rfl w (by decide) (Nat.le_of_ble_eq_true rfl) c K, q⟩
theorem bL_areIndexed_205x {h0 h : k_H} {Q : k_H → k_R → Prop} {x0 : Nat} {x1 x2 x3 x5 x7 x8 x9 : Int32} (w : k_is h x0 14) {E : String} {P : k_H → Prop} (c : k_ctx (tX11_begin G l) [vR (some x0), vI 3, vI 0] h E P) (q : ∀ h1, P h1 → Q h1 (.inr E)) : k_X (jL_areIndexed G l h0) h 205 [(0, vR (some x0)), (1, vI x1), (2, vI x2), (3, vI x3), (5, vI x5), (7, vI x7), (8, vI x8), (9, vI x9)] [] Q := by
  obtain ⟨h1, c, p⟩ := c
  exact ⟨h1, _, j_aload_n dL_areIndexed_205 rfl rfl <| j_iconst (v := 3) dL_areIndexed_206 (by decide) <| j_iconst (v := 0) dL_areIndexed_207 (by decide) <| j_callVx (as := [vI 3, vI 0]) dL_areIndexed_208 kc_L_9 rfl rfl w (by decide) (Nat.le_of_ble_eq_true rfl) c, q h1 p⟩
theorem bL_areIndexed_211 {h0 h : k_H} {Q : k_H → k_R → Prop} {x0 : Nat} {x1 x2 x3 x5 x7 x8 x9 s0 : Int32} (w : k_is h x0 14) {P : k_H → Int32 → Prop} (c : k_cti (tX11_range G l) [vR (some x0), vI 3, vI (-1), vI 10000, vI 0] h P) (K : ∀ h1 v, P h1 v → k_X (jL_areIndexed G l h0) h1 222 [(0, vR (some x0)), (1, vI x1), (2, vI x2), (3, vI x3), (5, vI x5), (7, vI x7), (8, vI x8), (9, vI x9)] [vI v] Q) : k_X (jL_areIndexed G l h0) h 211 [(0, vR (some x0)), (1, vI x1), (2, vI x2), (3, vI x3), (5, vI x5), (7, vI x7), (8, vI x8), (9, vI x9)] [vI s0] Q := by
  obtain ⟨h1, v, c, p⟩ := c
  obtain ⟨h', r, K, q⟩ := K h1 v p
  exact ⟨h', r, j_pop dL_areIndexed_211 rfl <| j_aload_n dL_areIndexed_212 rfl rfl <| j_iconst (v := 3) dL_areIndexed_213 (by decide) <| j_iconst (v := (-1)) dL_areIndexed_214 (by decide) <| j_sipush (v := 10000) dL_areIndexed_215 (by decide) <| j_iconst (v := 0) dL_areIndexed_218 (by decide) <| j_callV (v := some (vI v)) (as := [vI 3, vI (-1), vI 10000, vI 0]) dL_areIndexed_219 kc_L_19 rfl rfl w (by decide) (Nat.le_of_ble_eq_true rfl) c K, q⟩
theorem bL_areIndexed_211x {h0 h : k_H} {Q : k_H → k_R → Prop} {x0 : Nat} {x1 x2 x3 x5 x7 x8 x9 s0 : Int32} (w : k_is h x0 14) {E : String} {P : k_H → Prop} (c : k_ctx (tX11_range G l) [vR (some x0), vI 3, vI (-1), vI 10000, vI 0] h E P) (q : ∀ h1, P h1 → Q h1 (.inr E)) : k_X (jL_areIndexed G l h0) h 211 [(0, vR (some x0)), (1, vI x1), (2, vI x2), (3, vI x3), (5, vI x5), (7, vI x7), (8, vI x8), (9, vI x9)] [vI s0] Q := by
  obtain ⟨h1, c, p⟩ := c
  exact ⟨h1, _, j_pop dL_areIndexed_211 rfl <| j_aload_n dL_areIndexed_212 rfl rfl <| j_iconst (v := 3) dL_areIndexed_213 (by decide) <| j_iconst (v := (-1)) dL_areIndexed_214 (by decide) <| j_sipush (v := 10000) dL_areIndexed_215 (by decide) <| j_iconst (v := 0) dL_areIndexed_218 (by decide) <| j_callVx (as := [vI 3, vI (-1), vI 10000, vI 0]) dL_areIndexed_219 kc_L_19 rfl rfl w (by decide) (Nat.le_of_ble_eq_true rfl) c, q h1 p⟩
theorem bL_areIndexed_222 {h0 h : k_H} {Q : k_H → k_R → Prop} {x0 : Option Nat} {x1 x2 x3 x5 x7 x8 x9 s0 : Int32} (K1 : ¬ (s0 = x7) → k_X (jL_areIndexed G l h0) h 267 [(0, vR x0), (1, vI x1), (2, vI x2), (3, vI x3), (5, vI x5), (9, vI x9)] [] Q) (K2 : s0 = x7 → k_X (jL_areIndexed G l h0) h 227 [(0, vR x0), (1, vI x1), (2, vI x2), (3, vI x3), (5, vI x5), (8, vI x8), (9, vI x9)] [] Q) : k_X (jL_areIndexed G l h0) h 222 [(0, vR x0), (1, vI x1), (2, vI x2), (3, vI x3), (5, vI x5), (7, vI x7), (8, vI x8), (9, vI x9)] [vI s0] Q := by
  by_cases hc : s0 = x7
  · skip
    obtain ⟨h', r, K, q⟩ := K2 hc
    exact ⟨h', r, j_iload dL_areIndexed_222 rfl <| j_icmp_ne_f dL_areIndexed_224 267 (by decide) hc (j_pick [0, 1, 2, 3, 4, 6, 7] rfl K), q⟩
  · skip
    obtain ⟨h', r, K, q⟩ := K1 hc
    exact ⟨h', r, j_iload dL_areIndexed_222 rfl <| j_icmp_ne_t (tgt := 267) dL_areIndexed_224 (by decide) hc (j_pick [0, 1, 2, 3, 4, 7] rfl K), q⟩
theorem bL_areIndexed_227 {h0 h : k_H} {Q : k_H → k_R → Prop} {x0 : Nat} {x1 x2 x3 x5 x8 x9 : Int32} (w : k_is h x0 14) {P : k_H → Int32 → Prop} (c : k_cti (tX11_range G l) [vR (some x0), vI 3, vI (-2), vI 10000, vI 0] h P) (K : ∀ h1 v, P h1 v → k_X (jL_areIndexed G l h0) h1 238 [(0, vR (some x0)), (1, vI x1), (2, vI x2), (3, vI x3), (5, vI x5), (8, vI x8), (9, vI x9)] [vI v] Q) : k_X (jL_areIndexed G l h0) h 227 [(0, vR (some x0)), (1, vI x1), (2, vI x2), (3, vI x3), (5, vI x5), (8, vI x8), (9, vI x9)] [] Q := by
  obtain ⟨h1, v, c, p⟩ := c
  obtain ⟨h', r, K, q⟩ := K h1 v p
  exact ⟨h', r, j_aload_n dL_areIndexed_227 rfl rfl <| j_iconst (v := 3) dL_areIndexed_228 (by decide) <| j_bipush (v := (-2)) dL_areIndexed_229 (by decide) <| j_sipush (v := 10000) dL_areIndexed_231 (by decide) <| j_iconst (v := 0) dL_areIndexed_234 (by decide) <| j_callV (v := some (vI v)) (as := [vI 3, vI (-2), vI 10000, vI 0]) dL_areIndexed_235 kc_L_19 rfl rfl w (by decide) (Nat.le_of_ble_eq_true rfl) c K, q⟩
theorem bL_areIndexed_227x {h0 h : k_H} {Q : k_H → k_R → Prop} {x0 : Nat} {x1 x2 x3 x5 x8 x9 : Int32} (w : k_is h x0 14) {E : String} {P : k_H → Prop} (c : k_ctx (tX11_range G l) [vR (some x0), vI 3, vI (-2), vI 10000, vI 0] h E P) (q : ∀ h1, P h1 → Q h1 (.inr E)) : k_X (jL_areIndexed G l h0) h 227 [(0, vR (some x0)), (1, vI x1), (2, vI x2), (3, vI x3), (5, vI x5), (8, vI x8), (9, vI x9)] [] Q := by
  obtain ⟨h1, c, p⟩ := c
  exact ⟨h1, _, j_aload_n dL_areIndexed_227 rfl rfl <| j_iconst (v := 3) dL_areIndexed_228 (by decide) <| j_bipush (v := (-2)) dL_areIndexed_229 (by decide) <| j_sipush (v := 10000) dL_areIndexed_231 (by decide) <| j_iconst (v := 0) dL_areIndexed_234 (by decide) <| j_callVx (as := [vI 3, vI (-2), vI 10000, vI 0]) dL_areIndexed_235 kc_L_19 rfl rfl w (by decide) (Nat.le_of_ble_eq_true rfl) c, q h1 p⟩
theorem bL_areIndexed_238 {h0 h : k_H} {Q : k_H → k_R → Prop} {x0 : Option Nat} {x1 x2 x3 x5 x8 x9 s0 : Int32} (K1 : ¬ (s0 = x8) → k_X (jL_areIndexed G l h0) h 267 [(0, vR x0), (1, vI x1), (2, vI x2), (3, vI x3), (5, vI x5), (9, vI x9)] [] Q) (K2 : s0 = x8 → k_X (jL_areIndexed G l h0) h 243 [(0, vR x0), (1, vI x1), (2, vI x2), (3, vI x3), (5, vI x5), (9, vI x9)] [] Q) : k_X (jL_areIndexed G l h0) h 238 [(0, vR x0), (1, vI x1), (2, vI x2), (3, vI x3), (5, vI x5), (8, vI x8), (9, vI x9)] [vI s0] Q := by
  by_cases hc : s0 = x8
  · skip
    obtain ⟨h', r, K, q⟩ := K2 hc
    exact ⟨h', r, j_iload dL_areIndexed_238 rfl <| j_icmp_ne_f dL_areIndexed_240 267 (by decide) hc (j_pick [0, 1, 2, 3, 4, 6] rfl K), q⟩
  · skip
    obtain ⟨h', r, K, q⟩ := K1 hc
    exact ⟨h', r, j_iload dL_areIndexed_238 rfl <| j_icmp_ne_t (tgt := 267) dL_areIndexed_240 (by decide) hc (j_pick [0, 1, 2, 3, 4, 6] rfl K), q⟩
theorem bL_areIndexed_243 {h0 h : k_H} {Q : k_H → k_R → Prop} {x0 : Option Nat} {x1 x2 x3 x5 x9 : Int32} (K1 : x3 = 0 → k_X (jL_areIndexed G l h0) h 263 [(0, vR x0), (1, vI x1), (2, vI x2), (3, vI x3), (5, vI x5), (9, vI x9)] [] Q) (K2 : ¬ (x3 = 0) → k_X (jL_areIndexed G l h0) h 247 [(0, vR x0), (1, vI x1), (2, vI x2), (3, vI x3), (5, vI x5), (9, vI x9)] [] Q) : k_X (jL_areIndexed G l h0) h 243 [(0, vR x0), (1, vI x1), (2, vI x2), (3, vI x3), (5, vI x5), (9, vI x9)] [] Q := by
  by_cases hc : x3 = 0
  · skip
    obtain ⟨h', r, K, q⟩ := K1 hc
    exact ⟨h', r, j_iload_n dL_areIndexed_243 rfl rfl <| j_if_eq_t (tgt := 263) dL_areIndexed_244 (by decide) hc K, q⟩
  · skip
    obtain ⟨h', r, K, q⟩ := K2 hc
    exact ⟨h', r, j_iload_n dL_areIndexed_243 rfl rfl <| j_if_eq_f dL_areIndexed_244 263 (by decide) hc K, q⟩
theorem bL_areIndexed_247 {h0 h : k_H} {Q : k_H → k_R → Prop} {x0 : Nat} {x1 x2 x3 x5 x9 : Int32} (w : k_is h x0 14) {P : k_H → Int32 → Prop} (c : k_cti (tX11_range G l) [vR (some x0), vI 3, vI (-4), vI 10000, vI 0] h P) (K : ∀ h1 v, P h1 v → k_X (jL_areIndexed G l h0) h1 258 [(0, vR (some x0)), (1, vI x1), (2, vI x2), (3, vI x3), (5, vI x5), (9, vI x9)] [vI v] Q) : k_X (jL_areIndexed G l h0) h 247 [(0, vR (some x0)), (1, vI x1), (2, vI x2), (3, vI x3), (5, vI x5), (9, vI x9)] [] Q := by
  obtain ⟨h1, v, c, p⟩ := c
  obtain ⟨h', r, K, q⟩ := K h1 v p
  exact ⟨h', r, j_aload_n dL_areIndexed_247 rfl rfl <| j_iconst (v := 3) dL_areIndexed_248 (by decide) <| j_bipush (v := (-4)) dL_areIndexed_249 (by decide) <| j_sipush (v := 10000) dL_areIndexed_251 (by decide) <| j_iconst (v := 0) dL_areIndexed_254 (by decide) <| j_callV (v := some (vI v)) (as := [vI 3, vI (-4), vI 10000, vI 0]) dL_areIndexed_255 kc_L_19 rfl rfl w (by decide) (Nat.le_of_ble_eq_true rfl) c K, q⟩
theorem bL_areIndexed_247x {h0 h : k_H} {Q : k_H → k_R → Prop} {x0 : Nat} {x1 x2 x3 x5 x9 : Int32} (w : k_is h x0 14) {E : String} {P : k_H → Prop} (c : k_ctx (tX11_range G l) [vR (some x0), vI 3, vI (-4), vI 10000, vI 0] h E P) (q : ∀ h1, P h1 → Q h1 (.inr E)) : k_X (jL_areIndexed G l h0) h 247 [(0, vR (some x0)), (1, vI x1), (2, vI x2), (3, vI x3), (5, vI x5), (9, vI x9)] [] Q := by
  obtain ⟨h1, c, p⟩ := c
  exact ⟨h1, _, j_aload_n dL_areIndexed_247 rfl rfl <| j_iconst (v := 3) dL_areIndexed_248 (by decide) <| j_bipush (v := (-4)) dL_areIndexed_249 (by decide) <| j_sipush (v := 10000) dL_areIndexed_251 (by decide) <| j_iconst (v := 0) dL_areIndexed_254 (by decide) <| j_callVx (as := [vI 3, vI (-4), vI 10000, vI 0]) dL_areIndexed_255 kc_L_19 rfl rfl w (by decide) (Nat.le_of_ble_eq_true rfl) c, q h1 p⟩
theorem bL_areIndexed_258 {h0 h : k_H} {Q : k_H → k_R → Prop} {x0 : Option Nat} {x1 x2 x3 x5 x9 s0 : Int32} (K1 : ¬ (s0 = x9) → k_X (jL_areIndexed G l h0) h 267 [(0, vR x0), (1, vI x1), (2, vI x2), (3, vI x3), (5, vI x5), (9, vI x9)] [] Q) (K2 : s0 = x9 → k_X (jL_areIndexed G l h0) h 263 [(0, vR x0), (1, vI x1), (2, vI x2), (3, vI x3), (5, vI x5), (9, vI x9)] [] Q) : k_X (jL_areIndexed G l h0) h 258 [(0, vR x0), (1, vI x1), (2, vI x2), (3, vI x3), (5, vI x5), (9, vI x9)] [vI s0] Q := by
  by_cases hc : s0 = x9
  · skip
    obtain ⟨h', r, K, q⟩ := K2 hc
    exact ⟨h', r, j_iload dL_areIndexed_258 rfl <| j_icmp_ne_f dL_areIndexed_260 267 (by decide) hc K, q⟩
  · skip
    obtain ⟨h', r, K, q⟩ := K1 hc
    exact ⟨h', r, j_iload dL_areIndexed_258 rfl <| j_icmp_ne_t (tgt := 267) dL_areIndexed_260 (by decide) hc K, q⟩
theorem bL_areIndexed_263 {h0 h : k_H} {Q : k_H → k_R → Prop} {x0 : Option Nat} {x1 x2 x3 x5 x9 : Int32} (K : k_X (jL_areIndexed G l h0) h 268 [(0, vR x0), (1, vI x1), (2, vI x2), (3, vI x3), (5, vI x5), (9, vI x9)] [vI 1] Q) : k_X (jL_areIndexed G l h0) h 263 [(0, vR x0), (1, vI x1), (2, vI x2), (3, vI x3), (5, vI x5), (9, vI x9)] [] Q := by
  obtain ⟨h', r, K, q⟩ := K
  exact ⟨h', r, j_iconst (v := 1) dL_areIndexed_263 (by decide) <| j_goto (tgt := 268) dL_areIndexed_264 (by decide) <| K, q⟩
theorem bL_areIndexed_267 {h0 h : k_H} {Q : k_H → k_R → Prop} {x0 : Option Nat} {x1 x2 x3 x5 x9 : Int32} (K : k_X (jL_areIndexed G l h0) h 268 [(0, vR x0), (1, vI x1), (2, vI x2), (3, vI x3), (5, vI x5), (9, vI x9)] [vI 0] Q) : k_X (jL_areIndexed G l h0) h 267 [(0, vR x0), (1, vI x1), (2, vI x2), (3, vI x3), (5, vI x5), (9, vI x9)] [] Q := by
  obtain ⟨h', r, K, q⟩ := K
  exact ⟨h', r, j_iconst (v := 0) dL_areIndexed_267 (by decide) <| K, q⟩
theorem bL_areIndexed_268 {h0 h : k_H} {Q : k_H → k_R → Prop} {x0 : Option Nat} {x1 x2 x3 x5 x9 s0 : Int32} (K : k_X (jL_areIndexed G l h0) h 273 [(0, vR x0), (1, vI x1), (2, vI x2), (3, vI x3), (5, vI x5), (9, vI x9), (10, vI s0), (11, vI 0)] [] Q) : k_X (jL_areIndexed G l h0) h 268 [(0, vR x0), (1, vI x1), (2, vI x2), (3, vI x3), (5, vI x5), (9, vI x9)] [vI s0] Q := by
  obtain ⟨h', r, K, q⟩ := K
  exact ⟨h', r, j_istore dL_areIndexed_268 (by decide) rfl <| j_iconst (v := 0) dL_areIndexed_270 (by decide) <| j_istore dL_areIndexed_271 (by decide) rfl <| K, q⟩
theorem bL_areIndexed_273 {h0 h : k_H} {Q : k_H → k_R → Prop} {x0 : Option Nat} {x1 x2 x3 x5 x9 x10 x11 : Int32} (K1 : x9 ≤ x11 → k_X (jL_areIndexed G l h0) h 380 [(0, vR x0), (2, vI x2), (5, vI x5), (10, vI x10)] [] Q) (K2 : ¬ (x9 ≤ x11) → k_X (jL_areIndexed G l h0) h 280 [(0, vR x0), (1, vI x1), (2, vI x2), (3, vI x3), (5, vI x5), (9, vI x9), (10, vI x10), (11, vI x11)] [] Q) : k_X (jL_areIndexed G l h0) h 273 [(0, vR x0), (1, vI x1), (2, vI x2), (3, vI x3), (5, vI x5), (9, vI x9), (10, vI x10), (11, vI x11)] [] Q := by
  by_cases hc : x9 ≤ x11
  · skip
    obtain ⟨h', r, K, q⟩ := K1 hc
    exact ⟨h', r, j_iload dL_areIndexed_273 rfl <| j_iload dL_areIndexed_275 rfl <| j_icmp_ge_t (tgt := 380) dL_areIndexed_277 (by decide) hc (j_pick [0, 2, 4, 6] rfl K), q⟩
  · skip
    obtain ⟨h', r, K, q⟩ := K2 hc
    exact ⟨h', r, j_iload dL_areIndexed_273 rfl <| j_iload dL_areIndexed_275 rfl <| j_icmp_ge_f dL_areIndexed_277 380 (by decide) hc K, q⟩
theorem bL_areIndexed_280 {h0 h : k_H} {Q : k_H → k_R → Prop} {x0 : Option Nat} {x1 x2 x3 x5 x9 x10 x11 : Int32} (K1 : x10 = 0 → k_X (jL_areIndexed G l h0) h 380 [(0, vR x0), (2, vI x2), (5, vI x5), (10, vI x10)] [] Q) (K2 : ¬ (x10 = 0) → k_X (jL_areIndexed G l h0) h 285 [(0, vR x0), (1, vI x1), (2, vI x2), (3, vI x3), (5, vI x5), (9, vI x9), (10, vI x10), (11, vI x11)] [] Q) : k_X (jL_areIndexed G l h0) h 280 [(0, vR x0), (1, vI x1), (2, vI x2), (3, vI x3), (5, vI x5), (9, vI x9), (10, vI x10), (11, vI x11)] [] Q := by
  by_cases hc : x10 = 0
  · skip
    obtain ⟨h', r, K, q⟩ := K1 hc
    exact ⟨h', r, j_iload dL_areIndexed_280 rfl <| j_if_eq_t (tgt := 380) dL_areIndexed_282 (by decide) hc (j_pick [0, 2, 4, 6] rfl K), q⟩
  · skip
    obtain ⟨h', r, K, q⟩ := K2 hc
    exact ⟨h', r, j_iload dL_areIndexed_280 rfl <| j_if_eq_f dL_areIndexed_282 380 (by decide) hc K, q⟩
theorem bL_areIndexed_285 {h0 h : k_H} {Q : k_H → k_R → Prop} {x0 : Option Nat} {x1 x2 x3 x5 x9 x10 x11 : Int32} (K1 : x3 = 0 → k_X (jL_areIndexed G l h0) h 380 [(0, vR x0), (2, vI x2), (5, vI x5), (10, vI x10)] [] Q) (K2 : ¬ (x3 = 0) → k_X (jL_areIndexed G l h0) h 289 [(0, vR x0), (1, vI x1), (2, vI x2), (3, vI x3), (5, vI x5), (9, vI x9), (11, vI x11)] [] Q) : k_X (jL_areIndexed G l h0) h 285 [(0, vR x0), (1, vI x1), (2, vI x2), (3, vI x3), (5, vI x5), (9, vI x9), (10, vI x10), (11, vI x11)] [] Q := by
  by_cases hc : x3 = 0
  · skip
    obtain ⟨h', r, K, q⟩ := K1 hc
    exact ⟨h', r, j_iload_n dL_areIndexed_285 rfl rfl <| j_if_eq_t (tgt := 380) dL_areIndexed_286 (by decide) hc (j_pick [0, 2, 4, 6] rfl K), q⟩
  · skip
    obtain ⟨h', r, K, q⟩ := K2 hc
    exact ⟨h', r, j_iload_n dL_areIndexed_285 rfl rfl <| j_if_eq_f dL_areIndexed_286 380 (by decide) hc (j_pick [0, 1, 2, 3, 4, 5, 7] rfl K), q⟩
theorem bL_areIndexed_289 {h0 h : k_H} {Q : k_H → k_R → Prop} {x0 : Nat} {x1 x2 x3 x5 x9 x11 : Int32} (w : k_is h x0 14) {P : k_H → Int32 → Prop} (c : k_cti (tX11_rangeAt G l) [vR (some x0), vI 3, vI (-4), vI 10000, vI x11, vI 1] h P) (K : ∀ h1 v, P h1 v → k_X (jL_areIndexed G l h0) h1 302 [(0, vR (some x0)), (1, vI x1), (2, vI x2), (3, vI x3), (5, vI x5), (9, vI x9), (11, vI x11)] [vI v] Q) : k_X (jL_areIndexed G l h0) h 289 [(0, vR (some x0)), (1, vI x1), (2, vI x2), (3, vI x3), (5, vI x5), (9, vI x9), (11, vI x11)] [] Q := by
  obtain ⟨h1, v, c, p⟩ := c
  obtain ⟨h', r, K, q⟩ := K h1 v p
  exact ⟨h', r, j_aload_n dL_areIndexed_289 rfl rfl <| j_iconst (v := 3) dL_areIndexed_290 (by decide) <| j_bipush (v := (-4)) dL_areIndexed_291 (by decide) <| j_sipush (v := 10000) dL_areIndexed_293 (by decide) <| j_iload dL_areIndexed_296 rfl <| j_iconst (v := 1) dL_areIndexed_298 (by decide) <| j_callV (v := some (vI v)) (as := [vI 3, vI (-4), vI 10000, vI x11, vI 1]) dL_areIndexed_299 kc_L_23 rfl rfl w (by decide) (Nat.le_of_ble_eq_true rfl) c K, q⟩
theorem bL_areIndexed_289x {h0 h : k_H} {Q : k_H → k_R → Prop} {x0 : Nat} {x1 x2 x3 x5 x9 x11 : Int32} (w : k_is h x0 14) {E : String} {P : k_H → Prop} (c : k_ctx (tX11_rangeAt G l) [vR (some x0), vI 3, vI (-4), vI 10000, vI x11, vI 1] h E P) (q : ∀ h1, P h1 → Q h1 (.inr E)) : k_X (jL_areIndexed G l h0) h 289 [(0, vR (some x0)), (1, vI x1), (2, vI x2), (3, vI x3), (5, vI x5), (9, vI x9), (11, vI x11)] [] Q := by
  obtain ⟨h1, c, p⟩ := c
  exact ⟨h1, _, j_aload_n dL_areIndexed_289 rfl rfl <| j_iconst (v := 3) dL_areIndexed_290 (by decide) <| j_bipush (v := (-4)) dL_areIndexed_291 (by decide) <| j_sipush (v := 10000) dL_areIndexed_293 (by decide) <| j_iload dL_areIndexed_296 rfl <| j_iconst (v := 1) dL_areIndexed_298 (by decide) <| j_callVx (as := [vI 3, vI (-4), vI 10000, vI x11, vI 1]) dL_areIndexed_299 kc_L_23 rfl rfl w (by decide) (Nat.le_of_ble_eq_true rfl) c, q h1 p⟩
theorem bL_areIndexed_302 {h0 h : k_H} {Q : k_H → k_R → Prop} {x0 : Nat} {x1 x2 x3 x5 x9 x11 s0 : Int32} (w : k_is h x0 14) {P : k_H → Int32 → Prop} (c : k_cti (tX11_rangeAt G l) [vR (some x0), vI 3, vI (-4), vI 10000, vI x11, vI 2] h P) (K : ∀ h1 v, P h1 v → k_X (jL_areIndexed G l h0) h1 317 [(0, vR (some x0)), (1, vI x1), (2, vI x2), (3, vI x3), (5, vI x5), (9, vI x9), (11, vI x11), (12, vI s0)] [vI v] Q) : k_X (jL_areIndexed G l h0) h 302 [(0, vR (some x0)), (1, vI x1), (2, vI x2), (3, vI x3), (5, vI x5), (9, vI x9), (11, vI x11)] [vI s0] Q := by
  obtain ⟨h1, v, c, p⟩ := c
  obtain ⟨h', r, K, q⟩ := K h1 v p
  exact ⟨h', r, j_istore dL_areIndexed_302 (by decide) rfl <| j_aload_n dL_areIndexed_304 rfl rfl <| j_iconst (v := 3) dL_areIndexed_305 (by decide) <| j_bipush (v := (-4)) dL_areIndexed_306 (by decide) <| j_sipush (v := 10000) dL_areIndexed_308 (by decide) <| j_iload dL_areIndexed_311 rfl <| j_iconst (v := 2) dL_areIndexed_313 (by decide) <| j_callV (v := some (vI v)) (as := [vI 3, vI (-4), vI 10000, vI x11, vI 2]) dL_areIndexed_314 kc_L_23 rfl rfl w (by decide) (Nat.le_of_ble_eq_true rfl) c K, q⟩
theorem bL_areIndexed_302x {h0 h : k_H} {Q : k_H → k_R → Prop} {x0 : Nat} {x1 x2 x3 x5 x9 x11 s0 : Int32} (w : k_is h x0 14) {E : String} {P : k_H → Prop} (c : k_ctx (tX11_rangeAt G l) [vR (some x0), vI 3, vI (-4), vI 10000, vI x11, vI 2] h E P) (q : ∀ h1, P h1 → Q h1 (.inr E)) : k_X (jL_areIndexed G l h0) h 302 [(0, vR (some x0)), (1, vI x1), (2, vI x2), (3, vI x3), (5, vI x5), (9, vI x9), (11, vI x11)] [vI s0] Q := by
  obtain ⟨h1, c, p⟩ := c
  exact ⟨h1, _, j_istore dL_areIndexed_302 (by decide) rfl <| j_aload_n dL_areIndexed_304 rfl rfl <| j_iconst (v := 3) dL_areIndexed_305 (by decide) <| j_bipush (v := (-4)) dL_areIndexed_306 (by decide) <| j_sipush (v := 10000) dL_areIndexed_308 (by decide) <| j_iload dL_areIndexed_311 rfl <| j_iconst (v := 2) dL_areIndexed_313 (by decide) <| j_callVx (as := [vI 3, vI (-4), vI 10000, vI x11, vI 2]) dL_areIndexed_314 kc_L_23 rfl rfl w (by decide) (Nat.le_of_ble_eq_true rfl) c, q h1 p⟩
theorem bL_areIndexed_317 {h0 h : k_H} {Q : k_H → k_R → Prop} {x0 : Option Nat} {x1 x2 x3 x5 x9 x11 x12 s0 : Int32} (K1 : x12 ≤ 0 → k_X (jL_areIndexed G l h0) h 371 [(0, vR x0), (1, vI x1), (2, vI x2), (3, vI x3), (5, vI x5), (9, vI x9), (11, vI x11)] [] Q) (K2 : ¬ (x12 ≤ 0) → k_X (jL_areIndexed G l h0) h 324 [(0, vR x0), (1, vI x1), (2, vI x2), (3, vI x3), (5, vI x5), (9, vI x9), (11, vI x11), (12, vI x12), (13, vI s0)] [] Q) : k_X (jL_areIndexed G l h0) h 317 [(0, vR x0), (1, vI x1), (2, vI x2), (3, vI x3), (5, vI x5), (9, vI x9), (11, vI x11), (12, vI x12)] [vI s0] Q := by
  by_cases hc : x12 ≤ 0
  · skip
    obtain ⟨h', r, K, q⟩ := K1 hc
    exact ⟨h', r, j_istore dL_areIndexed_317 (by decide) rfl <| j_iload dL_areIndexed_319 rfl <| j_if_le_t (tgt := 371) dL_areIndexed_321 (by decide) hc (j_pick [0, 1, 2, 3, 4, 5, 6] rfl K), q⟩
  · skip
    obtain ⟨h', r, K, q⟩ := K2 hc
    exact ⟨h', r, j_istore dL_areIndexed_317 (by decide) rfl <| j_iload dL_areIndexed_319 rfl <| j_if_le_f dL_areIndexed_321 371 (by decide) hc K, q⟩
theorem bL_areIndexed_324 {h0 h : k_H} {Q : k_H → k_R → Prop} {x0 : Option Nat} {x1 x2 x3 x5 x9 x11 x12 x13 : Int32} (K1 : x1 < x12 → k_X (jL_areIndexed G l h0) h 371 [(0, vR x0), (1, vI x1), (2, vI x2), (3, vI x3), (5, vI x5), (9, vI x9), (11, vI x11)] [] Q) (K2 : ¬ (x1 < x12) → k_X (jL_areIndexed G l h0) h 330 [(0, vR x0), (1, vI x1), (2, vI x2), (3, vI x3), (5, vI x5), (9, vI x9), (11, vI x11), (12, vI x12), (13, vI x13)] [] Q) : k_X (jL_areIndexed G l h0) h 324 [(0, vR x0), (1, vI x1), (2, vI x2), (3, vI x3), (5, vI x5), (9, vI x9), (11, vI x11), (12, vI x12), (13, vI x13)] [] Q := by
  by_cases hc : x1 < x12
  · skip
    obtain ⟨h', r, K, q⟩ := K1 hc
    exact ⟨h', r, j_iload dL_areIndexed_324 rfl <| j_iload_n dL_areIndexed_326 rfl rfl <| j_icmp_gt_t (tgt := 371) dL_areIndexed_327 (by decide) hc (j_pick [0, 1, 2, 3, 4, 5, 6] rfl K), q⟩
  · skip
    obtain ⟨h', r, K, q⟩ := K2 hc
    exact ⟨h', r, j_iload dL_areIndexed_324 rfl <| j_iload_n dL_areIndexed_326 rfl rfl <| j_icmp_gt_f dL_areIndexed_327 371 (by decide) hc K, q⟩
theorem bL_areIndexed_330 {h0 h : k_H} {Q : k_H → k_R → Prop} {x0 : Option Nat} {x1 x2 x3 x5 x9 x11 x12 x13 : Int32} (K1 : x13 < 0 → k_X (jL_areIndexed G l h0) h 371 [(0, vR x0), (1, vI x1), (2, vI x2), (3, vI x3), (5, vI x5), (9, vI x9), (11, vI x11)] [] Q) (K2 : ¬ (x13 < 0) → k_X (jL_areIndexed G l h0) h 335 [(0, vR x0), (1, vI x1), (2, vI x2), (3, vI x3), (5, vI x5), (9, vI x9), (11, vI x11), (12, vI x12), (13, vI x13)] [] Q) : k_X (jL_areIndexed G l h0) h 330 [(0, vR x0), (1, vI x1), (2, vI x2), (3, vI x3), (5, vI x5), (9, vI x9), (11, vI x11), (12, vI x12), (13, vI x13)] [] Q := by
  by_cases hc : x13 < 0
  · skip
    obtain ⟨h', r, K, q⟩ := K1 hc
    exact ⟨h', r, j_iload dL_areIndexed_330 rfl <| j_if_lt_t (tgt := 371) dL_areIndexed_332 (by decide) hc (j_pick [0, 1, 2, 3, 4, 5, 6] rfl K), q⟩
  · skip
    obtain ⟨h', r, K, q⟩ := K2 hc
    exact ⟨h', r, j_iload dL_areIndexed_330 rfl <| j_if_lt_f dL_areIndexed_332 371 (by decide) hc K, q⟩
theorem bL_areIndexed_335 {h0 h : k_H} {Q : k_H → k_R → Prop} {x0 : Option Nat} {x1 x2 x3 x5 x9 x11 x12 x13 : Int32} (K1 : 12 ≤ x13 → k_X (jL_areIndexed G l h0) h 371 [(0, vR x0), (1, vI x1), (2, vI x2), (3, vI x3), (5, vI x5), (9, vI x9), (11, vI x11)] [] Q) (K2 : ¬ (12 ≤ x13) → k_X (jL_areIndexed G l h0) h 342 [(0, vR x0), (1, vI x1), (2, vI x2), (3, vI x3), (5, vI x5), (9, vI x9), (11, vI x11), (12, vI x12), (13, vI x13)] [] Q) : k_X (jL_areIndexed G l h0) h 335 [(0, vR x0), (1, vI x1), (2, vI x2), (3, vI x3), (5, vI x5), (9, vI x9), (11, vI x11), (12, vI x12), (13, vI x13)] [] Q := by
  by_cases hc : 12 ≤ x13
  · skip
    obtain ⟨h', r, K, q⟩ := K1 hc
    exact ⟨h', r, j_iload dL_areIndexed_335 rfl <| j_bipush (v := 12) dL_areIndexed_337 (by decide) <| j_icmp_ge_t (tgt := 371) dL_areIndexed_339 (by decide) hc (j_pick [0, 1, 2, 3, 4, 5, 6] rfl K), q⟩
  · skip
    obtain ⟨h', r, K, q⟩ := K2 hc
    exact ⟨h', r, j_iload dL_areIndexed_335 rfl <| j_bipush (v := 12) dL_areIndexed_337 (by decide) <| j_icmp_ge_f dL_areIndexed_339 371 (by decide) hc K, q⟩
theorem bL_areIndexed_342 {h0 h : k_H} {Q : k_H → k_R → Prop} {x0 : Nat} {x1 x2 x3 x5 x9 x11 x12 x13 : Int32} (w : k_is h x0 14) {P : k_H → Int32 → Prop} (c : k_cti (tX11_value G l) [vR (some x0), vI x1, vI (-4), vI x12, vI x13] h P) (K : ∀ h1 v, P h1 v → k_X (jL_areIndexed G l h0) h1 353 [(0, vR (some x0)), (1, vI x1), (2, vI x2), (3, vI x3), (5, vI x5), (9, vI x9), (11, vI x11), (13, vI x13)] [vI v] Q) : k_X (jL_areIndexed G l h0) h 342 [(0, vR (some x0)), (1, vI x1), (2, vI x2), (3, vI x3), (5, vI x5), (9, vI x9), (11, vI x11), (12, vI x12), (13, vI x13)] [] Q := by
  obtain ⟨h1, v, c, p⟩ := c
  obtain ⟨h', r, K, q⟩ := K h1 v p
  exact ⟨h', r, j_aload_n dL_areIndexed_342 rfl rfl <| j_iload_n dL_areIndexed_343 rfl rfl <| j_bipush (v := (-4)) dL_areIndexed_344 (by decide) <| j_iload dL_areIndexed_346 rfl <| j_iload dL_areIndexed_348 rfl <| j_callV (v := some (vI v)) (as := [vI x1, vI (-4), vI x12, vI x13]) dL_areIndexed_350 kc_L_42 rfl rfl w (by decide) (Nat.le_of_ble_eq_true rfl) c (j_pick [0, 1, 2, 3, 4, 5, 6, 8] rfl K), q⟩
theorem bL_areIndexed_342x {h0 h : k_H} {Q : k_H → k_R → Prop} {x0 : Nat} {x1 x2 x3 x5 x9 x11 x12 x13 : Int32} (w : k_is h x0 14) {E : String} {P : k_H → Prop} (c : k_ctx (tX11_value G l) [vR (some x0), vI x1, vI (-4), vI x12, vI x13] h E P) (q : ∀ h1, P h1 → Q h1 (.inr E)) : k_X (jL_areIndexed G l h0) h 342 [(0, vR (some x0)), (1, vI x1), (2, vI x2), (3, vI x3), (5, vI x5), (9, vI x9), (11, vI x11), (12, vI x12), (13, vI x13)] [] Q := by
  obtain ⟨h1, c, p⟩ := c
  exact ⟨h1, _, j_aload_n dL_areIndexed_342 rfl rfl <| j_iload_n dL_areIndexed_343 rfl rfl <| j_bipush (v := (-4)) dL_areIndexed_344 (by decide) <| j_iload dL_areIndexed_346 rfl <| j_iload dL_areIndexed_348 rfl <| j_callVx (as := [vI x1, vI (-4), vI x12, vI x13]) dL_areIndexed_350 kc_L_42 rfl rfl w (by decide) (Nat.le_of_ble_eq_true rfl) c, q h1 p⟩
theorem bL_areIndexed_353 {h0 h : k_H} {Q : k_H → k_R → Prop} {x0 : Nat} {x1 x2 x3 x5 x9 x11 x13 s0 : Int32} (w : k_is h x0 14) {P : k_H → Int32 → Prop} (c : k_cti (tX11_value G l) [vR (some x0), vI x1, vI (-1), vI x13, vI 10000] h P) (K : ∀ h1 v, P h1 v → k_X (jL_areIndexed G l h0) h1 364 [(0, vR (some x0)), (1, vI x1), (2, vI x2), (3, vI x3), (5, vI x5), (9, vI x9), (11, vI x11)] [vI v, vI s0] Q) : k_X (jL_areIndexed G l h0) h 353 [(0, vR (some x0)), (1, vI x1), (2, vI x2), (3, vI x3), (5, vI x5), (9, vI x9), (11, vI x11), (13, vI x13)] [vI s0] Q := by
  obtain ⟨h1, v, c, p⟩ := c
  obtain ⟨h', r, K, q⟩ := K h1 v p
  exact ⟨h', r, j_aload_n dL_areIndexed_353 rfl rfl <| j_iload_n dL_areIndexed_354 rfl rfl <| j_iconst (v := (-1)) dL_areIndexed_355 (by decide) <| j_iload dL_areIndexed_356 rfl <| j_sipush (v := 10000) dL_areIndexed_358 (by decide) <| j_callV (v := some (vI v)) (as := [vI x1, vI (-1), vI x13, vI 10000]) dL_areIndexed_361 kc_L_42 rfl rfl w (by decide) (Nat.le_of_ble_eq_true rfl) c (j_pick [0, 1, 2, 3, 4, 5, 6] rfl K), q⟩
theorem bL_areIndexed_353x {h0 h : k_H} {Q : k_H → k_R → Prop} {x0 : Nat} {x1 x2 x3 x5 x9 x11 x13 s0 : Int32} (w : k_is h x0 14) {E : String} {P : k_H → Prop} (c : k_ctx (tX11_value G l) [vR (some x0), vI x1, vI (-1), vI x13, vI 10000] h E P) (q : ∀ h1, P h1 → Q h1 (.inr E)) : k_X (jL_areIndexed G l h0) h 353 [(0, vR (some x0)), (1, vI x1), (2, vI x2), (3, vI x3), (5, vI x5), (9, vI x9), (11, vI x11), (13, vI x13)] [vI s0] Q := by
  obtain ⟨h1, c, p⟩ := c
  exact ⟨h1, _, j_aload_n dL_areIndexed_353 rfl rfl <| j_iload_n dL_areIndexed_354 rfl rfl <| j_iconst (v := (-1)) dL_areIndexed_355 (by decide) <| j_iload dL_areIndexed_356 rfl <| j_sipush (v := 10000) dL_areIndexed_358 (by decide) <| j_callVx (as := [vI x1, vI (-1), vI x13, vI 10000]) dL_areIndexed_361 kc_L_42 rfl rfl w (by decide) (Nat.le_of_ble_eq_true rfl) c, q h1 p⟩
theorem bL_areIndexed_364 {h0 h : k_H} {Q : k_H → k_R → Prop} {x0 : Option Nat} {x1 x2 x3 x5 x9 x11 s0 s1 : Int32} (K1 : ¬ (s0 = s1) → k_X (jL_areIndexed G l h0) h 371 [(0, vR x0), (1, vI x1), (2, vI x2), (3, vI x3), (5, vI x5), (9, vI x9), (11, vI x11)] [] Q) (K2 : s0 = s1 → k_X (jL_areIndexed G l h0) h 367 [(0, vR x0), (1, vI x1), (2, vI x2), (3, vI x3), (5, vI x5), (9, vI x9), (11, vI x11)] [] Q) : k_X (jL_areIndexed G l h0) h 364 [(0, vR x0), (1, vI x1), (2, vI x2), (3, vI x3), (5, vI x5), (9, vI x9), (11, vI x11)] [vI s1, vI s0] Q := by
  by_cases hc : s0 = s1
  · skip
    obtain ⟨h', r, K, q⟩ := K2 hc
    exact ⟨h', r, j_icmp_ne_f dL_areIndexed_364 371 (by decide) hc K, q⟩
  · skip
    obtain ⟨h', r, K, q⟩ := K1 hc
    exact ⟨h', r, j_icmp_ne_t (tgt := 371) dL_areIndexed_364 (by decide) hc K, q⟩
theorem bL_areIndexed_367 {h0 h : k_H} {Q : k_H → k_R → Prop} {x0 : Option Nat} {x1 x2 x3 x5 x9 x11 : Int32} (K : k_X (jL_areIndexed G l h0) h 372 [(0, vR x0), (1, vI x1), (2, vI x2), (3, vI x3), (5, vI x5), (9, vI x9), (11, vI x11)] [vI 1] Q) : k_X (jL_areIndexed G l h0) h 367 [(0, vR x0), (1, vI x1), (2, vI x2), (3, vI x3), (5, vI x5), (9, vI x9), (11, vI x11)] [] Q := by
  obtain ⟨h', r, K, q⟩ := K
  exact ⟨h', r, j_iconst (v := 1) dL_areIndexed_367 (by decide) <| j_goto (tgt := 372) dL_areIndexed_368 (by decide) <| K, q⟩
theorem bL_areIndexed_371 {h0 h : k_H} {Q : k_H → k_R → Prop} {x0 : Option Nat} {x1 x2 x3 x5 x9 x11 : Int32} (K : k_X (jL_areIndexed G l h0) h 372 [(0, vR x0), (1, vI x1), (2, vI x2), (3, vI x3), (5, vI x5), (9, vI x9), (11, vI x11)] [vI 0] Q) : k_X (jL_areIndexed G l h0) h 371 [(0, vR x0), (1, vI x1), (2, vI x2), (3, vI x3), (5, vI x5), (9, vI x9), (11, vI x11)] [] Q := by
  obtain ⟨h', r, K, q⟩ := K
  exact ⟨h', r, j_iconst (v := 0) dL_areIndexed_371 (by decide) <| K, q⟩
theorem bL_areIndexed_372 {h0 h : k_H} {Q : k_H → k_R → Prop} {x0 : Option Nat} {x1 x2 x3 x5 x9 x11 s0 : Int32} (K : k_X (jL_areIndexed G l h0) h 273 [(0, vR x0), (1, vI x1), (2, vI x2), (3, vI x3), (5, vI x5), (9, vI x9), (10, vI s0), (11, vI (x11 + 1))] [] Q) : k_X (jL_areIndexed G l h0) h 372 [(0, vR x0), (1, vI x1), (2, vI x2), (3, vI x3), (5, vI x5), (9, vI x9), (11, vI x11)] [vI s0] Q := by
  obtain ⟨h', r, K, q⟩ := K
  exact ⟨h', r, j_istore dL_areIndexed_372 (by decide) rfl <| j_iinc (v := x11 + 1) dL_areIndexed_374 rfl (by decide) rfl rfl <| j_goto (tgt := 273) dL_areIndexed_377 (by decide) <| K, q⟩
theorem bL_areIndexed_380 {h0 h : k_H} {Q : k_H → k_R → Prop} {x0 : Option Nat} {x2 x5 x10 : Int32} (K1 : x10 = 0 → k_X (jL_areIndexed G l h0) h 417 [] [] Q) (K2 : ¬ (x10 = 0) → k_X (jL_areIndexed G l h0) h 385 [(0, vR x0), (2, vI x2), (5, vI x5)] [] Q) : k_X (jL_areIndexed G l h0) h 380 [(0, vR x0), (2, vI x2), (5, vI x5), (10, vI x10)] [] Q := by
  by_cases hc : x10 = 0
  · skip
    obtain ⟨h', r, K, q⟩ := K1 hc
    exact ⟨h', r, j_iload dL_areIndexed_380 rfl <| j_if_eq_t (tgt := 417) dL_areIndexed_382 (by decide) hc (j_pick [] rfl K), q⟩
  · skip
    obtain ⟨h', r, K, q⟩ := K2 hc
    exact ⟨h', r, j_iload dL_areIndexed_380 rfl <| j_if_eq_f dL_areIndexed_382 417 (by decide) hc (j_pick [0, 1, 2] rfl K), q⟩
theorem bL_areIndexed_385 {h0 h : k_H} {Q : k_H → k_R → Prop} {x0 : Option Nat} {x2 x5 : Int32} (K1 : x5 = (-2147483648) → k_X (jL_areIndexed G l h0) h 400 [(0, vR x0), (2, vI x2)] [] Q) (K2 : ¬ (x5 = (-2147483648)) → k_X (jL_areIndexed G l h0) h 392 [(0, vR x0), (2, vI x2), (5, vI x5)] [] Q) : k_X (jL_areIndexed G l h0) h 385 [(0, vR x0), (2, vI x2), (5, vI x5)] [] Q := by
  by_cases hc : x5 = (-2147483648)
  · skip
    obtain ⟨h', r, K, q⟩ := K1 hc
    exact ⟨h', r, j_iload dL_areIndexed_385 rfl <| j_ldc (v := (-2147483648)) dL_areIndexed_387 ki_L_159 <| j_icmp_eq_t (tgt := 400) dL_areIndexed_389 (by decide) hc (j_pick [0, 1] rfl K), q⟩
  · skip
    obtain ⟨h', r, K, q⟩ := K2 hc
    exact ⟨h', r, j_iload dL_areIndexed_385 rfl <| j_ldc (v := (-2147483648)) dL_areIndexed_387 ki_L_159 <| j_icmp_eq_f dL_areIndexed_389 400 (by decide) hc K, q⟩
theorem bL_areIndexed_392 {h0 h : k_H} {Q : k_H → k_R → Prop} {x0 : Option Nat} {x2 x5 : Int32} (K1 : ¬ (x5 = 1000) → k_X (jL_areIndexed G l h0) h 413 [] [] Q) (K2 : x5 = 1000 → k_X (jL_areIndexed G l h0) h 400 [(0, vR x0), (2, vI x2)] [] Q) : k_X (jL_areIndexed G l h0) h 392 [(0, vR x0), (2, vI x2), (5, vI x5)] [] Q := by
  by_cases hc : x5 = 1000
  · skip
    obtain ⟨h', r, K, q⟩ := K2 hc
    exact ⟨h', r, j_iload dL_areIndexed_392 rfl <| j_sipush (v := 1000) dL_areIndexed_394 (by decide) <| j_icmp_ne_f dL_areIndexed_397 413 (by decide) hc (j_pick [0, 1] rfl K), q⟩
  · skip
    obtain ⟨h', r, K, q⟩ := K1 hc
    exact ⟨h', r, j_iload dL_areIndexed_392 rfl <| j_sipush (v := 1000) dL_areIndexed_394 (by decide) <| j_icmp_ne_t (tgt := 413) dL_areIndexed_397 (by decide) hc (j_pick [] rfl K), q⟩
theorem bL_areIndexed_400 {h0 h : k_H} {Q : k_H → k_R → Prop} {x0 : Nat} {x2 : Int32} (w : k_is h x0 14) {P : k_H → Int32 → Prop} (c : k_cti (tX11_rank G l) [vR (some x0), vI x2] h P) (K : ∀ h1 v, P h1 v → k_X (jL_areIndexed G l h0) h1 405 [(0, vR (some x0)), (2, vI x2)] [vI v] Q) : k_X (jL_areIndexed G l h0) h 400 [(0, vR (some x0)), (2, vI x2)] [] Q := by
  obtain ⟨h1, v, c, p⟩ := c
  obtain ⟨h', r, K, q⟩ := K h1 v p
  exact ⟨h', r, j_aload_n dL_areIndexed_400 rfl rfl <| j_iload_n dL_areIndexed_401 rfl rfl <| j_callV (v := some (vI v)) (as := [vI x2]) dL_areIndexed_402 kc_L_62 rfl rfl w (by decide) (Nat.le_of_ble_eq_true rfl) c K, q⟩
theorem bL_areIndexed_400x {h0 h : k_H} {Q : k_H → k_R → Prop} {x0 : Nat} {x2 : Int32} (w : k_is h x0 14) {E : String} {P : k_H → Prop} (c : k_ctx (tX11_rank G l) [vR (some x0), vI x2] h E P) (q : ∀ h1, P h1 → Q h1 (.inr E)) : k_X (jL_areIndexed G l h0) h 400 [(0, vR (some x0)), (2, vI x2)] [] Q := by
  obtain ⟨h1, c, p⟩ := c
  exact ⟨h1, _, j_aload_n dL_areIndexed_400 rfl rfl <| j_iload_n dL_areIndexed_401 rfl rfl <| j_callVx (as := [vI x2]) dL_areIndexed_402 kc_L_62 rfl rfl w (by decide) (Nat.le_of_ble_eq_true rfl) c, q h1 p⟩
theorem bL_areIndexed_405 {h0 h : k_H} {Q : k_H → k_R → Prop} {x0 : Nat} {x2 s0 : Int32} (w : k_is h x0 14) {P : k_H → Int32 → Prop} (c : k_cti (tX11_rankAnew G l) [vR (some x0), vI x2] h P) (K : ∀ h1 v, P h1 v → k_X (jL_areIndexed G l h0) h1 410 [] [vI v, vI s0] Q) : k_X (jL_areIndexed G l h0) h 405 [(0, vR (some x0)), (2, vI x2)] [vI s0] Q := by
  obtain ⟨h1, v, c, p⟩ := c
  obtain ⟨h', r, K, q⟩ := K h1 v p
  exact ⟨h', r, j_aload_n dL_areIndexed_405 rfl rfl <| j_iload_n dL_areIndexed_406 rfl rfl <| j_callV (v := some (vI v)) (as := [vI x2]) dL_areIndexed_407 kc_L_65 rfl rfl w (by decide) (Nat.le_of_ble_eq_true rfl) c (j_pick [] rfl K), q⟩
theorem bL_areIndexed_405x {h0 h : k_H} {Q : k_H → k_R → Prop} {x0 : Nat} {x2 s0 : Int32} (w : k_is h x0 14) {E : String} {P : k_H → Prop} (c : k_ctx (tX11_rankAnew G l) [vR (some x0), vI x2] h E P) (q : ∀ h1, P h1 → Q h1 (.inr E)) : k_X (jL_areIndexed G l h0) h 405 [(0, vR (some x0)), (2, vI x2)] [vI s0] Q := by
  obtain ⟨h1, c, p⟩ := c
  exact ⟨h1, _, j_aload_n dL_areIndexed_405 rfl rfl <| j_iload_n dL_areIndexed_406 rfl rfl <| j_callVx (as := [vI x2]) dL_areIndexed_407 kc_L_65 rfl rfl w (by decide) (Nat.le_of_ble_eq_true rfl) c, q h1 p⟩
theorem bL_areIndexed_410 {h0 h : k_H} {Q : k_H → k_R → Prop} {s0 s1 : Int32} (K1 : ¬ (s0 = s1) → k_X (jL_areIndexed G l h0) h 417 [] [] Q) (K2 : s0 = s1 → k_X (jL_areIndexed G l h0) h 413 [] [] Q) : k_X (jL_areIndexed G l h0) h 410 [] [vI s1, vI s0] Q := by
  by_cases hc : s0 = s1
  · skip
    obtain ⟨h', r, K, q⟩ := K2 hc
    exact ⟨h', r, j_icmp_ne_f dL_areIndexed_410 417 (by decide) hc K, q⟩
  · skip
    obtain ⟨h', r, K, q⟩ := K1 hc
    exact ⟨h', r, j_icmp_ne_t (tgt := 417) dL_areIndexed_410 (by decide) hc K, q⟩
theorem bL_areIndexed_413 {h0 h : k_H} {Q : k_H → k_R → Prop} (K : k_X (jL_areIndexed G l h0) h 418 [] [vI 1] Q) : k_X (jL_areIndexed G l h0) h 413 [] [] Q := by
  obtain ⟨h', r, K, q⟩ := K
  exact ⟨h', r, j_iconst (v := 1) dL_areIndexed_413 (by decide) <| j_goto (tgt := 418) dL_areIndexed_414 (by decide) <| K, q⟩
theorem bL_areIndexed_417 {h0 h : k_H} {Q : k_H → k_R → Prop} (K : k_X (jL_areIndexed G l h0) h 418 [] [vI 0] Q) : k_X (jL_areIndexed G l h0) h 417 [] [] Q := by
  obtain ⟨h', r, K, q⟩ := K
  exact ⟨h', r, j_iconst (v := 0) dL_areIndexed_417 (by decide) <| K, q⟩
theorem bL_areIndexed_418 {h0 h : k_H} {Q : k_H → k_R → Prop} {s0 : Int32} (y1 : k_bl s0) (q : Q h (.inl (some (vI s0)))) : k_X (jL_areIndexed G l h0) h 418 [] [vI s0] Q := by
  exact ⟨_, _, j_zret dL_areIndexed_418 rfl y1, q⟩
theorem eL_areParted {G : k_G} {l : Launch} (hfl : l.flags = flags0) {h : k_H} {Q : k_H → k_R → Prop} {x0 : Option Nat} (K : k_X (jL_areParted G l h) h 0 [(0, vR x0)] [] Q) : k_ct (tL_areParted G l) [vR x0] h Q := by
  obtain ⟨h', r, K, q⟩ := K
  exact ⟨h', r, k_CtOf (by decide +kernel) (Nat.le_of_ble_eq_true rfl) K hfl, q⟩

theorem bL_areParted_0 {h0 h : k_H} {Q : k_H → k_R → Prop} {x0 : Nat} (w : k_is h x0 14) {P : k_H → Int32 → Prop} (c : k_cti (tX11_parts G l) [vR (some x0)] h P) (K : ∀ h1 v, P h1 v → k_X (jL_areParted G l h0) h1 4 [(0, vR (some x0))] [vI v] Q) : k_X (jL_areParted G l h0) h 0 [(0, vR (some x0))] [] Q := by
  obtain ⟨h1, v, c, p⟩ := c
  obtain ⟨h', r, K, q⟩ := K h1 v p
  exact ⟨h', r, j_aload_n dL_areParted_0 rfl rfl <| j_callV (v := some (vI v)) (as := []) dL_areParted_1 kc_L_133 rfl rfl w (by decide) (Nat.le_of_ble_eq_true rfl) c K, q⟩
theorem bL_areParted_4 {h0 h : k_H} {Q : k_H → k_R → Prop} {x0 : Option Nat} {s0 : Int32} (K1 : s0 ≤ 0 → k_X (jL_areParted G l h0) h 26 [(0, vR x0), (1, vI s0), (2, vI 0)] [] Q) (K2 : ¬ (s0 ≤ 0) → k_X (jL_areParted G l h0) h 11 [(0, vR x0), (1, vI s0), (2, vI 0)] [] Q) : k_X (jL_areParted G l h0) h 4 [(0, vR x0)] [vI s0] Q := by
  by_cases hc : s0 ≤ 0
  · skip
    obtain ⟨h', r, K, q⟩ := K1 hc
    exact ⟨h', r, j_istore_n dL_areParted_4 rfl (by decide) rfl <| j_iconst (v := 0) dL_areParted_5 (by decide) <| j_istore_n dL_areParted_6 rfl (by decide) rfl <| j_iload_n dL_areParted_7 rfl rfl <| j_if_le_t (tgt := 26) dL_areParted_8 (by decide) hc K, q⟩
  · skip
    obtain ⟨h', r, K, q⟩ := K2 hc
    exact ⟨h', r, j_istore_n dL_areParted_4 rfl (by decide) rfl <| j_iconst (v := 0) dL_areParted_5 (by decide) <| j_istore_n dL_areParted_6 rfl (by decide) rfl <| j_iload_n dL_areParted_7 rfl rfl <| j_if_le_f dL_areParted_8 26 (by decide) hc K, q⟩
theorem bL_areParted_11 {h0 h : k_H} {Q : k_H → k_R → Prop} {x0 : Nat} {x1 x2 : Int32} (w : k_is h x0 14) {P : k_H → Int32 → Prop} (c : k_cti (tX11_part G l) [vR (some x0), vI 0, vI 2] h P) (K : ∀ h1 v, P h1 v → k_X (jL_areParted G l h0) h1 17 [(0, vR (some x0)), (1, vI x1), (2, vI x2)] [vI v] Q) : k_X (jL_areParted G l h0) h 11 [(0, vR (some x0)), (1, vI x1), (2, vI x2)] [] Q := by
  obtain ⟨h1, v, c, p⟩ := c
  obtain ⟨h', r, K, q⟩ := K h1 v p
  exact ⟨h', r, j_aload_n dL_areParted_11 rfl rfl <| j_iconst (v := 0) dL_areParted_12 (by decide) <| j_iconst (v := 2) dL_areParted_13 (by decide) <| j_callV (v := some (vI v)) (as := [vI 0, vI 2]) dL_areParted_14 kc_L_83 rfl rfl w (by decide) (Nat.le_of_ble_eq_true rfl) c K, q⟩
theorem bL_areParted_11x {h0 h : k_H} {Q : k_H → k_R → Prop} {x0 : Nat} {x1 x2 : Int32} (w : k_is h x0 14) {E : String} {P : k_H → Prop} (c : k_ctx (tX11_part G l) [vR (some x0), vI 0, vI 2] h E P) (q : ∀ h1, P h1 → Q h1 (.inr E)) : k_X (jL_areParted G l h0) h 11 [(0, vR (some x0)), (1, vI x1), (2, vI x2)] [] Q := by
  obtain ⟨h1, c, p⟩ := c
  exact ⟨h1, _, j_aload_n dL_areParted_11 rfl rfl <| j_iconst (v := 0) dL_areParted_12 (by decide) <| j_iconst (v := 2) dL_areParted_13 (by decide) <| j_callVx (as := [vI 0, vI 2]) dL_areParted_14 kc_L_83 rfl rfl w (by decide) (Nat.le_of_ble_eq_true rfl) c, q h1 p⟩
theorem bL_areParted_17 {h0 h : k_H} {Q : k_H → k_R → Prop} {x0 : Option Nat} {x1 x2 s0 : Int32} (K1 : ¬ (s0 = (-2147483648)) → k_X (jL_areParted G l h0) h 26 [(0, vR x0), (1, vI x1), (2, vI x2)] [] Q) (K2 : s0 = (-2147483648) → k_X (jL_areParted G l h0) h 22 [(0, vR x0), (1, vI x1), (2, vI x2)] [] Q) : k_X (jL_areParted G l h0) h 17 [(0, vR x0), (1, vI x1), (2, vI x2)] [vI s0] Q := by
  by_cases hc : s0 = (-2147483648)
  · skip
    obtain ⟨h', r, K, q⟩ := K2 hc
    exact ⟨h', r, j_ldc (v := (-2147483648)) dL_areParted_17 ki_L_159 <| j_icmp_ne_f dL_areParted_19 26 (by decide) hc K, q⟩
  · skip
    obtain ⟨h', r, K, q⟩ := K1 hc
    exact ⟨h', r, j_ldc (v := (-2147483648)) dL_areParted_17 ki_L_159 <| j_icmp_ne_t (tgt := 26) dL_areParted_19 (by decide) hc K, q⟩
theorem bL_areParted_22 {h0 h : k_H} {Q : k_H → k_R → Prop} {x0 : Option Nat} {x1 x2 : Int32} (K : k_X (jL_areParted G l h0) h 27 [(0, vR x0), (1, vI x1), (2, vI x2)] [vI 1] Q) : k_X (jL_areParted G l h0) h 22 [(0, vR x0), (1, vI x1), (2, vI x2)] [] Q := by
  obtain ⟨h', r, K, q⟩ := K
  exact ⟨h', r, j_iconst (v := 1) dL_areParted_22 (by decide) <| j_goto (tgt := 27) dL_areParted_23 (by decide) <| K, q⟩
theorem bL_areParted_26 {h0 h : k_H} {Q : k_H → k_R → Prop} {x0 : Option Nat} {x1 x2 : Int32} (K : k_X (jL_areParted G l h0) h 27 [(0, vR x0), (1, vI x1), (2, vI x2)] [vI 0] Q) : k_X (jL_areParted G l h0) h 26 [(0, vR x0), (1, vI x1), (2, vI x2)] [] Q := by
  obtain ⟨h', r, K, q⟩ := K
  exact ⟨h', r, j_iconst (v := 0) dL_areParted_26 (by decide) <| K, q⟩
theorem bL_areParted_27 {h0 h : k_H} {Q : k_H → k_R → Prop} {x0 : Option Nat} {x1 x2 s0 : Int32} (K : k_X (jL_areParted G l h0) h 31 [(0, vR x0), (1, vI x1), (2, vI x2), (3, vI s0), (4, vI 0)] [] Q) : k_X (jL_areParted G l h0) h 27 [(0, vR x0), (1, vI x1), (2, vI x2)] [vI s0] Q := by
  obtain ⟨h', r, K, q⟩ := K
  exact ⟨h', r, j_istore_n dL_areParted_27 rfl (by decide) rfl <| j_iconst (v := 0) dL_areParted_28 (by decide) <| j_istore dL_areParted_29 (by decide) rfl <| K, q⟩
theorem bL_areParted_31 {h0 h : k_H} {Q : k_H → k_R → Prop} {x0 : Option Nat} {x1 x2 x3 x4 : Int32} (K1 : x1 ≤ x4 → k_X (jL_areParted G l h0) h 145 [(0, vR x0), (2, vI x2), (3, vI x3)] [] Q) (K2 : ¬ (x1 ≤ x4) → k_X (jL_areParted G l h0) h 37 [(0, vR x0), (1, vI x1), (2, vI x2), (3, vI x3), (4, vI x4)] [] Q) : k_X (jL_areParted G l h0) h 31 [(0, vR x0), (1, vI x1), (2, vI x2), (3, vI x3), (4, vI x4)] [] Q := by
  by_cases hc : x1 ≤ x4
  · skip
    obtain ⟨h', r, K, q⟩ := K1 hc
    exact ⟨h', r, j_iload dL_areParted_31 rfl <| j_iload_n dL_areParted_33 rfl rfl <| j_icmp_ge_t (tgt := 145) dL_areParted_34 (by decide) hc (j_pick [0, 2, 3] rfl K), q⟩
  · skip
    obtain ⟨h', r, K, q⟩ := K2 hc
    exact ⟨h', r, j_iload dL_areParted_31 rfl <| j_iload_n dL_areParted_33 rfl rfl <| j_icmp_ge_f dL_areParted_34 145 (by decide) hc K, q⟩
theorem bL_areParted_37 {h0 h : k_H} {Q : k_H → k_R → Prop} {x0 : Option Nat} {x1 x2 x3 x4 : Int32} (K1 : x3 = 0 → k_X (jL_areParted G l h0) h 145 [(0, vR x0), (2, vI x2), (3, vI x3)] [] Q) (K2 : ¬ (x3 = 0) → k_X (jL_areParted G l h0) h 41 [(0, vR x0), (1, vI x1), (2, vI x2), (4, vI x4)] [] Q) : k_X (jL_areParted G l h0) h 37 [(0, vR x0), (1, vI x1), (2, vI x2), (3, vI x3), (4, vI x4)] [] Q := by
  by_cases hc : x3 = 0
  · skip
    obtain ⟨h', r, K, q⟩ := K1 hc
    exact ⟨h', r, j_iload_n dL_areParted_37 rfl rfl <| j_if_eq_t (tgt := 145) dL_areParted_38 (by decide) hc (j_pick [0, 2, 3] rfl K), q⟩
  · skip
    obtain ⟨h', r, K, q⟩ := K2 hc
    exact ⟨h', r, j_iload_n dL_areParted_37 rfl rfl <| j_if_eq_f dL_areParted_38 145 (by decide) hc (j_pick [0, 1, 2, 4] rfl K), q⟩
theorem bL_areParted_41 {h0 h : k_H} {Q : k_H → k_R → Prop} {x0 : Nat} {x1 x2 x4 : Int32} (w : k_is h x0 14) {P : k_H → Int32 → Prop} (c : k_cti (tX11_part G l) [vR (some x0), vI x4, vI 1] h P) (K : ∀ h1 v, P h1 v → k_X (jL_areParted G l h0) h1 48 [(0, vR (some x0)), (1, vI x1), (2, vI x2), (4, vI x4)] [vI v] Q) : k_X (jL_areParted G l h0) h 41 [(0, vR (some x0)), (1, vI x1), (2, vI x2), (4, vI x4)] [] Q := by
  obtain ⟨h1, v, c, p⟩ := c
  obtain ⟨h', r, K, q⟩ := K h1 v p
  exact ⟨h', r, j_aload_n dL_areParted_41 rfl rfl <| j_iload dL_areParted_42 rfl <| j_iconst (v := 1) dL_areParted_44 (by decide) <| j_callV (v := some (vI v)) (as := [vI x4, vI 1]) dL_areParted_45 kc_L_83 rfl rfl w (by decide) (Nat.le_of_ble_eq_true rfl) c K, q⟩
theorem bL_areParted_41x {h0 h : k_H} {Q : k_H → k_R → Prop} {x0 : Nat} {x1 x2 x4 : Int32} (w : k_is h x0 14) {E : String} {P : k_H → Prop} (c : k_ctx (tX11_part G l) [vR (some x0), vI x4, vI 1] h E P) (q : ∀ h1, P h1 → Q h1 (.inr E)) : k_X (jL_areParted G l h0) h 41 [(0, vR (some x0)), (1, vI x1), (2, vI x2), (4, vI x4)] [] Q := by
  obtain ⟨h1, c, p⟩ := c
  exact ⟨h1, _, j_aload_n dL_areParted_41 rfl rfl <| j_iload dL_areParted_42 rfl <| j_iconst (v := 1) dL_areParted_44 (by decide) <| j_callVx (as := [vI x4, vI 1]) dL_areParted_45 kc_L_83 rfl rfl w (by decide) (Nat.le_of_ble_eq_true rfl) c, q h1 p⟩
theorem bL_areParted_48 {h0 h : k_H} {Q : k_H → k_R → Prop} {x0 : Nat} {x1 x2 x4 s0 : Int32} (w : k_is h x0 14) {P : k_H → Int32 → Prop} (c : k_cti (tX11_part G l) [vR (some x0), vI x4, vI 0] h P) (K : ∀ h1 v, P h1 v → k_X (jL_areParted G l h0) h1 57 [(0, vR (some x0)), (1, vI x1), (2, vI x2), (4, vI x4), (5, vI s0)] [vI v] Q) : k_X (jL_areParted G l h0) h 48 [(0, vR (some x0)), (1, vI x1), (2, vI x2), (4, vI x4)] [vI s0] Q := by
  obtain ⟨h1, v, c, p⟩ := c
  obtain ⟨h', r, K, q⟩ := K h1 v p
  exact ⟨h', r, j_istore dL_areParted_48 (by decide) rfl <| j_aload_n dL_areParted_50 rfl rfl <| j_iload dL_areParted_51 rfl <| j_iconst (v := 0) dL_areParted_53 (by decide) <| j_callV (v := some (vI v)) (as := [vI x4, vI 0]) dL_areParted_54 kc_L_83 rfl rfl w (by decide) (Nat.le_of_ble_eq_true rfl) c K, q⟩
theorem bL_areParted_48x {h0 h : k_H} {Q : k_H → k_R → Prop} {x0 : Nat} {x1 x2 x4 s0 : Int32} (w : k_is h x0 14) {E : String} {P : k_H → Prop} (c : k_ctx (tX11_part G l) [vR (some x0), vI x4, vI 0] h E P) (q : ∀ h1, P h1 → Q h1 (.inr E)) : k_X (jL_areParted G l h0) h 48 [(0, vR (some x0)), (1, vI x1), (2, vI x2), (4, vI x4)] [vI s0] Q := by
  obtain ⟨h1, c, p⟩ := c
  exact ⟨h1, _, j_istore dL_areParted_48 (by decide) rfl <| j_aload_n dL_areParted_50 rfl rfl <| j_iload dL_areParted_51 rfl <| j_iconst (v := 0) dL_areParted_53 (by decide) <| j_callVx (as := [vI x4, vI 0]) dL_areParted_54 kc_L_83 rfl rfl w (by decide) (Nat.le_of_ble_eq_true rfl) c, q h1 p⟩
theorem bL_areParted_57 {h0 h : k_H} {Q : k_H → k_R → Prop} {x0 : Option Nat} {x1 x2 x4 x5 s0 : Int32} (K1 : x5 < 0 → k_X (jL_areParted G l h0) h 137 [(0, vR x0), (1, vI x1), (2, vI (x2 + x5)), (4, vI x4)] [] Q) (K2 : ¬ (x5 < 0) → k_X (jL_areParted G l h0) h 69 [(0, vR x0), (1, vI x1), (2, vI (x2 + x5)), (4, vI x4), (5, vI x5), (6, vI s0)] [] Q) : k_X (jL_areParted G l h0) h 57 [(0, vR x0), (1, vI x1), (2, vI x2), (4, vI x4), (5, vI x5)] [vI s0] Q := by
  by_cases hc : x5 < 0
  · skip
    obtain ⟨h', r, K, q⟩ := K1 hc
    exact ⟨h', r, j_istore dL_areParted_57 (by decide) rfl <| j_iload_n dL_areParted_59 rfl rfl <| j_iload dL_areParted_60 rfl <| j_iadd dL_areParted_62 <| j_istore_n dL_areParted_63 rfl (by decide) rfl <| j_iload dL_areParted_64 rfl <| j_if_lt_t (tgt := 137) dL_areParted_66 (by decide) hc (j_pick [0, 1, 2, 3] rfl K), q⟩
  · skip
    obtain ⟨h', r, K, q⟩ := K2 hc
    exact ⟨h', r, j_istore dL_areParted_57 (by decide) rfl <| j_iload_n dL_areParted_59 rfl rfl <| j_iload dL_areParted_60 rfl <| j_iadd dL_areParted_62 <| j_istore_n dL_areParted_63 rfl (by decide) rfl <| j_iload dL_areParted_64 rfl <| j_if_lt_f dL_areParted_66 137 (by decide) hc K, q⟩
theorem bL_areParted_69 {h0 h : k_H} {Q : k_H → k_R → Prop} {x0 : Option Nat} {x1 x2 x4 x5 x6 : Int32} (K1 : 9 ≤ x5 → k_X (jL_areParted G l h0) h 137 [(0, vR x0), (1, vI x1), (2, vI x2), (4, vI x4)] [] Q) (K2 : ¬ (9 ≤ x5) → k_X (jL_areParted G l h0) h 76 [(0, vR x0), (1, vI x1), (2, vI x2), (4, vI x4), (5, vI x5), (6, vI x6)] [] Q) : k_X (jL_areParted G l h0) h 69 [(0, vR x0), (1, vI x1), (2, vI x2), (4, vI x4), (5, vI x5), (6, vI x6)] [] Q := by
  by_cases hc : 9 ≤ x5
  · skip
    obtain ⟨h', r, K, q⟩ := K1 hc
    exact ⟨h', r, j_iload dL_areParted_69 rfl <| j_bipush (v := 9) dL_areParted_71 (by decide) <| j_icmp_ge_t (tgt := 137) dL_areParted_73 (by decide) hc (j_pick [0, 1, 2, 3] rfl K), q⟩
  · skip
    obtain ⟨h', r, K, q⟩ := K2 hc
    exact ⟨h', r, j_iload dL_areParted_69 rfl <| j_bipush (v := 9) dL_areParted_71 (by decide) <| j_icmp_ge_f dL_areParted_73 137 (by decide) hc K, q⟩
theorem bL_areParted_76 {h0 h : k_H} {Q : k_H → k_R → Prop} {x0 : Option Nat} {x1 x2 x4 x5 x6 : Int32} (K1 : x6 < 0 → k_X (jL_areParted G l h0) h 137 [(0, vR x0), (1, vI x1), (2, vI x2), (4, vI x4)] [] Q) (K2 : ¬ (x6 < 0) → k_X (jL_areParted G l h0) h 81 [(0, vR x0), (1, vI x1), (2, vI x2), (4, vI x4), (5, vI x5), (6, vI x6)] [] Q) : k_X (jL_areParted G l h0) h 76 [(0, vR x0), (1, vI x1), (2, vI x2), (4, vI x4), (5, vI x5), (6, vI x6)] [] Q := by
  by_cases hc : x6 < 0
  · skip
    obtain ⟨h', r, K, q⟩ := K1 hc
    exact ⟨h', r, j_iload dL_areParted_76 rfl <| j_if_lt_t (tgt := 137) dL_areParted_78 (by decide) hc (j_pick [0, 1, 2, 3] rfl K), q⟩
  · skip
    obtain ⟨h', r, K, q⟩ := K2 hc
    exact ⟨h', r, j_iload dL_areParted_76 rfl <| j_if_lt_f dL_areParted_78 137 (by decide) hc K, q⟩
theorem bL_areParted_81 {h0 h : k_H} {Q : k_H → k_R → Prop} {x0 : Option Nat} {x1 x2 x4 x5 x6 : Int32} (K1 : 3 ≤ x6 → k_X (jL_areParted G l h0) h 137 [(0, vR x0), (1, vI x1), (2, vI x2), (4, vI x4)] [] Q) (K2 : ¬ (3 ≤ x6) → k_X (jL_areParted G l h0) h 87 [(0, vR x0), (1, vI x1), (2, vI x2), (4, vI x4), (5, vI x5)] [] Q) : k_X (jL_areParted G l h0) h 81 [(0, vR x0), (1, vI x1), (2, vI x2), (4, vI x4), (5, vI x5), (6, vI x6)] [] Q := by
  by_cases hc : 3 ≤ x6
  · skip
    obtain ⟨h', r, K, q⟩ := K1 hc
    exact ⟨h', r, j_iload dL_areParted_81 rfl <| j_iconst (v := 3) dL_areParted_83 (by decide) <| j_icmp_ge_t (tgt := 137) dL_areParted_84 (by decide) hc (j_pick [0, 1, 2, 3] rfl K), q⟩
  · skip
    obtain ⟨h', r, K, q⟩ := K2 hc
    exact ⟨h', r, j_iload dL_areParted_81 rfl <| j_iconst (v := 3) dL_areParted_83 (by decide) <| j_icmp_ge_f dL_areParted_84 137 (by decide) hc (j_pick [0, 1, 2, 3, 4] rfl K), q⟩
theorem bL_areParted_87 {h0 h : k_H} {Q : k_H → k_R → Prop} {x0 : Option Nat} {x1 x2 x4 x5 : Int32} (K1 : x4 = 0 → k_X (jL_areParted G l h0) h 108 [(0, vR x0), (1, vI x1), (2, vI x2), (4, vI x4)] [] Q) (K2 : ¬ (x4 = 0) → k_X (jL_areParted G l h0) h 92 [(0, vR x0), (1, vI x1), (2, vI x2), (4, vI x4), (5, vI x5)] [] Q) : k_X (jL_areParted G l h0) h 87 [(0, vR x0), (1, vI x1), (2, vI x2), (4, vI x4), (5, vI x5)] [] Q := by
  by_cases hc : x4 = 0
  · skip
    obtain ⟨h', r, K, q⟩ := K1 hc
    exact ⟨h', r, j_iload dL_areParted_87 rfl <| j_if_eq_t (tgt := 108) dL_areParted_89 (by decide) hc (j_pick [0, 1, 2, 3] rfl K), q⟩
  · skip
    obtain ⟨h', r, K, q⟩ := K2 hc
    exact ⟨h', r, j_iload dL_areParted_87 rfl <| j_if_eq_f dL_areParted_89 108 (by decide) hc K, q⟩
theorem bL_areParted_92 {h0 h : k_H} {Q : k_H → k_R → Prop} {x0 : Nat} {x1 x2 x4 x5 : Int32} (w : k_is h x0 14) {P : k_H → Int32 → Prop} (c : k_cti (tX11_part G l) [vR (some x0), vI (x4 - 1), vI 1] h P) (K : ∀ h1 v, P h1 v → k_X (jL_areParted G l h0) h1 101 [(0, vR (some x0)), (1, vI x1), (2, vI x2), (4, vI x4), (5, vI x5)] [vI v] Q) : k_X (jL_areParted G l h0) h 92 [(0, vR (some x0)), (1, vI x1), (2, vI x2), (4, vI x4), (5, vI x5)] [] Q := by
  obtain ⟨h1, v, c, p⟩ := c
  obtain ⟨h', r, K, q⟩ := K h1 v p
  exact ⟨h', r, j_aload_n dL_areParted_92 rfl rfl <| j_iload dL_areParted_93 rfl <| j_iconst (v := 1) dL_areParted_95 (by decide) <| j_isub dL_areParted_96 <| j_iconst (v := 1) dL_areParted_97 (by decide) <| j_callV (v := some (vI v)) (as := [vI (x4 - 1), vI 1]) dL_areParted_98 kc_L_83 rfl rfl w (by decide) (Nat.le_of_ble_eq_true rfl) c K, q⟩
theorem bL_areParted_92x {h0 h : k_H} {Q : k_H → k_R → Prop} {x0 : Nat} {x1 x2 x4 x5 : Int32} (w : k_is h x0 14) {E : String} {P : k_H → Prop} (c : k_ctx (tX11_part G l) [vR (some x0), vI (x4 - 1), vI 1] h E P) (q : ∀ h1, P h1 → Q h1 (.inr E)) : k_X (jL_areParted G l h0) h 92 [(0, vR (some x0)), (1, vI x1), (2, vI x2), (4, vI x4), (5, vI x5)] [] Q := by
  obtain ⟨h1, c, p⟩ := c
  exact ⟨h1, _, j_aload_n dL_areParted_92 rfl rfl <| j_iload dL_areParted_93 rfl <| j_iconst (v := 1) dL_areParted_95 (by decide) <| j_isub dL_areParted_96 <| j_iconst (v := 1) dL_areParted_97 (by decide) <| j_callVx (as := [vI (x4 - 1), vI 1]) dL_areParted_98 kc_L_83 rfl rfl w (by decide) (Nat.le_of_ble_eq_true rfl) c, q h1 p⟩
theorem bL_areParted_101 {h0 h : k_H} {Q : k_H → k_R → Prop} {x0 : Option Nat} {x1 x2 x4 x5 s0 : Int32} (K1 : (s0 + x5) ≤ 3 → k_X (jL_areParted G l h0) h 137 [(0, vR x0), (1, vI x1), (2, vI x2), (4, vI x4)] [] Q) (K2 : ¬ ((s0 + x5) ≤ 3) → k_X (jL_areParted G l h0) h 108 [(0, vR x0), (1, vI x1), (2, vI x2), (4, vI x4)] [] Q) : k_X (jL_areParted G l h0) h 101 [(0, vR x0), (1, vI x1), (2, vI x2), (4, vI x4), (5, vI x5)] [vI s0] Q := by
  by_cases hc : (s0 + x5) ≤ 3
  · skip
    obtain ⟨h', r, K, q⟩ := K1 hc
    exact ⟨h', r, j_iload dL_areParted_101 rfl <| j_iadd dL_areParted_103 <| j_iconst (v := 3) dL_areParted_104 (by decide) <| j_icmp_le_t (tgt := 137) dL_areParted_105 (by decide) hc (j_pick [0, 1, 2, 3] rfl K), q⟩
  · skip
    obtain ⟨h', r, K, q⟩ := K2 hc
    exact ⟨h', r, j_iload dL_areParted_101 rfl <| j_iadd dL_areParted_103 <| j_iconst (v := 3) dL_areParted_104 (by decide) <| j_icmp_le_f dL_areParted_105 137 (by decide) hc (j_pick [0, 1, 2, 3] rfl K), q⟩
theorem bL_areParted_108 {h0 h : k_H} {Q : k_H → k_R → Prop} {x0 : Option Nat} {x1 x2 x4 : Int32} (K1 : x4 < 2 → k_X (jL_areParted G l h0) h 133 [(0, vR x0), (1, vI x1), (2, vI x2), (4, vI x4)] [] Q) (K2 : ¬ (x4 < 2) → k_X (jL_areParted G l h0) h 114 [(0, vR x0), (1, vI x1), (2, vI x2), (4, vI x4)] [] Q) : k_X (jL_areParted G l h0) h 108 [(0, vR x0), (1, vI x1), (2, vI x2), (4, vI x4)] [] Q := by
  by_cases hc : x4 < 2
  · skip
    obtain ⟨h', r, K, q⟩ := K1 hc
    exact ⟨h', r, j_iload dL_areParted_108 rfl <| j_iconst (v := 2) dL_areParted_110 (by decide) <| j_icmp_lt_t (tgt := 133) dL_areParted_111 (by decide) hc K, q⟩
  · skip
    obtain ⟨h', r, K, q⟩ := K2 hc
    exact ⟨h', r, j_iload dL_areParted_108 rfl <| j_iconst (v := 2) dL_areParted_110 (by decide) <| j_icmp_lt_f dL_areParted_111 133 (by decide) hc K, q⟩
theorem bL_areParted_114 {h0 h : k_H} {Q : k_H → k_R → Prop} {x0 : Nat} {x1 x2 x4 : Int32} (w : k_is h x0 14) {P : k_H → Int32 → Prop} (c : k_cti (tX11_part G l) [vR (some x0), vI (x4 - 1), vI 2] h P) (K : ∀ h1 v, P h1 v → k_X (jL_areParted G l h0) h1 123 [(0, vR (some x0)), (1, vI x1), (2, vI x2), (4, vI x4)] [vI v] Q) : k_X (jL_areParted G l h0) h 114 [(0, vR (some x0)), (1, vI x1), (2, vI x2), (4, vI x4)] [] Q := by
  obtain ⟨h1, v, c, p⟩ := c
  obtain ⟨h', r, K, q⟩ := K h1 v p
  exact ⟨h', r, j_aload_n dL_areParted_114 rfl rfl <| j_iload dL_areParted_115 rfl <| j_iconst (v := 1) dL_areParted_117 (by decide) <| j_isub dL_areParted_118 <| j_iconst (v := 2) dL_areParted_119 (by decide) <| j_callV (v := some (vI v)) (as := [vI (x4 - 1), vI 2]) dL_areParted_120 kc_L_83 rfl rfl w (by decide) (Nat.le_of_ble_eq_true rfl) c K, q⟩
theorem bL_areParted_114x {h0 h : k_H} {Q : k_H → k_R → Prop} {x0 : Nat} {x1 x2 x4 : Int32} (w : k_is h x0 14) {E : String} {P : k_H → Prop} (c : k_ctx (tX11_part G l) [vR (some x0), vI (x4 - 1), vI 2] h E P) (q : ∀ h1, P h1 → Q h1 (.inr E)) : k_X (jL_areParted G l h0) h 114 [(0, vR (some x0)), (1, vI x1), (2, vI x2), (4, vI x4)] [] Q := by
  obtain ⟨h1, c, p⟩ := c
  exact ⟨h1, _, j_aload_n dL_areParted_114 rfl rfl <| j_iload dL_areParted_115 rfl <| j_iconst (v := 1) dL_areParted_117 (by decide) <| j_isub dL_areParted_118 <| j_iconst (v := 2) dL_areParted_119 (by decide) <| j_callVx (as := [vI (x4 - 1), vI 2]) dL_areParted_120 kc_L_83 rfl rfl w (by decide) (Nat.le_of_ble_eq_true rfl) c, q h1 p⟩
theorem bL_areParted_123 {h0 h : k_H} {Q : k_H → k_R → Prop} {x0 : Nat} {x1 x2 x4 s0 : Int32} (w : k_is h x0 14) {P : k_H → Int32 → Prop} (c : k_cti (tX11_part G l) [vR (some x0), vI x4, vI 2] h P) (K : ∀ h1 v, P h1 v → k_X (jL_areParted G l h0) h1 130 [(0, vR (some x0)), (1, vI x1), (2, vI x2), (4, vI x4)] [vI v, vI s0] Q) : k_X (jL_areParted G l h0) h 123 [(0, vR (some x0)), (1, vI x1), (2, vI x2), (4, vI x4)] [vI s0] Q := by
  obtain ⟨h1, v, c, p⟩ := c
  obtain ⟨h', r, K, q⟩ := K h1 v p
  exact ⟨h', r, j_aload_n dL_areParted_123 rfl rfl <| j_iload dL_areParted_124 rfl <| j_iconst (v := 2) dL_areParted_126 (by decide) <| j_callV (v := some (vI v)) (as := [vI x4, vI 2]) dL_areParted_127 kc_L_83 rfl rfl w (by decide) (Nat.le_of_ble_eq_true rfl) c K, q⟩
theorem bL_areParted_123x {h0 h : k_H} {Q : k_H → k_R → Prop} {x0 : Nat} {x1 x2 x4 s0 : Int32} (w : k_is h x0 14) {E : String} {P : k_H → Prop} (c : k_ctx (tX11_part G l) [vR (some x0), vI x4, vI 2] h E P) (q : ∀ h1, P h1 → Q h1 (.inr E)) : k_X (jL_areParted G l h0) h 123 [(0, vR (some x0)), (1, vI x1), (2, vI x2), (4, vI x4)] [vI s0] Q := by
  obtain ⟨h1, c, p⟩ := c
  exact ⟨h1, _, j_aload_n dL_areParted_123 rfl rfl <| j_iload dL_areParted_124 rfl <| j_iconst (v := 2) dL_areParted_126 (by decide) <| j_callVx (as := [vI x4, vI 2]) dL_areParted_127 kc_L_83 rfl rfl w (by decide) (Nat.le_of_ble_eq_true rfl) c, q h1 p⟩
theorem bL_areParted_130 {h0 h : k_H} {Q : k_H → k_R → Prop} {x0 : Option Nat} {x1 x2 x4 s0 s1 : Int32} (K1 : s1 < s0 → k_X (jL_areParted G l h0) h 137 [(0, vR x0), (1, vI x1), (2, vI x2), (4, vI x4)] [] Q) (K2 : ¬ (s1 < s0) → k_X (jL_areParted G l h0) h 133 [(0, vR x0), (1, vI x1), (2, vI x2), (4, vI x4)] [] Q) : k_X (jL_areParted G l h0) h 130 [(0, vR x0), (1, vI x1), (2, vI x2), (4, vI x4)] [vI s1, vI s0] Q := by
  by_cases hc : s1 < s0
  · skip
    obtain ⟨h', r, K, q⟩ := K1 hc
    exact ⟨h', r, j_icmp_gt_t (tgt := 137) dL_areParted_130 (by decide) hc K, q⟩
  · skip
    obtain ⟨h', r, K, q⟩ := K2 hc
    exact ⟨h', r, j_icmp_gt_f dL_areParted_130 137 (by decide) hc K, q⟩
theorem bL_areParted_133 {h0 h : k_H} {Q : k_H → k_R → Prop} {x0 : Option Nat} {x1 x2 x4 : Int32} (K : k_X (jL_areParted G l h0) h 138 [(0, vR x0), (1, vI x1), (2, vI x2), (4, vI x4)] [vI 1] Q) : k_X (jL_areParted G l h0) h 133 [(0, vR x0), (1, vI x1), (2, vI x2), (4, vI x4)] [] Q := by
  obtain ⟨h', r, K, q⟩ := K
  exact ⟨h', r, j_iconst (v := 1) dL_areParted_133 (by decide) <| j_goto (tgt := 138) dL_areParted_134 (by decide) <| K, q⟩
theorem bL_areParted_137 {h0 h : k_H} {Q : k_H → k_R → Prop} {x0 : Option Nat} {x1 x2 x4 : Int32} (K : k_X (jL_areParted G l h0) h 138 [(0, vR x0), (1, vI x1), (2, vI x2), (4, vI x4)] [vI 0] Q) : k_X (jL_areParted G l h0) h 137 [(0, vR x0), (1, vI x1), (2, vI x2), (4, vI x4)] [] Q := by
  obtain ⟨h', r, K, q⟩ := K
  exact ⟨h', r, j_iconst (v := 0) dL_areParted_137 (by decide) <| K, q⟩
theorem bL_areParted_138 {h0 h : k_H} {Q : k_H → k_R → Prop} {x0 : Option Nat} {x1 x2 x4 s0 : Int32} (K : k_X (jL_areParted G l h0) h 31 [(0, vR x0), (1, vI x1), (2, vI x2), (3, vI s0), (4, vI (x4 + 1))] [] Q) : k_X (jL_areParted G l h0) h 138 [(0, vR x0), (1, vI x1), (2, vI x2), (4, vI x4)] [vI s0] Q := by
  obtain ⟨h', r, K, q⟩ := K
  exact ⟨h', r, j_istore_n dL_areParted_138 rfl (by decide) rfl <| j_iinc (v := x4 + 1) dL_areParted_139 rfl (by decide) rfl rfl <| j_goto (tgt := 31) dL_areParted_142 (by decide) <| K, q⟩
theorem bL_areParted_145 {h0 h : k_H} {Q : k_H → k_R → Prop} {x0 : Nat} {x2 x3 : Int32} (w : k_is h x0 14) {P : k_H → Int32 → Prop} (c : k_cti (tX11_begin G l) [vR (some x0), vI 3, vI 0] h P) (K : ∀ h1 v, P h1 v → k_X (jL_areParted G l h0) h1 151 [(0, vR (some x0)), (2, vI x2), (3, vI x3)] [vI v] Q) : k_X (jL_areParted G l h0) h 145 [(0, vR (some x0)), (2, vI x2), (3, vI x3)] [] Q := by
  obtain ⟨h1, v, c, p⟩ := c
  obtain ⟨h', r, K, q⟩ := K h1 v p
  exact ⟨h', r, j_aload_n dL_areParted_145 rfl rfl <| j_iconst (v := 3) dL_areParted_146 (by decide) <| j_iconst (v := 0) dL_areParted_147 (by decide) <| j_callV (v := some (vI v)) (as := [vI 3, vI 0]) dL_areParted_148 kc_L_9 rfl rfl w (by decide) (Nat.le_of_ble_eq_true rfl) c K, q⟩
theorem bL_areParted_145x {h0 h : k_H} {Q : k_H → k_R → Prop} {x0 : Nat} {x2 x3 : Int32} (w : k_is h x0 14) {E : String} {P : k_H → Prop} (c : k_ctx (tX11_begin G l) [vR (some x0), vI 3, vI 0] h E P) (q : ∀ h1, P h1 → Q h1 (.inr E)) : k_X (jL_areParted G l h0) h 145 [(0, vR (some x0)), (2, vI x2), (3, vI x3)] [] Q := by
  obtain ⟨h1, c, p⟩ := c
  exact ⟨h1, _, j_aload_n dL_areParted_145 rfl rfl <| j_iconst (v := 3) dL_areParted_146 (by decide) <| j_iconst (v := 0) dL_areParted_147 (by decide) <| j_callVx (as := [vI 3, vI 0]) dL_areParted_148 kc_L_9 rfl rfl w (by decide) (Nat.le_of_ble_eq_true rfl) c, q h1 p⟩
theorem bL_areParted_151 {h0 h : k_H} {Q : k_H → k_R → Prop} {x0 : Option Nat} {x2 x3 s0 : Int32} (K1 : x3 = 0 → k_X (jL_areParted G l h0) h 194 [] [] Q) (K2 : ¬ (x3 = 0) → k_X (jL_areParted G l h0) h 156 [(0, vR x0), (2, vI x2)] [] Q) : k_X (jL_areParted G l h0) h 151 [(0, vR x0), (2, vI x2), (3, vI x3)] [vI s0] Q := by
  by_cases hc : x3 = 0
  · skip
    obtain ⟨h', r, K, q⟩ := K1 hc
    exact ⟨h', r, j_pop dL_areParted_151 rfl <| j_iload_n dL_areParted_152 rfl rfl <| j_if_eq_t (tgt := 194) dL_areParted_153 (by decide) hc (j_pick [] rfl K), q⟩
  · skip
    obtain ⟨h', r, K, q⟩ := K2 hc
    exact ⟨h', r, j_pop dL_areParted_151 rfl <| j_iload_n dL_areParted_152 rfl rfl <| j_if_eq_f dL_areParted_153 194 (by decide) hc (j_pick [0, 1] rfl K), q⟩
theorem bL_areParted_156 {h0 h : k_H} {Q : k_H → k_R → Prop} {x0 : Nat} {x2 : Int32} (w : k_is h x0 14) {P : k_H → Int32 → Prop} (c : k_cti (tX11_range G l) [vR (some x0), vI 3, vI 10000, vI 10000, vI 0] h P) (K : ∀ h1 v, P h1 v → k_X (jL_areParted G l h0) h1 168 [(0, vR (some x0)), (2, vI x2)] [vI v] Q) : k_X (jL_areParted G l h0) h 156 [(0, vR (some x0)), (2, vI x2)] [] Q := by
  obtain ⟨h1, v, c, p⟩ := c
  obtain ⟨h', r, K, q⟩ := K h1 v p
  exact ⟨h', r, j_aload_n dL_areParted_156 rfl rfl <| j_iconst (v := 3) dL_areParted_157 (by decide) <| j_sipush (v := 10000) dL_areParted_158 (by decide) <| j_sipush (v := 10000) dL_areParted_161 (by decide) <| j_iconst (v := 0) dL_areParted_164 (by decide) <| j_callV (v := some (vI v)) (as := [vI 3, vI 10000, vI 10000, vI 0]) dL_areParted_165 kc_L_19 rfl rfl w (by decide) (Nat.le_of_ble_eq_true rfl) c K, q⟩
theorem bL_areParted_156x {h0 h : k_H} {Q : k_H → k_R → Prop} {x0 : Nat} {x2 : Int32} (w : k_is h x0 14) {E : String} {P : k_H → Prop} (c : k_ctx (tX11_range G l) [vR (some x0), vI 3, vI 10000, vI 10000, vI 0] h E P) (q : ∀ h1, P h1 → Q h1 (.inr E)) : k_X (jL_areParted G l h0) h 156 [(0, vR (some x0)), (2, vI x2)] [] Q := by
  obtain ⟨h1, c, p⟩ := c
  exact ⟨h1, _, j_aload_n dL_areParted_156 rfl rfl <| j_iconst (v := 3) dL_areParted_157 (by decide) <| j_sipush (v := 10000) dL_areParted_158 (by decide) <| j_sipush (v := 10000) dL_areParted_161 (by decide) <| j_iconst (v := 0) dL_areParted_164 (by decide) <| j_callVx (as := [vI 3, vI 10000, vI 10000, vI 0]) dL_areParted_165 kc_L_19 rfl rfl w (by decide) (Nat.le_of_ble_eq_true rfl) c, q h1 p⟩
theorem bL_areParted_168 {h0 h : k_H} {Q : k_H → k_R → Prop} {x0 : Option Nat} {x2 s0 : Int32} (K1 : ¬ (s0 = x2) → k_X (jL_areParted G l h0) h 194 [] [] Q) (K2 : s0 = x2 → k_X (jL_areParted G l h0) h 172 [(0, vR x0), (2, vI x2)] [] Q) : k_X (jL_areParted G l h0) h 168 [(0, vR x0), (2, vI x2)] [vI s0] Q := by
  by_cases hc : s0 = x2
  · skip
    obtain ⟨h', r, K, q⟩ := K2 hc
    exact ⟨h', r, j_iload_n dL_areParted_168 rfl rfl <| j_icmp_ne_f dL_areParted_169 194 (by decide) hc K, q⟩
  · skip
    obtain ⟨h', r, K, q⟩ := K1 hc
    exact ⟨h', r, j_iload_n dL_areParted_168 rfl rfl <| j_icmp_ne_t (tgt := 194) dL_areParted_169 (by decide) hc (j_pick [] rfl K), q⟩
theorem bL_areParted_172 {h0 h : k_H} {Q : k_H → k_R → Prop} {x0 : Nat} {x2 : Int32} (w : k_is h x0 14) {P : k_H → Int32 → Prop} (c : k_cti (tX11_rangeAt G l) [vR (some x0), vI 3, vI 10000, vI 10000, vI x2, vI 0] h P) (K : ∀ h1 v, P h1 v → k_X (jL_areParted G l h0) h1 185 [] [vI v] Q) : k_X (jL_areParted G l h0) h 172 [(0, vR (some x0)), (2, vI x2)] [] Q := by
  obtain ⟨h1, v, c, p⟩ := c
  obtain ⟨h', r, K, q⟩ := K h1 v p
  exact ⟨h', r, j_aload_n dL_areParted_172 rfl rfl <| j_iconst (v := 3) dL_areParted_173 (by decide) <| j_sipush (v := 10000) dL_areParted_174 (by decide) <| j_sipush (v := 10000) dL_areParted_177 (by decide) <| j_iload_n dL_areParted_180 rfl rfl <| j_iconst (v := 0) dL_areParted_181 (by decide) <| j_callV (v := some (vI v)) (as := [vI 3, vI 10000, vI 10000, vI x2, vI 0]) dL_areParted_182 kc_L_23 rfl rfl w (by decide) (Nat.le_of_ble_eq_true rfl) c (j_pick [] rfl K), q⟩
theorem bL_areParted_172x {h0 h : k_H} {Q : k_H → k_R → Prop} {x0 : Nat} {x2 : Int32} (w : k_is h x0 14) {E : String} {P : k_H → Prop} (c : k_ctx (tX11_rangeAt G l) [vR (some x0), vI 3, vI 10000, vI 10000, vI x2, vI 0] h E P) (q : ∀ h1, P h1 → Q h1 (.inr E)) : k_X (jL_areParted G l h0) h 172 [(0, vR (some x0)), (2, vI x2)] [] Q := by
  obtain ⟨h1, c, p⟩ := c
  exact ⟨h1, _, j_aload_n dL_areParted_172 rfl rfl <| j_iconst (v := 3) dL_areParted_173 (by decide) <| j_sipush (v := 10000) dL_areParted_174 (by decide) <| j_sipush (v := 10000) dL_areParted_177 (by decide) <| j_iload_n dL_areParted_180 rfl rfl <| j_iconst (v := 0) dL_areParted_181 (by decide) <| j_callVx (as := [vI 3, vI 10000, vI 10000, vI x2, vI 0]) dL_areParted_182 kc_L_23 rfl rfl w (by decide) (Nat.le_of_ble_eq_true rfl) c, q h1 p⟩
theorem bL_areParted_185 {h0 h : k_H} {Q : k_H → k_R → Prop} {s0 : Int32} (K1 : ¬ (s0 = (-2147483648)) → k_X (jL_areParted G l h0) h 194 [] [] Q) (K2 : s0 = (-2147483648) → k_X (jL_areParted G l h0) h 190 [] [] Q) : k_X (jL_areParted G l h0) h 185 [] [vI s0] Q := by
  by_cases hc : s0 = (-2147483648)
  · skip
    obtain ⟨h', r, K, q⟩ := K2 hc
    exact ⟨h', r, j_ldc (v := (-2147483648)) dL_areParted_185 ki_L_159 <| j_icmp_ne_f dL_areParted_187 194 (by decide) hc K, q⟩
  · skip
    obtain ⟨h', r, K, q⟩ := K1 hc
    exact ⟨h', r, j_ldc (v := (-2147483648)) dL_areParted_185 ki_L_159 <| j_icmp_ne_t (tgt := 194) dL_areParted_187 (by decide) hc K, q⟩
theorem bL_areParted_190 {h0 h : k_H} {Q : k_H → k_R → Prop} (K : k_X (jL_areParted G l h0) h 195 [] [vI 1] Q) : k_X (jL_areParted G l h0) h 190 [] [] Q := by
  obtain ⟨h', r, K, q⟩ := K
  exact ⟨h', r, j_iconst (v := 1) dL_areParted_190 (by decide) <| j_goto (tgt := 195) dL_areParted_191 (by decide) <| K, q⟩
theorem bL_areParted_194 {h0 h : k_H} {Q : k_H → k_R → Prop} (K : k_X (jL_areParted G l h0) h 195 [] [vI 0] Q) : k_X (jL_areParted G l h0) h 194 [] [] Q := by
  obtain ⟨h', r, K, q⟩ := K
  exact ⟨h', r, j_iconst (v := 0) dL_areParted_194 (by decide) <| K, q⟩
theorem bL_areParted_195 {h0 h : k_H} {Q : k_H → k_R → Prop} {s0 : Int32} (y1 : k_bl s0) (q : Q h (.inl (some (vI s0)))) : k_X (jL_areParted G l h0) h 195 [] [vI s0] Q := by
  exact ⟨_, _, j_zret dL_areParted_195 rfl y1, q⟩
theorem eL_was {G : k_G} {l : Launch} (hfl : l.flags = flags0) {h : k_H} {Q : k_H → k_R → Prop} {x0 : Option Nat} {x1 : Int32} {x2 : Int32} (K : k_X (jL_was G l h) h 0 [(0, vR x0), (1, vI x1), (2, vI x2)] [] Q) : k_ct (tL_was G l) [vR x0, vI x1, vI x2] h Q := by
  obtain ⟨h', r, K, q⟩ := K
  exact ⟨h', r, k_CtOf (by decide +kernel) (Nat.le_of_ble_eq_true rfl) K hfl, q⟩

theorem bL_was_0 {h0 h : k_H} {Q : k_H → k_R → Prop} {x0 : Option Nat} {x1 x2 : Int32} (K1 : 100 ≤ x2 → k_X (jL_was G l h0) h 19 [(0, vR x0), (1, vI x1), (2, vI x2)] [] Q) (K2 : ¬ (100 ≤ x2) → k_X (jL_was G l h0) h 6 [(0, vR x0), (1, vI x1), (2, vI x2)] [] Q) : k_X (jL_was G l h0) h 0 [(0, vR x0), (1, vI x1), (2, vI x2)] [] Q := by
  by_cases hc : 100 ≤ x2
  · skip
    obtain ⟨h', r, K, q⟩ := K1 hc
    exact ⟨h', r, j_iload_n dL_was_0 rfl rfl <| j_bipush (v := 100) dL_was_1 (by decide) <| j_icmp_ge_t (tgt := 19) dL_was_3 (by decide) hc K, q⟩
  · skip
    obtain ⟨h', r, K, q⟩ := K2 hc
    exact ⟨h', r, j_iload_n dL_was_0 rfl rfl <| j_bipush (v := 100) dL_was_1 (by decide) <| j_icmp_ge_f dL_was_3 19 (by decide) hc K, q⟩
theorem bL_was_6 {h0 h : k_H} {Q : k_H → k_R → Prop} {x0 : Nat} {x1 x2 : Int32} (w : k_is h x0 14) {P : k_H → Int32 → Prop} (c : k_cti (tX11_value G l) [vR (some x0), vI x1, vI (-1), vI x2, vI 10000] h P) (K : ∀ h1 v, P h1 v → k_X (jL_was G l h0) h1 16 [] [vI v] Q) : k_X (jL_was G l h0) h 6 [(0, vR (some x0)), (1, vI x1), (2, vI x2)] [] Q := by
  obtain ⟨h1, v, c, p⟩ := c
  obtain ⟨h', r, K, q⟩ := K h1 v p
  exact ⟨h', r, j_aload_n dL_was_6 rfl rfl <| j_iload_n dL_was_7 rfl rfl <| j_iconst (v := (-1)) dL_was_8 (by decide) <| j_iload_n dL_was_9 rfl rfl <| j_sipush (v := 10000) dL_was_10 (by decide) <| j_callV (v := some (vI v)) (as := [vI x1, vI (-1), vI x2, vI 10000]) dL_was_13 kc_L_42 rfl rfl w (by decide) (Nat.le_of_ble_eq_true rfl) c (j_pick [] rfl K), q⟩
theorem bL_was_6x {h0 h : k_H} {Q : k_H → k_R → Prop} {x0 : Nat} {x1 x2 : Int32} (w : k_is h x0 14) {E : String} {P : k_H → Prop} (c : k_ctx (tX11_value G l) [vR (some x0), vI x1, vI (-1), vI x2, vI 10000] h E P) (q : ∀ h1, P h1 → Q h1 (.inr E)) : k_X (jL_was G l h0) h 6 [(0, vR (some x0)), (1, vI x1), (2, vI x2)] [] Q := by
  obtain ⟨h1, c, p⟩ := c
  exact ⟨h1, _, j_aload_n dL_was_6 rfl rfl <| j_iload_n dL_was_7 rfl rfl <| j_iconst (v := (-1)) dL_was_8 (by decide) <| j_iload_n dL_was_9 rfl rfl <| j_sipush (v := 10000) dL_was_10 (by decide) <| j_callVx (as := [vI x1, vI (-1), vI x2, vI 10000]) dL_was_13 kc_L_42 rfl rfl w (by decide) (Nat.le_of_ble_eq_true rfl) c, q h1 p⟩
theorem bL_was_16 {h0 h : k_H} {Q : k_H → k_R → Prop} {s0 : Int32} (K : k_X (jL_was G l h0) h 34 [] [vI s0] Q) : k_X (jL_was G l h0) h 16 [] [vI s0] Q := by
  obtain ⟨h', r, K, q⟩ := K
  exact ⟨h', r, j_goto (tgt := 34) dL_was_16 (by decide) <| K, q⟩
theorem bL_was_19 {h0 h : k_H} {Q : k_H → k_R → Prop} {x0 : Nat} {x1 x2 : Int32} (w : k_is h x0 14) {P : k_H → Int32 → Prop} (c : k_cti (tX11_value G l) [vR (some x0), vI x1, vI (x2 - 100), vI 10000, vI 10000] h P) (K : ∀ h1 v, P h1 v → k_X (jL_was G l h0) h1 34 [] [vI v] Q) : k_X (jL_was G l h0) h 19 [(0, vR (some x0)), (1, vI x1), (2, vI x2)] [] Q := by
  obtain ⟨h1, v, c, p⟩ := c
  obtain ⟨h', r, K, q⟩ := K h1 v p
  exact ⟨h', r, j_aload_n dL_was_19 rfl rfl <| j_iload_n dL_was_20 rfl rfl <| j_iload_n dL_was_21 rfl rfl <| j_bipush (v := 100) dL_was_22 (by decide) <| j_isub dL_was_24 <| j_sipush (v := 10000) dL_was_25 (by decide) <| j_sipush (v := 10000) dL_was_28 (by decide) <| j_callV (v := some (vI v)) (as := [vI x1, vI (x2 - 100), vI 10000, vI 10000]) dL_was_31 kc_L_42 rfl rfl w (by decide) (Nat.le_of_ble_eq_true rfl) c (j_pick [] rfl K), q⟩
theorem bL_was_19x {h0 h : k_H} {Q : k_H → k_R → Prop} {x0 : Nat} {x1 x2 : Int32} (w : k_is h x0 14) {E : String} {P : k_H → Prop} (c : k_ctx (tX11_value G l) [vR (some x0), vI x1, vI (x2 - 100), vI 10000, vI 10000] h E P) (q : ∀ h1, P h1 → Q h1 (.inr E)) : k_X (jL_was G l h0) h 19 [(0, vR (some x0)), (1, vI x1), (2, vI x2)] [] Q := by
  obtain ⟨h1, c, p⟩ := c
  exact ⟨h1, _, j_aload_n dL_was_19 rfl rfl <| j_iload_n dL_was_20 rfl rfl <| j_iload_n dL_was_21 rfl rfl <| j_bipush (v := 100) dL_was_22 (by decide) <| j_isub dL_was_24 <| j_sipush (v := 10000) dL_was_25 (by decide) <| j_sipush (v := 10000) dL_was_28 (by decide) <| j_callVx (as := [vI x1, vI (x2 - 100), vI 10000, vI 10000]) dL_was_31 kc_L_42 rfl rfl w (by decide) (Nat.le_of_ble_eq_true rfl) c, q h1 p⟩
theorem bL_was_34 {h0 h : k_H} {Q : k_H → k_R → Prop} {s0 : Int32} (q : Q h (.inl (some (vI s0)))) : k_X (jL_was G l h0) h 34 [] [vI s0] Q := by
  exact ⟨_, _, j_iret dL_was_34 rfl, q⟩
theorem eL_isCommitted {G : k_G} {l : Launch} (hfl : l.flags = flags0) {h : k_H} {Q : k_H → k_R → Prop} {x0 : Option Nat} {x1 : Option Nat} {x2 : Option Nat} {x3 : Int32} (K : k_X (jL_isCommitted G l h) h 0 [(0, vR x0), (1, vR x1), (2, vR x2), (3, vI x3)] [] Q) : k_ct (tL_isCommitted G l) [vR x0, vR x1, vR x2, vI x3] h Q := by
  obtain ⟨h', r, K, q⟩ := K
  exact ⟨h', r, k_CtOf (by decide +kernel) (Nat.le_of_ble_eq_true rfl) K hfl, q⟩

theorem bL_isCommitted_0 {h0 h : k_H} {Q : k_H → k_R → Prop} {x0 x1 x2 : Option Nat} {x3 : Int32} {P : k_H → Int32 → Prop} (c : k_cti (tL_act G l) [vR x0, vI 6, vI x3, vI 0, vI 0, vI 0, vI 0, vI 0] h P) (K : ∀ h1 v, P h1 v → k_X (jL_isCommitted G l h0) h1 17 [(0, vR x0), (1, vR x1), (2, vR x2), (4, vI (5 * x3))] [vI v] Q) : k_X (jL_isCommitted G l h0) h 0 [(0, vR x0), (1, vR x1), (2, vR x2), (3, vI x3)] [] Q := by
  obtain ⟨h1, v, c, p⟩ := c
  obtain ⟨h', r, K, q⟩ := K h1 v p
  exact ⟨h', r, j_iconst (v := 5) dL_isCommitted_0 (by decide) <| j_iload_n dL_isCommitted_1 rfl rfl <| j_imul dL_isCommitted_2 <| j_istore dL_isCommitted_3 (by decide) rfl <| j_aload_n dL_isCommitted_5 rfl rfl <| j_bipush (v := 6) dL_isCommitted_6 (by decide) <| j_iload_n dL_isCommitted_8 rfl rfl <| j_iconst (v := 0) dL_isCommitted_9 (by decide) <| j_iconst (v := 0) dL_isCommitted_10 (by decide) <| j_iconst (v := 0) dL_isCommitted_11 (by decide) <| j_iconst (v := 0) dL_isCommitted_12 (by decide) <| j_iconst (v := 0) dL_isCommitted_13 (by decide) <| j_callW (v := some (vI v)) (as := [vR x0, vI 6, vI x3, vI 0, vI 0, vI 0, vI 0, vI 0]) dL_isCommitted_14 kcw_L_149 rfl rfl (by decide) (Nat.le_of_ble_eq_true rfl) c (j_pick [0, 1, 2, 4] rfl K), q⟩
theorem bL_isCommitted_17 {h0 h : k_H} {Q : k_H → k_R → Prop} {x0 : Nat} {x1 x2 : Option Nat} {x4 s0 : Int32} (w : k_is h x0 14) {P : k_H → Int32 → Prop} (c : k_cti (tX11_version G l) [vR (some x0)] h P) (K : ∀ h1 v, P h1 v → k_X (jL_isCommitted G l h0) h1 23 [(0, vR (some x0)), (1, vR x1), (2, vR x2), (4, vI x4), (5, vI s0)] [vI v] Q) : k_X (jL_isCommitted G l h0) h 17 [(0, vR (some x0)), (1, vR x1), (2, vR x2), (4, vI x4)] [vI s0] Q := by
  obtain ⟨h1, v, c, p⟩ := c
  obtain ⟨h', r, K, q⟩ := K h1 v p
  exact ⟨h', r, j_istore dL_isCommitted_17 (by decide) rfl <| j_aload_n dL_isCommitted_19 rfl rfl <| j_callV (v := some (vI v)) (as := []) dL_isCommitted_20 kc_L_128 rfl rfl w (by decide) (Nat.le_of_ble_eq_true rfl) c K, q⟩
theorem bL_isCommitted_23 {h0 h : k_H} {Q : k_H → k_R → Prop} {x0 x1 : Option Nat} {x2 : Nat} {x4 x5 s0 : Int32} {n1 : Nat} {w1 : Nat → Int32} (o1 : h.1 x2 = some (k_i n1 w1)) (y2 : vp_in x4 n1) (K1 : ¬ ((w1 (x4).toNatClampNeg) = 0) → k_X (jL_isCommitted G l h0) h 47 [(0, vR x0), (1, vR x1), (2, vR (some x2)), (4, vI x4), (5, vI x5), (6, vI s0)] [] Q) (K2 : (w1 (x4).toNatClampNeg) = 0 → k_X (jL_isCommitted G l h0) h 32 [(1, vR x1), (2, vR (some x2)), (4, vI x4), (5, vI x5), (6, vI s0)] [] Q) : k_X (jL_isCommitted G l h0) h 23 [(0, vR x0), (1, vR x1), (2, vR (some x2)), (4, vI x4), (5, vI x5)] [vI s0] Q := by
  by_cases hc : (w1 (x4).toNatClampNeg) = 0
  · skip
    obtain ⟨h', r, K, q⟩ := K2 hc
    exact ⟨h', r, j_istore dL_isCommitted_23 (by decide) rfl <| j_aload_n dL_isCommitted_25 rfl rfl <| j_iload dL_isCommitted_26 rfl <| j_iald dL_isCommitted_28 o1 y2 <| j_if_ne_f dL_isCommitted_29 47 (by decide) hc (j_pick [1, 2, 3, 4, 5] rfl K), q⟩
  · skip
    obtain ⟨h', r, K, q⟩ := K1 hc
    exact ⟨h', r, j_istore dL_isCommitted_23 (by decide) rfl <| j_aload_n dL_isCommitted_25 rfl rfl <| j_iload dL_isCommitted_26 rfl <| j_iald dL_isCommitted_28 o1 y2 <| j_if_ne_t (tgt := 47) dL_isCommitted_29 (by decide) hc K, q⟩
theorem bL_isCommitted_32 {h0 h : k_H} {Q : k_H → k_R → Prop} {x1 x2 : Option Nat} {x4 x5 x6 : Int32} (K1 : ¬ (x5 = (-2000000003)) → k_X (jL_isCommitted G l h0) h 43 [(1, vR x1), (2, vR x2), (4, vI x4), (5, vI x5), (6, vI x6)] [] Q) (K2 : x5 = (-2000000003) → k_X (jL_isCommitted G l h0) h 39 [(1, vR x1), (2, vR x2), (4, vI x4), (5, vI x5), (6, vI x6)] [] Q) : k_X (jL_isCommitted G l h0) h 32 [(1, vR x1), (2, vR x2), (4, vI x4), (5, vI x5), (6, vI x6)] [] Q := by
  by_cases hc : x5 = (-2000000003)
  · skip
    obtain ⟨h', r, K, q⟩ := K2 hc
    exact ⟨h', r, j_iload dL_isCommitted_32 rfl <| j_ldc (v := (-2000000003)) dL_isCommitted_34 ki_L_113 <| j_icmp_ne_f dL_isCommitted_36 43 (by decide) hc K, q⟩
  · skip
    obtain ⟨h', r, K, q⟩ := K1 hc
    exact ⟨h', r, j_iload dL_isCommitted_32 rfl <| j_ldc (v := (-2000000003)) dL_isCommitted_34 ki_L_113 <| j_icmp_ne_t (tgt := 43) dL_isCommitted_36 (by decide) hc K, q⟩
theorem bL_isCommitted_39 {h0 h : k_H} {Q : k_H → k_R → Prop} {x1 x2 : Option Nat} {x4 x5 x6 : Int32} (K : k_X (jL_isCommitted G l h0) h 211 [(1, vR x1), (2, vR x2), (4, vI x4), (5, vI x5), (6, vI x6)] [vI 1] Q) : k_X (jL_isCommitted G l h0) h 39 [(1, vR x1), (2, vR x2), (4, vI x4), (5, vI x5), (6, vI x6)] [] Q := by
  obtain ⟨h', r, K, q⟩ := K
  exact ⟨h', r, j_iconst (v := 1) dL_isCommitted_39 (by decide) <| j_goto (tgt := 211) dL_isCommitted_40 (by decide) <| K, q⟩
theorem bL_isCommitted_43 {h0 h : k_H} {Q : k_H → k_R → Prop} {x1 x2 : Option Nat} {x4 x5 x6 : Int32} (K : k_X (jL_isCommitted G l h0) h 211 [(1, vR x1), (2, vR x2), (4, vI x4), (5, vI x5), (6, vI x6)] [vI 0] Q) : k_X (jL_isCommitted G l h0) h 43 [(1, vR x1), (2, vR x2), (4, vI x4), (5, vI x5), (6, vI x6)] [] Q := by
  obtain ⟨h', r, K, q⟩ := K
  exact ⟨h', r, j_iconst (v := 0) dL_isCommitted_43 (by decide) <| j_goto (tgt := 211) dL_isCommitted_44 (by decide) <| K, q⟩
theorem bL_isCommitted_47 {h0 h : k_H} {Q : k_H → k_R → Prop} {x0 x1 : Option Nat} {x2 : Nat} {x4 x5 x6 : Int32} {n1 : Nat} {w1 : Nat → Int32} (o1 : h.1 x2 = some (k_i n1 w1)) (y2 : vp_in (x4 + 3) n1) (K1 : ¬ ((w1 (x4 + 3).toNatClampNeg) = 0) → k_X (jL_isCommitted G l h0) h 83 [(0, vR x0), (1, vR x1), (2, vR (some x2)), (4, vI x4), (5, vI x5), (6, vI x6)] [] Q) (K2 : (w1 (x4 + 3).toNatClampNeg) = 0 → k_X (jL_isCommitted G l h0) h 56 [(1, vR x1), (2, vR (some x2)), (4, vI x4), (5, vI x5), (6, vI x6)] [] Q) : k_X (jL_isCommitted G l h0) h 47 [(0, vR x0), (1, vR x1), (2, vR (some x2)), (4, vI x4), (5, vI x5), (6, vI x6)] [] Q := by
  by_cases hc : (w1 (x4 + 3).toNatClampNeg) = 0
  · skip
    obtain ⟨h', r, K, q⟩ := K2 hc
    exact ⟨h', r, j_aload_n dL_isCommitted_47 rfl rfl <| j_iload dL_isCommitted_48 rfl <| j_iconst (v := 3) dL_isCommitted_50 (by decide) <| j_iadd dL_isCommitted_51 <| j_iald dL_isCommitted_52 o1 y2 <| j_if_ne_f dL_isCommitted_53 83 (by decide) hc (j_pick [1, 2, 3, 4, 5] rfl K), q⟩
  · skip
    obtain ⟨h', r, K, q⟩ := K1 hc
    exact ⟨h', r, j_aload_n dL_isCommitted_47 rfl rfl <| j_iload dL_isCommitted_48 rfl <| j_iconst (v := 3) dL_isCommitted_50 (by decide) <| j_iadd dL_isCommitted_51 <| j_iald dL_isCommitted_52 o1 y2 <| j_if_ne_t (tgt := 83) dL_isCommitted_53 (by decide) hc K, q⟩
theorem bL_isCommitted_56 {h0 h : k_H} {Q : k_H → k_R → Prop} {x1 : Option Nat} {x2 : Nat} {x4 x5 x6 : Int32} {n1 : Nat} {w1 : Nat → Int32} (o1 : h.1 x2 = some (k_i n1 w1)) (y2 : vp_in (x4 + 1) n1) (K1 : ¬ (x5 = (w1 (x4 + 1).toNatClampNeg)) → k_X (jL_isCommitted G l h0) h 79 [(1, vR x1), (2, vR (some x2)), (4, vI x4), (5, vI x5), (6, vI x6)] [] Q) (K2 : x5 = (w1 (x4 + 1).toNatClampNeg) → k_X (jL_isCommitted G l h0) h 67 [(1, vR x1), (2, vR (some x2)), (4, vI x4), (5, vI x5), (6, vI x6)] [] Q) : k_X (jL_isCommitted G l h0) h 56 [(1, vR x1), (2, vR (some x2)), (4, vI x4), (5, vI x5), (6, vI x6)] [] Q := by
  by_cases hc : x5 = (w1 (x4 + 1).toNatClampNeg)
  · skip
    obtain ⟨h', r, K, q⟩ := K2 hc
    exact ⟨h', r, j_iload dL_isCommitted_56 rfl <| j_aload_n dL_isCommitted_58 rfl rfl <| j_iload dL_isCommitted_59 rfl <| j_iconst (v := 1) dL_isCommitted_61 (by decide) <| j_iadd dL_isCommitted_62 <| j_iald dL_isCommitted_63 o1 y2 <| j_icmp_ne_f dL_isCommitted_64 79 (by decide) hc K, q⟩
  · skip
    obtain ⟨h', r, K, q⟩ := K1 hc
    exact ⟨h', r, j_iload dL_isCommitted_56 rfl <| j_aload_n dL_isCommitted_58 rfl rfl <| j_iload dL_isCommitted_59 rfl <| j_iconst (v := 1) dL_isCommitted_61 (by decide) <| j_iadd dL_isCommitted_62 <| j_iald dL_isCommitted_63 o1 y2 <| j_icmp_ne_t (tgt := 79) dL_isCommitted_64 (by decide) hc K, q⟩
theorem bL_isCommitted_67 {h0 h : k_H} {Q : k_H → k_R → Prop} {x1 : Nat} {x2 : Option Nat} {x4 x5 x6 : Int32} {n1 : Nat} {w1 : Nat → Int32} (o1 : h.1 x1 = some (k_i n1 w1)) (y2 : vp_in 0 n1) (K1 : ¬ (x6 = (w1 (0 : Int32).toNatClampNeg)) → k_X (jL_isCommitted G l h0) h 79 [(1, vR (some x1)), (2, vR x2), (4, vI x4), (5, vI x5), (6, vI x6)] [] Q) (K2 : x6 = (w1 (0 : Int32).toNatClampNeg) → k_X (jL_isCommitted G l h0) h 75 [(1, vR (some x1)), (2, vR x2), (4, vI x4), (5, vI x5), (6, vI x6)] [] Q) : k_X (jL_isCommitted G l h0) h 67 [(1, vR (some x1)), (2, vR x2), (4, vI x4), (5, vI x5), (6, vI x6)] [] Q := by
  by_cases hc : x6 = (w1 (0 : Int32).toNatClampNeg)
  · skip
    obtain ⟨h', r, K, q⟩ := K2 hc
    exact ⟨h', r, j_iload dL_isCommitted_67 rfl <| j_aload_n dL_isCommitted_69 rfl rfl <| j_iconst (v := 0) dL_isCommitted_70 (by decide) <| j_iald dL_isCommitted_71 o1 y2 <| j_icmp_ne_f dL_isCommitted_72 79 (by decide) hc K, q⟩
  · skip
    obtain ⟨h', r, K, q⟩ := K1 hc
    exact ⟨h', r, j_iload dL_isCommitted_67 rfl <| j_aload_n dL_isCommitted_69 rfl rfl <| j_iconst (v := 0) dL_isCommitted_70 (by decide) <| j_iald dL_isCommitted_71 o1 y2 <| j_icmp_ne_t (tgt := 79) dL_isCommitted_72 (by decide) hc K, q⟩
theorem bL_isCommitted_75 {h0 h : k_H} {Q : k_H → k_R → Prop} {x1 x2 : Option Nat} {x4 x5 x6 : Int32} (K : k_X (jL_isCommitted G l h0) h 211 [(1, vR x1), (2, vR x2), (4, vI x4), (5, vI x5), (6, vI x6)] [vI 1] Q) : k_X (jL_isCommitted G l h0) h 75 [(1, vR x1), (2, vR x2), (4, vI x4), (5, vI x5), (6, vI x6)] [] Q := by
  obtain ⟨h', r, K, q⟩ := K
  exact ⟨h', r, j_iconst (v := 1) dL_isCommitted_75 (by decide) <| j_goto (tgt := 211) dL_isCommitted_76 (by decide) <| K, q⟩
theorem bL_isCommitted_79 {h0 h : k_H} {Q : k_H → k_R → Prop} {x1 x2 : Option Nat} {x4 x5 x6 : Int32} (K : k_X (jL_isCommitted G l h0) h 211 [(1, vR x1), (2, vR x2), (4, vI x4), (5, vI x5), (6, vI x6)] [vI 0] Q) : k_X (jL_isCommitted G l h0) h 79 [(1, vR x1), (2, vR x2), (4, vI x4), (5, vI x5), (6, vI x6)] [] Q := by
  obtain ⟨h', r, K, q⟩ := K
  exact ⟨h', r, j_iconst (v := 0) dL_isCommitted_79 (by decide) <| j_goto (tgt := 211) dL_isCommitted_80 (by decide) <| K, q⟩
theorem bL_isCommitted_83 {h0 h : k_H} {Q : k_H → k_R → Prop} {x0 x2 : Option Nat} {x1 : Nat} {x4 x5 x6 : Int32} {n1 : Nat} {w1 : Nat → Int32} (o1 : h.1 x1 = some (k_i n1 w1)) (y2 : vp_in 0 n1) (K1 : ¬ (x5 = ((w1 (0 : Int32).toNatClampNeg) + 1)) → k_X (jL_isCommitted G l h0) h 100 [(0, vR x0), (1, vR (some x1)), (2, vR x2), (4, vI x4), (5, vI x5), (6, vI x6)] [] Q) (K2 : x5 = ((w1 (0 : Int32).toNatClampNeg) + 1) → k_X (jL_isCommitted G l h0) h 93 [(0, vR x0), (1, vR (some x1)), (2, vR x2), (4, vI x4), (5, vI x5), (6, vI x6)] [] Q) : k_X (jL_isCommitted G l h0) h 83 [(0, vR x0), (1, vR (some x1)), (2, vR x2), (4, vI x4), (5, vI x5), (6, vI x6)] [] Q := by
  by_cases hc : x5 = ((w1 (0 : Int32).toNatClampNeg) + 1)
  · skip
    obtain ⟨h', r, K, q⟩ := K2 hc
    exact ⟨h', r, j_iload dL_isCommitted_83 rfl <| j_aload_n dL_isCommitted_85 rfl rfl <| j_iconst (v := 0) dL_isCommitted_86 (by decide) <| j_iald dL_isCommitted_87 o1 y2 <| j_iconst (v := 1) dL_isCommitted_88 (by decide) <| j_iadd dL_isCommitted_89 <| j_icmp_ne_f dL_isCommitted_90 100 (by decide) hc K, q⟩
  · skip
    obtain ⟨h', r, K, q⟩ := K1 hc
    exact ⟨h', r, j_iload dL_isCommitted_83 rfl <| j_aload_n dL_isCommitted_85 rfl rfl <| j_iconst (v := 0) dL_isCommitted_86 (by decide) <| j_iald dL_isCommitted_87 o1 y2 <| j_iconst (v := 1) dL_isCommitted_88 (by decide) <| j_iadd dL_isCommitted_89 <| j_icmp_ne_t (tgt := 100) dL_isCommitted_90 (by decide) hc K, q⟩
theorem bL_isCommitted_93 {h0 h : k_H} {Q : k_H → k_R → Prop} {x0 x1 x2 : Option Nat} {x4 x5 x6 : Int32} (K1 : x6 = x5 → k_X (jL_isCommitted G l h0) h 206 [(1, vR x1), (2, vR x2), (4, vI x4), (5, vI x5), (6, vI x6)] [] Q) (K2 : ¬ (x6 = x5) → k_X (jL_isCommitted G l h0) h 100 [(0, vR x0), (1, vR x1), (2, vR x2), (4, vI x4), (5, vI x5), (6, vI x6)] [] Q) : k_X (jL_isCommitted G l h0) h 93 [(0, vR x0), (1, vR x1), (2, vR x2), (4, vI x4), (5, vI x5), (6, vI x6)] [] Q := by
  by_cases hc : x6 = x5
  · skip
    obtain ⟨h', r, K, q⟩ := K1 hc
    exact ⟨h', r, j_iload dL_isCommitted_93 rfl <| j_iload dL_isCommitted_95 rfl <| j_icmp_eq_t (tgt := 206) dL_isCommitted_97 (by decide) hc (j_pick [1, 2, 3, 4, 5] rfl K), q⟩
  · skip
    obtain ⟨h', r, K, q⟩ := K2 hc
    exact ⟨h', r, j_iload dL_isCommitted_93 rfl <| j_iload dL_isCommitted_95 rfl <| j_icmp_eq_f dL_isCommitted_97 206 (by decide) hc K, q⟩
theorem bL_isCommitted_100 {h0 h : k_H} {Q : k_H → k_R → Prop} {x0 x1 x2 : Option Nat} {x4 x5 x6 : Int32} (K1 : ¬ (x5 = (-1)) → k_X (jL_isCommitted G l h0) h 137 [(1, vR x1), (2, vR x2), (4, vI x4), (5, vI x5), (6, vI x6)] [] Q) (K2 : x5 = (-1) → k_X (jL_isCommitted G l h0) h 106 [(0, vR x0), (1, vR x1), (2, vR x2), (4, vI x4), (5, vI x5), (6, vI x6)] [] Q) : k_X (jL_isCommitted G l h0) h 100 [(0, vR x0), (1, vR x1), (2, vR x2), (4, vI x4), (5, vI x5), (6, vI x6)] [] Q := by
  by_cases hc : x5 = (-1)
  · skip
    obtain ⟨h', r, K, q⟩ := K2 hc
    exact ⟨h', r, j_iload dL_isCommitted_100 rfl <| j_iconst (v := (-1)) dL_isCommitted_102 (by decide) <| j_icmp_ne_f dL_isCommitted_103 137 (by decide) hc K, q⟩
  · skip
    obtain ⟨h', r, K, q⟩ := K1 hc
    exact ⟨h', r, j_iload dL_isCommitted_100 rfl <| j_iconst (v := (-1)) dL_isCommitted_102 (by decide) <| j_icmp_ne_t (tgt := 137) dL_isCommitted_103 (by decide) hc (j_pick [1, 2, 3, 4, 5] rfl K), q⟩
theorem bL_isCommitted_106 {h0 h : k_H} {Q : k_H → k_R → Prop} {x0 x1 : Option Nat} {x2 : Nat} {x4 x5 x6 : Int32} {n1 : Nat} {w1 : Nat → Int32} (o1 : h.1 x2 = some (k_i n1 w1)) (y2 : vp_in (x4 + 2) n1) (y3 : vp_in (x4 + 4) n1) (K1 : ((w1 (x4 + 2).toNatClampNeg) + (w1 (x4 + 4).toNatClampNeg)) ≤ 0 → k_X (jL_isCommitted G l h0) h 137 [(1, vR x1), (2, vR (some x2)), (4, vI x4), (5, vI x5), (6, vI x6)] [] Q) (K2 : ¬ (((w1 (x4 + 2).toNatClampNeg) + (w1 (x4 + 4).toNatClampNeg)) ≤ 0) → k_X (jL_isCommitted G l h0) h 122 [(0, vR x0), (1, vR x1), (2, vR (some x2)), (4, vI x4), (5, vI x5), (6, vI x6)] [] Q) : k_X (jL_isCommitted G l h0) h 106 [(0, vR x0), (1, vR x1), (2, vR (some x2)), (4, vI x4), (5, vI x5), (6, vI x6)] [] Q := by
  by_cases hc : ((w1 (x4 + 2).toNatClampNeg) + (w1 (x4 + 4).toNatClampNeg)) ≤ 0
  · skip
    obtain ⟨h', r, K, q⟩ := K1 hc
    exact ⟨h', r, j_aload_n dL_isCommitted_106 rfl rfl <| j_iload dL_isCommitted_107 rfl <| j_iconst (v := 2) dL_isCommitted_109 (by decide) <| j_iadd dL_isCommitted_110 <| j_iald dL_isCommitted_111 o1 y2 <| j_aload_n dL_isCommitted_112 rfl rfl <| j_iload dL_isCommitted_113 rfl <| j_iconst (v := 4) dL_isCommitted_115 (by decide) <| j_iadd dL_isCommitted_116 <| j_iald dL_isCommitted_117 o1 y3 <| j_iadd dL_isCommitted_118 <| j_if_le_t (tgt := 137) dL_isCommitted_119 (by decide) hc (j_pick [1, 2, 3, 4, 5] rfl K), q⟩
  · skip
    obtain ⟨h', r, K, q⟩ := K2 hc
    exact ⟨h', r, j_aload_n dL_isCommitted_106 rfl rfl <| j_iload dL_isCommitted_107 rfl <| j_iconst (v := 2) dL_isCommitted_109 (by decide) <| j_iadd dL_isCommitted_110 <| j_iald dL_isCommitted_111 o1 y2 <| j_aload_n dL_isCommitted_112 rfl rfl <| j_iload dL_isCommitted_113 rfl <| j_iconst (v := 4) dL_isCommitted_115 (by decide) <| j_iadd dL_isCommitted_116 <| j_iald dL_isCommitted_117 o1 y3 <| j_iadd dL_isCommitted_118 <| j_if_le_f dL_isCommitted_119 137 (by decide) hc K, q⟩
theorem bL_isCommitted_122 {h0 h : k_H} {Q : k_H → k_R → Prop} {x0 : Nat} {x1 x2 : Option Nat} {x4 x5 x6 : Int32} (w : k_is h x0 14) {P : k_H → Int32 → Prop} (c : k_cti (tX11_why G l) [vR (some x0)] h P) (K : ∀ h1 v, P h1 v → k_X (jL_isCommitted G l h0) h1 126 [(1, vR x1), (2, vR x2), (4, vI x4), (5, vI x5), (6, vI x6)] [vI v] Q) : k_X (jL_isCommitted G l h0) h 122 [(0, vR (some x0)), (1, vR x1), (2, vR x2), (4, vI x4), (5, vI x5), (6, vI x6)] [] Q := by
  obtain ⟨h1, v, c, p⟩ := c
  obtain ⟨h', r, K, q⟩ := K h1 v p
  exact ⟨h', r, j_aload_n dL_isCommitted_122 rfl rfl <| j_callV (v := some (vI v)) (as := []) dL_isCommitted_123 kc_L_138 rfl rfl w (by decide) (Nat.le_of_ble_eq_true rfl) c (j_pick [1, 2, 3, 4, 5] rfl K), q⟩
theorem bL_isCommitted_126 {h0 h : k_H} {Q : k_H → k_R → Prop} {x1 x2 : Option Nat} {x4 x5 x6 s0 : Int32} (K1 : s0 < 0 → k_X (jL_isCommitted G l h0) h 137 [(1, vR x1), (2, vR x2), (4, vI x4), (5, vI x5), (6, vI x6)] [] Q) (K2 : ¬ (s0 < 0) → k_X (jL_isCommitted G l h0) h 129 [(1, vR x1), (2, vR x2), (4, vI x4), (5, vI x5), (6, vI x6)] [] Q) : k_X (jL_isCommitted G l h0) h 126 [(1, vR x1), (2, vR x2), (4, vI x4), (5, vI x5), (6, vI x6)] [vI s0] Q := by
  by_cases hc : s0 < 0
  · skip
    obtain ⟨h', r, K, q⟩ := K1 hc
    exact ⟨h', r, j_if_lt_t (tgt := 137) dL_isCommitted_126 (by decide) hc K, q⟩
  · skip
    obtain ⟨h', r, K, q⟩ := K2 hc
    exact ⟨h', r, j_if_lt_f dL_isCommitted_126 137 (by decide) hc K, q⟩
theorem bL_isCommitted_129 {h0 h : k_H} {Q : k_H → k_R → Prop} {x1 : Nat} {x2 : Option Nat} {x4 x5 x6 : Int32} {n1 : Nat} {w1 : Nat → Int32} (o1 : h.1 x1 = some (k_i n1 w1)) (y2 : vp_in 0 n1) (K1 : x6 = (w1 (0 : Int32).toNatClampNeg) → k_X (jL_isCommitted G l h0) h 206 [(1, vR (some x1)), (2, vR x2), (4, vI x4), (5, vI x5), (6, vI x6)] [] Q) (K2 : ¬ (x6 = (w1 (0 : Int32).toNatClampNeg)) → k_X (jL_isCommitted G l h0) h 137 [(1, vR (some x1)), (2, vR x2), (4, vI x4), (5, vI x5), (6, vI x6)] [] Q) : k_X (jL_isCommitted G l h0) h 129 [(1, vR (some x1)), (2, vR x2), (4, vI x4), (5, vI x5), (6, vI x6)] [] Q := by
  by_cases hc : x6 = (w1 (0 : Int32).toNatClampNeg)
  · skip
    obtain ⟨h', r, K, q⟩ := K1 hc
    exact ⟨h', r, j_iload dL_isCommitted_129 rfl <| j_aload_n dL_isCommitted_131 rfl rfl <| j_iconst (v := 0) dL_isCommitted_132 (by decide) <| j_iald dL_isCommitted_133 o1 y2 <| j_icmp_eq_t (tgt := 206) dL_isCommitted_134 (by decide) hc K, q⟩
  · skip
    obtain ⟨h', r, K, q⟩ := K2 hc
    exact ⟨h', r, j_iload dL_isCommitted_129 rfl <| j_aload_n dL_isCommitted_131 rfl rfl <| j_iconst (v := 0) dL_isCommitted_132 (by decide) <| j_iald dL_isCommitted_133 o1 y2 <| j_icmp_eq_f dL_isCommitted_134 206 (by decide) hc K, q⟩
theorem bL_isCommitted_137 {h0 h : k_H} {Q : k_H → k_R → Prop} {x1 x2 : Option Nat} {x4 x5 x6 : Int32} (K1 : ¬ (x5 = (-2)) → k_X (jL_isCommitted G l h0) h 152 [(1, vR x1), (2, vR x2), (4, vI x4), (5, vI x5), (6, vI x6)] [] Q) (K2 : x5 = (-2) → k_X (jL_isCommitted G l h0) h 144 [(1, vR x1), (2, vR x2), (4, vI x4), (5, vI x5), (6, vI x6)] [] Q) : k_X (jL_isCommitted G l h0) h 137 [(1, vR x1), (2, vR x2), (4, vI x4), (5, vI x5), (6, vI x6)] [] Q := by
  by_cases hc : x5 = (-2)
  · skip
    obtain ⟨h', r, K, q⟩ := K2 hc
    exact ⟨h', r, j_iload dL_isCommitted_137 rfl <| j_bipush (v := (-2)) dL_isCommitted_139 (by decide) <| j_icmp_ne_f dL_isCommitted_141 152 (by decide) hc K, q⟩
  · skip
    obtain ⟨h', r, K, q⟩ := K1 hc
    exact ⟨h', r, j_iload dL_isCommitted_137 rfl <| j_bipush (v := (-2)) dL_isCommitted_139 (by decide) <| j_icmp_ne_t (tgt := 152) dL_isCommitted_141 (by decide) hc K, q⟩
theorem bL_isCommitted_144 {h0 h : k_H} {Q : k_H → k_R → Prop} {x1 : Nat} {x2 : Option Nat} {x4 x5 x6 : Int32} {n1 : Nat} {w1 : Nat → Int32} (o1 : h.1 x1 = some (k_i n1 w1)) (y2 : vp_in 0 n1) (K1 : x6 = (w1 (0 : Int32).toNatClampNeg) → k_X (jL_isCommitted G l h0) h 206 [(1, vR (some x1)), (2, vR x2), (4, vI x4), (5, vI x5), (6, vI x6)] [] Q) (K2 : ¬ (x6 = (w1 (0 : Int32).toNatClampNeg)) → k_X (jL_isCommitted G l h0) h 152 [(1, vR (some x1)), (2, vR x2), (4, vI x4), (5, vI x5), (6, vI x6)] [] Q) : k_X (jL_isCommitted G l h0) h 144 [(1, vR (some x1)), (2, vR x2), (4, vI x4), (5, vI x5), (6, vI x6)] [] Q := by
  by_cases hc : x6 = (w1 (0 : Int32).toNatClampNeg)
  · skip
    obtain ⟨h', r, K, q⟩ := K1 hc
    exact ⟨h', r, j_iload dL_isCommitted_144 rfl <| j_aload_n dL_isCommitted_146 rfl rfl <| j_iconst (v := 0) dL_isCommitted_147 (by decide) <| j_iald dL_isCommitted_148 o1 y2 <| j_icmp_eq_t (tgt := 206) dL_isCommitted_149 (by decide) hc K, q⟩
  · skip
    obtain ⟨h', r, K, q⟩ := K2 hc
    exact ⟨h', r, j_iload dL_isCommitted_144 rfl <| j_aload_n dL_isCommitted_146 rfl rfl <| j_iconst (v := 0) dL_isCommitted_147 (by decide) <| j_iald dL_isCommitted_148 o1 y2 <| j_icmp_eq_f dL_isCommitted_149 206 (by decide) hc K, q⟩
theorem bL_isCommitted_152 {h0 h : k_H} {Q : k_H → k_R → Prop} {x1 x2 : Option Nat} {x4 x5 x6 : Int32} (K1 : ¬ (x5 = (-3)) → k_X (jL_isCommitted G l h0) h 169 [(1, vR x1), (2, vR x2), (4, vI x4), (5, vI x5), (6, vI x6)] [] Q) (K2 : x5 = (-3) → k_X (jL_isCommitted G l h0) h 159 [(1, vR x1), (2, vR x2), (4, vI x4), (5, vI x5), (6, vI x6)] [] Q) : k_X (jL_isCommitted G l h0) h 152 [(1, vR x1), (2, vR x2), (4, vI x4), (5, vI x5), (6, vI x6)] [] Q := by
  by_cases hc : x5 = (-3)
  · skip
    obtain ⟨h', r, K, q⟩ := K2 hc
    exact ⟨h', r, j_iload dL_isCommitted_152 rfl <| j_bipush (v := (-3)) dL_isCommitted_154 (by decide) <| j_icmp_ne_f dL_isCommitted_156 169 (by decide) hc K, q⟩
  · skip
    obtain ⟨h', r, K, q⟩ := K1 hc
    exact ⟨h', r, j_iload dL_isCommitted_152 rfl <| j_bipush (v := (-3)) dL_isCommitted_154 (by decide) <| j_icmp_ne_t (tgt := 169) dL_isCommitted_156 (by decide) hc K, q⟩
theorem bL_isCommitted_159 {h0 h : k_H} {Q : k_H → k_R → Prop} {x1 : Nat} {x2 : Option Nat} {x4 x5 x6 : Int32} {n1 : Nat} {w1 : Nat → Int32} (o1 : h.1 x1 = some (k_i n1 w1)) (y2 : vp_in 0 n1) (K1 : (x6 - (w1 (0 : Int32).toNatClampNeg)) < 2 → k_X (jL_isCommitted G l h0) h 206 [(1, vR (some x1)), (2, vR x2), (4, vI x4), (5, vI x5), (6, vI x6)] [] Q) (K2 : ¬ ((x6 - (w1 (0 : Int32).toNatClampNeg)) < 2) → k_X (jL_isCommitted G l h0) h 169 [(1, vR (some x1)), (2, vR x2), (4, vI x4), (5, vI x5), (6, vI x6)] [] Q) : k_X (jL_isCommitted G l h0) h 159 [(1, vR (some x1)), (2, vR x2), (4, vI x4), (5, vI x5), (6, vI x6)] [] Q := by
  by_cases hc : (x6 - (w1 (0 : Int32).toNatClampNeg)) < 2
  · skip
    obtain ⟨h', r, K, q⟩ := K1 hc
    exact ⟨h', r, j_iload dL_isCommitted_159 rfl <| j_aload_n dL_isCommitted_161 rfl rfl <| j_iconst (v := 0) dL_isCommitted_162 (by decide) <| j_iald dL_isCommitted_163 o1 y2 <| j_isub dL_isCommitted_164 <| j_iconst (v := 2) dL_isCommitted_165 (by decide) <| j_icmp_lt_t (tgt := 206) dL_isCommitted_166 (by decide) hc K, q⟩
  · skip
    obtain ⟨h', r, K, q⟩ := K2 hc
    exact ⟨h', r, j_iload dL_isCommitted_159 rfl <| j_aload_n dL_isCommitted_161 rfl rfl <| j_iconst (v := 0) dL_isCommitted_162 (by decide) <| j_iald dL_isCommitted_163 o1 y2 <| j_isub dL_isCommitted_164 <| j_iconst (v := 2) dL_isCommitted_165 (by decide) <| j_icmp_lt_f dL_isCommitted_166 206 (by decide) hc K, q⟩
theorem bL_isCommitted_169 {h0 h : k_H} {Q : k_H → k_R → Prop} {x1 : Option Nat} {x2 : Nat} {x4 x5 x6 : Int32} {n1 : Nat} {w1 : Nat → Int32} (o1 : h.1 x2 = some (k_i n1 w1)) (y2 : vp_in (x4 + 4) n1) (K1 : ¬ ((w1 (x4 + 4).toNatClampNeg) = 1) → k_X (jL_isCommitted G l h0) h 210 [(1, vR x1), (2, vR (some x2)), (4, vI x4), (5, vI x5), (6, vI x6)] [] Q) (K2 : (w1 (x4 + 4).toNatClampNeg) = 1 → k_X (jL_isCommitted G l h0) h 179 [(1, vR x1), (2, vR (some x2)), (4, vI x4), (5, vI x5), (6, vI x6)] [] Q) : k_X (jL_isCommitted G l h0) h 169 [(1, vR x1), (2, vR (some x2)), (4, vI x4), (5, vI x5), (6, vI x6)] [] Q := by
  by_cases hc : (w1 (x4 + 4).toNatClampNeg) = 1
  · skip
    obtain ⟨h', r, K, q⟩ := K2 hc
    exact ⟨h', r, j_aload_n dL_isCommitted_169 rfl rfl <| j_iload dL_isCommitted_170 rfl <| j_iconst (v := 4) dL_isCommitted_172 (by decide) <| j_iadd dL_isCommitted_173 <| j_iald dL_isCommitted_174 o1 y2 <| j_iconst (v := 1) dL_isCommitted_175 (by decide) <| j_icmp_ne_f dL_isCommitted_176 210 (by decide) hc K, q⟩
  · skip
    obtain ⟨h', r, K, q⟩ := K1 hc
    exact ⟨h', r, j_aload_n dL_isCommitted_169 rfl rfl <| j_iload dL_isCommitted_170 rfl <| j_iconst (v := 4) dL_isCommitted_172 (by decide) <| j_iadd dL_isCommitted_173 <| j_iald dL_isCommitted_174 o1 y2 <| j_iconst (v := 1) dL_isCommitted_175 (by decide) <| j_icmp_ne_t (tgt := 210) dL_isCommitted_176 (by decide) hc K, q⟩
theorem bL_isCommitted_179 {h0 h : k_H} {Q : k_H → k_R → Prop} {x1 : Option Nat} {x2 : Nat} {x4 x5 x6 : Int32} {n1 : Nat} {w1 : Nat → Int32} (o1 : h.1 x2 = some (k_i n1 w1)) (y2 : vp_in (x4 + 1) n1) (K1 : x5 ≤ (w1 (x4 + 1).toNatClampNeg) → k_X (jL_isCommitted G l h0) h 210 [(1, vR x1), (2, vR (some x2)), (4, vI x4), (5, vI x5), (6, vI x6)] [] Q) (K2 : ¬ (x5 ≤ (w1 (x4 + 1).toNatClampNeg)) → k_X (jL_isCommitted G l h0) h 190 [(1, vR x1), (2, vR (some x2)), (4, vI x4), (5, vI x5), (6, vI x6)] [] Q) : k_X (jL_isCommitted G l h0) h 179 [(1, vR x1), (2, vR (some x2)), (4, vI x4), (5, vI x5), (6, vI x6)] [] Q := by
  by_cases hc : x5 ≤ (w1 (x4 + 1).toNatClampNeg)
  · skip
    obtain ⟨h', r, K, q⟩ := K1 hc
    exact ⟨h', r, j_iload dL_isCommitted_179 rfl <| j_aload_n dL_isCommitted_181 rfl rfl <| j_iload dL_isCommitted_182 rfl <| j_iconst (v := 1) dL_isCommitted_184 (by decide) <| j_iadd dL_isCommitted_185 <| j_iald dL_isCommitted_186 o1 y2 <| j_icmp_le_t (tgt := 210) dL_isCommitted_187 (by decide) hc K, q⟩
  · skip
    obtain ⟨h', r, K, q⟩ := K2 hc
    exact ⟨h', r, j_iload dL_isCommitted_179 rfl <| j_aload_n dL_isCommitted_181 rfl rfl <| j_iload dL_isCommitted_182 rfl <| j_iconst (v := 1) dL_isCommitted_184 (by decide) <| j_iadd dL_isCommitted_185 <| j_iald dL_isCommitted_186 o1 y2 <| j_icmp_le_f dL_isCommitted_187 210 (by decide) hc K, q⟩
theorem bL_isCommitted_190 {h0 h : k_H} {Q : k_H → k_R → Prop} {x1 : Nat} {x2 : Option Nat} {x4 x5 x6 : Int32} {n1 : Nat} {w1 : Nat → Int32} (o1 : h.1 x1 = some (k_i n1 w1)) (y2 : vp_in 0 n1) (K1 : (w1 (0 : Int32).toNatClampNeg) < x5 → k_X (jL_isCommitted G l h0) h 210 [(1, vR (some x1)), (2, vR x2), (4, vI x4), (5, vI x5), (6, vI x6)] [] Q) (K2 : ¬ ((w1 (0 : Int32).toNatClampNeg) < x5) → k_X (jL_isCommitted G l h0) h 198 [(1, vR (some x1)), (2, vR x2), (4, vI x4), (5, vI x5), (6, vI x6)] [] Q) : k_X (jL_isCommitted G l h0) h 190 [(1, vR (some x1)), (2, vR x2), (4, vI x4), (5, vI x5), (6, vI x6)] [] Q := by
  by_cases hc : (w1 (0 : Int32).toNatClampNeg) < x5
  · skip
    obtain ⟨h', r, K, q⟩ := K1 hc
    exact ⟨h', r, j_iload dL_isCommitted_190 rfl <| j_aload_n dL_isCommitted_192 rfl rfl <| j_iconst (v := 0) dL_isCommitted_193 (by decide) <| j_iald dL_isCommitted_194 o1 y2 <| j_icmp_gt_t (tgt := 210) dL_isCommitted_195 (by decide) hc K, q⟩
  · skip
    obtain ⟨h', r, K, q⟩ := K2 hc
    exact ⟨h', r, j_iload dL_isCommitted_190 rfl <| j_aload_n dL_isCommitted_192 rfl rfl <| j_iconst (v := 0) dL_isCommitted_193 (by decide) <| j_iald dL_isCommitted_194 o1 y2 <| j_icmp_gt_f dL_isCommitted_195 210 (by decide) hc K, q⟩
theorem bL_isCommitted_198 {h0 h : k_H} {Q : k_H → k_R → Prop} {x1 : Nat} {x2 : Option Nat} {x4 x5 x6 : Int32} {n1 : Nat} {w1 : Nat → Int32} (o1 : h.1 x1 = some (k_i n1 w1)) (y2 : vp_in 0 n1) (K1 : ¬ (x6 = (w1 (0 : Int32).toNatClampNeg)) → k_X (jL_isCommitted G l h0) h 210 [(1, vR (some x1)), (2, vR x2), (4, vI x4), (5, vI x5), (6, vI x6)] [] Q) (K2 : x6 = (w1 (0 : Int32).toNatClampNeg) → k_X (jL_isCommitted G l h0) h 206 [(1, vR (some x1)), (2, vR x2), (4, vI x4), (5, vI x5), (6, vI x6)] [] Q) : k_X (jL_isCommitted G l h0) h 198 [(1, vR (some x1)), (2, vR x2), (4, vI x4), (5, vI x5), (6, vI x6)] [] Q := by
  by_cases hc : x6 = (w1 (0 : Int32).toNatClampNeg)
  · skip
    obtain ⟨h', r, K, q⟩ := K2 hc
    exact ⟨h', r, j_iload dL_isCommitted_198 rfl <| j_aload_n dL_isCommitted_200 rfl rfl <| j_iconst (v := 0) dL_isCommitted_201 (by decide) <| j_iald dL_isCommitted_202 o1 y2 <| j_icmp_ne_f dL_isCommitted_203 210 (by decide) hc K, q⟩
  · skip
    obtain ⟨h', r, K, q⟩ := K1 hc
    exact ⟨h', r, j_iload dL_isCommitted_198 rfl <| j_aload_n dL_isCommitted_200 rfl rfl <| j_iconst (v := 0) dL_isCommitted_201 (by decide) <| j_iald dL_isCommitted_202 o1 y2 <| j_icmp_ne_t (tgt := 210) dL_isCommitted_203 (by decide) hc K, q⟩
theorem bL_isCommitted_206 {h0 h : k_H} {Q : k_H → k_R → Prop} {x1 x2 : Option Nat} {x4 x5 x6 : Int32} (K : k_X (jL_isCommitted G l h0) h 211 [(1, vR x1), (2, vR x2), (4, vI x4), (5, vI x5), (6, vI x6)] [vI 1] Q) : k_X (jL_isCommitted G l h0) h 206 [(1, vR x1), (2, vR x2), (4, vI x4), (5, vI x5), (6, vI x6)] [] Q := by
  obtain ⟨h', r, K, q⟩ := K
  exact ⟨h', r, j_iconst (v := 1) dL_isCommitted_206 (by decide) <| j_goto (tgt := 211) dL_isCommitted_207 (by decide) <| K, q⟩
theorem bL_isCommitted_210 {h0 h : k_H} {Q : k_H → k_R → Prop} {x1 x2 : Option Nat} {x4 x5 x6 : Int32} (K : k_X (jL_isCommitted G l h0) h 211 [(1, vR x1), (2, vR x2), (4, vI x4), (5, vI x5), (6, vI x6)] [vI 0] Q) : k_X (jL_isCommitted G l h0) h 210 [(1, vR x1), (2, vR x2), (4, vI x4), (5, vI x5), (6, vI x6)] [] Q := by
  obtain ⟨h', r, K, q⟩ := K
  exact ⟨h', r, j_iconst (v := 0) dL_isCommitted_210 (by decide) <| K, q⟩
theorem bL_isCommitted_211 {h0 h : k_H} {Q : k_H → k_R → Prop} {x1 x2 : Option Nat} {x4 x5 x6 s0 : Int32} (K1 : ¬ (x5 = (-3)) → k_X (jL_isCommitted G l h0) h 237 [(1, vR x1), (2, vR x2), (4, vI x4), (5, vI x5), (6, vI x6), (7, vI s0)] [vI (x4 + 4), vR x2] Q) (K2 : x5 = (-3) → k_X (jL_isCommitted G l h0) h 225 [(1, vR x1), (2, vR x2), (4, vI x4), (5, vI x5), (6, vI x6), (7, vI s0)] [vI (x4 + 4), vR x2] Q) : k_X (jL_isCommitted G l h0) h 211 [(1, vR x1), (2, vR x2), (4, vI x4), (5, vI x5), (6, vI x6)] [vI s0] Q := by
  by_cases hc : x5 = (-3)
  · skip
    obtain ⟨h', r, K, q⟩ := K2 hc
    exact ⟨h', r, j_istore dL_isCommitted_211 (by decide) rfl <| j_aload_n dL_isCommitted_213 rfl rfl <| j_iload dL_isCommitted_214 rfl <| j_iconst (v := 4) dL_isCommitted_216 (by decide) <| j_iadd dL_isCommitted_217 <| j_iload dL_isCommitted_218 rfl <| j_bipush (v := (-3)) dL_isCommitted_220 (by decide) <| j_icmp_ne_f dL_isCommitted_222 237 (by decide) hc K, q⟩
  · skip
    obtain ⟨h', r, K, q⟩ := K1 hc
    exact ⟨h', r, j_istore dL_isCommitted_211 (by decide) rfl <| j_aload_n dL_isCommitted_213 rfl rfl <| j_iload dL_isCommitted_214 rfl <| j_iconst (v := 4) dL_isCommitted_216 (by decide) <| j_iadd dL_isCommitted_217 <| j_iload dL_isCommitted_218 rfl <| j_bipush (v := (-3)) dL_isCommitted_220 (by decide) <| j_icmp_ne_t (tgt := 237) dL_isCommitted_222 (by decide) hc K, q⟩
theorem bL_isCommitted_225 {h0 h : k_H} {Q : k_H → k_R → Prop} {x1 : Nat} {x2 s0 : Option Nat} {x4 x5 x6 x7 s1 : Int32} {n1 : Nat} {w1 : Nat → Int32} (o1 : h.1 x1 = some (k_i n1 w1)) (y2 : vp_in 0 n1) (K1 : x6 ≤ (w1 (0 : Int32).toNatClampNeg) → k_X (jL_isCommitted G l h0) h 237 [(1, vR (some x1)), (2, vR x2), (4, vI x4), (5, vI x5), (6, vI x6), (7, vI x7)] [vI s1, vR s0] Q) (K2 : ¬ (x6 ≤ (w1 (0 : Int32).toNatClampNeg)) → k_X (jL_isCommitted G l h0) h 233 [(1, vR (some x1)), (2, vR x2), (4, vI x4), (5, vI x5), (6, vI x6), (7, vI x7)] [vI s1, vR s0] Q) : k_X (jL_isCommitted G l h0) h 225 [(1, vR (some x1)), (2, vR x2), (4, vI x4), (5, vI x5), (6, vI x6), (7, vI x7)] [vI s1, vR s0] Q := by
  by_cases hc : x6 ≤ (w1 (0 : Int32).toNatClampNeg)
  · skip
    obtain ⟨h', r, K, q⟩ := K1 hc
    exact ⟨h', r, j_iload dL_isCommitted_225 rfl <| j_aload_n dL_isCommitted_227 rfl rfl <| j_iconst (v := 0) dL_isCommitted_228 (by decide) <| j_iald dL_isCommitted_229 o1 y2 <| j_icmp_le_t (tgt := 237) dL_isCommitted_230 (by decide) hc K, q⟩
  · skip
    obtain ⟨h', r, K, q⟩ := K2 hc
    exact ⟨h', r, j_iload dL_isCommitted_225 rfl <| j_aload_n dL_isCommitted_227 rfl rfl <| j_iconst (v := 0) dL_isCommitted_228 (by decide) <| j_iald dL_isCommitted_229 o1 y2 <| j_icmp_le_f dL_isCommitted_230 237 (by decide) hc K, q⟩
theorem bL_isCommitted_233 {h0 h : k_H} {Q : k_H → k_R → Prop} {x1 x2 s0 : Option Nat} {x4 x5 x6 x7 s1 : Int32} (K : k_X (jL_isCommitted G l h0) h 243 [(1, vR x1), (2, vR x2), (4, vI x4), (5, vI x5), (6, vI x6), (7, vI x7)] [vI 1, vI s1, vR s0] Q) : k_X (jL_isCommitted G l h0) h 233 [(1, vR x1), (2, vR x2), (4, vI x4), (5, vI x5), (6, vI x6), (7, vI x7)] [vI s1, vR s0] Q := by
  obtain ⟨h', r, K, q⟩ := K
  exact ⟨h', r, j_iconst (v := 1) dL_isCommitted_233 (by decide) <| j_goto (tgt := 243) dL_isCommitted_234 (by decide) <| K, q⟩
theorem bL_isCommitted_237 {h0 h : k_H} {Q : k_H → k_R → Prop} {x1 s0 : Option Nat} {x2 : Nat} {x4 x5 x6 x7 s1 : Int32} {n1 : Nat} {w1 : Nat → Int32} (o1 : h.1 x2 = some (k_i n1 w1)) (y2 : vp_in (x4 + 4) n1) (K : k_X (jL_isCommitted G l h0) h 243 [(1, vR x1), (2, vR (some x2)), (4, vI x4), (5, vI x5), (6, vI x6), (7, vI x7)] [vI (w1 (x4 + 4).toNatClampNeg), vI s1, vR s0] Q) : k_X (jL_isCommitted G l h0) h 237 [(1, vR x1), (2, vR (some x2)), (4, vI x4), (5, vI x5), (6, vI x6), (7, vI x7)] [vI s1, vR s0] Q := by
  obtain ⟨h', r, K, q⟩ := K
  exact ⟨h', r, j_aload_n dL_isCommitted_237 rfl rfl <| j_iload dL_isCommitted_238 rfl <| j_iconst (v := 4) dL_isCommitted_240 (by decide) <| j_iadd dL_isCommitted_241 <| j_iald dL_isCommitted_242 o1 y2 <| K, q⟩
theorem bL_isCommitted_243 {h0 h : k_H} {Q : k_H → k_R → Prop} {x1 x2 : Option Nat} {x4 x5 x6 x7 s1 s2 : Int32} {s0 : Nat} {n1 : Nat} {w1 : Nat → Int32} (o1 : h.1 s0 = some (k_i n1 w1)) (y2 : vp_in s1 n1) (K : k_X (jL_isCommitted G l h0) (k_up h s0 (k_i n1 (va_up w1 (s1).toNatClampNeg s2))) 244 [(1, vR x1), (2, vR x2), (4, vI x4), (5, vI x5), (6, vI x6), (7, vI x7)] [] Q) : k_X (jL_isCommitted G l h0) h 243 [(1, vR x1), (2, vR x2), (4, vI x4), (5, vI x5), (6, vI x6), (7, vI x7)] [vI s2, vI s1, vR (some s0)] Q := by
  obtain ⟨h', r, K, q⟩ := K
  exact ⟨h', r, j_iast dL_isCommitted_243 o1 y2 <| K, q⟩
theorem bL_isCommitted_244 {h0 h : k_H} {Q : k_H → k_R → Prop} {x1 x2 : Option Nat} {x4 x5 x6 x7 : Int32} (K1 : ¬ (x5 = (-3)) → k_X (jL_isCommitted G l h0) h 261 [(1, vR x1), (6, vI x6), (7, vI x7)] [vI x4, vR x2] Q) (K2 : x5 = (-3) → k_X (jL_isCommitted G l h0) h 254 [(1, vR x1), (2, vR x2), (4, vI x4), (6, vI x6), (7, vI x7)] [vI x4, vR x2] Q) : k_X (jL_isCommitted G l h0) h 244 [(1, vR x1), (2, vR x2), (4, vI x4), (5, vI x5), (6, vI x6), (7, vI x7)] [] Q := by
  by_cases hc : x5 = (-3)
  · skip
    obtain ⟨h', r, K, q⟩ := K2 hc
    exact ⟨h', r, j_aload_n dL_isCommitted_244 rfl rfl <| j_iload dL_isCommitted_245 rfl <| j_iload dL_isCommitted_247 rfl <| j_bipush (v := (-3)) dL_isCommitted_249 (by decide) <| j_icmp_ne_f dL_isCommitted_251 261 (by decide) hc (j_pick [0, 1, 2, 4, 5] rfl K), q⟩
  · skip
    obtain ⟨h', r, K, q⟩ := K1 hc
    exact ⟨h', r, j_aload_n dL_isCommitted_244 rfl rfl <| j_iload dL_isCommitted_245 rfl <| j_iload dL_isCommitted_247 rfl <| j_bipush (v := (-3)) dL_isCommitted_249 (by decide) <| j_icmp_ne_t (tgt := 261) dL_isCommitted_251 (by decide) hc (j_pick [0, 4, 5] rfl K), q⟩
theorem bL_isCommitted_254 {h0 h : k_H} {Q : k_H → k_R → Prop} {x1 s0 : Option Nat} {x2 : Nat} {x4 x6 x7 s1 : Int32} {n1 : Nat} {w1 : Nat → Int32} (o1 : h.1 x2 = some (k_i n1 w1)) (y2 : vp_in x4 n1) (K : k_X (jL_isCommitted G l h0) h 262 [(1, vR x1), (6, vI x6), (7, vI x7)] [vI (w1 (x4).toNatClampNeg), vI s1, vR s0] Q) : k_X (jL_isCommitted G l h0) h 254 [(1, vR x1), (2, vR (some x2)), (4, vI x4), (6, vI x6), (7, vI x7)] [vI s1, vR s0] Q := by
  obtain ⟨h', r, K, q⟩ := K
  exact ⟨h', r, j_aload_n dL_isCommitted_254 rfl rfl <| j_iload dL_isCommitted_255 rfl <| j_iald dL_isCommitted_257 o1 y2 <| j_goto (tgt := 262) dL_isCommitted_258 (by decide) <| (j_pick [0, 3, 4] rfl K), q⟩
theorem bL_isCommitted_261 {h0 h : k_H} {Q : k_H → k_R → Prop} {x1 s0 : Option Nat} {x6 x7 s1 : Int32} (K : k_X (jL_isCommitted G l h0) h 262 [(1, vR x1), (6, vI x6), (7, vI x7)] [vI 0, vI s1, vR s0] Q) : k_X (jL_isCommitted G l h0) h 261 [(1, vR x1), (6, vI x6), (7, vI x7)] [vI s1, vR s0] Q := by
  obtain ⟨h', r, K, q⟩ := K
  exact ⟨h', r, j_iconst (v := 0) dL_isCommitted_261 (by decide) <| K, q⟩
theorem bL_isCommitted_262 {h0 h : k_H} {Q : k_H → k_R → Prop} {x1 : Option Nat} {x6 x7 s1 s2 : Int32} {s0 : Nat} {n1 : Nat} {w1 : Nat → Int32} (o1 : h.1 s0 = some (k_i n1 w1)) (y2 : vp_in s1 n1) (K : k_X (jL_isCommitted G l h0) (k_up h s0 (k_i n1 (va_up w1 (s1).toNatClampNeg s2))) 263 [(1, vR x1), (6, vI x6), (7, vI x7)] [] Q) : k_X (jL_isCommitted G l h0) h 262 [(1, vR x1), (6, vI x6), (7, vI x7)] [vI s2, vI s1, vR (some s0)] Q := by
  obtain ⟨h', r, K, q⟩ := K
  exact ⟨h', r, j_iast dL_isCommitted_262 o1 y2 <| K, q⟩
theorem bL_isCommitted_263 {h0 h : k_H} {Q : k_H → k_R → Prop} {x1 : Nat} {x6 x7 : Int32} {n1 : Nat} {w1 : Nat → Int32} (o1 : h.1 x1 = some (k_i n1 w1)) (y2 : vp_in 0 n1) (K : k_X (jL_isCommitted G l h0) (k_up h x1 (k_i n1 (va_up w1 (0 : Int32).toNatClampNeg x6))) 268 [(7, vI x7)] [] Q) : k_X (jL_isCommitted G l h0) h 263 [(1, vR (some x1)), (6, vI x6), (7, vI x7)] [] Q := by
  obtain ⟨h', r, K, q⟩ := K
  exact ⟨h', r, j_aload_n dL_isCommitted_263 rfl rfl <| j_iconst (v := 0) dL_isCommitted_264 (by decide) <| j_iload dL_isCommitted_265 rfl <| j_iast dL_isCommitted_267 o1 y2 <| (j_pick [2] rfl K), q⟩
theorem bL_isCommitted_268 {h0 h : k_H} {Q : k_H → k_R → Prop} {x7 : Int32} (y1 : k_bl x7) (q : Q h (.inl (some (vI x7)))) : k_X (jL_isCommitted G l h0) h 268 [(7, vI x7)] [] Q := by
  exact ⟨_, _, j_iload dL_isCommitted_268 rfl <| j_zret dL_isCommitted_270 rfl y1, q⟩
end LB1
