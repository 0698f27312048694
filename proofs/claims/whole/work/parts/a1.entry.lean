/-! THE LAW'S ENTRY (printed by wip/whole/gena1.py) -/
theorem kn_L_8 : k_cls RL 8 14 13 [vR none, vR none, vR none, vR none, vR none, vR none, vR none, vR none, vI 0, vI 0, vI 0, vI 0, vI 0] := ⟨RX11, TX11, tyX11, rfl, kws_X11, tyX11_ok, k_ic k_c1 36 (by decide +kernel) (by decide +kernel), k_ic k_c1 37 (by decide +kernel) (by decide +kernel), k_ic k_c1 1 (by decide +kernel) (by decide +kernel), by decide +kernel⟩
theorem kn_L_114 : k_cls RL 114 15 53 [vI 0, vI 0, vI 0, vR none, vR none, vI 0, vR none, vR none, vR none, vR none, vI 0, vR none, vR none, vR none, vR none, vR none, vR none, vR none, vR none, vI 0, vR none, vR none, vR none, vR none, vR none, vR none, vR none, vR none, vR none, vR none, vI 0, vI 0, vI 0, vI 0, vI 0, vI 0, vI 0, vR none, vR none, vR none, vR none, vR none, vI 0, vR none, vR none, vR none, vR none, vI 0, vR none, vI 0, vR none, vR none, vI 0] := ⟨RX12, TX12, tyX12, rfl, kws_X12, tyX12_ok, k_ic k_c7 46 (by decide +kernel) (by decide +kernel), k_ic k_c7 47 (by decide +kernel) (by decide +kernel), k_ic k_c1 15 (by decide +kernel) (by decide +kernel), by decide +kernel⟩
theorem kb_L_113 : k_cB RL 113 yX11_init cX11_init 2 none 0 := ⟨k_ic k_c1 40 (by decide +kernel) (by decide +kernel), k_ic k_c1 1 (by decide +kernel) (by decide +kernel), by decide, by decide +kernel, by decide, k_ic k_c1 38 (by decide +kernel) (by decide +kernel)⟩
theorem kc_L_113 : k_cC RL 113 yX11_init cX11_init 2 0 := ⟨kb_L_113, rfl, k_ic k_c1 39 (by decide +kernel) (by decide +kernel)⟩
theorem kb_L_116 : k_cB RL 116 yX12_init cX12_init 1 none 0 := ⟨k_ic k_c7 50 (by decide +kernel) (by decide +kernel), k_ic k_c1 15 (by decide +kernel) (by decide +kernel), by decide, by decide +kernel, by decide, k_ic k_c7 48 (by decide +kernel) (by decide +kernel)⟩
theorem kc_L_116 : k_cC RL 116 yX12_init cX12_init 1 0 := ⟨kb_L_116, rfl, k_ic k_c7 49 (by decide +kernel) (by decide +kernel)⟩
theorem kz_L_long : Cond.arrayClass .long ∈ k_tbl := k_ic k_c7 214 (by decide +kernel) (by decide +kernel)
theorem W_shift {a N w : Nat} {B : Nat × Nat} {h : k_H} {M : s_M} (W : c_W a B h M N w) (k n : Nat) : c_W a (B.1 + k, B.2 + n) (k_sk h k n) M N w := by
  obtain ⟨Q, S, PS, s, r, p, c1, c2, c3⟩ := W
  have m : k_mo a [] (fun _ => False) (k + n) h (k_sk h k n) := by
    refine ⟨fun _ _ h _ _ => h, fun z q c e => Nat.lt_of_lt_of_le (z q c e) (Nat.le_add_right _ _), Nat.le_add_right _ _, ?_, ?_, fun _ _ h => h⟩
    · show h.2.1 + k + kT kg1 a h ≤ h.2.1 + kT kg1 a h + (k + n)
      omega
    · show h.2.2 + n + kT kg2 a h ≤ h.2.2 + kT kg2 a h + 6 * (k + n)
      omega
  refine ⟨Q, S, PS, sE_fr s m (by simp) (fun _ _ _ z => z) (fun _ _ _ _ _ z => z), rs_fr r m (fun k hk => by cases hk) (fun _ _ _ z => z) (fun _ _ _ _ _ z => z), p, ?_, ?_, c3⟩
  · show h.2.1 + k ≤ B.1 + k + kT kg1 a h + (S + N)
    omega
  · show h.2.2 + n ≤ B.2 + n + kT kg2 a h + 6 * (S + N)
    omega
section KLE
variable {G : k_G} {l : Launch} {nm : String}
def l_h0 (a : Nat) : k_H := (fun _ => none, a, 0)
def l_hA (a : Nat) : k_H := k_nw (l_h0 a) 13 (k_o 14 c_o0)
def l_h1 (a : Nat) : k_H := c_in a (c_f0 a) 141 (l_hA a)
def l_hc (a : Nat) : k_H := k_sk (l_h1 a) 38 (53 + m_sl 36 + 1)
def l_B (a : Nat) : Nat × Nat := (a + 31 + 38, (l_hA a).2.2 + 141 + (53 + m_sl 36 + 1))
theorem hA_wf (a : Nat) : k_wf (l_hA a) := by
  intro q c e
  show q < a + 1
  have e2 : (if q = a then some (k_o 14 c_o0) else none) = some c := e
  by_cases z : q = a
  · omega
  · rw [if_neg z] at e2
    cases e2
theorem hA_n (a : Nat) : (l_hA a).2.1 = a + 1 := rfl
theorem l_W (a : Nat) : c_W a (l_B a) (l_hc a) g_0 0 0 := W_shift (W_0 (hA_wf a) (hA_n a)) 38 (53 + m_sl 36 + 1)
theorem l_cn (a : Nat) : k_cn (a + 31) (a + 31 + 38) (l_hc a) := by
  intro q z1 z2
  show (if a ≤ q ∧ q < a + 31 then (c_f0 a).getD (q - a) none else if q = a then some (k_o 14 c_o0) else none) = none
  rw [if_neg (by omega), if_neg (by omega)]
theorem l_Jz (a z : Nat) : k_nw (m_hp (a + 31) m_R0 ((k_nw (l_h1 a) 53 (k_o 15 m_fd)).1, a + 31 + 37, (k_nw (l_h1 a) 53 (k_o 15 m_fd)).2.2 + z)) 1 (k_j 1 (fun _ => 0)) = c_J (a + 31) m_R0 (fun _ => 0) (k_sk (l_h1 a) 38 (53 + z + 1)) := by
  have hn : (l_h1 a).2.1 = a + 31 := rfl
  refine Prod.ext (funext fun q => ?_) (Prod.ext rfl ?_)
  · show (if q = a + 31 + 37 then some (k_j 1 (fun _ => 0)) else if a + 31 ≤ q ∧ q < a + 31 + 37 then some (m_cl (a + 31) m_R0 (q - (a + 31))) else if q = (l_h1 a).2.1 then some (k_o 15 m_fd) else (l_h1 a).1 q) = if a + 31 ≤ q ∧ q < a + 31 + 37 then some (m_cl (a + 31) m_R0 (q - (a + 31))) else if a + 31 + 37 ≤ q ∧ q < a + 31 + 38 then some (k_j 1 (fun _ => 0)) else (l_h1 a).1 q
    by_cases e : q = a + 31 + 37
    · rw [if_pos e, if_neg (by omega), if_pos (by omega)]
    · rw [if_neg e]
      by_cases e2 : a + 31 ≤ q ∧ q < a + 31 + 37
      · rw [if_pos e2, if_pos e2]
      · rw [if_neg e2, if_neg e2, if_neg (by omega), if_neg (by omega)]
  · show (l_h1 a).2.2 + 53 + z + 1 = (l_h1 a).2.2 + (53 + z + 1)
    omega
theorem l_J (a : Nat) : k_nw (m_hp (a + 31) m_R0 ((k_nw (l_h1 a) 53 (k_o 15 m_fd)).1, a + 31 + 37, (k_nw (l_h1 a) 53 (k_o 15 m_fd)).2.2 + m_sl 36)) 1 (k_j 1 (fun _ => 0)) = c_J (a + 31) m_R0 (fun _ => 0) (l_hc a) := l_Jz a (m_sl 36)
theorem x_entry (ok : k_ok G l) {a : Nat} (hz : k_z0 G < a) {Q : k_H → k_R → Prop} (K : k_X (jW G l nm (l_h0 a)) (c_J (a + 31) m_R0 (fun _ => 0) (l_hc a)) 23 (lvW G a (a + 31) 0) [] Q) : k_X (jW G l nm (l_h0 a)) (l_h0 a) 0 [(0, vR (some (k_sb G)))] [] Q := by
  obtain ⟨h9, r, j, q⟩ := K
  obtain ⟨h1, t1, e1⟩ := c_X11_init ok (hA_wf a) (hA_n a) hz (k_nw_self (l_h0 a) 13 _)
  have e2 : h1 = l_h1 a := e1
  subst e2
  obtain ⟨h2, t2, e3⟩ := c_X12_init ok (b := a + 31) (h := k_nw (l_h1 a) 53 (k_o 15 m_fd)) (k_nw_self (l_h1 a) 53 _) rfl
  subst e3
  rw [← l_J] at j
  refine ⟨h9, r, j_new (fs := c_o0) dL_law_0 kn_L_8 (j_dup dL_law_3 rfl (j_callI dL_law_4 kc_L_113 rfl rfl (by decide) (Nat.le_of_ble_eq_true rfl) t1 (j_astore_n (lv9 := [(0, vR (some (k_sb G))), (1, vR (some a))]) dL_law_7 rfl (by decide) rfl ?_))), q⟩
  refine j_new (fs := m_fd) dL_law_8 kn_L_114 (j_dup dL_law_11 rfl (j_callI dL_law_12 kc_L_116 rfl rfl (by decide) (Nat.le_of_ble_eq_true rfl) t2 (j_astore_n (lv9 := [(0, vR (some (k_sb G))), (1, vR (some a)), (2, vR (some (a + 31)))]) dL_law_15 rfl (by decide) rfl ?_)))
  refine j_iconst (v := 1) dL_law_16 rfl (j_newj (N := 1) dL_law_17 kz_L_long rfl (by decide) (j_astore_n (lv9 := [(0, vR (some (k_sb G))), (1, vR (some a)), (2, vR (some (a + 31))), (3, vR (some (a + 31 + 37)))]) dL_law_19 rfl (by decide) rfl (j_iconst (v := 0) dL_law_20 rfl (j_istore (lv9 := lvW G a (a + 31) 0) dL_law_21 (by decide) rfl j))))
end KLE
