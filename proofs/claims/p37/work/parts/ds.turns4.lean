/-! .. work with leases, versions brought back, directories -/
section LF
variable {G : k_G} {l : Launch} {a i q n t x ka hw : Nat} {A : lp_A} {M M0 : s_M} {H : k_H} {h0 : k_H} {Q : k_H → k_R → Prop} {z9 y9 kb : Int32}
theorem wk_some {wf : Prop} {w : Int32} {y : k_K2} (S : J_I wf M) (h : (wk_list M w).head? = some y) : ∃ j, j < 1000 ∧ rk_v M y.1 = some (nI j) := by
  have h0 := wk_at h
  have h1 := (List.mem_filter.mp (List.mem_of_mem_head? h)).2
  simp only [Bool.and_eq_true, decide_eq_true_eq] at h1
  obtain ⟨v, hv⟩ := Option.isSome_iff_exists.mp h1.2.1
  obtain ⟨j, hj, e⟩ := (S.1 _ (Nat.le_refl _)).2.2.1 y.1 v h0.2 hv
  exact ⟨j, hj, by rw [hv, e]⟩
theorem hold_w {w n : Nat} (hw : w < 3) (hn : n < 9000) : s_hold (10000 * nI w + nI (n + 1) + 10) (nI (n + 1)) = nI w := by
  have e1 : (10000 : Int32) * nI w + nI (n + 1) + 10 = nI (10000 * w + (n + 1) + 10) := by
    rw [show (10000 : Int32) * nI w = nI (10000 * w) from rf_mul 10000 w, nI_add]
    exact nI_add _ 10
  have e2 : nI (10000 * w + (n + 1) + 10) / 10000 = nI w := by
    rw [show (10000 : Int32) = nI 10000 from rfl, nI_div (by omega) (by omega)]
    exact congrArg nI (by omega)
  unfold s_hold
  rw [e1, if_neg (by
    intro z
    have := congrArg Int32.toInt z
    rw [nI_toInt (by omega), show (-2147483648 : Int32).toInt = -2147483648 from by decide] at this
    omega), e2, show nI w * 10000 = nI (w * 10000) from rf_mul w 10000, nI_sub (by omega), if_pos ((nI_ltI (by omega) (by omega)).mpr (by omega))]
theorem take_has {wf : Prop} {w : Nat} {y : k_K2} (e : J_e M) (S : J_I wf M) (hw : w < 3) (h : (wk_list M (-2147483648)).head? = some y) : ∃ z, (wk_list (g_cm M (wk_tE M (nI w) y.1)) (nI w)).head? = some z := by
  have n9 := e.2.2.1
  obtain ⟨j, hj, hv⟩ := wk_some S h
  have h0 := wk_at h
  have h1 := (List.mem_filter.mp (List.mem_of_mem_head? h)).2
  simp only [Bool.and_eq_true, decide_eq_true_eq] at h1
  have tv := take_val (x := nI w) e.2.1 h
  have hm : y ∈ wk_list (g_cm M (wk_tE M (nI w) y.1)) (nI w) := by
    refine List.mem_filter.mpr ⟨m_ins_mem h0.1, ?_⟩
    have hh : wk_hold (g_cm M (wk_tE M (nI w) y.1)) y.1 = nI w := by
      unfold wk_hold
      have : rk_v (g_cm M (wk_tE M (nI w) y.1)) (s_cd (-7) (s_no y.1 1) 10000) = some (10000 * nI w + nI (g_n M + 1) + 10) := by
        show r_val _ (g_n M + 1) (wk_tE M (nI w) y.1).2.1 = _
        unfold wk_tE
        rw [put_val, if_pos ⟨rfl, Nat.le_refl _⟩]
      rw [this]
      exact hold_w hw (by omega)
    have hs : (rk_v (g_cm M (wk_tE M (nI w) y.1)) y.1).isSome = true := by
      have : rk_v (g_cm M (wk_tE M (nI w) y.1)) y.1 = rk_v M y.1 := tv
      rw [this, hv]; rfl
    simp only [Bool.and_eq_true, decide_eq_true_eq]
    exact ⟨⟨h1.1.1, h1.1.2⟩, hs, hh⟩
  cases hl : wk_list (g_cm M (wk_tE M (nI w) y.1)) (nI w) with
  | nil => rw [hl] at hm; cases hm
  | cons z r => exact ⟨z, rfl⟩
theorem nn_none {j : Nat} (h : j < 9000) : ¬ nI j = -2147483648 := nI_none h
/-- work taken, and finished -/
theorem lc_take (ok : k_ok G l) (g0 : k_fh G = 0) (W : lp_X a A i q M H) (hi : i + 2 < 512) (L : L_5 A M) (Lw : L_w A M) (hx : x < 2 ^ 31) (hM : M0 = M) (K : ∀ H' A' M', lp_X a A' (i + 2) (q + 10) M' H' → L_P A M A' M' → k_X (jL_law G l h0) H' 1968 [(0, vR (some (k_sb G))), (1, vR (some a)), (2, vR (some (a + 31 + 0))), (3, vR (some (a + 31 + 1))), (4, vR (some (a + 31 + 2))), (5, vR (some (a + 31 + 3))), (6, vR (some (a + 31 + 4))), (7, vI 1), (8, vI (nI n)), (9, vI z9), (11, vI y9), (17, vI (nI (g_n M0)))] [] Q) : k_X (jL_law G l h0) H 1153 [(0, vR (some (k_sb G))), (1, vR (some a)), (2, vR (some (a + 31 + 0))), (3, vR (some (a + 31 + 1))), (4, vR (some (a + 31 + 2))), (5, vR (some (a + 31 + 3))), (6, vR (some (a + 31 + 4))), (8, vI (nI n)), (9, vI z9), (11, vI y9), (14, vI (nI x)), (17, vI (nI (g_n M0)))] [] Q := by
  have i0 : vp_in 0 5 := in_5 (k := 0) (by omega)
  have lt : x / 3 < 2 ^ 31 := Nat.lt_of_le_of_lt (Nat.div_le_self _ _) hx
  have d3 : nI x / 3 = nI (x / 3) := nI_div hx (by decide)
  have e3 : nI x - (nI x / 3) * 3 = nI (x % 3) := rf_rem hx (by decide)
  have e2 : nI (x / 3) - (nI (x / 3) / 2) * 2 = nI (x / 3 % 2) := rf_rem lt (by decide)
  have h3 : x % 3 < 3 := Nat.mod_lt _ (by omega)
  have in2 : ¬ s_inB (nI (x % 3)) 0 2 = false := (by decide +kernel : ∀ w, w < 3 → ¬ s_inB (nI w) 0 2 = false) _ h3
  have m0 : A 0 ((0 : Int32).toNatClampNeg) = nI (g_n M) := L.1.1
  have e := X_e W (by omega)
  have n9 := e.2.2.1
  refine bL_law_1153 (by rw [e3]; exact a_19 ok g0 W (by omega)) ?_
  rintro H1 _ ⟨W1, rfl⟩
  have JK : J_k M (F_take M (nI (x % 3))).1 := Jk_take
  cases hh : (wk_list M (-2147483648)).head? with
  | none =>
    have F : F_take M (nI (x % 3)) = (M, 0, -2147483648) := by
      unfold F_take
      rw [if_neg in2, hh]
    rw [F] at W1 ⊢
    rw [code_0]
    refine bL_law_1168 (bL_law_1170 (X_atom (j := 0) W1 (by decide)) i0 (fun z => absurd rfl z) (fun _ => bL_law_1181 (bL_law_1186 (X_atom (j := 0) W1 (by decide)) i0 ?_)))
    rw [Int32.add_zero, m0]
    have W2 := m_put (v := nI (g_n M)) W1
    rw [mA_s L.1.1] at W2
    have fin : k_X (jL_law G l h0) (k_up H1 (a + 31 + 0) (k_i (lp_sz 0) (va_up (A 0) ((0 : Int32).toNatClampNeg) (nI (g_n M))))) 1222 [(0, vR (some (k_sb G))), (1, vR (some a)), (2, vR (some (a + 31 + 0))), (3, vR (some (a + 31 + 1))), (4, vR (some (a + 31 + 2))), (5, vR (some (a + 31 + 3))), (6, vR (some (a + 31 + 4))), (8, vI (nI n)), (9, vI z9), (11, vI y9), (14, vI (nI x)), (17, vI (nI (g_n M0))), (18, vI (-2147483648))] [] Q := by
      refine bL_law_1222 (bL_law_1224 (bL_law_1226 (X_atom (j := 0) W2 (by decide)) i0 (fun z => absurd rfl z) (fun _ => bL_law_1237 (bL_law_1242 (X_atom (j := 0) W2 (by decide)) i0 ?_))))
      rw [Int32.add_zero, m0]
      have W3 := m_put (v := nI (g_n M)) W2
      rw [mA_s L.1.1] at W3
      exact bL_law_1244 (fun _ => bL_law_1286 (bL_law_1291 (bL_law_1293 (K _ _ _ (lp_Xm W3 (by omega) (by omega)) (LP_0 Lw L))))) (fun z => absurd rfl z)
    exact bL_law_1188 (fun _ => fin) (fun _ => bL_law_1197 (fun _ => fin) (fun z => absurd rfl z))
  | some y =>
    obtain ⟨j, hj, hv⟩ := wk_some L.2.2.2.1 hh
    have F : F_take M (nI (x % 3)) = (g_cm M (wk_tE M (nI (x % 3)) y.1), 0, nI j) := by
      unfold F_take
      rw [if_neg in2, hh]
      show (g_cm M (wk_tE M (nI (x % 3)) y.1), 0, o_told (rk_v M y.1)) = _
      rw [hv]; rfl
    rw [F] at W1 JK ⊢
    rw [code_0]
    have nj := nn_none (show j < 9000 by omega)
    obtain ⟨s1, s2⟩ := J_step W (by omega) W1 (by omega) L.2.2.2 (JI_take e L.2.2.2.1) JK (lz_take L.2.2.2.2.2.1)
    have e' := X_e W1 (by omega)
    have n9' : g_n M + 1 + 1 < 9000 := e'.2.2.1
    obtain ⟨y', hy'⟩ := take_has e L.2.2.2.1 h3 hh
    generalize hM1 : g_cm M (wk_tE M (nI (x % 3)) y.1) = M1 at W1 JK s1 s2 e' hy'
    have hn1 : g_n M1 = g_n M + 1 := by rw [← hM1]; rfl
    have f1 : (g_WT M1).length = (g_WT M).length := by rw [← hM1]; exact List.length_map _
    have f2 : g_MK M1 = g_MK M := by rw [← hM1]; rfl
    have f3 : g_DS M1 = g_DS M := by rw [← hM1]; rfl
    have f4 : g_X M1 = g_X M := by rw [← hM1]; rfl
    refine bL_law_1168 (bL_law_1170 (X_atom (j := 0) W1 (by decide)) i0 (fun _ => bL_law_1185 (bL_law_1186 (X_atom (j := 0) W1 (by decide)) i0 ?_)) (fun z => absurd z nj))
    rw [m0, show nI (g_n M) + 1 = nI (g_n M + 1) from nI_add _ 1]
    have W2 := m_put (v := nI (g_n M + 1)) W1
    have good : ∀ {x19 : Int32} {H3 : k_H}, (x / 3 % 2 = 0 → ∃ j', j' < 1000 ∧ x19 = nI j') → k_X (jL_law G l h0) H3 1286 [(0, vR (some (k_sb G))), (1, vR (some a)), (2, vR (some (a + 31 + 0))), (3, vR (some (a + 31 + 1))), (4, vR (some (a + 31 + 2))), (5, vR (some (a + 31 + 3))), (6, vR (some (a + 31 + 4))), (8, vI (nI n)), (9, vI z9), (11, vI y9), (17, vI (nI (g_n M0)))] [] Q → k_X (jL_law G l h0) H3 1244 [(0, vR (some (k_sb G))), (1, vR (some a)), (2, vR (some (a + 31 + 0))), (3, vR (some (a + 31 + 1))), (4, vR (some (a + 31 + 2))), (5, vR (some (a + 31 + 3))), (6, vR (some (a + 31 + 4))), (8, vI (nI n)), (9, vI z9), (11, vI y9), (14, vI (nI x)), (17, vI (nI (g_n M0))), (18, vI (nI j)), (19, vI x19)] [] Q := by
      intro x19 H3 h19 G3
      refine bL_law_1244 (fun z => absurd z nj) (fun _ => bL_law_1251 (fun z => absurd z (nI_pos (by omega))) (fun _ => bL_law_1256 (fun z => absurd ((nI_leI (a := 1000) (by omega) (by omega)).mp z) (by omega)) (fun _ => bL_law_1264 (fun _ => G3) (fun z => ?_))))
      rw [d3, e2] at z
      have z2 : x / 3 % 2 = 0 := by
        refine Classical.byContradiction fun q => z ((nI_ltI (a := 0) (by omega) (by omega)).mpr (by omega))
      obtain ⟨j', hj', rfl⟩ := h19 z2
      exact bL_law_1273 (fun z => absurd z (nI_pos (by omega))) (fun _ => bL_law_1278 (fun z => absurd ((nI_leI (a := 1000) (by omega) (by omega)).mp z) (by omega)) (fun _ => G3))
    refine bL_law_1188 (fun z => ?_) (fun z => bL_law_1197 (fun z => absurd z nj) (fun _ => bL_law_1204 (by rw [e3]; exact a_20 ok g0 W2 (by omega)) ?_))
    · refine bL_law_1222 (bL_law_1224 (bL_law_1226 (X_atom (j := 0) W2 (by decide)) i0 (fun z => absurd rfl z) (fun _ => bL_law_1237 (bL_law_1242 (X_atom (j := 0) W2 (by decide)) i0 ?_))))
      rw [Int32.add_zero, show m_A A (nI (g_n M + 1)) 0 ((0 : Int32).toNatClampNeg) = nI (g_n M + 1) from mA_0]
      have W3 := m_put (v := nI (g_n M + 1)) W2
      rw [mA_2] at W3
      refine good (fun q => ?_) (bL_law_1286 (bL_law_1291 (bL_law_1293 (K _ _ _ (lp_Xm W3 (by omega) (by omega)) (m_P Lw L (by rw [hn1]) f1 f2 f3 f4 s1 s2)))))
      rw [d3, e2, q] at z
      exact absurd rfl z
    · rintro H3 _ ⟨W3, rfl⟩
      have JK2 : J_k M1 (F_finish M1 (nI (x % 3))).1 := Jk_finish
      obtain ⟨j', hj', hv'⟩ := wk_some s1.1 hy'
      have F2 : F_finish M1 (nI (x % 3)) = (g_cm M1 (wk_fE M1 y'.1), 0, nI j') := by
        unfold F_finish
        rw [if_neg in2, hy']
        show (g_cm M1 (wk_fE M1 y'.1), 0, o_told (rk_v M1 y'.1)) = _
        rw [hv']; rfl
      rw [F2] at W3 JK2 ⊢
      rw [code_0]
      obtain ⟨t1, t2⟩ := J_step W1 (by omega) W3 (by omega) s1 (JI_finish e' s1.1) JK2 (lz_finish s1.2.2.1)
      have n9'' : g_n M1 + 1 + 1 < 9000 := (X_e W3 (by omega)).2.2.1
      have nj' := nn_none (show j' < 9000 by omega)
      refine bL_law_1219 (bL_law_1224 (bL_law_1226 (X_atom (j := 0) W3 (by decide)) i0 (fun _ => bL_law_1241 (bL_law_1242 (X_atom (j := 0) W3 (by decide)) i0 ?_)) (fun z => absurd z nj')))
      rw [show m_A A (nI (g_n M + 1)) 0 ((0 : Int32).toNatClampNeg) = nI (g_n M + 1) from mA_0, show nI (g_n M + 1) + 1 = nI (g_n M + 1 + 1) from nI_add _ 1]
      have W4 := m_put (v := nI (g_n M + 1 + 1)) W3
      rw [mA_2] at W4
      exact good (fun _ => ⟨j', hj', rfl⟩) (bL_law_1286 (bL_law_1291 (bL_law_1293 (K _ _ _ (lp_Xm W4 (by omega) (by omega)) (m_P Lw L (by rw [← hn1]; rfl) ((List.length_map _).trans f1) f2 f3 f4 t1 (Jr_trans s2 t2 (by show g_n M1 < 9000; omega)))))))
end LF
