/-! .. versions brought back -/
section LG
variable {G : k_G} {l : Launch} {a i q n t x ka hw : Nat} {A : lp_A} {M M0 : s_M} {H : k_H} {h0 : k_H} {Q : k_H → k_R → Prop} {z9 y9 kb : Int32}
theorem bb_again {v : Nat} (e : J_e M) (hv : v ≤ g_n M) : bb_list (g_cm M (bb_E M v)) v = [] := by
  unfold bb_list
  rw [List.filter_eq_nil_iff]
  intro y _ h
  have h : bb_oth (bb_E M v).2.1 (g_n M + 1) v y.1 = true := h
  unfold bb_oth at h
  rw [bb_dif_eq, bb_val e.1 e.2.1, zE_ext (zE_back (M := M) (v := v)) (by omega), decide_eq_true rfl] at h
  cases h
theorem kB_sum {b0 b1 b2 : Bool} (h : kB b0 + kB b1 + kB b2 ≤ 0) : b0 = false ∧ b1 = false ∧ b2 = false := by
  revert h
  cases b0 <;> cases b1 <;> cases b2 <;> decide
theorem lc_back (ok : k_ok G l) (g0 : k_fh G = 0) (W : lp_X a A i q M H) (hi : i + 2 < 512) (L : L_5 A M) (Lw : L_w A M) (hx : x < 2 ^ 31) (hmk : 0 < (g_MK M).length) (hM : M0 = M) (K : ∀ H' A' M', lp_X a A' (i + 2) (q + 10) M' H' → L_P A M A' M' → k_X (jL_law G l h0) H' 1968 [(0, vR (some (k_sb G))), (1, vR (some a)), (2, vR (some (a + 31 + 0))), (3, vR (some (a + 31 + 1))), (4, vR (some (a + 31 + 2))), (5, vR (some (a + 31 + 3))), (6, vR (some (a + 31 + 4))), (7, vI 1), (8, vI (nI n)), (9, vI z9), (11, vI y9), (17, vI (nI (g_n M0)))] [] Q) : k_X (jL_law G l h0) H 1571 [(0, vR (some (k_sb G))), (1, vR (some a)), (2, vR (some (a + 31 + 0))), (3, vR (some (a + 31 + 1))), (4, vR (some (a + 31 + 2))), (5, vR (some (a + 31 + 3))), (6, vR (some (a + 31 + 4))), (8, vI (nI n)), (9, vI z9), (11, vI y9), (14, vI (nI x)), (17, vI (nI (g_n M0)))] [] Q := by
  obtain ⟨Lm, Lb, Lt, S⟩ := id L
  have i0 : vp_in 0 5 := in_5 (k := 0) (by omega)
  have i2 : vp_in 2 5 := in_5 (k := 2) (by omega)
  have i4 : vp_in 4 5 := in_5 (k := 4) (by omega)
  have m0 : A 0 ((0 : Int32).toNatClampNeg) = nI (g_n M) := Lm.1
  have m2 : A 0 ((2 : Int32).toNatClampNeg) = nI (g_MK M).length := Lm.2.2.1
  have e := X_e W (by omega)
  have n9 := e.2.2.1
  obtain ⟨mkn, m10, lim⟩ : (∀ v ∈ g_MK M, v ≤ g_n M) ∧ (g_MK M).length ≤ 10 ∧ (g_E M).1.length ≤ 12000 := by
    obtain ⟨i', N, w, h, I⟩ := X_I W
    have := lp_env I (by omega)
    exact ⟨this.2.2.2.1.1, this.2.2.2.1.2.1, this.1.1.1⟩
  have er : nI x - (nI x / nI (g_MK M).length) * nI (g_MK M).length = nI (x % (g_MK M).length) := rf_rem hx (by omega)
  have hj : x % (g_MK M).length < (g_MK M).length := Nat.mod_lt _ hmk
  generalize hJ : x % (g_MK M).length = j at er hj
  obtain ⟨v, hv⟩ : ∃ v, (g_MK M)[j]? = some v := ⟨_, List.getElem?_eq_getElem hj⟩
  have hvn : v ≤ g_n M := mkn v (List.mem_of_getElem? hv)
  have hgd : (g_MK M).getD j 0 = v := by rw [List.getD_eq_getElem?_getD, hv]; rfl
  have F : ∀ {M1 : s_M}, g_MK M1 = g_MK M → F_bringBack M1 (nI j) = (if 0 < (bb_list M1 v).length then g_cm M1 (bb_E M1 v) else M1, 0, nI (bb_list M1 v).length) := by
    intro M1 h1
    unfold F_bringBack
    rw [h1, if_neg (by rw [inB_j hj (by omega)]; decide), t_nI (by omega), hgd]
  have lb : (bb_list M v).length ≤ 12000 := Nat.le_trans (List.length_filter_le _ _) lim
  have nz : ¬ nI (g_MK M).length = 0 := fun z => by
    have := congrArg Int32.toInt z
    rw [nI_toInt (by omega), show (0 : Int32).toInt = 0 from by decide] at this
    omega
  refine bL_law_1571 (X_atom (j := 0) W (by decide)) i2 (by rw [m2]; exact nz) (by rw [m2, er]; exact a_23 ok g0 W (by omega)) ?_
  rintro H1 _ ⟨W1, rfl⟩
  have JK : J_k M (F_bringBack M (nI j)).1 := Jk_bringBack
  have F0 := F (M1 := M) rfl
  by_cases c : 0 < (bb_list M v).length
  · rw [if_pos c] at F0
    rw [F0] at W1 JK ⊢
    rw [code_0]
    have s0 := fun w9 (h9 : w9 → (A 0 4 = 0) ∧ ∀ t, t < 3 → (g_X M t).1.1 = false) => J_step W (by omega) W1 (by omega) S (J_weak (JI_back e S.1 hvn) h9) JK (lz_back S.2.2.1)
    have c0 : ¬ nI (bb_list M v).length ≤ 0 := fun z => absurd ((nI_leI (b := 0) (by omega) (by omega)).mp z) (by omega)
    refine bL_law_1588 (bL_law_1590 (X_atom (j := 0) W1 (by decide)) i0 (fun z => absurd z c0) (fun _ => bL_law_1599 (bL_law_1604 (X_atom (j := 0) W1 (by decide)) i0 ?_)))
    rw [m0, show nI (g_n M) + 1 = nI (g_n M + 1) from nI_add _ 1]
    have W2 := m_put (v := nI (g_n M + 1)) W1
    have mr1 : m_A A (nI (g_n M + 1)) 1 = A 1 := mA_A (by decide)
    have row : ∀ k, k < 3 → ∀ c : Int32, c.toNatClampNeg = 5 * k → m_A A (nI (g_n M + 1)) 1 c.toNatClampNeg = kB (g_X M k).1.1 := fun k hk c hc => by rw [mr1, hc]; exact Lb k (by omega)
    have fin : ∀ u : Int32, (u = 0 → (A 0 4 = 0) ∧ ∀ t, t < 3 → (g_X M t).1.1 = false) → k_X (jL_law G l h0) (k_up H1 (a + 31 + 0) (k_i (lp_sz 0) (va_up (A 0) ((0 : Int32).toNatClampNeg) (nI (g_n M + 1))))) 1635 [(0, vR (some (k_sb G))), (1, vR (some a)), (2, vR (some (a + 31 + 0))), (3, vR (some (a + 31 + 1))), (4, vR (some (a + 31 + 2))), (5, vR (some (a + 31 + 3))), (6, vR (some (a + 31 + 4))), (8, vI (nI n)), (9, vI z9), (11, vI y9), (14, vI (nI x)), (17, vI (nI (g_n M0))), (18, vI (nI (bb_list M v).length))] [vI u, vI 4, vR (some (a + 31 + 0))] Q := by
      intro u hu
      obtain ⟨s1, s2⟩ := s0 (u = 0) hu
      refine bL_law_1635 (X_atom (j := 0) W2 (by decide)) i4 ?_
      have W3 := X_put (j := 0) (f := va_up (m_A A (nI (g_n M + 1)) 0) 4 u) W2 (by decide)
      have eA : lp_set (m_A A (nI (g_n M + 1))) 0 (va_up (m_A A (nI (g_n M + 1)) 0) 4 u) = lp_set A 0 (va_up (va_up (A 0) 0 (nI (g_n M + 1))) 4 u) := by
        unfold m_A
        rw [lq_eq, lq_twice]
      rw [eA] at W3
      refine bL_law_1636 (fun z => absurd z (nI_pos (by omega))) (fun _ => bL_law_1641 (P := fun H5 v5 => lp_X a (lp_set A 0 (va_up (va_up (A 0) 0 (nI (g_n M + 1))) 4 u)) (i + 2) q (g_cm M (bb_E M v)) H5 ∧ v5 = 0) (X_atom (j := 0) W3 (by decide)) i2 ?_ ?_ ?_)
      · rw [lq_eq, show (2 : Int32).toNatClampNeg = 2 from rfl, vu_ne (by decide), vu_ne (by decide)]
        rw [show A 0 2 = nI (g_MK M).length from m2]; exact nz
      · rw [lq_eq, show (2 : Int32).toNatClampNeg = 2 from rfl, vu_ne (by decide), vu_ne (by decide), show A 0 2 = nI (g_MK M).length from m2, er]
        have F2 := F (M1 := g_cm M (bb_E M v)) rfl
        rw [bb_again e hvn, if_neg (by decide)] at F2
        obtain ⟨H5, v5, c5, p5, q5⟩ := a_23 ok g0 (x2 := nI j) (x3 := 0) (x4 := 0) (x5 := 0) (x6 := 0) (x7 := 0) W3 (by omega)
        rw [F2] at p5 q5
        exact ⟨H5, v5, c5, p5, q5⟩
      rintro H5 _ ⟨W5, rfl⟩
      refine bL_law_1658 (fun z => absurd rfl z) (fun _ => bL_law_1661 (bL_law_1666 (bL_law_1668 (K _ _ _ (lp_Xm W5 (by omega) (by omega)) (LP_of Lw ⟨Lm_n Lm ?_ ?_ ?_ ?_ (List.length_map _) rfl rfl, Lb_X Lb (lq_ne (by decide)) rfl, Lt_X Lt (lq_ne (by decide)) rfl, ?_⟩ s2 (fun j hj => lq_ne (by omega)) (List.length_map _))))))
      · rw [lq_eq, vu_ne (by decide), vu_eq]; rfl
      · rw [lq_eq, vu_ne (by decide), vu_ne (by decide)]
      · rw [lq_eq, vu_ne (by decide), vu_ne (by decide)]
      · rw [lq_eq, vu_ne (by decide), vu_ne (by decide)]
      · rw [lq_eq, vu_eq]; exact s1
    refine bL_law_1606 (fun z => absurd z c0) (fun _ => bL_law_1613 (X_atom (j := 1) W2 (by decide)) (in_20 (k := 0) (by omega)) (in_20 (k := 5) (by omega)) (in_20 (k := 10) (by omega)) (fun z => ?_) (fun _ => bL_law_1628 (fin 1 (fun z => absurd z (by decide)))))
    rw [row 0 (by omega) 0 rfl, row 1 (by omega) 5 rfl, row 2 (by omega) 10 rfl] at z
    obtain ⟨b0, b1, b2⟩ := kB_sum z
    refine bL_law_1632 (X_atom (j := 0) W2 (by decide)) i4 (fin _ (fun q => ⟨?_, fun t ht => ?_⟩))
    · rw [show m_A A (nI (g_n M + 1)) 0 ((4 : Int32).toNatClampNeg) = A 0 4 from mA_j (by decide)] at q
      exact q
    · have h3 : t = 0 ∨ t = 1 ∨ t = 2 := by omega
      rcases h3 with rfl | rfl | rfl
      · exact b0
      · exact b1
      · exact b2
  · rw [if_neg c] at F0
    have l0 : (bb_list M v).length = 0 := by omega
    rw [l0] at F0
    rw [F0] at W1 ⊢
    rw [code_0]
    refine bL_law_1588 (bL_law_1590 (X_atom (j := 0) W1 (by decide)) i0 (fun _ => bL_law_1603 (bL_law_1604 (X_atom (j := 0) W1 (by decide)) i0 ?_)) (fun z => absurd (by decide) z))
    rw [Int32.add_zero, m0]
    have W2 := m_put (v := nI (g_n M)) W1
    rw [mA_s Lm.1] at W2
    refine bL_law_1606 (fun _ => bL_law_1632 (X_atom (j := 0) W2 (by decide)) i4 (bL_law_1635 (X_atom (j := 0) W2 (by decide)) i4 ?_)) (fun z => absurd (by decide) z)
    have W3 := X_put (j := 0) (f := va_up (A 0) ((4 : Int32).toNatClampNeg) (A 0 ((4 : Int32).toNatClampNeg))) W2 (by decide)
    rw [vu_same, lq_same] at W3
    refine bL_law_1636 (fun z => absurd z (nI_pos (by omega))) (fun _ => bL_law_1641 (P := fun H5 v5 => lp_X a A (i + 2) q M H5 ∧ v5 = 0) (X_atom (j := 0) (by rw [vu_same]; exact W3) (by decide)) i2 (by rw [m2]; exact nz) ?_ ?_)
    · rw [m2, er, vu_same]
      obtain ⟨H5, v5, c5, p5, q5⟩ := a_23 ok g0 (x2 := nI j) (x3 := 0) (x4 := 0) (x5 := 0) (x6 := 0) (x7 := 0) W3 (by omega)
      rw [F0] at p5 q5
      exact ⟨H5, v5, c5, p5, q5⟩
    · rintro H5 _ ⟨W5, rfl⟩
      exact bL_law_1658 (fun z => absurd rfl z) (fun _ => bL_law_1661 (bL_law_1666 (bL_law_1668 (K _ _ _ (lp_Xm W5 (by omega) (by omega)) (LP_0 Lw L)))))
end LG
