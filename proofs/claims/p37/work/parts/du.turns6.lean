/-! .. directories -/
theorem d_free_ge (D : List s_D) : ∀ k n, n ≤ d_free D k n := by
  intro k
  induction k with
  | zero => intro n; exact Nat.le_refl _
  | succ k ih =>
    intro n
    show n ≤ if d_used D n = true then d_free D k (n + 1) else n
    split
    · exact Nat.le_trans (Nat.le_succ n) (ih (n + 1))
    · exact Nat.le_refl _
theorem dsh_new {D : List s_D} {m s nm : Nat} {p : Option Nat} (h : ∀ d ∈ D, d.1 < m) (hm : m < 2000) : d_sh (D ++ [(m, p, nm, s)]) (nI m) = nI s := by
  unfold d_sh
  have : D.find? (fun d => decide (nI d.1 = nI m)) = none := List.find?_eq_none.mpr fun d hd z => by
    have := (nI_eq (by have := h d hd; omega) (by omega)).mp (of_decide_eq_true z)
    have := h d hd
    omega
  rw [List.find?_append, this, Option.none_or, List.find?_cons_of_pos (p := fun d : s_D => decide (nI d.1 = nI m)) (show decide (nI m = nI m) = true from decide_eq_true rfl)]
theorem dnm_new {D : List s_D} {m s nm p : Nat} (h : ∀ d ∈ D, d.1 < m) (hm : m < 2000) (h0 : 0 < m) (hn : d_nm D (nI p) (nI nm) = -2147483648) : d_nm (D ++ [(m, some p, nm, s)]) (nI p) (nI nm) = nI m := by
  have : D.find? (fun d => !(decide (d.1 = 0)) && decide (m_par d.2.1 = nI p) && decide (nI d.2.2.1 = nI nm)) = none := by
    cases hf : D.find? (fun d => !(decide (d.1 = 0)) && decide (m_par d.2.1 = nI p) && decide (nI d.2.2.1 = nI nm)) with
    | none => rfl
    | some d =>
      have hd := h d (List.mem_of_find?_eq_some hf)
      unfold d_nm at hn
      rw [hf] at hn
      exact absurd hn (nI_none (u := d.1) (by omega))
  unfold d_nm
  rw [List.find?_append, this, Option.none_or, List.find?_cons_of_pos]
  simp only [decide_eq_false (show ¬ m = 0 by omega)]
  rw [show m_par (some p) = nI p from rfl]
  simp
section LI
variable {G : k_G} {l : Launch} {a i q n t x ka hw : Nat} {A : lp_A} {M M0 : s_M} {H : k_H} {h0 : k_H} {Q : k_H → k_R → Prop} {z9 y9 kb : Int32}
theorem lc_dir (ok : k_ok G l) (g0 : k_fh G = 0) (W : lp_X a A i q M H) (hi : i + 2 < 512) (L : L_5 A M) (Lw : L_w A M) (hx : x < 2 ^ 31) (hM : M0 = M) (K : ∀ H' A' M', lp_X a A' (i + 2) (q + 10) M' H' → L_P A M A' M' → k_X (jL_law G l h0) H' 1968 [(0, vR (some (k_sb G))), (1, vR (some a)), (2, vR (some (a + 31 + 0))), (3, vR (some (a + 31 + 1))), (4, vR (some (a + 31 + 2))), (5, vR (some (a + 31 + 3))), (6, vR (some (a + 31 + 4))), (7, vI 1), (8, vI (nI n)), (9, vI z9), (11, vI y9), (17, vI (nI (g_n M0)))] [] Q) : k_X (jL_law G l h0) H 1678 [(0, vR (some (k_sb G))), (1, vR (some a)), (2, vR (some (a + 31 + 0))), (3, vR (some (a + 31 + 1))), (4, vR (some (a + 31 + 2))), (5, vR (some (a + 31 + 3))), (6, vR (some (a + 31 + 4))), (8, vI (nI n)), (9, vI z9), (11, vI y9), (14, vI (nI x)), (17, vI (nI (g_n M0)))] [] Q := by
  obtain ⟨Lm, Lb, Lt, S⟩ := id L
  obtain ⟨dok, d9, dl, dfr⟩ := X_d W (by omega)
  have d0 : 0 < (g_DS M).2 := dok.2.2.1 _ dok.1.2.1
  have i3 : vp_in 3 5 := in_5 (k := 3) (by omega)
  have m3 : A 0 ((3 : Int32).toNatClampNeg) = nI (g_DS M).2 := Lm.2.2.2
  have er : nI x - (nI x / nI (g_DS M).2) * nI (g_DS M).2 = nI (x % (g_DS M).2) := rf_rem hx (by omega)
  have lt : x / 40 < 2 ^ 31 := Nat.lt_of_le_of_lt (Nat.div_le_self _ _) hx
  have d40 : nI x / 40 = nI (x / 40) := nI_div hx (by decide)
  have e10 : nI (x / 40) - (nI (x / 40) / 10) * 10 = nI (x / 40 % 10) := rf_rem lt (by decide)
  have hp : x % (g_DS M).2 < (g_DS M).2 := Nat.mod_lt _ d0
  have hn : x / 40 % 10 < 10 := Nat.mod_lt _ (by omega)
  generalize hP : x % (g_DS M).2 = p at er hp
  generalize hN : x / 40 % 10 = nm at e10 hn
  have in9 : ¬ s_inB (nI nm) 0 9 = false := (by decide +kernel : ∀ w, w < 10 → ¬ s_inB (nI w) 0 9 = false) _ hn
  have nz : ¬ A 0 ((3 : Int32).toNatClampNeg) = 0 := fun z => by
    rw [m3] at z
    have := congrArg Int32.toInt z
    rw [nI_toInt (by omega), show (0 : Int32).toInt = 0 from by decide] at this
    omega
  refine bL_law_1678 (X_atom (j := 0) W (by decide)) i3 nz (by rw [m3, er, d40, e10]; exact a_24 ok g0 W (by omega)) ?_
  rintro H1 _ ⟨W1, rfl⟩
  have JK : J_k M (F_directory M (nI p) (nI nm)).1 := Jk_directory
  have stay : ∀ {e : Int32} {H2 : k_H}, e ≤ 0 → lp_X a A (i + 1) q M H2 → k_X (jL_law G l h0) H2 1785 [(0, vR (some (k_sb G))), (1, vR (some a)), (2, vR (some (a + 31 + 0))), (3, vR (some (a + 31 + 1))), (4, vR (some (a + 31 + 2))), (5, vR (some (a + 31 + 3))), (6, vR (some (a + 31 + 4))), (7, vI 1), (8, vI (nI n)), (9, vI z9), (11, vI y9), (17, vI (nI (g_n M0))), (18, vI e)] [] Q := by
    intro e H2 he W2
    refine bL_law_1785 (X_atom (j := 0) W2 (by decide)) i3 (fun _ => bL_law_1798 (bL_law_1799 (X_atom (j := 0) W2 (by decide)) i3 ?_)) (fun z => absurd he z)
    rw [Int32.add_zero]
    have W3 := X_put (j := 0) (f := va_up (A 0) ((3 : Int32).toNatClampNeg) (A 0 ((3 : Int32).toNatClampNeg))) W2 (by decide)
    refine bL_law_1801 (K _ _ _ (lp_Xm W3 (by omega) (by omega)) ?_)
    rw [vu_same, lq_same]
    exact LP_0 Lw L
  have ne3 : ∀ {e : Int32}, e.toInt < 0 → ¬ e = A 0 ((3 : Int32).toNatClampNeg) := fun {e} he z => by
    rw [m3] at z
    rw [z, nI_toInt (by omega)] at he
    omega
  by_cases c1 : d_is (g_DS M) (nI p) = false
  · have F : F_directory M (nI p) (nI nm) = (M, 1, 0) := if_pos c1
    rw [F] at W1 ⊢
    rw [code_x (by decide), rc_1]
    refine bL_law_1702 (bL_law_1704 (X_atom (j := 0) W1 (by decide)) i3 (fun _ => bL_law_1755 (fun z => absurd z (by decide)) (fun _ => bL_law_1762 (fun z => absurd rfl z) (fun _ => bL_law_1769 (X_atom (j := 0) W1 (by decide)) i3 nz (fun z => ?_) (fun _ => bL_law_1778 (bL_law_1783 (stay (by decide) W1)))))) (fun z => absurd z (ne3 (by decide))))
    rw [m3, er] at z
    have : p = 0 := Nat.le_zero.mp ((nI_leI (b := 0) (by omega) (by omega)).mp z)
    rw [this] at c1
    exact absurd (c1.symm.trans (dj_root dok)) (by decide)
  · by_cases c2 : ¬ d_nm (g_DS M).1 (nI p) (nI nm) = -2147483648 ∨ d_many (g_DS M).1 = 9
    · have F : F_directory M (nI p) (nI nm) = (M, 3, 0) := by
        unfold F_directory
        rw [if_neg c1, if_neg in9, if_pos c2]
      rw [F] at W1 ⊢
      rw [code_x (by decide), rc_7]
      exact bL_law_1702 (bL_law_1704 (X_atom (j := 0) W1 (by decide)) i3 (fun _ => bL_law_1755 (fun _ => bL_law_1778 (bL_law_1783 (stay (by decide) W1))) (fun z => absurd rfl z)) (fun z => absurd z (ne3 (by decide))))
    · have F : F_directory M (nI p) (nI nm) = (g_dset M ((g_DS M).1 ++ [((g_DS M).2, some p, nm, d_free (g_DS M).1 12 1)], (g_DS M).2 + 1), 0, nI (g_DS M).2) := by
        unfold F_directory
        rw [if_neg c1, if_neg in9, if_neg c2, t_nI (by omega), t_nI (by omega)]
      have c3 : d_nm (g_DS M).1 (nI p) (nI nm) = -2147483648 := Classical.byContradiction fun z => c2 (Or.inl z)
      have c4 : d_many (g_DS M).1 < 9 := by
        have : ¬ d_many (g_DS M).1 = 9 := fun z => c2 (Or.inr z)
        omega
      have fr := (dfr c4).1
      have fr1 := d_free_ge (g_DS M).1 12 1
      rw [F] at W1 JK ⊢
      rw [code_0]
      obtain ⟨s1, s2⟩ := J_step W (by omega) W1 (by omega) S (JI_same S.1 rfl rfl rfl (Nat.le_refl _)) JK S.2.2.1
      have is1 : d_is ((g_DS M).1 ++ [((g_DS M).2, some p, nm, d_free (g_DS M).1 12 1)], (g_DS M).2 + 1) (nI (g_DS M).2) = true := by
        unfold d_is
        rw [List.any_eq_true]
        exact ⟨_, List.mem_append.mpr (Or.inr (List.mem_singleton.mpr rfl)), decide_eq_true rfl⟩
      have is2 : d_is ((g_DS M).1 ++ [((g_DS M).2, some p, nm, d_free (g_DS M).1 12 1)], (g_DS M).2 + 1) (nI p) = true := by
        have h : d_is (g_DS M) (nI p) = true := by simpa using c1
        unfold d_is at h ⊢
        rw [List.any_eq_true] at h ⊢
        obtain ⟨y, hy, e⟩ := h
        exact ⟨y, List.mem_append.mpr (Or.inl hy), e⟩
      generalize hM1 : g_dset M ((g_DS M).1 ++ [((g_DS M).2, some p, nm, d_free (g_DS M).1 12 1)], (g_DS M).2 + 1) = M1 at W1 JK s1 s2
      have hD : g_DS M1 = ((g_DS M).1 ++ [((g_DS M).2, some p, nm, d_free (g_DS M).1 12 1)], (g_DS M).2 + 1) := by rw [← hM1]; rfl
      have Fs : F_shortName M1 (nI (g_DS M).2) = (M1, 0, nI (d_free (g_DS M).1 12 1)) := by
        unfold F_shortName
        rw [hD, if_neg (by rw [is1]; decide), dsh_new dok.2.2.1 (by omega)]
      have Fn : F_named M1 (nI p) (nI nm) = (M1, 0, nI (g_DS M).2) := by
        unfold F_named
        rw [hD, if_neg (by rw [is2]; decide), if_neg in9, dnm_new dok.2.2.1 (by omega) d0 c3]
      refine bL_law_1702 (bL_law_1704 (X_atom (j := 0) W1 (by decide)) i3 (fun z => absurd m3.symm z) (fun _ => bL_law_1712 (X_is W1) (X_shortName ok g0 W1 (by omega) (by rw [Fs])) ?_))
      rintro H2 _ ⟨W2, rfl⟩
      rw [Fs]
      refine bL_law_1718 (fun z => absurd ((nI_leI (b := 0) (by omega) (by omega)).mp z) (by omega)) (fun _ => bL_law_1721 (X_is W2) (X_shortName ok g0 W2 (by omega) (by rw [Fs])) ?_)
      rintro H3 _ ⟨W3, rfl⟩
      rw [Fs]
      refine bL_law_1727 (fun z => absurd ((nI_leI (a := 10) (by omega) (by omega)).mp z) (by omega)) (fun _ => bL_law_1732 (X_atom (j := 0) W3 (by decide)) i3 nz (X_is W3) (by rw [m3, er, d40, e10]; exact X_named ok g0 W3 (by omega) (by rw [Fn])) ?_)
      rintro H4 _ ⟨W4, rfl⟩
      rw [Fn]
      refine bL_law_1750 (fun _ => bL_law_1778 (bL_law_1783 (bL_law_1785 (X_atom (j := 0) W4 (by decide)) i3 (fun z => absurd ((nI_leI (b := 0) (by omega) (by omega)).mp z) (by omega)) (fun _ => bL_law_1794 (bL_law_1799 (X_atom (j := 0) W4 (by decide)) i3 ?_))))) (fun z => absurd rfl z)
      rw [m3, show nI (g_DS M).2 + 1 = nI ((g_DS M).2 + 1) from nI_add _ 1]
      have W5 := X_put (j := 0) (f := va_up (A 0) 3 (nI ((g_DS M).2 + 1))) W4 (by decide)
      subst hM1
      refine bL_law_1801 (K _ _ _ (lp_Xm W5 (by omega) (by omega)) (LP_of Lw ⟨⟨?_, ?_, ?_, ?_⟩, Lb_X Lb (lq_ne (by decide)) rfl, Lt_X Lt (lq_ne (by decide)) rfl, ?_⟩ s2 (fun j hj => lq_ne (by omega)) rfl))
      · rw [lq_eq, vu_ne (by decide)]; exact Lm.1
      · rw [lq_eq, vu_ne (by decide)]; exact Lm.2.1
      · rw [lq_eq, vu_ne (by decide)]; exact Lm.2.2.1
      · rw [lq_eq, vu_eq]; rfl
      · rw [lq_eq, vu_ne (by decide)]; exact s1
theorem rm_gone_is {d : Nat} (dok : d_ok (g_DS M)) (hd : d < 2000) (dl : (g_DS M).2 < 1024) : d_is (rm_D M d) (nI d) = false := by
  unfold d_is rm_D
  rw [List.any_eq_false]
  intro y hy
  obtain ⟨h1, h2⟩ := List.mem_filter.mp hy
  intro z
  have e := (nI_eq (by have := dok.2.2.1 y h1; omega) (by omega)).mp (of_decide_eq_true z)
  rw [e, d_bel_self] at h2
  cases h2
theorem lc_remove (ok : k_ok G l) (g0 : k_fh G = 0) (W : lp_X a A i q M H) (hi : i + 2 < 512) (L : L_5 A M) (Lw : L_w A M) (hx : x < 2 ^ 31) (h1 : 1 < (g_DS M).2) (hM : M0 = M) (K : ∀ H' A' M', lp_X a A' (i + 2) (q + 10) M' H' → L_P A M A' M' → k_X (jL_law G l h0) H' 1968 [(0, vR (some (k_sb G))), (1, vR (some a)), (2, vR (some (a + 31 + 0))), (3, vR (some (a + 31 + 1))), (4, vR (some (a + 31 + 2))), (5, vR (some (a + 31 + 3))), (6, vR (some (a + 31 + 4))), (7, vI 1), (8, vI (nI n)), (9, vI z9), (11, vI y9), (17, vI (nI (g_n M0)))] [] Q) : k_X (jL_law G l h0) H 1818 [(0, vR (some (k_sb G))), (1, vR (some a)), (2, vR (some (a + 31 + 0))), (3, vR (some (a + 31 + 1))), (4, vR (some (a + 31 + 2))), (5, vR (some (a + 31 + 3))), (6, vR (some (a + 31 + 4))), (8, vI (nI n)), (9, vI z9), (11, vI y9), (14, vI (nI x)), (17, vI (nI (g_n M0)))] [] Q := by
  obtain ⟨Lm, Lb, Lt, S⟩ := id L
  obtain ⟨dok, d9, dl, dfr⟩ := X_d W (by omega)
  have e := X_e W (by omega)
  have n9 := e.2.2.1
  have i0 : vp_in 0 5 := in_5 (k := 0) (by omega)
  have i3 : vp_in 3 5 := in_5 (k := 3) (by omega)
  have m0 : A 0 ((0 : Int32).toNatClampNeg) = nI (g_n M) := Lm.1
  have m3 : A 0 ((3 : Int32).toNatClampNeg) - 1 = nI ((g_DS M).2 - 1) := by
    rw [show A 0 ((3 : Int32).toNatClampNeg) = nI (g_DS M).2 from Lm.2.2.2]
    exact nI_sub (b := 1) (by omega)
  have er : nI x - (nI x / nI ((g_DS M).2 - 1)) * nI ((g_DS M).2 - 1) = nI (x % ((g_DS M).2 - 1)) := rf_rem hx (by omega)
  have hd : x % ((g_DS M).2 - 1) < (g_DS M).2 - 1 := Nat.mod_lt _ (by omega)
  generalize hP : x % ((g_DS M).2 - 1) = p at er hd
  have e1 : (1 : Int32) + nI p = nI (1 + p) := nI_add 1 p
  have nz : ¬ A 0 ((3 : Int32).toNatClampNeg) - 1 = 0 := fun z => by
    rw [m3] at z
    have := congrArg Int32.toInt z
    rw [nI_toInt (by omega), show (0 : Int32).toInt = 0 from by decide] at this
    omega
  have hmany : rm_many M (1 + p) < 2 ^ 31 := by
    obtain ⟨i', N, w, h, I⟩ := X_I W
    exact rm_small I (by omega) _
  refine bL_law_1818 (X_atom (j := 0) W (by decide)) i3 nz (by rw [m3, er, e1]; exact a_25 ok g0 W (by omega)) ?_
  rintro H1 _ ⟨W1, rfl⟩
  have JK : J_k M (F_remove M (nI (1 + p))).1 := Jk_remove dok.1
  by_cases c1 : d_is (g_DS M) (nI (1 + p)) = false
  · have F : F_remove M (nI (1 + p)) = (M, 1, 0) := if_pos c1
    rw [F] at W1 ⊢
    rw [code_x (by decide), rc_3]
    refine bL_law_1839 (bL_law_1841 (X_atom (j := 0) W1 (by decide)) i0 (fun _ => bL_law_1854 (bL_law_1855 (X_atom (j := 0) W1 (by decide)) i0 ?_)) (fun z => absurd (by decide) z))
    rw [Int32.add_zero, m0]
    have W2 := m_put (v := nI (g_n M)) W1
    rw [mA_s Lm.1] at W2
    exact bL_law_1857 (fun _ => bL_law_1896 (fun z => absurd rfl z) (fun _ => bL_law_1903 (bL_law_1908 (bL_law_1910 (K _ _ _ (lp_Xm W2 (by omega) (by omega)) (LP_0 Lw L)))))) (fun z => absurd (by decide) z)
  · have n0 : ¬ nI (1 + p) = 0 := fun z => by
      have := congrArg Int32.toInt z
      rw [nI_toInt (by omega), show (0 : Int32).toInt = 0 from by decide] at this
      omega
    have F : F_remove M (nI (1 + p)) = (g_dset (if 0 < rm_many M (1 + p) then g_cm M (rm_E M (1 + p)) else M) (rm_D M (1 + p)), 0, nI (rm_many M (1 + p))) := by
      unfold F_remove
      rw [if_neg c1, if_neg n0, t_nI (by omega)]
    rw [F] at W1 JK ⊢
    rw [code_0]
    have key : ∀ (M1 : s_M) (k : Nat) (H2 : k_H), (if 0 < rm_many M (1 + p) then g_cm M (rm_E M (1 + p)) else M) = M1 → g_n M1 = g_n M + k → lp_X a (m_A A (nI (g_n M + k))) (i + 1) q (g_dset M1 (rm_D M (1 + p))) H2 → J_S (A 0 4 = 0) (g_dset M1 (rm_D M (1 + p))) → J_r M (g_dset M1 (rm_D M (1 + p))) → (g_WT M1).length = (g_WT M).length → g_MK M1 = g_MK M → g_X M1 = g_X M → k_X (jL_law G l h0) H2 1857 [(0, vR (some (k_sb G))), (1, vR (some a)), (2, vR (some (a + 31 + 0))), (3, vR (some (a + 31 + 1))), (4, vR (some (a + 31 + 2))), (5, vR (some (a + 31 + 3))), (6, vR (some (a + 31 + 4))), (8, vI (nI n)), (9, vI z9), (11, vI y9), (14, vI (nI x)), (17, vI (nI (g_n M0))), (18, vI (nI (rm_many M (1 + p))))] [] Q := by
      intro M1 k H2 _ hn W2 s1 s2 f1 f2 f4
      have Fs : F_shortName (g_dset M1 (rm_D M (1 + p))) (nI (1 + p)) = (g_dset M1 (rm_D M (1 + p)), 1, 0) := if_pos (rm_gone_is dok (by omega) dl)
      have m3' : m_A A (nI (g_n M + k)) 0 ((3 : Int32).toNatClampNeg) - 1 = nI ((g_DS M).2 - 1) := by
        rw [show m_A A (nI (g_n M + k)) 0 ((3 : Int32).toNatClampNeg) = A 0 ((3 : Int32).toNatClampNeg) from mA_j (by decide)]; exact m3
      refine bL_law_1857 (fun z => absurd z (nI_pos (by omega))) (fun _ => bL_law_1862 (X_atom (j := 0) W2 (by decide)) i3 (by rw [m3', ← m3]; exact nz) (by rw [m3', er, e1]; exact r_26 ok g0 W2 (by omega) Fs (by decide)) ?_)
      rintro H3 _ ⟨W3, rfl⟩
      rw [rc_3]
      refine bL_law_1883 (fun z => absurd rfl z) (fun _ => bL_law_1888 (bL_law_1908 (bL_law_1910 (K _ _ _ (lp_Xm W3 (by omega) (by omega)) (LP_of Lw ⟨⟨?_, ?_, ?_, ?_⟩, Lb_X Lb (mA_A (by decide)) f4, Lt_X Lt (mA_A (by decide)) f4, ?_⟩ s2 (fun j hj => mA_A (by omega)) f1 (by rw [mA_A (by decide)]))))))
      · rw [mA_0]; exact congrArg nI hn.symm
      · rw [mA_j (by decide), show (g_WT (g_dset M1 (rm_D M (1 + p)))).length = (g_WT M).length from f1]; exact Lm.2.1
      · rw [mA_j (by decide), show g_MK (g_dset M1 (rm_D M (1 + p))) = g_MK M from f2]; exact Lm.2.2.1
      · rw [mA_j (by decide)]; exact Lm.2.2.2
      · rw [mA_j (by decide)]; exact s1
    by_cases c : 0 < rm_many M (1 + p)
    · rw [if_pos c] at W1 JK
      obtain ⟨s1, s2⟩ := J_step W (by omega) W1 (by omega) S (JI_same (JI_remove (d := 1 + p) e S.1 dok.1) rfl rfl rfl (Nat.le_refl _)) JK (lz_remove S.2.2.1)
      refine bL_law_1839 (bL_law_1841 (X_atom (j := 0) W1 (by decide)) i0 (fun z => absurd ((nI_leI (b := 0) (by omega) (by omega)).mp z) (by omega)) (fun _ => bL_law_1850 (bL_law_1855 (X_atom (j := 0) W1 (by decide)) i0 ?_)))
      rw [m0, show nI (g_n M) + 1 = nI (g_n M + 1) from nI_add _ 1]
      exact key _ 1 _ (if_pos c) rfl (m_put W1) s1 s2 (List.length_map _) rfl rfl
    · rw [if_neg c] at W1 JK
      have c0 : rm_many M (1 + p) = 0 := by omega
      obtain ⟨s1, s2⟩ := J_step W (by omega) W1 (by omega) S (JI_same S.1 rfl rfl rfl (Nat.le_refl _)) JK S.2.2.1
      refine bL_law_1839 (bL_law_1841 (X_atom (j := 0) W1 (by decide)) i0 (fun _ => bL_law_1854 (bL_law_1855 (X_atom (j := 0) W1 (by decide)) i0 ?_)) (fun z => absurd (by rw [c0]; decide) z))
      rw [m0, Int32.add_zero]
      exact key _ 0 _ (if_neg c) rfl (m_put W1) s1 s2 rfl rfl rfl
theorem lc_move (ok : k_ok G l) (g0 : k_fh G = 0) (W : lp_X a A i q M H) (hi : i + 2 < 512) (L : L_5 A M) (Lw : L_w A M) (hx : x < 2 ^ 31) (hM : M0 = M) (K : ∀ H' A' M', lp_X a A' (i + 2) (q + 10) M' H' → L_P A M A' M' → k_X (jL_law G l h0) H' 1968 [(0, vR (some (k_sb G))), (1, vR (some a)), (2, vR (some (a + 31 + 0))), (3, vR (some (a + 31 + 1))), (4, vR (some (a + 31 + 2))), (5, vR (some (a + 31 + 3))), (6, vR (some (a + 31 + 4))), (7, vI 1), (8, vI (nI n)), (9, vI z9), (11, vI y9), (17, vI (nI (g_n M0)))] [] Q) : k_X (jL_law G l h0) H 1913 [(0, vR (some (k_sb G))), (1, vR (some a)), (2, vR (some (a + 31 + 0))), (3, vR (some (a + 31 + 1))), (4, vR (some (a + 31 + 2))), (5, vR (some (a + 31 + 3))), (6, vR (some (a + 31 + 4))), (8, vI (nI n)), (9, vI z9), (11, vI y9), (14, vI (nI x)), (17, vI (nI (g_n M0)))] [] Q := by
  obtain ⟨Lm, Lb, Lt, S⟩ := id L
  obtain ⟨dok, d9, dl, dfr⟩ := X_d W (by omega)
  have d0 : 0 < (g_DS M).2 := dok.2.2.1 _ dok.1.2.1
  have i3 : vp_in 3 5 := in_5 (k := 3) (by omega)
  have m3 : A 0 ((3 : Int32).toNatClampNeg) = nI (g_DS M).2 := Lm.2.2.2
  have lt7 : x / 7 < 2 ^ 31 := Nat.lt_of_le_of_lt (Nat.div_le_self _ _) hx
  have lt49 : x / 49 < 2 ^ 31 := Nat.lt_of_le_of_lt (Nat.div_le_self _ _) hx
  have d7 : nI x / 7 = nI (x / 7) := nI_div hx (by decide)
  have d49 : nI x / 49 = nI (x / 49) := nI_div hx (by decide)
  have er : nI x - (nI x / nI (g_DS M).2) * nI (g_DS M).2 = nI (x % (g_DS M).2) := rf_rem hx (by omega)
  have er7 : nI (x / 7) - (nI (x / 7) / nI (g_DS M).2) * nI (g_DS M).2 = nI (x / 7 % (g_DS M).2) := rf_rem lt7 (by omega)
  have e10 : nI (x / 49) - (nI (x / 49) / 10) * 10 = nI (x / 49 % 10) := rf_rem lt49 (by decide)
  have hn : x / 49 % 10 < 10 := Nat.mod_lt _ (by omega)
  have in9 : ¬ s_inB (nI (x / 49 % 10)) 0 9 = false := (by decide +kernel : ∀ w, w < 10 → ¬ s_inB (nI w) 0 9 = false) _ hn
  have nz : ¬ A 0 ((3 : Int32).toNatClampNeg) = 0 := fun z => by
    rw [m3] at z
    have := congrArg Int32.toInt z
    rw [nI_toInt (by omega), show (0 : Int32).toInt = 0 from by decide] at this
    omega
  refine bL_law_1913 (X_atom (j := 0) W (by decide)) i3 nz nz (by rw [m3, er, d7, er7, d49, e10]; exact a_s ok g0 W (by omega)) ?_
  rintro H1 _ ⟨W1, rfl⟩
  have JK : J_k M (F_move M (nI (x % (g_DS M).2)) (nI (x / 7 % (g_DS M).2)) (nI (x / 49 % 10))).1 := Jk_move
  have F : F_move M (nI (x % (g_DS M).2)) (nI (x / 7 % (g_DS M).2)) (nI (x / 49 % 10)) = (M, 1, 0) ∨ F_move M (nI (x % (g_DS M).2)) (nI (x / 7 % (g_DS M).2)) (nI (x / 49 % 10)) = (M, 3, 0) ∨ ∃ D, F_move M (nI (x % (g_DS M).2)) (nI (x / 7 % (g_DS M).2)) (nI (x / 49 % 10)) = (g_dset M (D, (g_DS M).2), 0, 0) := by
    unfold F_move
    split
    · exact Or.inl rfl
    · try rw [if_neg in9]
      split
      · exact Or.inr (Or.inr ⟨_, rfl⟩)
      · exact Or.inr (Or.inl rfl)
  rcases F with F | F | ⟨D, F⟩
  · rw [F] at W1 ⊢
    rw [show lp_codeS (M, 1, 0) x_3 = -2000000001 from (if_neg (by decide : ¬ (1 : Nat) = 0)).trans rc_1]
    exact bL_law_1940 (bL_law_1942 (fun z => absurd z (by decide)) (fun _ => bL_law_1947 (fun _ => bL_law_1961 (bL_law_1966 (K _ _ _ (lp_Xm W1 (by omega) (by omega)) (LP_0 Lw L)))) (fun z => absurd rfl z)))
  · rw [F] at W1 ⊢
    rw [show lp_codeS (M, 3, 0) x_3 = -2000000003 from (if_neg (by decide : ¬ (3 : Nat) = 0)).trans rc_7]
    exact bL_law_1940 (bL_law_1942 (fun z => absurd z (by decide)) (fun _ => bL_law_1947 (fun z => absurd z (by decide)) (fun _ => bL_law_1954 (fun z => absurd rfl z) (fun _ => bL_law_1961 (bL_law_1966 (K _ _ _ (lp_Xm W1 (by omega) (by omega)) (LP_0 Lw L)))))))
  · rw [F] at W1 JK ⊢
    rw [show lp_codeS (g_dset M (D, (g_DS M).2), 0, 0) x_3 = 0 from rfl]
    obtain ⟨s1, s2⟩ := J_step W (by omega) W1 (by omega) S (JI_same S.1 rfl rfl rfl (Nat.le_refl _)) JK S.2.2.1
    exact bL_law_1940 (bL_law_1942 (fun _ => bL_law_1961 (bL_law_1966 (K _ _ _ (lp_Xm W1 (by omega) (by omega)) (LP_of Lw ⟨Lm, Lb, Lt, s1⟩ s2 (fun _ _ => rfl) rfl)))) (fun z => absurd rfl z))
end LI
