/-! ISREFUSED, WALKED (printed by wip/p37/genref.py) -/
theorem rf_mul (a b : Nat) : nI a * nI b = nI (a * b) := by
  induction b with
  | zero => show nI a * 0 = nI 0; rw [Int32.mul_zero]; rfl
  | succ b ih => rw [← nI_add b 1, Int32.mul_add, ih, show nI a * nI 1 = nI a from Int32.mul_one _, nI_add, Nat.mul_succ]
theorem rf_in {k n : Nat} (h : k < n) (hn : n < 1000) : vp_in (nI k) n := vp_in_nI h (by omega)
theorem rf_rem {z k : Nat} (hz : z < 2 ^ 31) (hk : k < 2 ^ 31) : nI z - (nI z / nI k) * nI k = nI (z % k) := by
  rw [nI_div hz hk, rf_mul, nI_sub (Nat.div_mul_le_self z k), Nat.mod_def, Nat.mul_comm]
theorem m1_lt {j : Nat} (hj : j < 30) : (-1 - nI j : Int32) < 0 := (by decide +kernel : ∀ j, j < 30 → (-1 - nI j : Int32) < 0) j hj
theorem inB_neg {x b : Int32} (h : x < 0) : s_inB x 0 b = false := by
  unfold s_inB
  rw [decide_eq_false (fun z => z h), Bool.false_and]
theorem inB_big {x b : Int32} (h : b < x) : s_inB x 0 b = false := by
  unfold s_inB
  rw [decide_eq_false (show ¬ ¬ b < x from fun z => z h), Bool.and_false]
section RF
variable {M : s_M}
theorem rf_val1 {j : Nat} (n9 : g_n M < 9000) (hj : j < 30) : (s_inB (-1 - nI j) 0 (nI (g_n M)) && s_keyB 5 5 5) = false := by rw [inB_neg (m1_lt hj), Bool.false_and]
theorem rf_val0 {j : Nat} (n9 : g_n M < 9000) (hj : j < 30) : (s_inB (nI (g_n M) + 1) 0 (nI (g_n M)) && s_keyB 5 5 5) = false := by
  rw [show nI (g_n M) + 1 = nI (g_n M + 1) from nI_add _ 1, inB_big ((nI_ltI (by omega) (by omega)).mpr (Nat.lt_succ_self _)), Bool.false_and]
theorem rf_len {n : Nat} {x : Int32} {j : Nat} (h : x = nI n + nI j) (hn : n ≤ 4096) (hj : j < 30) : s_inB x 0 (nI n - 1) = false := by
  rw [h, nI_add, inB_k (by omega), decide_eq_false (show ¬ nI (n + j) < nI n from fun z => by have := (nI_ltI (by omega) (by omega)).mp z; omega), Bool.and_false]
theorem rf_fir1 {j : Nat} (w20 : (g_WT M).length ≤ 20) (hj : j < 30) : s_inB (-1 - nI j) 0 (nI (g_WT M).length - 1) = false := inB_neg (m1_lt hj)
theorem rf_fir0 {j : Nat} (w20 : (g_WT M).length ≤ 20) (hj : j < 30) : s_inB (nI (g_WT M).length) 0 (nI (g_WT M).length - 1) = false := rf_len (j := 0) (by show _ = _ + 0; rw [Int32.add_zero]) (by omega) (by omega)
theorem rf_par1 {j : Nat} (pl : (g_PT M).length ≤ 4096) (hj : j < 30) : s_inB (-1) 0 (nI (g_PT M).length - 1) = false := inB_neg (by decide)
theorem rf_par0 {j : Nat} (pl : (g_PT M).length ≤ 4096) (hj : j < 30) : s_inB (nI (g_PT M).length + nI j) 0 (nI (g_PT M).length - 1) = false := rf_len rfl pl hj
theorem rf_par (p0 : 0 < (g_PT M).length) (pl : (g_PT M).length ≤ 4096) : ¬ s_inB 0 0 (nI (g_PT M).length - 1) = false := by
  have := inB_j (j := 0) p0 (by omega)
  rw [show (0 : Int32) = nI 0 from rfl]
  rw [show (nI 0 : Int32) = nI 0 from rfl] at this
  intro z
  exact absurd (this.symm.trans z) (by decide)
theorem rf_mrk1 {j : Nat} (m10 : (g_MK M).length ≤ 10) (hj : j < 30) : s_inB (-1) 0 (nI (g_MK M).length - 1) = false := inB_neg (by decide)
theorem rf_mrk0 {j : Nat} (m10 : (g_MK M).length ≤ 10) (hj : j < 30) : s_inB (nI (g_MK M).length + nI j) 0 (nI (g_MK M).length - 1) = false := rf_len rfl (by omega) hj
theorem rf_dn {D : List s_D × Nat} {x : Int32} (d : d_ok D) (h : ∀ k, k < D.2 → ¬ nI k = x) : d_is D x = false := by
  unfold d_is
  rw [List.any_eq_false]
  intro y hy
  rw [decide_eq_true_eq]
  exact h y.1 (d.2.2.1 y hy)
theorem rf_dj1 {j : Nat} (d : d_ok (g_DS M)) (d9 : (g_DS M).2 < 1024) (hj : j < 30) : d_is (g_DS M) (-1) = false := rf_dn d fun k hk z => by
  have := congrArg Int32.toInt z
  rw [nI_toInt (by omega), show (-1 : Int32).toInt = -1 from by decide] at this
  omega
theorem rf_dj0 {j : Nat} (d : d_ok (g_DS M)) (d9 : (g_DS M).2 < 1024) (hj : j < 30) : d_is (g_DS M) (nI (g_DS M).2 + nI j) = false := rf_dn d fun k hk z => by
  rw [nI_add] at z
  have := (nI_eq (by omega) (by omega)).mp z
  omega
theorem rf_d1 (d : d_ok (g_DS M)) (d9 : (g_DS M).2 < 1024) : d_is (g_DS M) (-1) = false := rf_dj1 (j := 0) d d9 (by omega)
theorem rf_d0 (d : d_ok (g_DS M)) (d9 : (g_DS M).2 < 1024) : d_is (g_DS M) (nI (g_DS M).2) = false := by
  have := rf_dj0 (j := 0) d d9 (by omega)
  rwa [show nI (g_DS M).2 + nI 0 = nI (g_DS M).2 from nI_add _ 0] at this
theorem rf_d (d : d_ok (g_DS M)) : ¬ d_is (g_DS M) 0 = false := by rw [dj_root d]; decide
theorem rf_dl1 (d : d_ok (g_DS M)) (d9 : (g_DS M).2 < 1024) : (d_is (g_DS M) (-1) && d_is (g_DS M) 0) = false := by rw [rf_d1 d d9, Bool.false_and]
theorem rf_dl0 (d : d_ok (g_DS M)) (d9 : (g_DS M).2 < 1024) : (d_is (g_DS M) (nI (g_DS M).2) && d_is (g_DS M) 0) = false := by rw [rf_d0 d d9, Bool.false_and]
theorem rf_dr1 (d : d_ok (g_DS M)) (d9 : (g_DS M).2 < 1024) : (d_is (g_DS M) 0 && d_is (g_DS M) (-1)) = false := by rw [rf_d1 d d9, Bool.and_false]
theorem rf_dr0 (d : d_ok (g_DS M)) (d9 : (g_DS M).2 < 1024) : (d_is (g_DS M) 0 && d_is (g_DS M) (nI (g_DS M).2)) = false := by rw [rf_d0 d d9, Bool.and_false]
theorem rf_d00 (d : d_ok (g_DS M)) : ¬ (d_is (g_DS M) 0 && d_is (g_DS M) 0) = false := by rw [dj_root d]; decide
theorem rf_mv : ¬ (mv_can (g_DS M) 0 0 5 && (decide (d_nm (g_DS M).1 0 5 = -2147483648) || decide (d_nm (g_DS M).1 0 5 = 0))) = true := by
  have : mv_can (g_DS M) 0 0 5 = false := by
    unfold mv_can
    rw [show decide (¬ (0 : Int32) ≤ 0) = false from by decide, Bool.and_false, Bool.false_and]
  rw [this, Bool.false_and]
  decide
theorem he1_0 {j u w : Nat} (hj : j < 30) (hu : u < 7) (hw : w < 3) (d : d_ok (g_DS M)) (n9 : g_n M < 9000) (w20 : (g_WT M).length ≤ 20) (m10 : (g_MK M).length ≤ 10) (p0 : 0 < (g_PT M).length) (pl : (g_PT M).length ≤ 4096) (d9 : (g_DS M).2 < 1024) : F_begin M (-1 - nI j) (decide ((0 : Int32) = 1)) = (M, 1, 0) := by
  unfold F_begin
  rw [if_pos ((by decide +kernel : ∀ j, j < 30 → s_inB (-1 - nI j) 0 3 = false) j hj)]
theorem he1_1 {j u w : Nat} (hj : j < 30) (hu : u < 7) (hw : w < 3) (d : d_ok (g_DS M)) (n9 : g_n M < 9000) (w20 : (g_WT M).length ≤ 20) (m10 : (g_MK M).length ≤ 10) (p0 : 0 < (g_PT M).length) (pl : (g_PT M).length ≤ 4096) (d9 : (g_DS M).2 < 1024) : F_get M (-1 - nI j) 10001 0 0 (decide ((0 : Int32) = 1)) = (M, 1, 0) := by
  unfold F_get
  rw [if_pos ((by decide +kernel : ∀ j, j < 30 → s_inB (-1 - nI j) 0 3 = false) j hj)]
theorem he1_2 {j u w : Nat} (hj : j < 30) (hu : u < 7) (hw : w < 3) (d : d_ok (g_DS M)) (n9 : g_n M < 9000) (w20 : (g_WT M).length ≤ 20) (m10 : (g_MK M).length ≤ 10) (p0 : 0 < (g_PT M).length) (pl : (g_PT M).length ≤ 4096) (d9 : (g_DS M).2 < 1024) : F_get M 0 (-1000 - nI j) 0 0 (decide ((0 : Int32) = 1)) = (M, 2, 0) := by
  unfold F_get
  rw [if_neg ((by decide +kernel : ¬ s_inB 0 0 3 = false)), if_pos ((by decide +kernel : ∀ j, j < 30 → s_keyB (-1000 - nI j) 0 0 = false) j hj)]
theorem he1_3 {j u w : Nat} (hj : j < 30) (hu : u < 7) (hw : w < 3) (d : d_ok (g_DS M)) (n9 : g_n M < 9000) (w20 : (g_WT M).length ≤ 20) (m10 : (g_MK M).length ≤ 10) (p0 : 0 < (g_PT M).length) (pl : (g_PT M).length ≤ 4096) (d9 : (g_DS M).2 < 1024) : F_get M 0 5 (-1000 - nI j) 0 (decide ((0 : Int32) = 1)) = (M, 2, 0) := by
  unfold F_get
  rw [if_neg ((by decide +kernel : ¬ s_inB 0 0 3 = false)), if_pos ((by decide +kernel : ∀ j, j < 30 → s_keyB 5 (-1000 - nI j) 0 = false) j hj)]
theorem he1_4 {j u w : Nat} (hj : j < 30) (hu : u < 7) (hw : w < 3) (d : d_ok (g_DS M)) (n9 : g_n M < 9000) (w20 : (g_WT M).length ≤ 20) (m10 : (g_MK M).length ≤ 10) (p0 : 0 < (g_PT M).length) (pl : (g_PT M).length ≤ 4096) (d9 : (g_DS M).2 < 1024) : F_get M 0 5 10000 (nI j) (decide ((0 : Int32) = 1)) = (M, 2, 0) := by
  unfold F_get
  rw [if_neg ((by decide +kernel : ¬ s_inB 0 0 3 = false)), if_pos ((by decide +kernel : ∀ j, j < 30 → s_keyB 5 10000 (nI j) = false) j hj)]
theorem he1_5 {j u w : Nat} (hj : j < 30) (hu : u < 7) (hw : w < 3) (d : d_ok (g_DS M)) (n9 : g_n M < 9000) (w20 : (g_WT M).length ≤ 20) (m10 : (g_MK M).length ≤ 10) (p0 : 0 < (g_PT M).length) (pl : (g_PT M).length ≤ 4096) (d9 : (g_DS M).2 < 1024) : F_get M 0 10000 10000 10000 (decide ((0 : Int32) = 1)) = (M, 2, 0) := by
  unfold F_get
  rw [if_neg ((by decide +kernel : ¬ s_inB 0 0 3 = false)), if_pos ((by decide +kernel : s_keyB 10000 10000 10000 = false))]
theorem he1_6 {j u w : Nat} (hj : j < 30) (hu : u < 7) (hw : w < 3) (d : d_ok (g_DS M)) (n9 : g_n M < 9000) (w20 : (g_WT M).length ≤ 20) (m10 : (g_MK M).length ≤ 10) (p0 : 0 < (g_PT M).length) (pl : (g_PT M).length ≤ 4096) (d9 : (g_DS M).2 < 1024) : F_get M 0 5 5 (-1000 - nI j) (decide ((0 : Int32) = 1)) = (M, 2, 0) := by
  unfold F_get
  rw [if_neg ((by decide +kernel : ¬ s_inB 0 0 3 = false)), if_pos ((by decide +kernel : ∀ j, j < 30 → s_keyB 5 5 (-1000 - nI j) = false) j hj)]
theorem he1_7 {j u w : Nat} (hj : j < 30) (hu : u < 7) (hw : w < 3) (d : d_ok (g_DS M)) (n9 : g_n M < 9000) (w20 : (g_WT M).length ≤ 20) (m10 : (g_MK M).length ≤ 10) (p0 : 0 < (g_PT M).length) (pl : (g_PT M).length ≤ 4096) (d9 : (g_DS M).2 < 1024) : F_range M (-1 - nI j) 5 5 (decide ((0 : Int32) = 1)) = (M, 1, 0) := by
  unfold F_range
  rw [if_pos ((by decide +kernel : ∀ j, j < 30 → s_inB (-1 - nI j) 0 3 = false) j hj)]
theorem he1_8 {j u w : Nat} (hj : j < 30) (hu : u < 7) (hw : w < 3) (d : d_ok (g_DS M)) (n9 : g_n M < 9000) (w20 : (g_WT M).length ≤ 20) (m10 : (g_MK M).length ≤ 10) (p0 : 0 < (g_PT M).length) (pl : (g_PT M).length ≤ 4096) (d9 : (g_DS M).2 < 1024) : F_range M 0 10000 (nI j) (decide ((0 : Int32) = 1)) = (M, 2, 0) := by
  unfold F_range
  rw [if_neg ((by decide +kernel : ¬ s_inB 0 0 3 = false)), if_pos ((by decide +kernel : ∀ j, j < 30 → s_rngB 10000 (nI j) = false) j hj)]
theorem he1_9 {j u w : Nat} (hj : j < 30) (hu : u < 7) (hw : w < 3) (d : d_ok (g_DS M)) (n9 : g_n M < 9000) (w20 : (g_WT M).length ≤ 20) (m10 : (g_MK M).length ≤ 10) (p0 : 0 < (g_PT M).length) (pl : (g_PT M).length ≤ 4096) (d9 : (g_DS M).2 < 1024) : F_range M 0 (-1000 - nI j) 10000 (decide ((0 : Int32) = 1)) = (M, 2, 0) := by
  unfold F_range
  rw [if_neg ((by decide +kernel : ¬ s_inB 0 0 3 = false)), if_pos ((by decide +kernel : ∀ j, j < 30 → s_rngB (-1000 - nI j) 10000 = false) j hj)]
theorem he1_10 {j u w : Nat} (hj : j < 30) (hu : u < 7) (hw : w < 3) (d : d_ok (g_DS M)) (n9 : g_n M < 9000) (w20 : (g_WT M).length ≤ 20) (m10 : (g_MK M).length ≤ 10) (p0 : 0 < (g_PT M).length) (pl : (g_PT M).length ≤ 4096) (d9 : (g_DS M).2 < 1024) : F_rangeAt M 0 5 5 (-1 - nI j) 9 = (M, 1, 0) := by
  unfold F_rangeAt
  rw [if_pos ((by decide +kernel : ∀ j, j < 30 → (s_inB 0 0 3 && decide (¬ (-1 - nI j : Int32) < 0)) = false) j hj)]
theorem he1_11 {j u w : Nat} (hj : j < 30) (hu : u < 7) (hw : w < 3) (d : d_ok (g_DS M)) (n9 : g_n M < 9000) (w20 : (g_WT M).length ≤ 20) (m10 : (g_MK M).length ≤ 10) (p0 : 0 < (g_PT M).length) (pl : (g_PT M).length ≤ 4096) (d9 : (g_DS M).2 < 1024) : F_rangeAt M 0 5 5 0 (-1) = (M, 2, 0) := by
  unfold F_rangeAt
  rw [if_neg ((by decide +kernel : ¬ (s_inB 0 0 3 && decide (¬ (0 : Int32) < 0)) = false)), if_pos ((by decide +kernel : ∀ j, j < 30 → (s_rngB 5 5 && s_inB (-1) 0 2) = false) j hj)]
theorem he1_12 {j u w : Nat} (hj : j < 30) (hu : u < 7) (hw : w < 3) (d : d_ok (g_DS M)) (n9 : g_n M < 9000) (w20 : (g_WT M).length ≤ 20) (m10 : (g_MK M).length ≤ 10) (p0 : 0 < (g_PT M).length) (pl : (g_PT M).length ≤ 4096) (d9 : (g_DS M).2 < 1024) : F_change M (-1 - nI j) 9 5 5 5 0 = (M, 1, 0) := by
  unfold F_change
  rw [if_pos ((by decide +kernel : ∀ j, j < 30 → s_inB (-1 - nI j) 0 3 = false) j hj)]
theorem he1_13 {j u w : Nat} (hj : j < 30) (hu : u < 7) (hw : w < 3) (d : d_ok (g_DS M)) (n9 : g_n M < 9000) (w20 : (g_WT M).length ≤ 20) (m10 : (g_MK M).length ≤ 10) (p0 : 0 < (g_PT M).length) (pl : (g_PT M).length ≤ 4096) (d9 : (g_DS M).2 < 1024) : F_change M 0 (-1 - nI j) 5 5 5 0 = (M, 2, 0) := by
  unfold F_change
  rw [if_neg ((by decide +kernel : ¬ s_inB 0 0 3 = false)), if_pos ((by decide +kernel : ∀ j, j < 30 → (s_inB ((-1 - nI j) : Int32) 0 6 && (decide (((-1 - nI j) : Int32) = 1) || decide (((-1 - nI j) : Int32) = 5) || s_inB 0 (-1000000) 1000000) && s_keyB 5 5 5 && !s_inB 5 (-7) (-1)) = false) j hj)]
theorem he1_14 {j u w : Nat} (hj : j < 30) (hu : u < 7) (hw : w < 3) (d : d_ok (g_DS M)) (n9 : g_n M < 9000) (w20 : (g_WT M).length ≤ 20) (m10 : (g_MK M).length ≤ 10) (p0 : 0 < (g_PT M).length) (pl : (g_PT M).length ≤ 4096) (d9 : (g_DS M).2 < 1024) : F_change M 0 0 5 5 5 (-1000001) = (M, 2, 0) := by
  unfold F_change
  rw [if_neg ((by decide +kernel : ¬ s_inB 0 0 3 = false)), if_pos ((by decide +kernel : ∀ j, j < 30 → (s_inB (0 : Int32) 0 6 && (decide ((0 : Int32) = 1) || decide ((0 : Int32) = 5) || s_inB (-1000001) (-1000000) 1000000) && s_keyB 5 5 5 && !s_inB 5 (-7) (-1)) = false) j hj)]
theorem he1_15 {j u w : Nat} (hj : j < 30) (hu : u < 7) (hw : w < 3) (d : d_ok (g_DS M)) (n9 : g_n M < 9000) (w20 : (g_WT M).length ≤ 20) (m10 : (g_MK M).length ≤ 10) (p0 : 0 < (g_PT M).length) (pl : (g_PT M).length ≤ 4096) (d9 : (g_DS M).2 < 1024) : F_change M 0 (nI u) (-7 + nI u) 5 5 0 = (M, 2, 0) := by
  unfold F_change
  rw [if_neg ((by decide +kernel : ¬ s_inB 0 0 3 = false)), if_pos ((by decide +kernel : ∀ u, u < 7 → (s_inB (nI u : Int32) 0 6 && (decide ((nI u : Int32) = 1) || decide ((nI u : Int32) = 5) || s_inB 0 (-1000000) 1000000) && s_keyB (-7 + nI u) 5 5 && !s_inB (-7 + nI u) (-7) (-1)) = false) u hu)]
theorem he1_16 {j u w : Nat} (hj : j < 30) (hu : u < 7) (hw : w < 3) (d : d_ok (g_DS M)) (n9 : g_n M < 9000) (w20 : (g_WT M).length ≤ 20) (m10 : (g_MK M).length ≤ 10) (p0 : 0 < (g_PT M).length) (pl : (g_PT M).length ≤ 4096) (d9 : (g_DS M).2 < 1024) : F_clear M (-1 - nI j) 5 5 = (M, 1, 0) := by
  unfold F_clear
  rw [if_pos ((by decide +kernel : ∀ j, j < 30 → s_inB (-1 - nI j) 0 3 = false) j hj)]
theorem he1_17 {j u w : Nat} (hj : j < 30) (hu : u < 7) (hw : w < 3) (d : d_ok (g_DS M)) (n9 : g_n M < 9000) (w20 : (g_WT M).length ≤ 20) (m10 : (g_MK M).length ≤ 10) (p0 : 0 < (g_PT M).length) (pl : (g_PT M).length ≤ 4096) (d9 : (g_DS M).2 < 1024) : F_clear M 0 (-7 + nI u) 5 = (M, 2, 0) := by
  unfold F_clear
  rw [if_neg ((by decide +kernel : ¬ s_inB 0 0 3 = false)), if_pos ((by decide +kernel : ∀ u, u < 7 → (s_rngB (-7 + nI u) 5 && !(decide ((-7 + nI u : Int32) = 10000)) && !s_inB (-7 + nI u) (-7) (-1)) = false) u hu)]
theorem he1_18 {j u w : Nat} (hj : j < 30) (hu : u < 7) (hw : w < 3) (d : d_ok (g_DS M)) (n9 : g_n M < 9000) (w20 : (g_WT M).length ≤ 20) (m10 : (g_MK M).length ≤ 10) (p0 : 0 < (g_PT M).length) (pl : (g_PT M).length ≤ 4096) (d9 : (g_DS M).2 < 1024) : F_clear M 0 10000 10000 = (M, 2, 0) := by
  unfold F_clear
  rw [if_neg ((by decide +kernel : ¬ s_inB 0 0 3 = false)), if_pos ((by decide +kernel : (s_rngB 10000 10000 && !(decide ((10000 : Int32) = 10000)) && !s_inB 10000 (-7) (-1)) = false))]
theorem he1_19 {j u w : Nat} (hj : j < 30) (hu : u < 7) (hw : w < 3) (d : d_ok (g_DS M)) (n9 : g_n M < 9000) (w20 : (g_WT M).length ≤ 20) (m10 : (g_MK M).length ≤ 10) (p0 : 0 < (g_PT M).length) (pl : (g_PT M).length ≤ 4096) (d9 : (g_DS M).2 < 1024) : F_commit M (-1 - nI j) = (M, 1, 0) := by
  unfold F_commit
  rw [if_pos ((by decide +kernel : ∀ j, j < 30 → s_inB (-1 - nI j) 0 3 = false) j hj)]
theorem he1_20 {j u w : Nat} (hj : j < 30) (hu : u < 7) (hw : w < 3) (d : d_ok (g_DS M)) (n9 : g_n M < 9000) (w20 : (g_WT M).length ≤ 20) (m10 : (g_MK M).length ≤ 10) (p0 : 0 < (g_PT M).length) (pl : (g_PT M).length ≤ 4096) (d9 : (g_DS M).2 < 1024) : F_pass M (0 - nI j) = (M, 1, 0) := by
  unfold F_pass
  rw [if_pos ((by decide +kernel : ∀ j, j < 30 → s_inB (0 - nI j) 1 10 = false) j hj)]
theorem he1_21 {j u w : Nat} (hj : j < 30) (hu : u < 7) (hw : w < 3) (d : d_ok (g_DS M)) (n9 : g_n M < 9000) (w20 : (g_WT M).length ≤ 20) (m10 : (g_MK M).length ≤ 10) (p0 : 0 < (g_PT M).length) (pl : (g_PT M).length ≤ 4096) (d9 : (g_DS M).2 < 1024) : F_value M (-1 - nI j) 5 5 5 = (M, 1, 0) := by
  unfold F_value
  rw [if_pos (rf_val1 n9 hj)]
theorem he1_22 {j u w : Nat} (hj : j < 30) (hu : u < 7) (hw : w < 3) (d : d_ok (g_DS M)) (n9 : g_n M < 9000) (w20 : (g_WT M).length ≤ 20) (m10 : (g_MK M).length ≤ 10) (p0 : 0 < (g_PT M).length) (pl : (g_PT M).length ≤ 4096) (d9 : (g_DS M).2 < 1024) : F_packed M (-1000 - nI j) 5 5 (-1 - nI j) = (M, 1, 0) := by
  unfold F_packed
  rw [if_pos ((by decide +kernel : ∀ j, j < 30 → (-1 - nI j : Int32) < 0) j hj)]
theorem he1_23 {j u w : Nat} (hj : j < 30) (hu : u < 7) (hw : w < 3) (d : d_ok (g_DS M)) (n9 : g_n M < 9000) (w20 : (g_WT M).length ≤ 20) (m10 : (g_MK M).length ≤ 10) (p0 : 0 < (g_PT M).length) (pl : (g_PT M).length ≤ 4096) (d9 : (g_DS M).2 < 1024) : F_packed M (-1000 - nI j) 5 5 0 = (M, 2, 0) := by
  unfold F_packed
  rw [if_neg ((by decide +kernel : ¬ (0 : Int32) < 0)), if_pos ((by decide +kernel : ∀ j, j < 30 → s_keyB (-1000 - nI j) 5 5 = false) j hj)]
theorem he1_24 {j u w : Nat} (hj : j < 30) (hu : u < 7) (hw : w < 3) (d : d_ok (g_DS M)) (n9 : g_n M < 9000) (w20 : (g_WT M).length ≤ 20) (m10 : (g_MK M).length ≤ 10) (p0 : 0 < (g_PT M).length) (pl : (g_PT M).length ≤ 4096) (d9 : (g_DS M).2 < 1024) : F_save M (-1 - nI j) 999 0 = (M, 1, 0) := by
  unfold F_save F_saved
  rw [if_pos ((by decide +kernel : ∀ j, j < 30 → s_inB (-1 - nI j) 0 3 = false) j hj)]
theorem he1_25 {j u w : Nat} (hj : j < 30) (hu : u < 7) (hw : w < 3) (d : d_ok (g_DS M)) (n9 : g_n M < 9000) (w20 : (g_WT M).length ≤ 20) (m10 : (g_MK M).length ≤ 10) (p0 : 0 < (g_PT M).length) (pl : (g_PT M).length ≤ 4096) (d9 : (g_DS M).2 < 1024) : F_save M 0 (-1) 0 = (M, 2, 0) := by
  unfold F_save F_saved
  rw [if_neg ((by decide +kernel : ¬ s_inB 0 0 3 = false)), if_pos ((by decide +kernel : ∀ j, j < 30 → (s_inB (-1) 0 99 && (!true || s_inB 0 0 99)) = false) j hj)]
theorem he1_26 {j u w : Nat} (hj : j < 30) (hu : u < 7) (hw : w < 3) (d : d_ok (g_DS M)) (n9 : g_n M < 9000) (w20 : (g_WT M).length ≤ 20) (m10 : (g_MK M).length ≤ 10) (p0 : 0 < (g_PT M).length) (pl : (g_PT M).length ≤ 4096) (d9 : (g_DS M).2 < 1024) : F_save M 0 0 (-1 - nI j) = (M, 2, 0) := by
  unfold F_save F_saved
  rw [if_neg ((by decide +kernel : ¬ s_inB 0 0 3 = false)), if_pos ((by decide +kernel : ∀ j, j < 30 → (s_inB 0 0 99 && (!true || s_inB (-1 - nI j) 0 99)) = false) j hj)]
theorem he1_27 {j u w : Nat} (hj : j < 30) (hu : u < 7) (hw : w < 3) (d : d_ok (g_DS M)) (n9 : g_n M < 9000) (w20 : (g_WT M).length ≤ 20) (m10 : (g_MK M).length ≤ 10) (p0 : 0 < (g_PT M).length) (pl : (g_PT M).length ≤ 4096) (d9 : (g_DS M).2 < 1024) : F_erase M 0 (-1) = (M, 2, 0) := by
  unfold F_erase F_saved
  rw [if_neg ((by decide +kernel : ¬ s_inB 0 0 3 = false)), if_pos ((by decide +kernel : ∀ j, j < 30 → (s_inB (-1) 0 99 && (!false || s_inB 0 0 99)) = false) j hj)]
theorem he1_28 {j u w : Nat} (hj : j < 30) (hu : u < 7) (hw : w < 3) (d : d_ok (g_DS M)) (n9 : g_n M < 9000) (w20 : (g_WT M).length ≤ 20) (m10 : (g_MK M).length ≤ 10) (p0 : 0 < (g_PT M).length) (pl : (g_PT M).length ≤ 4096) (d9 : (g_DS M).2 < 1024) : F_build M (-1) 99 = (M, 1, 0) := by
  unfold F_build
  rw [if_pos ((by decide +kernel : ∀ j, j < 30 → s_inB (-1) 0 2 = false) j hj)]
theorem he1_29 {j u w : Nat} (hj : j < 30) (hu : u < 7) (hw : w < 3) (d : d_ok (g_DS M)) (n9 : g_n M < 9000) (w20 : (g_WT M).length ≤ 20) (m10 : (g_MK M).length ≤ 10) (p0 : 0 < (g_PT M).length) (pl : (g_PT M).length ≤ 4096) (d9 : (g_DS M).2 < 1024) : F_build M (nI w) (0 - nI j) = (M, 2, 0) := by
  unfold F_build
  rw [if_neg ((by decide +kernel : ∀ w, w < 3 → ¬ s_inB (nI w) 0 2 = false) w hw), if_pos ((by decide +kernel : ∀ j, j < 30 → s_inB (0 - nI j) 1 20 = false) j hj)]
theorem he1_30 {j u w : Nat} (hj : j < 30) (hu : u < 7) (hw : w < 3) (d : d_ok (g_DS M)) (n9 : g_n M < 9000) (w20 : (g_WT M).length ≤ 20) (m10 : (g_MK M).length ≤ 10) (p0 : 0 < (g_PT M).length) (pl : (g_PT M).length ≤ 4096) (d9 : (g_DS M).2 < 1024) : F_off M (-1) = (M, 1, 0) := by
  unfold F_off
  rw [if_pos ((by decide +kernel : ∀ j, j < 30 → s_inB (-1) 0 2 = false) j hj)]
theorem he1_31 {j u w : Nat} (hj : j < 30) (hu : u < 7) (hw : w < 3) (d : d_ok (g_DS M)) (n9 : g_n M < 9000) (w20 : (g_WT M).length ≤ 20) (m10 : (g_MK M).length ≤ 10) (p0 : 0 < (g_PT M).length) (pl : (g_PT M).length ≤ 4096) (d9 : (g_DS M).2 < 1024) : F_rank M (-1 - nI j) = (M, 1, 0) := by
  unfold F_rank F_ranked
  rw [if_pos ((by decide +kernel : ∀ j, j < 30 → s_inB (-1 - nI j) 0 99 = false) j hj)]
theorem he1_32 {j u w : Nat} (hj : j < 30) (hu : u < 7) (hw : w < 3) (d : d_ok (g_DS M)) (n9 : g_n M < 9000) (w20 : (g_WT M).length ≤ 20) (m10 : (g_MK M).length ≤ 10) (p0 : 0 < (g_PT M).length) (pl : (g_PT M).length ≤ 4096) (d9 : (g_DS M).2 < 1024) : F_rankAnew M (-1) = (M, 1, 0) := by
  unfold F_rankAnew F_ranked
  rw [if_pos ((by decide +kernel : ∀ j, j < 30 → s_inB (-1) 0 99 = false) j hj)]
theorem he1_33 {j u w : Nat} (hj : j < 30) (hu : u < 7) (hw : w < 3) (d : d_ok (g_DS M)) (n9 : g_n M < 9000) (w20 : (g_WT M).length ≤ 20) (m10 : (g_MK M).length ≤ 10) (p0 : 0 < (g_PT M).length) (pl : (g_PT M).length ≤ 4096) (d9 : (g_DS M).2 < 1024) : F_watch M 5 10000 5 = (M, 1, 0) := by
  unfold F_watch
  rw [if_pos ((by decide +kernel : s_keyB 5 10000 5 = false))]
theorem he1_34 {j u w : Nat} (hj : j < 30) (hu : u < 7) (hw : w < 3) (d : d_ok (g_DS M)) (n9 : g_n M < 9000) (w20 : (g_WT M).length ≤ 20) (m10 : (g_MK M).length ≤ 10) (p0 : 0 < (g_PT M).length) (pl : (g_PT M).length ≤ 4096) (d9 : (g_DS M).2 < 1024) : F_fired M (-1 - nI j) = (M, 1, 0) := by
  unfold F_fired
  rw [if_pos (rf_fir1 w20 hj)]
theorem he1_35 {j u w : Nat} (hj : j < 30) (hu : u < 7) (hw : w < 3) (d : d_ok (g_DS M)) (n9 : g_n M < 9000) (w20 : (g_WT M).length ≤ 20) (m10 : (g_MK M).length ≤ 10) (p0 : 0 < (g_PT M).length) (pl : (g_PT M).length ≤ 4096) (d9 : (g_DS M).2 < 1024) : F_offer M (-1 - nI j) (-1) = (M, 1, 0) := by
  unfold F_offer
  rw [if_pos ((by decide +kernel : ∀ j, j < 30 → s_inB (-1 - nI j) 0 3 = false) j hj)]
theorem he1_36 {j u w : Nat} (hj : j < 30) (hu : u < 7) (hw : w < 3) (d : d_ok (g_DS M)) (n9 : g_n M < 9000) (w20 : (g_WT M).length ≤ 20) (m10 : (g_MK M).length ≤ 10) (p0 : 0 < (g_PT M).length) (pl : (g_PT M).length ≤ 4096) (d9 : (g_DS M).2 < 1024) : F_offer M 0 (-1) = (M, 2, 0) := by
  unfold F_offer
  rw [if_neg ((by decide +kernel : ¬ s_inB 0 0 3 = false)), if_pos ((by decide +kernel : ∀ j, j < 30 → s_inB (-1) 0 1000000 = false) j hj)]
theorem he1_37 {j u w : Nat} (hj : j < 30) (hu : u < 7) (hw : w < 3) (d : d_ok (g_DS M)) (n9 : g_n M < 9000) (w20 : (g_WT M).length ≤ 20) (m10 : (g_MK M).length ≤ 10) (p0 : 0 < (g_PT M).length) (pl : (g_PT M).length ≤ 4096) (d9 : (g_DS M).2 < 1024) : F_take M (-1) = (M, 1, 0) := by
  unfold F_take
  rw [if_pos ((by decide +kernel : ∀ j, j < 30 → s_inB (-1) 0 2 = false) j hj)]
theorem he1_38 {j u w : Nat} (hj : j < 30) (hu : u < 7) (hw : w < 3) (d : d_ok (g_DS M)) (n9 : g_n M < 9000) (w20 : (g_WT M).length ≤ 20) (m10 : (g_MK M).length ≤ 10) (p0 : 0 < (g_PT M).length) (pl : (g_PT M).length ≤ 4096) (d9 : (g_DS M).2 < 1024) : F_finish M (-1 - nI j) = (M, 1, 0) := by
  unfold F_finish
  rw [if_pos ((by decide +kernel : ∀ j, j < 30 → s_inB (-1 - nI j) 0 2 = false) j hj)]
theorem he1_39 {j u w : Nat} (hj : j < 30) (hu : u < 7) (hw : w < 3) (d : d_ok (g_DS M)) (n9 : g_n M < 9000) (w20 : (g_WT M).length ≤ 20) (m10 : (g_MK M).length ≤ 10) (p0 : 0 < (g_PT M).length) (pl : (g_PT M).length ≤ 4096) (d9 : (g_DS M).2 < 1024) : F_part M (-1) 9 = (M, 1, 0) := by
  unfold F_part
  rw [if_pos (rf_par1 pl hj)]
theorem he1_40 {j u w : Nat} (hj : j < 30) (hu : u < 7) (hw : w < 3) (d : d_ok (g_DS M)) (n9 : g_n M < 9000) (w20 : (g_WT M).length ≤ 20) (m10 : (g_MK M).length ≤ 10) (p0 : 0 < (g_PT M).length) (pl : (g_PT M).length ≤ 4096) (d9 : (g_DS M).2 < 1024) : F_part M 0 (-1 - nI j) = (M, 2, 0) := by
  unfold F_part
  rw [if_neg (rf_par p0 pl), if_pos ((by decide +kernel : ∀ j, j < 30 → s_inB (-1 - nI j) 0 4 = false) j hj)]
theorem he1_41 {j u w : Nat} (hj : j < 30) (hu : u < 7) (hw : w < 3) (d : d_ok (g_DS M)) (n9 : g_n M < 9000) (w20 : (g_WT M).length ≤ 20) (m10 : (g_MK M).length ≤ 10) (p0 : 0 < (g_PT M).length) (pl : (g_PT M).length ≤ 4096) (d9 : (g_DS M).2 < 1024) : F_bringBack M (-1) = (M, 1, 0) := by
  unfold F_bringBack
  rw [if_pos (rf_mrk1 m10 hj)]
theorem he1_42 {j u w : Nat} (hj : j < 30) (hu : u < 7) (hw : w < 3) (d : d_ok (g_DS M)) (n9 : g_n M < 9000) (w20 : (g_WT M).length ≤ 20) (m10 : (g_MK M).length ≤ 10) (p0 : 0 < (g_PT M).length) (pl : (g_PT M).length ≤ 4096) (d9 : (g_DS M).2 < 1024) : F_directory M (-1) 0 = (M, 1, 0) := by
  unfold F_directory
  rw [if_pos (rf_dj1 d d9 hj)]
theorem he1_43 {j u w : Nat} (hj : j < 30) (hu : u < 7) (hw : w < 3) (d : d_ok (g_DS M)) (n9 : g_n M < 9000) (w20 : (g_WT M).length ≤ 20) (m10 : (g_MK M).length ≤ 10) (p0 : 0 < (g_PT M).length) (pl : (g_PT M).length ≤ 4096) (d9 : (g_DS M).2 < 1024) : F_directory M 0 (-1 - nI j) = (M, 2, 0) := by
  unfold F_directory
  rw [if_neg (rf_d d), if_pos ((by decide +kernel : ∀ j, j < 30 → s_inB (-1 - nI j) 0 9 = false) j hj)]
theorem he1_44 {j u w : Nat} (hj : j < 30) (hu : u < 7) (hw : w < 3) (d : d_ok (g_DS M)) (n9 : g_n M < 9000) (w20 : (g_WT M).length ≤ 20) (m10 : (g_MK M).length ≤ 10) (p0 : 0 < (g_PT M).length) (pl : (g_PT M).length ≤ 4096) (d9 : (g_DS M).2 < 1024) : F_remove M (-1) = (M, 1, 0) := by
  unfold F_remove
  rw [if_pos (rf_d1 d d9)]
theorem he1_45 {j u w : Nat} (hj : j < 30) (hu : u < 7) (hw : w < 3) (d : d_ok (g_DS M)) (n9 : g_n M < 9000) (w20 : (g_WT M).length ≤ 20) (m10 : (g_MK M).length ≤ 10) (p0 : 0 < (g_PT M).length) (pl : (g_PT M).length ≤ 4096) (d9 : (g_DS M).2 < 1024) : F_remove M 0 = (M, 2, 0) := by
  unfold F_remove
  rw [if_neg (rf_d d), if_pos ((by decide +kernel : (0 : Int32) = 0))]
theorem he1_46 {j u w : Nat} (hj : j < 30) (hu : u < 7) (hw : w < 3) (d : d_ok (g_DS M)) (n9 : g_n M < 9000) (w20 : (g_WT M).length ≤ 20) (m10 : (g_MK M).length ≤ 10) (p0 : 0 < (g_PT M).length) (pl : (g_PT M).length ≤ 4096) (d9 : (g_DS M).2 < 1024) : F_shortName M (-1) = (M, 1, 0) := by
  unfold F_shortName
  rw [if_pos (rf_dj1 d d9 hj)]
theorem he1_47 {j u w : Nat} (hj : j < 30) (hu : u < 7) (hw : w < 3) (d : d_ok (g_DS M)) (n9 : g_n M < 9000) (w20 : (g_WT M).length ≤ 20) (m10 : (g_MK M).length ≤ 10) (p0 : 0 < (g_PT M).length) (pl : (g_PT M).length ≤ 4096) (d9 : (g_DS M).2 < 1024) : F_named M 0 (-1) = (M, 2, 0) := by
  unfold F_named
  rw [if_neg (rf_d d), if_pos ((by decide +kernel : ∀ j, j < 30 → s_inB (-1) 0 9 = false) j hj)]
theorem he1_48 {j u w : Nat} (hj : j < 30) (hu : u < 7) (hw : w < 3) (d : d_ok (g_DS M)) (n9 : g_n M < 9000) (w20 : (g_WT M).length ≤ 20) (m10 : (g_MK M).length ≤ 10) (p0 : 0 < (g_PT M).length) (pl : (g_PT M).length ≤ 4096) (d9 : (g_DS M).2 < 1024) : F_move M (-1) 0 99 = (M, 1, 0) := by
  unfold F_move
  rw [if_pos (rf_dl1 d d9)]
theorem he1_49 {j u w : Nat} (hj : j < 30) (hu : u < 7) (hw : w < 3) (d : d_ok (g_DS M)) (n9 : g_n M < 9000) (w20 : (g_WT M).length ≤ 20) (m10 : (g_MK M).length ≤ 10) (p0 : 0 < (g_PT M).length) (pl : (g_PT M).length ≤ 4096) (d9 : (g_DS M).2 < 1024) : F_move M 0 (-1) 99 = (M, 1, 0) := by
  unfold F_move
  rw [if_pos (rf_dr1 d d9)]
theorem he1_50 {j u w : Nat} (hj : j < 30) (hu : u < 7) (hw : w < 3) (d : d_ok (g_DS M)) (n9 : g_n M < 9000) (w20 : (g_WT M).length ≤ 20) (m10 : (g_MK M).length ≤ 10) (p0 : 0 < (g_PT M).length) (pl : (g_PT M).length ≤ 4096) (d9 : (g_DS M).2 < 1024) : F_move M 0 0 (-1) = (M, 2, 0) := by
  unfold F_move
  rw [if_neg (rf_d00 d), if_pos ((by decide +kernel : s_inB (-1) 0 9 = false))]
theorem he1_51 {j u w : Nat} (hj : j < 30) (hu : u < 7) (hw : w < 3) (d : d_ok (g_DS M)) (n9 : g_n M < 9000) (w20 : (g_WT M).length ≤ 20) (m10 : (g_MK M).length ≤ 10) (p0 : 0 < (g_PT M).length) (pl : (g_PT M).length ≤ 4096) (d9 : (g_DS M).2 < 1024) : F_move M 0 0 5 = (M, 3, 0) := by
  unfold F_move
  rw [if_neg (rf_d00 d), if_neg ((by decide +kernel : ¬ s_inB 5 0 9 = false)), if_neg (rf_mv)]
theorem he0_0 {j u w : Nat} (hj : j < 30) (hu : u < 7) (hw : w < 3) (d : d_ok (g_DS M)) (n9 : g_n M < 9000) (w20 : (g_WT M).length ≤ 20) (m10 : (g_MK M).length ≤ 10) (p0 : 0 < (g_PT M).length) (pl : (g_PT M).length ≤ 4096) (d9 : (g_DS M).2 < 1024) : F_begin M (4 + nI j) (decide ((0 : Int32) = 1)) = (M, 1, 0) := by
  unfold F_begin
  rw [if_pos ((by decide +kernel : ∀ j, j < 30 → s_inB (4 + nI j) 0 3 = false) j hj)]
theorem he0_1 {j u w : Nat} (hj : j < 30) (hu : u < 7) (hw : w < 3) (d : d_ok (g_DS M)) (n9 : g_n M < 9000) (w20 : (g_WT M).length ≤ 20) (m10 : (g_MK M).length ≤ 10) (p0 : 0 < (g_PT M).length) (pl : (g_PT M).length ≤ 4096) (d9 : (g_DS M).2 < 1024) : F_get M (4 + nI j) 10001 0 0 (decide ((0 : Int32) = 1)) = (M, 1, 0) := by
  unfold F_get
  rw [if_pos ((by decide +kernel : ∀ j, j < 30 → s_inB (4 + nI j) 0 3 = false) j hj)]
theorem he0_2 {j u w : Nat} (hj : j < 30) (hu : u < 7) (hw : w < 3) (d : d_ok (g_DS M)) (n9 : g_n M < 9000) (w20 : (g_WT M).length ≤ 20) (m10 : (g_MK M).length ≤ 10) (p0 : 0 < (g_PT M).length) (pl : (g_PT M).length ≤ 4096) (d9 : (g_DS M).2 < 1024) : F_get M 0 (10001 + nI j) 0 0 (decide ((0 : Int32) = 1)) = (M, 2, 0) := by
  unfold F_get
  rw [if_neg ((by decide +kernel : ¬ s_inB 0 0 3 = false)), if_pos ((by decide +kernel : ∀ j, j < 30 → s_keyB (10001 + nI j) 0 0 = false) j hj)]
theorem he0_3 {j u w : Nat} (hj : j < 30) (hu : u < 7) (hw : w < 3) (d : d_ok (g_DS M)) (n9 : g_n M < 9000) (w20 : (g_WT M).length ≤ 20) (m10 : (g_MK M).length ≤ 10) (p0 : 0 < (g_PT M).length) (pl : (g_PT M).length ≤ 4096) (d9 : (g_DS M).2 < 1024) : F_get M 0 5 (10001 + nI j) 0 (decide ((0 : Int32) = 1)) = (M, 2, 0) := by
  unfold F_get
  rw [if_neg ((by decide +kernel : ¬ s_inB 0 0 3 = false)), if_pos ((by decide +kernel : ∀ j, j < 30 → s_keyB 5 (10001 + nI j) 0 = false) j hj)]
theorem he0_4 {j u w : Nat} (hj : j < 30) (hu : u < 7) (hw : w < 3) (d : d_ok (g_DS M)) (n9 : g_n M < 9000) (w20 : (g_WT M).length ≤ 20) (m10 : (g_MK M).length ≤ 10) (p0 : 0 < (g_PT M).length) (pl : (g_PT M).length ≤ 4096) (d9 : (g_DS M).2 < 1024) : F_get M 0 5 10000 (nI j) (decide ((0 : Int32) = 1)) = (M, 2, 0) := by
  unfold F_get
  rw [if_neg ((by decide +kernel : ¬ s_inB 0 0 3 = false)), if_pos ((by decide +kernel : ∀ j, j < 30 → s_keyB 5 10000 (nI j) = false) j hj)]
theorem he0_5 {j u w : Nat} (hj : j < 30) (hu : u < 7) (hw : w < 3) (d : d_ok (g_DS M)) (n9 : g_n M < 9000) (w20 : (g_WT M).length ≤ 20) (m10 : (g_MK M).length ≤ 10) (p0 : 0 < (g_PT M).length) (pl : (g_PT M).length ≤ 4096) (d9 : (g_DS M).2 < 1024) : F_get M 0 10000 10000 10000 (decide ((0 : Int32) = 1)) = (M, 2, 0) := by
  unfold F_get
  rw [if_neg ((by decide +kernel : ¬ s_inB 0 0 3 = false)), if_pos ((by decide +kernel : s_keyB 10000 10000 10000 = false))]
theorem he0_6 {j u w : Nat} (hj : j < 30) (hu : u < 7) (hw : w < 3) (d : d_ok (g_DS M)) (n9 : g_n M < 9000) (w20 : (g_WT M).length ≤ 20) (m10 : (g_MK M).length ≤ 10) (p0 : 0 < (g_PT M).length) (pl : (g_PT M).length ≤ 4096) (d9 : (g_DS M).2 < 1024) : F_get M 0 5 5 (10001 + nI j) (decide ((0 : Int32) = 1)) = (M, 2, 0) := by
  unfold F_get
  rw [if_neg ((by decide +kernel : ¬ s_inB 0 0 3 = false)), if_pos ((by decide +kernel : ∀ j, j < 30 → s_keyB 5 5 (10001 + nI j) = false) j hj)]
theorem he0_7 {j u w : Nat} (hj : j < 30) (hu : u < 7) (hw : w < 3) (d : d_ok (g_DS M)) (n9 : g_n M < 9000) (w20 : (g_WT M).length ≤ 20) (m10 : (g_MK M).length ≤ 10) (p0 : 0 < (g_PT M).length) (pl : (g_PT M).length ≤ 4096) (d9 : (g_DS M).2 < 1024) : F_range M (4 + nI j) 5 5 (decide ((0 : Int32) = 1)) = (M, 1, 0) := by
  unfold F_range
  rw [if_pos ((by decide +kernel : ∀ j, j < 30 → s_inB (4 + nI j) 0 3 = false) j hj)]
theorem he0_8 {j u w : Nat} (hj : j < 30) (hu : u < 7) (hw : w < 3) (d : d_ok (g_DS M)) (n9 : g_n M < 9000) (w20 : (g_WT M).length ≤ 20) (m10 : (g_MK M).length ≤ 10) (p0 : 0 < (g_PT M).length) (pl : (g_PT M).length ≤ 4096) (d9 : (g_DS M).2 < 1024) : F_range M 0 10000 (nI j) (decide ((0 : Int32) = 1)) = (M, 2, 0) := by
  unfold F_range
  rw [if_neg ((by decide +kernel : ¬ s_inB 0 0 3 = false)), if_pos ((by decide +kernel : ∀ j, j < 30 → s_rngB 10000 (nI j) = false) j hj)]
theorem he0_9 {j u w : Nat} (hj : j < 30) (hu : u < 7) (hw : w < 3) (d : d_ok (g_DS M)) (n9 : g_n M < 9000) (w20 : (g_WT M).length ≤ 20) (m10 : (g_MK M).length ≤ 10) (p0 : 0 < (g_PT M).length) (pl : (g_PT M).length ≤ 4096) (d9 : (g_DS M).2 < 1024) : F_range M 0 (10001 + nI j) 10000 (decide ((0 : Int32) = 1)) = (M, 2, 0) := by
  unfold F_range
  rw [if_neg ((by decide +kernel : ¬ s_inB 0 0 3 = false)), if_pos ((by decide +kernel : ∀ j, j < 30 → s_rngB (10001 + nI j) 10000 = false) j hj)]
theorem he0_10 {j u w : Nat} (hj : j < 30) (hu : u < 7) (hw : w < 3) (d : d_ok (g_DS M)) (n9 : g_n M < 9000) (w20 : (g_WT M).length ≤ 20) (m10 : (g_MK M).length ≤ 10) (p0 : 0 < (g_PT M).length) (pl : (g_PT M).length ≤ 4096) (d9 : (g_DS M).2 < 1024) : F_rangeAt M 0 5 5 (-1 - nI j) 9 = (M, 1, 0) := by
  unfold F_rangeAt
  rw [if_pos ((by decide +kernel : ∀ j, j < 30 → (s_inB 0 0 3 && decide (¬ (-1 - nI j : Int32) < 0)) = false) j hj)]
theorem he0_11 {j u w : Nat} (hj : j < 30) (hu : u < 7) (hw : w < 3) (d : d_ok (g_DS M)) (n9 : g_n M < 9000) (w20 : (g_WT M).length ≤ 20) (m10 : (g_MK M).length ≤ 10) (p0 : 0 < (g_PT M).length) (pl : (g_PT M).length ≤ 4096) (d9 : (g_DS M).2 < 1024) : F_rangeAt M 0 5 5 0 (3 + nI j) = (M, 2, 0) := by
  unfold F_rangeAt
  rw [if_neg ((by decide +kernel : ¬ (s_inB 0 0 3 && decide (¬ (0 : Int32) < 0)) = false)), if_pos ((by decide +kernel : ∀ j, j < 30 → (s_rngB 5 5 && s_inB (3 + nI j) 0 2) = false) j hj)]
theorem he0_12 {j u w : Nat} (hj : j < 30) (hu : u < 7) (hw : w < 3) (d : d_ok (g_DS M)) (n9 : g_n M < 9000) (w20 : (g_WT M).length ≤ 20) (m10 : (g_MK M).length ≤ 10) (p0 : 0 < (g_PT M).length) (pl : (g_PT M).length ≤ 4096) (d9 : (g_DS M).2 < 1024) : F_change M (4 + nI j) 9 5 5 5 0 = (M, 1, 0) := by
  unfold F_change
  rw [if_pos ((by decide +kernel : ∀ j, j < 30 → s_inB (4 + nI j) 0 3 = false) j hj)]
theorem he0_13 {j u w : Nat} (hj : j < 30) (hu : u < 7) (hw : w < 3) (d : d_ok (g_DS M)) (n9 : g_n M < 9000) (w20 : (g_WT M).length ≤ 20) (m10 : (g_MK M).length ≤ 10) (p0 : 0 < (g_PT M).length) (pl : (g_PT M).length ≤ 4096) (d9 : (g_DS M).2 < 1024) : F_change M 0 7 5 5 5 0 = (M, 2, 0) := by
  unfold F_change
  rw [if_neg ((by decide +kernel : ¬ s_inB 0 0 3 = false)), if_pos ((by decide +kernel : ∀ j, j < 30 → (s_inB (7 : Int32) 0 6 && (decide ((7 : Int32) = 1) || decide ((7 : Int32) = 5) || s_inB 0 (-1000000) 1000000) && s_keyB 5 5 5 && !s_inB 5 (-7) (-1)) = false) j hj)]
theorem he0_14 {j u w : Nat} (hj : j < 30) (hu : u < 7) (hw : w < 3) (d : d_ok (g_DS M)) (n9 : g_n M < 9000) (w20 : (g_WT M).length ≤ 20) (m10 : (g_MK M).length ≤ 10) (p0 : 0 < (g_PT M).length) (pl : (g_PT M).length ≤ 4096) (d9 : (g_DS M).2 < 1024) : F_change M 0 0 5 5 5 (1000001 + nI j) = (M, 2, 0) := by
  unfold F_change
  rw [if_neg ((by decide +kernel : ¬ s_inB 0 0 3 = false)), if_pos ((by decide +kernel : ∀ j, j < 30 → (s_inB (0 : Int32) 0 6 && (decide ((0 : Int32) = 1) || decide ((0 : Int32) = 5) || s_inB (1000001 + nI j) (-1000000) 1000000) && s_keyB 5 5 5 && !s_inB 5 (-7) (-1)) = false) j hj)]
theorem he0_15 {j u w : Nat} (hj : j < 30) (hu : u < 7) (hw : w < 3) (d : d_ok (g_DS M)) (n9 : g_n M < 9000) (w20 : (g_WT M).length ≤ 20) (m10 : (g_MK M).length ≤ 10) (p0 : 0 < (g_PT M).length) (pl : (g_PT M).length ≤ 4096) (d9 : (g_DS M).2 < 1024) : F_change M 0 (nI u) (-7 + nI u) 5 5 0 = (M, 2, 0) := by
  unfold F_change
  rw [if_neg ((by decide +kernel : ¬ s_inB 0 0 3 = false)), if_pos ((by decide +kernel : ∀ u, u < 7 → (s_inB (nI u : Int32) 0 6 && (decide ((nI u : Int32) = 1) || decide ((nI u : Int32) = 5) || s_inB 0 (-1000000) 1000000) && s_keyB (-7 + nI u) 5 5 && !s_inB (-7 + nI u) (-7) (-1)) = false) u hu)]
theorem he0_16 {j u w : Nat} (hj : j < 30) (hu : u < 7) (hw : w < 3) (d : d_ok (g_DS M)) (n9 : g_n M < 9000) (w20 : (g_WT M).length ≤ 20) (m10 : (g_MK M).length ≤ 10) (p0 : 0 < (g_PT M).length) (pl : (g_PT M).length ≤ 4096) (d9 : (g_DS M).2 < 1024) : F_clear M (4 + nI j) 5 5 = (M, 1, 0) := by
  unfold F_clear
  rw [if_pos ((by decide +kernel : ∀ j, j < 30 → s_inB (4 + nI j) 0 3 = false) j hj)]
theorem he0_17 {j u w : Nat} (hj : j < 30) (hu : u < 7) (hw : w < 3) (d : d_ok (g_DS M)) (n9 : g_n M < 9000) (w20 : (g_WT M).length ≤ 20) (m10 : (g_MK M).length ≤ 10) (p0 : 0 < (g_PT M).length) (pl : (g_PT M).length ≤ 4096) (d9 : (g_DS M).2 < 1024) : F_clear M 0 (-7 + nI u) 5 = (M, 2, 0) := by
  unfold F_clear
  rw [if_neg ((by decide +kernel : ¬ s_inB 0 0 3 = false)), if_pos ((by decide +kernel : ∀ u, u < 7 → (s_rngB (-7 + nI u) 5 && !(decide ((-7 + nI u : Int32) = 10000)) && !s_inB (-7 + nI u) (-7) (-1)) = false) u hu)]
theorem he0_18 {j u w : Nat} (hj : j < 30) (hu : u < 7) (hw : w < 3) (d : d_ok (g_DS M)) (n9 : g_n M < 9000) (w20 : (g_WT M).length ≤ 20) (m10 : (g_MK M).length ≤ 10) (p0 : 0 < (g_PT M).length) (pl : (g_PT M).length ≤ 4096) (d9 : (g_DS M).2 < 1024) : F_clear M 0 10000 10000 = (M, 2, 0) := by
  unfold F_clear
  rw [if_neg ((by decide +kernel : ¬ s_inB 0 0 3 = false)), if_pos ((by decide +kernel : (s_rngB 10000 10000 && !(decide ((10000 : Int32) = 10000)) && !s_inB 10000 (-7) (-1)) = false))]
theorem he0_19 {j u w : Nat} (hj : j < 30) (hu : u < 7) (hw : w < 3) (d : d_ok (g_DS M)) (n9 : g_n M < 9000) (w20 : (g_WT M).length ≤ 20) (m10 : (g_MK M).length ≤ 10) (p0 : 0 < (g_PT M).length) (pl : (g_PT M).length ≤ 4096) (d9 : (g_DS M).2 < 1024) : F_commit M (4 + nI j) = (M, 1, 0) := by
  unfold F_commit
  rw [if_pos ((by decide +kernel : ∀ j, j < 30 → s_inB (4 + nI j) 0 3 = false) j hj)]
theorem he0_20 {j u w : Nat} (hj : j < 30) (hu : u < 7) (hw : w < 3) (d : d_ok (g_DS M)) (n9 : g_n M < 9000) (w20 : (g_WT M).length ≤ 20) (m10 : (g_MK M).length ≤ 10) (p0 : 0 < (g_PT M).length) (pl : (g_PT M).length ≤ 4096) (d9 : (g_DS M).2 < 1024) : F_pass M 11 = (M, 1, 0) := by
  unfold F_pass
  rw [if_pos ((by decide +kernel : ∀ j, j < 30 → s_inB 11 1 10 = false) j hj)]
theorem he0_21 {j u w : Nat} (hj : j < 30) (hu : u < 7) (hw : w < 3) (d : d_ok (g_DS M)) (n9 : g_n M < 9000) (w20 : (g_WT M).length ≤ 20) (m10 : (g_MK M).length ≤ 10) (p0 : 0 < (g_PT M).length) (pl : (g_PT M).length ≤ 4096) (d9 : (g_DS M).2 < 1024) : F_value M (nI (g_n M) + 1) 5 5 5 = (M, 1, 0) := by
  unfold F_value
  rw [if_pos (rf_val0 n9 hj)]
theorem he0_22 {j u w : Nat} (hj : j < 30) (hu : u < 7) (hw : w < 3) (d : d_ok (g_DS M)) (n9 : g_n M < 9000) (w20 : (g_WT M).length ≤ 20) (m10 : (g_MK M).length ≤ 10) (p0 : 0 < (g_PT M).length) (pl : (g_PT M).length ≤ 4096) (d9 : (g_DS M).2 < 1024) : F_packed M (10001 + nI j) 5 5 (-1 - nI j) = (M, 1, 0) := by
  unfold F_packed
  rw [if_pos ((by decide +kernel : ∀ j, j < 30 → (-1 - nI j : Int32) < 0) j hj)]
theorem he0_23 {j u w : Nat} (hj : j < 30) (hu : u < 7) (hw : w < 3) (d : d_ok (g_DS M)) (n9 : g_n M < 9000) (w20 : (g_WT M).length ≤ 20) (m10 : (g_MK M).length ≤ 10) (p0 : 0 < (g_PT M).length) (pl : (g_PT M).length ≤ 4096) (d9 : (g_DS M).2 < 1024) : F_packed M (10001 + nI j) 5 5 0 = (M, 2, 0) := by
  unfold F_packed
  rw [if_neg ((by decide +kernel : ¬ (0 : Int32) < 0)), if_pos ((by decide +kernel : ∀ j, j < 30 → s_keyB (10001 + nI j) 5 5 = false) j hj)]
theorem he0_24 {j u w : Nat} (hj : j < 30) (hu : u < 7) (hw : w < 3) (d : d_ok (g_DS M)) (n9 : g_n M < 9000) (w20 : (g_WT M).length ≤ 20) (m10 : (g_MK M).length ≤ 10) (p0 : 0 < (g_PT M).length) (pl : (g_PT M).length ≤ 4096) (d9 : (g_DS M).2 < 1024) : F_save M (4 + nI j) 999 0 = (M, 1, 0) := by
  unfold F_save F_saved
  rw [if_pos ((by decide +kernel : ∀ j, j < 30 → s_inB (4 + nI j) 0 3 = false) j hj)]
theorem he0_25 {j u w : Nat} (hj : j < 30) (hu : u < 7) (hw : w < 3) (d : d_ok (g_DS M)) (n9 : g_n M < 9000) (w20 : (g_WT M).length ≤ 20) (m10 : (g_MK M).length ≤ 10) (p0 : 0 < (g_PT M).length) (pl : (g_PT M).length ≤ 4096) (d9 : (g_DS M).2 < 1024) : F_save M 0 (100 + nI j) 0 = (M, 2, 0) := by
  unfold F_save F_saved
  rw [if_neg ((by decide +kernel : ¬ s_inB 0 0 3 = false)), if_pos ((by decide +kernel : ∀ j, j < 30 → (s_inB (100 + nI j) 0 99 && (!true || s_inB 0 0 99)) = false) j hj)]
theorem he0_26 {j u w : Nat} (hj : j < 30) (hu : u < 7) (hw : w < 3) (d : d_ok (g_DS M)) (n9 : g_n M < 9000) (w20 : (g_WT M).length ≤ 20) (m10 : (g_MK M).length ≤ 10) (p0 : 0 < (g_PT M).length) (pl : (g_PT M).length ≤ 4096) (d9 : (g_DS M).2 < 1024) : F_save M 0 0 100 = (M, 2, 0) := by
  unfold F_save F_saved
  rw [if_neg ((by decide +kernel : ¬ s_inB 0 0 3 = false)), if_pos ((by decide +kernel : ∀ j, j < 30 → (s_inB 0 0 99 && (!true || s_inB 100 0 99)) = false) j hj)]
theorem he0_27 {j u w : Nat} (hj : j < 30) (hu : u < 7) (hw : w < 3) (d : d_ok (g_DS M)) (n9 : g_n M < 9000) (w20 : (g_WT M).length ≤ 20) (m10 : (g_MK M).length ≤ 10) (p0 : 0 < (g_PT M).length) (pl : (g_PT M).length ≤ 4096) (d9 : (g_DS M).2 < 1024) : F_erase M 0 (100 + nI j) = (M, 2, 0) := by
  unfold F_erase F_saved
  rw [if_neg ((by decide +kernel : ¬ s_inB 0 0 3 = false)), if_pos ((by decide +kernel : ∀ j, j < 30 → (s_inB (100 + nI j) 0 99 && (!false || s_inB 0 0 99)) = false) j hj)]
theorem he0_28 {j u w : Nat} (hj : j < 30) (hu : u < 7) (hw : w < 3) (d : d_ok (g_DS M)) (n9 : g_n M < 9000) (w20 : (g_WT M).length ≤ 20) (m10 : (g_MK M).length ≤ 10) (p0 : 0 < (g_PT M).length) (pl : (g_PT M).length ≤ 4096) (d9 : (g_DS M).2 < 1024) : F_build M (3 + nI j) 99 = (M, 1, 0) := by
  unfold F_build
  rw [if_pos ((by decide +kernel : ∀ j, j < 30 → s_inB (3 + nI j) 0 2 = false) j hj)]
theorem he0_29 {j u w : Nat} (hj : j < 30) (hu : u < 7) (hw : w < 3) (d : d_ok (g_DS M)) (n9 : g_n M < 9000) (w20 : (g_WT M).length ≤ 20) (m10 : (g_MK M).length ≤ 10) (p0 : 0 < (g_PT M).length) (pl : (g_PT M).length ≤ 4096) (d9 : (g_DS M).2 < 1024) : F_build M (nI w) 21 = (M, 2, 0) := by
  unfold F_build
  rw [if_neg ((by decide +kernel : ∀ w, w < 3 → ¬ s_inB (nI w) 0 2 = false) w hw), if_pos ((by decide +kernel : ∀ j, j < 30 → s_inB 21 1 20 = false) j hj)]
theorem he0_30 {j u w : Nat} (hj : j < 30) (hu : u < 7) (hw : w < 3) (d : d_ok (g_DS M)) (n9 : g_n M < 9000) (w20 : (g_WT M).length ≤ 20) (m10 : (g_MK M).length ≤ 10) (p0 : 0 < (g_PT M).length) (pl : (g_PT M).length ≤ 4096) (d9 : (g_DS M).2 < 1024) : F_off M (3 + nI j) = (M, 1, 0) := by
  unfold F_off
  rw [if_pos ((by decide +kernel : ∀ j, j < 30 → s_inB (3 + nI j) 0 2 = false) j hj)]
theorem he0_31 {j u w : Nat} (hj : j < 30) (hu : u < 7) (hw : w < 3) (d : d_ok (g_DS M)) (n9 : g_n M < 9000) (w20 : (g_WT M).length ≤ 20) (m10 : (g_MK M).length ≤ 10) (p0 : 0 < (g_PT M).length) (pl : (g_PT M).length ≤ 4096) (d9 : (g_DS M).2 < 1024) : F_rank M 100 = (M, 1, 0) := by
  unfold F_rank F_ranked
  rw [if_pos ((by decide +kernel : ∀ j, j < 30 → s_inB 100 0 99 = false) j hj)]
theorem he0_32 {j u w : Nat} (hj : j < 30) (hu : u < 7) (hw : w < 3) (d : d_ok (g_DS M)) (n9 : g_n M < 9000) (w20 : (g_WT M).length ≤ 20) (m10 : (g_MK M).length ≤ 10) (p0 : 0 < (g_PT M).length) (pl : (g_PT M).length ≤ 4096) (d9 : (g_DS M).2 < 1024) : F_rankAnew M (100 + nI j) = (M, 1, 0) := by
  unfold F_rankAnew F_ranked
  rw [if_pos ((by decide +kernel : ∀ j, j < 30 → s_inB (100 + nI j) 0 99 = false) j hj)]
theorem he0_33 {j u w : Nat} (hj : j < 30) (hu : u < 7) (hw : w < 3) (d : d_ok (g_DS M)) (n9 : g_n M < 9000) (w20 : (g_WT M).length ≤ 20) (m10 : (g_MK M).length ≤ 10) (p0 : 0 < (g_PT M).length) (pl : (g_PT M).length ≤ 4096) (d9 : (g_DS M).2 < 1024) : F_watch M 5 10000 5 = (M, 1, 0) := by
  unfold F_watch
  rw [if_pos ((by decide +kernel : s_keyB 5 10000 5 = false))]
theorem he0_34 {j u w : Nat} (hj : j < 30) (hu : u < 7) (hw : w < 3) (d : d_ok (g_DS M)) (n9 : g_n M < 9000) (w20 : (g_WT M).length ≤ 20) (m10 : (g_MK M).length ≤ 10) (p0 : 0 < (g_PT M).length) (pl : (g_PT M).length ≤ 4096) (d9 : (g_DS M).2 < 1024) : F_fired M (nI (g_WT M).length) = (M, 1, 0) := by
  unfold F_fired
  rw [if_pos (rf_fir0 w20 hj)]
theorem he0_35 {j u w : Nat} (hj : j < 30) (hu : u < 7) (hw : w < 3) (d : d_ok (g_DS M)) (n9 : g_n M < 9000) (w20 : (g_WT M).length ≤ 20) (m10 : (g_MK M).length ≤ 10) (p0 : 0 < (g_PT M).length) (pl : (g_PT M).length ≤ 4096) (d9 : (g_DS M).2 < 1024) : F_offer M (4 + nI j) (-1) = (M, 1, 0) := by
  unfold F_offer
  rw [if_pos ((by decide +kernel : ∀ j, j < 30 → s_inB (4 + nI j) 0 3 = false) j hj)]
theorem he0_36 {j u w : Nat} (hj : j < 30) (hu : u < 7) (hw : w < 3) (d : d_ok (g_DS M)) (n9 : g_n M < 9000) (w20 : (g_WT M).length ≤ 20) (m10 : (g_MK M).length ≤ 10) (p0 : 0 < (g_PT M).length) (pl : (g_PT M).length ≤ 4096) (d9 : (g_DS M).2 < 1024) : F_offer M 0 (1000001 + nI j) = (M, 2, 0) := by
  unfold F_offer
  rw [if_neg ((by decide +kernel : ¬ s_inB 0 0 3 = false)), if_pos ((by decide +kernel : ∀ j, j < 30 → s_inB (1000001 + nI j) 0 1000000 = false) j hj)]
theorem he0_37 {j u w : Nat} (hj : j < 30) (hu : u < 7) (hw : w < 3) (d : d_ok (g_DS M)) (n9 : g_n M < 9000) (w20 : (g_WT M).length ≤ 20) (m10 : (g_MK M).length ≤ 10) (p0 : 0 < (g_PT M).length) (pl : (g_PT M).length ≤ 4096) (d9 : (g_DS M).2 < 1024) : F_take M (3 + nI j) = (M, 1, 0) := by
  unfold F_take
  rw [if_pos ((by decide +kernel : ∀ j, j < 30 → s_inB (3 + nI j) 0 2 = false) j hj)]
theorem he0_38 {j u w : Nat} (hj : j < 30) (hu : u < 7) (hw : w < 3) (d : d_ok (g_DS M)) (n9 : g_n M < 9000) (w20 : (g_WT M).length ≤ 20) (m10 : (g_MK M).length ≤ 10) (p0 : 0 < (g_PT M).length) (pl : (g_PT M).length ≤ 4096) (d9 : (g_DS M).2 < 1024) : F_finish M 3 = (M, 1, 0) := by
  unfold F_finish
  rw [if_pos ((by decide +kernel : ∀ j, j < 30 → s_inB 3 0 2 = false) j hj)]
theorem he0_39 {j u w : Nat} (hj : j < 30) (hu : u < 7) (hw : w < 3) (d : d_ok (g_DS M)) (n9 : g_n M < 9000) (w20 : (g_WT M).length ≤ 20) (m10 : (g_MK M).length ≤ 10) (p0 : 0 < (g_PT M).length) (pl : (g_PT M).length ≤ 4096) (d9 : (g_DS M).2 < 1024) : F_part M (nI (g_PT M).length + nI j) 9 = (M, 1, 0) := by
  unfold F_part
  rw [if_pos (rf_par0 pl hj)]
theorem he0_40 {j u w : Nat} (hj : j < 30) (hu : u < 7) (hw : w < 3) (d : d_ok (g_DS M)) (n9 : g_n M < 9000) (w20 : (g_WT M).length ≤ 20) (m10 : (g_MK M).length ≤ 10) (p0 : 0 < (g_PT M).length) (pl : (g_PT M).length ≤ 4096) (d9 : (g_DS M).2 < 1024) : F_part M 0 5 = (M, 2, 0) := by
  unfold F_part
  rw [if_neg (rf_par p0 pl), if_pos ((by decide +kernel : ∀ j, j < 30 → s_inB 5 0 4 = false) j hj)]
theorem he0_41 {j u w : Nat} (hj : j < 30) (hu : u < 7) (hw : w < 3) (d : d_ok (g_DS M)) (n9 : g_n M < 9000) (w20 : (g_WT M).length ≤ 20) (m10 : (g_MK M).length ≤ 10) (p0 : 0 < (g_PT M).length) (pl : (g_PT M).length ≤ 4096) (d9 : (g_DS M).2 < 1024) : F_bringBack M (nI (g_MK M).length + nI j) = (M, 1, 0) := by
  unfold F_bringBack
  rw [if_pos (rf_mrk0 m10 hj)]
theorem he0_42 {j u w : Nat} (hj : j < 30) (hu : u < 7) (hw : w < 3) (d : d_ok (g_DS M)) (n9 : g_n M < 9000) (w20 : (g_WT M).length ≤ 20) (m10 : (g_MK M).length ≤ 10) (p0 : 0 < (g_PT M).length) (pl : (g_PT M).length ≤ 4096) (d9 : (g_DS M).2 < 1024) : F_directory M (nI (g_DS M).2 + nI j) 0 = (M, 1, 0) := by
  unfold F_directory
  rw [if_pos (rf_dj0 d d9 hj)]
theorem he0_43 {j u w : Nat} (hj : j < 30) (hu : u < 7) (hw : w < 3) (d : d_ok (g_DS M)) (n9 : g_n M < 9000) (w20 : (g_WT M).length ≤ 20) (m10 : (g_MK M).length ≤ 10) (p0 : 0 < (g_PT M).length) (pl : (g_PT M).length ≤ 4096) (d9 : (g_DS M).2 < 1024) : F_directory M 0 10 = (M, 2, 0) := by
  unfold F_directory
  rw [if_neg (rf_d d), if_pos ((by decide +kernel : ∀ j, j < 30 → s_inB 10 0 9 = false) j hj)]
theorem he0_44 {j u w : Nat} (hj : j < 30) (hu : u < 7) (hw : w < 3) (d : d_ok (g_DS M)) (n9 : g_n M < 9000) (w20 : (g_WT M).length ≤ 20) (m10 : (g_MK M).length ≤ 10) (p0 : 0 < (g_PT M).length) (pl : (g_PT M).length ≤ 4096) (d9 : (g_DS M).2 < 1024) : F_remove M (nI (g_DS M).2) = (M, 1, 0) := by
  unfold F_remove
  rw [if_pos (rf_d0 d d9)]
theorem he0_45 {j u w : Nat} (hj : j < 30) (hu : u < 7) (hw : w < 3) (d : d_ok (g_DS M)) (n9 : g_n M < 9000) (w20 : (g_WT M).length ≤ 20) (m10 : (g_MK M).length ≤ 10) (p0 : 0 < (g_PT M).length) (pl : (g_PT M).length ≤ 4096) (d9 : (g_DS M).2 < 1024) : F_remove M 0 = (M, 2, 0) := by
  unfold F_remove
  rw [if_neg (rf_d d), if_pos ((by decide +kernel : (0 : Int32) = 0))]
theorem he0_46 {j u w : Nat} (hj : j < 30) (hu : u < 7) (hw : w < 3) (d : d_ok (g_DS M)) (n9 : g_n M < 9000) (w20 : (g_WT M).length ≤ 20) (m10 : (g_MK M).length ≤ 10) (p0 : 0 < (g_PT M).length) (pl : (g_PT M).length ≤ 4096) (d9 : (g_DS M).2 < 1024) : F_shortName M (nI (g_DS M).2 + nI j) = (M, 1, 0) := by
  unfold F_shortName
  rw [if_pos (rf_dj0 d d9 hj)]
theorem he0_47 {j u w : Nat} (hj : j < 30) (hu : u < 7) (hw : w < 3) (d : d_ok (g_DS M)) (n9 : g_n M < 9000) (w20 : (g_WT M).length ≤ 20) (m10 : (g_MK M).length ≤ 10) (p0 : 0 < (g_PT M).length) (pl : (g_PT M).length ≤ 4096) (d9 : (g_DS M).2 < 1024) : F_named M 0 (10 + nI j) = (M, 2, 0) := by
  unfold F_named
  rw [if_neg (rf_d d), if_pos ((by decide +kernel : ∀ j, j < 30 → s_inB (10 + nI j) 0 9 = false) j hj)]
theorem he0_48 {j u w : Nat} (hj : j < 30) (hu : u < 7) (hw : w < 3) (d : d_ok (g_DS M)) (n9 : g_n M < 9000) (w20 : (g_WT M).length ≤ 20) (m10 : (g_MK M).length ≤ 10) (p0 : 0 < (g_PT M).length) (pl : (g_PT M).length ≤ 4096) (d9 : (g_DS M).2 < 1024) : F_move M (nI (g_DS M).2) 0 99 = (M, 1, 0) := by
  unfold F_move
  rw [if_pos (rf_dl0 d d9)]
theorem he0_49 {j u w : Nat} (hj : j < 30) (hu : u < 7) (hw : w < 3) (d : d_ok (g_DS M)) (n9 : g_n M < 9000) (w20 : (g_WT M).length ≤ 20) (m10 : (g_MK M).length ≤ 10) (p0 : 0 < (g_PT M).length) (pl : (g_PT M).length ≤ 4096) (d9 : (g_DS M).2 < 1024) : F_move M 0 (nI (g_DS M).2) 99 = (M, 1, 0) := by
  unfold F_move
  rw [if_pos (rf_dr0 d d9)]
theorem he0_50 {j u w : Nat} (hj : j < 30) (hu : u < 7) (hw : w < 3) (d : d_ok (g_DS M)) (n9 : g_n M < 9000) (w20 : (g_WT M).length ≤ 20) (m10 : (g_MK M).length ≤ 10) (p0 : 0 < (g_PT M).length) (pl : (g_PT M).length ≤ 4096) (d9 : (g_DS M).2 < 1024) : F_move M 0 0 10 = (M, 2, 0) := by
  unfold F_move
  rw [if_neg (rf_d00 d), if_pos ((by decide +kernel : s_inB 10 0 9 = false))]
theorem he0_51 {j u w : Nat} (hj : j < 30) (hu : u < 7) (hw : w < 3) (d : d_ok (g_DS M)) (n9 : g_n M < 9000) (w20 : (g_WT M).length ≤ 20) (m10 : (g_MK M).length ≤ 10) (p0 : 0 < (g_PT M).length) (pl : (g_PT M).length ≤ 4096) (d9 : (g_DS M).2 < 1024) : F_move M 0 0 5 = (M, 3, 0) := by
  unfold F_move
  rw [if_neg (rf_d00 d), if_neg ((by decide +kernel : ¬ s_inB 5 0 9 = false)), if_neg (rf_mv)]
end RF
section RW
variable {G : k_G} {l : Launch} {a i q : Nat} {A : lp_A} {M : s_M} {H : k_H}
theorem rc_0 : rc (fun _ => x_IO) 1 = -2000000001 := by
  show (if (fun _ => x_IO) 1 = x_IO then (-2000000001 : Int32) else if (fun _ => x_IO) 1 = x_IA then -2000000002 else -2000000003) = -2000000001
  decide
theorem rc_1 : rc x_3 1 = -2000000001 := by
  show (if x_3 1 = x_IO then (-2000000001 : Int32) else if x_3 1 = x_IA then -2000000002 else -2000000003) = -2000000001
  decide
theorem rc_2 : rc x_3 2 = -2000000002 := by
  show (if x_3 2 = x_IO then (-2000000001 : Int32) else if x_3 2 = x_IA then -2000000002 else -2000000003) = -2000000002
  decide
theorem rc_3 : rc x_I 1 = -2000000001 := by
  show (if x_I 1 = x_IO then (-2000000001 : Int32) else if x_I 1 = x_IA then -2000000002 else -2000000003) = -2000000001
  decide
theorem rc_4 : rc x_A 1 = -2000000002 := by
  show (if x_A 1 = x_IO then (-2000000001 : Int32) else if x_A 1 = x_IA then -2000000002 else -2000000003) = -2000000002
  decide
theorem rc_5 : rc (fun k => if k = 1 then x_IA else x_IS) 1 = -2000000002 := by
  show (if (fun k => if k = 1 then x_IA else x_IS) 1 = x_IO then (-2000000001 : Int32) else if (fun k => if k = 1 then x_IA else x_IS) 1 = x_IA then -2000000002 else -2000000003) = -2000000002
  decide
theorem rc_6 : rc x_I 2 = -2000000003 := by
  show (if x_I 2 = x_IO then (-2000000001 : Int32) else if x_I 2 = x_IA then -2000000002 else -2000000003) = -2000000003
  decide
theorem rc_7 : rc x_3 3 = -2000000003 := by
  show (if x_3 3 = x_IO then (-2000000001 : Int32) else if x_3 3 = x_IA then -2000000002 else -2000000003) = -2000000003
  decide
theorem ir1_0 (ok : k_ok G l) (g0 : k_fh G = 0) {h0 : k_H} {Q : k_H → k_R → Prop} {x3 : Int32} {x7 : Int64} {j u w : Nat} (hj : j < 30) (hu : u < 7) (hw : w < 3) (e30 : x3 - (x3 / 30) * 30 = nI j) (e7 : x3 - (x3 / 7) * 7 = nI u) (e3 : x3 - (x3 / 3) * 3 = nI w) (hm0 : A 0 ((0 : Int32).toNatClampNeg) = nI (g_n M)) (hm1 : A 0 ((1 : Int32).toNatClampNeg) = nI (g_WT M).length) (hm2 : A 0 ((2 : Int32).toNatClampNeg) = nI (g_MK M).length) (hm3 : A 0 ((3 : Int32).toNatClampNeg) = nI (g_DS M).2) (d : d_ok (g_DS M)) (n9 : g_n M < 9000) (w20 : (g_WT M).length ≤ 20) (m10 : (g_MK M).length ≤ 10) (p0 : 0 < (g_PT M).length) (pl : (g_PT M).length ≤ 4096) (d9 : (g_DS M).2 < 1024) (hi : i + 1 < 512) (W : lp_X a A i q M H)
    (K : ∀ H, lp_X a A (i + 1) (q + 42) M H → k_X (jL_isRefused G l h0) H 534 [(0, vR (some a)), (1, vR (some (a + 31 + 0))), (2, vR (some (a + 31 + 1))), (3, vI x3), (4, vI 1), (5, vI (-1 - nI j)), (6, vI (-1000 - nI j)), (7, vJ x7)] [] Q) : k_X (jL_isRefused G l h0) H 66 [(0, vR (some a)), (1, vR (some (a + 31 + 0))), (2, vR (some (a + 31 + 1))), (3, vI x3), (4, vI 1), (5, vI (-1 - nI j)), (6, vI (-1000 - nI j))] [vJ x7] Q := by
  refine bL_isRefused_66 (by (try rw [e30]); (try rw [e7]); (try rw [e3]); (try rw [hm0]); (try rw [hm1]); (try rw [hm2]); (try rw [hm3]); exact r_0 ok g0 W (by omega) (he1_0 hj hu hw d n9 w20 m10 p0 pl d9) (by decide)) ?_ -- 0 begin (-1 - nI j) (decide ((0 : Int32) = 1))
  rintro H _ ⟨W, rfl⟩
  refine bL_isRefused_80 (fun c => absurd rc_0 c) (fun _ => ?_)
  refine bL_isRefused_85 (by (try rw [e30]); (try rw [e7]); (try rw [e3]); (try rw [hm0]); (try rw [hm1]); (try rw [hm2]); (try rw [hm3]); exact r_1 ok g0 W (by omega) (he1_1 hj hu hw d n9 w20 m10 p0 pl d9) (by decide)) ?_ -- 1 get (-1 - nI j) 10001 0 0 (decide ((0 : Int32) = 1))
  rintro H _ ⟨W, rfl⟩
  refine bL_isRefused_99 (fun c => absurd rc_1 c) (fun _ => ?_)
  refine bL_isRefused_104 (by (try rw [e30]); (try rw [e7]); (try rw [e3]); (try rw [hm0]); (try rw [hm1]); (try rw [hm2]); (try rw [hm3]); exact r_1 ok g0 W (by omega) (he1_2 hj hu hw d n9 w20 m10 p0 pl d9) (by decide)) ?_ -- 2 get 0 (-1000 - nI j) 0 0 (decide ((0 : Int32) = 1))
  rintro H _ ⟨W, rfl⟩
  refine bL_isRefused_116 (fun c => absurd rc_2 c) (fun _ => ?_)
  refine bL_isRefused_121 (by (try rw [e30]); (try rw [e7]); (try rw [e3]); (try rw [hm0]); (try rw [hm1]); (try rw [hm2]); (try rw [hm3]); exact r_1 ok g0 W (by omega) (he1_3 hj hu hw d n9 w20 m10 p0 pl d9) (by decide)) ?_ -- 3 get 0 5 (-1000 - nI j) 0 (decide ((0 : Int32) = 1))
  rintro H _ ⟨W, rfl⟩
  refine bL_isRefused_133 (fun c => absurd rc_2 c) (fun _ => ?_)
  refine bL_isRefused_138 (by (try rw [e30]); (try rw [e7]); (try rw [e3]); (try rw [hm0]); (try rw [hm1]); (try rw [hm2]); (try rw [hm3]); exact r_1 ok g0 W (by omega) (he1_4 hj hu hw d n9 w20 m10 p0 pl d9) (by decide)) ?_ -- 4 get 0 5 10000 (nI j) (decide ((0 : Int32) = 1))
  rintro H _ ⟨W, rfl⟩
  refine bL_isRefused_154 (fun c => absurd rc_2 c) (fun _ => ?_)
  refine bL_isRefused_159 (by (try rw [e30]); (try rw [e7]); (try rw [e3]); (try rw [hm0]); (try rw [hm1]); (try rw [hm2]); (try rw [hm3]); exact r_1 ok g0 W (by omega) (he1_5 hj hu hw d n9 w20 m10 p0 pl d9) (by decide)) ?_ -- 5 get 0 10000 10000 10000 (decide ((0 : Int32) = 1))
  rintro H _ ⟨W, rfl⟩
  refine bL_isRefused_176 (fun c => absurd rc_2 c) (fun _ => ?_)
  refine bL_isRefused_181 (by (try rw [e30]); (try rw [e7]); (try rw [e3]); (try rw [hm0]); (try rw [hm1]); (try rw [hm2]); (try rw [hm3]); exact r_1 ok g0 W (by omega) (he1_6 hj hu hw d n9 w20 m10 p0 pl d9) (by decide)) ?_ -- 6 get 0 5 5 (-1000 - nI j) (decide ((0 : Int32) = 1))
  rintro H _ ⟨W, rfl⟩
  refine bL_isRefused_193 (fun c => absurd rc_2 c) (fun _ => ?_)
  refine bL_isRefused_198 (by (try rw [e30]); (try rw [e7]); (try rw [e3]); (try rw [hm0]); (try rw [hm1]); (try rw [hm2]); (try rw [hm3]); exact r_2 ok g0 W (by omega) (he1_7 hj hu hw d n9 w20 m10 p0 pl d9) (by decide)) ?_ -- 7 range (-1 - nI j) 5 5 (decide ((0 : Int32) = 1))
  rintro H _ ⟨W, rfl⟩
  refine bL_isRefused_210 (fun c => absurd rc_1 c) (fun _ => ?_)
  refine bL_isRefused_215 (by (try rw [e30]); (try rw [e7]); (try rw [e3]); (try rw [hm0]); (try rw [hm1]); (try rw [hm2]); (try rw [hm3]); exact r_2 ok g0 W (by omega) (he1_8 hj hu hw d n9 w20 m10 p0 pl d9) (by decide)) ?_ -- 8 range 0 10000 (nI j) (decide ((0 : Int32) = 1))
  rintro H _ ⟨W, rfl⟩
  refine bL_isRefused_231 (fun c => absurd rc_2 c) (fun _ => ?_)
  refine bL_isRefused_236 (by (try rw [e30]); (try rw [e7]); (try rw [e3]); (try rw [hm0]); (try rw [hm1]); (try rw [hm2]); (try rw [hm3]); exact r_2 ok g0 W (by omega) (he1_9 hj hu hw d n9 w20 m10 p0 pl d9) (by decide)) ?_ -- 9 range 0 (-1000 - nI j) 10000 (decide ((0 : Int32) = 1))
  rintro H _ ⟨W, rfl⟩
  refine bL_isRefused_250 (fun c => absurd rc_2 c) (fun _ => ?_)
  refine bL_isRefused_255 (by (try rw [e30]); (try rw [e7]); (try rw [e3]); (try rw [hm0]); (try rw [hm1]); (try rw [hm2]); (try rw [hm3]); exact r_3 ok g0 W (by omega) (he1_10 hj hu hw d n9 w20 m10 p0 pl d9) (by decide)) ?_ -- 10 rangeAt 0 5 5 (-1 - nI j) 9
  rintro H _ ⟨W, rfl⟩
  refine bL_isRefused_272 (fun c => absurd rc_1 c) (fun _ => ?_)
  refine bL_isRefused_277 (fun c => absurd c (by decide)) (fun _ => ?_)
  refine bL_isRefused_288 ?_
  refine bL_isRefused_298 (by (try rw [e30]); (try rw [e7]); (try rw [e3]); (try rw [hm0]); (try rw [hm1]); (try rw [hm2]); (try rw [hm3]); exact r_3 ok g0 W (by omega) (he1_11 hj hu hw d n9 w20 m10 p0 pl d9) (by decide)) ?_ -- 11 rangeAt 0 5 5 0 (-1)
  rintro H _ ⟨W, rfl⟩
  refine bL_isRefused_302 (fun c => absurd rc_2 c) (fun _ => ?_)
  refine bL_isRefused_307 (by (try rw [e30]); (try rw [e7]); (try rw [e3]); (try rw [hm0]); (try rw [hm1]); (try rw [hm2]); (try rw [hm3]); exact r_4 ok g0 W (by omega) (he1_12 hj hu hw d n9 w20 m10 p0 pl d9) (by decide)) ?_ -- 12 change (-1 - nI j) 9 5 5 5 0
  rintro H _ ⟨W, rfl⟩
  refine bL_isRefused_320 (fun c => absurd rc_1 c) (fun _ => ?_)
  refine bL_isRefused_325 (fun c => absurd c (by decide)) (fun _ => ?_)
  refine bL_isRefused_333 ?_
  refine bL_isRefused_344 (by (try rw [e30]); (try rw [e7]); (try rw [e3]); (try rw [hm0]); (try rw [hm1]); (try rw [hm2]); (try rw [hm3]); exact r_4 ok g0 W (by omega) (he1_13 hj hu hw d n9 w20 m10 p0 pl d9) (by decide)) ?_ -- 13 change 0 (-1 - nI j) 5 5 5 0
  rintro H _ ⟨W, rfl⟩
  refine bL_isRefused_351 (fun c => absurd rc_2 c) (fun _ => ?_)
  refine bL_isRefused_356 (fun c => absurd c (by decide)) (fun _ => ?_)
  refine bL_isRefused_368 ?_
  refine bL_isRefused_380 (by (try rw [e30]); (try rw [e7]); (try rw [e3]); (try rw [hm0]); (try rw [hm1]); (try rw [hm2]); (try rw [hm3]); exact r_4 ok g0 W (by omega) (he1_14 hj hu hw d n9 w20 m10 p0 pl d9) (by decide)) ?_ -- 14 change 0 0 5 5 5 (-1000001)
  rintro H _ ⟨W, rfl⟩
  refine bL_isRefused_383 (fun c => absurd rc_2 c) (fun _ => ?_)
  refine bL_isRefused_388 (by (try rw [e30]); (try rw [e7]); (try rw [e3]); (try rw [hm0]); (try rw [hm1]); (try rw [hm2]); (try rw [hm3]); exact r_4 ok g0 W (by omega) (he1_15 hj hu hw d n9 w20 m10 p0 pl d9) (by decide)) ?_ -- 15 change 0 (nI u) (-7 + nI u) 5 5 0
  rintro H _ ⟨W, rfl⟩
  refine bL_isRefused_408 (fun c => absurd rc_2 c) (fun _ => ?_)
  refine bL_isRefused_413 (by (try rw [e30]); (try rw [e7]); (try rw [e3]); (try rw [hm0]); (try rw [hm1]); (try rw [hm2]); (try rw [hm3]); exact r_5 ok g0 W (by omega) (he1_16 hj hu hw d n9 w20 m10 p0 pl d9) (by decide)) ?_ -- 16 clear (-1 - nI j) 5 5
  rintro H _ ⟨W, rfl⟩
  refine bL_isRefused_425 (fun c => absurd rc_1 c) (fun _ => ?_)
  refine bL_isRefused_430 (by (try rw [e30]); (try rw [e7]); (try rw [e3]); (try rw [hm0]); (try rw [hm1]); (try rw [hm2]); (try rw [hm3]); exact r_5 ok g0 W (by omega) (he1_17 hj hu hw d n9 w20 m10 p0 pl d9) (by decide)) ?_ -- 17 clear 0 (-7 + nI u) 5
  rintro H _ ⟨W, rfl⟩
  refine bL_isRefused_447 (fun c => absurd rc_2 c) (fun _ => ?_)
  refine bL_isRefused_452 (by (try rw [e30]); (try rw [e7]); (try rw [e3]); (try rw [hm0]); (try rw [hm1]); (try rw [hm2]); (try rw [hm3]); exact r_5 ok g0 W (by omega) (he1_18 hj hu hw d n9 w20 m10 p0 pl d9) (by decide)) ?_ -- 18 clear 0 10000 10000
  rintro H _ ⟨W, rfl⟩
  refine bL_isRefused_467 (fun c => absurd rc_2 c) (fun _ => ?_)
  refine bL_isRefused_472 (by (try rw [e30]); (try rw [e7]); (try rw [e3]); (try rw [hm0]); (try rw [hm1]); (try rw [hm2]); (try rw [hm3]); exact r_6 ok g0 W (by omega) (he1_19 hj hu hw d n9 w20 m10 p0 pl d9) (by decide)) ?_ -- 19 commit (-1 - nI j)
  rintro H _ ⟨W, rfl⟩
  refine bL_isRefused_485 (fun c => absurd rc_3 c) (fun _ => ?_)
  refine bL_isRefused_490 (fun c => absurd c (by decide)) (fun _ => ?_)
  refine bL_isRefused_498 ?_
  refine bL_isRefused_509 (by (try rw [e30]); (try rw [e7]); (try rw [e3]); (try rw [hm0]); (try rw [hm1]); (try rw [hm2]); (try rw [hm3]); exact r_7 ok g0 W (by omega) (he1_20 hj hu hw d n9 w20 m10 p0 pl d9) (by decide)) ?_ -- 20 pass (0 - nI j)
  rintro H _ ⟨W, rfl⟩
  refine bL_isRefused_517 (fun c => absurd rc_4 c) (fun _ => ?_)
  refine bL_isRefused_522 ?_
  refine bL_isRefused_527 (fun c => absurd c (by decide)) (fun _ => ?_)
  exact K H (lp_Xm W (by omega) (by omega))
theorem ir1_1 (ok : k_ok G l) (g0 : k_fh G = 0) {h0 : k_H} {Q : k_H → k_R → Prop} {x3 : Int32} {x7 : Int64} {j u w : Nat} (hj : j < 30) (hu : u < 7) (hw : w < 3) (e30 : x3 - (x3 / 30) * 30 = nI j) (e7 : x3 - (x3 / 7) * 7 = nI u) (e3 : x3 - (x3 / 3) * 3 = nI w) (hm0 : A 0 ((0 : Int32).toNatClampNeg) = nI (g_n M)) (hm1 : A 0 ((1 : Int32).toNatClampNeg) = nI (g_WT M).length) (hm2 : A 0 ((2 : Int32).toNatClampNeg) = nI (g_MK M).length) (hm3 : A 0 ((3 : Int32).toNatClampNeg) = nI (g_DS M).2) (d : d_ok (g_DS M)) (n9 : g_n M < 9000) (w20 : (g_WT M).length ≤ 20) (m10 : (g_MK M).length ≤ 10) (p0 : 0 < (g_PT M).length) (pl : (g_PT M).length ≤ 4096) (d9 : (g_DS M).2 < 1024) (hi : i + 7 < 512) (W : lp_X a A i q M H)
    (K : ∀ H, lp_X a A (i + 7) (q + 32) M H → k_X (jL_isRefused G l h0) H 1001 [(0, vR (some a)), (1, vR (some (a + 31 + 0))), (2, vR (some (a + 31 + 1))), (3, vI x3), (4, vI 1), (7, vJ x7)] [] Q) : k_X (jL_isRefused G l h0) H 534 [(0, vR (some a)), (1, vR (some (a + 31 + 0))), (2, vR (some (a + 31 + 1))), (3, vI x3), (4, vI 1), (5, vI (-1 - nI j)), (6, vI (-1000 - nI j)), (7, vJ x7)] [] Q := by
  refine bL_isRefused_534 (fun c => absurd c (by decide)) (fun _ => ?_)
  refine bL_isRefused_542 ?_
  refine bL_isRefused_556 (by (try rw [e30]); (try rw [e7]); (try rw [e3]); (try rw [hm0]); (try rw [hm1]); (try rw [hm2]); (try rw [hm3]); exact r_8 ok g0 W (by omega) (he1_21 hj hu hw d n9 w20 m10 p0 pl d9) (by decide)) ?_ -- 21 value (-1 - nI j) 5 5 5
  rintro H _ ⟨W, rfl⟩
  refine bL_isRefused_564 (fun c => absurd rc_4 c) (fun _ => ?_)
  refine bL_isRefused_569 (by (try rw [e30]); (try rw [e7]); (try rw [e3]); (try rw [hm0]); (try rw [hm1]); (try rw [hm2]); (try rw [hm3]); exact r_9 ok g0 W (by omega) (he1_22 hj hu hw d n9 w20 m10 p0 pl d9) (by decide)) ?_ -- 22 packed (-1000 - nI j) 5 5 (-1 - nI j)
  rintro H _ ⟨W, rfl⟩
  refine bL_isRefused_587 (fun c => absurd rc_1 c) (fun _ => ?_)
  refine bL_isRefused_592 (by (try rw [e30]); (try rw [e7]); (try rw [e3]); (try rw [hm0]); (try rw [hm1]); (try rw [hm2]); (try rw [hm3]); exact r_9 ok g0 W (by omega) (he1_23 hj hu hw d n9 w20 m10 p0 pl d9) (by decide)) ?_ -- 23 packed (-1000 - nI j) 5 5 0
  rintro H _ ⟨W, rfl⟩
  refine bL_isRefused_605 (fun c => absurd rc_2 c) (fun _ => ?_)
  refine bL_isRefused_610 (by (try rw [e30]); (try rw [e7]); (try rw [e3]); (try rw [hm0]); (try rw [hm1]); (try rw [hm2]); (try rw [hm3]); exact r_10 ok g0 W (by omega) (he1_24 hj hu hw d n9 w20 m10 p0 pl d9) (by decide)) ?_ -- 24 save (-1 - nI j) 999 0
  rintro H _ ⟨W, rfl⟩
  refine bL_isRefused_625 (fun c => absurd rc_1 c) (fun _ => ?_)
  refine bL_isRefused_630 (fun c => absurd c (by decide)) (fun _ => ?_)
  refine bL_isRefused_639 ?_
  refine bL_isRefused_650 (by (try rw [e30]); (try rw [e7]); (try rw [e3]); (try rw [hm0]); (try rw [hm1]); (try rw [hm2]); (try rw [hm3]); exact r_10 ok g0 W (by omega) (he1_25 hj hu hw d n9 w20 m10 p0 pl d9) (by decide)) ?_ -- 25 save 0 (-1) 0
  rintro H _ ⟨W, rfl⟩
  refine bL_isRefused_657 (fun c => absurd rc_2 c) (fun _ => ?_)
  refine bL_isRefused_662 (fun c => absurd c (by decide)) (fun _ => ?_)
  refine bL_isRefused_672 ?_
  refine bL_isRefused_683 (by (try rw [e30]); (try rw [e7]); (try rw [e3]); (try rw [hm0]); (try rw [hm1]); (try rw [hm2]); (try rw [hm3]); exact r_10 ok g0 W (by omega) (he1_26 hj hu hw d n9 w20 m10 p0 pl d9) (by decide)) ?_ -- 26 save 0 0 (-1 - nI j)
  rintro H _ ⟨W, rfl⟩
  refine bL_isRefused_689 (fun c => absurd rc_2 c) (fun _ => ?_)
  refine bL_isRefused_694 (fun c => absurd c (by decide)) (fun _ => ?_)
  refine bL_isRefused_703 ?_
  refine bL_isRefused_714 (by (try rw [e30]); (try rw [e7]); (try rw [e3]); (try rw [hm0]); (try rw [hm1]); (try rw [hm2]); (try rw [hm3]); exact r_11 ok g0 W (by omega) (he1_27 hj hu hw d n9 w20 m10 p0 pl d9) (by decide)) ?_ -- 27 erase 0 (-1)
  rintro H _ ⟨W, rfl⟩
  refine bL_isRefused_721 (fun c => absurd rc_2 c) (fun _ => ?_)
  refine bL_isRefused_726 (fun c => absurd c (by decide)) (fun _ => ?_)
  refine bL_isRefused_734 ?_
  refine bL_isRefused_744 (by (try rw [e30]); (try rw [e7]); (try rw [e3]); (try rw [hm0]); (try rw [hm1]); (try rw [hm2]); (try rw [hm3]); exact r_12 ok g0 W (by omega) (he1_28 hj hu hw d n9 w20 m10 p0 pl d9) (by decide)) ?_ -- 28 build (-1) 99
  rintro H _ ⟨W, rfl⟩
  refine bL_isRefused_753 (fun c => absurd rc_1 c) (fun _ => ?_)
  refine bL_isRefused_758 (fun c => absurd c (by decide)) (fun _ => ?_)
  refine bL_isRefused_769 ?_
  refine bL_isRefused_780 (by (try rw [e30]); (try rw [e7]); (try rw [e3]); (try rw [hm0]); (try rw [hm1]); (try rw [hm2]); (try rw [hm3]); exact r_12 ok g0 W (by omega) (he1_29 hj hu hw d n9 w20 m10 p0 pl d9) (by decide)) ?_ -- 29 build (nI w) (0 - nI j)
  rintro H _ ⟨W, rfl⟩
  refine bL_isRefused_787 (fun c => absurd rc_2 c) (fun _ => ?_)
  refine bL_isRefused_792 (fun c => absurd c (by decide)) (fun _ => ?_)
  refine bL_isRefused_800 ?_
  refine bL_isRefused_810 (by (try rw [e30]); (try rw [e7]); (try rw [e3]); (try rw [hm0]); (try rw [hm1]); (try rw [hm2]); (try rw [hm3]); exact r_13 ok g0 W (by omega) (he1_30 hj hu hw d n9 w20 m10 p0 pl d9) (by decide)) ?_ -- 30 off (-1)
  rintro H _ ⟨W, rfl⟩
  refine bL_isRefused_818 (fun c => absurd rc_3 c) (fun _ => ?_)
  refine bL_isRefused_823 (fun c => absurd c (by decide)) (fun _ => ?_)
  refine bL_isRefused_831 ?_
  refine bL_isRefused_842 (by (try rw [e30]); (try rw [e7]); (try rw [e3]); (try rw [hm0]); (try rw [hm1]); (try rw [hm2]); (try rw [hm3]); exact r_14 ok g0 W (by omega) (he1_31 hj hu hw d n9 w20 m10 p0 pl d9) (by decide)) ?_ -- 31 rank (-1 - nI j)
  rintro H _ ⟨W, rfl⟩
  refine bL_isRefused_850 (fun c => absurd rc_4 c) (fun _ => ?_)
  refine bL_isRefused_855 (fun c => absurd c (by decide)) (fun _ => ?_)
  refine bL_isRefused_863 ?_
  refine bL_isRefused_874 (by (try rw [e30]); (try rw [e7]); (try rw [e3]); (try rw [hm0]); (try rw [hm1]); (try rw [hm2]); (try rw [hm3]); exact r_15 ok g0 W (by omega) (he1_32 hj hu hw d n9 w20 m10 p0 pl d9) (by decide)) ?_ -- 32 rankAnew (-1)
  rintro H _ ⟨W, rfl⟩
  refine bL_isRefused_882 (fun c => absurd rc_4 c) (fun _ => ?_)
  refine bL_isRefused_887 (by (try rw [e30]); (try rw [e7]); (try rw [e3]); (try rw [hm0]); (try rw [hm1]); (try rw [hm2]); (try rw [hm3]); exact r_16 ok g0 W (by omega) (he1_33 hj hu hw d n9 w20 m10 p0 pl d9) (by decide)) ?_ -- 33 watch 5 10000 5
  rintro H _ ⟨W, rfl⟩
  refine bL_isRefused_901 (fun c => absurd rc_5 c) (fun _ => ?_)
  refine bL_isRefused_906 (fun c => absurd c (by decide)) (fun _ => ?_)
  refine bL_isRefused_914 ?_
  refine bL_isRefused_926 (by (try rw [e30]); (try rw [e7]); (try rw [e3]); (try rw [hm0]); (try rw [hm1]); (try rw [hm2]); (try rw [hm3]); exact r_17 ok g0 W (by omega) (he1_34 hj hu hw d n9 w20 m10 p0 pl d9) (by decide)) ?_ -- 34 fired (-1 - nI j)
  rintro H _ ⟨W, rfl⟩
  refine bL_isRefused_934 (fun c => absurd rc_3 c) (fun _ => ?_)
  refine bL_isRefused_939 (by (try rw [e30]); (try rw [e7]); (try rw [e3]); (try rw [hm0]); (try rw [hm1]); (try rw [hm2]); (try rw [hm3]); exact r_18 ok g0 W (by omega) (he1_35 hj hu hw d n9 w20 m10 p0 pl d9) (by decide)) ?_ -- 35 offer (-1 - nI j) (-1)
  rintro H _ ⟨W, rfl⟩
  refine bL_isRefused_952 (fun c => absurd rc_1 c) (fun _ => ?_)
  refine bL_isRefused_957 (fun c => absurd c (by decide)) (fun _ => ?_)
  refine bL_isRefused_966 ?_
  refine bL_isRefused_977 (by (try rw [e30]); (try rw [e7]); (try rw [e3]); (try rw [hm0]); (try rw [hm1]); (try rw [hm2]); (try rw [hm3]); exact r_18 ok g0 W (by omega) (he1_36 hj hu hw d n9 w20 m10 p0 pl d9) (by decide)) ?_ -- 36 offer 0 (-1)
  rintro H _ ⟨W, rfl⟩
  refine bL_isRefused_984 (fun c => absurd rc_2 c) (fun _ => ?_)
  refine bL_isRefused_989 ?_
  refine bL_isRefused_994 (fun c => absurd c (by decide)) (fun _ => ?_)
  exact K H (lp_Xm W (by omega) (by omega))
theorem ir1_2 (ok : k_ok G l) (g0 : k_fh G = 0) {h0 : k_H} {Q : k_H → k_R → Prop} {x3 : Int32} {x7 : Int64} {j u w : Nat} (hj : j < 30) (hu : u < 7) (hw : w < 3) (e30 : x3 - (x3 / 30) * 30 = nI j) (e7 : x3 - (x3 / 7) * 7 = nI u) (e3 : x3 - (x3 / 3) * 3 = nI w) (hm0 : A 0 ((0 : Int32).toNatClampNeg) = nI (g_n M)) (hm1 : A 0 ((1 : Int32).toNatClampNeg) = nI (g_WT M).length) (hm2 : A 0 ((2 : Int32).toNatClampNeg) = nI (g_MK M).length) (hm3 : A 0 ((3 : Int32).toNatClampNeg) = nI (g_DS M).2) (d : d_ok (g_DS M)) (n9 : g_n M < 9000) (w20 : (g_WT M).length ≤ 20) (m10 : (g_MK M).length ≤ 10) (p0 : 0 < (g_PT M).length) (pl : (g_PT M).length ≤ 4096) (d9 : (g_DS M).2 < 1024) (hi : i + 5 < 512) (W : lp_X a A i q M H)
    (K : ∀ H, lp_X a A (i + 5) (q + 30) M H → k_X (jL_isRefused G l h0) H 1424 [(0, vR (some a)), (1, vR (some (a + 31 + 0))), (2, vR (some (a + 31 + 1))), (7, vJ x7)] [vI 1] Q) : k_X (jL_isRefused G l h0) H 1001 [(0, vR (some a)), (1, vR (some (a + 31 + 0))), (2, vR (some (a + 31 + 1))), (3, vI x3), (4, vI 1), (7, vJ x7)] [] Q := by
  refine bL_isRefused_1001 (fun c => absurd c (by decide)) (fun _ => ?_)
  refine bL_isRefused_1009 ?_
  refine bL_isRefused_1019 (by (try rw [e30]); (try rw [e7]); (try rw [e3]); (try rw [hm0]); (try rw [hm1]); (try rw [hm2]); (try rw [hm3]); exact r_19 ok g0 W (by omega) (he1_37 hj hu hw d n9 w20 m10 p0 pl d9) (by decide)) ?_ -- 37 take (-1)
  rintro H _ ⟨W, rfl⟩
  refine bL_isRefused_1027 (fun c => absurd rc_3 c) (fun _ => ?_)
  refine bL_isRefused_1032 (fun c => absurd c (by decide)) (fun _ => ?_)
  refine bL_isRefused_1040 ?_
  refine bL_isRefused_1050 (by (try rw [e30]); (try rw [e7]); (try rw [e3]); (try rw [hm0]); (try rw [hm1]); (try rw [hm2]); (try rw [hm3]); exact r_20 ok g0 W (by omega) (he1_38 hj hu hw d n9 w20 m10 p0 pl d9) (by decide)) ?_ -- 38 finish (-1 - nI j)
  rintro H _ ⟨W, rfl⟩
  refine bL_isRefused_1058 (fun c => absurd rc_3 c) (fun _ => ?_)
  refine bL_isRefused_1063 (fun c => absurd c (by decide)) (fun _ => ?_)
  refine bL_isRefused_1071 ?_
  refine bL_isRefused_1084 (by (try rw [e30]); (try rw [e7]); (try rw [e3]); (try rw [hm0]); (try rw [hm1]); (try rw [hm2]); (try rw [hm3]); exact r_21 ok g0 W (by omega) (he1_39 hj hu hw d n9 w20 m10 p0 pl d9) (by decide)) ?_ -- 39 part (-1) 9
  rintro H _ ⟨W, rfl⟩
  refine bL_isRefused_1093 (fun c => absurd rc_1 c) (fun _ => ?_)
  refine bL_isRefused_1098 (fun c => absurd c (by decide)) (fun _ => ?_)
  refine bL_isRefused_1107 ?_
  refine bL_isRefused_1117 (by (try rw [e30]); (try rw [e7]); (try rw [e3]); (try rw [hm0]); (try rw [hm1]); (try rw [hm2]); (try rw [hm3]); exact r_21 ok g0 W (by omega) (he1_40 hj hu hw d n9 w20 m10 p0 pl d9) (by decide)) ?_ -- 40 part 0 (-1 - nI j)
  rintro H _ ⟨W, rfl⟩
  refine bL_isRefused_1124 (fun c => absurd rc_2 c) (fun _ => ?_)
  refine bL_isRefused_1129 (fun c => absurd c (by decide)) (fun _ => ?_)
  refine bL_isRefused_1137 ?_
  refine bL_isRefused_1149 (by (try rw [e30]); (try rw [e7]); (try rw [e3]); (try rw [hm0]); (try rw [hm1]); (try rw [hm2]); (try rw [hm3]); exact r_23 ok g0 W (by omega) (he1_41 hj hu hw d n9 w20 m10 p0 pl d9) (by decide)) ?_ -- 41 bringBack (-1)
  rintro H _ ⟨W, rfl⟩
  refine bL_isRefused_1157 (fun c => absurd rc_3 c) (fun _ => ?_)
  refine bL_isRefused_1162 (fun c => absurd c (by decide)) (fun _ => ?_)
  refine bL_isRefused_1170 ?_
  refine bL_isRefused_1182 (by (try rw [e30]); (try rw [e7]); (try rw [e3]); (try rw [hm0]); (try rw [hm1]); (try rw [hm2]); (try rw [hm3]); exact r_24 ok g0 W (by omega) (he1_42 hj hu hw d n9 w20 m10 p0 pl d9) (by decide)) ?_ -- 42 directory (-1) 0
  rintro H _ ⟨W, rfl⟩
  refine bL_isRefused_1190 (fun c => absurd rc_1 c) (fun _ => ?_)
  refine bL_isRefused_1195 (fun c => absurd c (by decide)) (fun _ => ?_)
  refine bL_isRefused_1204 ?_
  refine bL_isRefused_1215 (by (try rw [e30]); (try rw [e7]); (try rw [e3]); (try rw [hm0]); (try rw [hm1]); (try rw [hm2]); (try rw [hm3]); exact r_24 ok g0 W (by omega) (he1_43 hj hu hw d n9 w20 m10 p0 pl d9) (by decide)) ?_ -- 43 directory 0 (-1 - nI j)
  rintro H _ ⟨W, rfl⟩
  refine bL_isRefused_1222 (fun c => absurd rc_2 c) (fun _ => ?_)
  refine bL_isRefused_1227 (fun c => absurd c (by decide)) (fun _ => ?_)
  refine bL_isRefused_1235 ?_
  refine bL_isRefused_1242 (by (try rw [e30]); (try rw [e7]); (try rw [e3]); (try rw [hm0]); (try rw [hm1]); (try rw [hm2]); (try rw [hm3]); exact r_25 ok g0 W (by omega) (he1_44 hj hu hw d n9 w20 m10 p0 pl d9) (by decide)) ?_ -- 44 remove (-1)
  rintro H _ ⟨W, rfl⟩
  refine bL_isRefused_1250 (fun c => absurd rc_3 c) (fun _ => ?_)
  refine bL_isRefused_1255 (by (try rw [e30]); (try rw [e7]); (try rw [e3]); (try rw [hm0]); (try rw [hm1]); (try rw [hm2]); (try rw [hm3]); exact r_25 ok g0 W (by omega) (he1_45 hj hu hw d n9 w20 m10 p0 pl d9) (by decide)) ?_ -- 45 remove 0
  rintro H _ ⟨W, rfl⟩
  refine bL_isRefused_1267 (fun c => absurd rc_6 c) (fun _ => ?_)
  refine bL_isRefused_1272 (fun c => absurd c (by decide)) (fun _ => ?_)
  refine bL_isRefused_1280 ?_
  refine bL_isRefused_1292 (by (try rw [e30]); (try rw [e7]); (try rw [e3]); (try rw [hm0]); (try rw [hm1]); (try rw [hm2]); (try rw [hm3]); exact r_26 ok g0 W (by omega) (he1_46 hj hu hw d n9 w20 m10 p0 pl d9) (by decide)) ?_ -- 46 shortName (-1)
  rintro H _ ⟨W, rfl⟩
  refine bL_isRefused_1300 (fun c => absurd rc_3 c) (fun _ => ?_)
  refine bL_isRefused_1305 (fun c => absurd c (by decide)) (fun _ => ?_)
  refine bL_isRefused_1314 ?_
  refine bL_isRefused_1325 (by (try rw [e30]); (try rw [e7]); (try rw [e3]); (try rw [hm0]); (try rw [hm1]); (try rw [hm2]); (try rw [hm3]); exact r_27 ok g0 W (by omega) (he1_47 hj hu hw d n9 w20 m10 p0 pl d9) (by decide)) ?_ -- 47 named 0 (-1)
  rintro H _ ⟨W, rfl⟩
  refine bL_isRefused_1332 (fun c => absurd rc_2 c) (fun _ => ?_)
  refine bL_isRefused_1337 (fun c => absurd c (by decide)) (fun _ => ?_)
  refine bL_isRefused_1343 ?_
  refine bL_isRefused_1350 (by (try rw [e30]); (try rw [e7]); (try rw [e3]); (try rw [hm0]); (try rw [hm1]); (try rw [hm2]); (try rw [hm3]); exact r_s ok g0 W (by omega) (he1_48 hj hu hw d n9 w20 m10 p0 pl d9) (by decide)) ?_ -- 48 move (-1) 0 99
  rintro H _ ⟨W, rfl⟩
  refine bL_isRefused_1356 (fun c => absurd rc_1 c) (fun _ => ?_)
  refine bL_isRefused_1361 (fun c => absurd c (by decide)) (fun _ => ?_)
  refine bL_isRefused_1368 ?_
  refine bL_isRefused_1375 (by (try rw [e30]); (try rw [e7]); (try rw [e3]); (try rw [hm0]); (try rw [hm1]); (try rw [hm2]); (try rw [hm3]); exact r_s ok g0 W (by omega) (he1_49 hj hu hw d n9 w20 m10 p0 pl d9) (by decide)) ?_ -- 49 move 0 (-1) 99
  rintro H _ ⟨W, rfl⟩
  refine bL_isRefused_1380 (fun c => absurd rc_1 c) (fun _ => ?_)
  refine bL_isRefused_1385 (fun c => absurd c (by decide)) (fun _ => ?_)
  refine bL_isRefused_1393 ?_
  refine bL_isRefused_1399 (by (try rw [e30]); (try rw [e7]); (try rw [e3]); (try rw [hm0]); (try rw [hm1]); (try rw [hm2]); (try rw [hm3]); exact r_s ok g0 W (by omega) (he1_50 hj hu hw d n9 w20 m10 p0 pl d9) (by decide)) ?_ -- 50 move 0 0 (-1)
  rintro H _ ⟨W, rfl⟩
  refine bL_isRefused_1402 (fun c => absurd rc_2 c) (fun _ => ?_)
  refine bL_isRefused_1407 (by (try rw [e30]); (try rw [e7]); (try rw [e3]); (try rw [hm0]); (try rw [hm1]); (try rw [hm2]); (try rw [hm3]); exact r_s ok g0 W (by omega) (he1_51 hj hu hw d n9 w20 m10 p0 pl d9) (by decide)) ?_ -- 51 move 0 0 5
  rintro H _ ⟨W, rfl⟩
  refine bL_isRefused_1414 (fun c => absurd rc_7 c) (fun _ => ?_)
  refine bL_isRefused_1419 ?_
  exact K H (lp_Xm W (by omega) (by omega))
theorem ir0_0 (ok : k_ok G l) (g0 : k_fh G = 0) {h0 : k_H} {Q : k_H → k_R → Prop} {x3 : Int32} {x7 : Int64} {j u w : Nat} (hj : j < 30) (hu : u < 7) (hw : w < 3) (e30 : x3 - (x3 / 30) * 30 = nI j) (e7 : x3 - (x3 / 7) * 7 = nI u) (e3 : x3 - (x3 / 3) * 3 = nI w) (hm0 : A 0 ((0 : Int32).toNatClampNeg) = nI (g_n M)) (hm1 : A 0 ((1 : Int32).toNatClampNeg) = nI (g_WT M).length) (hm2 : A 0 ((2 : Int32).toNatClampNeg) = nI (g_MK M).length) (hm3 : A 0 ((3 : Int32).toNatClampNeg) = nI (g_DS M).2) (d : d_ok (g_DS M)) (n9 : g_n M < 9000) (w20 : (g_WT M).length ≤ 20) (m10 : (g_MK M).length ≤ 10) (p0 : 0 < (g_PT M).length) (pl : (g_PT M).length ≤ 4096) (d9 : (g_DS M).2 < 1024) (hi : i + 1 < 512) (W : lp_X a A i q M H)
    (K : ∀ H, lp_X a A (i + 1) (q + 42) M H → k_X (jL_isRefused G l h0) H 534 [(0, vR (some a)), (1, vR (some (a + 31 + 0))), (2, vR (some (a + 31 + 1))), (3, vI x3), (4, vI 0), (5, vI (4 + nI j)), (6, vI (10001 + nI j)), (7, vJ x7)] [] Q) : k_X (jL_isRefused G l h0) H 66 [(0, vR (some a)), (1, vR (some (a + 31 + 0))), (2, vR (some (a + 31 + 1))), (3, vI x3), (4, vI 0), (5, vI (4 + nI j)), (6, vI (10001 + nI j))] [vJ x7] Q := by
  refine bL_isRefused_66 (by (try rw [e30]); (try rw [e7]); (try rw [e3]); (try rw [hm0]); (try rw [hm1]); (try rw [hm2]); (try rw [hm3]); exact r_0 ok g0 W (by omega) (he0_0 hj hu hw d n9 w20 m10 p0 pl d9) (by decide)) ?_ -- 0 begin (4 + nI j) (decide ((0 : Int32) = 1))
  rintro H _ ⟨W, rfl⟩
  refine bL_isRefused_80 (fun c => absurd rc_0 c) (fun _ => ?_)
  refine bL_isRefused_85 (by (try rw [e30]); (try rw [e7]); (try rw [e3]); (try rw [hm0]); (try rw [hm1]); (try rw [hm2]); (try rw [hm3]); exact r_1 ok g0 W (by omega) (he0_1 hj hu hw d n9 w20 m10 p0 pl d9) (by decide)) ?_ -- 1 get (4 + nI j) 10001 0 0 (decide ((0 : Int32) = 1))
  rintro H _ ⟨W, rfl⟩
  refine bL_isRefused_99 (fun c => absurd rc_1 c) (fun _ => ?_)
  refine bL_isRefused_104 (by (try rw [e30]); (try rw [e7]); (try rw [e3]); (try rw [hm0]); (try rw [hm1]); (try rw [hm2]); (try rw [hm3]); exact r_1 ok g0 W (by omega) (he0_2 hj hu hw d n9 w20 m10 p0 pl d9) (by decide)) ?_ -- 2 get 0 (10001 + nI j) 0 0 (decide ((0 : Int32) = 1))
  rintro H _ ⟨W, rfl⟩
  refine bL_isRefused_116 (fun c => absurd rc_2 c) (fun _ => ?_)
  refine bL_isRefused_121 (by (try rw [e30]); (try rw [e7]); (try rw [e3]); (try rw [hm0]); (try rw [hm1]); (try rw [hm2]); (try rw [hm3]); exact r_1 ok g0 W (by omega) (he0_3 hj hu hw d n9 w20 m10 p0 pl d9) (by decide)) ?_ -- 3 get 0 5 (10001 + nI j) 0 (decide ((0 : Int32) = 1))
  rintro H _ ⟨W, rfl⟩
  refine bL_isRefused_133 (fun c => absurd rc_2 c) (fun _ => ?_)
  refine bL_isRefused_138 (by (try rw [e30]); (try rw [e7]); (try rw [e3]); (try rw [hm0]); (try rw [hm1]); (try rw [hm2]); (try rw [hm3]); exact r_1 ok g0 W (by omega) (he0_4 hj hu hw d n9 w20 m10 p0 pl d9) (by decide)) ?_ -- 4 get 0 5 10000 (nI j) (decide ((0 : Int32) = 1))
  rintro H _ ⟨W, rfl⟩
  refine bL_isRefused_154 (fun c => absurd rc_2 c) (fun _ => ?_)
  refine bL_isRefused_159 (by (try rw [e30]); (try rw [e7]); (try rw [e3]); (try rw [hm0]); (try rw [hm1]); (try rw [hm2]); (try rw [hm3]); exact r_1 ok g0 W (by omega) (he0_5 hj hu hw d n9 w20 m10 p0 pl d9) (by decide)) ?_ -- 5 get 0 10000 10000 10000 (decide ((0 : Int32) = 1))
  rintro H _ ⟨W, rfl⟩
  refine bL_isRefused_176 (fun c => absurd rc_2 c) (fun _ => ?_)
  refine bL_isRefused_181 (by (try rw [e30]); (try rw [e7]); (try rw [e3]); (try rw [hm0]); (try rw [hm1]); (try rw [hm2]); (try rw [hm3]); exact r_1 ok g0 W (by omega) (he0_6 hj hu hw d n9 w20 m10 p0 pl d9) (by decide)) ?_ -- 6 get 0 5 5 (10001 + nI j) (decide ((0 : Int32) = 1))
  rintro H _ ⟨W, rfl⟩
  refine bL_isRefused_193 (fun c => absurd rc_2 c) (fun _ => ?_)
  refine bL_isRefused_198 (by (try rw [e30]); (try rw [e7]); (try rw [e3]); (try rw [hm0]); (try rw [hm1]); (try rw [hm2]); (try rw [hm3]); exact r_2 ok g0 W (by omega) (he0_7 hj hu hw d n9 w20 m10 p0 pl d9) (by decide)) ?_ -- 7 range (4 + nI j) 5 5 (decide ((0 : Int32) = 1))
  rintro H _ ⟨W, rfl⟩
  refine bL_isRefused_210 (fun c => absurd rc_1 c) (fun _ => ?_)
  refine bL_isRefused_215 (by (try rw [e30]); (try rw [e7]); (try rw [e3]); (try rw [hm0]); (try rw [hm1]); (try rw [hm2]); (try rw [hm3]); exact r_2 ok g0 W (by omega) (he0_8 hj hu hw d n9 w20 m10 p0 pl d9) (by decide)) ?_ -- 8 range 0 10000 (nI j) (decide ((0 : Int32) = 1))
  rintro H _ ⟨W, rfl⟩
  refine bL_isRefused_231 (fun c => absurd rc_2 c) (fun _ => ?_)
  refine bL_isRefused_236 (by (try rw [e30]); (try rw [e7]); (try rw [e3]); (try rw [hm0]); (try rw [hm1]); (try rw [hm2]); (try rw [hm3]); exact r_2 ok g0 W (by omega) (he0_9 hj hu hw d n9 w20 m10 p0 pl d9) (by decide)) ?_ -- 9 range 0 (10001 + nI j) 10000 (decide ((0 : Int32) = 1))
  rintro H _ ⟨W, rfl⟩
  refine bL_isRefused_250 (fun c => absurd rc_2 c) (fun _ => ?_)
  refine bL_isRefused_255 (by (try rw [e30]); (try rw [e7]); (try rw [e3]); (try rw [hm0]); (try rw [hm1]); (try rw [hm2]); (try rw [hm3]); exact r_3 ok g0 W (by omega) (he0_10 hj hu hw d n9 w20 m10 p0 pl d9) (by decide)) ?_ -- 10 rangeAt 0 5 5 (-1 - nI j) 9
  rintro H _ ⟨W, rfl⟩
  refine bL_isRefused_272 (fun c => absurd rc_1 c) (fun _ => ?_)
  refine bL_isRefused_277 (fun _ => ?_) (fun c => absurd rfl c)
  refine bL_isRefused_292 ?_
  refine bL_isRefused_298 (by (try rw [e30]); (try rw [e7]); (try rw [e3]); (try rw [hm0]); (try rw [hm1]); (try rw [hm2]); (try rw [hm3]); exact r_3 ok g0 W (by omega) (he0_11 hj hu hw d n9 w20 m10 p0 pl d9) (by decide)) ?_ -- 11 rangeAt 0 5 5 0 (3 + nI j)
  rintro H _ ⟨W, rfl⟩
  refine bL_isRefused_302 (fun c => absurd rc_2 c) (fun _ => ?_)
  refine bL_isRefused_307 (by (try rw [e30]); (try rw [e7]); (try rw [e3]); (try rw [hm0]); (try rw [hm1]); (try rw [hm2]); (try rw [hm3]); exact r_4 ok g0 W (by omega) (he0_12 hj hu hw d n9 w20 m10 p0 pl d9) (by decide)) ?_ -- 12 change (4 + nI j) 9 5 5 5 0
  rintro H _ ⟨W, rfl⟩
  refine bL_isRefused_320 (fun c => absurd rc_1 c) (fun _ => ?_)
  refine bL_isRefused_325 (fun _ => ?_) (fun c => absurd rfl c)
  refine bL_isRefused_342 ?_
  refine bL_isRefused_344 (by (try rw [e30]); (try rw [e7]); (try rw [e3]); (try rw [hm0]); (try rw [hm1]); (try rw [hm2]); (try rw [hm3]); exact r_4 ok g0 W (by omega) (he0_13 hj hu hw d n9 w20 m10 p0 pl d9) (by decide)) ?_ -- 13 change 0 7 5 5 5 0
  rintro H _ ⟨W, rfl⟩
  refine bL_isRefused_351 (fun c => absurd rc_2 c) (fun _ => ?_)
  refine bL_isRefused_356 (fun _ => ?_) (fun c => absurd rfl c)
  refine bL_isRefused_373 ?_
  refine bL_isRefused_380 (by (try rw [e30]); (try rw [e7]); (try rw [e3]); (try rw [hm0]); (try rw [hm1]); (try rw [hm2]); (try rw [hm3]); exact r_4 ok g0 W (by omega) (he0_14 hj hu hw d n9 w20 m10 p0 pl d9) (by decide)) ?_ -- 14 change 0 0 5 5 5 (1000001 + nI j)
  rintro H _ ⟨W, rfl⟩
  refine bL_isRefused_383 (fun c => absurd rc_2 c) (fun _ => ?_)
  refine bL_isRefused_388 (by (try rw [e30]); (try rw [e7]); (try rw [e3]); (try rw [hm0]); (try rw [hm1]); (try rw [hm2]); (try rw [hm3]); exact r_4 ok g0 W (by omega) (he0_15 hj hu hw d n9 w20 m10 p0 pl d9) (by decide)) ?_ -- 15 change 0 (nI u) (-7 + nI u) 5 5 0
  rintro H _ ⟨W, rfl⟩
  refine bL_isRefused_408 (fun c => absurd rc_2 c) (fun _ => ?_)
  refine bL_isRefused_413 (by (try rw [e30]); (try rw [e7]); (try rw [e3]); (try rw [hm0]); (try rw [hm1]); (try rw [hm2]); (try rw [hm3]); exact r_5 ok g0 W (by omega) (he0_16 hj hu hw d n9 w20 m10 p0 pl d9) (by decide)) ?_ -- 16 clear (4 + nI j) 5 5
  rintro H _ ⟨W, rfl⟩
  refine bL_isRefused_425 (fun c => absurd rc_1 c) (fun _ => ?_)
  refine bL_isRefused_430 (by (try rw [e30]); (try rw [e7]); (try rw [e3]); (try rw [hm0]); (try rw [hm1]); (try rw [hm2]); (try rw [hm3]); exact r_5 ok g0 W (by omega) (he0_17 hj hu hw d n9 w20 m10 p0 pl d9) (by decide)) ?_ -- 17 clear 0 (-7 + nI u) 5
  rintro H _ ⟨W, rfl⟩
  refine bL_isRefused_447 (fun c => absurd rc_2 c) (fun _ => ?_)
  refine bL_isRefused_452 (by (try rw [e30]); (try rw [e7]); (try rw [e3]); (try rw [hm0]); (try rw [hm1]); (try rw [hm2]); (try rw [hm3]); exact r_5 ok g0 W (by omega) (he0_18 hj hu hw d n9 w20 m10 p0 pl d9) (by decide)) ?_ -- 18 clear 0 10000 10000
  rintro H _ ⟨W, rfl⟩
  refine bL_isRefused_467 (fun c => absurd rc_2 c) (fun _ => ?_)
  refine bL_isRefused_472 (by (try rw [e30]); (try rw [e7]); (try rw [e3]); (try rw [hm0]); (try rw [hm1]); (try rw [hm2]); (try rw [hm3]); exact r_6 ok g0 W (by omega) (he0_19 hj hu hw d n9 w20 m10 p0 pl d9) (by decide)) ?_ -- 19 commit (4 + nI j)
  rintro H _ ⟨W, rfl⟩
  refine bL_isRefused_485 (fun c => absurd rc_3 c) (fun _ => ?_)
  refine bL_isRefused_490 (fun _ => ?_) (fun c => absurd rfl c)
  refine bL_isRefused_507 ?_
  refine bL_isRefused_509 (by (try rw [e30]); (try rw [e7]); (try rw [e3]); (try rw [hm0]); (try rw [hm1]); (try rw [hm2]); (try rw [hm3]); exact r_7 ok g0 W (by omega) (he0_20 hj hu hw d n9 w20 m10 p0 pl d9) (by decide)) ?_ -- 20 pass 11
  rintro H _ ⟨W, rfl⟩
  refine bL_isRefused_517 (fun c => absurd rc_4 c) (fun _ => ?_)
  refine bL_isRefused_522 ?_
  refine bL_isRefused_527 (fun c => absurd c (by decide)) (fun _ => ?_)
  exact K H (lp_Xm W (by omega) (by omega))
theorem ir0_1 (ok : k_ok G l) (g0 : k_fh G = 0) {h0 : k_H} {Q : k_H → k_R → Prop} {x3 : Int32} {x7 : Int64} {j u w : Nat} (hj : j < 30) (hu : u < 7) (hw : w < 3) (e30 : x3 - (x3 / 30) * 30 = nI j) (e7 : x3 - (x3 / 7) * 7 = nI u) (e3 : x3 - (x3 / 3) * 3 = nI w) (hm0 : A 0 ((0 : Int32).toNatClampNeg) = nI (g_n M)) (hm1 : A 0 ((1 : Int32).toNatClampNeg) = nI (g_WT M).length) (hm2 : A 0 ((2 : Int32).toNatClampNeg) = nI (g_MK M).length) (hm3 : A 0 ((3 : Int32).toNatClampNeg) = nI (g_DS M).2) (d : d_ok (g_DS M)) (n9 : g_n M < 9000) (w20 : (g_WT M).length ≤ 20) (m10 : (g_MK M).length ≤ 10) (p0 : 0 < (g_PT M).length) (pl : (g_PT M).length ≤ 4096) (d9 : (g_DS M).2 < 1024) (hi : i + 7 < 512) (W : lp_X a A i q M H)
    (K : ∀ H, lp_X a A (i + 7) (q + 32) M H → k_X (jL_isRefused G l h0) H 1001 [(0, vR (some a)), (1, vR (some (a + 31 + 0))), (2, vR (some (a + 31 + 1))), (3, vI x3), (4, vI 0), (7, vJ x7)] [] Q) : k_X (jL_isRefused G l h0) H 534 [(0, vR (some a)), (1, vR (some (a + 31 + 0))), (2, vR (some (a + 31 + 1))), (3, vI x3), (4, vI 0), (5, vI (4 + nI j)), (6, vI (10001 + nI j)), (7, vJ x7)] [] Q := by
  refine bL_isRefused_534 (fun _ => ?_) (fun c => absurd rfl c)
  refine bL_isRefused_551 (X_atom (j := 0) W (by decide)) (rf_in (k := 0) (n := 5) (by omega) (by omega)) ?_
  refine bL_isRefused_556 (by (try rw [e30]); (try rw [e7]); (try rw [e3]); (try rw [hm0]); (try rw [hm1]); (try rw [hm2]); (try rw [hm3]); exact r_8 ok g0 W (by omega) (he0_21 hj hu hw d n9 w20 m10 p0 pl d9) (by decide)) ?_ -- 21 value (nI (g_n M) + 1) 5 5 5
  rintro H _ ⟨W, rfl⟩
  refine bL_isRefused_564 (fun c => absurd rc_4 c) (fun _ => ?_)
  refine bL_isRefused_569 (by (try rw [e30]); (try rw [e7]); (try rw [e3]); (try rw [hm0]); (try rw [hm1]); (try rw [hm2]); (try rw [hm3]); exact r_9 ok g0 W (by omega) (he0_22 hj hu hw d n9 w20 m10 p0 pl d9) (by decide)) ?_ -- 22 packed (10001 + nI j) 5 5 (-1 - nI j)
  rintro H _ ⟨W, rfl⟩
  refine bL_isRefused_587 (fun c => absurd rc_1 c) (fun _ => ?_)
  refine bL_isRefused_592 (by (try rw [e30]); (try rw [e7]); (try rw [e3]); (try rw [hm0]); (try rw [hm1]); (try rw [hm2]); (try rw [hm3]); exact r_9 ok g0 W (by omega) (he0_23 hj hu hw d n9 w20 m10 p0 pl d9) (by decide)) ?_ -- 23 packed (10001 + nI j) 5 5 0
  rintro H _ ⟨W, rfl⟩
  refine bL_isRefused_605 (fun c => absurd rc_2 c) (fun _ => ?_)
  refine bL_isRefused_610 (by (try rw [e30]); (try rw [e7]); (try rw [e3]); (try rw [hm0]); (try rw [hm1]); (try rw [hm2]); (try rw [hm3]); exact r_10 ok g0 W (by omega) (he0_24 hj hu hw d n9 w20 m10 p0 pl d9) (by decide)) ?_ -- 24 save (4 + nI j) 999 0
  rintro H _ ⟨W, rfl⟩
  refine bL_isRefused_625 (fun c => absurd rc_1 c) (fun _ => ?_)
  refine bL_isRefused_630 (fun _ => ?_) (fun c => absurd rfl c)
  refine bL_isRefused_643 ?_
  refine bL_isRefused_650 (by (try rw [e30]); (try rw [e7]); (try rw [e3]); (try rw [hm0]); (try rw [hm1]); (try rw [hm2]); (try rw [hm3]); exact r_10 ok g0 W (by omega) (he0_25 hj hu hw d n9 w20 m10 p0 pl d9) (by decide)) ?_ -- 25 save 0 (100 + nI j) 0
  rintro H _ ⟨W, rfl⟩
  refine bL_isRefused_657 (fun c => absurd rc_2 c) (fun _ => ?_)
  refine bL_isRefused_662 (fun _ => ?_) (fun c => absurd rfl c)
  refine bL_isRefused_681 ?_
  refine bL_isRefused_683 (by (try rw [e30]); (try rw [e7]); (try rw [e3]); (try rw [hm0]); (try rw [hm1]); (try rw [hm2]); (try rw [hm3]); exact r_10 ok g0 W (by omega) (he0_26 hj hu hw d n9 w20 m10 p0 pl d9) (by decide)) ?_ -- 26 save 0 0 100
  rintro H _ ⟨W, rfl⟩
  refine bL_isRefused_689 (fun c => absurd rc_2 c) (fun _ => ?_)
  refine bL_isRefused_694 (fun _ => ?_) (fun c => absurd rfl c)
  refine bL_isRefused_707 ?_
  refine bL_isRefused_714 (by (try rw [e30]); (try rw [e7]); (try rw [e3]); (try rw [hm0]); (try rw [hm1]); (try rw [hm2]); (try rw [hm3]); exact r_11 ok g0 W (by omega) (he0_27 hj hu hw d n9 w20 m10 p0 pl d9) (by decide)) ?_ -- 27 erase 0 (100 + nI j)
  rintro H _ ⟨W, rfl⟩
  refine bL_isRefused_721 (fun c => absurd rc_2 c) (fun _ => ?_)
  refine bL_isRefused_726 (fun _ => ?_) (fun c => absurd rfl c)
  refine bL_isRefused_738 ?_
  refine bL_isRefused_744 (by (try rw [e30]); (try rw [e7]); (try rw [e3]); (try rw [hm0]); (try rw [hm1]); (try rw [hm2]); (try rw [hm3]); exact r_12 ok g0 W (by omega) (he0_28 hj hu hw d n9 w20 m10 p0 pl d9) (by decide)) ?_ -- 28 build (3 + nI j) 99
  rintro H _ ⟨W, rfl⟩
  refine bL_isRefused_753 (fun c => absurd rc_1 c) (fun _ => ?_)
  refine bL_isRefused_758 (fun _ => ?_) (fun c => absurd rfl c)
  refine bL_isRefused_778 ?_
  refine bL_isRefused_780 (by (try rw [e30]); (try rw [e7]); (try rw [e3]); (try rw [hm0]); (try rw [hm1]); (try rw [hm2]); (try rw [hm3]); exact r_12 ok g0 W (by omega) (he0_29 hj hu hw d n9 w20 m10 p0 pl d9) (by decide)) ?_ -- 29 build (nI w) 21
  rintro H _ ⟨W, rfl⟩
  refine bL_isRefused_787 (fun c => absurd rc_2 c) (fun _ => ?_)
  refine bL_isRefused_792 (fun _ => ?_) (fun c => absurd rfl c)
  refine bL_isRefused_804 ?_
  refine bL_isRefused_810 (by (try rw [e30]); (try rw [e7]); (try rw [e3]); (try rw [hm0]); (try rw [hm1]); (try rw [hm2]); (try rw [hm3]); exact r_13 ok g0 W (by omega) (he0_30 hj hu hw d n9 w20 m10 p0 pl d9) (by decide)) ?_ -- 30 off (3 + nI j)
  rintro H _ ⟨W, rfl⟩
  refine bL_isRefused_818 (fun c => absurd rc_3 c) (fun _ => ?_)
  refine bL_isRefused_823 (fun _ => ?_) (fun c => absurd rfl c)
  refine bL_isRefused_840 ?_
  refine bL_isRefused_842 (by (try rw [e30]); (try rw [e7]); (try rw [e3]); (try rw [hm0]); (try rw [hm1]); (try rw [hm2]); (try rw [hm3]); exact r_14 ok g0 W (by omega) (he0_31 hj hu hw d n9 w20 m10 p0 pl d9) (by decide)) ?_ -- 31 rank 100
  rintro H _ ⟨W, rfl⟩
  refine bL_isRefused_850 (fun c => absurd rc_4 c) (fun _ => ?_)
  refine bL_isRefused_855 (fun _ => ?_) (fun c => absurd rfl c)
  refine bL_isRefused_867 ?_
  refine bL_isRefused_874 (by (try rw [e30]); (try rw [e7]); (try rw [e3]); (try rw [hm0]); (try rw [hm1]); (try rw [hm2]); (try rw [hm3]); exact r_15 ok g0 W (by omega) (he0_32 hj hu hw d n9 w20 m10 p0 pl d9) (by decide)) ?_ -- 32 rankAnew (100 + nI j)
  rintro H _ ⟨W, rfl⟩
  refine bL_isRefused_882 (fun c => absurd rc_4 c) (fun _ => ?_)
  refine bL_isRefused_887 (by (try rw [e30]); (try rw [e7]); (try rw [e3]); (try rw [hm0]); (try rw [hm1]); (try rw [hm2]); (try rw [hm3]); exact r_16 ok g0 W (by omega) (he0_33 hj hu hw d n9 w20 m10 p0 pl d9) (by decide)) ?_ -- 33 watch 5 10000 5
  rintro H _ ⟨W, rfl⟩
  refine bL_isRefused_901 (fun c => absurd rc_5 c) (fun _ => ?_)
  refine bL_isRefused_906 (fun _ => ?_) (fun c => absurd rfl c)
  refine bL_isRefused_923 (X_atom (j := 0) W (by decide)) (rf_in (k := 1) (n := 5) (by omega) (by omega)) ?_
  refine bL_isRefused_926 (by (try rw [e30]); (try rw [e7]); (try rw [e3]); (try rw [hm0]); (try rw [hm1]); (try rw [hm2]); (try rw [hm3]); exact r_17 ok g0 W (by omega) (he0_34 hj hu hw d n9 w20 m10 p0 pl d9) (by decide)) ?_ -- 34 fired (nI (g_WT M).length)
  rintro H _ ⟨W, rfl⟩
  refine bL_isRefused_934 (fun c => absurd rc_3 c) (fun _ => ?_)
  refine bL_isRefused_939 (by (try rw [e30]); (try rw [e7]); (try rw [e3]); (try rw [hm0]); (try rw [hm1]); (try rw [hm2]); (try rw [hm3]); exact r_18 ok g0 W (by omega) (he0_35 hj hu hw d n9 w20 m10 p0 pl d9) (by decide)) ?_ -- 35 offer (4 + nI j) (-1)
  rintro H _ ⟨W, rfl⟩
  refine bL_isRefused_952 (fun c => absurd rc_1 c) (fun _ => ?_)
  refine bL_isRefused_957 (fun _ => ?_) (fun c => absurd rfl c)
  refine bL_isRefused_970 ?_
  refine bL_isRefused_977 (by (try rw [e30]); (try rw [e7]); (try rw [e3]); (try rw [hm0]); (try rw [hm1]); (try rw [hm2]); (try rw [hm3]); exact r_18 ok g0 W (by omega) (he0_36 hj hu hw d n9 w20 m10 p0 pl d9) (by decide)) ?_ -- 36 offer 0 (1000001 + nI j)
  rintro H _ ⟨W, rfl⟩
  refine bL_isRefused_984 (fun c => absurd rc_2 c) (fun _ => ?_)
  refine bL_isRefused_989 ?_
  refine bL_isRefused_994 (fun c => absurd c (by decide)) (fun _ => ?_)
  exact K H (lp_Xm W (by omega) (by omega))
theorem ir0_2 (ok : k_ok G l) (g0 : k_fh G = 0) {h0 : k_H} {Q : k_H → k_R → Prop} {x3 : Int32} {x7 : Int64} {j u w : Nat} (hj : j < 30) (hu : u < 7) (hw : w < 3) (e30 : x3 - (x3 / 30) * 30 = nI j) (e7 : x3 - (x3 / 7) * 7 = nI u) (e3 : x3 - (x3 / 3) * 3 = nI w) (hm0 : A 0 ((0 : Int32).toNatClampNeg) = nI (g_n M)) (hm1 : A 0 ((1 : Int32).toNatClampNeg) = nI (g_WT M).length) (hm2 : A 0 ((2 : Int32).toNatClampNeg) = nI (g_MK M).length) (hm3 : A 0 ((3 : Int32).toNatClampNeg) = nI (g_DS M).2) (d : d_ok (g_DS M)) (n9 : g_n M < 9000) (w20 : (g_WT M).length ≤ 20) (m10 : (g_MK M).length ≤ 10) (p0 : 0 < (g_PT M).length) (pl : (g_PT M).length ≤ 4096) (d9 : (g_DS M).2 < 1024) (hi : i + 5 < 512) (W : lp_X a A i q M H)
    (K : ∀ H, lp_X a A (i + 5) (q + 30) M H → k_X (jL_isRefused G l h0) H 1424 [(0, vR (some a)), (1, vR (some (a + 31 + 0))), (2, vR (some (a + 31 + 1))), (7, vJ x7)] [vI 1] Q) : k_X (jL_isRefused G l h0) H 1001 [(0, vR (some a)), (1, vR (some (a + 31 + 0))), (2, vR (some (a + 31 + 1))), (3, vI x3), (4, vI 0), (7, vJ x7)] [] Q := by
  refine bL_isRefused_1001 (fun _ => ?_) (fun c => absurd rfl c)
  refine bL_isRefused_1013 ?_
  refine bL_isRefused_1019 (by (try rw [e30]); (try rw [e7]); (try rw [e3]); (try rw [hm0]); (try rw [hm1]); (try rw [hm2]); (try rw [hm3]); exact r_19 ok g0 W (by omega) (he0_37 hj hu hw d n9 w20 m10 p0 pl d9) (by decide)) ?_ -- 37 take (3 + nI j)
  rintro H _ ⟨W, rfl⟩
  refine bL_isRefused_1027 (fun c => absurd rc_3 c) (fun _ => ?_)
  refine bL_isRefused_1032 (fun _ => ?_) (fun c => absurd rfl c)
  refine bL_isRefused_1049 ?_
  refine bL_isRefused_1050 (by (try rw [e30]); (try rw [e7]); (try rw [e3]); (try rw [hm0]); (try rw [hm1]); (try rw [hm2]); (try rw [hm3]); exact r_20 ok g0 W (by omega) (he0_38 hj hu hw d n9 w20 m10 p0 pl d9) (by decide)) ?_ -- 38 finish 3
  rintro H _ ⟨W, rfl⟩
  refine bL_isRefused_1058 (fun c => absurd rc_3 c) (fun _ => ?_)
  refine bL_isRefused_1063 (fun _ => ?_) (fun c => absurd rfl c)
  refine bL_isRefused_1075 (X_is W) (X_parts ok g0 W) ?_
  rintro H _ ⟨W, rfl⟩
  refine bL_isRefused_1079 ?_
  refine bL_isRefused_1084 (by (try rw [e30]); (try rw [e7]); (try rw [e3]); (try rw [hm0]); (try rw [hm1]); (try rw [hm2]); (try rw [hm3]); exact r_21 ok g0 W (by omega) (he0_39 hj hu hw d n9 w20 m10 p0 pl d9) (by decide)) ?_ -- 39 part (nI (g_PT M).length + nI j) 9
  rintro H _ ⟨W, rfl⟩
  refine bL_isRefused_1093 (fun c => absurd rc_1 c) (fun _ => ?_)
  refine bL_isRefused_1098 (fun _ => ?_) (fun c => absurd rfl c)
  refine bL_isRefused_1116 ?_
  refine bL_isRefused_1117 (by (try rw [e30]); (try rw [e7]); (try rw [e3]); (try rw [hm0]); (try rw [hm1]); (try rw [hm2]); (try rw [hm3]); exact r_21 ok g0 W (by omega) (he0_40 hj hu hw d n9 w20 m10 p0 pl d9) (by decide)) ?_ -- 40 part 0 5
  rintro H _ ⟨W, rfl⟩
  refine bL_isRefused_1124 (fun c => absurd rc_2 c) (fun _ => ?_)
  refine bL_isRefused_1129 (fun _ => ?_) (fun c => absurd rfl c)
  refine bL_isRefused_1141 (X_atom (j := 0) W (by decide)) (rf_in (k := 2) (n := 5) (by omega) (by omega)) ?_
  refine bL_isRefused_1149 (by (try rw [e30]); (try rw [e7]); (try rw [e3]); (try rw [hm0]); (try rw [hm1]); (try rw [hm2]); (try rw [hm3]); exact r_23 ok g0 W (by omega) (he0_41 hj hu hw d n9 w20 m10 p0 pl d9) (by decide)) ?_ -- 41 bringBack (nI (g_MK M).length + nI j)
  rintro H _ ⟨W, rfl⟩
  refine bL_isRefused_1157 (fun c => absurd rc_3 c) (fun _ => ?_)
  refine bL_isRefused_1162 (fun _ => ?_) (fun c => absurd rfl c)
  refine bL_isRefused_1174 (X_atom (j := 0) W (by decide)) (rf_in (k := 3) (n := 5) (by omega) (by omega)) ?_
  refine bL_isRefused_1182 (by (try rw [e30]); (try rw [e7]); (try rw [e3]); (try rw [hm0]); (try rw [hm1]); (try rw [hm2]); (try rw [hm3]); exact r_24 ok g0 W (by omega) (he0_42 hj hu hw d n9 w20 m10 p0 pl d9) (by decide)) ?_ -- 42 directory (nI (g_DS M).2 + nI j) 0
  rintro H _ ⟨W, rfl⟩
  refine bL_isRefused_1190 (fun c => absurd rc_1 c) (fun _ => ?_)
  refine bL_isRefused_1195 (fun _ => ?_) (fun c => absurd rfl c)
  refine bL_isRefused_1213 ?_
  refine bL_isRefused_1215 (by (try rw [e30]); (try rw [e7]); (try rw [e3]); (try rw [hm0]); (try rw [hm1]); (try rw [hm2]); (try rw [hm3]); exact r_24 ok g0 W (by omega) (he0_43 hj hu hw d n9 w20 m10 p0 pl d9) (by decide)) ?_ -- 43 directory 0 10
  rintro H _ ⟨W, rfl⟩
  refine bL_isRefused_1222 (fun c => absurd rc_2 c) (fun _ => ?_)
  refine bL_isRefused_1227 (fun _ => ?_) (fun c => absurd rfl c)
  refine bL_isRefused_1239 (X_atom (j := 0) W (by decide)) (rf_in (k := 3) (n := 5) (by omega) (by omega)) ?_
  refine bL_isRefused_1242 (by (try rw [e30]); (try rw [e7]); (try rw [e3]); (try rw [hm0]); (try rw [hm1]); (try rw [hm2]); (try rw [hm3]); exact r_25 ok g0 W (by omega) (he0_44 hj hu hw d n9 w20 m10 p0 pl d9) (by decide)) ?_ -- 44 remove (nI (g_DS M).2)
  rintro H _ ⟨W, rfl⟩
  refine bL_isRefused_1250 (fun c => absurd rc_3 c) (fun _ => ?_)
  refine bL_isRefused_1255 (by (try rw [e30]); (try rw [e7]); (try rw [e3]); (try rw [hm0]); (try rw [hm1]); (try rw [hm2]); (try rw [hm3]); exact r_25 ok g0 W (by omega) (he0_45 hj hu hw d n9 w20 m10 p0 pl d9) (by decide)) ?_ -- 45 remove 0
  rintro H _ ⟨W, rfl⟩
  refine bL_isRefused_1267 (fun c => absurd rc_6 c) (fun _ => ?_)
  refine bL_isRefused_1272 (fun _ => ?_) (fun c => absurd rfl c)
  refine bL_isRefused_1284 (X_atom (j := 0) W (by decide)) (rf_in (k := 3) (n := 5) (by omega) (by omega)) ?_
  refine bL_isRefused_1292 (by (try rw [e30]); (try rw [e7]); (try rw [e3]); (try rw [hm0]); (try rw [hm1]); (try rw [hm2]); (try rw [hm3]); exact r_26 ok g0 W (by omega) (he0_46 hj hu hw d n9 w20 m10 p0 pl d9) (by decide)) ?_ -- 46 shortName (nI (g_DS M).2 + nI j)
  rintro H _ ⟨W, rfl⟩
  refine bL_isRefused_1300 (fun c => absurd rc_3 c) (fun _ => ?_)
  refine bL_isRefused_1305 (fun _ => ?_) (fun c => absurd rfl c)
  refine bL_isRefused_1318 ?_
  refine bL_isRefused_1325 (by (try rw [e30]); (try rw [e7]); (try rw [e3]); (try rw [hm0]); (try rw [hm1]); (try rw [hm2]); (try rw [hm3]); exact r_27 ok g0 W (by omega) (he0_47 hj hu hw d n9 w20 m10 p0 pl d9) (by decide)) ?_ -- 47 named 0 (10 + nI j)
  rintro H _ ⟨W, rfl⟩
  refine bL_isRefused_1332 (fun c => absurd rc_2 c) (fun _ => ?_)
  refine bL_isRefused_1337 (fun _ => ?_) (fun c => absurd rfl c)
  refine bL_isRefused_1347 (X_atom (j := 0) W (by decide)) (rf_in (k := 3) (n := 5) (by omega) (by omega)) ?_
  refine bL_isRefused_1350 (by (try rw [e30]); (try rw [e7]); (try rw [e3]); (try rw [hm0]); (try rw [hm1]); (try rw [hm2]); (try rw [hm3]); exact r_s ok g0 W (by omega) (he0_48 hj hu hw d n9 w20 m10 p0 pl d9) (by decide)) ?_ -- 48 move (nI (g_DS M).2) 0 99
  rintro H _ ⟨W, rfl⟩
  refine bL_isRefused_1356 (fun c => absurd rc_1 c) (fun _ => ?_)
  refine bL_isRefused_1361 (fun _ => ?_) (fun c => absurd rfl c)
  refine bL_isRefused_1372 (X_atom (j := 0) W (by decide)) (rf_in (k := 3) (n := 5) (by omega) (by omega)) ?_
  refine bL_isRefused_1375 (by (try rw [e30]); (try rw [e7]); (try rw [e3]); (try rw [hm0]); (try rw [hm1]); (try rw [hm2]); (try rw [hm3]); exact r_s ok g0 W (by omega) (he0_49 hj hu hw d n9 w20 m10 p0 pl d9) (by decide)) ?_ -- 49 move 0 (nI (g_DS M).2) 99
  rintro H _ ⟨W, rfl⟩
  refine bL_isRefused_1380 (fun c => absurd rc_1 c) (fun _ => ?_)
  refine bL_isRefused_1385 (fun _ => ?_) (fun c => absurd rfl c)
  refine bL_isRefused_1397 ?_
  refine bL_isRefused_1399 (by (try rw [e30]); (try rw [e7]); (try rw [e3]); (try rw [hm0]); (try rw [hm1]); (try rw [hm2]); (try rw [hm3]); exact r_s ok g0 W (by omega) (he0_50 hj hu hw d n9 w20 m10 p0 pl d9) (by decide)) ?_ -- 50 move 0 0 10
  rintro H _ ⟨W, rfl⟩
  refine bL_isRefused_1402 (fun c => absurd rc_2 c) (fun _ => ?_)
  refine bL_isRefused_1407 (by (try rw [e30]); (try rw [e7]); (try rw [e3]); (try rw [hm0]); (try rw [hm1]); (try rw [hm2]); (try rw [hm3]); exact r_s ok g0 W (by omega) (he0_51 hj hu hw d n9 w20 m10 p0 pl d9) (by decide)) ?_ -- 51 move 0 0 5
  rintro H _ ⟨W, rfl⟩
  refine bL_isRefused_1414 (fun c => absurd rc_7 c) (fun _ => ?_)
  refine bL_isRefused_1419 ?_
  exact K H (lp_Xm W (by omega) (by omega))
end RW
