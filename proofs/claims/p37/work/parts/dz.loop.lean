/-! A TURN'S END, AND THE LOOP -/
section LZ2
variable {G : k_G} {l : Launch} {a i q n t x ka hw : Nat} {A : lp_A} {M M0 : s_M} {H : k_H} {h0 : k_H} {Q : k_H → k_R → Prop} {z9 y9 kb : Int32}
theorem L5_row {A' : lp_A} (L : L_5 A M) (h0 : A' 0 = A 0) (h1 : A' 1 = A 1) : L_5 A' M := by
  obtain ⟨Lm, Lb, Lt, S⟩ := L
  exact ⟨Lm_n Lm (by rw [h0]; exact Lm.1) (by rw [h0]) (by rw [h0]) (by rw [h0]) rfl rfl rfl, Lb_X Lb h1 rfl, Lt_X Lt h1 rfl, by rw [h0]; exact S⟩
theorem lc_last {zz y : Nat} (ok : k_ok G l) (g0 : k_fh G = 0) (W : lp_X a A i q M H) (hi : i < 512) (hi2 : n % 40 = 0 → i + 21 < 512) (hn : n < 110) (hz : zz < 2 ^ 31) (hy : y < 2 ^ 31) (L : L_5 A M) (Lw : L_w A M) (Lh : L_h A M n)
    (K : ∀ H' A' i', lp_X a A' i' (q + 320) M H' → (i' = i ∨ (n % 40 = 0 ∧ i' = i + 21)) → L_5 A' M → L_w A' M → L_h A' M (n + 1) → k_X (jL_law G l h0) H' 92 [(0, vR (some (k_sb G))), (1, vR (some a)), (2, vR (some (a + 31 + 0))), (3, vR (some (a + 31 + 1))), (4, vR (some (a + 31 + 2))), (5, vR (some (a + 31 + 3))), (6, vR (some (a + 31 + 4))), (7, vI 1), (8, vI (nI (n + 1)))] [] Q) : k_X (jL_law G l h0) H 2205 [(0, vR (some (k_sb G))), (1, vR (some a)), (2, vR (some (a + 31 + 0))), (3, vR (some (a + 31 + 1))), (4, vR (some (a + 31 + 2))), (5, vR (some (a + 31 + 3))), (6, vR (some (a + 31 + 4))), (7, vI 1), (8, vI (nI n)), (9, vI (nI zz)), (11, vI (nI y)), (18, vI (nI (3 * (n % 20))))] [] Q := by
  have hs : n % 20 < 20 := Nat.mod_lt _ (by omega)
  generalize hS : n % 20 = s at hs
  have n9 := (X_e W hi).2.2.1
  have m0 : A 0 ((0 : Int32).toNatClampNeg) = nI (g_n M) := L.1.1
  have e1 : nI (3 * s) + 1 = nI (3 * s + 1) := nI_add _ 1
  have e2 : nI (3 * s) + 2 = nI (3 * s + 2) := nI_add _ 2
  have l2 : y / 2 < 2 ^ 31 := Nat.lt_of_le_of_lt (Nat.div_le_self _ _) hy
  have d2 : nI y / 2 = nI (y / 2) := nI_div hy (by decide)
  have r12 : nI (y / 2) - (nI (y / 2) / 12) * 12 = nI (y / 2 % 12) := rf_rem l2 (by decide)
  have r8 : nI (y / 2) - (nI (y / 2) / 8) * 8 = nI (y / 2 % 8) := rf_rem l2 (by decide)
  have d3 : nI zz / 3 = nI (zz / 3) := nI_div hz (by decide)
  have r40 : nI n - (nI n / 40) * 40 = nI (n % 40) := rf_rem (by omega) (by decide)
  refine bL_law_2205 (X_atom (j := 0) W (by decide)) (in_5 (k := 0) (by omega)) (X_atom (j := 2) W (by decide)) (in_60 (by omega)) ?_
  rw [tN (by omega), m0]
  have W2 := X_put (j := 2) (f := va_up (A 2) (3 * s) (nI (g_n M))) W (by decide)
  have go : ∀ key : Nat, key < 1000 → k_X (jL_law G l h0) (k_up H (a + 31 + 2) (k_i (lp_sz 2) (va_up (A 2) (3 * s) (nI (g_n M))))) 2246 [(0, vR (some (k_sb G))), (1, vR (some a)), (2, vR (some (a + 31 + 0))), (3, vR (some (a + 31 + 1))), (4, vR (some (a + 31 + 2))), (5, vR (some (a + 31 + 3))), (6, vR (some (a + 31 + 4))), (7, vI 1), (8, vI (nI n)), (9, vI (nI zz)), (18, vI (nI (3 * s)))] [vI (nI key), vI (nI (3 * s + 1)), vR (some (a + 31 + 2))] Q := by
    intro key hkey
    refine bL_law_2246 (X_atom (j := 2) W2 (by decide)) (in_60 (by omega)) ?_
    rw [tN (by omega), lq_eq]
    have W3 := X_put (j := 2) (f := va_up (va_up (A 2) (3 * s) (nI (g_n M))) (3 * s + 1) (nI key)) W2 (by decide)
    rw [lq_twice] at W3
    refine bL_law_2247 (X_atom (j := 0) W3 (by decide)) (in_5 (k := 0) (by omega)) (X_atom (j := 2) W3 (by decide)) (by rw [e1]; exact in_60 (by omega)) (by rw [e1, tN (by omega), lq_eq, vu_eq, lq_ne (by decide), m0]; exact X_was ok g0 W3 hi (Nat.le_refl _) hkey) ?_
    rintro H4 _ ⟨W4, rfl⟩
    rw [e2]
    refine bL_law_2267 (X_atom (j := 2) W4 (by decide)) (in_60 (by omega)) ?_
    rw [tN (by omega), lq_eq]
    have W5 := X_put (j := 2) (f := va_up (va_up (va_up (A 2) (3 * s) (nI (g_n M))) (3 * s + 1) (nI key)) (3 * s + 2) (o_told (g_U M (g_n M) (h_c key)))) W4 (by decide)
    rw [lq_twice] at W5
    have L' : L_5 (lp_set A 2 (va_up (va_up (va_up (A 2) (3 * s) (nI (g_n M))) (3 * s + 1) (nI key)) (3 * s + 2) (o_told (g_U M (g_n M) (h_c key))))) M := L5_row L (lq_ne (by decide)) (lq_ne (by decide))
    have Lw' : L_w (lp_set A 2 (va_up (va_up (va_up (A 2) (3 * s) (nI (g_n M))) (3 * s + 1) (nI key)) (3 * s + 2) (o_told (g_U M (g_n M) (h_c key))))) M := fun k w hw => by
      rw [lq_ne (by decide), lq_ne (by decide)]
      exact Lw k w hw
    have Lh' : L_h (lp_set A 2 (va_up (va_up (va_up (A 2) (3 * s) (nI (g_n M))) (3 * s + 1) (nI key)) (3 * s + 2) (o_told (g_U M (g_n M) (h_c key))))) M (n + 1) := by
      intro j hj hjn
      rw [lq_eq]
      by_cases h : j = s
      · rw [h]
        refine ⟨g_n M, key, Nat.le_refl _, hkey, ?_, ?_, ?_⟩
        · rw [vu_ne (by omega), vu_ne (by omega), vu_eq]
        · rw [vu_ne (by omega), vu_eq]
        · rw [vu_eq]
      · obtain ⟨v, y', a1, a2, a3, a4, a5⟩ := Lh j hj (by omega)
        refine ⟨v, y', a1, a2, ?_, ?_, ?_⟩
        · rw [vu_ne (by omega), vu_ne (by omega), vu_ne (by omega)]; exact a3
        · rw [vu_ne (by omega), vu_ne (by omega), vu_ne (by omega)]; exact a4
        · rw [vu_ne (by omega), vu_ne (by omega), vu_ne (by omega)]; exact a5
    generalize lp_set A 2 (va_up (va_up (va_up (A 2) (3 * s) (nI (g_n M))) (3 * s + 1) (nI key)) (3 * s + 2) (o_told (g_U M (g_n M) (h_c key)))) = A' at W5 L' Lw' Lh'
    have nx : ∀ H6 i6, lp_X a A' i6 (q + 320) M H6 → (i6 = i ∨ (n % 40 = 0 ∧ i6 = i + 21)) → k_X (jL_law G l h0) H6 2294 [(0, vR (some (k_sb G))), (1, vR (some a)), (2, vR (some (a + 31 + 0))), (3, vR (some (a + 31 + 1))), (4, vR (some (a + 31 + 2))), (5, vR (some (a + 31 + 3))), (6, vR (some (a + 31 + 4))), (8, vI (nI n))] [] Q := by
      intro H6 i6 W6 h6
      refine bL_law_2294 (bL_law_2299 (bL_law_2301 ?_))
      rw [show nI n + 1 = nI (n + 1) from nI_add n 1]
      exact K H6 A' i6 W6 h6 L' Lw' Lh'
    refine bL_law_2268 (fun c => absurd c (by decide)) (fun _ => bL_law_2273 (fun _ => nx _ i (lp_Xm W5 (Nat.le_refl _) (by omega)) (Or.inl rfl)) (fun c => ?_))
    rw [r40] at c
    have h40 : n % 40 = 0 := by
      refine Classical.byContradiction fun z => c ((nI_ltI (a := 0) (by omega) (by omega)).mpr (by omega))
    refine bL_law_2281 (by rw [d3]; exact X_isRefused ok g0 W5 (hi2 h40) (Nat.lt_of_le_of_lt (Nat.div_le_self _ _) hz) L'.1 L'.2.1) ?_
    rintro H6 _ ⟨W6, rfl⟩
    exact bL_law_2291 (fun c => absurd c (by decide)) (fun _ => nx H6 _ (lp_Xm W6 (Nat.le_refl _) (by omega)) (Or.inr ⟨h40, rfl⟩))
  refine bL_law_2213 (fun _ => bL_law_2236 ?_) (fun _ => bL_law_2226 ?_)
  · have h8 : y / 2 % 8 < 8 := Nat.mod_lt _ (by omega)
    rw [d2, r8, e1, show (100 : Int32) + nI (y / 2 % 8) = nI (100 + y / 2 % 8) from nI_add 100 _]
    exact go _ (by omega)
  · have h12 : y / 2 % 12 < 12 := Nat.mod_lt _ (by omega)
    rw [d2, r12, e1]
    exact go _ (by omega)
theorem lc_tail {zz y : Nat} (ok : k_ok G l) (g0 : k_fh G = 0) (hn : n < 110) (W : lp_X a A (T_i n + 2) (T_q n + 10) M H) (L : L_5 A M) (Lp : ∃ Mp, L_w A Mp ∧ J_r Mp M ∧ (g_WT Mp).length = (g_WT M).length) (Lh : L_h A M n) (h3 : (g_X M 3).1.1 = true) (hz : zz < 2 ^ 31) (hy : y < 2 ^ 31) (hM : g_n M0 ≤ g_n M)
    (K : ∀ H' A' M', lp_X a A' (T_i (n + 1)) (T_q (n + 1)) M' H' → L_5 A' M' → L_w A' M' → L_h A' M' (n + 1) → (g_X M' 3).1.1 = true → k_X (jL_law G l h0) H' 92 [(0, vR (some (k_sb G))), (1, vR (some a)), (2, vR (some (a + 31 + 0))), (3, vR (some (a + 31 + 1))), (4, vR (some (a + 31 + 2))), (5, vR (some (a + 31 + 3))), (6, vR (some (a + 31 + 4))), (7, vI 1), (8, vI (nI (n + 1)))] [] Q) : k_X (jL_law G l h0) H 1968 [(0, vR (some (k_sb G))), (1, vR (some a)), (2, vR (some (a + 31 + 0))), (3, vR (some (a + 31 + 1))), (4, vR (some (a + 31 + 2))), (5, vR (some (a + 31 + 3))), (6, vR (some (a + 31 + 4))), (7, vI 1), (8, vI (nI n)), (9, vI (nI zz)), (11, vI (nI y)), (17, vI (nI (g_n M0)))] [] Q := by
  have t0 : T_i n = 64 + 2 * n + 2 * ((n + 2) / 3) + 21 * ((n + 39) / 40) := rfl
  have t1 : T_i (n + 1) = 64 + 2 * (n + 1) + 2 * ((n + 1 + 2) / 3) + 21 * ((n + 1 + 39) / 40) := rfl
  have q0 : T_q n = 2000 + 600 * n := rfl
  have q1 : T_q (n + 1) = 2000 + 600 * (n + 1) := rfl
  have e := X_e W (by omega)
  have n9 := e.2.2.1
  have m0 : A 0 ((0 : Int32).toNatClampNeg) = nI (g_n M) := L.1.1
  have r3 : nI n - (nI n / 3) * 3 = nI (n % 3) := rf_rem (by omega) (by decide)
  have r20 : nI n - (nI n / 20) * 20 = nI (n % 20) := rf_rem (by omega) (by decide)
  have r100 : nI y - (nI y / 100) * 100 = nI (y % 100) := rf_rem hy (by decide)
  obtain ⟨Mp, Lp, r, el⟩ := Lp
  have p2031 : ∀ (M2 : s_M) (H2 : k_H) (i2 : Nat), lp_X a A i2 (T_q n + 220) M2 H2 → (i2 ≤ T_i n + 2 ∨ (n % 3 = 0 ∧ i2 ≤ T_i n + 4)) → L_5 A M2 → J_r Mp M2 → (g_WT M2).length = (g_WT M).length → L_h A M2 n → (g_X M2 3).1.1 = true → k_X (jL_law G l h0) H2 2031 [(0, vR (some (k_sb G))), (1, vR (some a)), (2, vR (some (a + 31 + 0))), (3, vR (some (a + 31 + 1))), (4, vR (some (a + 31 + 2))), (5, vR (some (a + 31 + 3))), (6, vR (some (a + 31 + 4))), (8, vI (nI n)), (9, vI (nI zz)), (11, vI (nI y))] [] Q := by
    intro M2 H2 i2 W2 hi2 L2 rr el2 Lh2 h32
    have hi : i2 < 512 := by omega
    have n92 := (X_e W2 hi).2.2.1
    refine bL_law_2031 (bL_law_2036 (bL_law_2038 ?_))
    have W2' : lp_X a (lp_set A 4 (A 4)) i2 (T_q n + 220 + 0) M2 H2 := by rw [lq_same]; exact W2
    refine lc_watches ok g0 hi L2 Lp rr (by rw [el, el2]) (by omega) (fun H3 g W3 Lw3 => ?_) (g_WT M2).length 0 (A 4) H2 (Nat.zero_add _) W2' (fun j w _ => (if_neg (Nat.not_lt_zero _)).symm)
    refine bL_law_2135 ?_
    rw [r20, show (3 : Int32) * nI (n % 20) = nI (3 * (n % 20)) from rf_mul 3 _]
    refine bL_law_2144 ?_
    have L3 : L_5 (lp_set A 4 g) M2 := L5_row L2 (lq_ne (by decide)) (lq_ne (by decide))
    have Lh3 : L_h (lp_set A 4 g) M2 n := fun s a1 a2 => by rw [lq_ne (by decide)]; exact Lh2 s a1 a2
    refine lc_hist ok g0 hi Lh3 hn (fun H4 W4 => ?_) 20 0 H3 (Nat.zero_add _) W3
    refine lc_last ok g0 W4 hi (fun h40 => by omega) hn hz hy L3 Lw3 Lh3 (fun H5 A5 i5 W5 h5 L5 Lw5 Lh5 => K H5 A5 M2 (lp_Xm W5 ?_ (by omega)) L5 Lw5 Lh5 h32)
    have k1 : (n + 2) / 3 ≤ (n + 1 + 2) / 3 := Nat.div_le_div_right (by omega)
    have k2 : (n + 39) / 40 ≤ (n + 1 + 39) / 40 := Nat.div_le_div_right (by omega)
    have k3 : n % 3 = 0 → (n + 1 + 2) / 3 = (n + 2) / 3 + 1 := fun h => by omega
    have k4 : n % 40 = 0 → (n + 1 + 39) / 40 = (n + 39) / 40 + 1 := fun h => by omega
    have hi3 : i2 + 2 * ((n + 2) / 3) ≤ T_i n + 2 + 2 * ((n + 1 + 2) / 3) := by
      rcases hi2 with h | ⟨h, h'⟩
      · omega
      · have := k3 h
        omega
    rcases h5 with h5 | ⟨h40, h5⟩
    · omega
    · have := k4 h40
      omega
  refine bL_law_1968 (fun c => absurd c (by decide)) (fun _ => bL_law_1973 (X_is W) (X_version ok g0 W (by omega)) ?_)
  rintro H1 _ ⟨W1, rfl⟩
  refine bL_law_1977 (X_atom (j := 0) W1 (by decide)) (in_5 (k := 0) (by omega)) (fun c => absurd m0.symm c) (fun _ => bL_law_1983 (X_atom (j := 0) W1 (by decide)) (in_5 (k := 0) (by omega)) (fun c => ?_) (fun _ => bL_law_1991 (fun _ => p2031 M H1 _ (lp_Xm W1 (Nat.le_refl _) (by omega)) (Or.inl (Nat.le_refl _)) L r rfl Lh h3) (fun c => bL_law_1998 (X_areParted ok g0 W1 (by omega) L.2.2.2.2.1 L.2.2.2.2.2) ?_)))
  · rw [m0] at c
    have := (nI_ltI (by omega) (by omega)).mp c
    omega
  rw [r3] at c
  have h30 : n % 3 = 0 := by
    refine Classical.byContradiction fun z => c ((nI_ltI (a := 0) (by omega) (by omega)).mpr (by omega))
  rintro H2 _ ⟨⟨r1, W2⟩, rfl⟩
  have L2 : L_5 A (m_3 M r1) := m3_L5 L h3
  have fin : ∀ (sure : Bool), (sure = true → A 0 4 = 0) → k_X (jL_law G l h0) H2 2025 [(0, vR (some (k_sb G))), (1, vR (some a)), (2, vR (some (a + 31 + 0))), (3, vR (some (a + 31 + 1))), (4, vR (some (a + 31 + 2))), (5, vR (some (a + 31 + 3))), (6, vR (some (a + 31 + 4))), (8, vI (nI n)), (9, vI (nI zz)), (11, vI (nI y))] [vI (kB sure), vI (nI (y % 100)), vI (nI (g_n M)), vR (some a)] Q := by
    intro sure hs
    refine bL_law_2025 (X_areIndexed ok g0 W2 (by omega) L2.2.2.2.1 (Nat.mod_lt _ (by omega)) hs) ?_
    rintro H3 _ ⟨⟨r2, W3⟩, rfl⟩
    refine bL_law_2028 (fun c => absurd c (by decide)) (fun _ => p2031 (m_3 (m_3 M r1) r2) H3 _ (lp_Xm W3 (Nat.le_refl _) (by omega)) (Or.inr ⟨h30, by omega⟩) (m3_L5 L2 (by rw [m3_X])) r rfl Lh (by rw [m3_X]))
  refine bL_law_2002 (fun c => absurd c (by decide)) (fun _ => bL_law_2005 (X_atom (j := 0) W2 (by decide)) (in_5 (k := 0) (by omega)) (in_5 (k := 4) (by omega)) (fun c => ?_) (fun c => ?_))
  · rw [m0, r100]
    exact bL_law_2024 (fin false (fun z => by cases z))
  · rw [m0, r100]
    exact bL_law_2020 (fin true (fun _ => c))
/-- THE LOOP of a hundred and ten turns -/
theorem lc_loop (ok : k_ok G l) (g0 : k_fh G = 0) (hL : k_sL G < 2 ^ 31) (K : ∀ H' A' M', lp_X a A' (T_i 110) (T_q 110) M' H' → Q H' (.inl (some (vI 1)))) :
    ∀ (d n : Nat) (A : lp_A) (M : s_M) (H : k_H), n + d = 110 → lp_X a A (T_i n) (T_q n) M H → L_5 A M → L_w A M → L_h A M n → (g_X M 3).1.1 = true → k_X (jL_law G l h0) H 92 [(0, vR (some (k_sb G))), (1, vR (some a)), (2, vR (some (a + 31 + 0))), (3, vR (some (a + 31 + 1))), (4, vR (some (a + 31 + 2))), (5, vR (some (a + 31 + 3))), (6, vR (some (a + 31 + 4))), (7, vI 1), (8, vI (nI n))] [] Q := by
  intro d
  induction d with
  | zero =>
    intro n A M H hn W L Lw Lh h3
    have en : n = 110 := by omega
    subst en
    exact bL_law_92 (fun _ => bL_law_2307 (Or.inr rfl) (K H A M W)) (fun c => absurd (by decide) c)
  | succ d ih =>
    intro n A M H hn W L Lw Lh h3
    have t0 : T_i n = 64 + 2 * n + 2 * ((n + 2) / 3) + 21 * ((n + 39) / 40) := rfl
    refine bL_law_92 (fun c => absurd ((nI_leI (a := 110) (by omega) (by omega)).mp c) (by omega)) (fun _ => bL_law_99 (fun c => absurd c (by decide)) (fun _ => bL_law_104 (t_dice ok.2 (by omega) hL) ?_))
    rintro _ _ ⟨rfl, zz, hz, rfl⟩
    refine lc_dice (M0 := M) ok g0 W (by omega) L Lw hz rfl (fun H2 A2 M2 W2 P2 => ?_)
    obtain ⟨L2, r2, ⟨h2, h15⟩, Lp2⟩ := P2
    have h32 : (g_X M2 3).1.1 = true := by
      have b2 := L2.2.1 3 (by omega)
      have b1 := L.2.1 3 (by omega)
      rw [h3] at b1
      have b2 : A2 1 15 = kB (g_X M2 3).1.1 := b2
      have b1 : A 1 15 = kB true := b1
      cases h : (g_X M2 3).1.1 with
      | true => rfl
      | false =>
        rw [h, h15, b1] at b2
        exact absurd b2 (by decide)
    have Lh2 : L_h A2 M2 n := fun s a1 a2 => by
      obtain ⟨v, y, c1, c2, c3, c4, c5⟩ := Lh s a1 a2
      rw [h2]
      refine ⟨v, y, Nat.le_trans c1 r2.1, c2, c3, c4, ?_⟩
      rw [c5]
      unfold g_U
      rw [r2.2.1 v _ c1]
    exact lc_tail (M0 := M) ok g0 (by omega) W2 L2 Lp2 Lh2 h32 hz (Nat.lt_of_le_of_lt (Nat.div_le_self _ _) hz) r2.1 (fun H3 A3 M3 W3 L3 Lw3 Lh3 h33 => ih (n + 1) A3 M3 H3 (by omega) W3 L3 Lw3 Lh3 h33)
end LZ2
