/-! .. what is read -/
section LR
variable {G : k_G} {l : Launch} {a i q n t x ka hw : Nat} {A : lp_A} {M M0 : s_M} {H : k_H} {h0 : k_H} {Q : k_H → k_R → Prop} {z9 y9 kb : Int32}
theorem rd_L5 {M' : s_M} (L : L_5 A M) (hn : g_n M' = g_n M) (e1 : (g_WT M').length = (g_WT M).length) (e2 : g_MK M' = g_MK M) (e3 : g_DS M' = g_DS M) (eo : ∀ u, ¬ u = t → g_X M' u = g_X M u) (eh : (g_X M' t).1 = (g_X M t).1) (ec : (g_X M' t).2.1 = (g_X M t).2.1) (S' : J_S (A 0 4 = 0) M') :
    L_5 (lp_set A 1 (va_up (A 1) (5 * t + 2) 1)) M' := by
  obtain ⟨Lm, Lb, Lt, S⟩ := L
  refine ⟨Lm_n Lm ?_ ?_ ?_ ?_ e1 e2 e3, fun k hk => ?_, fun k hk hkb => ?_, ?_⟩
  · rw [lq_ne (by decide), hn]; exact Lm.1
  · rw [lq_ne (by decide)]
  · rw [lq_ne (by decide)]
  · rw [lq_ne (by decide)]
  · rw [lq_eq, vu_ne (by omega)]
    by_cases h : k = t
    · rw [h, eh, ← h]; exact Lb k hk
    · rw [eo k h]; exact Lb k hk
  · rw [lq_eq]
    by_cases h : k = t
    · rw [h] at hk hkb ⊢
      rw [eh] at hkb ⊢
      rw [ec]
      obtain ⟨l1, l3, l2, l2b, l4, ld⟩ := Lt t hk hkb
      rw [vu_eq, vu_ne (show ¬ 5 * t + 1 = 5 * t + 2 by omega), vu_ne (show ¬ 5 * t + 3 = 5 * t + 2 by omega), vu_ne (show ¬ 5 * t + 4 = 5 * t + 2 by omega)]
      exact ⟨l1, l3, fun _ => rfl, Or.inr rfl, l4, ld⟩
    · rw [eo k h] at hkb ⊢
      rw [vu_ne (by omega), vu_ne (by omega), vu_ne (by omega), vu_ne (by omega)]
      exact Lt k hk hkb
  · rw [lq_ne (by decide)]; exact S'
theorem see_ok (e : J_e M) {wf : Prop} (S : J_I wf M) (ht : t < 3) {c : Nat} (hc : 121000000000 ≤ c) : ¬ o_told (g_see M t c).1 = -2000000001 ∧ ¬ o_told (g_see M t c).1 = -2000000002 ∧ ¬ o_told (g_see M t c).1 = -2000000003 := by
  have n9 := e.2.2.1
  have hr := e.2.2.2 t (by omega)
  have key : ∀ x, (g_see M t c).1 = some x → bd_ (600000 + 4 * 12) x := by
    intro x hx
    have hB := (S.1 _ hr).2.2.2
    have hc12 : (g_X M t).2.1.countP y_up ≤ 12 := (S.2.1 t ht).2.1
    have := see_B (c := c) (Or.inr hc) (g_X M t).2.1 (r_val c (g_X M t).1.2.2.1 (g_E M).2.1) false 600000 x (S.2.1 t ht).1 (by omega) (by omega) (fun w hw => bd_mono (hB c w (Or.inr hc) hw) (by omega)) hx
    exact bd_mono this (by omega)
  cases hv : (g_see M t c).1 with
  | none => exact ⟨by decide, by decide, by decide⟩
  | some x =>
    obtain ⟨b1, b2⟩ := key x hv
    have f : ∀ v : Int32, v.toInt < -1000000 → ¬ o_told (some x) = v := fun v hv z => by
      have z : x = v := z
      rw [← z] at hv
      omega
    exact ⟨f _ (by decide), f _ (by decide), f _ (by decide)⟩
theorem lc_306 {told : Int32} {M' : s_M} {H1 : k_H} (hi : i + 2 < 512) (L : L_5 A M) (Lw : L_w A M) (ht : t < 3) (hx : x < 2 ^ 31) (hM : M0 = M) (W1 : lp_X a A (i + 2) (q + 10) M' H1)
    (R : (told = -2000000003 ∧ M' = M ∧ ((g_X M t).1.1 = false ∨ ¬ x % 3 = 0)) ∨ ((g_X M t).1.1 = true ∧ (¬ told = -2000000001 ∧ ¬ told = -2000000002 ∧ ¬ told = -2000000003) ∧ (x % 3 = 0 → ¬ told < 0) ∧ L_5 (lp_set A 1 (va_up (A 1) (5 * t + 2) 1)) M' ∧ J_r M M' ∧ (g_WT M').length = (g_WT M).length)) (K : ∀ H' A' M', lp_X a A' (i + 2) (q + 10) M' H' → L_P A M A' M' → k_X (jL_law G l h0) H' 1968 [(0, vR (some (k_sb G))), (1, vR (some a)), (2, vR (some (a + 31 + 0))), (3, vR (some (a + 31 + 1))), (4, vR (some (a + 31 + 2))), (5, vR (some (a + 31 + 3))), (6, vR (some (a + 31 + 4))), (7, vI 1), (8, vI (nI n)), (9, vI z9), (11, vI y9), (17, vI (nI (g_n M0)))] [] Q) : k_X (jL_law G l h0) H1 306 [(0, vR (some (k_sb G))), (1, vR (some a)), (2, vR (some (a + 31 + 0))), (3, vR (some (a + 31 + 1))), (4, vR (some (a + 31 + 2))), (5, vR (some (a + 31 + 3))), (6, vR (some (a + 31 + 4))), (8, vI (nI n)), (9, vI z9), (11, vI y9), (13, vI (nI (5 * t))), (14, vI (nI x)), (17, vI (nI (g_n M0)))] [vI told] Q := by
  obtain ⟨Lm, Lb, Lt, S⟩ := id L
  have e2 : nI (5 * t) + 2 = nI (5 * t + 2) := nI_add _ 2
  have r3 : nI x - (nI x / 3) * 3 = nI (x % 3) := rf_rem hx (by decide)
  refine bL_law_306 ?_
  have t0 : A 1 (nI (5 * t)).toNatClampNeg = kB (g_X M t).1.1 := by rw [tN (by omega)]; exact Lb t (by omega)
  rcases R with ⟨rfl, rfl, c⟩ | ⟨hb, ⟨n1, n2, n3⟩, nn, L2, r, ew⟩
  · have back : k_X (jL_law G l h0) H1 387 [(0, vR (some (k_sb G))), (1, vR (some a)), (2, vR (some (a + 31 + 0))), (3, vR (some (a + 31 + 1))), (4, vR (some (a + 31 + 2))), (5, vR (some (a + 31 + 3))), (6, vR (some (a + 31 + 4))), (7, vI 1), (8, vI (nI n)), (9, vI z9), (11, vI y9), (13, vI (nI (5 * t))), (17, vI (nI (g_n M0)))] [vI (nI (5 * t + 2)), vR (some (a + 31 + 1))] Q := by
      refine bL_law_387 (X_atom (j := 1) W1 (by decide)) (by rw [e2]; exact in_20 (by omega)) ?_
      rw [e2, tN (by omega)]
      refine bL_law_393 (X_atom (j := 1) W1 (by decide)) (in_20 (by omega)) ?_
      rw [tN (by omega)]
      have W2 := X_put (j := 1) (f := va_up (A 1) (5 * t + 2) (A 1 (5 * t + 2))) W1 (by decide)
      refine bL_law_394 (K _ _ _ W2 ?_)
      rw [vu_same, lq_same]
      exact LP_0 Lw L
    have fin : k_X (jL_law G l h0) H1 361 [(0, vR (some (k_sb G))), (1, vR (some a)), (2, vR (some (a + 31 + 0))), (3, vR (some (a + 31 + 1))), (4, vR (some (a + 31 + 2))), (5, vR (some (a + 31 + 3))), (6, vR (some (a + 31 + 4))), (8, vI (nI n)), (9, vI z9), (11, vI y9), (13, vI (nI (5 * t))), (17, vI (nI (g_n M0))), (18, vI (-2000000003))] [vI 1] Q := by
      refine bL_law_361 (bL_law_363 (X_atom (j := 1) W1 (by decide)) (in_20 (by omega)) (fun _ => ?_) (fun _ => bL_law_376 (fun _ => ?_) (fun z => absurd rfl z)))
      · rw [e2]; exact back
      · rw [e2]; exact back
    refine bL_law_308 (X_atom (j := 1) W1 (by decide)) (in_20 (by omega)) (fun z => bL_law_330 (fun z => absurd z (by decide)) (fun _ => bL_law_337 (fun z => absurd z (by decide)) (fun _ => bL_law_344 (fun _ => bL_law_356 fin) (fun z2 => ?_)))) (fun _ => bL_law_315 (fun z => absurd rfl z) (fun _ => bL_law_322 fin))
    rw [t0] at z
    rcases c with c | c
    · rw [c] at z; exact absurd rfl z
    · rw [r3] at z2
      exact absurd ((nI_ltI (a := 0) (by omega) (by omega)).mpr (by omega)) z2
  · have z : ¬ A 1 (nI (5 * t)).toNatClampNeg = 0 := by rw [t0, hb]; decide
    have z1 : A 1 (nI (5 * t)).toNatClampNeg = 1 := by rw [t0, hb]; rfl
    have fin : k_X (jL_law G l h0) H1 356 [(0, vR (some (k_sb G))), (1, vR (some a)), (2, vR (some (a + 31 + 0))), (3, vR (some (a + 31 + 1))), (4, vR (some (a + 31 + 2))), (5, vR (some (a + 31 + 3))), (6, vR (some (a + 31 + 4))), (8, vI (nI n)), (9, vI z9), (11, vI y9), (13, vI (nI (5 * t))), (17, vI (nI (g_n M0))), (18, vI told)] [] Q := by
      refine bL_law_356 (bL_law_361 (bL_law_363 (X_atom (j := 1) W1 (by decide)) (in_20 (by omega)) (fun q => absurd z1 q) (fun _ => bL_law_376 (fun q => absurd q n3) (fun _ => bL_law_383 ?_))))
      rw [e2]
      refine bL_law_393 (X_atom (j := 1) W1 (by decide)) (in_20 (by omega)) ?_
      rw [tN (by omega)]
      have W2 := X_put (j := 1) (f := va_up (A 1) (5 * t + 2) 1) W1 (by decide)
      exact bL_law_394 (K _ _ _ W2 (LP_of Lw L2 r (fun j hj => lq_ne (by omega)) ew))
    refine bL_law_308 (X_atom (j := 1) W1 (by decide)) (in_20 (by omega)) (fun _ => bL_law_330 (fun q => absurd q n1) (fun _ => bL_law_337 (fun q => absurd q n2) (fun _ => bL_law_344 (fun _ => fin) (fun q => bL_law_351 (fun q2 => ?_) (fun _ => fin))))) (fun q => absurd q z)
    rw [r3] at q
    refine absurd q2 (nn ?_)
    refine Classical.byContradiction fun h => q ((nI_ltI (a := 0) (by omega) (by omega)).mpr (by omega))
theorem lc_read (ok : k_ok G l) (g0 : k_fh G = 0) (W : lp_X a A i q M H) (hi : i + 2 < 512) (L : L_5 A M) (Lw : L_w A M) (ht : t < 3) (hx : x < 2 ^ 31) (hk : ka < 8) (hb : kb = 10000 ∨ kb = 0 ∨ kb = 1) (hM : M0 = M) (K : ∀ H' A' M', lp_X a A' (i + 2) (q + 10) M' H' → L_P A M A' M' → k_X (jL_law G l h0) H' 1968 [(0, vR (some (k_sb G))), (1, vR (some a)), (2, vR (some (a + 31 + 0))), (3, vR (some (a + 31 + 1))), (4, vR (some (a + 31 + 2))), (5, vR (some (a + 31 + 3))), (6, vR (some (a + 31 + 4))), (7, vI 1), (8, vI (nI n)), (9, vI z9), (11, vI y9), (17, vI (nI (g_n M0)))] [] Q) : k_X (jL_law G l h0) H 260 [(0, vR (some (k_sb G))), (1, vR (some a)), (2, vR (some (a + 31 + 0))), (3, vR (some (a + 31 + 1))), (4, vR (some (a + 31 + 2))), (5, vR (some (a + 31 + 3))), (6, vR (some (a + 31 + 4))), (8, vI (nI n)), (9, vI z9), (11, vI y9), (12, vI (nI t)), (13, vI (nI (5 * t))), (14, vI (nI x)), (15, vI (nI ka)), (16, vI kb), (17, vI (nI (g_n M0)))] [] Q := by
  obtain ⟨Lm, Lb, Lt, S⟩ := id L
  obtain ⟨k1, k2, k3, k4⟩ := kb_key hk hb
  have e := X_e W (by omega)
  have r3 : nI x - (nI x / 3) * 3 = nI (x % 3) := rf_rem hx (by decide)
  have d48 : nI x / 48 = nI (x / 48) := nI_div hx (by decide)
  have l48 : x / 48 < 2 ^ 31 := Nat.lt_of_le_of_lt (Nat.div_le_self _ _) hx
  have r2 : nI (x / 48) - (nI (x / 48) / 2) * 2 = nI (x / 48 % 2) := rf_rem l48 (by decide)
  have rd : ∀ {r : List (Nat × Nat × Nat)} {A' : lp_A} {i' q' : Nat} {H' : k_H}, lp_X a A' i' q' (g_rdg M t r) H' → i' < 512 → J_I (A 0 4 = 0) (g_rdg M t r) → J_k M (g_rdg M t r) → L_5 (lp_set A 1 (va_up (A 1) (5 * t + 2) 1)) (g_rdg M t r) ∧ J_r M (g_rdg M t r) := by
    intro r A' i' q' H' W' hi' JI JK
    obtain ⟨s1, s2⟩ := J_step W (by omega) W' hi' S JI JK S.2.2.1
    refine ⟨rd_L5 L rfl rfl rfl rfl (fun u hu => if_neg hu) ?_ ?_ s1, s2⟩
    · show (g_X (g_tx M t _) t).1 = _; rw [tx_at]
    · show (g_X (g_tx M t _) t).2.1 = _; rw [tx_at]
  refine bL_law_260 (fun c => bL_law_290 (a_1 ok g0 W (by omega)) ?_) (fun c => bL_law_267 (by rw [d48, r2]; exact a_2 ok g0 W (by omega)) ?_)
  · have c3 : ¬ x % 3 = 0 := fun z => c (by rw [r3, z]; rfl)
    rintro H1 _ ⟨W1, rfl⟩
    have JI : J_I (A 0 4 = 0) (F_get M (nI t) (nI ka) kb 10000 (decide ((1 : Int32) = 1))).1 := JI_get S.1
    have JK : J_k M (F_get M (nI t) (nI ka) kb 10000 (decide ((1 : Int32) = 1))).1 := Jk_get
    cases hbg : (g_X M t).1.1 with
    | false =>
      have F : F_get M (nI t) (nI ka) kb 10000 (decide ((1 : Int32) = 1)) = (M, 3, 0) := by
        unfold F_get
        rw [if_neg (in_4 (by omega)), if_neg (by rw [k1]; decide), t_nI (by omega), if_pos hbg]
      rw [F] at W1 ⊢
      rw [code_x (by decide), rc_7]
      exact lc_306 hi L Lw ht hx hM (lp_Xm W1 (by omega) (by omega)) (Or.inl ⟨rfl, rfl, Or.inl hbg⟩) K
    | true =>
      by_cases cs : (g_see M t (s_cd (nI ka) kb 10000)).2 = true
      · have F : F_get M (nI t) (nI ka) kb 10000 (decide ((1 : Int32) = 1)) = (M, 3, 0) := by
          unfold F_get
          rw [if_neg (in_4 (by omega)), if_neg (by rw [k1]; decide), t_nI (by omega), if_neg (by rw [hbg]; decide), if_pos cs]
        rw [F] at W1 ⊢
        rw [code_x (by decide), rc_7]
        exact lc_306 hi L Lw ht hx hM (lp_Xm W1 (by omega) (by omega)) (Or.inl ⟨rfl, rfl, Or.inr c3⟩) K
      · have F : F_get M (nI t) (nI ka) kb 10000 (decide ((1 : Int32) = 1)) = (g_rdg M t (s_rdk (decide ((1 : Int32) = 1)) (g_X M t).2.1 (g_X M t).2.2 (s_cd (nI ka) kb 10000) (g_ser M)), 0, o_told (g_see M t (s_cd (nI ka) kb 10000)).1) := by
          unfold F_get
          rw [if_neg (in_4 (by omega)), if_neg (by rw [k1]; decide), t_nI (by omega), if_neg (by rw [hbg]; decide), if_neg cs]
        have hc : 121000000000 ≤ s_cd (nI ka) kb 10000 := by
          rcases hb with rfl | rfl | rfl
          · exact (by decide +kernel : ∀ k, k < 8 → 121000000000 ≤ s_cd (nI k) 10000 10000) ka hk
          · exact (by decide +kernel : ∀ k, k < 8 → 121000000000 ≤ s_cd (nI k) 0 10000) ka hk
          · exact (by decide +kernel : ∀ k, k < 8 → 121000000000 ≤ s_cd (nI k) 1 10000) ka hk
        rw [F] at W1 JI JK ⊢
        rw [code_0]
        obtain ⟨L2, r⟩ := rd W1 (by omega) JI JK
        exact lc_306 hi L Lw ht hx hM (lp_Xm W1 (by omega) (by omega)) (Or.inr ⟨hbg, see_ok e S.1 ht hc, fun z => absurd z c3, L2, r, rfl⟩) K
  · have c3 : x % 3 = 0 := by
      rw [r3] at c
      exact (nI_eq (b := 0) (by omega) (by omega)).mp c
    rintro H1 _ ⟨W1, rfl⟩
    have JI : J_I (A 0 4 = 0) (F_range M (nI t) (nI ka) kb (decide (nI (x / 48 % 2) = 1))).1 := JI_range S.1
    have JK : J_k M (F_range M (nI t) (nI ka) kb (decide (nI (x / 48 % 2) = 1))).1 := Jk_range
    refine bL_law_287 ?_
    cases hbg : (g_X M t).1.1 with
    | false =>
      have F : F_range M (nI t) (nI ka) kb (decide (nI (x / 48 % 2) = 1)) = (M, 3, 0) := by
        unfold F_range
        rw [if_neg (in_4 (by omega)), if_neg (by rw [k2]; decide), t_nI (by omega), if_pos hbg]
      rw [F] at W1 ⊢
      rw [code_x (by decide), rc_7]
      exact lc_306 hi L Lw ht hx hM (lp_Xm W1 (by omega) (by omega)) (Or.inl ⟨rfl, rfl, Or.inl hbg⟩) K
    | true =>
      have lim : (g_E M).1.length ≤ 12000 := by
        obtain ⟨i', N, w, h, I⟩ := X_I W
        exact (lp_env I (by omega)).1.1.1
      have F : ∃ m, m ≤ 12000 ∧ F_range M (nI t) (nI ka) kb (decide (nI (x / 48 % 2) = 1)) = (if decide (nI (x / 48 % 2) = 1) = true then g_rdg M t ((g_X M t).2.2 ++ [(s_lo (nI ka) kb, s_la (nI ka) kb + 1, g_ser M)]) else M, 0, nI m) := by
        refine ⟨(g_rng M t (s_lo (nI ka) kb) (s_la (nI ka) kb + 1)).length, Nat.le_trans (List.length_filter_le _ _) lim, ?_⟩
        unfold F_range
        rw [if_neg (in_4 (by omega)), if_neg (by rw [k2]; decide), t_nI (by omega), if_neg (by rw [hbg]; decide)]
      obtain ⟨m, hm, F⟩ := F
      rw [F] at W1 JI JK ⊢
      rw [code_0]
      have neg : ∀ v : Int32, v.toInt < 0 → ¬ nI m = v := fun v hv z => by
        rw [← z, nI_toInt (by omega)] at hv
        omega
      by_cases cc : decide (nI (x / 48 % 2) = 1) = true
      · rw [if_pos cc] at W1 JI JK
        obtain ⟨L2, r⟩ := rd W1 (by omega) JI JK
        exact lc_306 hi L Lw ht hx hM (lp_Xm W1 (by omega) (by omega)) (Or.inr ⟨hbg, ⟨neg _ (by decide), neg _ (by decide), neg _ (by decide)⟩, fun _ => nI_pos (by omega), L2, r, rfl⟩) K
      · rw [if_neg cc] at W1
        exact lc_306 hi L Lw ht hx hM (lp_Xm W1 (by omega) (by omega)) (Or.inr ⟨hbg, ⟨neg _ (by decide), neg _ (by decide), neg _ (by decide)⟩, fun _ => nI_pos (by omega), rd_L5 L rfl rfl rfl rfl (fun _ _ => rfl) rfl rfl S, Jr_0 M, rfl⟩) K
end LR
