/-! .. changes that are kept -/
theorem kpX_at {M : s_M} {t : Nat} {y : k_CH} : g_X (g_kp M t y) t = ((g_X M t).1, (g_X M t).2.1 ++ [y], (g_X M t).2.2) := if_pos rfl
theorem kpX_ne {M : s_M} {t k : Nat} {y : k_CH} (h : ¬ k = t) : g_X (g_kp M t y) k = g_X M k := if_neg h
section LD
variable {G : k_G} {l : Launch} {a i q n t x ka hw : Nat} {A : lp_A} {M M0 : s_M} {H : k_H} {h0 : k_H} {Q : k_H → k_R → Prop} {z9 y9 kb : Int32}
theorem kp_L5 {y : k_CH} (L : L_5 A M) (hb : (g_X M t).1.1 = true) (hl : (g_X M t).2.1.length < 12) (S' : J_S (A 0 4 = 0) (g_kp M t y)) : L_5 (lp_set A 1 (va_up (A 1) (5 * t + 3) (nI ((g_X M t).2.1.length + 1)))) (g_kp M t y) := by
  obtain ⟨Lm, Lb, Lt, S⟩ := L
  refine ⟨Lm_n Lm ?_ ?_ ?_ ?_ rfl rfl rfl, fun k hk => ?_, fun k hk hkb => ?_, ?_⟩
  · rw [lq_ne (by decide)]; exact Lm.1
  · rw [lq_ne (by decide)]
  · rw [lq_ne (by decide)]
  · rw [lq_ne (by decide)]
  · rw [lq_eq, vu_ne (by omega)]
    by_cases h : k = t
    · rw [h, kpX_at, ← h]; exact Lb k hk
    · rw [kpX_ne h]; exact Lb k hk
  · rw [lq_eq]
    by_cases h : k = t
    · rw [h] at hk ⊢
      obtain ⟨l1, l3, l2, l2b, l4, ld⟩ := Lt t hk hb
      rw [kpX_at, vu_eq, vu_ne (by omega), vu_ne (by omega), vu_ne (by omega)]
      refine ⟨l1, ?_, l2, l2b, l4, fun z => ⟨?_, (ld z).2⟩⟩
      · rw [List.length_append, List.length_singleton, Nat.min_eq_right (by omega)]
      · rw [List.length_append, List.length_singleton]; omega
    · rw [kpX_ne h] at hkb ⊢
      rw [vu_ne (by omega), vu_ne (by omega), vu_ne (by omega), vu_ne (by omega)]
      exact Lt k hk hkb
  · rw [lq_ne (by decide)]; exact S'
/-- the answer of a change, and what is kept -/
theorem lc_477 {told : Int32} {H1 : k_H} (hi : i + 2 < 512) (L : L_5 A M) (Lw : L_w A M) (ht : t < 3) (hM : M0 = M)
    (R : (told = -2000000003 ∧ ((g_X M t).1.1 = false ∨ 12 ≤ (g_X M t).2.1.length) ∧ lp_X a A (i + 2) (q + 10) M H1) ∨ (∃ y, told = nI ((g_X M t).2.1.length + 1) ∧ (g_X M t).1.1 = true ∧ (g_X M t).2.1.length < 12 ∧ lp_X a A (i + 2) (q + 10) (g_kp M t y) H1 ∧ J_S (A 0 4 = 0) (g_kp M t y) ∧ J_r M (g_kp M t y))) (K : ∀ H' A' M', lp_X a A' (i + 2) (q + 10) M' H' → L_P A M A' M' → k_X (jL_law G l h0) H' 1968 [(0, vR (some (k_sb G))), (1, vR (some a)), (2, vR (some (a + 31 + 0))), (3, vR (some (a + 31 + 1))), (4, vR (some (a + 31 + 2))), (5, vR (some (a + 31 + 3))), (6, vR (some (a + 31 + 4))), (7, vI 1), (8, vI (nI n)), (9, vI z9), (11, vI y9), (17, vI (nI (g_n M0)))] [] Q) : k_X (jL_law G l h0) H1 477 [(0, vR (some (k_sb G))), (1, vR (some a)), (2, vR (some (a + 31 + 0))), (3, vR (some (a + 31 + 1))), (4, vR (some (a + 31 + 2))), (5, vR (some (a + 31 + 3))), (6, vR (some (a + 31 + 4))), (8, vI (nI n)), (9, vI z9), (11, vI y9), (13, vI (nI (5 * t))), (17, vI (nI (g_n M0)))] [vI told] Q := by
  obtain ⟨Lm, Lb, Lt, S⟩ := id L
  have e3 : nI (5 * t) + 3 = nI (5 * t + 3) := nI_add _ 3
  refine bL_law_477 ?_
  rcases R with ⟨rfl, c, W1⟩ | ⟨y, rfl, hb, hl, W1, S', r⟩
  · have go : k_X (jL_law G l h0) H1 511 [(0, vR (some (k_sb G))), (1, vR (some a)), (2, vR (some (a + 31 + 0))), (3, vR (some (a + 31 + 1))), (4, vR (some (a + 31 + 2))), (5, vR (some (a + 31 + 3))), (6, vR (some (a + 31 + 4))), (8, vI (nI n)), (9, vI z9), (11, vI y9), (13, vI (nI (5 * t))), (17, vI (nI (g_n M0))), (19, vI (-2000000003))] [vI (-2000000003)] Q := by
      refine bL_law_511 (bL_law_513 (fun z => absurd rfl z) (fun _ => bL_law_516 (bL_law_521 (bL_law_523 (fun _ => bL_law_538 (X_atom (j := 1) W1 (by decide)) (by rw [e3]; exact in_20 (by omega)) ?_) (fun z => absurd (by decide) z)))))
      rw [e3]
      refine bL_law_544 (X_atom (j := 1) W1 (by decide)) (in_20 (by omega)) ?_
      rw [tN (by omega)]
      have W2 := X_put (j := 1) (f := va_up (A 1) (5 * t + 3) (A 1 (5 * t + 3))) W1 (by decide)
      refine bL_law_545 (K _ _ _ W2 ?_)
      rw [vu_same, lq_same]
      exact LP_0 Lw L
    refine bL_law_479 (X_atom (j := 1) W1 (by decide)) (in_20 (by omega)) (fun _ => go) (fun z => bL_law_489 (X_atom (j := 1) W1 (by decide)) (by rw [e3]; exact in_20 (by omega)) (fun _ => go) (fun z2 => ?_))
    rw [tN (by omega), Lb t (by omega)] at z
    have hb : (g_X M t).1.1 = true := by
      cases h : (g_X M t).1.1 with
      | true => rfl
      | false => rw [h] at z; exact absurd z (by decide)
    have c : 12 ≤ (g_X M t).2.1.length := by
      rcases c with c | c
      · rw [hb] at c; cases c
      · exact c
    rw [e3, tN (by omega), (Lt t ht hb).2.1, Nat.min_eq_left c] at z2
    exact absurd (by decide) z2
  · have z : A 1 (nI (5 * t)).toNatClampNeg = 1 := by rw [tN (by omega), Lb t (by omega), hb]; rfl
    have z3 : A 1 (nI (5 * t) + 3).toNatClampNeg = nI (g_X M t).2.1.length := by rw [e3, tN (by omega), (Lt t ht hb).2.1, Nat.min_eq_right (by omega)]
    refine bL_law_479 (X_atom (j := 1) W1 (by decide)) (in_20 (by omega)) (fun h => absurd z h) (fun _ => bL_law_489 (X_atom (j := 1) W1 (by decide)) (by rw [e3]; exact in_20 (by omega)) (fun h => ?_) (fun _ => bL_law_500 (X_atom (j := 1) W1 (by decide)) (by rw [e3]; exact in_20 (by omega)) (bL_law_513 (fun h => absurd ?_ h) (fun _ => bL_law_516 (bL_law_521 (bL_law_523 (fun h => absurd ((nI_leI (b := 0) (by omega) (by omega)).mp h) (by omega)) (fun _ => bL_law_533 ?_)))))))
    · rw [z3] at h
      exact absurd ((nI_leI (a := 12) (by omega) (by omega)).mp h) (by omega)
    · rw [z3]; exact (nI_add _ 1).symm
    · rw [e3]
      refine bL_law_544 (X_atom (j := 1) W1 (by decide)) (in_20 (by omega)) ?_
      rw [tN (by omega)]
      have W2 := X_put (j := 1) (f := va_up (A 1) (5 * t + 3) (nI ((g_X M t).2.1.length + 1))) W1 (by decide)
      exact bL_law_545 (K _ _ _ W2 (LP_of Lw (kp_L5 L hb hl S') r (fun j hj => lq_ne (by omega)) rfl))
/-- the answer of a change, and what is kept -/
theorem lc_1075 {told : Int32} {H1 : k_H} (hi : i + 2 < 512) (L : L_5 A M) (Lw : L_w A M) (ht : t < 3) (hM : M0 = M)
    (R : (told = -2000000003 ∧ ((g_X M t).1.1 = false ∨ 12 ≤ (g_X M t).2.1.length) ∧ lp_X a A (i + 2) (q + 10) M H1) ∨ (∃ y, told = nI ((g_X M t).2.1.length + 1) ∧ (g_X M t).1.1 = true ∧ (g_X M t).2.1.length < 12 ∧ lp_X a A (i + 2) (q + 10) (g_kp M t y) H1 ∧ J_S (A 0 4 = 0) (g_kp M t y) ∧ J_r M (g_kp M t y))) (K : ∀ H' A' M', lp_X a A' (i + 2) (q + 10) M' H' → L_P A M A' M' → k_X (jL_law G l h0) H' 1968 [(0, vR (some (k_sb G))), (1, vR (some a)), (2, vR (some (a + 31 + 0))), (3, vR (some (a + 31 + 1))), (4, vR (some (a + 31 + 2))), (5, vR (some (a + 31 + 3))), (6, vR (some (a + 31 + 4))), (7, vI 1), (8, vI (nI n)), (9, vI z9), (11, vI y9), (17, vI (nI (g_n M0)))] [] Q) : k_X (jL_law G l h0) H1 1075 [(0, vR (some (k_sb G))), (1, vR (some a)), (2, vR (some (a + 31 + 0))), (3, vR (some (a + 31 + 1))), (4, vR (some (a + 31 + 2))), (5, vR (some (a + 31 + 3))), (6, vR (some (a + 31 + 4))), (8, vI (nI n)), (9, vI z9), (11, vI y9), (13, vI (nI (5 * t))), (17, vI (nI (g_n M0)))] [vI told] Q := by
  obtain ⟨Lm, Lb, Lt, S⟩ := id L
  have e3 : nI (5 * t) + 3 = nI (5 * t + 3) := nI_add _ 3
  refine bL_law_1075 ?_
  rcases R with ⟨rfl, c, W1⟩ | ⟨y, rfl, hb, hl, W1, S', r⟩
  · have go : k_X (jL_law G l h0) H1 1109 [(0, vR (some (k_sb G))), (1, vR (some a)), (2, vR (some (a + 31 + 0))), (3, vR (some (a + 31 + 1))), (4, vR (some (a + 31 + 2))), (5, vR (some (a + 31 + 3))), (6, vR (some (a + 31 + 4))), (8, vI (nI n)), (9, vI z9), (11, vI y9), (13, vI (nI (5 * t))), (17, vI (nI (g_n M0))), (18, vI (-2000000003))] [vI (-2000000003)] Q := by
      refine bL_law_1109 (bL_law_1111 (fun z => absurd rfl z) (fun _ => bL_law_1114 (bL_law_1119 (bL_law_1121 (fun _ => bL_law_1136 (X_atom (j := 1) W1 (by decide)) (by rw [e3]; exact in_20 (by omega)) ?_) (fun z => absurd (by decide) z)))))
      rw [e3]
      refine bL_law_1142 (X_atom (j := 1) W1 (by decide)) (in_20 (by omega)) ?_
      rw [tN (by omega)]
      have W2 := X_put (j := 1) (f := va_up (A 1) (5 * t + 3) (A 1 (5 * t + 3))) W1 (by decide)
      refine bL_law_1143 (K _ _ _ W2 ?_)
      rw [vu_same, lq_same]
      exact LP_0 Lw L
    refine bL_law_1077 (X_atom (j := 1) W1 (by decide)) (in_20 (by omega)) (fun _ => go) (fun z => bL_law_1087 (X_atom (j := 1) W1 (by decide)) (by rw [e3]; exact in_20 (by omega)) (fun _ => go) (fun z2 => ?_))
    rw [tN (by omega), Lb t (by omega)] at z
    have hb : (g_X M t).1.1 = true := by
      cases h : (g_X M t).1.1 with
      | true => rfl
      | false => rw [h] at z; exact absurd z (by decide)
    have c : 12 ≤ (g_X M t).2.1.length := by
      rcases c with c | c
      · rw [hb] at c; cases c
      · exact c
    rw [e3, tN (by omega), (Lt t ht hb).2.1, Nat.min_eq_left c] at z2
    exact absurd (by decide) z2
  · have z : A 1 (nI (5 * t)).toNatClampNeg = 1 := by rw [tN (by omega), Lb t (by omega), hb]; rfl
    have z3 : A 1 (nI (5 * t) + 3).toNatClampNeg = nI (g_X M t).2.1.length := by rw [e3, tN (by omega), (Lt t ht hb).2.1, Nat.min_eq_right (by omega)]
    refine bL_law_1077 (X_atom (j := 1) W1 (by decide)) (in_20 (by omega)) (fun h => absurd z h) (fun _ => bL_law_1087 (X_atom (j := 1) W1 (by decide)) (by rw [e3]; exact in_20 (by omega)) (fun h => ?_) (fun _ => bL_law_1098 (X_atom (j := 1) W1 (by decide)) (by rw [e3]; exact in_20 (by omega)) (bL_law_1111 (fun h => absurd ?_ h) (fun _ => bL_law_1114 (bL_law_1119 (bL_law_1121 (fun h => absurd ((nI_leI (b := 0) (by omega) (by omega)).mp h) (by omega)) (fun _ => bL_law_1131 ?_)))))))
    · rw [z3] at h
      exact absurd ((nI_leI (a := 12) (by omega) (by omega)).mp h) (by omega)
    · rw [z3]; exact (nI_add _ 1).symm
    · rw [e3]
      refine bL_law_1142 (X_atom (j := 1) W1 (by decide)) (in_20 (by omega)) ?_
      rw [tN (by omega)]
      have W2 := X_put (j := 1) (f := va_up (A 1) (5 * t + 3) (nI ((g_X M t).2.1.length + 1))) W1 (by decide)
      exact bL_law_1143 (K _ _ _ W2 (LP_of Lw (kp_L5 L hb hl S') r (fun j hj => lq_ne (by omega)) rfl))
theorem sh_of {t : Nat} (h : ¬ g_shut M t = true) : (g_X M t).1.1 = true ∧ (g_X M t).2.1.length < 12 := by
  unfold g_shut at h
  cases hb : (g_X M t).1.1 with
  | false => rw [hb] at h; exact absurd rfl h
  | true =>
    rw [hb] at h
    refine ⟨rfl, ?_⟩
    by_cases c : 12 ≤ (g_X M t).2.1.length
    · rw [decide_eq_true c] at h; exact absurd rfl h
    · omega
theorem sh_to {t : Nat} (h : g_shut M t = true) : (g_X M t).1.1 = false ∨ 12 ≤ (g_X M t).2.1.length := by
  unfold g_shut at h
  cases hb : (g_X M t).1.1 with
  | false => exact Or.inl rfl
  | true =>
    rw [hb] at h
    exact Or.inr (of_decide_eq_true h)
theorem kb_key {ka : Nat} {kb : Int32} (hk : ka < 8) (hb : kb = 10000 ∨ kb = 0 ∨ kb = 1) : s_keyB (nI ka) kb 10000 = true ∧ s_rngB (nI ka) kb = true ∧ s_inB (nI ka) (-7) (-1) = false ∧ ¬ nI ka = 10000 := by
  rcases hb with rfl | rfl | rfl
  · exact (by decide +kernel : ∀ ka, ka < 8 → s_keyB (nI ka) 10000 10000 = true ∧ s_rngB (nI ka) 10000 = true ∧ s_inB (nI ka) (-7) (-1) = false ∧ ¬ nI ka = 10000) ka hk
  · exact (by decide +kernel : ∀ ka, ka < 8 → s_keyB (nI ka) 0 10000 = true ∧ s_rngB (nI ka) 0 = true ∧ s_inB (nI ka) (-7) (-1) = false ∧ ¬ nI ka = 10000) ka hk
  · exact (by decide +kernel : ∀ ka, ka < 8 → s_keyB (nI ka) 1 10000 = true ∧ s_rngB (nI ka) 1 = true ∧ s_inB (nI ka) (-7) (-1) = false ∧ ¬ nI ka = 10000) ka hk
theorem F_change_ok {t k ka : Nat} {kb v : Int32} (ht : t < 3) (hk7 : k < 7) (hv : s_inB v (-1000000) 1000000 = true) (hk : ka < 8) (hb : kb = 10000 ∨ kb = 0 ∨ kb = 1) :
    F_change M (nI t) (nI k) (nI ka) kb 10000 v = if g_shut M t = true then (M, 3, 0) else (g_kp M t (g_ser M + 1, nI k, s_cd (nI ka) kb 10000, s_cd (nI ka) kb 10000 + 1, v, if nI k = 6 then s_last kb 10000 else 0), 0, nI ((g_X M t).2.1.length + 1)) := by
  obtain ⟨k1, -, k3, -⟩ := kb_key hk hb
  have k7 : s_inB (nI k) 0 6 = true := (by decide +kernel : ∀ k, k < 7 → s_inB (nI k) 0 6 = true) k hk7
  unfold F_change
  rw [if_neg (in_4 (by omega)), k7, hv, k1, k3, Bool.or_true, if_neg (by decide), t_nI (by omega)]
theorem F_clear_ok {t ka : Nat} {kb : Int32} (ht : t < 3) (hk : ka < 8) (hb : kb = 10000 ∨ kb = 0 ∨ kb = 1) :
    F_clear M (nI t) (nI ka) kb = if g_shut M t = true then (M, 3, 0) else (g_kp M t (g_ser M + 1, 1, s_lo (nI ka) kb, s_la (nI ka) kb + 1, 0, 0), 0, nI ((g_X M t).2.1.length + 1)) := by
  obtain ⟨-, k1, k3, k4⟩ := kb_key hk hb
  unfold F_clear
  rw [if_neg (in_4 (by omega)), k1, k3, decide_eq_false k4, if_neg (by decide), t_nI (by omega)]
theorem F_offer_ok {t j : Nat} (ht : t < 3) (hj : j < 1000) :
    F_offer M (nI t) (nI j) = if g_shut M t = true then (M, 3, 0) else (g_kp M t (g_ser M + 1, 6, s_cd (-5) 0 10000, s_cd (-5) 0 10000 + 1, nI j, 1), 0, nI ((g_X M t).2.1.length + 1)) := by
  have hv : s_inB (nI j) 0 1000000 = true := by
    unfold s_inB
    rw [decide_eq_true (nI_pos (by omega)), decide_eq_true (show ¬ (1000000 : Int32) < nI j from fun z => by have := (nI_ltI (a := 1000000) (by omega) (by omega)).mp z; omega)]
    rfl
  unfold F_offer
  rw [if_neg (in_4 (by omega)), hv, if_neg (by decide), t_nI (by omega)]
/-- what a call that keeps a change answers, for lc_477 -/
theorem kp_R {t : Nat} {y : k_CH} {F : s_M × Nat × Int32} {H1 : k_H} {i1 q1 : Nat} (W : lp_X a A i q M H) (hi : i + 2 < 512) (L : L_5 A M) (hF : F = if g_shut M t = true then (M, 3, 0) else (g_kp M t y, 0, nI ((g_X M t).2.1.length + 1))) (JI : J_I (A 0 4 = 0) F.1) (JK : J_k M F.1) (W1 : lp_X a A i1 q1 F.1 H1) (h1 : i1 ≤ i + 2) (h2 : q1 ≤ q + 10) :
    (lp_code F x_3 = -2000000003 ∧ ((g_X M t).1.1 = false ∨ 12 ≤ (g_X M t).2.1.length) ∧ lp_X a A (i + 2) (q + 10) M H1) ∨ (∃ y, lp_code F x_3 = nI ((g_X M t).2.1.length + 1) ∧ (g_X M t).1.1 = true ∧ (g_X M t).2.1.length < 12 ∧ lp_X a A (i + 2) (q + 10) (g_kp M t y) H1 ∧ J_S (A 0 4 = 0) (g_kp M t y) ∧ J_r M (g_kp M t y)) := by
  by_cases c : g_shut M t = true
  · rw [if_pos c] at hF
    subst hF
    exact Or.inl ⟨(code_x (by decide)).trans rc_7, sh_to c, lp_Xm W1 h1 h2⟩
  · rw [if_neg c] at hF
    subst hF
    obtain ⟨s1, s2⟩ := J_step W (by omega) W1 (by omega) L.2.2.2 JI JK L.2.2.2.2.2.1
    exact Or.inr ⟨y, rfl, (sh_of c).1, (sh_of c).2, lp_Xm W1 h1 h2, s1, s2⟩
/-- changes, cleared ranges -/
theorem lc_change (ok : k_ok G l) (g0 : k_fh G = 0) (W : lp_X a A i q M H) (hi : i + 2 < 512) (L : L_5 A M) (Lw : L_w A M) (ht : t < 3) (hx : x < 2 ^ 31) (hk : ka < 8) (hb : kb = 10000 ∨ kb = 0 ∨ kb = 1) (hM : M0 = M) (K : ∀ H' A' M', lp_X a A' (i + 2) (q + 10) M' H' → L_P A M A' M' → k_X (jL_law G l h0) H' 1968 [(0, vR (some (k_sb G))), (1, vR (some a)), (2, vR (some (a + 31 + 0))), (3, vR (some (a + 31 + 1))), (4, vR (some (a + 31 + 2))), (5, vR (some (a + 31 + 3))), (6, vR (some (a + 31 + 4))), (7, vI 1), (8, vI (nI n)), (9, vI z9), (11, vI y9), (17, vI (nI (g_n M0)))] [] Q) : k_X (jL_law G l h0) H 404 [(0, vR (some (k_sb G))), (1, vR (some a)), (2, vR (some (a + 31 + 0))), (3, vR (some (a + 31 + 1))), (4, vR (some (a + 31 + 2))), (5, vR (some (a + 31 + 3))), (6, vR (some (a + 31 + 4))), (8, vI (nI n)), (9, vI z9), (11, vI y9), (12, vI (nI t)), (13, vI (nI (5 * t))), (14, vI (nI x)), (15, vI (nI ka)), (16, vI kb), (17, vI (nI (g_n M0)))] [] Q := by
  have d48 : nI x / 48 = nI (x / 48) := nI_div hx (by decide)
  have d432 : nI x / 432 = nI (x / 432) := nI_div hx (by decide)
  have l48 : x / 48 < 2 ^ 31 := Nat.lt_of_le_of_lt (Nat.div_le_self _ _) hx
  have l432 : x / 432 < 2 ^ 31 := Nat.lt_of_le_of_lt (Nat.div_le_self _ _) hx
  have e9 : nI (x / 48) - (nI (x / 48) / 9) * 9 = nI (x / 48 % 9) := rf_rem l48 (by decide)
  have e7 : nI (x / 48) - (nI (x / 48) / 7) * 7 = nI (x / 48 % 7) := rf_rem l48 (by decide)
  have f9 : nI (x / 432) - (nI (x / 432) / 9) * 9 = nI (x / 432 % 9) := rf_rem l432 (by decide)
  have go4 : k_X (jL_law G l h0) H 444 [(0, vR (some (k_sb G))), (1, vR (some a)), (2, vR (some (a + 31 + 0))), (3, vR (some (a + 31 + 1))), (4, vR (some (a + 31 + 2))), (5, vR (some (a + 31 + 3))), (6, vR (some (a + 31 + 4))), (8, vI (nI n)), (9, vI z9), (11, vI y9), (12, vI (nI t)), (13, vI (nI (5 * t))), (14, vI (nI x)), (15, vI (nI ka)), (16, vI kb), (17, vI (nI (g_n M0)))] [] Q := by
    refine bL_law_444 (by rw [d48, e7, d432, f9]; exact a_4 ok g0 W (by omega)) ?_
    rintro H1 _ ⟨W1, rfl⟩
    have hv9 : x / 432 % 9 < 9 := Nat.mod_lt _ (by omega)
    have hv : s_inB (nI (x / 432 % 9) - 4) (-1000000) 1000000 = true := (by decide +kernel : ∀ v, v < 9 → s_inB (nI v - 4) (-1000000) 1000000 = true) _ hv9
    have hv3 : y3v (nI (x / 432 % 9) - 4) := by
      have : ∀ v, v < 9 → y3v (nI v - 4) := by unfold y3v; decide +kernel
      exact this _ hv9
    exact lc_477 hi L Lw ht hM (kp_R W hi L (F_change_ok ht (Nat.mod_lt _ (by omega)) hv hk hb) (JI_change L.2.2.2.1 (by rw [t_nI (by omega)]; exact ht) hv3) Jk_change W1 (by omega) (by omega)) K
  have go5 : k_X (jL_law G l h0) H 427 [(0, vR (some (k_sb G))), (1, vR (some a)), (2, vR (some (a + 31 + 0))), (3, vR (some (a + 31 + 1))), (4, vR (some (a + 31 + 2))), (5, vR (some (a + 31 + 3))), (6, vR (some (a + 31 + 4))), (8, vI (nI n)), (9, vI z9), (11, vI y9), (12, vI (nI t)), (13, vI (nI (5 * t))), (15, vI (nI ka)), (16, vI kb), (17, vI (nI (g_n M0)))] [] Q := by
    refine bL_law_427 (a_5 ok g0 W (by omega)) ?_
    rintro H1 _ ⟨W1, rfl⟩
    exact bL_law_441 (lc_477 hi L Lw ht hM (kp_R W hi L (F_clear_ok ht hk hb) (JI_clear L.2.2.2.1 (by rw [t_nI (by omega)]; exact ht)) Jk_clear W1 (by omega) (by omega)) K)
  exact bL_law_404 (fun _ => bL_law_419 (bL_law_420 (bL_law_422 (fun _ => go4) (fun z => absurd rfl z)))) (fun _ => bL_law_415 (bL_law_420 (bL_law_422 (fun z => absurd z (by decide)) (fun _ => go5))))
theorem lc_offer (ok : k_ok G l) (g0 : k_fh G = 0) (W : lp_X a A i q M H) (hi : i + 2 < 512) (L : L_5 A M) (Lw : L_w A M) (ht : t < 3) (hx : x < 2 ^ 31) (hM : M0 = M) (K : ∀ H' A' M', lp_X a A' (i + 2) (q + 10) M' H' → L_P A M A' M' → k_X (jL_law G l h0) H' 1968 [(0, vR (some (k_sb G))), (1, vR (some a)), (2, vR (some (a + 31 + 0))), (3, vR (some (a + 31 + 1))), (4, vR (some (a + 31 + 2))), (5, vR (some (a + 31 + 3))), (6, vR (some (a + 31 + 4))), (7, vI 1), (8, vI (nI n)), (9, vI z9), (11, vI y9), (17, vI (nI (g_n M0)))] [] Q) : k_X (jL_law G l h0) H 1057 [(0, vR (some (k_sb G))), (1, vR (some a)), (2, vR (some (a + 31 + 0))), (3, vR (some (a + 31 + 1))), (4, vR (some (a + 31 + 2))), (5, vR (some (a + 31 + 3))), (6, vR (some (a + 31 + 4))), (8, vI (nI n)), (9, vI z9), (11, vI y9), (12, vI (nI t)), (13, vI (nI (5 * t))), (14, vI (nI x)), (17, vI (nI (g_n M0)))] [] Q := by
  have e : nI x - (nI x / 1000) * 1000 = nI (x % 1000) := rf_rem hx (by decide)
  refine bL_law_1057 (by rw [e]; exact a_18 ok g0 W (by omega)) ?_
  rintro H1 _ ⟨W1, rfl⟩
  exact lc_1075 hi L Lw ht hM (kp_R W hi L (F_offer_ok ht (Nat.mod_lt _ (by omega))) (JI_offer L.2.2.2.1 (by rw [t_nI (by omega)]; exact ht) (Nat.mod_lt _ (by omega))) Jk_offer W1 (by omega) (by omega)) K
end LD
