/-! THE LAW'S TURNS: what each kind of call leaves -/
theorem vu_same {f : Nat → Int32} {k : Nat} : va_up f k (f k) = f := funext fun j => by
  by_cases h : j = k
  · rw [h, vu_eq]
  · rw [vu_ne h]
theorem lq_same {A : lp_A} {j : Nat} : lp_set A j (A j) = A := funext fun k => by
  by_cases h : k = j
  · rw [h, lq_eq]
  · rw [lq_ne h]
theorem lq_twice {A : lp_A} {j : Nat} {f g : Nat → Int32} : lp_set (lp_set A j f) j g = lp_set A j g := funext fun k => by
  by_cases h : k = j
  · rw [h, lq_eq, lq_eq]
  · rw [lq_ne h, lq_ne h, lq_ne h]
theorem in_5 {k : Nat} (h : k < 5) : vp_in (nI k) 5 := rf_in h (by omega)
theorem in_20 {k : Nat} (h : k < 20) : vp_in (nI k) 20 := rf_in h (by omega)
theorem in_60 {k : Nat} (h : k < 60) : vp_in (nI k) 60 := rf_in h (by omega)
section LC
variable {G : k_G} {l : Launch} {a i q n t x ka hw : Nat} {A : lp_A} {M M0 : s_M} {H : k_H} {h0 : k_H} {Q : k_H → k_R → Prop} {z9 y9 kb : Int32}
theorem LP_of {A' : lp_A} {M' : s_M} (Lw : L_w A M) (L5 : L_5 A' M') (r : J_r M M') (h : ∀ j, 2 ≤ j → A' j = A j) (e : (g_WT M').length = (g_WT M).length) (h15 : A' 1 15 = A 1 15 := by first | rfl | (rw [lq_ne (by decide)]) | (rw [lq_eq]; simp (disch := omega) only [vu_ne])) : L_P A M A' M' := by
  refine ⟨L5, r, ⟨h 2 (by omega), h15⟩, M, fun k w hk => ?_, r, e.symm⟩
  rw [h 4 (by omega), h 3 (by omega)]
  exact Lw k w hk
theorem LP_0 (Lw : L_w A M) (L : L_5 A M) : L_P A M A M := LP_of Lw L (Jr_0 M) (fun _ _ => rfl) rfl
theorem code_0 {M : s_M} {v : Int32} {X : Nat → String} : lp_code (M, 0, v) X = v := rfl
theorem code_x {M : s_M} {e : Nat} {v : Int32} {X : Nat → String} (h : ¬ e = 0) : lp_code (M, e, v) X = rc X e := if_neg h
/-- begin -/
theorem lc_begin (ok : k_ok G l) (g0 : k_fh G = 0) (W : lp_X a A i q M H) (hi : i + 2 < 512) (L : L_5 A M) (Lw : L_w A M) (ht : t < 3) (hx : x < 2 ^ 31) (hM : M0 = M) (K : ∀ H' A' M', lp_X a A' (i + 2) (q + 10) M' H' → L_P A M A' M' → k_X (jL_law G l h0) H' 1968 [(0, vR (some (k_sb G))), (1, vR (some a)), (2, vR (some (a + 31 + 0))), (3, vR (some (a + 31 + 1))), (4, vR (some (a + 31 + 2))), (5, vR (some (a + 31 + 3))), (6, vR (some (a + 31 + 4))), (7, vI 1), (8, vI (nI n)), (9, vI z9), (11, vI y9), (17, vI (nI (g_n M0)))] [] Q) : k_X (jL_law G l h0) H 187 [(0, vR (some (k_sb G))), (1, vR (some a)), (2, vR (some (a + 31 + 0))), (3, vR (some (a + 31 + 1))), (4, vR (some (a + 31 + 2))), (5, vR (some (a + 31 + 3))), (6, vR (some (a + 31 + 4))), (8, vI (nI n)), (9, vI z9), (11, vI y9), (12, vI (nI t)), (13, vI (nI (5 * t))), (14, vI (nI x)), (17, vI (nI (g_n M0)))] [] Q := by
  obtain ⟨Lm, Lb, Lt, S⟩ := L
  have hm0 : A 0 ((0 : Int32).toNatClampNeg) = nI (g_n M) := Lm.1
  have e2 : nI x - (nI x / 2) * 2 = nI (x % 2) := rf_rem hx (by decide)
  have F : F_begin M (nI t) (decide (nI (x % 2) = 1)) = (g_tx M t ((true, decide (nI (x % 2) = 1), g_n M, g_gen M, 0), [], []), 0, nI (g_n M)) := by
    unfold F_begin
    rw [if_neg (in_4 (by omega)), t_nI (by omega)]
  refine bL_law_187 (by rw [e2]; exact a_0 ok g0 W (by omega)) ?_
  rintro H1 _ ⟨W1, rfl⟩
  have JI := JI_begin S.1 (x := nI t) (once := decide (nI (x % 2) = 1))
  have JK : J_k M (F_begin M (nI t) (decide (nI (x % 2) = 1))).1 := Jk_begin
  rw [F] at W1 JI JK ⊢
  obtain ⟨s1, s2⟩ := J_step W (by omega) W1 (by omega) S JI JK S.2.2.1
  refine bL_law_202 (X_atom (j := 0) W1 (by decide)) (in_5 (k := 0) (by omega)) (fun z => absurd hm0.symm z) (fun _ => bL_law_208 (bL_law_213 ?_))
  refine bL_law_215 (X_atom (j := 1) W1 (by decide)) (in_20 (by omega)) ?_
  rw [tN (by omega)]
  have W2 := X_put (j := 1) (f := va_up (A 1) (5 * t) 1) W1 (by decide)
  refine bL_law_220 (X_atom (j := 0) W2 (by decide)) (in_5 (k := 0) (by omega)) (X_atom (j := 1) W2 (by decide)) (by rw [show nI (5 * t) + 1 = nI (5 * t + 1) from nI_add _ 1]; exact in_20 (by omega)) ?_
  rw [show nI (5 * t) + 1 = nI (5 * t + 1) from nI_add _ 1, tN (by omega), lq_eq, lq_ne (by decide), hm0]
  have W3 := X_put (j := 1) (f := va_up (va_up (A 1) (5 * t) 1) (5 * t + 1) (nI (g_n M))) W2 (by decide)
  rw [lq_twice] at W3
  refine bL_law_229 (X_atom (j := 1) W3 (by decide)) (by rw [show nI (5 * t) + 2 = nI (5 * t + 2) from nI_add _ 2]; exact in_20 (by omega)) ?_
  rw [show nI (5 * t) + 2 = nI (5 * t + 2) from nI_add _ 2, tN (by omega), lq_eq]
  have W4 := X_put (j := 1) (f := va_up (va_up (va_up (A 1) (5 * t) 1) (5 * t + 1) (nI (g_n M))) (5 * t + 2) 0) W3 (by decide)
  rw [lq_twice] at W4
  refine bL_law_236 (X_atom (j := 1) W4 (by decide)) (by rw [show nI (5 * t) + 3 = nI (5 * t + 3) from nI_add _ 3]; exact in_20 (by omega)) ?_
  rw [show nI (5 * t) + 3 = nI (5 * t + 3) from nI_add _ 3, tN (by omega), lq_eq]
  have W5 := X_put (j := 1) (f := va_up (va_up (va_up (va_up (A 1) (5 * t) 1) (5 * t + 1) (nI (g_n M))) (5 * t + 2) 0) (5 * t + 3) 0) W4 (by decide)
  rw [lq_twice] at W5
  refine bL_law_243 (X_atom (j := 1) W5 (by decide)) (by rw [show nI (5 * t) + 4 = nI (5 * t + 4) from nI_add _ 4]; exact in_20 (by omega)) ?_
  rw [show nI (5 * t) + 4 = nI (5 * t + 4) from nI_add _ 4, tN (by omega), lq_eq]
  have W6 := X_put (j := 1) (f := va_up (va_up (va_up (va_up (va_up (A 1) (5 * t) 1) (5 * t + 1) (nI (g_n M))) (5 * t + 2) 0) (5 * t + 3) 0) (5 * t + 4) 0) W5 (by decide)
  rw [lq_twice] at W6
  have tx : ∀ k, ¬ k = t → g_X (g_tx M t ((true, decide (nI (x % 2) = 1), g_n M, g_gen M, 0), [], [])) k = g_X M k := fun k h => if_neg h
  refine bL_law_250 (K _ _ _ (lp_Xm W6 (by omega) (by omega)) (LP_of Lw ⟨Lm_n Lm ?_ ?_ ?_ ?_ rfl rfl rfl, fun k hk => ?_, fun k hk hkb => ?_, ?_⟩ s2 (fun j hj => lq_ne (by omega)) rfl))
  · rw [lq_ne (by decide)]; exact hm0
  · rw [lq_ne (by decide)]
  · rw [lq_ne (by decide)]
  · rw [lq_ne (by decide)]
  · by_cases h : k = t
    · rw [h, tx_at, lq_eq]
      simp (disch := omega) only [vu_eq, vu_ne]
      rfl
    · rw [tx k h, lq_eq]
      simp (disch := omega) only [vu_eq, vu_ne]
      exact Lb k hk
  · by_cases h : k = t
    · rw [h, tx_at, lq_eq]
      simp (disch := omega) only [vu_eq, vu_ne]
      exact ⟨True.intro, rfl, fun z => absurd True.intro z, Or.inl True.intro, rfl, fun z => absurd z (Nat.lt_irrefl _)⟩
    · rw [tx k h] at hkb ⊢
      rw [lq_eq]
      simp (disch := omega) only [vu_eq, vu_ne]
      exact Lt k hk hkb
  · rw [lq_ne (by decide)]; exact s1
/-- commit -/
theorem lc_commit (ok : k_ok G l) (g0 : k_fh G = 0) (W : lp_X a A i q M H) (hi : i + 2 < 512) (L : L_5 A M) (Lw : L_w A M) (ht : t < 3) (hM : M0 = M) (K : ∀ H' A' M', lp_X a A' (i + 2) (q + 10) M' H' → L_P A M A' M' → k_X (jL_law G l h0) H' 1968 [(0, vR (some (k_sb G))), (1, vR (some a)), (2, vR (some (a + 31 + 0))), (3, vR (some (a + 31 + 1))), (4, vR (some (a + 31 + 2))), (5, vR (some (a + 31 + 3))), (6, vR (some (a + 31 + 4))), (7, vI 1), (8, vI (nI n)), (9, vI z9), (11, vI y9), (17, vI (nI (g_n M0)))] [] Q) : k_X (jL_law G l h0) H 555 [(0, vR (some (k_sb G))), (1, vR (some a)), (2, vR (some (a + 31 + 0))), (3, vR (some (a + 31 + 1))), (4, vR (some (a + 31 + 2))), (5, vR (some (a + 31 + 3))), (6, vR (some (a + 31 + 4))), (8, vI (nI n)), (9, vI z9), (11, vI y9), (12, vI (nI t)), (17, vI (nI (g_n M0)))] [] Q := by
  refine bL_law_555 (X_isCommitted ok g0 W (by omega) ht L) ?_
  rintro H1 _ ⟨⟨A', M', W1, L1, r, ⟨h, h15⟩, e⟩, rfl⟩
  exact bL_law_563 (bL_law_565 (K _ _ _ (lp_Xm W1 (by omega) (by omega)) (LP_of Lw L1 r h e h15)))
/-- the connection -/
theorem lc_lose (ok : k_ok G l) (g0 : k_fh G = 0) (W : lp_X a A i q M H) (hi : i + 2 < 512) (L : L_5 A M) (Lw : L_w A M) (hx : x < 2 ^ 31) (hM : M0 = M) (K : ∀ H' A' M', lp_X a A' (i + 2) (q + 10) M' H' → L_P A M A' M' → k_X (jL_law G l h0) H' 1968 [(0, vR (some (k_sb G))), (1, vR (some a)), (2, vR (some (a + 31 + 0))), (3, vR (some (a + 31 + 1))), (4, vR (some (a + 31 + 2))), (5, vR (some (a + 31 + 3))), (6, vR (some (a + 31 + 4))), (7, vI 1), (8, vI (nI n)), (9, vI z9), (11, vI y9), (17, vI (nI (g_n M0)))] [] Q) : k_X (jL_law G l h0) H 1381 [(0, vR (some (k_sb G))), (1, vR (some a)), (2, vR (some (a + 31 + 0))), (3, vR (some (a + 31 + 1))), (4, vR (some (a + 31 + 2))), (5, vR (some (a + 31 + 3))), (6, vR (some (a + 31 + 4))), (8, vI (nI n)), (9, vI z9), (11, vI y9), (14, vI (nI x)), (17, vI (nI (g_n M0)))] [] Q := by
  obtain ⟨Lm, Lb, Lt, S⟩ := L
  have go : ∀ d : Bool, k_X (jL_law G l h0) H 1394 [(0, vR (some (k_sb G))), (1, vR (some a)), (2, vR (some (a + 31 + 0))), (3, vR (some (a + 31 + 1))), (4, vR (some (a + 31 + 2))), (5, vR (some (a + 31 + 3))), (6, vR (some (a + 31 + 4))), (8, vI (nI n)), (9, vI z9), (11, vI y9), (17, vI (nI (g_n M0)))] [vI (kB d), vR (some a)] Q := by
    intro d
    refine bL_law_1394 (X_lose ok g0 W (by omega)) ?_
    rintro H1 _ ⟨W1, rfl⟩
    obtain ⟨s1, s2⟩ := J_step W (by omega) W1 (by omega) S (JI_same S.1 rfl rfl rfl (Nat.le_refl _)) Jk_lose S.2.2.1
    exact bL_law_1397 (bL_law_1399 (K _ _ _ (lp_Xm W1 (by omega) (by omega)) (LP_of Lw ⟨Lm_n Lm Lm.1 rfl rfl rfl rfl rfl rfl, Lb_X Lb rfl rfl, Lt_X Lt rfl rfl, s1⟩ s2 (fun _ _ => rfl) rfl)))
  exact bL_law_1381 (fun _ => bL_law_1393 (go false)) (fun _ => bL_law_1389 (go true))
end LC
