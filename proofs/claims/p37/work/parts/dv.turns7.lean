/-! .. records saved and erased -/
section LS
variable {G : k_G} {l : Launch} {a i q n t x ka hw : Nat} {A : lp_A} {M M0 : s_M} {H : k_H} {h0 : k_H} {Q : k_H → k_R → Prop} {z9 y9 kb : Int32}
theorem sv_L5 {M' : s_M} {v3 : Int32} (L : L_5 A M) (hn : g_n M' = g_n M) (e1 : (g_WT M').length = (g_WT M).length) (e2 : g_MK M' = g_MK M) (e3 : g_DS M' = g_DS M) (eo : ∀ u, ¬ u = t → g_X M' u = g_X M u) (eh : (g_X M' t).1 = (g_X M t).1) (hv : v3 = nI (min 12 (g_X M' t).2.1.length)) (hl : 0 < (g_X M t).2.1.length → 0 < (g_X M' t).2.1.length) (S' : J_S (A 0 4 = 0) M') :
    L_5 (lp_set A 1 (va_up (va_up (A 1) (5 * t + 2) 1) (5 * t + 3) v3)) M' := by
  obtain ⟨Lm, Lb, Lt, S⟩ := L
  refine ⟨Lm_n Lm ?_ ?_ ?_ ?_ e1 e2 e3, fun k hk => ?_, fun k hk hkb => ?_, ?_⟩
  · rw [lq_ne (by decide), hn]; exact Lm.1
  · rw [lq_ne (by decide)]
  · rw [lq_ne (by decide)]
  · rw [lq_ne (by decide)]
  · rw [lq_eq, vu_ne (by omega), vu_ne (by omega)]
    by_cases h : k = t
    · rw [h, eh, ← h]; exact Lb k hk
    · rw [eo k h]; exact Lb k hk
  · rw [lq_eq]
    by_cases h : k = t
    · rw [h] at hk hkb ⊢
      rw [eh] at hkb ⊢
      obtain ⟨l1, l3, l2, l2b, l4, ld⟩ := Lt t hk hkb
      rw [vu_eq, vu_ne (show ¬ 5 * t + 1 = 5 * t + 3 by omega), vu_ne (show ¬ 5 * t + 1 = 5 * t + 2 by omega), vu_ne (show ¬ 5 * t + 2 = 5 * t + 3 by omega), vu_eq, vu_ne (show ¬ 5 * t + 4 = 5 * t + 3 by omega), vu_ne (show ¬ 5 * t + 4 = 5 * t + 2 by omega)]
      exact ⟨l1, hv, fun _ => rfl, Or.inr rfl, l4, fun z => ⟨hl (ld z).1, (ld z).2⟩⟩
    · rw [eo k h] at hkb ⊢
      rw [vu_ne (by omega), vu_ne (by omega), vu_ne (by omega), vu_ne (by omega), vu_ne (by omega), vu_ne (by omega), vu_ne (by omega), vu_ne (by omega)]
      exact Lt k hk hkb
  · rw [lq_ne (by decide)]; exact S'
theorem st_no {wf : Prop} (S : J_I wf M) (ht : t < 3) {num : Nat} (hn : num < 12) : sv_st M t (nI num) = false := by
  have hy := (S.2.1 t ht).1
  have f : ∀ c, 120153000000 ≤ c → c < 121000000000 → (g_see M t c).2 = false := fun c h1 h2 => see_2 hy h1 h2 _ rfl
  have e0 : sv_co 0 = wS 0 := wS_eq (x := 0) (by omega)
  have e1 : sv_co 1 = wS 1 := wS_eq (x := 1) (by omega)
  have e2 : sv_co 2 = wS 2 := wS_eq (x := 2) (by omega)
  unfold sv_st
  rw [e0, e1, e2, wR_eq (by omega), f _ (by unfold wS; omega) (by unfold wS; omega), f _ (by unfold wS; omega) (by unfold wS; omega), f _ (by unfold wS; omega) (by unfold wS; omega), f _ (by unfold wR; omega) (by unfold wR; omega)]
  rfl
theorem F_c90 (ht : t < 3) : F_change M (nI t) 0 90 10000 10000 1 = if g_shut M t = true then (M, 3, 0) else (g_kp M t (g_ser M + 1, 0, s_cd 90 10000 10000, s_cd 90 10000 10000 + 1, 1, if (0 : Int32) = 6 then s_last 10000 10000 else 0), 0, nI ((g_X M t).2.1.length + 1)) := by
  unfold F_change
  rw [if_neg (in_4 (by omega)), if_neg (by decide +kernel), t_nI (by omega)]
/-- what a save leaves, for the law -/
theorem sv_left {i2 N w num j : Nat} {sv : Bool} (I : i_I i2 M N w) (h2 : i2 < 512) (S : J_I (A 0 4 = 0) M) (ht : t < 3) (hn : num < 12) (hj : j < 100) (hs : ¬ g_shut M t = true) :
    ∃ (M1 : s_M) (ro : Option Nat), F_saved M (nI t) (nI num) sv (nI j) = (M1, 0, o_told (ro.map nI)) ∧ (∀ o, ro = some o → o < 100) ∧ g_n M1 = g_n M ∧ (g_WT M1) = (g_WT M) ∧ g_MK M1 = g_MK M ∧ g_DS M1 = g_DS M ∧ (∀ u, ¬ u = t → g_X M1 u = g_X M u) ∧ (g_X M1 t).1 = (g_X M t).1 ∧ (g_E M1).2.1 = (g_E M).2.1 ∧
      ((sv = false ∧ ro = none ∧ (g_X M1 t).2.1 = (g_X M t).2.1) ∨ ((sv = true ∨ ¬ ro = none) ∧ (sv = true → (g_see M1 t (wR num)).1 = some (nI j)))) := by
  have e := J_ee I h2
  obtain ⟨r3, ro, r1, r2⟩ := see_rec I (t := t) (by omega) (k := num) (by omega)
  have in99 : s_inB (nI num) 0 99 = true := (by decide +kernel : ∀ w, w < 12 → s_inB (nI w) 0 99 = true) _ hn
  have in99j : s_inB (nI j) 0 99 = true := (by decide +kernel : ∀ w, w < 100 → s_inB (nI w) 0 99 = true) _ hj
  have F : F_saved M (nI t) (nI num) sv (nI j) = ((sv_w M t (nI num) sv (nI j)).1, 0, (sv_w M t (nI num) sv (nI j)).2) := by
    unfold F_saved
    rw [if_neg (in_4 (by omega)), in99, in99j, Bool.or_true, if_neg (by decide), t_nI (by omega), st_no S ht hn, Bool.or_false, if_neg hs]
  by_cases c : sv = false ∧ (g_see M t (sv_re (nI num))).1 = none
  · have e1 : sv_w M t (nI num) sv (nI j) = (sv_r4 M t (nI num), -2147483648) := if_pos c
    have hr := r4_cs M t (nI num)
    have ro0 : ro = none := by
      rw [r1] at c
      cases ro with
      | none => rfl
      | some o => exact absurd c.2 (by simp)
    rw [e1] at F
    refine ⟨sv_r4 M t (nI num), ro, by rw [F, ro0]; rfl, r2, rfl, rfl, rfl, rfl, fun u hu => ?_, hr.2, rfl, Or.inl ⟨c.1, ro0, hr.1⟩⟩
    show g_X (sv_r4 M t (nI num)) u = _
    unfold sv_r4 g_rk g_rdg
    rw [tx_ne _ _ _ hu, tx_ne _ _ _ hu, tx_ne _ _ _ hu, tx_ne _ _ _ hu]
  · have e1 : sv_w M t (nI num) sv (nI j) = (sv_all M t (nI num) sv (nI j), o_told (g_see M t (sv_re (nI num))).1) := if_neg c
    have h : sv_h M t num j ro := ⟨(S.2.1 t ht).1, hn, hj, by rw [← r1, see_ord, wR_eq (by omega)], r2⟩
    have h6 : j_6 (s_Z M t) := (S.1 _ (e.2.2.2 t (by omega))).2.1
    obtain ⟨m1, m2, m3, ⟨m4, m5, m6, m7, m8, m9, m10⟩, m11, m12, m13⟩ := em_all (saves := sv) h h6
    rw [e1] at F
    refine ⟨_, ro, by rw [F, r1], r2, m6, congrArg (fun z => z.1) m10, congrArg (fun z => z.2.1) m10, congrArg (fun z => z.2.2.2) m10, m11, m4, by rw [m5], Or.inr ⟨?_, fun hs => ?_⟩⟩
    · cases sv with
      | true => exact Or.inl rfl
      | false =>
        right
        intro z
        rw [r1, z] at c
        exact c ⟨rfl, rfl⟩
    · rw [see_ord, all_ord h, if_pos rfl, if_pos hs]
theorem see_kp {M1 : s_M} {y : k_CH} {c : Nat} (hc : s_cov y c = false) : g_see (g_kp M1 t y) t c = g_see M1 t c := by
  have h0 : g_X (g_kp M1 t y) t = ((g_X M1 t).1, (g_X M1 t).2.1 ++ [y], (g_X M1 t).2.2) := kpX_at
  have h1 : (g_E (g_kp M1 t y)).2.1 = (g_E M1).2.1 := rfl
  unfold g_see
  rw [h0, h1]
  show s_see c ((g_X M1 t).2.1 ++ [y]) _ = _
  unfold s_see
  rw [List.foldl_append]
  show (if s_cov y c = true then _ else _) = _
  rw [if_neg (by rw [hc]; decide)]
theorem lc_645 {num j f : Nat} {sv : Bool} {H1 : k_H} (ok : k_ok G l) (g0 : k_fh G = 0) (W : lp_X a A i q M H) (hi : i + 2 < 512) (L : L_5 A M) (Lw : L_w A M) (ht : t < 3) (hM : M0 = M) (hn : num < 12) (hj : j < 100) (hf : sv = true → f = j) (W1 : lp_X a A (i + 1) q (F_saved M (nI t) (nI num) sv (nI j)).1 H1) (K : ∀ H' A' M', lp_X a A' (i + 2) (q + 10) M' H' → L_P A M A' M' → k_X (jL_law G l h0) H' 1968 [(0, vR (some (k_sb G))), (1, vR (some a)), (2, vR (some (a + 31 + 0))), (3, vR (some (a + 31 + 1))), (4, vR (some (a + 31 + 2))), (5, vR (some (a + 31 + 3))), (6, vR (some (a + 31 + 4))), (7, vI 1), (8, vI (nI n)), (9, vI z9), (11, vI y9), (17, vI (nI (g_n M0)))] [] Q) : k_X (jL_law G l h0) H1 645 [(0, vR (some (k_sb G))), (1, vR (some a)), (2, vR (some (a + 31 + 0))), (3, vR (some (a + 31 + 1))), (4, vR (some (a + 31 + 2))), (5, vR (some (a + 31 + 3))), (6, vR (some (a + 31 + 4))), (8, vI (nI n)), (9, vI z9), (11, vI y9), (12, vI (nI t)), (13, vI (nI (5 * t))), (17, vI (nI (g_n M0))), (18, vI (kB sv)), (19, vI (nI num)), (20, vI (nI f))] [vI (lp_code (F_saved M (nI t) (nI num) sv (nI j)) x_3)] Q := by
  obtain ⟨Lm, Lb, Lt, S⟩ := id L
  obtain ⟨i2, N, w, hi2, I⟩ := X_I W
  have e := X_e W (by omega)
  have e2 : nI (5 * t) + 2 = nI (5 * t + 2) := nI_add _ 2
  have e3 : nI (5 * t) + 3 = nI (5 * t + 3) := nI_add _ 3
  by_cases hs : g_shut M t = true
  · have in99 : s_inB (nI num) 0 99 = true := (by decide +kernel : ∀ w, w < 12 → s_inB (nI w) 0 99 = true) _ hn
    have in99j : s_inB (nI j) 0 99 = true := (by decide +kernel : ∀ w, w < 100 → s_inB (nI w) 0 99 = true) _ hj
    have F : F_saved M (nI t) (nI num) sv (nI j) = (M, 3, 0) := by
      unfold F_saved
      rw [if_neg (in_4 (by omega)), in99, in99j, Bool.or_true, if_neg (by decide), t_nI (by omega), hs, Bool.true_or, if_pos rfl]
    rw [F] at W1 ⊢
    rw [code_x (by decide), rc_7]
    have fin : k_X (jL_law G l h0) H1 693 [(0, vR (some (k_sb G))), (1, vR (some a)), (2, vR (some (a + 31 + 0))), (3, vR (some (a + 31 + 1))), (4, vR (some (a + 31 + 2))), (5, vR (some (a + 31 + 3))), (6, vR (some (a + 31 + 4))), (8, vI (nI n)), (9, vI z9), (11, vI y9), (12, vI (nI t)), (13, vI (nI (5 * t))), (17, vI (nI (g_n M0))), (18, vI (kB sv)), (19, vI (nI num)), (20, vI (nI f)), (21, vI (-2000000003))] [] Q :=
      bL_law_693 (fun z => absurd rfl z) (fun _ => bL_law_700 (bL_law_705 (bL_law_707 (fun _ => bL_law_841 (K _ _ _ (lp_Xm W1 (by omega) (by omega)) (LP_0 Lw L))) (fun z => absurd rfl z))))
    refine bL_law_645 (bL_law_647 (X_atom (j := 1) W1 (by decide)) (in_20 (by omega)) (fun _ => fin) (fun z => bL_law_655 (X_atom (j := 1) W1 (by decide)) (by rw [e3]; exact in_20 (by omega)) (fun _ => fin) (fun z2 => ?_)))
    rw [tN (by omega), Lb t (by omega)] at z
    have hb : (g_X M t).1.1 = true := by
      cases h : (g_X M t).1.1 with
      | true => rfl
      | false => rw [h] at z; exact absurd z (by decide)
    have c : 12 ≤ (g_X M t).2.1.length := by
      rcases sh_to hs with c | c
      · rw [hb] at c; cases c
      · exact c
    rw [e3, tN (by omega), (Lt t ht hb).2.1, Nat.min_eq_left c] at z2
    exact absurd (by decide) z2
  · obtain ⟨hb, hl⟩ := sh_of hs
    obtain ⟨l1, l3, l2, l2b, l4, ld⟩ := Lt t ht hb
    obtain ⟨M1, ro, F, f0, f1, f2, f3, f4, f5, f6, f7, f8⟩ := sv_left (sv := sv) (A := A) I (by omega) S.1 ht hn hj hs
    have JI1 : J_I (A 0 4 = 0) (F_saved M (nI t) (nI num) sv (nI j)).1 := JI_saved I (by omega) S.1 (by rw [t_nI (by omega)]; exact ht) hn hj
    have JK1 : J_k M (F_saved M (nI t) (nI num) sv (nI j)).1 := Jk_saved I (fun u hu => (S.1.1 _ (e.2.2.2 u (by omega))).2.1) (fun u hu => JS_y3 S.1 u (by omega)) (by rw [t_nI (by omega)]; exact ht) hn hj
    rw [F] at W1 JI1 JK1 ⊢
    rw [code_0]
    obtain ⟨s1, r1⟩ := J_step W (by omega) W1 (by omega) S JI1 JK1 (by rw [f7]; exact S.2.2.1)
    have n91 : g_n M1 + 1 < 9000 := (X_e W1 (by omega)).2.2.1
    have told : o_told (ro.map nI) = -2147483648 ∨ ∃ o, o < 100 ∧ o_told (ro.map nI) = nI o := by
      cases ro with
      | none => exact Or.inl rfl
      | some o => exact Or.inr ⟨o, f0 o rfl, rfl⟩
    have nS : ¬ o_told (ro.map nI) = -2000000003 := by
      rcases told with h | ⟨o, ho, h⟩
      · rw [h]; decide
      · rw [h]
        intro z
        have := congrArg Int32.toInt z
        rw [nI_toInt (by omega), show (-2000000003 : Int32).toInt = -2000000003 from by decide] at this
        omega
    have z : A 1 (nI (5 * t)).toNatClampNeg = 1 := by rw [tN (by omega), Lb t (by omega), hb]; rfl
    have z3 : A 1 (nI (5 * t) + 3).toNatClampNeg = nI (g_X M t).2.1.length := by rw [e3, tN (by omega), l3, Nat.min_eq_right (by omega)]
    -- behind the look at the answer
    have go : k_X (jL_law G l h0) H1 685 [(0, vR (some (k_sb G))), (1, vR (some a)), (2, vR (some (a + 31 + 0))), (3, vR (some (a + 31 + 1))), (4, vR (some (a + 31 + 2))), (5, vR (some (a + 31 + 3))), (6, vR (some (a + 31 + 4))), (8, vI (nI n)), (9, vI z9), (11, vI y9), (12, vI (nI t)), (13, vI (nI (5 * t))), (17, vI (nI (g_n M0))), (18, vI (kB sv)), (19, vI (nI num)), (20, vI (nI f)), (21, vI (o_told (ro.map nI)))] [] Q := by
      refine bL_law_685 (bL_law_705 (bL_law_707 (fun q => absurd q nS) (fun _ => bL_law_714 (X_atom (j := 1) W1 (by decide)) (by rw [e2]; exact in_20 (by omega)) ?_)))
      rw [e2, tN (by omega)]
      have W2 := X_put (j := 1) (f := va_up (A 1) (5 * t + 2) 1) W1 (by decide)
      have end3 : ∀ (v3 : Int32) (M2 : s_M) (H3 : k_H) (x22 : Int32), lp_X a (lp_set A 1 (va_up (A 1) (5 * t + 2) 1)) (i + 2) q M2 H3 → v3 = nI (min 12 (g_X M2 t).2.1.length) → (0 < (g_X M t).2.1.length → 0 < (g_X M2 t).2.1.length) → g_n M2 = g_n M → (g_WT M2).length = (g_WT M).length → g_MK M2 = g_MK M → g_DS M2 = g_DS M → (∀ u, ¬ u = t → g_X M2 u = g_X M u) → (g_X M2 t).1 = (g_X M t).1 → J_S (A 0 4 = 0) M2 → J_r M M2 → (sv = true → (g_see M2 t (wR num)).1 = some (nI j)) → ¬ x22 = -2000000001 → ¬ x22 = -2000000002 → k_X (jL_law G l h0) H3 789 [(0, vR (some (k_sb G))), (1, vR (some a)), (2, vR (some (a + 31 + 0))), (3, vR (some (a + 31 + 1))), (4, vR (some (a + 31 + 2))), (5, vR (some (a + 31 + 3))), (6, vR (some (a + 31 + 4))), (7, vI 1), (8, vI (nI n)), (9, vI z9), (11, vI y9), (12, vI (nI t)), (17, vI (nI (g_n M0))), (18, vI (kB sv)), (19, vI (nI num)), (20, vI (nI f)), (22, vI x22)] [vI v3, vI (nI (5 * t + 3)), vR (some (a + 31 + 1))] Q := by
        intro v3 M2 H3 x22 W3 hv3 hl2 g1 g2 g3 g4 g5 g6 S2 r2 hsee n1 n2
        refine bL_law_789 (X_atom (j := 1) W3 (by decide)) (in_20 (by omega)) ?_
        rw [tN (by omega), lq_eq]
        have W4 := X_put (j := 1) (f := va_up (va_up (A 1) (5 * t + 2) 1) (5 * t + 3) v3) W3 (by decide)
        rw [lq_twice] at W4
        have L2 := sv_L5 (t := t) L g1 g2 g3 g4 g5 g6 hv3 hl2 S2
        have lst : ∀ H5, lp_X a (lp_set A 1 (va_up (va_up (A 1) (5 * t + 2) 1) (5 * t + 3) v3)) (i + 2) (q + 1) M2 H5 → k_X (jL_law G l h0) H5 834 [(0, vR (some (k_sb G))), (1, vR (some a)), (2, vR (some (a + 31 + 0))), (3, vR (some (a + 31 + 1))), (4, vR (some (a + 31 + 2))), (5, vR (some (a + 31 + 3))), (6, vR (some (a + 31 + 4))), (8, vI (nI n)), (9, vI z9), (11, vI y9), (17, vI (nI (g_n M0)))] [] Q := fun H5 W5 =>
          bL_law_834 (bL_law_839 (bL_law_841 (K _ _ _ (lp_Xm W5 (Nat.le_refl _) (by omega)) (LP_of Lw L2 r2 (fun j hj => lq_ne (by omega)) g2))))
        refine bL_law_790 (fun q => absurd q (by decide)) (fun _ => bL_law_795 (fun q => absurd q n1) (fun _ => bL_law_802 (fun q => absurd q n2) (fun _ => ?_)))
        cases hsv : sv with
        | false => exact bL_law_809 (fun _ => lst _ (lp_Xm W4 (Nat.le_refl _) (by omega))) (fun q => absurd rfl q)
        | true =>
          refine bL_law_809 (fun q => absurd q (by decide)) (fun _ => bL_law_814 (a_1F ok g0 W4 (by omega)) ?_)
          rintro H5 _ ⟨W5, rfl⟩
          have c2 : (g_see M2 t (wR num)).2 = false := see_2 (S2.1.2.1 t ht).1 (by unfold wR; omega) (by unfold wR; omega) _ rfl
          have FG : (F_get M2 (nI t) (-1) (nI num) 10000 false).2 = (0, nI j) := by
            unfold F_get
            rw [if_neg (in_4 (by omega)), if_neg (by rw [(key_1 (k := num) (by omega)).1]; decide), t_nI (by omega), g6, hb, if_neg (by decide), (key_1 (k := num) (by omega)).2, c2, if_neg (by decide), hsee hsv]
            rfl
          have cG : lp_code (F_get M2 (nI t) (-1) (nI num) 10000 false) x_3 = nI j := by
            unfold lp_code
            rw [FG]
            rfl
          rw [cG, hf hsv]
          exact bL_law_829 (fun q => absurd rfl q) (fun _ => lst _ W5)
      rcases f8 with ⟨b1, b2, b3⟩ | ⟨b1, b2⟩
      · -- nothing to erase
        rw [b1, b2] 
        refine bL_law_721 (fun q => absurd rfl q) (fun _ => bL_law_726 (fun _ => bL_law_753 (bL_law_754 (bL_law_756 (fun _ => bL_law_771 (fun _ => bL_law_783 (X_atom (j := 1) W2 (by decide)) (by rw [e3]; exact in_20 (by omega)) ?_) (fun q => absurd q (by decide))) (fun q => absurd (by decide) q)))) (fun q => absurd rfl q))
        rw [e3, tN (by omega), lq_eq, vu_ne (by omega)]
        have := end3 (A 1 (5 * t + 3)) M1 _ (-1) (lp_Xm W2 (by omega) (Nat.le_refl _)) (by rw [b3]; exact l3) (by rw [b3]; exact id) f1 (by rw [f2]) f3 f4 f5 f6 s1 r1 (fun q => by rw [b1] at q; cases q) (by decide) (by decide)
        rw [b1] at this
        exact this
      · have nx : k_X (jL_law G l h0) (k_up H1 (a + 31 + 1) (k_i (lp_sz 1) (va_up (A 1) (5 * t + 2) 1))) 733 [(0, vR (some (k_sb G))), (1, vR (some a)), (2, vR (some (a + 31 + 0))), (3, vR (some (a + 31 + 1))), (4, vR (some (a + 31 + 2))), (5, vR (some (a + 31 + 3))), (6, vR (some (a + 31 + 4))), (7, vI 1), (8, vI (nI n)), (9, vI z9), (11, vI y9), (12, vI (nI t)), (13, vI (nI (5 * t))), (17, vI (nI (g_n M0))), (18, vI (kB sv)), (19, vI (nI num)), (20, vI (nI f))] [] Q := by
          refine bL_law_733 (a_4 ok g0 W2 (by omega)) ?_
          rintro H3 _ ⟨W3, rfl⟩
          have F2 := F_c90 (M := M1) ht
          have JI2 : J_I (A 0 4 = 0) (F_change M1 (nI t) 0 90 10000 10000 1).1 := JI_change s1.1 (by rw [t_nI (by omega)]; exact ht) (by unfold y3v; decide)
          have JK2 : J_k M1 (F_change M1 (nI t) 0 90 10000 10000 1).1 := Jk_change
          by_cases hs1 : g_shut M1 t = true
          · rw [if_pos hs1] at F2
            rw [F2] at W3 ⊢
            rw [code_x (by decide), rc_7]
            have h12 : 12 ≤ (g_X M1 t).2.1.length := by
              rcases sh_to hs1 with q | q
              · rw [f6, hb] at q; cases q
              · exact q
            refine bL_law_750 (bL_law_754 (bL_law_756 (fun _ => bL_law_771 (fun q => absurd rfl q) (fun _ => bL_law_778 ?_)) (fun q => absurd (by decide) q)))
            rw [e3]
            exact end3 12 M1 _ _ W3 (by rw [Nat.min_eq_left h12]; rfl) (fun _ => by omega) f1 (by rw [f2]) f3 f4 f5 f6 s1 r1 b2 (by decide) (by decide)
          · rw [if_neg hs1] at F2
            obtain ⟨-, hl1⟩ := sh_of hs1
            rw [F2] at W3 JI2 JK2 ⊢
            rw [code_0]
            obtain ⟨s2, r2⟩ := J_step W2 (by omega) W3 (by omega) s1 JI2 JK2 s1.2.2.1
            have ml : ∀ v : Int32, v.toInt < 0 → ¬ nI ((g_X M1 t).2.1.length + 1) = v := fun v hv q => by
              rw [← q, nI_toInt (by omega)] at hv
              omega
            refine bL_law_750 (bL_law_754 (bL_law_756 (fun q => absurd ((nI_leI (b := 0) (by omega) (by omega)).mp q) (by omega)) (fun _ => bL_law_766 ?_)))
            rw [e3]
            refine end3 _ _ _ _ W3 ?_ (fun _ => ?_) f1 (by show (g_WT M1).length = _; rw [f2]) f3 f4 (fun u hu => (kpX_ne hu).trans (f5 u hu)) ?_ s2 (Jr_trans r1 r2 (by show g_n M1 < 9000; omega)) (fun q => ?_) (ml _ (by decide)) (ml _ (by decide))
            · rw [kpX_at, List.length_append, List.length_singleton, Nat.min_eq_right (by omega)]
            · rw [kpX_at, List.length_append, List.length_singleton]; omega
            · rw [kpX_at]; exact f6
            · rw [see_kp ?_]
              · exact b2 q
              · unfold s_cov
                have : s_cd 90 10000 10000 = 131890000000 := by decide +kernel
                rw [this, decide_eq_false (show ¬ 131890000000 ≤ wR num by unfold wR; omega), Bool.and_false, Bool.false_and]
        cases hsv : sv with
        | true =>
          rw [hsv] at nx
          exact bL_law_721 (fun _ => nx) (fun q => absurd q (by decide))
        | false =>
          rw [hsv] at nx b1
          refine bL_law_721 (fun q => absurd rfl q) (fun _ => bL_law_726 (fun q => ?_) (fun _ => nx))
          rcases b1 with b1 | b1
          · cases b1
          · cases ro with
            | none => exact absurd rfl b1
            | some o => exact absurd q (nI_none (by have := f0 o rfl; omega))
    refine bL_law_645 (bL_law_647 (X_atom (j := 1) W1 (by decide)) (in_20 (by omega)) (fun q => absurd z q) (fun _ => bL_law_655 (X_atom (j := 1) W1 (by decide)) (by rw [e3]; exact in_20 (by omega)) (fun q => ?_) (fun _ => bL_law_666 (fun _ => go) (fun q => bL_law_673 (fun q2 => ?_) (fun _ => bL_law_678 (fun q2 => ?_) (fun _ => go))))))
    · rw [z3] at q
      exact absurd ((nI_leI (a := 12) (by omega) (by omega)).mp q) (by omega)
    · rcases told with h | ⟨o, ho, h⟩
      · exact absurd h q
      · rw [h] at q2; exact absurd q2 (nI_pos (by omega))
    · rcases told with h | ⟨o, ho, h⟩
      · exact absurd h q
      · rw [h] at q2
        exact absurd ((nI_leI (a := 100) (by omega) (by omega)).mp q2) (by omega)
theorem lc_save (ok : k_ok G l) (g0 : k_fh G = 0) (W : lp_X a A i q M H) (hi : i + 2 < 512) (L : L_5 A M) (Lw : L_w A M) (ht : t < 3) (hx : x < 2 ^ 31) (hM : M0 = M) (K : ∀ H' A' M', lp_X a A' (i + 2) (q + 10) M' H' → L_P A M A' M' → k_X (jL_law G l h0) H' 1968 [(0, vR (some (k_sb G))), (1, vR (some a)), (2, vR (some (a + 31 + 0))), (3, vR (some (a + 31 + 1))), (4, vR (some (a + 31 + 2))), (5, vR (some (a + 31 + 3))), (6, vR (some (a + 31 + 4))), (7, vI 1), (8, vI (nI n)), (9, vI z9), (11, vI y9), (17, vI (nI (g_n M0)))] [] Q) : k_X (jL_law G l h0) H 575 [(0, vR (some (k_sb G))), (1, vR (some a)), (2, vR (some (a + 31 + 0))), (3, vR (some (a + 31 + 1))), (4, vR (some (a + 31 + 2))), (5, vR (some (a + 31 + 3))), (6, vR (some (a + 31 + 4))), (8, vI (nI n)), (9, vI z9), (11, vI y9), (12, vI (nI t)), (13, vI (nI (5 * t))), (14, vI (nI x)), (17, vI (nI (g_n M0)))] [] Q := by
  have lt4 : x / 4 < 2 ^ 31 := Nat.lt_of_le_of_lt (Nat.div_le_self _ _) hx
  have lt48 : x / 48 < 2 ^ 31 := Nat.lt_of_le_of_lt (Nat.div_le_self _ _) hx
  have d4 : nI x / 4 = nI (x / 4) := nI_div hx (by decide)
  have d48 : nI x / 48 = nI (x / 48) := nI_div hx (by decide)
  have e12 : nI (x / 4) - (nI (x / 4) / 12) * 12 = nI (x / 4 % 12) := rf_rem lt4 (by decide)
  have e100 : nI (x / 48) - (nI (x / 48) / 100) * 100 = nI (x / 48 % 100) := rf_rem lt48 (by decide)
  have hn : x / 4 % 12 < 12 := Nat.mod_lt _ (by omega)
  have hj : x / 48 % 100 < 100 := Nat.mod_lt _ (by omega)
  refine bL_law_575 (fun _ => bL_law_586 (bL_law_587 (bL_law_589 ?_))) (fun _ => bL_law_582 (bL_law_587 (bL_law_589 ?_)))
  · rw [d4, e12]
    refine bL_law_598 ?_
    rw [d48, e100]
    refine bL_law_608 (fun _ => bL_law_631 (a_11 ok g0 W (by omega)) ?_) (fun q => absurd rfl q)
    rintro H1 _ ⟨W1, rfl⟩
    exact lc_645 (sv := false) (j := 0) ok g0 W hi L Lw ht hM hn (by omega) (fun q => by cases q) W1 K
  · rw [d4, e12]
    refine bL_law_598 ?_
    rw [d48, e100]
    refine bL_law_608 (fun q => absurd q (by decide)) (fun _ => bL_law_613 (a_10 ok g0 W (by omega)) ?_)
    rintro H1 _ ⟨W1, rfl⟩
    exact bL_law_628 (lc_645 (sv := true) ok g0 W hi L Lw ht hM hn hj (fun _ => rfl) W1 K)
end LS
