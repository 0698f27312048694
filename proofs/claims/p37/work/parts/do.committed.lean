/-! ISCOMMITTED, WALKED -/
def c_A (A : lp_A) (t : Nat) (v4 v0 v : Int32) : lp_A := lp_set (lp_set (lp_set A 1 (va_up (A 1) (5 * t + 4) v4)) 1 (va_up (lp_set A 1 (va_up (A 1) (5 * t + 4) v4) 1) (5 * t) v0)) 0 (va_up (lp_set (lp_set A 1 (va_up (A 1) (5 * t + 4) v4)) 1 (va_up (lp_set A 1 (va_up (A 1) (5 * t + 4) v4) 1) (5 * t) v0) 0) 0 v)
theorem cA_0 {A : lp_A} {t : Nat} {v4 v0 v : Int32} : c_A A t v4 v0 v 0 0 = v := by unfold c_A; rw [lq_eq, vu_eq]
theorem cA_j {A : lp_A} {t j : Nat} {v4 v0 v : Int32} (h : ¬ j = 0) : c_A A t v4 v0 v 0 j = A 0 j := by unfold c_A; rw [lq_eq, vu_ne h, lq_ne (by decide), lq_ne (by decide)]
theorem cA_1 {A : lp_A} {t : Nat} {v4 v0 v : Int32} (k : Nat) : c_A A t v4 v0 v 1 k = if k = 5 * t then v0 else if k = 5 * t + 4 then v4 else A 1 k := by
  unfold c_A
  rw [lq_ne (by decide), lq_eq, lq_eq]
  by_cases h : k = 5 * t
  · rw [if_pos h, h, vu_eq]
  · rw [if_neg h, vu_ne h]
    by_cases h2 : k = 5 * t + 4
    · rw [if_pos h2, h2, vu_eq]
    · rw [if_neg h2, vu_ne h2]
theorem cA_2 {A : lp_A} {t j : Nat} {v4 v0 v : Int32} (h : 2 ≤ j) : c_A A t v4 v0 v j = A j := by
  unfold c_A
  rw [lq_ne (by omega), lq_ne (by omega), lq_ne (by omega)]
section ISC
variable {G : k_G} {l : Launch} {a i q : Nat} {A : lp_A} {M M' : s_M} {H : k_H} {h0 : k_H} {Q : k_H → k_R → Prop} {t n' : Nat}
theorem ic_end (ht : t < 3) (W : lp_X a A i q M' H) {x5 v4 v0 : Int32} (h1 : x5 = -3 → v0 = A 1 (5 * t)) (h2 : ¬ x5 = -3 → v0 = 0) (K : ∀ H', lp_X a (c_A A t v4 v0 (nI n')) i q M' H' → Q H' (.inl (some (vI 1)))) :
    k_X (jL_isCommitted G l h0) H 243 [(1, vR (some (a + 31 + 0))), (2, vR (some (a + 31 + 1))), (4, vI (nI (5 * t))), (5, vI x5), (6, vI (nI n')), (7, vI 1)] [vI v4, vI (nI (5 * t + 4)), vR (some (a + 31 + 1))] Q := by
  refine bL_isCommitted_243 (X_atom (j := 1) W (by decide)) (rf_in (n := 20) (by omega) (by omega)) ?_
  rw [tN (by omega)]
  have W1 := X_put (j := 1) (f := va_up (A 1) (5 * t + 4) v4) W (by decide)
  have fin : ∀ (v : Int32) (H1 : k_H), v = v0 → lp_X a (lp_set A 1 (va_up (A 1) (5 * t + 4) v4)) i q M' H1 → k_X (jL_isCommitted G l h0) H1 262 [(1, vR (some (a + 31 + 0))), (6, vI (nI n')), (7, vI 1)] [vI v, vI (nI (5 * t)), vR (some (a + 31 + 1))] Q := by
    intro v H1 hv W1
    refine bL_isCommitted_262 (X_atom (j := 1) W1 (by decide)) (rf_in (n := 20) (by omega) (by omega)) ?_
    rw [tN (by omega), hv]
    have W2 := X_put (j := 1) (f := va_up (lp_set A 1 (va_up (A 1) (5 * t + 4) v4) 1) (5 * t) v0) W1 (by decide)
    refine bL_isCommitted_263 (X_atom (j := 0) W2 (by decide)) (rf_in (k := 0) (n := 5) (by omega) (by omega)) ?_
    exact bL_isCommitted_268 (Or.inr rfl) (K _ (X_put (j := 0) (f := va_up (lp_set (lp_set A 1 (va_up (A 1) (5 * t + 4) v4)) 1 (va_up (lp_set A 1 (va_up (A 1) (5 * t + 4) v4) 1) (5 * t) v0) 0) 0 (nI n')) W2 (by decide)))
  refine bL_isCommitted_244 (fun c => bL_isCommitted_261 (fin 0 _ (h2 c).symm W1)) (fun c => bL_isCommitted_254 (X_atom (j := 1) W1 (by decide)) (rf_in (n := 20) (by omega) (by omega)) ?_)
  rw [tN (by omega), lq_eq, vu_ne (by omega)]
  exact fin _ _ (h1 c).symm W1
theorem ic_211 (ht : t < 3) (W : lp_X a A i q M' H) {x5 : Int32} {n : Nat} (hm : A 0 0 = nI n) (hn : n < 9000) (hn' : n' < 9000) (K : ∀ H', lp_X a (c_A A t (if x5 = -3 ∧ n < n' then 1 else A 1 (5 * t + 4)) (if x5 = -3 then A 1 (5 * t) else 0) (nI n')) i q M' H' → Q H' (.inl (some (vI 1)))) :
    k_X (jL_isCommitted G l h0) H 211 [(1, vR (some (a + 31 + 0))), (2, vR (some (a + 31 + 1))), (4, vI (nI (5 * t))), (5, vI x5), (6, vI (nI n'))] [vI 1] Q := by
  have e4 : nI (5 * t) + 4 = nI (5 * t + 4) := nI_add _ 4
  have old : ¬ (x5 = -3 ∧ n < n') → k_X (jL_isCommitted G l h0) H 237 [(1, vR (some (a + 31 + 0))), (2, vR (some (a + 31 + 1))), (4, vI (nI (5 * t))), (5, vI x5), (6, vI (nI n')), (7, vI 1)] [vI (nI (5 * t + 4)), vR (some (a + 31 + 1))] Q := by
    intro c
    refine bL_isCommitted_237 (X_atom (j := 1) W (by decide)) (by rw [e4]; exact rf_in (n := 20) (by omega) (by omega)) ?_
    rw [e4, tN (by omega)]
    rw [if_neg c] at K
    exact ic_end ht W (fun h => if_pos h) (fun h => if_neg h) K
  refine bL_isCommitted_211 (fun c => ?_) (fun c => ?_)
  · rw [e4]
    exact old (fun z => c z.1)
  · rw [e4]
    refine bL_isCommitted_225 (X_atom (j := 0) W (by decide)) (rf_in (k := 0) (n := 5) (by omega) (by omega)) (fun c2 => old (fun z => ?_)) (fun c2 => bL_isCommitted_233 ?_)
    · rw [show A 0 ((0 : Int32).toNatClampNeg) = nI n from hm] at c2
      have := (nI_leI (by omega) (by omega)).mp c2
      omega
    · rw [show A 0 ((0 : Int32).toNatClampNeg) = nI n from hm] at c2
      have hl : n < n' := Nat.lt_of_not_le fun z => c2 ((nI_leI (by omega) (by omega)).mpr z)
      rw [if_pos (show x5 = -3 ∧ n < n' from ⟨c, hl⟩)] at K
      exact ic_end ht W (fun h => if_pos h) (fun h => if_neg h) K
theorem X_isCommitted (ok : k_ok G l) (g0 : k_fh G = 0) (W : lp_X a A i q M H) (hi : i + 1 < 512) (ht : t < 3) (L : L_5 A M) :
    k_cti (tL_isCommitted G l) [vR (some a), vR (some (a + 31 + 0)), vR (some (a + 31 + 1)), vI (nI t)] H (fun H' v => (∃ A' M', lp_X a A' (i + 1) (q + 2) M' H' ∧ L_5 A' M' ∧ J_r M M' ∧ ((∀ j, 2 ≤ j → A' j = A j) ∧ A' 1 15 = A 1 15) ∧ (g_WT M').length = (g_WT M).length) ∧ v = 1) := by
  obtain ⟨Lm, Lb, Lt, S⟩ := L
  have e := X_e W (by omega)
  have n9 := e.2.2.1
  have e5 : (5 : Int32) * nI t = nI (5 * t) := rf_mul 5 t
  have hm0 : A 0 ((0 : Int32).toNatClampNeg) = nI (g_n M) := Lm.1
  have mk : ∀ {A' : lp_A} {q' : Nat} {H' : k_H}, lp_X a A' (i + 1) q' (F_commit M (nI t)).1 H' → A' 0 4 = A 0 4 → J_S (A' 0 4 = 0) (F_commit M (nI t)).1 ∧ J_r M (F_commit M (nI t)).1 := by
    intro A' q' H' W' h4
    rw [h4]
    exact J_step W (by omega) W' (by omega) S (JI_Commit e S.1 (by rw [t_nI (by omega)]; exact ht)) (Jk_commit (JS_y3 S.1)) (lz_commit e S.1 S.2.2.1)
  refine k_cti_of (eL_isCommitted ok.2 (bL_isCommitted_0 (a_6 ok g0 W (by omega)) ?_))
  rintro H1 _ ⟨W1, rfl⟩
  rw [e5]
  have e' := X_e W1 (by omega)
  refine bL_isCommitted_17 (X_is W1) (X_version ok g0 W1 (by omega)) ?_
  rintro H2 _ ⟨W2, rfl⟩
  have a1 : ∀ k, k ≤ 4 → vp_in (nI (5 * t) + nI k) 20 := fun k hk => by rw [nI_add]; exact rf_in (by omega) (by omega)
  have t1 : ∀ k, k ≤ 4 → A 1 (nI (5 * t) + nI k).toNatClampNeg = A 1 (5 * t + k) := fun k hk => by rw [nI_add, tN (by omega)]
  have t0 : A 1 (nI (5 * t)).toNatClampNeg = A 1 (5 * t) := by rw [tN (by omega)]
  cases hb : (g_X M t).1.1 with
  | false =>
    have F : F_commit M (nI t) = (M, 2, 0) := (rf_t (by omega) hb).2.2.1
    rw [F] at W2 mk ⊢
    have z : A 1 (5 * t) = 0 := by rw [Lb t (by omega), hb]; rfl
    refine bL_isCommitted_23 (X_atom (j := 1) W2 (by decide)) (rf_in (n := 20) (by omega) (by omega)) (fun c => absurd (t0.trans z) c) (fun _ => bL_isCommitted_32 (fun c => absurd ((if_neg (by decide : ¬ (2 : Nat) = 0)).trans rc_6) c) (fun _ => bL_isCommitted_39 ?_))
    refine ic_211 ht W2 Lm.1 (by omega) (by show g_n M < 9000; omega) (fun H3 W3 => ⟨1, rfl, ⟨_, _, lp_Xm W3 (Nat.le_refl _) (by omega), ?_⟩, rfl⟩)
    have c3 : ¬ lp_code ((M, 2, 0) : s_M × Nat × Int32) x_I = -3 := by
      rw [show lp_code ((M, 2, 0) : s_M × Nat × Int32) x_I = -2000000003 from (if_neg (by decide : ¬ (2 : Nat) = 0)).trans rc_6]
      decide
    rw [if_neg (fun z => c3 z.1), if_neg c3]
    rw [if_neg (fun z => c3 z.1), if_neg c3] at W3
    obtain ⟨s1, s2⟩ := mk W3 (cA_j (by decide))
    refine ⟨⟨Lm_n Lm cA_0 (cA_j (by decide)) (cA_j (by decide)) (cA_j (by decide)) rfl rfl rfl, fun k hk => ?_, fun k hk hkb => ?_, s1⟩, s2, ⟨fun j hj => cA_2 hj, by rw [cA_1, if_neg (by omega), if_neg (by omega)]⟩, rfl⟩
    · rw [cA_1]
      by_cases h : 5 * k = 5 * t
      · rw [if_pos h, show k = t from by omega, hb]; rfl
      · rw [if_neg h, if_neg (by omega)]; exact Lb k hk
    · have hkt : ¬ k = t := fun z => by rw [z, hb] at hkb; cases hkb
      have := Lt k hk hkb
      rw [cA_1, cA_1, cA_1, cA_1, if_neg (by omega), if_neg (by omega), if_neg (by omega), if_neg (by omega), if_neg (by omega), if_neg (by omega), if_neg (by omega), if_neg (by omega)]
      exact this
  | true =>
    obtain ⟨l1, l3, l2, l2b, l4, ld⟩ := Lt t ht hb
    obtain ⟨rl, dl⟩ : (g_X M t).2.2.length < 2048 ∧ (g_X M t).1.2.2.2.2 ≤ g_n M := by
      obtain ⟨i', N, w, h, I⟩ := X_I W
      have := (lp_env I (by omega)).2.2.1
      exact ⟨this.2.1 t (by omega), (this.2.2.2 t (by omega)).2.2.1⟩
    have hra : (g_X M t).1.2.2.1 ≤ g_n M := e.2.2.2 t (by omega)
    obtain ⟨M', told, F, f1, f2, f3, f4, f5⟩ := f_cases (t := t) (by omega) hb n9 rl dl (e.2.2.2 t (by omega)) (fun h => (ld h).1)
    rw [F] at W2 mk e' ⊢
    have n9' : g_n M' + 1 < 9000 := e'.2.2.1
    have z : ¬ A 1 (5 * t) = 0 := by rw [Lb t (by omega), hb]; decide
    have ec : lp_code (M', 0, told) x_I = told := rfl
    rw [ec]
    refine bL_isCommitted_23 (X_atom (j := 1) W2 (by decide)) (rf_in (n := 20) (by omega) (by omega)) (fun _ => ?_) (fun c => absurd (t0.symm.trans c) z)
    have fin : ∀ H3, lp_X a A (i + 1) (q + 2) M' H3 → k_X (jL_isCommitted G l H) H3 211 [(1, vR (some (a + 31 + 0))), (2, vR (some (a + 31 + 1))), (4, vI (nI (5 * t))), (5, vI told), (6, vI (nI (g_n M')))] [vI 1] (q_i (fun H' v => (∃ A' M', lp_X a A' (i + 1) (q + 2) M' H' ∧ L_5 A' M' ∧ J_r M M' ∧ ((∀ j, 2 ≤ j → A' j = A j) ∧ A' 1 15 = A 1 15) ∧ (g_WT M').length = (g_WT M).length) ∧ v = 1)) := by
      intro H3 W3
      refine ic_211 ht W3 Lm.1 (by omega) (by omega) (fun H4 W4 => ⟨1, rfl, ⟨_, _, W4, ?_⟩, rfl⟩)
      obtain ⟨s1, s2⟩ := mk W4 (cA_j (by decide))
      have A0 := Lb t (by omega)
      rw [hb] at A0
      refine ⟨⟨Lm_n Lm cA_0 (cA_j (by decide)) (cA_j (by decide)) (cA_j (by decide)) f3 f1 f2, fun k hk => ?_, fun k hk hkb => ?_, s1⟩, s2, ⟨fun j hj => cA_2 hj, by rw [cA_1, if_neg (by omega), if_neg (by omega)]⟩, f3⟩
      · rw [cA_1]
        by_cases h : 5 * k = 5 * t
        · rw [if_pos h, show k = t from by omega]
          rcases f5 with ⟨-, c, d, -⟩ | ⟨-, d, -, c⟩ | ⟨-, d, -, c⟩ | ⟨-, c, -, d⟩ | ⟨-, c, -, d⟩
          · rw [d, c, if_neg (nI_n3 (by omega))]; rfl
          · rw [d]
            rcases c with c | ⟨c, -⟩ | ⟨-, c⟩
            · rw [c, if_neg (by decide)]; rfl
            · rw [c, if_neg (by decide)]; rfl
            · rw [c, if_neg (nI_n3 (by omega))]; rfl
          · rw [d, c, if_neg (nI_n3 (by omega))]; rfl
          · rw [if_pos c, d, hb]; exact A0
          · rw [if_pos c, d]
            show A 1 (5 * t) = kB (g_X M t).1.1
            rw [hb]; exact A0
        · rw [if_neg h, if_neg (by omega), f4 k (by omega)]; exact Lb k hk
      · by_cases hkt : k = t
        · rw [hkt] at hkb ⊢
          rw [cA_1, cA_1, cA_1, cA_1, if_neg (by omega), if_neg (by omega), if_neg (by omega), if_neg (by omega), if_neg (by omega), if_neg (by omega), if_neg (by omega), if_pos rfl]
          rcases f5 with ⟨-, -, d, -⟩ | ⟨-, d, -⟩ | ⟨-, d, -⟩ | ⟨-, c, n', d⟩ | ⟨hl, c, n', d⟩
          · rw [d] at hkb; cases hkb
          · rw [d] at hkb; cases hkb
          · rw [d] at hkb; cases hkb
          · rw [d, if_neg (fun z => by omega)]
            exact ⟨l1, l3, l2, l2b, l4, ld⟩
          · rw [d, if_pos ⟨c, by omega⟩]
            exact ⟨l1, l3, l2, l2b, (if_pos (Nat.succ_pos _)).symm, fun _ => ⟨hl, Nat.lt_succ_of_le (e.2.2.2 t (by omega))⟩⟩
        · have hk2 := f4 k hkt
          rw [hk2] at hkb ⊢
          have := Lt k hk hkb
          rw [cA_1, cA_1, cA_1, cA_1, if_neg (by omega), if_neg (by omega), if_neg (by omega), if_neg (by omega), if_neg (by omega), if_neg (by omega), if_neg (by omega), if_neg (by omega)]
          exact this
    have fin6 := fun H3 W3 => bL_isCommitted_206 (fin H3 W3)
    have W2' := lp_Xm (q' := q + 2) W2 (Nat.le_refl _) (by omega)
    have T1 : A 1 ((nI (5 * t)) + 1).toNatClampNeg = A 1 (5 * t + 1) := t1 1 (by omega)
    have T2 : A 1 ((nI (5 * t)) + 2).toNatClampNeg = A 1 (5 * t + 2) := t1 2 (by omega)
    have T3 : A 1 ((nI (5 * t)) + 3).toNatClampNeg = A 1 (5 * t + 3) := t1 3 (by omega)
    have T4 : A 1 ((nI (5 * t)) + 4).toNatClampNeg = A 1 (5 * t + 4) := t1 4 (by omega)
    have in0 : vp_in 0 5 := rf_in (k := 0) (n := 5) (by omega) (by omega)
    by_cases hl : (g_X M t).2.1.length = 0
    · have z3 : A 1 (5 * t + 3) = 0 := by rw [l3, hl]; rfl
      rcases f5 with ⟨-, c, d, n'⟩ | ⟨h, -⟩ | ⟨h, -⟩ | ⟨h, -⟩ | ⟨h, -⟩
      · refine bL_isCommitted_47 (X_atom (j := 1) W2 (by decide)) (a1 3 (by omega)) (fun z => absurd (T3.trans z3) z) (fun _ => bL_isCommitted_56 (X_atom (j := 1) W2 (by decide)) (a1 1 (by omega)) (fun z => absurd (c.trans (l1.symm.trans T1.symm)) z) (fun _ => bL_isCommitted_67 (X_atom (j := 0) W2 (by decide)) in0 (fun z => absurd ((congrArg nI n').trans hm0.symm) z) (fun _ => bL_isCommitted_75 (fin _ W2'))))
      all_goals omega
    · have z3 : ¬ A 1 (5 * t + 3) = 0 := by
        rw [l3]
        intro z
        have := congrArg Int32.toInt z
        rw [nI_toInt (by omega), show (0 : Int32).toInt = 0 from by decide] at this
        omega
      refine bL_isCommitted_47 (X_atom (j := 1) W2 (by decide)) (a1 3 (by omega)) (fun _ => ?_) (fun z => absurd (T3.symm.trans z) z3)
      have e01 : A 0 ((0 : Int32).toNatClampNeg) + 1 = nI (g_n M + 1) := by rw [hm0]; exact nI_add _ 1
      have nn : ∀ {x : Int32}, x.toInt < 0 → ¬ x = A 0 ((0 : Int32).toNatClampNeg) + 1 := fun {x} hx z => by
        rw [e01] at z
        rw [z, nI_toInt (by omega)] at hx
        omega
      rcases f5 with ⟨h, -⟩ | ⟨-, d, n', c⟩ | ⟨-, d, n', c⟩ | ⟨-, c, n', d⟩ | ⟨-, c, n', d⟩
      · exact absurd h hl
      · have v0 : nI (g_n M') = A 0 ((0 : Int32).toNatClampNeg) := (congrArg nI n').trans hm0.symm
        rcases c with c | ⟨c, r0, k, hk, hw⟩ | ⟨d0, c⟩
        · exact bL_isCommitted_83 (X_atom (j := 0) W2 (by decide)) in0 (fun _ => bL_isCommitted_100 (fun _ => bL_isCommitted_137 (fun z => absurd c z) (fun _ => bL_isCommitted_144 (X_atom (j := 0) W2 (by decide)) in0 (fun _ => fin6 _ W2') (fun z => absurd v0 z))) (fun z => absurd (c.symm.trans z) (by decide))) (fun z => absurd z (nn (by rw [c]; decide)))
        · refine bL_isCommitted_83 (X_atom (j := 0) W2 (by decide)) in0 (fun _ => bL_isCommitted_100 (fun z => absurd c z) (fun _ => bL_isCommitted_106 (X_atom (j := 1) W2 (by decide)) (a1 2 (by omega)) (a1 4 (by omega)) (fun z => absurd z ?_) (fun _ => bL_isCommitted_122 (X_is W2) (X_why ok g0 W2 (by omega)) ?_))) (fun z => absurd z (nn (by rw [c]; decide)))
          · rw [T2, T4, l2 r0, l4]
            split <;> decide
          · rintro H3 _ ⟨W3, rfl⟩
            exact bL_isCommitted_126 (fun z => absurd z (by rw [hw]; exact nI_pos (by omega))) (fun _ => bL_isCommitted_129 (X_atom (j := 0) W3 (by decide)) in0 (fun _ => fin6 _ W3) (fun z => absurd v0 z))
        · obtain ⟨dl0, dl1⟩ := ld d0
          have z4 : A 1 (5 * t + 4) = 1 := by rw [l4, if_pos d0]
          refine bL_isCommitted_83 (X_atom (j := 0) W2 (by decide)) in0 (fun _ => bL_isCommitted_100 (fun _ => bL_isCommitted_137 (fun _ => bL_isCommitted_152 (fun _ => bL_isCommitted_169 (X_atom (j := 1) W2 (by decide)) (a1 4 (by omega)) (fun z => absurd (T4.trans z4) z) (fun _ => bL_isCommitted_179 (X_atom (j := 1) W2 (by decide)) (a1 1 (by omega)) (fun z => ?_) (fun _ => bL_isCommitted_190 (X_atom (j := 0) W2 (by decide)) in0 (fun z => ?_) (fun _ => bL_isCommitted_198 (X_atom (j := 0) W2 (by decide)) in0 (fun z => absurd v0 z) (fun _ => fin6 _ W2'))))) (fun z => ?_)) (fun z => ?_)) (fun z => ?_)) (fun z => ?_)
          · rw [c, T1, l1] at z
            have := (nI_leI (by omega) (by omega)).mp z
            omega
          · rw [c, hm0] at z
            have := (nI_ltI (by omega) (by omega)).mp z
            omega
          · rw [c] at z; exact absurd z (nI_n3 (by omega))
          · rw [c] at z
            have := congrArg Int32.toInt z
            rw [nI_toInt (by omega), show (-2 : Int32).toInt = -2 from by decide] at this
            omega
          · rw [c] at z
            have := congrArg Int32.toInt z
            rw [nI_toInt (by omega), show (-1 : Int32).toInt = -1 from by decide] at this
            omega
          · rw [c, e01] at z
            have := (nI_eq (by omega) (by omega)).mp z
            omega
      · exact bL_isCommitted_83 (X_atom (j := 0) W2 (by decide)) in0 (fun z => absurd (c.trans e01.symm) z) (fun _ => bL_isCommitted_93 (fun _ => fin6 _ W2') (fun z => absurd ((congrArg nI n').trans c.symm) z))
      all_goals
        have lt2 : nI (g_n M') - A 0 ((0 : Int32).toNatClampNeg) < 2 := by
          rw [hm0, nI_sub (by omega)]
          exact (nI_ltI (b := 2) (by omega) (by omega)).mpr (by omega)
        exact bL_isCommitted_83 (X_atom (j := 0) W2 (by decide)) in0 (fun _ => bL_isCommitted_100 (fun _ => bL_isCommitted_137 (fun _ => bL_isCommitted_152 (fun z => absurd c z) (fun _ => bL_isCommitted_159 (X_atom (j := 0) W2 (by decide)) in0 (fun _ => fin6 _ W2') (fun z => absurd lt2 z))) (fun z => absurd (c.symm.trans z) (by decide))) (fun z => absurd (c.symm.trans z) (by decide))) (fun z => absurd z (nn (by rw [c]; decide)))
end ISC
