/-! .. what is looked at behind a turn -/
def T_i (n : Nat) : Nat := 64 + 2 * n + 2 * ((n + 2) / 3) + 21 * ((n + 39) / 40)
def T_q (n : Nat) : Nat := 2000 + 600 * n
section LY
variable {G : k_G} {l : Launch} {a i q n t x ka hw : Nat} {A : lp_A} {M M0 : s_M} {H : k_H} {h0 : k_H} {Q : k_H → k_R → Prop} {z9 y9 kb : Int32}
theorem m3_L5 {r : List (Nat × Nat × Nat)} (L : L_5 A M) (h3 : (g_X M 3).1.1 = true) : L_5 A (m_3 M r) := by
  obtain ⟨Lm, Lb, Lt, S⟩ := L
  have ne : ∀ u, ¬ u = 3 → g_X (m_3 M r) u = g_X M u := fun u hu => if_neg hu
  refine ⟨Lm, fun k hk => ?_, fun k hk hkb => ?_, JI_tx3 S.1 rfl rfl ne (Nat.le_refl _) ?_, S.2.1, S.2.2⟩
  · by_cases h : k = 3
    · rw [h, m3_X, Lb 3 (by omega), h3]
    · rw [ne k h]; exact Lb k hk
  · rw [ne k (by omega)] at hkb ⊢
    exact Lt k hk hkb
  · show (g_X (m_3 M r) 3).2.1 = []
    rw [m3_X]
/-- the watches, one by one -/
theorem lc_watches (ok : k_ok G l) (g0 : k_fh G = 0) (hi : i < 512) (L : L_5 A M) {Mp : s_M} (Lp : L_w A Mp) (r : J_r Mp M) (el : (g_WT Mp).length = (g_WT M).length) (n9 : g_n M < 9000)
    (K : ∀ H' g, lp_X a (lp_set A 4 g) i (q + 20) M H' → L_w (lp_set A 4 g) M → k_X (jL_law G l h0) H' 2135 [(0, vR (some (k_sb G))), (1, vR (some a)), (2, vR (some (a + 31 + 0))), (3, vR (some (a + 31 + 1))), (4, vR (some (a + 31 + 2))), (5, vR (some (a + 31 + 3))), (6, vR (some (a + 31 + 4))), (7, vI 1), (8, vI (nI n)), (9, vI z9), (11, vI y9)] [] Q) :
    ∀ (d k : Nat) (g : Nat → Int32) (H1 : k_H), k + d = (g_WT M).length → lp_X a (lp_set A 4 g) i (q + k) M H1 → (∀ j w, (g_WT M)[j]? = some w → g j = if j < k then w.2 else A 4 j) → k_X (jL_law G l h0) H1 2041 [(0, vR (some (k_sb G))), (1, vR (some a)), (2, vR (some (a + 31 + 0))), (3, vR (some (a + 31 + 1))), (4, vR (some (a + 31 + 2))), (5, vR (some (a + 31 + 3))), (6, vR (some (a + 31 + 4))), (7, vI 1), (8, vI (nI n)), (9, vI z9), (11, vI y9), (18, vI (nI k))] [] Q := by
  intro d
  induction d with
  | zero =>
    intro k g H1 hk W1 hg
    have ek : k = (g_WT M).length := by omega
    have w20 : (g_WT M).length ≤ 20 := by
      obtain ⟨i', N, w, h, I⟩ := X_I W1
      exact (lp_env I (by omega)).2.2.2.1.2.2
    have m1 : lp_set A 4 g 0 ((1 : Int32).toNatClampNeg) = nI (g_WT M).length := by rw [lq_ne (by decide)]; exact L.1.2.1
    refine bL_law_2041 (X_atom (j := 0) W1 (by decide)) (in_5 (k := 1) (by omega)) (fun _ => K H1 g (lp_Xm W1 (Nat.le_refl _) (by omega)) (fun j w hw => ?_)) (fun c => absurd (by rw [m1, ek]; exact (nI_leI (by omega) (by omega)).mpr (Nat.le_refl _)) c)
    have hj := (List.getElem?_eq_some_iff.mp hw).1
    rw [lq_eq, lq_ne (by decide), hg j w hw, if_pos (by omega)]
    obtain ⟨wp, hwp⟩ : ∃ wp, (g_WT Mp)[j]? = some wp := ⟨_, List.getElem?_eq_getElem (by omega)⟩
    obtain ⟨-, u, hu, e⟩ := Lp j wp hwp
    exact ⟨rfl, u, Nat.le_trans hu r.1, e⟩
  | succ d ih =>
    intro k g H1 hk W1 hg
    have w20 : (g_WT M).length ≤ 20 := by
      obtain ⟨i', N, w, h, I⟩ := X_I W1
      exact (lp_env I (by omega)).2.2.2.1.2.2
    have m1 : lp_set A 4 g 0 ((1 : Int32).toNatClampNeg) = nI (g_WT M).length := by rw [lq_ne (by decide)]; exact L.1.2.1
    have m0 : lp_set A 4 g 0 ((0 : Int32).toNatClampNeg) = nI (g_n M) := by rw [lq_ne (by decide)]; exact L.1.1
    obtain ⟨wp, hwp⟩ : ∃ wp, (g_WT Mp)[k]? = some wp := ⟨_, List.getElem?_eq_getElem (by omega)⟩
    obtain ⟨f4, u, hu, f3⟩ := Lp k wp hwp
    obtain ⟨w, hw, hr⟩ := r.2.2 k wp hwp
    have gk : g k = wp.2 := by rw [hg k w hw, if_neg (by omega), f4]
    have F : F_fired M (nI k) = (M, 0, w.2) := by
      unfold F_fired
      rw [if_neg (by rw [inB_j (by omega) (by omega)]; decide), t_nI (by omega), hw]
    refine bL_law_2041 (X_atom (j := 0) W1 (by decide)) (in_5 (k := 1) (by omega)) (fun c => absurd ?_ (Nat.not_le_of_lt (show k < (g_WT M).length by omega))) (fun _ => bL_law_2049 (fun c => absurd c (by decide)) (fun _ => bL_law_2054 (X_is W1) (X_fired ok g0 W1 hi (by rw [F])) ?_))
    · rw [m1] at c
      exact (nI_leI (by omega) (by omega)).mp c
    rintro H2 _ ⟨W2, rfl⟩
    rw [F]
    have nx : ∀ H3, lp_X a (lp_set A 4 g) i (q + k + 1) M H3 → k_X (jL_law G l h0) H3 2120 [(0, vR (some (k_sb G))), (1, vR (some a)), (2, vR (some (a + 31 + 0))), (3, vR (some (a + 31 + 1))), (4, vR (some (a + 31 + 2))), (5, vR (some (a + 31 + 3))), (6, vR (some (a + 31 + 4))), (8, vI (nI n)), (9, vI z9), (11, vI y9), (18, vI (nI k)), (19, vI w.2)] [vI 1] Q := by
      intro H3 W3
      refine bL_law_2120 (bL_law_2122 (X_atom (j := 4) W3 (by decide)) (in_20 (by omega)) ?_)
      rw [tN (by omega), lq_eq]
      have W4 := X_put (j := 4) (f := va_up g k w.2) W3 (by decide)
      rw [lq_twice] at W4
      refine bL_law_2129 ?_
      rw [show nI k + 1 = nI (k + 1) from nI_add k 1]
      refine ih (k + 1) _ _ (by omega) W4 (fun j w' hw' => ?_)
      by_cases h : j = k
      · rw [h] at hw' ⊢
        rw [hw] at hw'
        cases hw'
        rw [vu_eq, if_pos (by omega)]
      · rw [vu_ne h, hg j w' hw']
        by_cases h2 : j < k
        · rw [if_pos h2, if_pos (by omega)]
        · rw [if_neg h2, if_neg (by omega)]
    have gk' : lp_set A 4 g 4 (nI k).toNatClampNeg = wp.2 := by rw [lq_eq, tN (by omega), gk]
    refine bL_law_2060 ?_
    rcases hr with e | ⟨e1, v, v1, v2, e2⟩
    · refine bL_law_2062 (X_atom (j := 4) W2 (by decide)) (in_20 (by omega)) (fun _ => bL_law_2105 (X_atom (j := 4) W2 (by decide)) (in_20 (by omega)) (fun c => absurd (e.trans gk'.symm) c) (fun _ => bL_law_2115 (nx H2 W2))) (fun c => bL_law_2072 (fun _ => bL_law_2097 (nx H2 W2)) (fun c2 => absurd (e.trans (gk'.symm.trans c)) c2))
    · have nv : ¬ w.2 = -2147483648 := by rw [e2]; exact nI_none (by omega)
      refine bL_law_2062 (X_atom (j := 4) W2 (by decide)) (in_20 (by omega)) (fun c => absurd (gk'.trans e1) c) (fun _ => bL_law_2072 (fun c => absurd c nv) (fun _ => bL_law_2079 (X_atom (j := 3) W2 (by decide)) (in_20 (by omega)) (fun c => ?_) (fun _ => bL_law_2089 (X_atom (j := 0) W2 (by decide)) (in_5 (k := 0) (by omega)) (fun c => ?_) (fun _ => bL_law_2097 (nx H2 W2)))))
      · rw [lq_ne (by decide), tN (by omega), f3, e2] at c
        have := (nI_leI (by omega) (by omega)).mp c
        omega
      · rw [m0, e2] at c
        have := (nI_ltI (by omega) (by omega)).mp c
        omega
/-- the history, looked at -/
theorem lc_hist {s18 : Int32} (ok : k_ok G l) (g0 : k_fh G = 0) (hi : i < 512) (Lh : L_h A M n) (hn : n < 110)
    (K : ∀ H', lp_X a A i (q + 20) M H' → k_X (jL_law G l h0) H' 2205 [(0, vR (some (k_sb G))), (1, vR (some a)), (2, vR (some (a + 31 + 0))), (3, vR (some (a + 31 + 1))), (4, vR (some (a + 31 + 2))), (5, vR (some (a + 31 + 3))), (6, vR (some (a + 31 + 4))), (7, vI 1), (8, vI (nI n)), (9, vI z9), (11, vI y9), (18, vI s18)] [] Q) :
    ∀ (d s : Nat) (H1 : k_H), s + d = 20 → lp_X a A i (q + s) M H1 → k_X (jL_law G l h0) H1 2147 [(0, vR (some (k_sb G))), (1, vR (some a)), (2, vR (some (a + 31 + 0))), (3, vR (some (a + 31 + 1))), (4, vR (some (a + 31 + 2))), (5, vR (some (a + 31 + 3))), (6, vR (some (a + 31 + 4))), (7, vI 1), (8, vI (nI n)), (9, vI z9), (11, vI y9), (18, vI s18), (19, vI (nI (3 * s)))] [] Q := by
  intro d
  induction d with
  | zero =>
    intro s H1 hs W1
    have es : s = 20 := by omega
    subst es
    exact bL_law_2147 (fun _ => K H1 W1) (fun c => absurd (by decide) c)
  | succ d ih =>
    intro s H1 hs W1
    refine bL_law_2147 (fun _ => K H1 (lp_Xm W1 (Nat.le_refl _) (by omega))) (fun _ => bL_law_2154 (fun c => absurd c (by decide)) (fun _ => bL_law_2159 (fun _ => K H1 (lp_Xm W1 (Nat.le_refl _) (by omega))) (fun c => ?_)))
    have h19 : 19 < n := Nat.lt_of_not_le fun z => c ((nI_leI (b := 19) (by omega) (by omega)).mpr z)
    obtain ⟨v, y, hv, hy, a1, a2, a3⟩ := Lh s (by omega) (by omega)
    have e1 : nI (3 * s) + 1 = nI (3 * s + 1) := nI_add _ 1
    have e2 : nI (3 * s) + 2 = nI (3 * s + 2) := nI_add _ 2
    have e3 : nI (3 * s) + 3 = nI (3 * (s + 1)) := nI_add _ 3
    refine bL_law_2166 (X_atom (j := 2) W1 (by decide)) (in_60 (by omega)) (by rw [e1]; exact in_60 (by omega)) (by rw [e1, tN (by omega), tN (by omega), a1, a2]; exact X_was ok g0 W1 hi hv hy) ?_
    rintro H2 _ ⟨W2, rfl⟩
    refine bL_law_2182 (X_atom (j := 2) W2 (by decide)) (by rw [e2]; exact in_60 (by omega)) (fun c => absurd (by rw [e2, tN (by omega), a3]) c) (fun _ => bL_law_2192 (bL_law_2197 (bL_law_2199 ?_)))
    rw [e3]
    exact ih (s + 1) H2 (by omega) W2
end LY
