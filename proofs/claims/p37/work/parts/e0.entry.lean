/-! THE LAW'S ENTRY -/
def l_h0 (a : Nat) : k_H := (fun _ => none, a, 0)
def l_hA (a : Nat) : k_H := k_nw (l_h0 a) 13 (k_o 14 c_o0)
def l_h1 (a : Nat) : k_H := c_in a (c_f0 a) 141 (l_hA a)
def l_A0 : lp_A := fun _ _ => 0
def l_r (h : k_H) (n : Nat) : k_H := k_nw h n (k_i n (fun _ => 0))
theorem hA_wf (a : Nat) : k_wf (l_hA a) := by
  intro q c e
  show q < a + 1
  have e2 : (if q = a then some (k_o 14 c_o0) else none) = some c := e
  by_cases z : q = a
  · omega
  · rw [if_neg z] at e2
    cases e2
theorem hA_n (a : Nat) : (l_hA a).2.1 = a + 1 := rfl
theorem W_shift {a N w : Nat} {B : Nat × Nat} {h : k_H} {M : s_M} (W : c_W a B h M N w) (k n : Nat) : c_W a (B.1 + k, B.2 + n) (k_sk h k n) M N w := by
  obtain ⟨Q, S, PS, s, r, p, c1, c2, c3⟩ := W
  have m : k_mo a [] (fun _ => False) (k + n) h (k_sk h k n) := by
    refine ⟨fun _ _ h _ _ => h, fun z q c e => Nat.lt_of_lt_of_le (z q c e) (Nat.le_add_right _ _), Nat.le_add_right _ _, ?_, ?_, fun _ _ h => h⟩
    · show h.2.1 + k + kT kg1 a h ≤ h.2.1 + kT kg1 a h + (k + n)
      omega
    · show h.2.2 + n + kT kg2 a h ≤ h.2.2 + kT kg2 a h + 6 * (k + n)
      omega
  refine ⟨Q, S, PS, sE_fr s m (by simp) (fun _ _ _ z => z) (fun _ _ _ _ _ z => z), rs_fr r m (fun k hk => by cases hk) (fun _ _ _ z => z) (fun _ _ _ _ _ z => z), p, ?_, ?_, c3⟩
  · show h.2.1 + k ≤ B.1 + k + kT kg1 a h + (S + N)
    omega
  · show h.2.2 + n ≤ B.2 + n + kT kg2 a h + 6 * (S + N)
    omega
theorem l_W (a : Nat) : c_W a (lp_B a) (k_sk (l_h1 a) 5 125) g_0 0 0 := W_shift (W_0 (hA_wf a) (hA_n a)) 5 125
theorem l_cn (a : Nat) : k_cn (a + 31) (a + 36) (k_sk (l_h1 a) 5 125) := by
  intro q z1 z2
  show (if a ≤ q ∧ q < a + 31 then (c_f0 a).getD (q - a) none else if q = a then some (k_o 14 c_o0) else none) = none
  rw [if_neg (by omega), if_neg (by omega)]
theorem l_rows (a : Nat) : l_r (l_r (l_r (l_r (l_r (l_h1 a) 5) 20) 60) 20) 20 = lp_hp a l_A0 false (k_sk (l_h1 a) 5 125) := by
  refine Prod.ext (funext fun q => ?_) rfl
  show (if q = a + 31 + 1 + 1 + 1 + 1 then some (k_i 20 (fun _ => 0)) else if q = a + 31 + 1 + 1 + 1 then some (k_i 20 (fun _ => 0)) else if q = a + 31 + 1 + 1 then some (k_i 60 (fun _ => 0)) else if q = a + 31 + 1 then some (k_i 20 (fun _ => 0)) else if q = a + 31 then some (k_i 5 (fun _ => 0)) else (l_h1 a).1 q) = if a + 31 ≤ q ∧ q < a + 36 then some (lp_c (a + 31) l_A0 q) else if false = true ∧ q = (k_sk (l_h1 a) 5 125).2.1 then some (k_l [] (2 ^ 30)) else (l_h1 a).1 q
  by_cases h : a + 31 ≤ q ∧ q < a + 36
  · rw [if_pos h]
    unfold lp_c lp_sz l_A0
    by_cases h4 : q = a + 31 + 1 + 1 + 1 + 1
    · rw [if_pos h4, if_neg (by omega), if_neg (by omega)]
    · rw [if_neg h4]
      by_cases h3 : q = a + 31 + 1 + 1 + 1
      · rw [if_pos h3, if_neg (by omega), if_neg (by omega)]
      · rw [if_neg h3]
        by_cases h2 : q = a + 31 + 1 + 1
        · rw [if_pos h2, if_neg (by omega), if_pos (by omega)]
        · rw [if_neg h2]
          by_cases h1 : q = a + 31 + 1
          · rw [if_pos h1, if_neg (by omega), if_neg (by omega)]
          · rw [if_neg h1, if_pos (by omega), if_pos (by omega)]
  · rw [if_neg h, if_neg (show ¬ (false = true ∧ q = (k_sk (l_h1 a) 5 125).2.1) from fun z => by cases z.1), if_neg (by omega), if_neg (by omega), if_neg (by omega), if_neg (by omega), if_neg (by omega)]
theorem I_20 : ∀ k : Nat, i_I k g_0 0 0
  | 0 => I_g0
  | k + 1 => I_0 (I_20 k) (Nat.zero_le _)
theorem l_X (a : Nat) : lp_X a l_A0 20 0 g_0 (l_r (l_r (l_r (l_r (l_r (l_h1 a) 5) 20) 60) 20) 20) := by
  rw [l_rows]
  exact ⟨20, 0, Nat.le_refl _, Nat.le_refl _, Nat.le_refl _, _, 0, 0, false, rfl, fun _ => l_cn a, Nat.le_refl _, l_W a, 0, I_20 20, Nat.le_refl _⟩
/-- the first state -/
theorem g0_U (v : Nat) : g_U g_0 v = fun _ => none := rfl
theorem jW_0 (n : Nat) : j_W n (fun _ => none) := by
  refine ⟨fun c v _ _ h => (by cases h), fun k v _ h => (by cases h), fun k u u' _ _ _ h => ?_⟩
  cases h
theorem jP_0 (n : Nat) : j_P n (fun _ => none) := by
  refine ⟨⟨fun c v _ _ h => (by cases h), fun c _ _ v => ⟨fun h => (by cases h), fun ⟨_, k, j, _, _, _, h, _⟩ => (by cases h)⟩, fun j _ => ?_⟩, fun c v _ _ h => (by cases h), fun c v _ h => (by cases h), fun c x _ h => (by cases h)⟩
  show (0 : Int32) = nI (j_c (fun _ => none) j)
  have : j_c (fun _ => none) j = 0 := by
    unfold j_c
    rw [List.countP_eq_zero]
    intro k _ h
    rw [Bool.and_eq_true] at h
    have := of_decide_eq_true h.1
    cases this
  rw [this]
  rfl
theorem l_JS (wf : Prop) : J_S wf g_0 := by
  refine ⟨⟨fun v _ => jP_0 v, fun t _ => ⟨fun y hy => (by cases hy), Nat.zero_le _, qT_nil rfl, fun _ => rfl⟩, rfl, fun _ => ⟨0, fun v _ => jW_0 v, fun x hx => (by cases hx), Nat.le_refl _, fun t _ h => (by cases h)⟩⟩, ⟨⟨Nat.zero_le _, True.intro⟩, ⟨True.intro, True.intro⟩, fun p hp => ?_⟩, fun x hx => (by cases hx), fun p hp => (by cases hp)⟩
  rw [List.mem_singleton.mp hp]
  exact Or.inl rfl
theorem JI_m3 {wf : Prop} {M : s_M} {r : List (Nat × Nat × Nat)} (I : J_I wf M) : J_I wf (m_3 M r) :=
  JI_tx3 I rfl rfl (fun u hu => if_neg hu) (Nat.le_refl _) (by show (g_X (m_3 M r) 3).2.1 = []; rw [m3_X])
section LEN
variable {G : k_G} {l : Launch} {a : Nat} {Q : k_H → k_R → Prop}
theorem x_law (ok : k_ok G l) (g0 : k_fh G = 0) (hz : k_z0 G < a) (hL : k_sL G < 2 ^ 31) (K : ∀ H', H'.2.1 ≤ a + 638100 → H'.2.2 ≤ 4700000 → Q H' (.inl (some (vI 1)))) : k_X (jL_law G l (l_h0 a)) (l_h0 a) 0 [(0, vR (some (k_sb G)))] [] Q := by
  refine bL_law_0 (bL_law_3 (c_X11_init ok (hA_wf a) (hA_n a) hz (k_nw_self (l_h0 a) 13 _)) ?_)
  intro h1 e1
  have e2 : h1 = l_h1 a := e1
  subst e2
  refine bL_law_7 (bL_law_11 (bL_law_16 (bL_law_21 (bL_law_27 ?_))))
  have W0 := l_X a
  refine bL_law_33 (X_atom (j := 0) W0 (by decide)) (in_5 (k := 3) (by omega)) ?_
  have W1 := X_put (j := 0) (f := va_up (l_A0 0) 3 1) W0 (by decide)
  have Lm : L_m (lp_set l_A0 0 (va_up (l_A0 0) 3 1)) g_0 := ⟨by rw [lq_eq, vu_ne (by decide)]; rfl, by rw [lq_eq, vu_ne (by decide)]; rfl, by rw [lq_eq, vu_ne (by decide)]; rfl, by rw [lq_eq, vu_eq]; rfl⟩
  have Lb : L_b (lp_set l_A0 0 (va_up (l_A0 0) 3 1)) g_0 := fun k _ => by rw [lq_ne (by decide)]; rfl
  have S0 := l_JS True
  refine bL_law_39 (X_isRefused (z := 0) ok g0 W1 (by omega) (by omega) Lm Lb) ?_
  rintro H2 _ ⟨W2, rfl⟩
  refine bL_law_46 (fun c => absurd c (by decide)) (fun _ => bL_law_49 (X_isRefused (z := 1) ok g0 W2 (by omega) (by omega) Lm Lb) ?_)
  rintro H3 _ ⟨W3, rfl⟩
  refine bL_law_56 (fun c => absurd c (by decide)) (fun _ => bL_law_59 (X_areParted ok g0 W3 (by omega) S0.2.1 S0.2.2) ?_)
  rintro H4 _ ⟨⟨r4, W4⟩, rfl⟩
  have J4 : J_I True (m_3 g_0 r4) := JI_m3 S0.1
  refine bL_law_63 (fun c => absurd c (by decide)) (fun _ => bL_law_66 (X_areIndexed (f := 50) (sure := true) ok g0 W4 (by omega) J4 (by omega) (fun _ => True.intro)) ?_)
  rintro H5 _ ⟨⟨r5, W5⟩, rfl⟩
  refine bL_law_74 (fun c => absurd c (by decide)) (fun _ => bL_law_77 (bL_law_82 (bL_law_84 (X_atom (j := 1) W5 (by decide)) (in_20 (k := 15) (by omega)) ?_)))
  have W6 := X_put (j := 1) (f := va_up (lp_set l_A0 0 (va_up (l_A0 0) 3 1) 1) 15 1) W5 (by decide)
  refine bL_law_89 ?_
  have m5 : ∀ k, ¬ k = 3 → g_X (m_3 (m_3 g_0 r4) r5) k = ((false, false, 0, 0, 0), [], []) := fun k hk => (if_neg hk).trans (if_neg hk)
  refine lc_loop ok g0 hL (fun H' A' M' W => ?_) 110 0 _ _ _ (Nat.zero_add _) (lp_Xm W6 (by decide) (by decide)) ⟨?_, fun k hk => ?_, fun k hk hkb => ?_, JI_m3 (JI_m3 (l_JS _).1), S0.2⟩ (fun k w hw => ?_) (fun s _ h => absurd h (Nat.not_lt_zero _)) (by rw [m3_X])
  · obtain ⟨b1, b2⟩ := X_end W (by decide) (by decide)
    exact K H' b1 b2
  · exact ⟨by rw [lq_ne (by decide)]; exact Lm.1, by rw [lq_ne (by decide)]; exact Lm.2.1, by rw [lq_ne (by decide)]; exact Lm.2.2.1, by rw [lq_ne (by decide)]; exact Lm.2.2.2⟩
  · rw [lq_eq]
    by_cases h : k = 3
    · rw [h, m3_X, vu_eq]; rfl
    · rw [m5 k h, vu_ne (by omega), lq_ne (by decide)]; rfl
  · rw [m5 k (by omega)] at hkb
    cases hkb
  · have hw : ([] : List (Nat × Int32))[k]? = some w := hw
    cases hw
end LEN
