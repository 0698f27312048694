/-! THE LAW'S INVARIANT, between its rows and the state -/
def L_t (A : lp_A) (M : s_M) : Prop := ∀ k, k < 3 → (g_X M k).1.1 = true → A 1 (5 * k + 1) = nI (g_X M k).1.2.2.1 ∧ A 1 (5 * k + 3) = nI (min 12 (g_X M k).2.1.length) ∧ (¬ (g_X M k).2.2 = [] → A 1 (5 * k + 2) = 1) ∧ (A 1 (5 * k + 2) = 0 ∨ A 1 (5 * k + 2) = 1) ∧ A 1 (5 * k + 4) = (if 0 < (g_X M k).1.2.2.2.2 then 1 else 0) ∧ (0 < (g_X M k).1.2.2.2.2 → 0 < (g_X M k).2.1.length ∧ (g_X M k).1.2.2.1 < (g_X M k).1.2.2.2.2)
def J_S (wf : Prop) (M : s_M) : Prop := J_I wf M ∧ J_p M ∧ J_z M
def L_5 (A : lp_A) (M : s_M) : Prop := L_m A M ∧ L_b A M ∧ L_t A M ∧ J_S (A 0 4 = 0) M
def L_w (A : lp_A) (M : s_M) : Prop := ∀ (k : Nat) (w : Nat × Int32), (g_WT M)[k]? = some w → A 4 k = w.2 ∧ ∃ u, u ≤ g_n M ∧ A 3 k = nI u
def L_h (A : lp_A) (M : s_M) (n : Nat) : Prop := ∀ s, s < 20 → s < n → ∃ v y, v ≤ g_n M ∧ y < 1000 ∧ A 2 (3 * s) = nI v ∧ A 2 (3 * s + 1) = nI y ∧ A 2 (3 * s + 2) = o_told (g_U M v (h_c y))
/-- what a turn's calls leave -/
def L_P (A : lp_A) (M : s_M) (A' : lp_A) (M' : s_M) : Prop := L_5 A' M' ∧ J_r M M' ∧ (A' 2 = A 2 ∧ A' 1 15 = A 1 15) ∧ ∃ Mp, L_w A' Mp ∧ J_r Mp M' ∧ (g_WT Mp).length = (g_WT M').length
theorem lq_eq {A : lp_A} {j : Nat} {f : Nat → Int32} : lp_set A j f j = f := if_pos rfl
theorem lq_ne {A : lp_A} {j k : Nat} {f : Nat → Int32} (h : ¬ k = j) : lp_set A j f k = A k := if_neg h
theorem vu_eq {f : Nat → Int32} {k : Nat} {v : Int32} : va_up f k v k = v := if_pos rfl
theorem vu_ne {f : Nat → Int32} {j k : Nat} {v : Int32} (h : ¬ j = k) : va_up f k v j = f j := if_neg h
theorem kB_01 (b : Bool) : kB b = 0 ∨ kB b = 1 := by cases b <;> simp [kB]
section LV
variable {G : k_G} {l : Launch} {a i q : Nat} {A : lp_A} {M : s_M} {H : k_H}
theorem Lm_n {A A' : lp_A} {M M' : s_M} (h : L_m A M) (h0 : A' 0 0 = nI (g_n M')) (h1 : A' 0 1 = A 0 1) (h2 : A' 0 2 = A 0 2) (h3 : A' 0 3 = A 0 3) (e1 : (g_WT M').length = (g_WT M).length) (e2 : g_MK M' = g_MK M) (e3 : g_DS M' = g_DS M) : L_m A' M' :=
  ⟨h0, by rw [h1, e1]; exact h.2.1, by rw [h2, e2]; exact h.2.2.1, by rw [h3, e3]; exact h.2.2.2⟩
theorem Lb_X {A A' : lp_A} {M M' : s_M} (h : L_b A M) (e : A' 1 = A 1) (hX : g_X M' = g_X M) : L_b A' M' := fun k hk => by rw [e, hX]; exact h k hk
theorem Lt_X {A A' : lp_A} {M M' : s_M} (h : L_t A M) (e : A' 1 = A 1) (hX : g_X M' = g_X M) : L_t A' M' := fun k hk => by rw [e, hX]; exact h k hk
theorem J_step {A' : lp_A} {M' : s_M} {H' : k_H} {i' q' : Nat} {wf wf' : Prop} (W : lp_X a A i q M H) (hi : i < 512) (W' : lp_X a A' i' q' M' H') (hi' : i' < 512) (S : J_S wf M) (JI : J_I wf' M') (K : J_k M M') (hL : lz (g_E M').2.1) : J_S wf' M' ∧ J_r M M' := by
  obtain ⟨i2, N, w, h2, I⟩ := X_I W
  have e := X_e W hi
  have e' := X_e W' hi'
  exact ⟨⟨JI, Jp_k I e e'.1 K S.2.1, Jz_k e'.1 K hL S.2.2⟩, Jr_k K⟩
theorem JS_y3 {wf : Prop} (S : J_I wf M) : ∀ t, t < 4 → ∀ y ∈ s_CS M t, y3 y := fun t ht y hy => by
  by_cases h : t = 3
  · rw [h, S.2.2.1] at hy; cases hy
  · exact (S.2.1 t (by omega)).1 y hy
/-! .. commit -/
theorem lz_commit {wf : Prop} {x : Int32} (e : J_e M) (S : J_I wf M) (h : lz (g_E M).2.1) : lz (g_E (F_commit M x).1).2.1 := by
  unfold F_commit
  split
  · exact h
  · rename_i h1
    split
    · exact h
    · have ht := z_t4 (eq_true_of_ne_false h1)
      have step : lz (g_E (f_cmd M (t_of x)).1).2.1 := by
        unfold f_cmd
        repeat' split
        all_goals first | exact h | exact lz_all (by have := e.2.2.1; omega) h (JS_y3 S _ ht)
      unfold f_commit
      split
      · exact h
      · split
        · exact step
        · exact step
/-- what a commit of a transaction that's begun tells and leaves -/
theorem f_cases {t : Nat} (ht : t < 4) (hb : (g_X M t).1.1 = true) (n9 : g_n M + 1 < 9000) (hr : (g_X M t).2.2.length < 2048) (hd : (g_X M t).1.2.2.2.2 ≤ g_n M) (hra : (g_X M t).1.2.2.1 ≤ g_n M) (hp : 0 < (g_X M t).1.2.2.2.2 → 0 < (g_X M t).2.1.length) :
    ∃ (M' : s_M) (told : Int32), F_commit M (nI t) = (M', 0, told) ∧ g_MK M' = g_MK M ∧ g_DS M' = g_DS M ∧ (g_WT M').length = (g_WT M).length ∧ (∀ u, ¬ u = t → g_X M' u = g_X M u) ∧
      (((g_X M t).2.1.length = 0 ∧ told = nI (g_X M t).1.2.2.1 ∧ (g_X M' t).1.1 = false ∧ g_n M' = g_n M) ∨
       (0 < (g_X M t).2.1.length ∧ (g_X M' t).1.1 = false ∧ g_n M' = g_n M ∧ (told = -2 ∨ (told = -1 ∧ ¬ (g_X M t).2.2 = [] ∧ ∃ k, k < 2048 ∧ g_why M' = nI k) ∨ (0 < (g_X M t).1.2.2.2.2 ∧ told = nI (g_X M t).1.2.2.2.2))) ∨
       (0 < (g_X M t).2.1.length ∧ (g_X M' t).1.1 = false ∧ g_n M' = g_n M + 1 ∧ told = nI (g_n M + 1)) ∨
       (0 < (g_X M t).2.1.length ∧ told = -3 ∧ g_n M' = g_n M ∧ g_X M' t = g_X M t) ∨
       (0 < (g_X M t).2.1.length ∧ told = -3 ∧ g_n M' = g_n M + 1 ∧ g_X M' t = g_dn (g_X M t) (g_n M + 1))) := by
  have F : F_commit M (nI t) = ((f_commit M t).1, 0, (f_commit M t).2) := by
    unfold F_commit
    rw [if_neg (in_4 ht), t_nI (by omega), if_neg (by rw [hb]; decide)]
  refine ⟨_, _, F, ?_⟩
  have ov : ∀ {M1 : s_M} {x : s_X}, (g_X (g_tx M1 t (g_ov x)) t).1.1 = false := fun {M1 x} => by rw [tx_at]; rfl
  have ne : ∀ {M1 : s_M} {x : s_X} {u : Nat}, ¬ u = t → g_X (g_tx M1 t x) u = g_X M1 u := fun {M1 x u} h => if_neg h
  unfold f_commit
  by_cases c1 : (g_X M t).1.2.1 = true ∧ 0 < (g_X M t).1.2.2.2.2
  · rw [if_pos c1]
    exact ⟨rfl, rfl, rfl, fun u hu => ne hu, Or.inr (Or.inl ⟨hp c1.2, ov, rfl, Or.inr (Or.inr ⟨c1.2, rfl⟩)⟩)⟩
  · rw [if_neg c1]
    unfold f_cmd
    by_cases c2 : (g_X M t).2.1.length = 0
    · rw [if_pos c2]
      show _ ∧ _ ∧ _ ∧ _ ∧ _
      have h3 : ¬ nI (g_X M t).1.2.2.1 = -3 := nI_n3 (by omega)
      rw [if_neg h3]
      exact ⟨rfl, rfl, rfl, fun u hu => ne hu, Or.inl ⟨c2, rfl, ov, rfl⟩⟩
    · rw [if_neg c2]
      have c2' : 0 < (g_X M t).2.1.length := by omega
      by_cases c3 : 30 < g_n M - (g_X M t).1.2.2.1 ∨ ¬ (g_X M t).1.2.2.2.1 = g_gen M
      · rw [if_pos c3, if_neg (show ¬ (-2 : Int32) = -3 by decide)]
        exact ⟨rfl, rfl, rfl, fun u hu => ne hu, Or.inr (Or.inl ⟨c2', ov, rfl, Or.inl rfl⟩)⟩
      · rw [if_neg c3]
        cases hf : (g_X M t).2.2.findIdx? (s_met (g_X M t).2.1 (g_X M t).1.2.2.1 (g_E M).2.1 (g_E M).2.2) with
        | some k =>
          have hk := (List.findIdx?_eq_some_iff_getElem.mp hf).1
          show _ ∧ _ ∧ _ ∧ _ ∧ _
          simp only [if_neg (show ¬ (-1 : Int32) = -3 by decide)]
          refine ⟨rfl, rfl, rfl, fun u hu => (ne hu : _), Or.inr (Or.inl ⟨c2', ov, rfl, Or.inr (Or.inl ⟨True.intro, ?_, k, by omega, rfl⟩)⟩)⟩
          intro z
          rw [z] at hk
          exact absurd hk (Nat.not_lt_zero _)
        | none =>
          show _ ∧ _ ∧ _ ∧ _ ∧ _
          by_cases c4 : g_los M = 2
          · simp only [if_pos c4]
            rw [if_pos True.intro]
            exact ⟨rfl, rfl, rfl, fun u hu => rfl, Or.inr (Or.inr (Or.inr (Or.inl ⟨c2', rfl, rfl, rfl⟩)))⟩
          · simp only [if_neg c4]
            by_cases c5 : g_los M = 1
            · simp only [if_pos c5]
              rw [if_pos True.intro]
              refine ⟨rfl, rfl, List.length_map _, fun u hu => (ne hu : _), Or.inr (Or.inr (Or.inr (Or.inr ⟨c2', rfl, rfl, ?_⟩)))⟩
              rw [tx_at]
            · simp only [if_neg c5]
              rw [if_neg (nI_n3 (by omega))]
              exact ⟨rfl, rfl, List.length_map _, fun u hu => (ne hu).trans (ne hu), Or.inr (Or.inr (Or.inl ⟨c2', ov, rfl, rfl⟩))⟩
end LV
