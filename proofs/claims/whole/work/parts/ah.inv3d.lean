/-! .. and saves -/
theorem sv_ind2 {P : s_M → Prop} {t : Nat} {n : Int32} {saves : Bool} {field old : Int32} (hkc : ∀ M k c v p, (k = 6 ∨ k = 0 ∨ k = 1 ∨ k = 2) → c + 1 < 2 ^ 60 → P M → P (g_kc M t k c v p)) (hrk : ∀ M c, P M → P (g_rk M t c)) (hsd : ∀ M n, P M → P (g_sdr M t n)) {M : s_M} (hs : ∀ M, P M → ∀ x ∈ sv_seen M t n, x.1 + 1 < 2 ^ 60)
    (hc : s_cd (-3) field 10000 + 1 < 2 ^ 60 ∧ s_cd (-2) field n + 1 < 2 ^ 60 ∧ s_cd (-4) 0 n + 1 < 2 ^ 60 ∧ sv_re n + 1 < 2 ^ 60) (ho : o_told (g_see M t (sv_re n)).1 = old) (hold : s_cd (-3) old 10000 + 1 < 2 ^ 60 ∧ s_cd (-2) old n + 1 < 2 ^ 60) (h : P M) : P (sv_w M t n saves field).1 := by
  have h1 : ∀ (c : Bool) (k : Int32) (cd : Nat) (v p : Int32) (M : s_M), (k = 6 ∨ k = 0 ∨ k = 1 ∨ k = 2) → cd + 1 < 2 ^ 60 → P M → P (sv_1 c t k cd v p M) := by
    intro c k cd v p M hk hcd h
    unfold sv_1
    split
    · exact hkc _ _ _ _ _ hk hcd h
    · exact h
  have hcls : ∀ (X : List k_K2) (M : s_M), (∀ x ∈ X, x.1 + 1 < 2 ^ 60) → P M → P (g_cls t X M) := by
    intro X
    unfold g_cls
    induction X with
    | nil => intro M _ h; exact h
    | cons x X ih => intro M hX h; exact ih _ (fun y hy => hX y (List.mem_cons_of_mem _ hy)) (hkc _ _ _ _ _ (Or.inr (Or.inr (Or.inl rfl))) (hX x List.mem_cons_self) h)
  have hq : ∀ (c : Bool) (M : s_M), P M → P (sv_q c t n M) := by
    intro c M h
    unfold sv_q
    split
    · exact hcls _ _ (hs _ (hsd _ _ h)) (hsd _ _ h)
    · exact h
  have h4 : P (sv_r4 M t n) := hrk _ _ (hrk _ _ (hrk _ _ (hrk _ _ h)))
  obtain ⟨c1, c2, c3, c4⟩ := hc
  obtain ⟨d1, d2⟩ := hold
  unfold sv_w
  split
  · exact h4
  · unfold sv_all sv_p sv_f
    rw [ho]
    refine hkc _ _ _ _ _ ?_ c4 (h1 _ _ _ _ _ _ (Or.inl rfl) c3 (hq _ _ (h1 _ _ _ _ _ _ (Or.inr (Or.inr (Or.inr rfl))) c1 (h1 _ _ _ _ _ _ (Or.inr (Or.inr (Or.inr rfl))) d1 (h1 _ _ _ _ _ _ (Or.inr (Or.inl rfl)) c2 (h1 _ _ _ _ _ _ (Or.inr (Or.inr (Or.inl rfl))) d2 h4))))))
    cases saves
    · exact Or.inr (Or.inr (Or.inl rfl))
    · exact Or.inr (Or.inl rfl)
