/-! CREDITS: what open work may still name */ -/
def z_4 (f : Nat → Nat) : Nat := f 0 + f 1 + f 2 + f 3
theorem z4_up {f g : Nat → Nat} {t : Nat} (ht : t < 4) (h : ∀ u, ¬ u = t → g u = f u) : z_4 g + f t = z_4 f + g t := by
  unfold z_4
  have hc : t = 0 ∨ t = 1 ∨ t = 2 ∨ t = 3 := by omega
  rcases hc with rfl | rfl | rfl | rfl
  · rw [h 1 (by decide), h 2 (by decide), h 3 (by decide)]; omega
  · rw [h 0 (by decide), h 2 (by decide), h 3 (by decide)]; omega
  · rw [h 0 (by decide), h 1 (by decide), h 3 (by decide)]; omega
  · rw [h 0 (by decide), h 1 (by decide), h 2 (by decide)]; omega
theorem z4_le {f g : Nat → Nat} (h : ∀ u, g u ≤ f u) : z_4 g ≤ z_4 f := by
  unfold z_4
  have := h 0; have := h 1; have := h 2; have := h 3
  omega
def z_cr (n : Nat) (x : s_X) : Nat :=
  if 12 ≤ z_sum z_s6 x.2.1 then (if 30 < n - x.1.2.2.1 then 0 else 13 + 2 * (30 - (n - x.1.2.2.1)))
  else if x.2.1.length = z_sum z_s6 x.2.1 then max (z_sum z_s6 x.2.1) (11 * z_sum z_s6 x.2.1 - 49) else z_sum z_s6 x.2.1
theorem s6_le (l : List k_CH) : z_sum z_s6 l ≤ l.length := by
  have := zs_le z_s6 (b := 1) l (fun x _ => by unfold z_s6; split <;> omega)
  omega
theorem zcr_n {n m : Nat} (x : s_X) (h : n ≤ m) : z_cr m x ≤ z_cr n x := by
  unfold z_cr
  split
  · split
    · exact Nat.zero_le _
    · rw [if_neg (by omega)]
      omega
  · exact Nat.le_refl _
theorem zcr_nil {n : Nat} {x : s_X} (h : x.2.1 = []) : z_cr n x = 0 := by
  unfold z_cr
  rw [h]
  rfl
theorem zcr_hd {n : Nat} {x y : s_X} (h : x.2.1 = y.2.1) (h2 : x.1.2.2.1 = y.1.2.2.1) : z_cr n x = z_cr n y := by
  unfold z_cr
  rw [h, h2]
/-- a done commit that ends the transaction, and one that is lost -/
theorem zcr_end {n : Nat} {x : s_X} (h12 : z_sum z_s6 x.2.1 ≤ 12) (hd : ¬ 30 < n - x.1.2.2.1) : 2 * z_sum z_s6 x.2.1 ≤ z_cr n x + 11 := by
  unfold z_cr
  split
  · omega
  · split <;> omega
theorem zcr_lost {n : Nat} {x : s_X} (hra : x.1.2.2.1 ≤ n) (h12 : z_sum z_s6 x.2.1 ≤ 12) (hd : ¬ 30 < n - x.1.2.2.1) : z_cr (n + 1) x + 2 * z_sum z_s6 x.2.1 ≤ z_cr n x + 22 := by
  unfold z_cr
  split
  · split <;> omega
  · split <;> omega
/-- a change that is kept -/
theorem zcr_kp {n : Nat} {x x' : s_X} {y : k_CH} (hl : x.2.1.length < 12) (h2 : x'.1.2.2.1 = x.1.2.2.1) (h1 : x'.2.1 = x.2.1 ++ [y]) : z_cr n x' ≤ z_cr n x + 11 ∧ (¬ y.2.1 = 6 → z_cr n x' ≤ z_cr n x) := by
  have hs := s6_le x.2.1
  have e : z_sum z_s6 x'.2.1 = z_sum z_s6 x.2.1 + z_s6 y := by rw [h1, zs_app]; unfold z_sum; simp
  have el : x'.2.1.length = x.2.1.length + 1 := by rw [h1]; simp
  unfold z_cr
  rw [e, el, h2, show z_s6 y = if y.2.1 = 6 then 1 else 0 from rfl]
  by_cases c : y.2.1 = 6
  · simp only [if_pos c]
    refine ⟨?_, fun z => absurd c z⟩
    rw [if_neg (show ¬ 12 ≤ z_sum z_s6 x.2.1 by omega)]
    split
    · split
      · exact Nat.zero_le _
      · rw [if_pos (by omega)]; omega
    · split
      · rw [if_pos (by omega)]; omega
      · split <;> omega
  · simp only [if_neg c]
    have k : ∀ s : Nat, s = z_sum z_s6 x.2.1 → (if 12 ≤ s + 0 then (if 30 < n - x.1.2.2.1 then 0 else 13 + 2 * (30 - (n - x.1.2.2.1))) else if x.2.1.length + 1 = s + 0 then max (s + 0) (11 * (s + 0) - 49) else s + 0) ≤ (if 12 ≤ s then (if 30 < n - x.1.2.2.1 then 0 else 13 + 2 * (30 - (n - x.1.2.2.1))) else if x.2.1.length = s then max s (11 * s - 49) else s) := by
      intro s es
      rw [if_neg (show ¬ 12 ≤ s + 0 by omega), if_neg (show ¬ 12 ≤ s by omega), if_neg (show ¬ x.2.1.length + 1 = s + 0 by omega)]
      split <;> omega
    have := k _ rfl
    exact ⟨Nat.le_trans this (Nat.le_add_right _ _), fun _ => this⟩
/-- what a save makes -/
theorem zcr_sv {n : Nat} {x x' : s_X} (hl : x.2.1.length < 12) (h1 : z_sum z_s6 x'.2.1 ≤ z_sum z_s6 x.2.1 + 1) (h3 : z_sum z_s6 x'.2.1 < x'.2.1.length) : z_cr n x' ≤ z_cr n x + 1 := by
  have hs := s6_le x.2.1
  unfold z_cr
  split
  · split
    · exact Nat.zero_le _
    · rw [if_neg (by omega), if_pos (by omega)]
      omega
  · rw [if_neg (by omega), if_neg (by omega)]
    split <;> omega
def z_los (M : s_M) : Nat := if g_los M = 0 then 0 else 11
def z_C (M : s_M) : Nat := z_4 (fun t => z_cr (g_n M) (g_X M t)) + z_los M
/-- a: the calls that name; s: the commits since the last mark, or bringing back -/
def i_C (W S R : List Nat) (M : s_M) (a s : Nat) : Prop := 2 * W.length + 4 * R.length + z_C M ≤ 11 * a ∧ 2 * W.length + 4 * R.length + 2 * S.length + z_C M ≤ 11 * (a + s) ∧ (s = 0 → S = [])
theorem iC_le {W S R : List Nat} {M M' : s_M} {a s : Nat} (I : i_C W S R M a s) (h : z_C M' ≤ z_C M) : i_C W S R M' a s := ⟨by have := I.1; omega, by have := I.2.1; omega, I.2.2⟩
theorem iC_a {W S R : List Nat} {M : s_M} {a s : Nat} (I : i_C W S R M a s) : i_C W S R M (a + 1) s := ⟨by have := I.1; omega, by have := I.2.1; omega, I.2.2⟩
/-- one commit more, that makes S longer by k -/
theorem iC_s {W S R X : List Nat} {M M' : s_M} {a s : Nat} (I : i_C W S R M a s) (h : z_C M' ≤ z_C M) (h2 : z_C M' + 2 * X.length ≤ z_C M + 11) : i_C W (S ++ X) R M' a (s + 1) := by
  refine ⟨by have := I.1; omega, ?_, fun z => by omega⟩
  have := I.2.1
  rw [List.length_append]
  omega
theorem iC_mark {W S R : List Nat} {M M' : s_M} {a s : Nat} (I : i_C W S R M a s) (h : z_C M' = z_C M) : i_C (W ++ S) [] R M' (a + s) 0 := by
  have := I.2.1
  rw [← h] at this
  refine ⟨?_, ?_, fun _ => rfl⟩
  · rw [List.length_append]; omega
  · rw [List.length_append, List.length_nil]; omega
theorem iC_back {W S R : List Nat} {M M' : s_M} {a s : Nat} (I : i_C W S R M a s) (h : z_C M' ≤ z_C M) : i_C W [] R M' (a + (s - 1)) 0 := by
  have := I.1
  refine ⟨by omega, ?_, fun _ => rfl⟩
  rw [List.length_nil]; omega
theorem zC_tx {M : s_M} {t : Nat} {x : s_X} (ht : t < 4) {k : Nat} (h : z_cr (g_n M) x ≤ z_cr (g_n M) (g_X M t) + k) : z_C (g_tx M t x) ≤ z_C M + k := by
  unfold z_C
  have e := z4_up (f := fun u => z_cr (g_n M) (g_X M u)) (g := fun u => z_cr (g_n M) (g_X (g_tx M t x) u)) ht (fun u hu => by show z_cr _ (if u = t then x else g_X M u) = _; rw [if_neg hu])
  have e2 : z_cr (g_n M) (g_X (g_tx M t x) t) = z_cr (g_n M) x := by show z_cr _ (if t = t then x else g_X M t) = _; rw [if_pos rfl]
  have e3 : z_los (g_tx M t x) = z_los M := rfl
  rw [e3]
  show z_4 (fun u => z_cr (g_n M) (g_X (g_tx M t x) u)) + _ ≤ _
  rw [e2] at e
  omega
theorem zC_n {M : s_M} (M' : s_M) (h1 : g_n M ≤ g_n M') (h2 : g_X M' = g_X M) (h3 : g_los M' = g_los M) : z_C M' ≤ z_C M := by
  unfold z_C z_los
  rw [h2, h3]
  have := z4_le (f := fun u => z_cr (g_n M) (g_X M u)) (g := fun u => z_cr (g_n M') (g_X M u)) (fun u => zcr_n _ h1)
  omega
