/-! NUMBERS: the entries stay below 420000 -/
def i_T (s b C X y T lv : Nat) : Prop := (s = 0 ∧ T ≤ b * y + 42 * C + X) ∨ (0 < s ∧ T + lv ≤ (b + 1) * y + 42 * C + X)
theorem iT_y {s b C X y y' T lv : Nat} (I : i_T s b C X y T lv) (h : y ≤ y') : i_T s b C X y' T lv := by
  rcases I with ⟨h1, h2⟩ | ⟨h1, h2⟩
  · left; have := Nat.mul_le_mul_left b h; exact ⟨h1, by omega⟩
  · right; have := Nat.mul_le_mul_left (b + 1) h; exact ⟨h1, by omega⟩
theorem iT_cm {s b C X y T lv T' lv' k e : Nat} (I : i_T s b C X y T lv) (hl : s = 0 → lv ≤ y) (h : T' + lv' ≤ T + lv + k) (hk : k ≤ 42 + e) : i_T (s + 1) b (C + 1) (X + e) y T' lv' := by
  right
  refine ⟨by omega, ?_⟩
  rcases I with ⟨h1, h2⟩ | ⟨h1, h2⟩
  · have := hl h1
    rw [Nat.add_mul]
    omega
  · omega
theorem iT_mark {s b C X y T lv y' : Nat} (I : i_T s b C X y T lv) (h : y ≤ y') : i_T 0 (b + 1) C X y' T lv := by
  left
  refine ⟨rfl, ?_⟩
  have h3 := Nat.mul_le_mul_left (b + 1) h
  rcases I with ⟨h1, h2⟩ | ⟨h1, h2⟩
  · have h4 := Nat.mul_le_mul_left b h
    rw [Nat.add_mul]
    omega
  · omega
theorem iT_back {s b C X y T lv d lv' : Nat} (I : i_T s b C X y T lv) (h1 : s = 0 → d ≤ y) (h2 : d ≤ lv + y) : i_T 0 (b + (if s = 0 then 1 else 2)) C X y (T + d) lv' := by
  left
  refine ⟨rfl, ?_⟩
  rcases I with ⟨e1, e2⟩ | ⟨e1, e2⟩
  · have := h1 e1
    rw [if_pos e1, Nat.add_mul]
    omega
  · rw [if_neg (by omega), Nat.add_mul]
    rw [Nat.add_mul] at e2
    omega
theorem T_dec : ∀ b : Fin 513, 198 * ((b.val + 1) * (512 - b.val)) + 756 * (1024 - b.val) + 2 * ((1024 - b.val) * (1024 - b.val)) ≤ 15120000 := by decide +kernel
theorem sq_le {a b : Nat} (h : a ≤ b) : a * a ≤ b * b := Nat.mul_le_mul h h
theorem X_le {C p D X Z : Nat} (h1 : 2 * C + 2 * p ≤ Z) (h2 : D ≤ p) (h3 : X ≤ D * C) (h4 : 2 * X ≤ C * C) : 18 * X ≤ Z * Z := by
  have h5 : X ≤ p * C := Nat.le_trans h3 (Nat.mul_le_mul_right C h2)
  by_cases c : 3 * C ≤ Z
  · -- 2 X ≤ C C, 9 C C ≤ Z Z
    have := sq_le c
    have e : 3 * C * (3 * C) = 9 * (C * C) := by rw [Nat.mul_mul_mul_comm]
    rw [e] at this
    omega
  · -- Z < 3 C: p C ≤ (Z - 2 C) C / 2
    obtain ⟨u, hu⟩ : ∃ u, Z = 2 * C + 2 * p + u := ⟨Z - (2 * C + 2 * p), by omega⟩
    have hp : 2 * p + u < C := by omega
    obtain ⟨r, hr⟩ : ∃ r, C = 2 * p + u + r := ⟨C - (2 * p + u), by omega⟩
    subst hu
    subst hr
    have e1 : p * (2 * p + u + r) = 2 * (p * p) + p * u + p * r := by
      rw [Nat.mul_add, Nat.mul_add, Nat.mul_left_comm]
    have hz : 2 * (2 * p + u + r) + 2 * p + u = 6 * p + 3 * u + 2 * r := by omega
    rw [hz]
    have e2 : (6 * p + 3 * u + 2 * r) * (6 * p + 3 * u + 2 * r) = 36 * (p * p) + 36 * (p * u) + 24 * (p * r) + 9 * (u * u) + 12 * (u * r) + 4 * (r * r) := by
      grind
    rw [e2]
    rw [e1] at h5
    generalize p * p = pp at *
    generalize p * u = pu at *
    generalize p * r = pr at *
    omega
theorem T_max {a s b p C D X y T lv : Nat} (I : i_T s b C X y T lv) (h1 : a + s + b ≤ 512) (h2 : 2 * y ≤ 11 * a) (h3 : 2 * C + 2 * p ≤ 2 * a + 2 * s + b) (h4 : D ≤ p) (h5 : X ≤ D * C) (h6 : 2 * X ≤ C * C) : T ≤ 420000 := by
  have t : T ≤ (b + 1) * y + 42 * C + X := by
    rcases I with ⟨e1, e2⟩ | ⟨e1, e2⟩
    · rw [Nat.add_mul]; omega
    · omega
  have x := X_le h3 h4 h5 h6
  have z : 2 * a + 2 * s + b ≤ 1024 - b := by omega
  have x2 := Nat.le_trans x (sq_le z)
  have yb : 2 * ((b + 1) * y) ≤ 11 * ((b + 1) * (512 - b)) := by
    have g1 : (b + 1) * (2 * y) ≤ (b + 1) * (11 * (512 - b)) := Nat.mul_le_mul_left _ (by omega)
    rw [Nat.mul_left_comm (b + 1) 2 y, Nat.mul_left_comm (b + 1) 11] at g1
    exact g1
  have d := T_dec ⟨b, by omega⟩
  dsimp only at d
  generalize (b + 1) * y = u1 at *
  generalize (b + 1) * (512 - b) = u2 at *
  generalize (1024 - b) * (1024 - b) = u3 at *
  omega
/-! .. the numbers of calls -/
def i_N (i a s b p C D X : Nat) (M : s_M) : Prop := a + s + b ≤ i ∧ 2 * C + 2 * p ≤ 2 * a + 2 * s + b ∧ D + (if g_los M = 0 then 0 else 1) + z_4 (fun t => z_b (g_X M t).1.1) ≤ p ∧ X ≤ D * C ∧ 2 * X ≤ C * C ∧ p ≤ a ∧ p ≤ i ∧ C ≤ i
theorem iN_i {i a s b p C D X : Nat} {M M' : s_M} (I : i_N i a s b p C D X M) (h : (if g_los M' = 0 then 0 else 1) + z_4 (fun t => z_b (g_X M' t).1.1) ≤ (if g_los M = 0 then 0 else 1) + z_4 (fun t => z_b (g_X M t).1.1)) : i_N (i + 1) a s b p C D X M' := by
  obtain ⟨h1, h2, h3, h4, h5, h6, h7, h8⟩ := I
  exact ⟨by omega, h2, by omega, h4, h5, h6, by omega, by omega⟩
theorem iN_p {i a s b p C D X : Nat} {M M' : s_M} (I : i_N i a s b p C D X M) (h : (if g_los M' = 0 then 0 else 1) + z_4 (fun t => z_b (g_X M' t).1.1) ≤ (if g_los M = 0 then 0 else 1) + z_4 (fun t => z_b (g_X M t).1.1) + 1) : i_N (i + 1) (a + 1) s b (p + 1) C D X M' := by
  obtain ⟨h1, h2, h3, h4, h5, h6, h7, h8⟩ := I
  exact ⟨by omega, by omega, by omega, h4, h5, by omega, by omega, by omega⟩
theorem iN_c {i a s b p C D X : Nat} {M M' : s_M} (I : i_N i a s b p C D X M) (h : (if g_los M' = 0 then 0 else 1) + z_4 (fun t => z_b (g_X M' t).1.1) ≤ (if g_los M = 0 then 0 else 1) + z_4 (fun t => z_b (g_X M t).1.1)) : i_N (i + 1) a (s + 1) b p (C + 1) D (X + 0) M' := by
  obtain ⟨h1, h2, h3, h4, h5, h6, h7, h8⟩ := I
  have e1 : D * (C + 1) = D * C + D := by rw [Nat.mul_add, Nat.mul_one]
  have e2 : (C + 1) * (C + 1) = C * C + C + C + 1 := by rw [Nat.mul_add, Nat.add_mul]; omega
  exact ⟨by omega, by omega, by omega, by omega, by omega, h6, by omega, by omega⟩
theorem iN_d {i a s b p C D X : Nat} {M M' : s_M} (I : i_N i a s b p C D X M) (h : (if g_los M' = 0 then 0 else 1) + z_4 (fun t => z_b (g_X M' t).1.1) + 1 ≤ (if g_los M = 0 then 0 else 1) + z_4 (fun t => z_b (g_X M t).1.1)) : i_N (i + 1) a (s + 1) b p (C + 1) (D + 1) (X + C) M' := by
  obtain ⟨h1, h2, h3, h4, h5, h6, h7, h8⟩ := I
  have e1 : (D + 1) * (C + 1) = D * C + D + C + 1 := by rw [Nat.mul_add, Nat.add_mul]; omega
  have e2 : (C + 1) * (C + 1) = C * C + C + C + 1 := by rw [Nat.mul_add, Nat.add_mul]; omega
  exact ⟨by omega, by omega, by omega, by omega, by omega, h6, by omega, by omega⟩
theorem iN_m {i a s b p C D X : Nat} {M M' : s_M} (I : i_N i a s b p C D X M) (h : g_los M' = g_los M ∧ g_X M' = g_X M) : i_N (i + 1) (a + s) 0 (b + 1) p C D X M' := by
  obtain ⟨h1, h2, h3, h4, h5, h6, h7, h8⟩ := I
  unfold i_N
  rw [h.1, h.2]
  exact ⟨by omega, by omega, h3, h4, h5, by omega, by omega, by omega⟩
theorem iN_b {i a s b p C D X : Nat} {M M' : s_M} (I : i_N i a s b p C D X M) (h : g_los M' = g_los M ∧ g_X M' = g_X M) : i_N (i + 1) (a + (s - 1)) 0 (b + (if s = 0 then 1 else 2)) p C D X M' := by
  obtain ⟨h1, h2, h3, h4, h5, h6, h7, h8⟩ := I
  unfold i_N
  rw [h.1, h.2]
  by_cases e : s = 0
  · rw [if_pos e]
    exact ⟨by omega, by omega, h3, h4, h5, by omega, by omega, by omega⟩
  · rw [if_neg e]
    exact ⟨by omega, by omega, h3, h4, h5, by omega, by omega, by omega⟩
