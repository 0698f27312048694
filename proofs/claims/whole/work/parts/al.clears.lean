/-! CLEARS AND COMMITS AS PUTS -/
section ZC
variable {n : Nat} {A : Nat → Int32 → Prop} {B : Nat → Prop}
theorem zP_pus {K : List k_K2} {W : List (Nat × Nat × Nat)} (s : K.Pairwise (fun x y => x.1 < y.1)) : ∀ (X : List k_K2) (L : List k_E4), X.Pairwise (fun x y => x.1 < y.1) → (∀ x ∈ X, z_nm x.1 K ∧ (r_val x.1 n L).isSome = true ∧ B x.1) → z_P n A B (K, L, W) (K, r_pus n (X.map (fun x => (x.1, none))) L, W) 0 0 0 := by
  intro X
  induction X with
  | nil => intro L _ _; exact zP_refl
  | cons x X ih =>
    intro L hs h
    obtain ⟨h1, h2⟩ := List.pairwise_cons.mp hs
    obtain ⟨⟨a, ha⟩, hl, hb⟩ := h x List.mem_cons_self
    have z1 : z_P n A B (K, L, W) (e_put n x.1 none (K, L, W)) 0 0 0 := zP_nl hb ⟨a, ha⟩ hl
    have e : e_put n x.1 none (K, L, W) = (K, r_pu n L (x.1, none), W) := by
      show (m_ins x.1 K, (L.length, x.1, n, none) :: L, W) = _
      rw [m_ins_in s ha]
      rfl
    rw [e] at z1
    have z2 := ih (r_pu n L (x.1, none)) h2 (fun y hy => by
      obtain ⟨g1, g2, g3⟩ := h y (List.mem_cons_of_mem _ hy)
      refine ⟨g1, ?_, g3⟩
      rw [r_val_pu_ne (fun z => by have := h1 y hy; have z' : x.1 = y.1 := z; omega)]
      exact g2)
    exact zP_trans z1 z2
theorem zP_clr {E : e_S} (I : i_K E) {lo hi : Nat} (h1 : lo < hi) (h2 : hi < 2 ^ 60) (hb : ∀ c, lo ≤ c → c < hi → B c) : z_P n A B E (e_clr n lo hi E) 0 1 0 := by
  obtain ⟨K, L, W⟩ := E
  have z1 := zP_pus (n := n) (A := A) (B := B) (K := K) (W := W) I.1 (r_flt lo hi (fun c => (r_val c n L).isSome) K) L (List.Pairwise.sublist List.filter_sublist I.1) (fun x hx => by
    obtain ⟨m1, m2⟩ := List.mem_filter.mp hx
    simp only [Bool.and_eq_true, decide_eq_true_eq] at m2
    exact ⟨⟨x.2, m1⟩, m2.2, hb x.1 m2.1.1 m2.1.2⟩)
  exact zP_trans z1 (zP_w h1 h2)
def z_c1 (y : k_CH) : Nat := if s_ord y.2.1 = true then (if 1 < y.2.2.2.1 - y.2.2.1 then 0 else if y.2.1 = 1 then 1 else 2) else 0
def z_c2 (y : k_CH) : Nat := if y.2.1 = 6 then 2 else 0
def z_w1 (y : k_CH) : Nat := if s_ord y.2.1 = true ∧ 1 < y.2.2.2.1 - y.2.2.1 then 1 else 0
def z_s6 (y : k_CH) : Nat := if y.2.1 = 6 then 1 else 0
def z_sum (f : k_CH → Nat) (l : List k_CH) : Nat := (l.map f).sum
theorem zs_cons (f : k_CH → Nat) (x : k_CH) (l : List k_CH) : z_sum f (x :: l) = f x + z_sum f l := by unfold z_sum; rw [List.map_cons, List.sum_cons]
theorem zs_app (f : k_CH → Nat) (l l' : List k_CH) : z_sum f (l ++ l') = z_sum f l + z_sum f l' := by unfold z_sum; rw [List.map_append, List.sum_append]
theorem zs_le (f : k_CH → Nat) {b : Nat} (l : List k_CH) (h : ∀ x ∈ l, f x ≤ b) : z_sum f l ≤ b * l.length := by
  induction l with
  | nil => exact Nat.zero_le _
  | cons x l ih =>
    rw [zs_cons, List.length_cons, Nat.mul_add, Nat.mul_one]
    have := h x List.mem_cons_self
    have := ih (fun y hy => h y (List.mem_cons_of_mem _ hy))
    omega
theorem zs_flt (f : k_CH → Nat) (p : k_CH → Bool) (l : List k_CH) : z_sum f (l.filter p) ≤ z_sum f l := by
  induction l with
  | nil => exact Nat.le_refl _
  | cons x l ih =>
    rw [List.filter_cons, zs_cons]
    split
    · rw [zs_cons]; omega
    · omega
def z_ok (n : Nat) (A : Nat → Int32 → Prop) (B : Nat → Prop) (E : e_S) (y : k_CH) : Prop :=
  (s_ord y.2.1 = true → (1 < y.2.2.2.1 - y.2.2.1 → y.2.2.2.1 < 2 ^ 60 ∧ ∀ c, y.2.2.1 ≤ c → c < y.2.2.2.1 → B c) ∧ (¬ 1 < y.2.2.2.1 - y.2.2.1 → (y.2.1 = 1 → B y.2.2.1) ∧ (¬ y.2.1 = 1 → ∀ v, (y.2.1 = 0 → v = y.2.2.2.2.1) → A y.2.2.1 v) ∧ z_nm y.2.2.1 E.1)) ∧ (y.2.1 = 6 → A (e_sc y n) y.2.2.2.2.1)
theorem apO_0 {g s : Int32} {o : Option Int32} : s_apO 0 g s o = some g := by
  unfold s_apO ap_v
  rw [if_neg (by decide), if_neg (by decide), if_neg (by decide), if_neg (by decide), if_neg (by decide), if_neg (by decide)]
theorem zP_do (hc : z_cd A B) : ∀ (MC : List k_CH) (E : e_S), i_K E → (∀ y ∈ MC, z_ok n A B E y) → z_P n A B E (MC.foldl (e_do n) E) (z_sum z_c1 MC) (z_sum z_w1 MC) 0 := by
  intro MC
  induction MC with
  | nil => intro E _ _; exact zP_refl
  | cons y MC ih =>
    intro E I h
    rw [zs_cons, zs_cons]
    have z1 : z_P n A B E (e_do n E y) (z_c1 y) (z_w1 y) 0 := by
      have hy := (h y List.mem_cons_self).1
      unfold e_do z_c1 z_w1
      by_cases ho : s_ord y.2.1 = true
      · obtain ⟨g1, g2⟩ := hy ho
        rw [if_pos ho, if_pos ho]
        by_cases hr : 1 < y.2.2.2.1 - y.2.2.1
        · rw [if_pos hr, if_pos hr, if_pos ⟨ho, hr⟩]
          obtain ⟨q1, q2⟩ := g1 hr
          exact zP_clr I (by omega) q1 q2
        · rw [if_neg hr, if_neg hr, if_neg (show ¬ (s_ord y.2.1 = true ∧ 1 < y.2.2.2.1 - y.2.2.1) from fun z => hr z.2)]
          obtain ⟨q1, q2, q3⟩ := g2 hr
          by_cases e1 : y.2.1 = 1
          · rw [if_pos e1]
            unfold s_apO
            rw [if_pos e1]
            exact zP_n (q1 e1) q3
          · rw [if_neg e1]
            by_cases e0 : y.2.1 = 0
            · rw [e0, apO_0]
              exact zP_s (q2 e1 _ (fun _ => rfl)) q3
            · unfold s_apO
              rw [if_neg e1]
              exact zP_s (q2 e1 _ (fun z => absurd z e0)) q3
      · rw [if_neg ho, if_neg ho, if_neg (fun z => ho z.1)]
        exact zP_refl
    have z2 := ih (e_do n E y) (zP_iK z1 hc I) (fun x hx => by
      obtain ⟨g1, g2⟩ := h x (List.mem_cons_of_mem _ hx)
      refine ⟨fun ho => ⟨(g1 ho).1, fun hr => ?_⟩, g2⟩
      obtain ⟨q1, q2, q3⟩ := (g1 ho).2 hr
      exact ⟨q1, q2, zP_keys z1 q3⟩)
    exact zP_trans z1 z2
theorem zP_st : ∀ (MC : List k_CH) (E : e_S), (∀ y ∈ MC, y.2.1 = 6 → A (e_sc y n) y.2.2.2.2.1) → z_P n A B E (MC.foldl (e_st n) E) (z_sum z_c2 MC) 0 (z_sum z_s6 MC) := by
  intro MC
  induction MC with
  | nil => intro E _; exact zP_refl
  | cons y MC ih =>
    intro E h
    rw [zs_cons, zs_cons]
    have z1 : z_P n A B E (e_st n E y) (z_c2 y) 0 (z_s6 y) := by
      unfold e_st z_c2 z_s6
      by_cases e : y.2.1 = 6
      · rw [if_pos e, if_pos e, if_pos e]
        exact zP_sf (h y List.mem_cons_self e)
      · rw [if_neg e, if_neg e, if_neg e]
        exact zP_refl
    exact zP_trans z1 (ih _ (fun x hx => h x (List.mem_cons_of_mem _ hx)))
theorem zP_all (hc : z_cd A B) {MC : List k_CH} {E : e_S} (I : i_K E) (h : ∀ y ∈ MC, z_ok n A B E y) : z_P n A B E (e_all n MC E) (z_sum z_c1 MC + z_sum z_c2 MC) (z_sum z_w1 MC) (z_sum z_s6 MC) := by
  have z1 := zP_do hc MC E I h
  have z2 := zP_st (n := n) (A := A) (B := B) MC (MC.foldl (e_do n) E) (fun y hy => (h y hy).2)
  refine zP_mono (zP_trans z1 z2) (Nat.le_refl _) (Nat.le_refl _) (by omega)
/-- .. one fold after another -/
theorem zP_fold {α : Type} {g : e_S → α → e_S} {k m f : Nat} (hc : z_cd A B) : ∀ (X : List α) (E : e_S), i_K E → (∀ x ∈ X, ∀ F, i_K F → (∀ c, z_nm c E.1 → z_nm c F.1) → z_P n A B F (g F x) k m f) → z_P n A B E (X.foldl g E) (k * X.length) (m * X.length) (f * X.length) := by
  intro X
  induction X with
  | nil => intro E _ _; exact zP_refl
  | cons x X ih =>
    intro E I h
    have z1 := h x List.mem_cons_self E I (fun c h => h)
    have z2 := ih (g E x) (zP_iK z1 hc I) (fun y hy F J hk => h y (List.mem_cons_of_mem _ hy) F J (fun c hn => hk c (zP_keys z1 hn)))
    rw [List.length_cons, Nat.mul_add, Nat.mul_add, Nat.mul_add, Nat.mul_one, Nat.mul_one, Nat.mul_one]
    exact zP_mono (zP_trans z1 z2) (by omega) (by omega) (by omega)
end ZC
section ZI
variable {M : s_M}
theorem of_cl {x : Int32} (h : s_inB x 0 2 = true) : of_lo x < of_hi x + 1 ∧ of_hi x + 1 ≤ 1331000000000 ∧ of_lo x / 121000000 = 998 - x.toInt.toNat ∧ of_hi x / 121000000 = 998 - x.toInt.toNat ∧ x.toInt.toNat ≤ 2 ∧ sv_co x = 120274000000 + 11000 * x.toInt.toNat + 11000 * 1000 := by
  rcases s_in3 h with rfl | rfl | rfl <;> decide +kernel
end ZI
