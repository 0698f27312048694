/-! ACT, OVER THE LAW'S WORLD (printed by wip/p37/genX.py) -/
/-- the world with bounds: at most i calls that change, q objects more -/
def lp_X (a : Nat) (A : lp_A) (i q : Nat) (M : s_M) (H : k_H) : Prop := ∃ i' q', 20 ≤ i' ∧ i' ≤ i ∧ q' ≤ q ∧ lp_W a A i' q' M H
def rc (X : Nat → String) (e : Nat) : Int32 := if X e = x_IO then -2000000001 else if X e = x_IA then -2000000002 else -2000000003
theorem x3_ : ∀ k, x_3 k = x_IO ∨ x_3 k = x_IA ∨ x_3 k = x_IS := fun k => by
  unfold x_3
  split
  · exact Or.inl rfl
  · split
    · exact Or.inr (Or.inl rfl)
    · exact Or.inr (Or.inr rfl)
theorem xI_ : ∀ k, x_I k = x_IO ∨ x_I k = x_IA ∨ x_I k = x_IS := fun k => by
  unfold x_I
  split
  · exact Or.inl rfl
  · exact Or.inr (Or.inr rfl)
theorem xA_ : ∀ k, x_A k = x_IO ∨ x_A k = x_IA ∨ x_A k = x_IS := fun k => Or.inr (Or.inl rfl)
theorem xw_ : ∀ k, (fun k => if k = 1 then x_IA else x_IS) k = x_IO ∨ (fun k => if k = 1 then x_IA else x_IS) k = x_IA ∨ (fun k => if k = 1 then x_IA else x_IS) k = x_IS := fun k => by
  show (if k = 1 then x_IA else x_IS) = x_IO ∨ (if k = 1 then x_IA else x_IS) = x_IA ∨ (if k = 1 then x_IA else x_IS) = x_IS
  split
  · exact Or.inr (Or.inl rfl)
  · exact Or.inr (Or.inr rfl)
section AX
variable {G : k_G} {l : Launch} {a i q : Nat} {A : lp_A} {M : s_M} {H : k_H}
theorem lp_Xm {i' q' : Nat} (W : lp_X a A i q M H) (h1 : i ≤ i') (h2 : q ≤ q') : lp_X a A i' q' M H := by
  obtain ⟨j, r, a1, a2, a3, W⟩ := W
  exact ⟨j, r, a1, by omega, by omega, W⟩
theorem X_is (W : lp_X a A i q M H) : k_is H a 14 := by
  obtain ⟨j, r, -, -, -, W⟩ := W
  exact lp_is W
theorem X_atom {j : Nat} (W : lp_X a A i q M H) (hj : j < 5) : H.1 (a + 31 + j) = some (k_i (lp_sz j) (A j)) := by
  obtain ⟨_, r, -, -, -, W⟩ := W
  exact lp_atom W hj
theorem X_put {j : Nat} {f : Nat → Int32} (W : lp_X a A i q M H) (hj : j < 5) : lp_X a (lp_set A j f) i q M (k_up H (a + 31 + j) (k_i (lp_sz j) f)) := by
  obtain ⟨i', r, a1, a2, a3, W⟩ := W
  exact ⟨i', r, a1, a2, a3, lp_put W hj⟩
theorem X_end (W : lp_X a A i q M H) (hi : i ≤ 512) (hq : q ≤ 70000) : H.2.1 ≤ a + 638100 ∧ H.2.2 ≤ 4700000 := by
  obtain ⟨i', r, a1, a2, a3, W⟩ := W
  exact lp_end W (by omega) (by omega)
theorem X_e (W : lp_X a A i q M H) (hi : i < 512) : J_e M := by
  obtain ⟨i', r, a1, a2, a3, W⟩ := W
  exact lp_e W (by omega)
theorem X_pt (W : lp_X a A i q M H) (hi : i < 512) : J_pt M := by
  obtain ⟨i', r, a1, a2, a3, W⟩ := W
  exact lp_pt W (by omega)
theorem X_I (W : lp_X a A i q M H) : ∃ i' N w, i' ≤ i ∧ i_I i' M N w := by
  obtain ⟨i', r, a1, a2, a3, h, N, w, po, -, -, -, -, N0, I, -⟩ := W
  exact ⟨i', N0, w, a2, I⟩
theorem Xs {T : k_T} {as : List k_V} {P P' : k_H → Prop} {Q : k_H → Int32 → Prop} (c : k_cti T as H (fun H' v => P H' ∧ Q H' v)) (h : ∀ H', P H' → P' H') : k_cti T as H (fun H' v => P' H' ∧ Q H' v) := by
  obtain ⟨H', v, c, p, e⟩ := c
  exact ⟨H', v, c, h H' p, e⟩
theorem Xr {T : k_T} {as : List k_V} {P : k_H → Prop} {R : s_M × Nat × Int32} {X : Nat → String} {M' : s_M} {e : Nat} {v : Int32} (he : R = (M', e, v)) (h0 : ¬ e = 0) (c : k_cti T as H (fun H' v => P H' ∧ v = lp_code R X)) : k_cti T as H (fun H' v => P H' ∧ v = rc X e) := by
  subst he
  obtain ⟨H', v, c, p, ev⟩ := c
  refine ⟨H', v, c, p, ?_⟩
  rw [ev]
  unfold lp_code rc
  exact if_neg h0
theorem a_0 (ok : k_ok G l) (g0 : k_fh G = 0) {x2 x3 x4 x5 x6 x7 : Int32} (W : lp_X a A i q M H) (hi : i < 512) : k_cti (tL_act G l) [vR (some a), vI 0, vI x2, vI x3, vI x4, vI x5, vI x6, vI x7] H (fun H' v => lp_X a A (i + 1) q (F_begin M x2 (decide (x3 = 1))).1 H' ∧ v = lp_code (F_begin M x2 (decide (x3 = 1))) (fun _ => x_IO)) := by
  obtain ⟨i', r, a1, a2, a3, W⟩ := W
  exact Xs (t_act_0 ok.2 (lp_is W) (Or.inr (Or.inl rfl)) (lA_begin ok g0 W (by omega))) (fun H' W' => ⟨i' + 1, r, by omega, by omega, a3, W'⟩)
theorem r_0 (ok : k_ok G l) (g0 : k_fh G = 0) {x2 x3 x4 x5 x6 x7 : Int32} (W : lp_X a A i q M H) (hi : i < 512) {e : Nat} {z : Int32} (he : (F_begin M x2 (decide (x3 = 1))) = (M, e, z)) (h0 : ¬ e = 0) : k_cti (tL_act G l) [vR (some a), vI 0, vI x2, vI x3, vI x4, vI x5, vI x6, vI x7] H (fun H' v => lp_X a A i (q + 2) M H' ∧ v = rc (fun _ => x_IO) e) := by
  obtain ⟨i', r, a1, a2, a3, W⟩ := W
  exact Xr he h0 (Xs (t_act_0 ok.2 (lp_is W) (Or.inr (Or.inl rfl)) (lA_begin_r ok g0 W (by omega) (by rw [he]; exact h0))) (fun H' W' => ⟨i', r + 2, a1, a2, by omega, W'⟩))
theorem a_1 (ok : k_ok G l) (g0 : k_fh G = 0) {x2 x3 x4 x5 x6 x7 : Int32} (W : lp_X a A i q M H) (hi : i < 512) : k_cti (tL_act G l) [vR (some a), vI 1, vI x2, vI x3, vI x4, vI x5, vI x6, vI x7] H (fun H' v => lp_X a A (i + 1) q (F_get M x2 x3 x4 x5 (decide (x6 = 1))).1 H' ∧ v = lp_code (F_get M x2 x3 x4 x5 (decide (x6 = 1))) x_3) := by
  obtain ⟨i', r, a1, a2, a3, W⟩ := W
  exact Xs (t_act_1 ok.2 (lp_is W) (Or.inr (x3_ _)) (lA_get ok g0 W (by omega))) (fun H' W' => ⟨i' + 1, r, by omega, by omega, a3, W'⟩)
theorem r_1 (ok : k_ok G l) (g0 : k_fh G = 0) {x2 x3 x4 x5 x6 x7 : Int32} (W : lp_X a A i q M H) (hi : i < 512) {e : Nat} {z : Int32} (he : (F_get M x2 x3 x4 x5 (decide (x6 = 1))) = (M, e, z)) (h0 : ¬ e = 0) : k_cti (tL_act G l) [vR (some a), vI 1, vI x2, vI x3, vI x4, vI x5, vI x6, vI x7] H (fun H' v => lp_X a A i (q + 2) M H' ∧ v = rc x_3 e) := by
  obtain ⟨i', r, a1, a2, a3, W⟩ := W
  exact Xr he h0 (Xs (t_act_1 ok.2 (lp_is W) (Or.inr (x3_ _)) (lA_get_r ok g0 W (by omega) (by rw [he]; exact h0))) (fun H' W' => ⟨i', r + 2, a1, a2, by omega, W'⟩))
theorem a_2 (ok : k_ok G l) (g0 : k_fh G = 0) {x2 x3 x4 x5 x6 x7 : Int32} (W : lp_X a A i q M H) (hi : i < 512) : k_cti (tL_act G l) [vR (some a), vI 2, vI x2, vI x3, vI x4, vI x5, vI x6, vI x7] H (fun H' v => lp_X a A (i + 1) q (F_range M x2 x3 x4 (decide (x5 = 1))).1 H' ∧ v = lp_code (F_range M x2 x3 x4 (decide (x5 = 1))) x_3) := by
  obtain ⟨i', r, a1, a2, a3, W⟩ := W
  exact Xs (t_act_2 ok.2 (lp_is W) (Or.inr (x3_ _)) (lA_range ok g0 W (by omega))) (fun H' W' => ⟨i' + 1, r, by omega, by omega, a3, W'⟩)
theorem r_2 (ok : k_ok G l) (g0 : k_fh G = 0) {x2 x3 x4 x5 x6 x7 : Int32} (W : lp_X a A i q M H) (hi : i < 512) {e : Nat} {z : Int32} (he : (F_range M x2 x3 x4 (decide (x5 = 1))) = (M, e, z)) (h0 : ¬ e = 0) : k_cti (tL_act G l) [vR (some a), vI 2, vI x2, vI x3, vI x4, vI x5, vI x6, vI x7] H (fun H' v => lp_X a A i (q + 2) M H' ∧ v = rc x_3 e) := by
  obtain ⟨i', r, a1, a2, a3, W⟩ := W
  exact Xr he h0 (Xs (t_act_2 ok.2 (lp_is W) (Or.inr (x3_ _)) (lA_range_r ok g0 W (by omega) (by rw [he]; exact h0))) (fun H' W' => ⟨i', r + 2, a1, a2, by omega, W'⟩))
theorem a_3 (ok : k_ok G l) (g0 : k_fh G = 0) {x2 x3 x4 x5 x6 x7 : Int32} (W : lp_X a A i q M H) (hi : i < 512) : k_cti (tL_act G l) [vR (some a), vI 3, vI x2, vI x3, vI x4, vI x5, vI x6, vI x7] H (fun H' v => lp_X a A (i + 1) q (F_rangeAt M x2 x3 x4 x5 x6).1 H' ∧ v = lp_code (F_rangeAt M x2 x3 x4 x5 x6) x_3) := by
  obtain ⟨i', r, a1, a2, a3, W⟩ := W
  exact Xs (t_act_3 ok.2 (lp_is W) (Or.inr (x3_ _)) (lA_rangeAt ok g0 W (by omega))) (fun H' W' => ⟨i' + 1, r, by omega, by omega, a3, W'⟩)
theorem r_3 (ok : k_ok G l) (g0 : k_fh G = 0) {x2 x3 x4 x5 x6 x7 : Int32} (W : lp_X a A i q M H) (hi : i < 512) {e : Nat} {z : Int32} (he : (F_rangeAt M x2 x3 x4 x5 x6) = (M, e, z)) (h0 : ¬ e = 0) : k_cti (tL_act G l) [vR (some a), vI 3, vI x2, vI x3, vI x4, vI x5, vI x6, vI x7] H (fun H' v => lp_X a A i (q + 2) M H' ∧ v = rc x_3 e) := by
  obtain ⟨i', r, a1, a2, a3, W⟩ := W
  exact Xr he h0 (Xs (t_act_3 ok.2 (lp_is W) (Or.inr (x3_ _)) (lA_rangeAt_r ok g0 W (by omega) (by rw [he]; exact h0))) (fun H' W' => ⟨i', r + 2, a1, a2, by omega, W'⟩))
theorem a_4 (ok : k_ok G l) (g0 : k_fh G = 0) {x2 x3 x4 x5 x6 x7 : Int32} (W : lp_X a A i q M H) (hi : i < 512) : k_cti (tL_act G l) [vR (some a), vI 4, vI x2, vI x3, vI x4, vI x5, vI x6, vI x7] H (fun H' v => lp_X a A (i + 1) q (F_change M x2 x3 x4 x5 x6 x7).1 H' ∧ v = lp_code (F_change M x2 x3 x4 x5 x6 x7) x_3) := by
  obtain ⟨i', r, a1, a2, a3, W⟩ := W
  exact Xs (t_act_4 ok.2 (lp_is W) (Or.inr (x3_ _)) (lA_change ok g0 W (by omega))) (fun H' W' => ⟨i' + 1, r, by omega, by omega, a3, W'⟩)
theorem r_4 (ok : k_ok G l) (g0 : k_fh G = 0) {x2 x3 x4 x5 x6 x7 : Int32} (W : lp_X a A i q M H) (hi : i < 512) {e : Nat} {z : Int32} (he : (F_change M x2 x3 x4 x5 x6 x7) = (M, e, z)) (h0 : ¬ e = 0) : k_cti (tL_act G l) [vR (some a), vI 4, vI x2, vI x3, vI x4, vI x5, vI x6, vI x7] H (fun H' v => lp_X a A i (q + 2) M H' ∧ v = rc x_3 e) := by
  obtain ⟨i', r, a1, a2, a3, W⟩ := W
  exact Xr he h0 (Xs (t_act_4 ok.2 (lp_is W) (Or.inr (x3_ _)) (lA_change_r ok g0 W (by omega) (by rw [he]; exact h0))) (fun H' W' => ⟨i', r + 2, a1, a2, by omega, W'⟩))
theorem a_5 (ok : k_ok G l) (g0 : k_fh G = 0) {x2 x3 x4 x5 x6 x7 : Int32} (W : lp_X a A i q M H) (hi : i < 512) : k_cti (tL_act G l) [vR (some a), vI 5, vI x2, vI x3, vI x4, vI x5, vI x6, vI x7] H (fun H' v => lp_X a A (i + 1) q (F_clear M x2 x3 x4).1 H' ∧ v = lp_code (F_clear M x2 x3 x4) x_3) := by
  obtain ⟨i', r, a1, a2, a3, W⟩ := W
  exact Xs (t_act_5 ok.2 (lp_is W) (Or.inr (x3_ _)) (lA_clear ok g0 W (by omega))) (fun H' W' => ⟨i' + 1, r, by omega, by omega, a3, W'⟩)
theorem r_5 (ok : k_ok G l) (g0 : k_fh G = 0) {x2 x3 x4 x5 x6 x7 : Int32} (W : lp_X a A i q M H) (hi : i < 512) {e : Nat} {z : Int32} (he : (F_clear M x2 x3 x4) = (M, e, z)) (h0 : ¬ e = 0) : k_cti (tL_act G l) [vR (some a), vI 5, vI x2, vI x3, vI x4, vI x5, vI x6, vI x7] H (fun H' v => lp_X a A i (q + 2) M H' ∧ v = rc x_3 e) := by
  obtain ⟨i', r, a1, a2, a3, W⟩ := W
  exact Xr he h0 (Xs (t_act_5 ok.2 (lp_is W) (Or.inr (x3_ _)) (lA_clear_r ok g0 W (by omega) (by rw [he]; exact h0))) (fun H' W' => ⟨i', r + 2, a1, a2, by omega, W'⟩))
theorem a_6 (ok : k_ok G l) (g0 : k_fh G = 0) {x2 x3 x4 x5 x6 x7 : Int32} (W : lp_X a A i q M H) (hi : i < 512) : k_cti (tL_act G l) [vR (some a), vI 6, vI x2, vI x3, vI x4, vI x5, vI x6, vI x7] H (fun H' v => lp_X a A (i + 1) q (F_commit M x2).1 H' ∧ v = lp_code (F_commit M x2) x_I) := by
  obtain ⟨i', r, a1, a2, a3, W⟩ := W
  exact Xs (t_act_6 ok.2 (lp_is W) (Or.inr (xI_ _)) (lA_commit ok g0 W (by omega))) (fun H' W' => ⟨i' + 1, r, by omega, by omega, a3, W'⟩)
theorem r_6 (ok : k_ok G l) (g0 : k_fh G = 0) {x2 x3 x4 x5 x6 x7 : Int32} (W : lp_X a A i q M H) (hi : i < 512) {e : Nat} {z : Int32} (he : (F_commit M x2) = (M, e, z)) (h0 : ¬ e = 0) : k_cti (tL_act G l) [vR (some a), vI 6, vI x2, vI x3, vI x4, vI x5, vI x6, vI x7] H (fun H' v => lp_X a A (i + 1) q M H' ∧ v = rc x_I e) :=
  Xr he h0 (Xs (a_6 ok g0 W hi) (fun H' W' => by rw [he] at W'; exact W'))
theorem a_7 (ok : k_ok G l) (g0 : k_fh G = 0) {x2 x3 x4 x5 x6 x7 : Int32} (W : lp_X a A i q M H) (hi : i < 512) : k_cti (tL_act G l) [vR (some a), vI 7, vI x2, vI x3, vI x4, vI x5, vI x6, vI x7] H (fun H' v => lp_X a A (i + 1) q (F_pass M x2).1 H' ∧ v = lp_code (F_pass M x2) x_A) := by
  obtain ⟨i', r, a1, a2, a3, W⟩ := W
  exact Xs (t_act_7 ok.2 (lp_is W) (Or.inr (xA_ _)) (lA_pass ok g0 W (by omega))) (fun H' W' => ⟨i' + 1, r, by omega, by omega, a3, W'⟩)
theorem r_7 (ok : k_ok G l) (g0 : k_fh G = 0) {x2 x3 x4 x5 x6 x7 : Int32} (W : lp_X a A i q M H) (hi : i < 512) {e : Nat} {z : Int32} (he : (F_pass M x2) = (M, e, z)) (h0 : ¬ e = 0) : k_cti (tL_act G l) [vR (some a), vI 7, vI x2, vI x3, vI x4, vI x5, vI x6, vI x7] H (fun H' v => lp_X a A i (q + 2) M H' ∧ v = rc x_A e) := by
  obtain ⟨i', r, a1, a2, a3, W⟩ := W
  exact Xr he h0 (Xs (t_act_7 ok.2 (lp_is W) (Or.inr (xA_ _)) (lA_pass_r ok g0 W (by omega) (by rw [he]; exact h0))) (fun H' W' => ⟨i', r + 2, a1, a2, by omega, W'⟩))
theorem a_8 (ok : k_ok G l) (g0 : k_fh G = 0) {x2 x3 x4 x5 x6 x7 : Int32} (W : lp_X a A i q M H) (hi : i < 512) : k_cti (tL_act G l) [vR (some a), vI 8, vI x2, vI x3, vI x4, vI x5, vI x6, vI x7] H (fun H' v => lp_X a A i (q + 1) M H' ∧ v = lp_code (F_value M x2 x3 x4 x5) x_A) := by
  obtain ⟨i', r, a1, a2, a3, W⟩ := W
  exact Xs (t_act_8 ok.2 (lp_is W) (Or.inr (xA_ _)) (lA_value ok g0 W (by omega))) (fun H' W' => ⟨i', r + 1, a1, a2, by omega, W'⟩)
theorem r_8 (ok : k_ok G l) (g0 : k_fh G = 0) {x2 x3 x4 x5 x6 x7 : Int32} (W : lp_X a A i q M H) (hi : i < 512) {e : Nat} {z : Int32} (he : (F_value M x2 x3 x4 x5) = (M, e, z)) (h0 : ¬ e = 0) : k_cti (tL_act G l) [vR (some a), vI 8, vI x2, vI x3, vI x4, vI x5, vI x6, vI x7] H (fun H' v => lp_X a A i (q + 2) M H' ∧ v = rc x_A e) :=
  Xr he h0 (Xs (a_8 ok g0 W hi) (fun H' W' => lp_Xm W' (Nat.le_refl _) (by omega)))
theorem a_9 (ok : k_ok G l) (g0 : k_fh G = 0) {x2 x3 x4 x5 x6 x7 : Int32} (W : lp_X a A i q M H) (hi : i < 512) : k_cti (tL_act G l) [vR (some a), vI 9, vI x2, vI x3, vI x4, vI x5, vI x6, vI x7] H (fun H' v => lp_X a A i (q + 1) M H' ∧ v = lp_code (F_packed M x2 x3 x4 x5) x_3) := by
  obtain ⟨i', r, a1, a2, a3, W⟩ := W
  exact Xs (t_act_9 ok.2 (lp_is W) (Or.inr (x3_ _)) (lA_packed ok g0 W (by omega))) (fun H' W' => ⟨i', r + 1, a1, a2, by omega, W'⟩)
theorem r_9 (ok : k_ok G l) (g0 : k_fh G = 0) {x2 x3 x4 x5 x6 x7 : Int32} (W : lp_X a A i q M H) (hi : i < 512) {e : Nat} {z : Int32} (he : (F_packed M x2 x3 x4 x5) = (M, e, z)) (h0 : ¬ e = 0) : k_cti (tL_act G l) [vR (some a), vI 9, vI x2, vI x3, vI x4, vI x5, vI x6, vI x7] H (fun H' v => lp_X a A i (q + 2) M H' ∧ v = rc x_3 e) :=
  Xr he h0 (Xs (a_9 ok g0 W hi) (fun H' W' => lp_Xm W' (Nat.le_refl _) (by omega)))
theorem a_10 (ok : k_ok G l) (g0 : k_fh G = 0) {x2 x3 x4 x5 x6 x7 : Int32} (W : lp_X a A i q M H) (hi : i < 512) : k_cti (tL_act G l) [vR (some a), vI 10, vI x2, vI x3, vI x4, vI x5, vI x6, vI x7] H (fun H' v => lp_X a A (i + 1) q (F_save M x2 x3 x4).1 H' ∧ v = lp_code (F_save M x2 x3 x4) x_3) := by
  obtain ⟨i', r, a1, a2, a3, W⟩ := W
  exact Xs (t_act_10 ok.2 (lp_is W) (Or.inr (x3_ _)) (lA_save ok g0 W (by omega))) (fun H' W' => ⟨i' + 1, r, by omega, by omega, a3, W'⟩)
theorem r_10 (ok : k_ok G l) (g0 : k_fh G = 0) {x2 x3 x4 x5 x6 x7 : Int32} (W : lp_X a A i q M H) (hi : i < 512) {e : Nat} {z : Int32} (he : (F_save M x2 x3 x4) = (M, e, z)) (h0 : ¬ e = 0) : k_cti (tL_act G l) [vR (some a), vI 10, vI x2, vI x3, vI x4, vI x5, vI x6, vI x7] H (fun H' v => lp_X a A (i + 1) q M H' ∧ v = rc x_3 e) :=
  Xr he h0 (Xs (a_10 ok g0 W hi) (fun H' W' => by rw [he] at W'; exact W'))
theorem a_11 (ok : k_ok G l) (g0 : k_fh G = 0) {x2 x3 x4 x5 x6 x7 : Int32} (W : lp_X a A i q M H) (hi : i < 512) : k_cti (tL_act G l) [vR (some a), vI 11, vI x2, vI x3, vI x4, vI x5, vI x6, vI x7] H (fun H' v => lp_X a A (i + 1) q (F_erase M x2 x3).1 H' ∧ v = lp_code (F_erase M x2 x3) x_3) := by
  obtain ⟨i', r, a1, a2, a3, W⟩ := W
  exact Xs (t_act_11 ok.2 (lp_is W) (Or.inr (x3_ _)) (lA_erase ok g0 W (by omega))) (fun H' W' => ⟨i' + 1, r, by omega, by omega, a3, W'⟩)
theorem r_11 (ok : k_ok G l) (g0 : k_fh G = 0) {x2 x3 x4 x5 x6 x7 : Int32} (W : lp_X a A i q M H) (hi : i < 512) {e : Nat} {z : Int32} (he : (F_erase M x2 x3) = (M, e, z)) (h0 : ¬ e = 0) : k_cti (tL_act G l) [vR (some a), vI 11, vI x2, vI x3, vI x4, vI x5, vI x6, vI x7] H (fun H' v => lp_X a A (i + 1) q M H' ∧ v = rc x_3 e) :=
  Xr he h0 (Xs (a_11 ok g0 W hi) (fun H' W' => by rw [he] at W'; exact W'))
theorem a_12 (ok : k_ok G l) (g0 : k_fh G = 0) {x2 x3 x4 x5 x6 x7 : Int32} (W : lp_X a A i q M H) (hi : i < 512) : k_cti (tL_act G l) [vR (some a), vI 12, vI x2, vI x3, vI x4, vI x5, vI x6, vI x7] H (fun H' v => lp_X a A (i + 1) q (F_build M x2 x3).1 H' ∧ v = lp_code (F_build M x2 x3) x_3) := by
  obtain ⟨i', r, a1, a2, a3, W⟩ := W
  exact Xs (t_act_12 ok.2 (lp_is W) (Or.inr (x3_ _)) (lA_build ok g0 W (by omega))) (fun H' W' => ⟨i' + 1, r, by omega, by omega, a3, W'⟩)
theorem r_12 (ok : k_ok G l) (g0 : k_fh G = 0) {x2 x3 x4 x5 x6 x7 : Int32} (W : lp_X a A i q M H) (hi : i < 512) {e : Nat} {z : Int32} (he : (F_build M x2 x3) = (M, e, z)) (h0 : ¬ e = 0) : k_cti (tL_act G l) [vR (some a), vI 12, vI x2, vI x3, vI x4, vI x5, vI x6, vI x7] H (fun H' v => lp_X a A (i + 1) q M H' ∧ v = rc x_3 e) :=
  Xr he h0 (Xs (a_12 ok g0 W hi) (fun H' W' => by rw [he] at W'; exact W'))
theorem a_13 (ok : k_ok G l) (g0 : k_fh G = 0) {x2 x3 x4 x5 x6 x7 : Int32} (W : lp_X a A i q M H) (hi : i < 512) : k_cti (tL_act G l) [vR (some a), vI 13, vI x2, vI x3, vI x4, vI x5, vI x6, vI x7] H (fun H' v => lp_X a A (i + 1) q (F_off M x2).1 H' ∧ v = lp_code (F_off M x2) x_I) := by
  obtain ⟨i', r, a1, a2, a3, W⟩ := W
  exact Xs (t_act_13 ok.2 (lp_is W) (Or.inr (xI_ _)) (lA_off ok g0 W (by omega))) (fun H' W' => ⟨i' + 1, r, by omega, by omega, a3, W'⟩)
theorem r_13 (ok : k_ok G l) (g0 : k_fh G = 0) {x2 x3 x4 x5 x6 x7 : Int32} (W : lp_X a A i q M H) (hi : i < 512) {e : Nat} {z : Int32} (he : (F_off M x2) = (M, e, z)) (h0 : ¬ e = 0) : k_cti (tL_act G l) [vR (some a), vI 13, vI x2, vI x3, vI x4, vI x5, vI x6, vI x7] H (fun H' v => lp_X a A (i + 1) q M H' ∧ v = rc x_I e) :=
  Xr he h0 (Xs (a_13 ok g0 W hi) (fun H' W' => by rw [he] at W'; exact W'))
theorem a_14 (ok : k_ok G l) (g0 : k_fh G = 0) {x2 x3 x4 x5 x6 x7 : Int32} (W : lp_X a A i q M H) (hi : i < 512) : k_cti (tL_act G l) [vR (some a), vI 14, vI x2, vI x3, vI x4, vI x5, vI x6, vI x7] H (fun H' v => lp_X a A i (q + 1) M H' ∧ v = lp_code (F_rank M x2) x_A) := by
  obtain ⟨i', r, a1, a2, a3, W⟩ := W
  exact Xs (t_act_14 ok.2 (lp_is W) (Or.inr (xA_ _)) (lA_rank ok g0 W (by omega))) (fun H' W' => ⟨i', r + 1, a1, a2, by omega, W'⟩)
theorem r_14 (ok : k_ok G l) (g0 : k_fh G = 0) {x2 x3 x4 x5 x6 x7 : Int32} (W : lp_X a A i q M H) (hi : i < 512) {e : Nat} {z : Int32} (he : (F_rank M x2) = (M, e, z)) (h0 : ¬ e = 0) : k_cti (tL_act G l) [vR (some a), vI 14, vI x2, vI x3, vI x4, vI x5, vI x6, vI x7] H (fun H' v => lp_X a A i (q + 2) M H' ∧ v = rc x_A e) :=
  Xr he h0 (Xs (a_14 ok g0 W hi) (fun H' W' => lp_Xm W' (Nat.le_refl _) (by omega)))
theorem a_15 (ok : k_ok G l) (g0 : k_fh G = 0) {x2 x3 x4 x5 x6 x7 : Int32} (W : lp_X a A i q M H) (hi : i < 512) : k_cti (tL_act G l) [vR (some a), vI 15, vI x2, vI x3, vI x4, vI x5, vI x6, vI x7] H (fun H' v => lp_X a A i (q + 1) M H' ∧ v = lp_code (F_rankAnew M x2) x_A) := by
  obtain ⟨i', r, a1, a2, a3, W⟩ := W
  exact Xs (t_act_15 ok.2 (lp_is W) (Or.inr (xA_ _)) (lA_rankAnew ok g0 W (by omega))) (fun H' W' => ⟨i', r + 1, a1, a2, by omega, W'⟩)
theorem r_15 (ok : k_ok G l) (g0 : k_fh G = 0) {x2 x3 x4 x5 x6 x7 : Int32} (W : lp_X a A i q M H) (hi : i < 512) {e : Nat} {z : Int32} (he : (F_rankAnew M x2) = (M, e, z)) (h0 : ¬ e = 0) : k_cti (tL_act G l) [vR (some a), vI 15, vI x2, vI x3, vI x4, vI x5, vI x6, vI x7] H (fun H' v => lp_X a A i (q + 2) M H' ∧ v = rc x_A e) :=
  Xr he h0 (Xs (a_15 ok g0 W hi) (fun H' W' => lp_Xm W' (Nat.le_refl _) (by omega)))
theorem a_16 (ok : k_ok G l) (g0 : k_fh G = 0) {x2 x3 x4 x5 x6 x7 : Int32} (W : lp_X a A i q M H) (hi : i < 512) : k_cti (tL_act G l) [vR (some a), vI 16, vI x2, vI x3, vI x4, vI x5, vI x6, vI x7] H (fun H' v => lp_X a A (i + 1) q (F_watch M x2 x3 x4).1 H' ∧ v = lp_code (F_watch M x2 x3 x4) (fun k => if k = 1 then x_IA else x_IS)) := by
  obtain ⟨i', r, a1, a2, a3, W⟩ := W
  exact Xs (t_act_16 ok.2 (lp_is W) (Or.inr (xw_ _)) (lA_watch ok g0 W (by omega))) (fun H' W' => ⟨i' + 1, r, by omega, by omega, a3, W'⟩)
theorem r_16 (ok : k_ok G l) (g0 : k_fh G = 0) {x2 x3 x4 x5 x6 x7 : Int32} (W : lp_X a A i q M H) (hi : i < 512) {e : Nat} {z : Int32} (he : (F_watch M x2 x3 x4) = (M, e, z)) (h0 : ¬ e = 0) : k_cti (tL_act G l) [vR (some a), vI 16, vI x2, vI x3, vI x4, vI x5, vI x6, vI x7] H (fun H' v => lp_X a A i (q + 2) M H' ∧ v = rc (fun k => if k = 1 then x_IA else x_IS) e) := by
  obtain ⟨i', r, a1, a2, a3, W⟩ := W
  exact Xr he h0 (Xs (t_act_16 ok.2 (lp_is W) (Or.inr (xw_ _)) (lA_watch_r ok g0 W (by omega) (by rw [he]; exact h0))) (fun H' W' => ⟨i', r + 2, a1, a2, by omega, W'⟩))
theorem a_17 (ok : k_ok G l) (g0 : k_fh G = 0) {x2 x3 x4 x5 x6 x7 : Int32} (W : lp_X a A i q M H) (hi : i < 512) : k_cti (tL_act G l) [vR (some a), vI 17, vI x2, vI x3, vI x4, vI x5, vI x6, vI x7] H (fun H' v => lp_X a A i (q + 1) M H' ∧ v = lp_code (F_fired M x2) x_I) := by
  obtain ⟨i', r, a1, a2, a3, W⟩ := W
  exact Xs (t_act_17 ok.2 (lp_is W) (Or.inr (xI_ _)) (lA_fired ok g0 W (by omega))) (fun H' W' => ⟨i', r + 1, a1, a2, by omega, W'⟩)
theorem r_17 (ok : k_ok G l) (g0 : k_fh G = 0) {x2 x3 x4 x5 x6 x7 : Int32} (W : lp_X a A i q M H) (hi : i < 512) {e : Nat} {z : Int32} (he : (F_fired M x2) = (M, e, z)) (h0 : ¬ e = 0) : k_cti (tL_act G l) [vR (some a), vI 17, vI x2, vI x3, vI x4, vI x5, vI x6, vI x7] H (fun H' v => lp_X a A i (q + 2) M H' ∧ v = rc x_I e) :=
  Xr he h0 (Xs (a_17 ok g0 W hi) (fun H' W' => lp_Xm W' (Nat.le_refl _) (by omega)))
theorem a_18 (ok : k_ok G l) (g0 : k_fh G = 0) {x2 x3 x4 x5 x6 x7 : Int32} (W : lp_X a A i q M H) (hi : i < 512) : k_cti (tL_act G l) [vR (some a), vI 18, vI x2, vI x3, vI x4, vI x5, vI x6, vI x7] H (fun H' v => lp_X a A (i + 1) q (F_offer M x2 x3).1 H' ∧ v = lp_code (F_offer M x2 x3) x_3) := by
  obtain ⟨i', r, a1, a2, a3, W⟩ := W
  exact Xs (t_act_18 ok.2 (lp_is W) (Or.inr (x3_ _)) (lA_offer ok g0 W (by omega))) (fun H' W' => ⟨i' + 1, r, by omega, by omega, a3, W'⟩)
theorem r_18 (ok : k_ok G l) (g0 : k_fh G = 0) {x2 x3 x4 x5 x6 x7 : Int32} (W : lp_X a A i q M H) (hi : i < 512) {e : Nat} {z : Int32} (he : (F_offer M x2 x3) = (M, e, z)) (h0 : ¬ e = 0) : k_cti (tL_act G l) [vR (some a), vI 18, vI x2, vI x3, vI x4, vI x5, vI x6, vI x7] H (fun H' v => lp_X a A i (q + 2) M H' ∧ v = rc x_3 e) := by
  obtain ⟨i', r, a1, a2, a3, W⟩ := W
  exact Xr he h0 (Xs (t_act_18 ok.2 (lp_is W) (Or.inr (x3_ _)) (lA_offer_r ok g0 W (by omega) (by rw [he]; exact h0))) (fun H' W' => ⟨i', r + 2, a1, a2, by omega, W'⟩))
theorem a_19 (ok : k_ok G l) (g0 : k_fh G = 0) {x2 x3 x4 x5 x6 x7 : Int32} (W : lp_X a A i q M H) (hi : i < 512) : k_cti (tL_act G l) [vR (some a), vI 19, vI x2, vI x3, vI x4, vI x5, vI x6, vI x7] H (fun H' v => lp_X a A (i + 1) q (F_take M x2).1 H' ∧ v = lp_code (F_take M x2) x_I) := by
  obtain ⟨i', r, a1, a2, a3, W⟩ := W
  exact Xs (t_act_19 ok.2 (lp_is W) (Or.inr (xI_ _)) (lA_take ok g0 W (by omega))) (fun H' W' => ⟨i' + 1, r, by omega, by omega, a3, W'⟩)
theorem r_19 (ok : k_ok G l) (g0 : k_fh G = 0) {x2 x3 x4 x5 x6 x7 : Int32} (W : lp_X a A i q M H) (hi : i < 512) {e : Nat} {z : Int32} (he : (F_take M x2) = (M, e, z)) (h0 : ¬ e = 0) : k_cti (tL_act G l) [vR (some a), vI 19, vI x2, vI x3, vI x4, vI x5, vI x6, vI x7] H (fun H' v => lp_X a A (i + 1) q M H' ∧ v = rc x_I e) :=
  Xr he h0 (Xs (a_19 ok g0 W hi) (fun H' W' => by rw [he] at W'; exact W'))
theorem a_20 (ok : k_ok G l) (g0 : k_fh G = 0) {x2 x3 x4 x5 x6 x7 : Int32} (W : lp_X a A i q M H) (hi : i < 512) : k_cti (tL_act G l) [vR (some a), vI 20, vI x2, vI x3, vI x4, vI x5, vI x6, vI x7] H (fun H' v => lp_X a A (i + 1) q (F_finish M x2).1 H' ∧ v = lp_code (F_finish M x2) x_I) := by
  obtain ⟨i', r, a1, a2, a3, W⟩ := W
  exact Xs (t_act_20 ok.2 (lp_is W) (Or.inr (xI_ _)) (lA_finish ok g0 W (by omega))) (fun H' W' => ⟨i' + 1, r, by omega, by omega, a3, W'⟩)
theorem r_20 (ok : k_ok G l) (g0 : k_fh G = 0) {x2 x3 x4 x5 x6 x7 : Int32} (W : lp_X a A i q M H) (hi : i < 512) {e : Nat} {z : Int32} (he : (F_finish M x2) = (M, e, z)) (h0 : ¬ e = 0) : k_cti (tL_act G l) [vR (some a), vI 20, vI x2, vI x3, vI x4, vI x5, vI x6, vI x7] H (fun H' v => lp_X a A (i + 1) q M H' ∧ v = rc x_I e) :=
  Xr he h0 (Xs (a_20 ok g0 W hi) (fun H' W' => by rw [he] at W'; exact W'))
theorem a_21 (ok : k_ok G l) (g0 : k_fh G = 0) {x2 x3 x4 x5 x6 x7 : Int32} (W : lp_X a A i q M H) (hi : i < 512) : k_cti (tL_act G l) [vR (some a), vI 21, vI x2, vI x3, vI x4, vI x5, vI x6, vI x7] H (fun H' v => lp_X a A i (q + 1) M H' ∧ v = lp_code (F_part M x2 x3) x_3) := by
  obtain ⟨i', r, a1, a2, a3, W⟩ := W
  exact Xs (t_act_21 ok.2 (lp_is W) (Or.inr (x3_ _)) (lA_part ok g0 W (by omega))) (fun H' W' => ⟨i', r + 1, a1, a2, by omega, W'⟩)
theorem r_21 (ok : k_ok G l) (g0 : k_fh G = 0) {x2 x3 x4 x5 x6 x7 : Int32} (W : lp_X a A i q M H) (hi : i < 512) {e : Nat} {z : Int32} (he : (F_part M x2 x3) = (M, e, z)) (h0 : ¬ e = 0) : k_cti (tL_act G l) [vR (some a), vI 21, vI x2, vI x3, vI x4, vI x5, vI x6, vI x7] H (fun H' v => lp_X a A i (q + 2) M H' ∧ v = rc x_3 e) :=
  Xr he h0 (Xs (a_21 ok g0 W hi) (fun H' W' => lp_Xm W' (Nat.le_refl _) (by omega)))
theorem a_22 (ok : k_ok G l) (g0 : k_fh G = 0) {x2 x3 x4 x5 x6 x7 : Int32} (W : lp_X a A i q M H) (hi : i < 512) : k_cti (tL_act G l) [vR (some a), vI 22, vI x2, vI x3, vI x4, vI x5, vI x6, vI x7] H (fun H' v => lp_X a A (i + 1) q (F_mark M).1 H' ∧ v = lp_code (F_mark M) (fun _ => x_IS)) := by
  obtain ⟨i', r, a1, a2, a3, W⟩ := W
  exact Xs (t_act_22 ok.2 (lp_is W) (Or.inr (Or.inr (Or.inr rfl))) (lA_mark ok g0 W (by omega))) (fun H' W' => ⟨i' + 1, r, by omega, by omega, a3, W'⟩)
theorem r_22 (ok : k_ok G l) (g0 : k_fh G = 0) {x2 x3 x4 x5 x6 x7 : Int32} (W : lp_X a A i q M H) (hi : i < 512) {e : Nat} {z : Int32} (he : (F_mark M) = (M, e, z)) (h0 : ¬ e = 0) : k_cti (tL_act G l) [vR (some a), vI 22, vI x2, vI x3, vI x4, vI x5, vI x6, vI x7] H (fun H' v => lp_X a A i (q + 2) M H' ∧ v = rc (fun _ => x_IS) e) := by
  obtain ⟨i', r, a1, a2, a3, W⟩ := W
  exact Xr he h0 (Xs (t_act_22 ok.2 (lp_is W) (Or.inr (Or.inr (Or.inr rfl))) (lA_mark_r ok g0 W (by omega) (by rw [he]; exact h0))) (fun H' W' => ⟨i', r + 2, a1, a2, by omega, W'⟩))
theorem a_23 (ok : k_ok G l) (g0 : k_fh G = 0) {x2 x3 x4 x5 x6 x7 : Int32} (W : lp_X a A i q M H) (hi : i < 512) : k_cti (tL_act G l) [vR (some a), vI 23, vI x2, vI x3, vI x4, vI x5, vI x6, vI x7] H (fun H' v => lp_X a A (i + 1) q (F_bringBack M x2).1 H' ∧ v = lp_code (F_bringBack M x2) x_I) := by
  obtain ⟨i', r, a1, a2, a3, W⟩ := W
  exact Xs (t_act_23 ok.2 (lp_is W) (Or.inr (xI_ _)) (lA_bringBack ok g0 W (by omega))) (fun H' W' => ⟨i' + 1, r, by omega, by omega, a3, W'⟩)
theorem r_23 (ok : k_ok G l) (g0 : k_fh G = 0) {x2 x3 x4 x5 x6 x7 : Int32} (W : lp_X a A i q M H) (hi : i < 512) {e : Nat} {z : Int32} (he : (F_bringBack M x2) = (M, e, z)) (h0 : ¬ e = 0) : k_cti (tL_act G l) [vR (some a), vI 23, vI x2, vI x3, vI x4, vI x5, vI x6, vI x7] H (fun H' v => lp_X a A (i + 1) q M H' ∧ v = rc x_I e) :=
  Xr he h0 (Xs (a_23 ok g0 W hi) (fun H' W' => by rw [he] at W'; exact W'))
theorem a_24 (ok : k_ok G l) (g0 : k_fh G = 0) {x2 x3 x4 x5 x6 x7 : Int32} (W : lp_X a A i q M H) (hi : i < 512) : k_cti (tL_act G l) [vR (some a), vI 24, vI x2, vI x3, vI x4, vI x5, vI x6, vI x7] H (fun H' v => lp_X a A (i + 1) q (F_directory M x2 x3).1 H' ∧ v = lp_code (F_directory M x2 x3) x_3) := by
  obtain ⟨i', r, a1, a2, a3, W⟩ := W
  exact Xs (t_act_24 ok.2 (lp_is W) (Or.inr (x3_ _)) (lA_directory ok g0 W (by omega))) (fun H' W' => ⟨i' + 1, r, by omega, by omega, a3, W'⟩)
theorem r_24 (ok : k_ok G l) (g0 : k_fh G = 0) {x2 x3 x4 x5 x6 x7 : Int32} (W : lp_X a A i q M H) (hi : i < 512) {e : Nat} {z : Int32} (he : (F_directory M x2 x3) = (M, e, z)) (h0 : ¬ e = 0) : k_cti (tL_act G l) [vR (some a), vI 24, vI x2, vI x3, vI x4, vI x5, vI x6, vI x7] H (fun H' v => lp_X a A i (q + 2) M H' ∧ v = rc x_3 e) := by
  obtain ⟨i', r, a1, a2, a3, W⟩ := W
  exact Xr he h0 (Xs (t_act_24 ok.2 (lp_is W) (Or.inr (x3_ _)) (lA_directory_r ok g0 W (by omega) (by rw [he]; exact h0))) (fun H' W' => ⟨i', r + 2, a1, a2, by omega, W'⟩))
theorem a_25 (ok : k_ok G l) (g0 : k_fh G = 0) {x2 x3 x4 x5 x6 x7 : Int32} (W : lp_X a A i q M H) (hi : i < 512) : k_cti (tL_act G l) [vR (some a), vI 25, vI x2, vI x3, vI x4, vI x5, vI x6, vI x7] H (fun H' v => lp_X a A (i + 1) q (F_remove M x2).1 H' ∧ v = lp_code (F_remove M x2) x_I) := by
  obtain ⟨i', r, a1, a2, a3, W⟩ := W
  exact Xs (t_act_25 ok.2 (lp_is W) (Or.inr (xI_ _)) (lA_remove ok g0 W (by omega))) (fun H' W' => ⟨i' + 1, r, by omega, by omega, a3, W'⟩)
theorem r_25 (ok : k_ok G l) (g0 : k_fh G = 0) {x2 x3 x4 x5 x6 x7 : Int32} (W : lp_X a A i q M H) (hi : i < 512) {e : Nat} {z : Int32} (he : (F_remove M x2) = (M, e, z)) (h0 : ¬ e = 0) : k_cti (tL_act G l) [vR (some a), vI 25, vI x2, vI x3, vI x4, vI x5, vI x6, vI x7] H (fun H' v => lp_X a A (i + 1) q M H' ∧ v = rc x_I e) :=
  Xr he h0 (Xs (a_25 ok g0 W hi) (fun H' W' => by rw [he] at W'; exact W'))
theorem a_26 (ok : k_ok G l) (g0 : k_fh G = 0) {x2 x3 x4 x5 x6 x7 : Int32} (W : lp_X a A i q M H) (hi : i < 512) : k_cti (tL_act G l) [vR (some a), vI 26, vI x2, vI x3, vI x4, vI x5, vI x6, vI x7] H (fun H' v => lp_X a A i (q + 1) M H' ∧ v = lp_code (F_shortName M x2) x_I) := by
  obtain ⟨i', r, a1, a2, a3, W⟩ := W
  exact Xs (t_act_26 ok.2 (lp_is W) (Or.inr (xI_ _)) (lA_shortName ok g0 W (by omega))) (fun H' W' => ⟨i', r + 1, a1, a2, by omega, W'⟩)
theorem r_26 (ok : k_ok G l) (g0 : k_fh G = 0) {x2 x3 x4 x5 x6 x7 : Int32} (W : lp_X a A i q M H) (hi : i < 512) {e : Nat} {z : Int32} (he : (F_shortName M x2) = (M, e, z)) (h0 : ¬ e = 0) : k_cti (tL_act G l) [vR (some a), vI 26, vI x2, vI x3, vI x4, vI x5, vI x6, vI x7] H (fun H' v => lp_X a A i (q + 2) M H' ∧ v = rc x_I e) :=
  Xr he h0 (Xs (a_26 ok g0 W hi) (fun H' W' => lp_Xm W' (Nat.le_refl _) (by omega)))
theorem a_27 (ok : k_ok G l) (g0 : k_fh G = 0) {x2 x3 x4 x5 x6 x7 : Int32} (W : lp_X a A i q M H) (hi : i < 512) : k_cti (tL_act G l) [vR (some a), vI 27, vI x2, vI x3, vI x4, vI x5, vI x6, vI x7] H (fun H' v => lp_X a A i (q + 1) M H' ∧ v = lp_code (F_named M x2 x3) x_3) := by
  obtain ⟨i', r, a1, a2, a3, W⟩ := W
  exact Xs (t_act_27 ok.2 (lp_is W) (Or.inr (x3_ _)) (lA_named ok g0 W (by omega))) (fun H' W' => ⟨i', r + 1, a1, a2, by omega, W'⟩)
theorem r_27 (ok : k_ok G l) (g0 : k_fh G = 0) {x2 x3 x4 x5 x6 x7 : Int32} (W : lp_X a A i q M H) (hi : i < 512) {e : Nat} {z : Int32} (he : (F_named M x2 x3) = (M, e, z)) (h0 : ¬ e = 0) : k_cti (tL_act G l) [vR (some a), vI 27, vI x2, vI x3, vI x4, vI x5, vI x6, vI x7] H (fun H' v => lp_X a A i (q + 2) M H' ∧ v = rc x_3 e) :=
  Xr he h0 (Xs (a_27 ok g0 W hi) (fun H' W' => lp_Xm W' (Nat.le_refl _) (by omega)))
theorem a_1F (ok : k_ok G l) (g0 : k_fh G = 0) {x2 x3 x4 x5 x7 : Int32} (W : lp_X a A i q M H) (hi : i < 512) : k_cti (tL_act G l) [vR (some a), vI 1, vI x2, vI x3, vI x4, vI x5, vI 0, vI x7] H (fun H' v => lp_X a A i (q + 1) M H' ∧ v = lp_code (F_get M x2 x3 x4 x5 false) x_3) := by
  obtain ⟨i', r, a1, a2, a3, W⟩ := W
  exact Xs (t_act_1 ok.2 (lp_is W) (Or.inr (x3_ _)) (lA_getF ok g0 W (by omega))) (fun H' W' => ⟨i', r + 1, a1, a2, by omega, W'⟩)
theorem a_s (ok : k_ok G l) (g0 : k_fh G = 0) {x y z : Int32} (W : lp_X a A i q M H) (hi : i < 512) : k_cti (tL_silent G l) [vR (some a), vI x, vI y, vI z] H (fun H' v => lp_X a A (i + 1) q (F_move M x y z).1 H' ∧ v = lp_codeS (F_move M x y z) x_3) := by
  obtain ⟨i', r, a1, a2, a3, W⟩ := W
  exact Xs (t_silent ok.2 (Or.inr (x3_ _)) (t_tells ok.2 (lp_is W) (lA_move ok g0 W (by omega)))) (fun H' W' => ⟨i' + 1, r, by omega, by omega, a3, W'⟩)
theorem r_s (ok : k_ok G l) (g0 : k_fh G = 0) {x y z : Int32} (W : lp_X a A i q M H) (hi : i < 512) {e : Nat} {u : Int32} (he : F_move M x y z = (M, e, u)) (h0 : ¬ e = 0) : k_cti (tL_silent G l) [vR (some a), vI x, vI y, vI z] H (fun H' v => lp_X a A i (q + 2) M H' ∧ v = rc x_3 e) := by
  obtain ⟨i', r, a1, a2, a3, W⟩ := W
  obtain ⟨H', v, c, p, ev⟩ := Xs (P' := fun H' => lp_X a A i (q + 2) M H') (t_silent ok.2 (Or.inr (x3_ _)) (t_tells ok.2 (lp_is W) (lA_move_r ok g0 W (by omega) (by rw [he]; exact h0)))) (fun H' W' => ⟨i', r + 2, a1, a2, by omega, W'⟩)
  refine ⟨H', v, c, p, ?_⟩
  rw [ev, he]
  unfold lp_codeS rc
  exact if_neg h0
theorem X_lose (ok : k_ok G l) (g0 : k_fh G = 0) {d : Bool} (W : lp_X a A i q M H) (hi : i < 512) : k_cti (tL_loses G l) [vR (some a), vI (kB d)] H (fun H' v => lp_X a A (i + 1) q (F_lose M d).1 H' ∧ v = 1) := by
  obtain ⟨i', r, a1, a2, a3, W⟩ := W
  exact Xs (t_loses ok.2 (lp_is W) rfl (lA_lose ok g0 W (by omega))) (fun H' W' => ⟨i' + 1, r, by omega, by omega, a3, W'⟩)
theorem X_recover (ok : k_ok G l) (g0 : k_fh G = 0) (W : lp_X a A i q M H) (hi : i < 512) : k_cti (tX11_recover G l) [vR (some a)] H (fun H' v => lp_X a A (i + 1) q (g_adv M 10 (g_gen M + 1)) H' ∧ v = nI (g_n M + 10)) := by
  obtain ⟨i', r, a1, a2, a3, W⟩ := W
  exact Xs (lp_cti (lA_recover ok g0 W (by omega)) rfl) (fun H' W' => ⟨i' + 1, r, by omega, by omega, a3, W'⟩)
theorem X_version (ok : k_ok G l) (g0 : k_fh G = 0) (W : lp_X a A i q M H) (hi : i < 512) : k_cti (tX11_version G l) [vR (some a)] H (fun H' v => lp_X a A i (q + 1) M H' ∧ v = nI (g_n M)) := by
  obtain ⟨i', r, a1, a2, a3, W⟩ := W
  exact Xs (lp_cti (lA_version ok g0 W (by omega)) rfl) (fun H' W' => ⟨i', r + 1, by omega, by omega, by omega, W'⟩)
theorem X_why (ok : k_ok G l) (g0 : k_fh G = 0) (W : lp_X a A i q M H) (hi : i < 512) : k_cti (tX11_why G l) [vR (some a)] H (fun H' v => lp_X a A i (q + 1) M H' ∧ v = g_why M) := by
  obtain ⟨i', r, a1, a2, a3, W⟩ := W
  exact Xs (lp_cti (lA_why ok g0 W (by omega)) rfl) (fun H' W' => ⟨i', r + 1, by omega, by omega, by omega, W'⟩)
theorem X_parts (ok : k_ok G l) (g0 : k_fh G = 0) (W : lp_X a A i q M H) : k_cti (tX11_parts G l) [vR (some a)] H (fun H' v => lp_X a A i q M H' ∧ v = nI (g_PT M).length) := by
  obtain ⟨i', r, a1, a2, a3, W⟩ := W
  exact Xs (q_parts ok g0 W) (fun H' W' => ⟨i', r, by omega, by omega, by omega, W'⟩)
theorem X_part (ok : k_ok G l) (g0 : k_fh G = 0) (W : lp_X a A i q M H) (h : J_pt M) {j : Nat} {p : p_T} {y v : Int32} (hp : (g_PT M)[j]? = some p) (hy : s_inB y 0 4 = true) (hv : (if y = 0 then p.2 else if y = 1 then nI (p_end (g_V M) ((g_PT M).drop (j + 1)) - p_lt p.1 (g_V M)) else if nI j = 0 then -2147483648 else s_no p.1 (s_pl (y - 2))) = v) : k_cti (tX11_part G l) [vR (some a), vI (nI j), vI y] H (fun H' u => lp_X a A i q M H' ∧ u = v) := by
  obtain ⟨i', r, a1, a2, a3, W⟩ := W
  exact Xs (q_part ok g0 W h hp hy hv) (fun H' W' => ⟨i', r, by omega, by omega, by omega, W'⟩)
theorem X_val (ok : k_ok G l) (g0 : k_fh G = 0) (W : lp_X a A i q M H) (hi : i < 512) {v : Nat} (hv : v ≤ g_n M) {x y z : Int32} {c : Nat} (hk : s_keyB x y z = true) (hc : s_cd x y z = c) : k_cti (tX11_value G l) [vR (some a), vI (nI v), vI x, vI y, vI z] H (fun H' u => lp_X a A i (q + 1) M H' ∧ u = o_told (g_U M v c)) := by
  obtain ⟨i', r, a1, a2, a3, W⟩ := W
  exact Xs (q_val ok g0 W (by omega) hv hk hc) (fun H' W' => ⟨i', r + 1, by omega, by omega, by omega, W'⟩)
theorem X_fired (ok : k_ok G l) (g0 : k_fh G = 0) (W : lp_X a A i q M H) (hi : i < 512) {x : Int32} (h0 : (F_fired M x).2.1 = 0) : k_cti (tX11_fired G l) [vR (some a), vI x] H (fun H' v => lp_X a A i (q + 1) M H' ∧ v = (F_fired M x).2.2) := by
  obtain ⟨i', r, a1, a2, a3, W⟩ := W
  exact Xs (lp_cti (lA_fired ok g0 W (by omega)) h0) (fun H' W' => ⟨i', r + 1, by omega, by omega, by omega, W'⟩)
theorem X_named (ok : k_ok G l) (g0 : k_fh G = 0) (W : lp_X a A i q M H) (hi : i < 512) {x y : Int32} (h0 : (F_named M x y).2.1 = 0) : k_cti (tX11_named G l) [vR (some a), vI x, vI y] H (fun H' v => lp_X a A i (q + 1) M H' ∧ v = (F_named M x y).2.2) := by
  obtain ⟨i', r, a1, a2, a3, W⟩ := W
  exact Xs (lp_cti (lA_named ok g0 W (by omega)) h0) (fun H' W' => ⟨i', r + 1, by omega, by omega, by omega, W'⟩)
theorem X_shortName (ok : k_ok G l) (g0 : k_fh G = 0) (W : lp_X a A i q M H) (hi : i < 512) {x : Int32} (h0 : (F_shortName M x).2.1 = 0) : k_cti (tX11_shortName G l) [vR (some a), vI x] H (fun H' v => lp_X a A i (q + 1) M H' ∧ v = (F_shortName M x).2.2) := by
  obtain ⟨i', r, a1, a2, a3, W⟩ := W
  exact Xs (lp_cti (lA_shortName ok g0 W (by omega)) h0) (fun H' W' => ⟨i', r + 1, by omega, by omega, by omega, W'⟩)
theorem X_areIndexed (ok : k_ok G l) (g0 : k_fh G = 0) {wf : Prop} (W : lp_X a A i q M H) (hi : i + 1 < 512) (J : J_I wf M) {f : Nat} (hf : f < 100) {sure : Bool} (hs : sure = true → wf) :
    k_cti (tL_areIndexed G l) [vR (some a), vI (nI (g_n M)), vI (nI f), vI (kB sure)] H (fun H' v => (∃ r, lp_X a A (i + 1) (q + 100) (m_3 M r) H') ∧ v = 1) := by
  obtain ⟨i', r, a1, a2, a3, W⟩ := W
  refine Xs (t_areIndexed ok g0 W (by omega) (by omega) J hf hs) (fun H' W' => ?_)
  obtain ⟨r', W'⟩ := W'
  exact ⟨r', i' + 1, r + 100, by omega, by omega, by omega, W'⟩
theorem X_areParted (ok : k_ok G l) (g0 : k_fh G = 0) (W : lp_X a A i q M H) (hi : i + 1 < 512) (P : J_p M) (Z : J_z M) :
    k_cti (tL_areParted G l) [vR (some a)] H (fun H' v => (∃ r, lp_X a A (i + 1) (q + 100) (m_3 M r) H') ∧ v = 1) := by
  obtain ⟨i', r, a1, a2, a3, W⟩ := W
  refine Xs (t_areParted ok g0 W (by omega) P Z) (fun H' W' => ?_)
  obtain ⟨r', W'⟩ := W'
  exact ⟨r', i' + 1, r + 100, by omega, by omega, by omega, W'⟩
/-- what the directories are -/
theorem X_d (W : lp_X a A i q M H) (hi : i < 512) : d_ok (g_DS M) ∧ d_many (g_DS M).1 ≤ 9 ∧ (g_DS M).2 < 1024 ∧ (d_many (g_DS M).1 < 9 → d_free (g_DS M).1 12 1 ≤ 9 ∧ d_fok (g_DS M).1) := by
  obtain ⟨i', N, w, h, I⟩ := X_I W
  exact (lp_env I (by omega)).2.2.2.2.1
theorem dj_root {D : List s_D × Nat} (h : d_ok D) : d_is D 0 = true := by
  unfold d_is
  rw [List.any_eq_true]
  exact ⟨_, h.1.2.1, decide_eq_true rfl⟩
end AX
