/-! LIMITS THAT FOLLOW; COMMITS -/
theorem G_lim {W S R V Vs : List Nat} {i a s b p C D X Np : Nat} {M : s_M} (hS : i_S W S R V Vs i s b C X Np M) (h1 : 2 * W.length + 4 * R.length ≤ 11 * a) (h2 : 2 * W.length + 4 * R.length + 2 * S.length ≤ 11 * (a + s)) (hN : a + s + b ≤ i ∧ 2 * C + 2 * p ≤ 2 * a + 2 * s + b ∧ D ≤ p ∧ X ≤ D * C ∧ 2 * X ≤ C * C) (hi : i ≤ 512) (hn : g_n M < 9000) :
    e_lim (g_E M) ∧ (g_V M).length ≤ 2816 ∧ (g_PT M).length ≤ 1409 ∧ 8 * Np ≤ 422816 := by
  obtain ⟨q1, q2, q3, q4, q5⟩ := hN
  have hT := T_max (D := D) (p := p) hS.2.2.2.2.2 (by omega) (by omega) q2 q3 q4 q5
  have hv := (S_T hS hn).2
  obtain ⟨n1, n2⟩ := hS.2.2.2.2.1
  obtain ⟨p1, p2, p3, p4⟩ := hS.2.2.2.1
  have e : z_T (g_n M) (g_E M) = (g_E M).2.1.length + (g_V M).length := rfl
  exact ⟨⟨by omega, hT, by omega⟩, by omega, by omega, by omega⟩
theorem A_lim {i N w : Nat} {M : s_M} {W S R V Vs : List Nat} {a s b p C D X Y Np : Nat} (I : i_A i M N w W S R V Vs a s b p C D X Y Np) (hi : i ≤ 512) : e_lim (g_E M) ∧ (g_V M).length ≤ 2816 ∧ (g_PT M).length ≤ 1409 ∧ 8 * Np ≤ 422816 := by
  obtain ⟨⟨g1, g2, g3⟩, hS, gX, gC, gN, g4⟩ := I
  obtain ⟨n1, n2, n3, n4, n5, n6, n7, n8⟩ := gN
  have := g1.1
  exact G_lim (D := D) (p := p) (a := a) hS (by have := gC.1; omega) (by have := gC.2.1; omega) ⟨n1, n2, by omega, n4, n5⟩ hi (by omega)
theorem ps_of {M : s_M} {E' : e_S} (h1 : (g_PT M).length ≤ 1409) (h2 : (g_V (g_cm M E')).length ≤ 2816) : g_ps M E' := by
  have e : (g_V (g_cm M E')).length = (m_V E'.1 (g_n M + 1) E'.2.1).length := rfl
  unfold g_ps
  omega
theorem z4_up2 {f g : Nat → Nat} {t : Nat} (ht : t < 4) (h : ∀ u, ¬ u = t → g u ≤ f u) : z_4 g + f t ≤ z_4 f + g t := by
  unfold z_4
  have hc : t = 0 ∨ t = 1 ∨ t = 2 ∨ t = 3 := by omega
  rcases hc with rfl | rfl | rfl | rfl
  · have := h 1 (by decide); have := h 2 (by decide); have := h 3 (by decide); omega
  · have := h 0 (by decide); have := h 2 (by decide); have := h 3 (by decide); omega
  · have := h 0 (by decide); have := h 1 (by decide); have := h 3 (by decide); omega
  · have := h 0 (by decide); have := h 1 (by decide); have := h 2 (by decide); omega
theorem z4_ge {f : Nat → Nat} {t : Nat} (ht : t < 4) : f t ≤ z_4 f := by
  unfold z_4
  have hc : t = 0 ∨ t = 1 ∨ t = 2 ∨ t = 3 := by omega
  rcases hc with rfl | rfl | rfl | rfl <;> omega
theorem goes_at {M : s_M} {t : Nat} (h : g_goes M t = true) : ¬ 30 < g_n M - (g_X M t).1.2.2.1 := by
  unfold g_goes at h
  simp only [Bool.and_eq_true, Bool.not_eq_true', decide_eq_false_iff_not] at h
  exact h.1.1.2
/-- the store behind a commit of t -/
theorem cm_S {i N w t : Nat} {M : s_M} {W S R V Vs : List Nat} {a s b p C D X Y Np : Nat} (I : i_A i M N w W S R V Vs a s b p C D X Y Np) (hi : i < 512) (ht : t < 4) :
    i_S W (S ++ z_st (g_X M t).2.1 (g_n M + 1)) R V ((g_n M + 1) :: Vs) (i + 1) (s + 1) b (C + 1) (X + C) (Np + g_sp M (e_all (g_n M + 1) (g_X M t).2.1 (g_E M))) (g_cm M (e_all (g_n M + 1) (g_X M t).2.1 (g_E M))) ∧ ∀ c, z_nm c (g_E M).1 → z_nm c (e_all (g_n M + 1) (g_X M t).2.1 (g_E M)).1 := by
  obtain ⟨⟨g1, g2, g3⟩, hS, gX, gC, gN, g4⟩ := I
  obtain ⟨x1, x2, x3, x4, x5, x6⟩ := gX t ht
  have hn : g_n M < 8999 := by have := g1.1; omega
  have hc := c_cd (W := W) (R := R) (E := g_E M) (n := g_n M) hn x1
  have z := zP_all hc hS.1.2 (c_ok (n := g_n M + 1) x1)
  refine ⟨S_cm (e := C) hS (by omega) gC.2.2 z hc (fun c v q => ?_) (iV_cm hS.2.2.1 hS.1.1.2.1 hn g1.2.2.2.2.1 z (fun c v q => ?_) (fun c q e => ?_) (fun c h => List.mem_append.mpr (Or.inl h))) ?_ x5 ?_, fun c h => zP_keys z h⟩
  · obtain ⟨-, q2, q3, -, q5, -⟩ := cA_at hn x1 q
    exact ⟨q2, q3, q5⟩
  · obtain ⟨-, -, -, q4, q5, q6⟩ := cA_at hn x1 q
    refine ⟨?_, q5, fun e => q6 (by rw [e]; exact co2_ly)⟩
    rcases q4 with q4 | q4
    · exact Or.inl q4
    · exact Or.inr (List.mem_append.mpr (Or.inr q4))
  · exact (cB_at x1 q).2 (by rw [e]; exact co2_ly)
  · have : z_sum z_c1 (g_X M t).2.1 + z_sum z_c2 (g_X M t).2.1 ≤ 33 + C := x4
    omega
  · omega
theorem cm_lim {i N w t : Nat} {M : s_M} (I : i_I i M N w) (hi : i < 512) (ht : t < 4) (hb : (g_X M t).1.1 = true) (hg : g_goes M t = true) : g_ps M (e_all (g_n M + 1) (g_X M t).2.1 (g_E M)) ∧ e_lim (e_all (g_n M + 1) (g_X M t).2.1 (g_E M)) := by
  obtain ⟨W, S, R, V, Vs, a, s, b, p, C, D, X, Y, Np, I⟩ := I
  have l0 := A_lim I (by omega)
  obtain ⟨hS, -⟩ := cm_S I hi ht
  obtain ⟨⟨g1, g2, g3⟩, -, gX, gC, gN, g4⟩ := I
  obtain ⟨x1, x2, x3, x4, x5, x6⟩ := gX t ht
  have ge := z4_ge (f := fun u => z_cr (g_n M) (g_X M u)) ht
  have zc : z_cr (g_n M) (g_X M t) ≤ z_C M := by unfold z_C; exact Nat.le_trans ge (Nat.le_add_right _ _)
  have ze := zcr_end x6 (goes_at hg)
  have gb : z_b (g_X M t).1.1 ≤ z_4 (fun t => z_b (g_X M t).1.1) := z4_ge (f := fun t => z_b (g_X M t).1.1) ht
  rw [hb] at gb
  have gb : 1 ≤ z_4 (fun t => z_b (g_X M t).1.1) := gb
  obtain ⟨n1, n2, n3, n4, n5, n6, n7, n8⟩ := gN
  have e1 : (D + 1) * (C + 1) = D * C + D + C + 1 := by rw [Nat.mul_add, Nat.add_mul]; omega
  have e2 : (C + 1) * (C + 1) = C * C + C + C + 1 := by rw [Nat.mul_add, Nat.add_mul]; omega
  have hn : g_n M < 8999 := by have := g1.1; omega
  have l := G_lim (D := D + 1) (p := p) (a := a) hS (by have := gC.1; omega) (by have := gC.2.1; rw [List.length_append, st_len]; omega) ⟨by omega, by omega, by omega, by omega, by omega⟩ hi (by show g_n M + 1 < 9000; omega)
  exact ⟨ps_of l0.2.2.1 l.2.1, l.1⟩
theorem Y_c {p C Y : Nat} (h : Y ≤ p * C) : Y ≤ p * (C + 1) := by rw [Nat.mul_add]; omega
theorem iD_same {i : Nat} {M M' : s_M} (h : i_D i M) (e : g_DS M' = g_DS M) : i_D (i + 1) M' := by
  unfold i_D
  rw [e]
  exact ⟨h.1, h.2.1, Nat.le_succ_of_le h.2.2.1, h.2.2.2⟩
theorem z4_bg {M M' : s_M} {t : Nat} (ht : t < 4) (h : ∀ u, ¬ u = t → g_X M' u = g_X M u) : z_4 (fun u => z_b (g_X M' u).1.1) + z_b (g_X M t).1.1 = z_4 (fun u => z_b (g_X M u).1.1) + z_b (g_X M' t).1.1 :=
  z4_up (f := fun u => z_b (g_X M u).1.1) (g := fun u => z_b (g_X M' u).1.1) ht (fun u hu => by rw [h u hu])
theorem I_ov {i N w t N' : Nat} {M M1 : s_M} (I : i_I i M N w) (ht : t < 4) (h : M1 = M ∨ ∃ v, M1 = g_sw M v) (hN : N' ≤ N + 12) : i_I (i + 1) (g_tx M1 t (g_ov (g_X M1 t))) N' w := by
  have key : ∀ M1 : s_M, g_n M1 = g_n M → g_E M1 = g_E M → g_MK M1 = g_MK M → g_PT M1 = g_PT M → g_X M1 = g_X M → g_los M1 = g_los M → g_ser M1 = g_ser M → g_DS M1 = g_DS M → (∀ n g, i_1 n g M → i_1 n g M1) → i_I (i + 1) (g_tx M1 t (g_ov (g_X M1 t))) N' w := by
    intro M1 e1 e2 e3 e4 e5 e6 e7 e8 h1
    refine I_pre I _ hN e1 e2 e3 e4 (fun n g z => i1_ov (h1 n g z) ht) (fun i z => by unfold i_D; show d_ok (g_DS M1) ∧ d_many (g_DS M1).1 ≤ 9 ∧ (g_DS M1).2 ≤ i + 1 ∧ (g_DS M1).1.length ≤ 10; rw [e8]; exact z) e7 (fun W R C z => ?_) ?_ ?_
    · refine iX_tx (t := t) (x := g_ov (g_X M1 t)) z ?_ (ix_nil rfl rfl) (fun c h => by show z_nm c (g_E M1).1; rw [e2]; exact h) (fun _ h => h) (fun _ h => h) (Nat.le_succ _) (Nat.le_refl _)
      show (fun q => if q = t then g_ov (g_X M1 t) else g_X M1 q) = _
      rw [e5]
    · have h2 : z_C M1 = z_C M := by unfold z_C z_los; rw [e1, e5, e6]
      have := zC_tx (M := M1) (x := g_ov (g_X M1 t)) ht (k := 0) (by rw [zcr_nil rfl]; exact Nat.zero_le _)
      omega
    · have := z4_bg (M := M) (M' := g_tx M1 t (g_ov (g_X M1 t))) ht (fun u hu => by show (if u = t then _ else g_X M1 u) = _; rw [if_neg hu, e5])
      have e9 : z_b (g_X (g_tx M1 t (g_ov (g_X M1 t))) t).1.1 ≤ 1 := zb_le _
      show (if g_los M1 = 0 then 0 else 1) + z_4 (fun u => z_b (g_X (g_tx M1 t (g_ov (g_X M1 t))) u).1.1) ≤ _
      rw [e6]
      omega
  rcases h with rfl | ⟨v, rfl⟩
  · exact key _ rfl rfl rfl rfl rfl rfl rfl rfl (fun _ _ z => z)
  · exact key _ rfl rfl rfl rfl rfl rfl rfl rfl (fun _ _ z => z)
theorem I_commit {i N w : Nat} {M : s_M} {x : Int32} (I : i_I i M N w) (hi : i < 512) : ∃ k, (s_inB x 0 3 = true → (g_X M (t_of x)).1.1 = true → f_td M (t_of x) = (M, -2147483648) → ¬ g_los M = 2 → g_sp M (e_all (g_n M + 1) (g_X M (t_of x)).2.1 (g_E M)) ≤ k) ∧ i_I (i + 1) (F_commit M x).1 (N + 1 + k) w := by
  obtain ⟨W, S, R, V, Vs, a, s, b, p, C, D, X, Y, Np, I0⟩ := id I
  obtain ⟨⟨g1, g2, g3⟩, hS, gX, gC, gN, g4, g5, g6⟩ := id I0
  have hn : g_n M < 8999 := by have := g1.1; omega
  cases hin : s_inB x 0 3 with
  | false => exact ⟨0, fun z => (by cases z), by unfold F_commit; rw [if_pos hin]; exact I_0 I (by omega)⟩
  | true =>
    have ht := z_t4 hin
    cases hb : (g_X M (t_of x)).1.1 with
    | false => exact ⟨0, fun _ z => (by cases z), by unfold F_commit; rw [if_neg (by rw [hin]; decide), if_pos hb]; exact I_0 I (by omega)⟩
    | true =>
      have hF : (F_commit M x).1 = (f_commit M (t_of x)).1 := by unfold F_commit; rw [if_neg (by rw [hin]; decide), if_neg (by rw [hb]; decide)]
      rw [hF]
      generalize t_of x = t at ht hb
      obtain ⟨x1, x2, x3, x4, x5, x6⟩ := gX t ht
      obtain ⟨r1, r2, r3⟩ := g1.2.2.2.1 t ht
      rcases td_cm (M := M) (t := t) (by omega) r1 r3 with ⟨c1, e⟩ | ⟨c1, hg, e⟩
      · refine ⟨0, fun _ _ z => absurd (by rw [z]) c1, ?_⟩
        rw [e]
        exact I_ov I ht z_td (by omega)
      · by_cases l2 : g_los M = 2
        · refine ⟨0, fun _ _ _ z => absurd l2 z, ?_⟩
          rw [e, if_pos l2]
          refine I_pre I (g_sl M 0) (by omega) rfl rfl rfl rfl (fun n g h => i1_sl h (by decide)) (fun _ h => h) rfl (fun W R C h => iX_same rfl rfl h) ?_ ?_
          · unfold z_C z_los
            show z_4 (fun t => z_cr (g_n M) (g_X M t)) + 0 ≤ _
            omega
          · show 0 + z_4 (fun t => z_b (g_X M t).1.1) ≤ _
            omega
        · obtain ⟨hS', hk⟩ := cm_S I0 hi ht
          refine ⟨g_sp M (e_all (g_n M + 1) (g_X M t).2.1 (g_E M)), fun _ _ _ _ => Nat.le_refl _, ?_⟩
          rw [e, if_neg l2]
          have gb : z_b (g_X M t).1.1 = 1 := by rw [hb]; rfl
          have gX1 : i_X W R (i + 1) (C + 1) (g_did M t) := by
            refine iX_tx (x := g_dn (g_X M t) (g_n M + 1)) gX rfl ?_ hk (fun _ h => h) (fun _ h => h) (Nat.le_succ _) (Nat.le_succ _)
            exact ix_mono (x := g_X M t) (gX t ht) hk (fun _ h => h) (fun _ h => h) (Nat.le_succ _) (Nat.le_succ _)
          have e0 : g_X (g_did M t) t = g_dn (g_X M t) (g_n M + 1) := by show (if t = t then _ else _) = _; rw [if_pos rfl]
          by_cases l1 : g_los M = 1
          · rw [if_pos l1]
            have hz := z4_up2 (f := fun u => z_cr (g_n M) (g_X M u)) (g := fun u => z_cr (g_n M + 1) (g_X (g_did M t) u)) ht (fun u hu => by show z_cr _ (if u = t then _ else g_X M u) ≤ _; rw [if_neg hu]; exact zcr_n _ (Nat.le_succ _))
            have hz2 := zcr_lost r1 x6 (goes_at hg)
            have e2 : z_cr (g_n M + 1) (g_X (g_did M t) t) = z_cr (g_n M + 1) (g_X M t) := by rw [e0]; exact zcr_hd rfl rfl
            have e3 : z_cr (g_n M + 1) (g_X M t) ≤ z_cr (g_n M) (g_X M t) := zcr_n _ (Nat.le_succ _)
            have zc1 : z_C (g_did M t) = z_4 (fun u => z_cr (g_n M + 1) (g_X (g_did M t) u)) := rfl
            have zc2 : z_C M = z_4 (fun u => z_cr (g_n M) (g_X M u)) + 11 := by unfold z_C z_los; rw [if_neg (by omega)]
            rw [e2] at hz
            refine ⟨W, _, R, V, _, a, s + 1, b, p, C + 1, D + 1, X + C, Y, _, ⟨⟨i1_mono (i1_did g1 ht) (by omega) (Nat.le_succ _), iD_same g2 rfl, by show g_ser M ≤ _; omega⟩, hS', gX1, iC_s gC (by rw [zc1, zc2]; omega) (by rw [zc1, zc2, st_len]; omega), iN_d gN ?_, by omega, Y_c g5, by omega⟩⟩
            have h9 := z4_bg (M := M) (M' := g_did M t) ht (fun u hu => by show (if u = t then _ else g_X M u) = _; rw [if_neg hu])
            have e9 : z_b (g_X (g_did M t) t).1.1 = z_b (g_X M t).1.1 := by rw [e0]; rfl
            show 0 + z_4 (fun t_1 => z_b (g_X (g_did M t) t_1).1.1) + 1 ≤ (if g_los M = 0 then 0 else 1) + _
            rw [if_neg (by omega)]
            omega
          · rw [if_neg l1]
            have l0 : g_los M = 0 := by have := g1.2.2.1; omega
            have gX2 : i_X W R (i + 1) (C + 1) (g_tx (g_did M t) t (g_ov (g_X (g_did M t) t))) := by
              refine iX_tx (x := g_ov (g_X (g_did M t) t)) gX1 rfl (ix_nil rfl rfl) (fun _ h => h) (fun _ h => h) (fun _ h => h) (Nat.le_refl _) (Nat.le_refl _)
            have hz := z4_up2 (f := fun u => z_cr (g_n M) (g_X M u)) (g := fun u => z_cr (g_n M + 1) (g_X (g_tx (g_did M t) t (g_ov (g_X (g_did M t) t))) u)) ht (fun u hu => by
              show z_cr _ (if u = t then _ else (if u = t then _ else g_X M u)) ≤ _
              rw [if_neg hu, if_neg hu]
              exact zcr_n _ (Nat.le_succ _))
            have hz2 := zcr_end x6 (goes_at hg)
            have e2 : z_cr (g_n M + 1) (g_X (g_tx (g_did M t) t (g_ov (g_X (g_did M t) t))) t) = 0 := by
              show z_cr _ (if t = t then _ else _) = 0
              rw [if_pos rfl]
              exact zcr_nil rfl
            have zc1 : z_C (g_tx (g_did M t) t (g_ov (g_X (g_did M t) t))) = z_4 (fun u => z_cr (g_n M + 1) (g_X (g_tx (g_did M t) t (g_ov (g_X (g_did M t) t))) u)) := rfl
            have zc2 : z_C M = z_4 (fun u => z_cr (g_n M) (g_X M u)) + 0 := by unfold z_C z_los; rw [if_pos l0]
            rw [e2] at hz
            refine ⟨W, _, R, V, _, a, s + 1, b, p, C + 1, D + 1, X + C, Y, _, ⟨⟨i1_mono (i1_ov (i1_did g1 ht) ht) (by omega) (Nat.le_succ _), iD_same g2 rfl, by show g_ser M ≤ _; omega⟩, hS', gX2, iC_s gC (by rw [zc1, zc2]; omega) (by rw [zc1, zc2, st_len]; omega), iN_d gN ?_, by omega, Y_c g5, by omega⟩⟩
            have h9 := z4_bg (M := M) (M' := g_tx (g_did M t) t (g_ov (g_X (g_did M t) t))) ht (fun u hu => by show (if u = t then _ else (if u = t then _ else g_X M u)) = _; rw [if_neg hu, if_neg hu])
            have e9 : z_b (g_X (g_tx (g_did M t) t (g_ov (g_X (g_did M t) t))) t).1.1 = 0 := by
              show z_b (if t = t then _ else _ : s_X).1.1 = 0
              rw [if_pos rfl]
              rfl
            show 0 + z_4 (fun u => z_b (g_X (g_tx (g_did M t) t (g_ov (g_X (g_did M t) t))) u).1.1) + 1 ≤ (if g_los M = 0 then 0 else 1) + _
            rw [if_pos l0]
            omega
