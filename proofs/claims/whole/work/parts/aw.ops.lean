/-! CALLS THAT COMMIT BY THEMSELVES -/
theorem I_cmt {i N w N' : Nat} {M : s_M} {E' : e_S} {W S R V V' Vs X : List Nat} {a s b p C D Xn Y Np : Nat} (I : i_A i M N w W S R V Vs a s b p C D Xn Y Np) (hi : i < 512)
    (hS : i_S W (S ++ X) R V' ((g_n M + 1) :: Vs) (i + 1) (s + 1) b (C + 1) (Xn + 0) (Np + g_sp M E') (g_cm M E')) (hX : 2 * X.length ≤ 11) (hk : ∀ c, z_nm c (g_E M).1 → z_nm c E'.1) (hN : N' ≤ N + 1 + g_sp M E') :
    i_I (i + 1) (g_cm M E') N' w ∧ g_ps M E' ∧ e_lim E' := by
  have l0 := A_lim I (by omega)
  obtain ⟨⟨g1, g2, g3⟩, -, gX, gC, gN, g4, g5, g6⟩ := I
  have zc := zC_n (M := M) (g_cm M E') (Nat.le_succ _) rfl rfl
  have J : i_A (i + 1) (g_cm M E') N' w W (S ++ X) R V' ((g_n M + 1) :: Vs) a (s + 1) b p (C + 1) D (Xn + 0) Y (Np + g_sp M E') :=
    ⟨⟨i1_mono (i1_cm g1) (by omega) (Nat.le_succ _), iD_same g2 rfl, by show g_ser M ≤ _; omega⟩, hS, iX_mono gX rfl hk (fun _ h => h) (fun _ h => h) (Nat.le_succ _) (Nat.le_succ _), iC_s gC zc (by omega), iN_c gN (Nat.le_refl _), by omega, Y_c g5, by omega⟩
  have l := A_lim J hi
  exact ⟨⟨_, _, _, _, _, _, _, _, _, _, _, _, _, _, J⟩, ps_of l0.2.2.1 l.2.1, l.1⟩
theorem A_n {i N w : Nat} {M : s_M} {W S R V Vs : List Nat} {a s b p C D X Y Np : Nat} (I : i_A i M N w W S R V Vs a s b p C D X Y Np) (hi : i < 512) : g_n M < 5121 := by
  have := I.1.1.1
  omega
/-- work is taken -/
def c7 (c : Nat) : Nat := s_cd (-7) (s_no c 1) 10000
def c5 (c : Nat) : Nat := s_cd (-5) (s_no c 1) 10000
theorem c75 (c : Nat) : c7 c / 121000000 = 993 ∧ c5 c / 121000000 = 995 ∧ c7 c < 1331000000000 ∧ c5 c < 1331000000000 ∧ y_K (c5 c) := by
  have n := s_no_na c 1
  unfold c7 c5
  refine ⟨by rw [s_cd_div n (Or.inl rfl)]; rfl, by rw [s_cd_div n (Or.inl rfl)]; rfl, s_cd_lt na_m6.2.1 n (Or.inl rfl), s_cd_lt na_m6.2.2.1 n (Or.inl rfl), fun _ => ?_⟩
  rw [s_no_1 na_m6.2.2.1 n (Or.inl rfl)]
theorem take_pos {w : Int32} {n : Nat} (hw : s_inB w 0 2 = true) (hn : n < 9000) : ¬ 10000 * w + nI n + 10 < 0 := by
  have e : 10000 * w + nI n + 10 = nI (10000 * w.toInt.toNat + n + 10) := by
    rcases s_in3 hw with rfl | rfl | rfl
    · show (10000 * 0 + nI n + 10 : Int32) = nI (10000 * 0 + n + 10)
      rw [show (10000 * 0 : Int32) = nI 0 from rfl, show (10 : Int32) = nI 10 from rfl, nI_add, nI_add]
    · show (10000 * 1 + nI n + 10 : Int32) = nI (10000 * 1 + n + 10)
      rw [show (10000 * 1 : Int32) = nI 10000 from rfl, show (10 : Int32) = nI 10 from rfl, nI_add, nI_add]
    · show (10000 * 2 + nI n + 10 : Int32) = nI (10000 * 2 + n + 10)
      rw [show (10000 * 2 : Int32) = nI 20000 from rfl, show (10 : Int32) = nI 10 from rfl, nI_add, nI_add]
  have h2 : w.toInt.toNat ≤ 2 := by rcases s_in3 hw with rfl | rfl | rfl <;> decide
  rw [e]
  intro z
  have := Int32.lt_iff_toInt_lt.mp z
  rw [nI_toInt (by omega)] at this
  have e0 : (0 : Int32).toInt = 0 := rfl
  omega
theorem I_tk {i N w N' c : Nat} {M : s_M} {x : Int32} (I : i_I i M N w) (hi : i < 512) (hx : s_inB x 0 2 = true) (hN : N' ≤ N + 1 + g_sp M (wk_tE M x c)) : i_I (i + 1) (g_cm M (wk_tE M x c)) N' w ∧ g_ps M (wk_tE M x c) ∧ e_lim (wk_tE M x c) := by
  obtain ⟨W, S, R, V, Vs, a, s, b, p, C, D, X, Y, Np, I⟩ := I
  have hn := A_n I hi
  have hS := I.2.1
  have h1 := I.1.1
  obtain ⟨l7, l5, b7, b5, k5⟩ := c75 c
  have z : z_P (g_n M + 1) (fun d v => d = c7 c ∧ ¬ v < 0) (fun _ => False) (g_E M) (wk_tE M x c) 2 0 1 := zP_sf ⟨rfl, take_pos hx (by omega)⟩
  have hc : z_cd (fun d v => d = c7 c ∧ ¬ v < 0) (fun _ => False) := ⟨fun d v h => by rw [h.1]; exact b7, fun d h => h.elim⟩
  refine I_cmt (V' := V) (X := [c7 c]) I hi ?_ (show 2 * 1 ≤ 11 from by decide) (fun c h => zP_keys z h) hN
  refine S_cm (e := 0) hS (by omega) I.2.2.2.1.2.2 z hc (fun d v h => ?_) (iV_cm hS.2.2.1 hS.1.1.2.1 (by omega) h1.2.2.2.2.1 z (fun d v h => ?_) (fun d h => h.elim) (fun d h => List.mem_append.mpr (Or.inl h))) (by decide) (by decide) (by decide)
  · obtain ⟨rfl, h⟩ := h
    refine ⟨fun z => by omega, fun f hf => ⟨fun z => by omega, fun z => by omega, fun _ => ?_⟩, fun z => by omega⟩
    injection hf with hf
    rw [← hf]; exact h
  · obtain ⟨rfl, h⟩ := h
    refine ⟨Or.inr (List.mem_append.mpr (Or.inr List.mem_cons_self)), fun z => by omega, fun z => ?_⟩
    have := co2_ly
    rw [← z] at this
    omega
theorem I_take {i N w : Nat} {M : s_M} {x : Int32} (I : i_I i M N w) (hi : i < 512) : ∃ k, (s_inB x 0 2 = true → ∀ y, (wk_list M (-2147483648)).head? = some y → g_sp M (wk_tE M x y.1) ≤ k) ∧ i_I (i + 1) (F_take M x).1 (N + 1 + k) w := by
  unfold F_take
  cases hx : s_inB x 0 2 with
  | false => exact ⟨0, fun z => (by cases z), by rw [if_pos rfl]; exact I_0 I (by omega)⟩
  | true =>
    rw [if_neg (by decide)]
    cases e : (wk_list M (-2147483648)).head? with
    | none => exact ⟨0, fun _ y h => (by cases h), I_0 I (by omega)⟩
    | some y =>
      refine ⟨g_sp M (wk_tE M x y.1), fun _ y' h => ?_, (I_tk I hi hx (Nat.le_refl _)).1⟩
      injection h with h
      rw [h]; exact Nat.le_refl _
/-- .. and finished -/
theorem I_fn {i N w N' c : Nat} {M : s_M} (I : i_I i M N w) (hi : i < 512) (hN : N' ≤ N + 1 + g_sp M (wk_fE M c)) : i_I (i + 1) (g_cm M (wk_fE M c)) N' w ∧ g_ps M (wk_fE M c) ∧ e_lim (wk_fE M c) := by
  obtain ⟨W, S, R, V, Vs, a, s, b, p, C, D, X, Y, Np, I⟩ := I
  have hn := A_n I hi
  have hS := I.2.1
  have h1 := I.1.1
  obtain ⟨l7, l5, b7, b5, k5⟩ := c75 c
  have z1 : z_P (g_n M + 1) (fun _ _ => False) (fun d => d = c7 c ∨ d = c5 c) (g_E M) (e_put (g_n M + 1) (c5 c) none (g_E M)) 1 0 1 := zP_nf (Or.inr rfl) ⟨k5, by omega⟩
  have z2 : z_P (g_n M + 1) (fun _ _ => False) (fun d => d = c7 c ∨ d = c5 c) (e_put (g_n M + 1) (c5 c) none (g_E M)) (wk_fE M c) 1 0 1 := zP_nf (Or.inl rfl) (show y_F (c7 c) from ⟨fun z => by omega, by omega⟩)
  have z := zP_trans z1 z2
  have hc : z_cd (fun _ _ => False) (fun d => d = c7 c ∨ d = c5 c) := ⟨fun d v h => h.elim, fun d h => by rcases h with rfl | rfl; exact b7; exact b5⟩
  refine I_cmt (V' := V) (X := []) I hi ?_ (show 2 * 0 ≤ 11 from by decide) (fun c h => zP_keys z h) hN
  refine S_cm (e := 0) hS (by omega) I.2.2.2.1.2.2 z hc (fun d v h => h.elim) (iV_cm hS.2.2.1 hS.1.1.2.1 (by omega) h1.2.2.2.2.1 z (fun d v h => h.elim) (fun d h e => ?_) (fun d h => List.mem_append.mpr (Or.inl h))) (by decide) (by decide) (by decide)
  have := co2_ly
  rw [← e] at this
  rcases h with rfl | rfl <;> omega
theorem I_finish {i N w : Nat} {M : s_M} {x : Int32} (I : i_I i M N w) (hi : i < 512) : ∃ k, (s_inB x 0 2 = true → ∀ y, (wk_list M x).head? = some y → g_sp M (wk_fE M y.1) ≤ k) ∧ i_I (i + 1) (F_finish M x).1 (N + 1 + k) w := by
  unfold F_finish
  cases hx : s_inB x 0 2 with
  | false => exact ⟨0, fun z => (by cases z), by rw [if_pos rfl]; exact I_0 I (by omega)⟩
  | true =>
    rw [if_neg (by decide)]
    cases e : (wk_list M x).head? with
    | none => exact ⟨0, fun _ y h => (by cases h), I_0 I (by omega)⟩
    | some y =>
      refine ⟨g_sp M (wk_fE M y.1), fun _ y' h => ?_, (I_fn I hi (Nat.le_refl _)).1⟩
      injection h with h
      rw [h]; exact Nat.le_refl _
/-! .. an index goes off -/
theorem clr_none {n lo hi c : Nat} {E : e_S} (K : i_K E) (h1 : lo ≤ c) (h2 : c < hi) : r_val c n (e_clr n lo hi E).2.1 = none := by
  have h := pus_ls n ((r_flt lo hi (fun c => (r_val c n E.2.1).isSome) E.1).map (fun x => x.1)) E.2.1
  have e : (e_clr n lo hi E).2.1 = r_pus n (((r_flt lo hi (fun c => (r_val c n E.2.1).isSome) E.1).map (fun x => x.1)).map (fun c => (c, none))) E.2.1 := by
    show r_pus n _ E.2.1 = _
    rw [List.map_map]
    rfl
  rw [e, h.1 c n]
  split
  · rfl
  · rename_i hn
    cases q : r_val c n E.2.1 with
    | none => rfl
    | some v =>
      obtain ⟨k, hk⟩ := val_in K.2.1 (c := c) (n := n) (by rw [q]; rfl)
      refine absurd ⟨List.mem_map.mpr ⟨(c, k), List.mem_filter.mpr ⟨hk, ?_⟩, rfl⟩, Nat.le_refl _⟩ hn
      show (decide (lo ≤ c) && decide (c < hi) && (r_val c n E.2.1).isSome) = true
      rw [decide_eq_true h1, decide_eq_true h2, q]
      rfl
theorem of_2 : of_lo 2 = 120516000000 ∧ of_hi 2 + 1 = 120637000000 := by decide +kernel
theorem I_of {i N w N' : Nat} {M : s_M} {x : Int32} (I : i_I i M N w) (hi : i < 512) (hx : s_inB x 0 2 = true) (hN : N' ≤ N + 1 + g_sp M (of_E M x)) : i_I (i + 1) (g_cm M (of_E M x)) N' w ∧ g_ps M (of_E M x) ∧ e_lim (of_E M x) := by
  obtain ⟨W, S, R, V, Vs, a, s, b, p, C, D, X, Y, Np, I⟩ := I
  have hn := A_n I hi
  have hS := I.2.1
  have h1 := I.1.1
  obtain ⟨o1, o2, o3, o4, o5, o6⟩ := of_cl hx
  have co : sv_co x / 121000000 = 994 ∧ sv_co x < 1331000000000 := by omega
  have z1 : z_P (g_n M + 1) (fun d v => d = sv_co x ∧ v = (-1000 : Int32)) (fun d => of_lo x ≤ d ∧ d < of_hi x + 1) (g_E M) (e_clr (g_n M + 1) (of_lo x) (of_hi x + 1) (g_E M)) 0 1 0 := zP_clr hS.1.2 o1 (by omega) (fun d p q => ⟨p, q⟩)
  have z2 : z_P (g_n M + 1) (fun d v => d = sv_co x ∧ v = (-1000 : Int32)) (fun d => of_lo x ≤ d ∧ d < of_hi x + 1) (e_clr (g_n M + 1) (of_lo x) (of_hi x + 1) (g_E M)) (of_E M x) 2 0 1 := zP_sf ⟨rfl, rfl⟩
  have z := zP_trans z1 z2
  have hc : z_cd (fun d v => d = sv_co x ∧ v = (-1000 : Int32)) (fun d => of_lo x ≤ d ∧ d < of_hi x + 1) := ⟨fun d v h => by rw [h.1]; exact co.2, fun d h => by omega⟩
  have key : i_V W (S ++ [sv_co x]) R V (g_n M + 1) (of_E M x).2.1 (g_MK M) := by
    by_cases e2 : x = 2
    · refine iV_off hS.2.2.1 hS.1.1.2.1 (by omega) h1.2.2.2.2.1 z (fun d v h => List.mem_append.mpr (Or.inr (by rw [h.1]; exact List.mem_cons_self))) (fun d h => List.mem_append.mpr (Or.inl h)) (fun d hd => ?_)
      subst e2
      have t := of_2
      show r_val d (g_n M + 1) (e_put (g_n M + 1) (sv_co 2) _ _).2.1 = none
      rw [put_val, if_neg (fun z => by rw [← z.1, co2_ly] at hd; cases hd)]
      exact clr_none hS.1.2 (by omega) (by omega)
    · have ne : ¬ sv_co x = sv_co 2 := fun e => by
        rcases s_in3 hx with rfl | rfl | rfl
        · exact absurd e (by decide +kernel)
        · exact absurd e (by decide +kernel)
        · exact e2 rfl
      refine iV_cm hS.2.2.1 hS.1.1.2.1 (by omega) h1.2.2.2.2.1 z (fun d v h => ?_) (fun d h e => ?_) (fun d h => List.mem_append.mpr (Or.inl h))
      · obtain ⟨rfl, -⟩ := h
        exact ⟨Or.inr (List.mem_append.mpr (Or.inr List.mem_cons_self)), fun z => by omega, ne⟩
      · have := co2_ly
        rw [← e] at this
        omega
  refine I_cmt (V' := V) (X := [sv_co x]) I hi ?_ (show 2 * 1 ≤ 11 from by decide) (fun c h => zP_keys z h) hN
  refine S_cm (e := 0) hS (by omega) I.2.2.2.1.2.2 z hc (fun d v h => ?_) key (by decide) (by decide) (by decide)
  obtain ⟨rfl, rfl⟩ := h
  refine ⟨fun z => by omega, fun f hf => ⟨fun z => by omega, fun _ => ?_, fun z => by omega⟩, fun z => by omega⟩
  injection hf with hf
  exact Or.inr (Or.inl hf.symm)
theorem I_off {i N w : Nat} {M : s_M} {x : Int32} (I : i_I i M N w) (hi : i < 512) : ∃ k, (s_inB x 0 2 = true → g_sp M (of_E M x) ≤ k) ∧ i_I (i + 1) (F_off M x).1 (N + 1 + k) w := by
  unfold F_off
  cases hx : s_inB x 0 2 with
  | false => exact ⟨0, fun z => (by cases z), by rw [if_pos rfl]; exact I_0 I (by omega)⟩
  | true =>
    rw [if_neg (by decide)]
    exact ⟨g_sp M (of_E M x), fun _ => Nat.le_refl _, (I_of I hi hx (Nat.le_refl _)).1⟩
/-! .. bringing back -/
theorem I_bb {i N w N' v : Nat} {M : s_M} (I : i_I i M N w) (hi : i < 512) (hv : v ∈ g_MK M) (hN : N' ≤ N + 1 + g_sp M (bb_E M v)) : i_I (i + 1) (g_cm M (bb_E M v)) N' w ∧ g_ps M (bb_E M v) ∧ e_lim (bb_E M v) := by
  obtain ⟨W, S, R, V, Vs, a, s, b, p, C, D, X, Y, Np, I⟩ := I
  have hn := A_n I hi
  have l0 := A_lim I (by omega)
  obtain ⟨⟨g1, g2, g3⟩, hS, gX, gC, gN, g4, g5, g6⟩ := I
  have hS' := S_back hS (by omega) gC.2.2 g1.2.2.2.2.1 hv
  have z := (zP_back (M := M) (v := v) hS.1.2).1
  have zc := zC_n (M := M) (g_cm M (bb_E M v)) (Nat.le_succ _) rfl rfl
  have J : i_A (i + 1) (g_cm M (bb_E M v)) N' w W [] R V Vs (a + (s - 1)) 0 (b + (if s = 0 then 1 else 2)) p C D X Y (Np + g_sp M (bb_E M v)) :=
    ⟨⟨i1_mono (i1_cm g1) (by omega) (Nat.le_succ _), iD_same g2 rfl, by show g_ser M ≤ _; omega⟩, hS', iX_mono gX rfl (fun c h => zP_keys z h) (fun _ h => h) (fun _ h => h) (Nat.le_succ _) (Nat.le_refl _), iC_back gC zc, iN_b gN ⟨rfl, rfl⟩, by omega, g5, by omega⟩
  have l := A_lim J hi
  exact ⟨⟨_, _, _, _, _, _, _, _, _, _, _, _, _, _, J⟩, ps_of l0.2.2.1 l.2.1, l.1⟩
theorem I_bringBack {i N w : Nat} {M : s_M} {x : Int32} (I : i_I i M N w) (hi : i < 512) : ∃ k, (∀ v ∈ g_MK M, s_inB x 0 (nI (g_MK M).length - 1) = true → v = (g_MK M).getD (t_of x) 0 → 0 < (bb_list M v).length → g_sp M (bb_E M v) ≤ k) ∧ i_I (i + 1) (F_bringBack M x).1 (N + 1 + k) w := by
  have hl : (g_MK M).length ≤ 10 := by
    obtain ⟨W, S, R, V, Vs, a, s, b, p, C, D, X, Y, Np, I⟩ := I
    exact I.1.1.2.2.2.2.2.1
  unfold F_bringBack
  by_cases h : s_inB x 0 (nI (g_MK M).length - 1) = false
  · rw [if_pos h]
    exact ⟨0, fun v _ z => absurd z (by rw [h]; decide), I_0 I (by omega)⟩
  · rw [if_neg h]
    have hix := z_idx (x := x) (k := (g_MK M).length) (by omega) (by simpa using h)
    have hm : (g_MK M).getD (t_of x) 0 ∈ g_MK M := by
      rw [List.getD_eq_getElem?_getD, List.getElem?_eq_getElem hix]
      exact List.getElem_mem hix
    by_cases h2 : 0 < (bb_list M ((g_MK M).getD (t_of x) 0)).length
    · refine ⟨g_sp M (bb_E M ((g_MK M).getD (t_of x) 0)), fun v _ _ e _ => by rw [e]; exact Nat.le_refl _, ?_⟩
      show i_I (i + 1) (if _ then _ else _) _ _
      rw [if_pos h2]
      exact (I_bb I hi hm (Nat.le_refl _)).1
    · refine ⟨0, fun v _ _ e q => absurd (by rw [e] at q; exact q) h2, ?_⟩
      show i_I (i + 1) (if _ then _ else _) _ _
      rw [if_neg h2]
      exact I_0 I (by omega)
