section
/-! CALLS THAT COMMIT BY THEMSELVES -/
theorem I_cmt {i N w N' : Nat} {M : s_M} {E' : e_S} {W S R V V' Vs X : List Nat} {a s b p C D Xn Y Np : Nat} (I : i_A i M N w W S R V Vs a s b p C D Xn Y Np) (hi : i < 512)
    (hS : i_S W (S ++ X) R V' ((g_n M + 1) :: Vs) (i + 1) (s + 1) b (C + 1) (Xn + 0) (Np + g_sp M E') (g_cm M E')) (hX : 2 * X.length ≤ 11) (hk : ∀ c, z_nm c (g_E M).1 → z_nm c E'.1) (hN : N' ≤ N + 1 + g_sp M E') :
    i_I (i + 1) (g_cm M E') N' w ∧ g_ps M E' ∧ e_lim E' := by
  have l0 := A_lim I (by omega)
  obtain ⟨⟨g1, g2, g3⟩, -, gX, gC, gN, g4, g5, g6⟩ := I
  have zc := zC_n (M := M) (g_cm M E') (Nat.le_succ _) rfl rfl
  have J : i_A (i + 1) (g_cm M E') N' w W (S ++ X) R V' ((g_n M + 1) :: Vs) a (s + 1) b p (C + 1) D (Xn + 0) Y (Np + g_sp M E') :=
    ⟨⟨i1_mono (i1_cm g1) (by omega) (Nat.le_succ _), iD_same g2 rfl, by show g_ser M ≤ _; omega⟩, hS, iX_mono gX rfl hk (fun _ h => h) (fun _ h => h) (Nat.le_succ _) (Nat.le_succ _), iC_s gC zc (by omega), iN_c gN (Nat.le_refl _), by omega, Y_c g5, by omega⟩
  have l := A_lim J hi
  exact ⟨⟨_, _, _, _, _, _, _, _, _, _, _, _, _, _, J⟩, ps_of l0.2.2.1 l.2.1, l.1⟩
theorem A_n {i N w : Nat} {M : s_M} {W S R V Vs : List Nat} {a s b p C D X Y Np : Nat} (I : i_A i M N w W S R V Vs a s b p C D X Y Np) (hi : i < 512) : g_n M < 5121 := by
  have := I.1.1.1
  omega
/-- work is taken -/
def c7 (c : Nat) : Nat := s_cd (-7) (s_no c 1) 10000
def c5 (c : Nat) : Nat := s_cd (-5) (s_no c 1) 10000
theorem c75 (c : Nat) : c7 c / 121000000 = 993 ∧ c5 c / 121000000 = 995 ∧ c7 c < 1331000000000 ∧ c5 c < 1331000000000 ∧ y_K (c5 c) := by
  have n := s_no_na c 1
  unfold c7 c5
  refine ⟨by rw [s_cd_div n (Or.inl rfl)]; rfl, by rw [s_cd_div n (Or.inl rfl)]; rfl, s_cd_lt na_m6.2.1 n (Or.inl rfl), s_cd_lt na_m6.2.2.1 n (Or.inl rfl), fun _ => ?_⟩
  rw [s_no_1 na_m6.2.2.1 n (Or.inl rfl)]
theorem take_pos {w : Int32} {n : Nat} (hw : s_inB w 0 2 = true) (hn : n < 9000) : ¬ 10000 * w + nI n + 10 < 0 := by
  have e : 10000 * w + nI n + 10 = nI (10000 * w.toInt.toNat + n + 10) := by
    rcases s_in3 hw with rfl | rfl | rfl
    · show (10000 * 0 + nI n + 10 : Int32) = nI (10000 * 0 + n + 10)
      rw [show (10000 * 0 : Int32) = nI 0 from rfl, show (10 : Int32) = nI 10 from rfl, nI_add, nI_add]
    · show (10000 * 1 + nI n + 10 : Int32) = nI (10000 * 1 + n + 10)
      rw [show (10000 * 1 : Int32) = nI 10000 from rfl, show (10 : Int32) = nI 10 from rfl, nI_add, nI_add]
    · show (10000 * 2 + nI n + 10 : Int32) = nI (10000 * 2 + n + 10)
      rw [show (10000 * 2 : Int32) = nI 20000 from rfl, show (10 : Int32) = nI 10 from rfl, nI_add, nI_add]
  have h2 : w.toInt.toNat ≤ 2 := by rcases s_in3 hw with rfl | rfl | rfl <;> decide
  rw [e]
  intro z
  have := Int32.lt_iff_toInt_lt.mp z
  rw [nI_toInt (by omega)] at this
  have e0 : (0 : Int32).toInt = 0 := rfl
  omega
theorem I_tk {i N w N' c : Nat} {M : s_M} {x : Int32} (I : i_I i M N w) (hi : i < 512) (hx : s_inB x 0 2 = true) (hN : N' ≤ N + 1 + g_sp M (wk_tE M x c)) : i_I (i + 1) (g_cm M (wk_tE M x c)) N' w ∧ g_ps M (wk_tE M x c) ∧ e_lim (wk_tE M x c) := by
  obtain ⟨W, S, R, V, Vs, a, s, b, p, C, D, X, Y, Np, I⟩ := I
  have hn := A_n I hi
  have hS := I.2.1
  have h1 := I.1.1
  obtain ⟨l7, l5, b7, b5, k5⟩ := c75 c
  have z : z_P (g_n M + 1) (fun d v => d = c7 c ∧ ¬ v < 0) (fun _ => False) (g_E M) (wk_tE M x c) 2 0 1 := zP_sf ⟨rfl, take_pos hx (by omega)⟩
  have hc : z_cd (fun d v => d = c7 c ∧ ¬ v < 0) (fun _ => False) := ⟨fun d v h => by rw [h.1]; exact b7, fun d h => h.elim⟩
  refine I_cmt (V' := V) (X := [c7 c]) I hi ?_ (show 2 * 1 ≤ 11 from by decide) (fun c h => zP_keys z h) hN
  refine S_cm (e := 0) hS (by omega) I.2.2.2.1.2.2 z hc (fun d v h => ?_) (iV_cm hS.2.2.1 hS.1.1.2.1 (by omega) h1.2.2.2.2.1 z (fun d v h => ?_) (fun d h => h.elim) (fun d h => List.mem_append.mpr (Or.inl h))) (by decide) (by decide) (by decide)
  · obtain ⟨rfl, h⟩ := h
    refine ⟨fun z => by omega, fun f hf => ⟨fun z => by omega, fun z => by omega, fun _ => ?_⟩, fun z => by omega⟩
    injection hf with hf
    rw [← hf]; exact h
  · obtain ⟨rfl, h⟩ := h
    refine ⟨Or.inr (List.mem_append.mpr (Or.inr List.mem_cons_self)), fun z => by omega, fun z => ?_⟩
    have := co2_ly
    rw [← z] at this
    omega
theorem I_take {i N w : Nat} {M : s_M} {x : Int32} (I : i_I i M N w) (hi : i < 512) : ∃ k, (s_inB x 0 2 = true → ∀ y, (wk_list M (-2147483648)).head? = some y → g_sp M (wk_tE M x y.1) ≤ k) ∧ i_I (i + 1) (F_take M x).1 (N + 1 + k) w := by
  unfold F_take
  cases hx : s_inB x 0 2 with
  | false => exact ⟨0, fun z => (by cases z), by rw [if_pos rfl]; exact I_0 I (by omega)⟩
  | true =>
    rw [if_neg (by decide)]
    cases e : (wk_list M (-2147483648)).head? with
    | none => exact ⟨0, fun _ y h => (by cases h), I_0 I (by omega)⟩
    | some y =>
      refine ⟨g_sp M (wk_tE M x y.1), fun _ y' h => ?_, (I_tk I hi hx (Nat.le_refl _)).1⟩
      injection h with h
      rw [h]; exact Nat.le_refl _
/-- .. and finished -/
theorem I_fn {i N w N' c : Nat} {M : s_M} (I : i_I i M N w) (hi : i < 512) (hN : N' ≤ N + 1 + g_sp M (wk_fE M c)) : i_I (i + 1) (g_cm M (wk_fE M c)) N' w ∧ g_ps M (wk_fE M c) ∧ e_lim (wk_fE M c) := by
  obtain ⟨W, S, R, V, Vs, a, s, b, p, C, D, X, Y, Np, I⟩ := I
  have hn := A_n I hi
  have hS := I.2.1
  have h1 := I.1.1
  obtain ⟨l7, l5, b7, b5, k5⟩ := c75 c
  have z1 : z_P (g_n M + 1) (fun _ _ => False) (fun d => d = c7 c ∨ d = c5 c) (g_E M) (e_put (g_n M + 1) (c5 c) none (g_E M)) 1 0 1 := zP_nf (Or.inr rfl) ⟨k5, by omega⟩
  have z2 : z_P (g_n M + 1) (fun _ _ => False) (fun d => d = c7 c ∨ d = c5 c) (e_put (g_n M + 1) (c5 c) none (g_E M)) (wk_fE M c) 1 0 1 := zP_nf (Or.inl rfl) (show y_F (c7 c) from ⟨fun z => by omega, by omega⟩)
  have z := zP_trans z1 z2
  have hc : z_cd (fun _ _ => False) (fun d => d = c7 c ∨ d = c5 c) := ⟨fun d v h => h.elim, fun d h => by rcases h with rfl | rfl; exact b7; exact b5⟩
  refine I_cmt (V' := V) (X := []) I hi ?_ (show 2 * 0 ≤ 11 from by decide) (fun c h => zP_keys z h) hN
  refine S_cm (e := 0) hS (by omega) I.2.2.2.1.2.2 z hc (fun d v h => h.elim) (iV_cm hS.2.2.1 hS.1.1.2.1 (by omega) h1.2.2.2.2.1 z (fun d v h => h.elim) (fun d h e => ?_) (fun d h => List.mem_append.mpr (Or.inl h))) (by decide) (by decide) (by decide)
  have := co2_ly
  rw [← e] at this
  rcases h with rfl | rfl <;> omega
theorem I_finish {i N w : Nat} {M : s_M} {x : Int32} (I : i_I i M N w) (hi : i < 512) : ∃ k, (s_inB x 0 2 = true → ∀ y, (wk_list M x).head? = some y → g_sp M (wk_fE M y.1) ≤ k) ∧ i_I (i + 1) (F_finish M x).1 (N + 1 + k) w := by
  unfold F_finish
  cases hx : s_inB x 0 2 with
  | false => exact ⟨0, fun z => (by cases z), by rw [if_pos rfl]; exact I_0 I (by omega)⟩
  | true =>
    rw [if_neg (by decide)]
    cases e : (wk_list M x).head? with
    | none => exact ⟨0, fun _ y h => (by cases h), I_0 I (by omega)⟩
    | some y =>
      refine ⟨g_sp M (wk_fE M y.1), fun _ y' h => ?_, (I_fn I hi (Nat.le_refl _)).1⟩
      injection h with h
      rw [h]; exact Nat.le_refl _
/-! .. an index goes off -/
theorem clr_none {n lo hi c : Nat} {E : e_S} (K : i_K E) (h1 : lo ≤ c) (h2 : c < hi) : r_val c n (e_clr n lo hi E).2.1 = none := by
  have h := pus_ls n ((r_flt lo hi (fun c => (r_val c n E.2.1).isSome) E.1).map (fun x => x.1)) E.2.1
  have e : (e_clr n lo hi E).2.1 = r_pus n (((r_flt lo hi (fun c => (r_val c n E.2.1).isSome) E.1).map (fun x => x.1)).map (fun c => (c, none))) E.2.1 := by
    show r_pus n _ E.2.1 = _
    rw [List.map_map]
    rfl
  rw [e, h.1 c n]
  split
  · rfl
  · rename_i hn
    cases q : r_val c n E.2.1 with
    | none => rfl
    | some v =>
      obtain ⟨k, hk⟩ := val_in K.2.1 (c := c) (n := n) (by rw [q]; rfl)
      refine absurd ⟨List.mem_map.mpr ⟨(c, k), List.mem_filter.mpr ⟨hk, ?_⟩, rfl⟩, Nat.le_refl _⟩ hn
      show (decide (lo ≤ c) && decide (c < hi) && (r_val c n E.2.1).isSome) = true
      rw [decide_eq_true h1, decide_eq_true h2, q]
      rfl
theorem of_2 : of_lo 2 = 120516000000 ∧ of_hi 2 + 1 = 120637000000 := by decide +kernel
theorem I_of {i N w N' : Nat} {M : s_M} {x : Int32} (I : i_I i M N w) (hi : i < 512) (hx : s_inB x 0 2 = true) (hN : N' ≤ N + 1 + g_sp M (of_E M x)) : i_I (i + 1) (g_cm M (of_E M x)) N' w ∧ g_ps M (of_E M x) ∧ e_lim (of_E M x) := by
  obtain ⟨W, S, R, V, Vs, a, s, b, p, C, D, X, Y, Np, I⟩ := I
  have hn := A_n I hi
  have hS := I.2.1
  have h1 := I.1.1
  obtain ⟨o1, o2, o3, o4, o5, o6⟩ := of_cl hx
  have co : sv_co x / 121000000 = 994 ∧ sv_co x < 1331000000000 := by omega
  have z1 : z_P (g_n M + 1) (fun d v => d = sv_co x ∧ v = (-1000 : Int32)) (fun d => of_lo x ≤ d ∧ d < of_hi x + 1) (g_E M) (e_clr (g_n M + 1) (of_lo x) (of_hi x + 1) (g_E M)) 0 1 0 := zP_clr hS.1.2 o1 (by omega) (fun d p q => ⟨p, q⟩)
  have z2 : z_P (g_n M + 1) (fun d v => d = sv_co x ∧ v = (-1000 : Int32)) (fun d => of_lo x ≤ d ∧ d < of_hi x + 1) (e_clr (g_n M + 1) (of_lo x) (of_hi x + 1) (g_E M)) (of_E M x) 2 0 1 := zP_sf ⟨rfl, rfl⟩
  have z := zP_trans z1 z2
  have hc : z_cd (fun d v => d = sv_co x ∧ v = (-1000 : Int32)) (fun d => of_lo x ≤ d ∧ d < of_hi x + 1) := ⟨fun d v h => by rw [h.1]; exact co.2, fun d h => by omega⟩
  have key : i_V W (S ++ [sv_co x]) R V (g_n M + 1) (of_E M x).2.1 (g_MK M) := by
    by_cases e2 : x = 2
    · refine iV_off hS.2.2.1 hS.1.1.2.1 (by omega) h1.2.2.2.2.1 z (fun d v h => List.mem_append.mpr (Or.inr (by rw [h.1]; exact List.mem_cons_self))) (fun d h => List.mem_append.mpr (Or.inl h)) (fun d hd => ?_)
      subst e2
      have t := of_2
      show r_val d (g_n M + 1) (e_put (g_n M + 1) (sv_co 2) _ _).2.1 = none
      rw [put_val, if_neg (fun z => by rw [← z.1, co2_ly] at hd; cases hd)]
      exact clr_none hS.1.2 (by omega) (by omega)
    · have ne : ¬ sv_co x = sv_co 2 := fun e => by
        rcases s_in3 hx with rfl | rfl | rfl
        · exact absurd e (by decide +kernel)
        · exact absurd e (by decide +kernel)
        · exact e2 rfl
      refine iV_cm hS.2.2.1 hS.1.1.2.1 (by omega) h1.2.2.2.2.1 z (fun d v h => ?_) (fun d h e => ?_) (fun d h => List.mem_append.mpr (Or.inl h))
      · obtain ⟨rfl, -⟩ := h
        exact ⟨Or.inr (List.mem_append.mpr (Or.inr List.mem_cons_self)), fun z => by omega, ne⟩
      · have := co2_ly
        rw [← e] at this
        omega
  refine I_cmt (V' := V) (X := [sv_co x]) I hi ?_ (show 2 * 1 ≤ 11 from by decide) (fun c h => zP_keys z h) hN
  refine S_cm (e := 0) hS (by omega) I.2.2.2.1.2.2 z hc (fun d v h => ?_) key (by decide) (by decide) (by decide)
  obtain ⟨rfl, rfl⟩ := h
  refine ⟨fun z => by omega, fun f hf => ⟨fun z => by omega, fun _ => ?_, fun z => by omega⟩, fun z => by omega⟩
  injection hf with hf
  exact Or.inr (Or.inl hf.symm)
theorem I_off {i N w : Nat} {M : s_M} {x : Int32} (I : i_I i M N w) (hi : i < 512) : ∃ k, (s_inB x 0 2 = true → g_sp M (of_E M x) ≤ k) ∧ i_I (i + 1) (F_off M x).1 (N + 1 + k) w := by
  unfold F_off
  cases hx : s_inB x 0 2 with
  | false => exact ⟨0, fun z => (by cases z), by rw [if_pos rfl]; exact I_0 I (by omega)⟩
  | true =>
    rw [if_neg (by decide)]
    exact ⟨g_sp M (of_E M x), fun _ => Nat.le_refl _, (I_of I hi hx (Nat.le_refl _)).1⟩
/-! .. bringing back -/
theorem I_bb {i N w N' v : Nat} {M : s_M} (I : i_I i M N w) (hi : i < 512) (hv : v ∈ g_MK M) (hN : N' ≤ N + 1 + g_sp M (bb_E M v)) : i_I (i + 1) (g_cm M (bb_E M v)) N' w ∧ g_ps M (bb_E M v) ∧ e_lim (bb_E M v) := by
  obtain ⟨W, S, R, V, Vs, a, s, b, p, C, D, X, Y, Np, I⟩ := I
  have hn := A_n I hi
  have l0 := A_lim I (by omega)
  obtain ⟨⟨g1, g2, g3⟩, hS, gX, gC, gN, g4, g5, g6⟩ := I
  have hS' := S_back hS (by omega) gC.2.2 g1.2.2.2.2.1 hv
  have z := (zP_back (M := M) (v := v) hS.1.2).1
  have zc := zC_n (M := M) (g_cm M (bb_E M v)) (Nat.le_succ _) rfl rfl
  have J : i_A (i + 1) (g_cm M (bb_E M v)) N' w W [] R V Vs (a + (s - 1)) 0 (b + (if s = 0 then 1 else 2)) p C D X Y (Np + g_sp M (bb_E M v)) :=
    ⟨⟨i1_mono (i1_cm g1) (by omega) (Nat.le_succ _), iD_same g2 rfl, by show g_ser M ≤ _; omega⟩, hS', iX_mono gX rfl (fun c h => zP_keys z h) (fun _ h => h) (fun _ h => h) (Nat.le_succ _) (Nat.le_refl _), iC_back gC zc, iN_b gN ⟨rfl, rfl⟩, by omega, g5, by omega⟩
  have l := A_lim J hi
  exact ⟨⟨_, _, _, _, _, _, _, _, _, _, _, _, _, _, J⟩, ps_of l0.2.2.1 l.2.1, l.1⟩
theorem I_bringBack {i N w : Nat} {M : s_M} {x : Int32} (I : i_I i M N w) (hi : i < 512) : ∃ k, (∀ v ∈ g_MK M, s_inB x 0 (nI (g_MK M).length - 1) = true → v = (g_MK M).getD (t_of x) 0 → 0 < (bb_list M v).length → g_sp M (bb_E M v) ≤ k) ∧ i_I (i + 1) (F_bringBack M x).1 (N + 1 + k) w := by
  have hl : (g_MK M).length ≤ 10 := by
    obtain ⟨W, S, R, V, Vs, a, s, b, p, C, D, X, Y, Np, I⟩ := I
    exact I.1.1.2.2.2.2.2.1
  unfold F_bringBack
  by_cases h : s_inB x 0 (nI (g_MK M).length - 1) = false
  · rw [if_pos h]
    exact ⟨0, fun v _ z => absurd z (by rw [h]; decide), I_0 I (by omega)⟩
  · rw [if_neg h]
    have hix := z_idx (x := x) (k := (g_MK M).length) (by omega) (by simpa using h)
    have hm : (g_MK M).getD (t_of x) 0 ∈ g_MK M := by
      rw [List.getD_eq_getElem?_getD, List.getElem?_eq_getElem hix]
      exact List.getElem_mem hix
    by_cases h2 : 0 < (bb_list M ((g_MK M).getD (t_of x) 0)).length
    · refine ⟨g_sp M (bb_E M ((g_MK M).getD (t_of x) 0)), fun v _ _ e _ => by rw [e]; exact Nat.le_refl _, ?_⟩
      show i_I (i + 1) (if _ then _ else _) _ _
      rw [if_pos h2]
      exact (I_bb I hi hm (Nat.le_refl _)).1
    · refine ⟨0, fun v _ _ e q => absurd (by rw [e] at q; exact q) h2, ?_⟩
      show i_I (i + 1) (if _ then _ else _) _ _
      rw [if_neg h2]
      exact I_0 I (by omega)
end
section
/-! AN INDEX IS BUILT -/
def aB (W R : List Nat) (n : Nat) (x st : Int32) (c : Nat) (v : Int32) : Prop := (x = 2 ∧ ∃ k, k < 100 ∧ k ∈ R ∧ c = s_cd (-4) (nI n) (nI k) ∧ ¬ nI k ≤ st) ∨ (¬ x = 2 ∧ c ∈ W ∧ (c / 121000000 = 998 ∨ c / 121000000 = 997)) ∨ (c = sv_co x ∧ (v = 1000 ∨ v = -1000 ∨ ∃ j, j < 100 ∧ v = nI j))
def fB (_ : Nat) : Prop := False
theorem aB_at {W R : List Nat} {n : Nat} {x st : Int32} {c : Nat} {v : Int32} (hx : s_inB x 0 2 = true) (hn : n < 9000) (hW : ∀ c ∈ W, c / 121000000 = 998 ∨ c / 121000000 = 997 → c < 1331000000000) (h : aB W R n x st c v) : c < 1331000000000 ∧ y_K c ∧ y_E W R c (some v) ∧ (c / 121000000 = 996 → s_dig c 1 = n + 1000) := by
  rcases h with ⟨-, k, hk, -, rfl, -⟩ | ⟨-, hw, hl⟩ | ⟨rfl, hv⟩
  · obtain ⟨l1, l2, l3, l4⟩ := m4_ly hn hk
    exact ⟨l4, fun z => by omega, fun f _ => ⟨fun z => by omega, fun z => by omega, fun z => by omega⟩, fun _ => l2⟩
  · exact ⟨hW c hw hl, fun z => by omega, fun f _ => ⟨fun z => by omega, fun z => by omega, fun z => by omega⟩, fun z => by omega⟩
  · obtain ⟨o1, o2, o3, o4, o5, o6⟩ := of_cl hx
    refine ⟨by omega, fun z => by omega, fun f hf => ⟨fun z => by omega, fun _ => ?_, fun z => by omega⟩, fun z => by omega⟩
    injection hf with hf
    rw [← hf]
    exact hv
theorem re_inj {k k' : Nat} (h : k < 100) (h' : k' < 100) (e : sv_re (nI k) = sv_re (nI k')) : k = k' := by
  have h1 := s_cd_inj na_m6.2.2.2.2.2.2.1 (na_100 (by omega)) (Or.inl rfl) na_m6.2.2.2.2.2.2.1 (na_100 (by omega)) (Or.inl rfl) e
  exact (nI_eq (by omega) (by omega)).mp h1.2.1
theorem re_ly {k : Nat} (h : k < 100) : sv_re (nI k) / 121000000 = 999 := by
  unfold sv_re
  rw [s_cd_div (na_100 (by omega)) (Or.inl rfl)]
  rfl
theorem re_rec {W R : List Nat} {L : List k_E4} (h : ∀ x ∈ L, y_E W R x.2.1 x.2.2.2) {k v : Nat} {f : Int32} (hk : k < 100) (e : r_val (sv_re (nI k)) v L = some f) : ∃ j, y_rec W R k j ∧ f = nI j := by
  obtain ⟨x, hx, e1, -, e3⟩ := val_mem e
  have := h x hx
  rw [e1, e3] at this
  obtain ⟨k', j, h1, h2, h3⟩ := (this f rfl).1 (re_ly hk)
  rw [← re_inj hk h1.1 h2] at h1
  exact ⟨j, h1, h3⟩
section BF
variable {W R : List Nat} {n : Nat} {x st most : Int32} {E : e_S}
/-- what stays so from step to step -/
def b_ok (W R : List Nat) (n : Nat) (x st : Int32) (E : e_S) (s0 : Nat) (A : b_S) : Prop := z_P n (aB W R n x st) fB E A.1 (2 * A.2.1) 0 A.2.1 ∧ A.2.1 ≤ 20 ∧ st ≤ A.2.2.1 ∧ (A.2.2.1 = st ∨ ∃ j, j < 100 ∧ A.2.2.1 = nI j) ∧ (∀ k, k < 100 → (r_val (s_cd (-4) (nI n) (nI k)) n A.1.2.1).isSome = true → k < s0 ∧ nI k ≤ A.2.2.1)
theorem b_fold (hx : s_inB x 0 2 = true) (hn : n < 9000) (hW : ∀ c ∈ W, c / 121000000 = 998 ∨ c / 121000000 = 997 → c < 1331000000000) (hE : ∀ y ∈ E.2.1, y_E W R y.2.1 y.2.2.2) (hm : s_inB most 1 20 = true) : ∀ (len s0 : Nat) (A : b_S), s0 + len ≤ 100 → b_ok W R n x st E s0 A → b_ok W R n x st E (s0 + len) ((List.range' s0 len).foldl (bl_step n x st most) A) := by
  intro len
  induction len with
  | zero => intro s0 A _ h; exact h
  | succ len ih =>
    intro s0 A hs h
    rw [show s0 + (len + 1) = s0 + 1 + len by omega]
    refine ih (s0 + 1) _ (by omega) ?_
    obtain ⟨z, h20, hle, hv, hk⟩ := h
    have keep : b_ok W R n x st E (s0 + 1) A := ⟨z, h20, hle, hv, fun k h1 h2 => ⟨Nat.lt_succ_of_lt (hk k h1 h2).1, (hk k h1 h2).2⟩⟩
    unfold bl_step
    by_cases c1 : (decide (¬ nI s0 ≤ st) && (r_val (sv_re (nI s0)) n A.1.2.1).isSome) = true
    · rw [if_pos c1]
      rw [Bool.and_eq_true, decide_eq_true_eq] at c1
      by_cases c2 : most ≤ nI A.2.1
      · rw [if_pos c2]
        exact keep
      · rw [if_neg c2]
        obtain ⟨m1, m2, m3⟩ := s_inA (a := 1) (m := 20) (by decide) (by decide) hm
        have hlt : A.2.1 < 20 := by
          have c2' := Int32.not_le.mp c2
          rw [m1, nI_ltI (by omega) (by omega)] at c2'
          omega
        obtain ⟨f, hf⟩ := Option.isSome_iff_exists.mp c1.2
        have lg := zP_log z (fun c o => y_E W R c o) (fun c v a => (aB_at hx hn hW a).2.2.1) (fun c f h => by cases h) hE
        obtain ⟨j, hj, ej⟩ := re_rec lg (k := s0) (by omega) hf
        rw [hf]
        have eo : o_told (some f) = f := rfl
        rw [eo]
        have nj : s_na (nI j) := na_100 (by have := hj.2.1; omega)
        have ns : s_na (nI s0) := na_100 (by omega)
        have nn : s_na (nI n) := na_100 hn
        have hle2 : st ≤ nI s0 := Int32.le_of_lt (Int32.not_le.mp c1.1)
        have z1 : z_P n (aB W R n x st) fB A.1 (bl_one n x s0 f A.1) 2 0 1 := by
          unfold bl_one
          by_cases e1 : x = 1
          · rw [if_pos e1]
            refine zP_sf (Or.inr (Or.inl ⟨by rw [e1]; decide, ?_, ?_⟩))
            · rw [ej]; exact hj.2.2.2.1
            · rw [ej, s_cd_div nj (Or.inl rfl)]; exact Or.inr rfl
          · rw [if_neg e1]
            by_cases e0 : x = 0
            · rw [if_pos e0]
              refine zP_sf (Or.inr (Or.inl ⟨by rw [e0]; decide, ?_, ?_⟩))
              · rw [ej]; exact hj.2.2.1
              · rw [ej, s_cd_div nj ns]; exact Or.inl rfl
            · rw [if_neg e0]
              refine zP_sf (Or.inl ⟨?_, s0, by omega, hj.2.2.2.2.2, rfl, c1.1⟩)
              rcases s_in3 hx with q | q | q
              · exact absurd q e0
              · exact absurd q e1
              · exact q
        refine ⟨zP_mono (zP_trans z z1) (by show _ ≤ 2 * (A.2.1 + 1); omega) (Nat.le_refl _) (by show _ ≤ A.2.1 + 1; omega), by show A.2.1 + 1 ≤ 20; omega, hle2, Or.inr ⟨s0, by omega, rfl⟩, fun k h1 h2 => ?_⟩
        have old : (r_val (s_cd (-4) (nI n) (nI k)) n A.1.2.1).isSome = true → k < s0 + 1 ∧ nI k ≤ nI s0 := fun q => by
          have := (hk k h1 q).1
          exact ⟨by omega, (nI_leI (by omega) (by omega)).mpr (by omega)⟩
        have l4 := m4_ly (v := n) (k := k) hn h1
        show k < s0 + 1 ∧ nI k ≤ nI s0
        have h2' : (r_val (s_cd (-4) (nI n) (nI k)) n (bl_one n x s0 f A.1).2.1).isSome = true := h2
        unfold bl_one at h2'
        by_cases e1 : x = 1
        · rw [if_pos e1, put_val, if_neg (fun q => ?_)] at h2'
          · exact old h2'
          · have l5 := l4.1
            rw [← q.1, ej, s_cd_div nj (Or.inl rfl)] at l5
            exact absurd l5 (by decide)
        · rw [if_neg e1] at h2'
          by_cases e0 : x = 0
          · rw [if_pos e0, put_val, if_neg (fun q => ?_)] at h2'
            · exact old h2'
            · have l5 := l4.1
              rw [← q.1, ej, s_cd_div nj ns] at l5
              exact absurd l5 (by decide)
          · rw [if_neg e0, put_val] at h2'
            by_cases q : s_cd (-4) (nI n) (nI s0) = s_cd (-4) (nI n) (nI k) ∧ n ≤ n
            · have l6 := (m4_ly (v := n) (k := s0) hn (by omega)).2.2.1
              rw [q.1, l4.2.2.1] at l6
              have : k = s0 := by omega
              rw [this]
              exact ⟨Nat.lt_succ_self _, Int32.le_refl _⟩
            · rw [if_neg q] at h2'
              exact old h2'
    · rw [if_neg c1]
      exact keep
end BF
theorem I_bl {i N w N' : Nat} {M : s_M} {x most : Int32} (I : i_I i M N w) (hi : i < 512) (hx : s_inB x 0 2 = true) (hm : s_inB most 1 20 = true) (hst : ¬ (bl_st M x = -2147483648 ∨ bl_st M x = 1000)) (hN : N' ≤ N + 1 + g_sp M (bl_E M x most)) : i_I (i + 1) (g_cm M (bl_E M x most)) N' w ∧ g_ps M (bl_E M x most) ∧ e_lim (bl_E M x most) := by
  obtain ⟨W, S, R, V, Vs, a, s, b, p, C, D, X, Y, Np, I⟩ := I
  have hn := A_n I hi
  have hS := I.2.1
  have h1 := I.1.1
  obtain ⟨o1, o2, o3, o4, o5, o6⟩ := of_cl hx
  -- the codes of W in these layers that matter are those of records
  let W2 := W.filter (fun c => decide (c < 1331000000000))
  have hW2 : ∀ c ∈ W2, c / 121000000 = 998 ∨ c / 121000000 = 997 → c < 1331000000000 := fun c h _ => by simpa using (List.mem_filter.mp h).2
  have rW : ∀ k j, y_rec W R k j → y_rec W2 R k j := fun k j ⟨r1, r2, r3, r4, r5, r6⟩ => by
    have nj : s_na (nI j) := na_100 (by omega)
    have nk : s_na (nI k) := na_100 (by omega)
    refine ⟨r1, r2, List.mem_filter.mpr ⟨r3, decide_eq_true ?_⟩, List.mem_filter.mpr ⟨r4, decide_eq_true ?_⟩, List.mem_filter.mpr ⟨r5, decide_eq_true ?_⟩, r6⟩
    · exact s_cd_lt na_m6.2.2.2.2.2.1 nj nk
    · exact s_cd_lt na_m6.2.2.2.2.1 nj (Or.inl rfl)
    · exact s_cd_lt na_m6.2.2.2.2.2.2.1 nk (Or.inl rfl)
  have hE : ∀ y ∈ (g_E M).2.1, y_E W2 R y.2.1 y.2.2.2 := fun y hy f hf => by
    obtain ⟨q1, q2, q3⟩ := hS.2.1.1 y hy f hf
    refine ⟨fun z => ?_, q2, q3⟩
    obtain ⟨k, j, r1, r2⟩ := q1 z
    exact ⟨k, j, rW k j r1, r2⟩
  have hWW : ∀ c ∈ W2, c ∈ W := fun c h => (List.mem_filter.mp h).1
  have no4 : ∀ k v, k < 100 → r_val (s_cd (-4) (nI (g_n M + 1)) (nI k)) v (g_E M).2.1 = none := fun k v hk => by
    cases e : r_val (s_cd (-4) (nI (g_n M + 1)) (nI k)) v (g_E M).2.1 with
    | none => rfl
    | some f =>
      obtain ⟨q, hq⟩ := val_in hS.1.2.2.1 (c := s_cd (-4) (nI (g_n M + 1)) (nI k)) (n := v) (by rw [e]; rfl)
      obtain ⟨l1, l2, -⟩ := m4_ly (v := g_n M + 1) (k := k) (by omega) hk
      obtain ⟨u, hu, e2⟩ := hS.2.1.2.2.1 _ hq l1
      have := hS.2.1.2.2.2.1 u hu
      have e2 : s_dig (s_cd (-4) (nI (g_n M + 1)) (nI k)) 1 = u + 1000 := e2
      omega
  have hsv : r_val (sv_co x) (g_n M) (g_E M).2.1 = some (bl_st M x) := by
    unfold bl_st
    cases e : r_val (sv_co x) (g_n M) (g_E M).2.1 with
    | none => exact absurd (Or.inl (by unfold bl_st; rw [e]; rfl)) hst
    | some v => rfl
  have hal : bl_st M x = 1000 ∨ bl_st M x = -1000 ∨ ∃ j, j < 100 ∧ bl_st M x = nI j := by
    obtain ⟨y, hy, e1, -, e3⟩ := val_mem hsv
    have := hS.2.1.1 y hy
    rw [e1, e3] at this
    exact (this _ rfl).2.1 (by omega)
  have bk := b_fold (W := W2) (R := R) (n := g_n M + 1) (x := x) (st := bl_st M x) (most := most) (E := g_E M) hx (by omega) hW2 hE hm 100 0 (g_E M, 0, bl_st M x, 0) (by decide) ⟨zP_refl, Nat.zero_le _, Int32.le_refl _, Or.inl rfl, fun k hk q => by
    have q : (r_val (s_cd (-4) (nI (g_n M + 1)) (nI k)) (g_n M + 1) (g_E M).2.1).isSome = true := q
    rw [no4 k _ hk] at q; cases q⟩
  have er : (List.range' 0 100).foldl (bl_step (g_n M + 1) x (bl_st M x) most) (g_E M, 0, bl_st M x, 0) = bl_run M x most := rfl
  rw [er] at bk
  have eE : bl_E M x most = e_put (g_n M + 1) (sv_co x) (some (if 0 < (bl_run M x most).2.2.2 then (bl_run M x most).2.2.1 else 1000)) (bl_run M x most).1 := rfl
  rw [eE] at hN ⊢
  generalize bl_run M x most = A at bk hN ⊢
  obtain ⟨z, h20, hle, hv, hk⟩ := bk
  have hst' : (if 0 < A.2.2.2 then A.2.2.1 else 1000) = 1000 ∨ (if 0 < A.2.2.2 then A.2.2.1 else 1000) = (-1000 : Int32) ∨ ∃ j, j < 100 ∧ (if 0 < A.2.2.2 then A.2.2.1 else 1000) = nI j := by
    split
    · rcases hv with e | e
      · rw [e]; exact hal
      · exact Or.inr (Or.inr e)
    · exact Or.inl rfl
  have nIk : ∀ k, k < 100 → nI k ≤ (1000 : Int32) := fun k hk => (nI_leI (b := 1000) (by omega) (by omega)).mpr (by omega)
  have hle' : bl_st M x ≤ (if 0 < A.2.2.2 then A.2.2.1 else 1000) := by
    split
    · exact hle
    · rcases hal with e | e | ⟨j, hj, e⟩
      · rw [e]; exact Int32.le_refl _
      · rw [e]; decide
      · rw [e]; exact nIk j hj
  have hk' : ∀ k, k < 100 → (r_val (s_cd (-4) (nI (g_n M + 1)) (nI k)) (g_n M + 1) A.1.2.1).isSome = true → nI k ≤ (if 0 < A.2.2.2 then A.2.2.1 else 1000) := fun k h q => by
    split
    · exact (hk k h q).2
    · exact nIk k h
  generalize (if 0 < A.2.2.2 then A.2.2.1 else 1000) = st' at hN hst' hle' hk' ⊢
  have z2 : z_P (g_n M + 1) (aB W2 R (g_n M + 1) x (bl_st M x)) fB A.1 (e_put (g_n M + 1) (sv_co x) (some st') A.1) 2 0 1 := zP_sf (Or.inr (Or.inr ⟨rfl, hst'⟩))
  have zz := zP_trans z z2
  have hc : z_cd (aB W2 R (g_n M + 1) x (bl_st M x)) fB := ⟨fun c v q => (aB_at hx (by omega) hW2 q).1, fun c q => q.elim⟩
  have hA : ∀ c v, aB W2 R (g_n M + 1) x (bl_st M x) c v → y_K c ∧ y_E W R c (some v) ∧ (c / 121000000 = 996 → s_dig c 1 = g_n M + 1 + 1000) := fun c v q => by
    obtain ⟨-, q2, q3, q4⟩ := aB_at hx (by omega) hW2 q
    exact ⟨q2, yE_mono hWW (fun _ h => h) q3, q4⟩
  by_cases e2 : x = 2
  · subst e2
    refine I_cmt (V' := (g_n M + 1) :: V) (X := [sv_co 2]) I hi ?_ (show 2 * 1 ≤ 11 from by decide) (fun c h => zP_keys zz h) hN
    refine S_cm (e := 0) hS (by omega) I.2.2.2.1.2.2 zz hc hA ?_ (by omega) (by decide) (by omega)
    refine iV_bld (st := bl_st M 2) (st' := st') hS.2.2.1 hS.1.1.2.1 (by omega) h1.2.2.2.2.1 zz no4 rfl (fun q => hst (Or.inl q)) ?_ hle' (fun c v q => ?_) (fun k h q => ?_) (fun c h => List.mem_append.mpr (Or.inl h)) (List.mem_append.mpr (Or.inr List.mem_cons_self))
    · rw [put_val, if_pos ⟨rfl, Nat.le_refl _⟩]; rfl
    · rcases q with ⟨-, k, q1, q2, q3, q4⟩ | ⟨q1, -⟩ | ⟨q1, -⟩
      · exact Or.inr ⟨k, q1, q2, q3, q4⟩
      · exact absurd rfl q1
      · exact Or.inl q1
    · refine hk' k h ?_
      rw [put_val, if_neg (fun q => ?_)] at q
      · exact q
      · have l1 := (m4_ly (v := g_n M + 1) (k := k) (by omega) h).1
        rw [← q.1, co2_ly] at l1
        cases l1
  · refine I_cmt (V' := V) (X := [sv_co x]) I hi ?_ (show 2 * 1 ≤ 11 from by decide) (fun c h => zP_keys zz h) hN
    refine S_cm (e := 0) hS (by omega) I.2.2.2.1.2.2 zz hc hA ?_ (by omega) (by decide) (by omega)
    refine iV_cm hS.2.2.1 hS.1.1.2.1 (by omega) h1.2.2.2.2.1 zz (fun c v q => ⟨?_, (hA c v q).2.2, ?_⟩) (fun c q => q.elim) (fun c h => List.mem_append.mpr (Or.inl h))
    · rcases q with ⟨q1, -⟩ | ⟨-, q1, -⟩ | ⟨rfl, -⟩
      · exact absurd q1 e2
      · exact Or.inl (hWW c q1)
      · exact Or.inr (List.mem_append.mpr (Or.inr List.mem_cons_self))
    · intro e
      rcases q with ⟨q1, -⟩ | ⟨-, -, q1⟩ | ⟨q1, -⟩
      · exact e2 q1
      · have := co2_ly
        rw [← e] at this
        omega
      · rw [q1] at e
        rcases s_in3 hx with rfl | rfl | rfl
        · exact absurd e (by decide +kernel)
        · exact absurd e (by decide +kernel)
        · exact e2 rfl
theorem I_build {i N w : Nat} {M : s_M} {x most : Int32} (I : i_I i M N w) (hi : i < 512) : ∃ k, (s_inB x 0 2 = true → s_inB most 1 20 = true → ¬ (bl_st M x = -2147483648 ∨ bl_st M x = 1000) → g_sp M (bl_E M x most) ≤ k) ∧ i_I (i + 1) (F_build M x most).1 (N + 1 + k) w := by
  unfold F_build
  cases hx : s_inB x 0 2 with
  | false => exact ⟨0, fun z => (by cases z), by rw [if_pos rfl]; exact I_0 I (by omega)⟩
  | true =>
    rw [if_neg (by decide)]
    cases hm : s_inB most 1 20 with
    | false => exact ⟨0, fun _ z => (by cases z), by rw [if_pos rfl]; exact I_0 I (by omega)⟩
    | true =>
      rw [if_neg (by decide)]
      by_cases c : bl_st M x = -2147483648 ∨ bl_st M x = 1000
      · rw [if_pos c]
        exact ⟨0, fun _ _ z => absurd c z, I_0 I (by omega)⟩
      · rw [if_neg c]
        exact ⟨g_sp M (bl_E M x most), fun _ _ _ => Nat.le_refl _, (I_bl I hi hx hm c (Nat.le_refl _)).1⟩
end
section
/-! DIRECTORIES -/
theorem I_dset {i N w : Nat} {M : s_M} {D : List s_D × Nat} (I : i_I i M N w) (h : i_D i (g_dset M D)) : i_I i (g_dset M D) N w := by
  obtain ⟨W, S, R, V, Vs, a, s, b, p, C, Dn, X, Y, Np, ⟨⟨g1, g2, g3⟩, hS, gX, gC, gN, g4⟩⟩ := I
  exact ⟨W, S, R, V, Vs, a, s, b, p, C, Dn, X, Y, Np, ⟨⟨i1_ds g1, h, g3⟩, hS, gX, gC, gN, g4⟩⟩
theorem I_D {i N w : Nat} {M : s_M} (I : i_I i M N w) : i_D i M := by
  obtain ⟨W, S, R, V, Vs, a, s, b, p, C, Dn, X, Y, Np, I⟩ := I
  exact I.1.2.1
theorem dfree_at (D : List s_D) : ∀ (k n : Nat), ∃ j, j ≤ k ∧ d_free D k n = n + j ∧ (∀ u, n ≤ u → u < n + j → d_used D u = true) ∧ (j < k → d_used D (n + j) = false) := by
  intro k
  induction k with
  | zero => intro n; exact ⟨0, Nat.le_refl _, rfl, fun u a b => by omega, fun z => by omega⟩
  | succ k ih =>
    intro n
    unfold d_free
    cases e : d_used D n with
    | true =>
      obtain ⟨j, h1, h2, h3, h4⟩ := ih (n + 1)
      refine ⟨j + 1, by omega, ?_, fun u a b => ?_, fun z => ?_⟩
      · rw [if_pos rfl, h2]; omega
      · by_cases q : u = n
        · rw [q]; exact e
        · exact h3 u (by omega) (by omega)
      · have := h4 (by omega)
        rw [show n + (j + 1) = n + 1 + j by omega]
        exact this
    | false =>
      rw [if_neg (by decide)]
      exact ⟨0, Nat.zero_le _, rfl, fun u a b => by omega, fun _ => e⟩
theorem dused_many {D : List s_D} {j : Nat} (h : ∀ u, 1 ≤ u → u < 1 + j → d_used D u = true) : j ≤ d_many D := by
  have := nd_len (l := List.range' 1 j) (m := (D.filter (fun d => !(decide (d.1 = 0)))).map (fun d => d.2.2.2)) (show List.Pairwise (fun x y => ¬ x = y) (List.range' 1 j) from List.nodup_range') (fun u hu => by
    rw [List.mem_range'_1] at hu
    have := h u hu.1 (by omega)
    unfold d_used at this
    obtain ⟨d, hd, hb⟩ := List.any_eq_true.mp this
    rw [Bool.and_eq_true, decide_eq_true_eq] at hb
    exact List.mem_map.mpr ⟨d, List.mem_filter.mpr ⟨hd, hb.1⟩, hb.2⟩)
  rw [List.length_range', List.length_map] at this
  unfold d_many
  rw [List.countP_eq_length_filter]
  exact this
theorem dfree_ok {D : List s_D} (h : d_many D ≤ 9) : d_fok D ∧ d_free D 12 1 ≤ 10 ∧ (d_many D < 9 → d_free D 12 1 ≤ 9) := by
  obtain ⟨j, h1, h2, h3, h4⟩ := dfree_at D 12 1
  have := dused_many h3
  unfold d_fok
  rw [h2]
  exact ⟨h4 (by omega), by omega, fun z => by omega⟩
theorem is_ex {D : List s_D × Nat} {x : Int32} (ok : d_ok D) (h : d_is D x = true) : ∃ d ∈ D.1, d.1 = t_of x ∧ x = nI d.1 := by
  obtain ⟨d, hd, e⟩ := List.any_eq_true.mp h
  have e : nI d.1 = x := by simpa using e
  refine ⟨d, hd, ?_, e.symm⟩
  have := ok.2.2.1 d hd
  have := ok.2.1
  unfold t_of
  rw [← e, nI_toInt (by omega)]
  omega
theorem in9_t {nm : Int32} (h : s_inB nm 0 9 = true) : t_of nm ≤ 9 := (s_inN (m := 9) (by decide) h).2
theorem D_make {i : Nat} {M : s_M} {p nm : Int32} (I : i_D i M) (hi : i < 512) (hp : d_is (g_DS M) p = true) (hnm : s_inB nm 0 9 = true) (h9 : ¬ d_many (g_DS M).1 = 9) : i_D (i + 1) (g_dset M ((g_DS M).1 ++ [((g_DS M).2, some (t_of p), t_of nm, d_free (g_DS M).1 12 1)], (g_DS M).2 + 1)) := by
  obtain ⟨ok, m9, d2, d10⟩ := I
  have hf := dfree_ok m9
  obtain ⟨e, he, ep, -⟩ := is_ex ok hp
  obtain ⟨w, o2, o3, o4⟩ := ok
  obtain ⟨w1, w2, w3, ⟨rk, w4⟩, w5⟩ := id w
  have pos : 0 < (g_DS M).2 := Nat.lt_of_le_of_lt (Nat.zero_le _) (o3 _ w2)
  have many : d_many ((g_DS M).1 ++ [((g_DS M).2, some (t_of p), t_of nm, d_free (g_DS M).1 12 1)]) = d_many (g_DS M).1 + 1 := by
    unfold d_many
    rw [List.countP_append, List.countP_singleton, if_pos]
    simp
    omega
  have hl := d_len w
  refine ⟨⟨⟨?_, ?_, ?_, ⟨fun q => if q = (g_DS M).2 then rk (t_of p) + 1 else rk q, ?_⟩, ?_⟩, ?_, ?_, ?_⟩, ?_, ?_, ?_⟩
  · refine List.pairwise_append.mpr ⟨w1, List.pairwise_singleton _ _, fun x hx y hy => ?_⟩
    have : y = ((g_DS M).2, some (t_of p), t_of nm, d_free (g_DS M).1 12 1) := by simpa using hy
    rw [this]
    exact o3 x hx
  · exact List.mem_append.mpr (Or.inl w2)
  · intro d hd h0
    rcases List.mem_append.mp hd with hd | hd
    · obtain ⟨q, e1, f, hf, e2⟩ := w3 d hd h0
      exact ⟨q, e1, f, List.mem_append.mpr (Or.inl hf), e2⟩
    · have : d = ((g_DS M).2, some (t_of p), t_of nm, d_free (g_DS M).1 12 1) := by simpa using hd
      rw [this]
      exact ⟨t_of p, rfl, e, List.mem_append.mpr (Or.inl he), ep⟩
  · intro d hd q hq
    rcases List.mem_append.mp hd with hd | hd
    · have h1 := o3 d hd
      have h2 : q < (g_DS M).2 := by
        by_cases h0 : d.1 = 0
        · rw [d_root w hd h0] at hq; cases hq
        · obtain ⟨q', e1, f, hf, e2⟩ := w3 d hd h0
          rw [e1] at hq
          injection hq with hq
          rw [← hq, ← e2]
          exact o3 f hf
      show (if q = _ then _ else _) < (if d.1 = _ then _ else _)
      rw [if_neg (by omega), if_neg (by omega)]
      exact w4 d hd q hq
    · have : d = ((g_DS M).2, some (t_of p), t_of nm, d_free (g_DS M).1 12 1) := by simpa using hd
      rw [this] at hq ⊢
      injection hq with hq
      have h2 : t_of p < (g_DS M).2 := by rw [← ep]; exact o3 e he
      show (if q = _ then _ else _) < (if (g_DS M).2 = _ then _ else _)
      rw [if_neg (by omega), if_pos rfl, ← hq]
      exact Nat.lt_succ_self _
  · intro d hd
    rcases List.mem_append.mp hd with hd | hd
    · exact w5 d hd
    · have : d = ((g_DS M).2, some (t_of p), t_of nm, d_free (g_DS M).1 12 1) := by simpa using hd
      rw [this]
      exact ⟨in9_t hnm, hf.2.2 (by omega)⟩
  · show (g_DS M).2 + 1 ≤ 1024
    omega
  · intro d hd
    rcases List.mem_append.mp hd with hd | hd
    · exact Nat.lt_succ_of_lt (o3 d hd)
    · have : d = ((g_DS M).2, some (t_of p), t_of nm, d_free (g_DS M).1 12 1) := by simpa using hd
      rw [this]
      exact Nat.lt_succ_self _
  · show ((g_DS M).1 ++ [_]).length ≤ 1024
    rw [List.length_append]
    show (g_DS M).1.length + 1 ≤ 1024
    omega
  · show d_many ((g_DS M).1 ++ [_]) ≤ 9
    rw [many]; omega
  · show (g_DS M).2 + 1 ≤ i + 1 + 1
    omega
  · show ((g_DS M).1 ++ [_]).length ≤ 10
    rw [List.length_append]
    show (g_DS M).1.length + 1 ≤ 10
    omega
theorem I_directory {i N w : Nat} {M : s_M} {p nm : Int32} (I : i_I i M N w) (hi : i < 512) : i_I (i + 1) (F_directory M p nm).1 (N + 1) w := by
  rcases z_directory (M := M) (p := p) (nm := nm) with e | ⟨h1, h2, -, h4, e⟩
  · rw [e]; exact I_0 I (by omega)
  · rw [e]
    exact I_dset (I_0 I (by omega)) (D_make (I_D I) hi h1 h2 h4)
theorem mv_fst {D : List s_D} {d p nm : Nat} {x : s_D} (h : x ∈ d_mv D d p nm) : ∃ y ∈ D, x.1 = y.1 ∧ x.2.2.2 = y.2.2.2 ∧ ((y.1 = d ∧ x.2.1 = some p ∧ x.2.2.1 = nm) ∨ (¬ y.1 = d ∧ x = y)) := by
  obtain ⟨y, hy, rfl⟩ := List.mem_map.mp h
  by_cases e : y.1 = d
  · rw [if_pos e]; exact ⟨y, hy, rfl, rfl, Or.inl ⟨e, rfl, rfl⟩⟩
  · rw [if_neg e]; exact ⟨y, hy, rfl, rfl, Or.inr ⟨e, rfl⟩⟩
theorem D_move {i : Nat} {M : s_M} {d p nm : Int32} (I : i_D i M) (h : mv_can (g_DS M) d p nm = true) : i_D (i + 1) (g_dset M (d_mv (g_DS M).1 (t_of d) (t_of p) (t_of nm), (g_DS M).2)) := by
  obtain ⟨ok, m9, d2, d10⟩ := I
  unfold mv_can at h
  simp only [Bool.and_eq_true, decide_eq_true_eq, Bool.not_eq_true'] at h
  obtain ⟨⟨⟨⟨hd, hp⟩, hnm⟩, hd0⟩, hb⟩ := h
  obtain ⟨e, he, ep, -⟩ := is_ex ok hp
  obtain ⟨f, hf, ef, ef2⟩ := is_ex ok hd
  have d0 : ¬ t_of d = 0 := fun z => hd0 (by rw [ef2, ef, z]; decide)
  generalize t_of d = dd at *
  generalize t_of p = pp at *
  obtain ⟨w, o2, o3, o4⟩ := ok
  obtain ⟨w1, w2, w3, ⟨rk, w4⟩, w5⟩ := id w
  have inv : ∀ y ∈ (g_DS M).1, ∃ x ∈ d_mv (g_DS M).1 dd pp (t_of nm), x.1 = y.1 := fun y hy => by
    refine ⟨_, List.mem_map.mpr ⟨y, hy, rfl⟩, ?_⟩
    split <;> rfl
  refine ⟨⟨⟨?_, ?_, ?_, ⟨fun q => if d_bel (g_DS M).1 q dd = true then rk q + (rk pp + 1) else rk q, ?_⟩, ?_⟩, o2, ?_, ?_⟩, ?_, ?_, ?_⟩
  · refine List.pairwise_map.mpr (w1.imp (fun {a b} h => ?_))
    have h : a.1 < b.1 := h
    show (if a.1 = dd then _ else a : s_D).1 < (if b.1 = dd then _ else b : s_D).1
    split <;> split <;> exact h
  · exact List.mem_map.mpr ⟨_, w2, if_neg (fun z => d0 z.symm)⟩
  · intro x hx h0
    obtain ⟨y, hy, e1, -, e3⟩ := mv_fst hx
    rcases e3 with ⟨-, e3, -⟩ | ⟨-, rfl⟩
    · obtain ⟨x', hx', ex'⟩ := inv e he
      exact ⟨pp, e3, x', hx', by rw [ex', ep]⟩
    · obtain ⟨q, q1, g, hg, q2⟩ := w3 x hy h0
      obtain ⟨x', hx', ex'⟩ := inv g hg
      exact ⟨q, q1, x', hx', by rw [ex', q2]⟩
  · intro x hx q hq
    obtain ⟨y, hy, e1, -, e3⟩ := mv_fst hx
    show (if d_bel (g_DS M).1 q dd = true then rk q + (rk pp + 1) else rk q) < (if d_bel (g_DS M).1 x.1 dd = true then rk x.1 + (rk pp + 1) else rk x.1)
    rcases e3 with ⟨e3, e4, -⟩ | ⟨e3, rfl⟩
    · rw [e4] at hq
      injection hq with hq
      rw [← hq, e1, e3, if_neg (by rw [hb]; decide), if_pos (d_bel_self _ _)]
      omega
    · have hpa : d_pa (g_DS M).1 x.1 = some q := by rw [d_pa_of w1 hy, hq]
      rw [d_bel_some e3 hpa]
      have := w4 x hy q hq
      split <;> omega
  · intro x hx
    obtain ⟨y, hy, e1, e2, e3⟩ := mv_fst hx
    have h5 := w5 y hy
    rcases e3 with ⟨-, -, e3⟩ | ⟨-, rfl⟩
    · exact ⟨by rw [e3]; exact in9_t hnm, by rw [e2]; exact h5.2⟩
    · exact h5
  · intro x hx
    obtain ⟨y, hy, e1, -⟩ := mv_fst hx
    rw [e1]
    exact o3 y hy
  · show (d_mv (g_DS M).1 dd pp (t_of nm)).length ≤ 1024
    unfold d_mv
    rw [List.length_map]
    exact o4
  · show d_many (d_mv (g_DS M).1 dd pp (t_of nm)) ≤ 9
    have : d_many (d_mv (g_DS M).1 dd pp (t_of nm)) = d_many (g_DS M).1 := by
      unfold d_many d_mv
      rw [List.countP_map]
      refine List.countP_congr (fun x _ => ?_)
      show (!decide ((if x.1 = dd then _ else x : s_D).1 = 0)) = true ↔ _
      split <;> rfl
    omega
  · exact Nat.le_succ_of_le d2
  · show (d_mv (g_DS M).1 dd pp (t_of nm)).length ≤ 10
    unfold d_mv
    rw [List.length_map]
    exact d10
theorem I_move {i N w : Nat} {M : s_M} {d p nm : Int32} (I : i_I i M N w) : i_I (i + 1) (F_move M d p nm).1 (N + 1) w := by
  rcases z_move (M := M) (d := d) (p := p) (nm := nm) with e | ⟨h, e⟩
  · rw [e]; exact I_0 I (by omega)
  · rw [e]
    exact I_dset (I_0 I (by omega)) (D_move (I_D I) h)
/-! .. removing -/
theorem D_rm {i d : Nat} {M M' : s_M} (I : i_D i M) (hd : ¬ d = 0) : i_D (i + 1) (g_dset M' (rm_D M d)) := by
  obtain ⟨ok, m9, d2, d10⟩ := I
  obtain ⟨w, o2, o3, o4⟩ := ok
  obtain ⟨w1, w2, w3, ⟨rk, w4⟩, w5⟩ := id w
  have sub : ((g_DS M).1.filter (fun x => !(d_bel (g_DS M).1 x.1 d))).Sublist (g_DS M).1 := List.filter_sublist
  refine ⟨⟨⟨w1.sublist sub, ?_, ?_, ⟨rk, fun x hx q hq => w4 x (sub.mem hx) q hq⟩, fun x hx => w5 x (sub.mem hx)⟩, o2, fun x hx => o3 x (sub.mem hx), Nat.le_trans sub.length_le o4⟩, ?_, Nat.le_succ_of_le d2, Nat.le_trans sub.length_le d10⟩
  · exact List.mem_filter.mpr ⟨w2, by rw [d_root_bel w hd]; rfl⟩
  · intro x hx h0
    obtain ⟨hx1, hx2⟩ := List.mem_filter.mp hx
    obtain ⟨q, q1, g, hg, q2⟩ := w3 x hx1 h0
    refine ⟨q, q1, g, List.mem_filter.mpr ⟨hg, ?_⟩, q2⟩
    have hne : ¬ x.1 = d := fun z => by rw [z, d_bel_self] at hx2; cases hx2
    have hpa : d_pa (g_DS M).1 x.1 = some q := by rw [d_pa_of w1 hx1, q1]
    rw [d_bel_some hne hpa, ← q2] at hx2
    exact hx2
  · show d_many ((g_DS M).1.filter _) ≤ 9
    exact Nat.le_trans (sub.countP_le) m9
theorem rm_rng {x : s_D} (h : x.2.2.2 ≤ 9) : 121000000000 ≤ rm_lo x ∧ rm_lo x < rm_hi x + 1 ∧ rm_hi x + 1 ≤ 1331000000000 := by
  unfold rm_lo rm_hi
  generalize x.2.2.2 = k at h
  have hc : k = 0 ∨ k = 1 ∨ k = 2 ∨ k = 3 ∨ k = 4 ∨ k = 5 ∨ k = 6 ∨ k = 7 ∨ k = 8 ∨ k = 9 := by omega
  rcases hc with rfl | rfl | rfl | rfl | rfl | rfl | rfl | rfl | rfl | rfl <;> decide +kernel
theorem I_rE {i N w N' d : Nat} {M : s_M} (I : i_I i M N w) (hi : i < 512) (hN : N' ≤ N + 1 + g_sp M (rm_E M d)) : i_I (i + 1) (g_cm M (rm_E M d)) N' w ∧ g_ps M (rm_E M d) ∧ e_lim (rm_E M d) := by
  have hD := I_D I
  obtain ⟨W, S, R, V, Vs, a, s, b, p, C, D, X, Y, Np, I⟩ := I
  have hn := A_n I hi
  have hS := I.2.1
  have h1 := I.1.1
  have hc : z_cd (fun _ _ => False) (fun c => 121000000000 ≤ c ∧ c < 1331000000000) := ⟨fun c v h => h.elim, fun c h => h.2⟩
  have z := zP_fold (n := g_n M + 1) (A := fun _ _ => False) (B := fun c => 121000000000 ≤ c ∧ c < 1331000000000) (g := fun E x => e_clr (g_n M + 1) (rm_lo x) (rm_hi x + 1) E) (k := 0) (m := 1) (f := 0) hc (rm_gone M d) (g_E M) hS.1.2 (fun x hx F K _ => by
    obtain ⟨r1, r2, r3⟩ := rm_rng (hD.1.1.2.2.2.2 x (List.mem_filter.mp hx).1).2
    exact zP_clr K r2 (by omega) (fun c p q => ⟨by omega, by omega⟩))
  have hg : (rm_gone M d).length ≤ 10 := Nat.le_trans (List.length_filter_le _ _) hD.2.2.2
  have eE : (rm_gone M d).foldl (fun E x => e_clr (g_n M + 1) (rm_lo x) (rm_hi x + 1) E) (g_E M) = rm_E M d := rfl
  rw [eE] at z
  refine I_cmt (V' := V) (X := []) I hi ?_ (show 2 * 0 ≤ 11 from by decide) (fun c h => zP_keys z h) hN
  refine S_cm (e := 0) hS (by omega) I.2.2.2.1.2.2 z hc (fun d v h => h.elim) (iV_cm hS.2.2.1 hS.1.1.2.1 (by omega) h1.2.2.2.2.1 z (fun d v h => h.elim) (fun d h e => ?_) (fun d h => List.mem_append.mpr (Or.inl h))) (by omega) (by omega) (by omega)
  have := co2_ly
  rw [← e] at this
  have h := h.1
  omega
theorem rm_small {i N w : Nat} {M : s_M} (I : i_I i M N w) (hi : i ≤ 512) (o : Nat) : rm_many M o < 2 ^ 31 := by
  have hD := I_D I
  obtain ⟨W, S, R, V, Vs, a, s, b, p, C, D, X, Y, Np, I⟩ := I
  have hk := (A_lim I hi).1.1
  have key : ∀ l : List s_D, (l.map (rm_cnt M)).sum ≤ 12000 * l.length := by
    intro l
    induction l with
    | nil => exact Nat.zero_le _
    | cons x l ih =>
      rw [List.map_cons, List.sum_cons, List.length_cons, Nat.mul_add]
      have : rm_cnt M x ≤ 12000 := Nat.le_trans (List.length_filter_le _ _) hk
      omega
  have h1 := key (rm_gone M o)
  have hg : (rm_gone M o).length ≤ 10 := Nat.le_trans (List.length_filter_le _ _) hD.2.2.2
  unfold rm_many
  omega
theorem I_remove {i N w : Nat} {M : s_M} {x : Int32} (I : i_I i M N w) (hi : i < 512) : ∃ k, (d_is (g_DS M) x = true → ¬ x = 0 → 0 < rm_many M (t_of x) → g_sp M (rm_E M (t_of x)) ≤ k) ∧ i_I (i + 1) (F_remove M x).1 (N + 1 + k) w := by
  have hD := I_D I
  rcases z_remove (M := M) (x := x) with e | ⟨h1, h2, e⟩
  · by_cases c : d_is (g_DS M) x = true ∧ ¬ x = 0
    · have c0 : ¬ t_of x = 0 := fun z => by
        obtain ⟨d, hd, q1, q2⟩ := is_ex hD.1 c.1
        exact c.2 (by rw [q2, q1, z]; rfl)
      by_cases c3 : 0 < rm_many M (t_of x)
      · exfalso
        have e2 : (F_remove M x).1 = g_dset (g_cm M (rm_E M (t_of x))) (rm_D M (t_of x)) := by
          unfold F_remove
          rw [if_neg (by rw [c.1]; decide), if_neg c.2]
          show g_dset (if _ then _ else _) _ = _
          rw [if_pos c3]
        rw [e] at e2
        have e3 : g_n M = g_n M + 1 := congrArg g_n e2
        omega
      · exact ⟨0, fun _ _ z => absurd z c3, by rw [e]; exact I_0 I (by omega)⟩
    · exact ⟨0, fun a b => absurd ⟨a, b⟩ c, by rw [e]; exact I_0 I (by omega)⟩
  · have c0 : ¬ t_of x = 0 := fun z => by
      obtain ⟨d, hd, q1, q2⟩ := is_ex hD.1 h1
      exact h2 (by rw [q2, q1, z]; rfl)
    rw [e]
    by_cases c3 : 0 < rm_many M (t_of x)
    · rw [if_pos c3]
      exact ⟨g_sp M (rm_E M (t_of x)), fun _ _ _ => Nat.le_refl _, I_dset (I_rE I hi (Nat.le_refl _)).1 (D_rm hD c0)⟩
    · rw [if_neg c3]
      exact ⟨0, fun _ _ z => absurd z c3, I_dset (I_0 I (by omega)) (D_rm hD c0)⟩
end
section
/-! SAVES: what a transaction sees of records and index states -/
theorem see_at {K : List k_K2} {W R : List Nat} {c : Nat} (hc : c / 121000000 = 999 ∨ c / 121000000 = 994) : ∀ (cs : List k_CH), (∀ y ∈ cs, y_y K W R y) → ∀ z : Option Int32 × Bool, z.2 = false →
    (s_see c cs z).2 = false ∧ ∀ v, (s_see c cs z).1 = some v → z.1 = some v ∨ ∃ k j, y_rec W R k j ∧ c = sv_re (nI k) ∧ v = nI j := by
  intro cs
  induction cs with
  | nil => intro _ z hz; exact ⟨hz, fun v h => Or.inl h⟩
  | cons y cs ih =>
    intro h z hz
    have hy := h y List.mem_cons_self
    have ih := ih (fun x hx => h x (List.mem_cons_of_mem _ hx))
    have e : s_see c (y :: cs) z = s_see c cs (if s_cov y c = true then (s_apO y.2.1 y.2.2.2.2.1 0 z.1, s_apS y.2.1 z.2) else z) := rfl
    rw [e]
    by_cases hv : s_cov y c = true
    · rw [if_pos hv]
      unfold s_cov at hv
      simp only [Bool.and_eq_true, decide_eq_true_eq] at hv
      obtain ⟨⟨ho, h1⟩, h2⟩ := hv
      obtain ⟨b1, b2, b⟩ := hy
      rcases b with ⟨k, r, o⟩ | ⟨k, r, nm, ly⟩ | ⟨k, r, nm, w, o⟩ | ⟨k, -⟩
      · exfalso
        rcases o with o | o <;> omega
      · rw [k]
        obtain ⟨g1, g2⟩ := ih (s_apO 1 y.2.2.2.2.1 0 z.1, s_apS 1 z.2) (by rw [hz]; rfl)
        refine ⟨g1, fun v hv => ?_⟩
        rcases g2 v hv with g | g
        · cases g
        · exact Or.inr g
      · have ec : c = y.2.2.1 := by omega
        rcases o with o | ⟨-, o⟩ | ⟨k0, kk, j, g1, g2, g3⟩
        · exfalso
          rcases o with o | o <;> omega
        · exfalso; omega
        · rw [k0]
          obtain ⟨q1, q2⟩ := ih (s_apO 0 y.2.2.2.2.1 0 z.1, s_apS 0 z.2) (by rw [hz]; rfl)
          refine ⟨q1, fun v hv => ?_⟩
          rcases q2 v hv with g | g
          · rw [apO_0] at g
            injection g with g
            exact Or.inr ⟨kk, j, g1, by rw [ec, g2], by rw [← g, g3]⟩
          · exact Or.inr g
      · rw [k] at ho; exact absurd ho (by decide)
    · rw [if_neg hv]
      exact ih z hz
theorem see_M {W R : List Nat} {i C t c : Nat} {M : s_M} (hX : i_X W R i C M) (hE : ∀ x ∈ (g_E M).2.1, y_E W R x.2.1 x.2.2.2) (ht : t < 4) (hc : c / 121000000 = 999 ∨ c / 121000000 = 994) :
    (g_see M t c).2 = false ∧ ∀ k, k < 100 → c = sv_re (nI k) → ∀ v, (g_see M t c).1 = some v → ∃ j, y_rec W R k j ∧ v = nI j := by
  obtain ⟨h1, h2⟩ := see_at (K := (g_E M).1) hc (g_X M t).2.1 (hX t ht).1 (r_val c (g_X M t).1.2.2.1 (g_E M).2.1, false) rfl
  refine ⟨h1, fun k hk e v hv => ?_⟩
  rcases h2 v hv with g | ⟨k', j, g1, g2, g3⟩
  · have g : r_val c (g_X M t).1.2.2.1 (g_E M).2.1 = some v := g
    rw [e] at g
    exact re_rec hE hk g
  · rw [e] at g2
    rw [← re_inj hk g1.1 g2] at g1
    exact ⟨j, g1, g3⟩
theorem co_ly {i : Nat} (h : i < 3) : sv_co (nI i) / 121000000 = 994 := by
  have hc : i = 0 ∨ i = 1 ∨ i = 2 := by omega
  rcases hc with rfl | rfl | rfl <;> decide +kernel
/-! .. the chain of a save's steps -/
def sv_P (M : s_M) (t : Nat) (W R : List Nat) (r u e v q : Nat) (M2 : s_M) : Prop :=
  (g_n M2 = g_n M ∧ g_gen M2 = g_gen M ∧ g_los M2 = g_los M ∧ (g_E M2).2 = (g_E M).2 ∧ M2.2.2.2 = M.2.2.2) ∧ (∀ p, ¬ p = t → g_X M2 p = g_X M p) ∧ (g_X M2 t).1 = (g_X M t).1 ∧
  (i_K (g_E M2) ∧ (∀ x ∈ (g_E M2).1, z_nm x.1 (g_E M).1 ∨ (997 ≤ x.1 / 121000000 ∧ x.1 / 121000000 ≤ 999)) ∧ (∀ c, z_nm c (g_E M).1 → z_nm c (g_E M2).1) ∧ (g_E M2).1.length ≤ (g_E M).1.length + q ∧ g_V M2 = g_V M) ∧
  g_ser M2 ≤ g_ser M + u ∧ (∀ y ∈ (g_X M2 t).2.1, y_y (g_E M2).1 W R y) ∧ (g_X M2 t).2.2.length ≤ (g_X M t).2.2.length + r ∧
  ((g_X M2 t).2.1.length ≤ (g_X M t).2.1.length + u ∧ z_cy (g_X M2 t).2.1 ≤ z_cy (g_X M t).2.1 + e ∧ z_sum z_w1 (g_X M2 t).2.1 ≤ z_sum z_w1 (g_X M t).2.1 ∧ z_sum z_s6 (g_X M2 t).2.1 ≤ z_sum z_s6 (g_X M t).2.1 + v)
section SVP
variable {M M2 : s_M} {t : Nat} {W R : List Nat} {r u e v q : Nat}
theorem sP_mono {r' u' e' v' q' : Nat} (h : sv_P M t W R r u e v q M2) (h1 : r ≤ r') (h2 : u ≤ u') (h3 : e ≤ e') (h4 : v ≤ v') (h5 : q ≤ q') : sv_P M t W R r' u' e' v' q' M2 := by
  obtain ⟨a1, a2, a3, ⟨b1, b2, b3, b4, b5⟩, a5, a6, a7, c1, c2, c3, c4⟩ := h
  exact ⟨a1, a2, a3, ⟨b1, b2, b3, by omega, b5⟩, by omega, a6, by omega, by omega, by omega, c3, by omega⟩
theorem sP_rk {c : Nat} (h : sv_P M t W R r u e v q M2) : sv_P M t W R (r + 1) u e v q (g_rk M2 t c) := by
  obtain ⟨a1, a2, a3, a4, a5, a6, a7, a8⟩ := h
  have ex : g_X (g_rk M2 t c) t = ((g_X M2 t).1, (g_X M2 t).2.1, s_rdk true (g_X M2 t).2.1 (g_X M2 t).2.2 c (g_ser M2)) := by
    show (if t = t then _ else _) = _
    rw [if_pos rfl]
  refine ⟨a1, fun p hp => ?_, by rw [ex]; exact a3, a4, a5, by rw [ex]; exact a6, ?_, by rw [ex]; exact a8⟩
  · show (if p = t then _ else g_X M2 p) = _
    rw [if_neg hp]
    exact a2 p hp
  · rw [ex]
    show (s_rdk true (g_X M2 t).2.1 (g_X M2 t).2.2 c (g_ser M2)).length ≤ _
    unfold s_rdk
    split
    · rw [List.length_append]
      show (g_X M2 t).2.2.length + 1 ≤ _
      omega
    · omega
theorem sP_sdr {n : Int32} (h : sv_P M t W R r u e v q M2) : sv_P M t W R r u e v q (g_sdr M2 t n) := by
  obtain ⟨a1, a2, a3, a4, a5, a6, a7, c1, c2, c3, c4⟩ := h
  have ex : g_X (g_sdr M2 t n) t = ((g_X M2 t).1, sv_drop n (g_X M2 t).2.1, (g_X M2 t).2.2) := by
    show (if t = t then _ else _) = _
    rw [if_pos rfl]
  refine ⟨a1, fun p hp => ?_, by rw [ex]; exact a3, a4, a5, ?_, by rw [ex]; exact a7, ?_, ?_, ?_, ?_⟩
  · show (if p = t then _ else g_X M2 p) = _
    rw [if_neg hp]
    exact a2 p hp
  · rw [ex]
    exact fun y hy => a6 y (List.mem_filter.mp hy).1
  · rw [ex]
    exact Nat.le_trans (List.length_filter_le _ _) c1
  · rw [ex]
    exact Nat.le_trans (cy_flt _ _) c2
  · rw [ex]
    exact Nat.le_trans (zs_flt _ _ _) c3
  · rw [ex]
    exact Nat.le_trans (zs_flt _ _ _) c4
theorem kc_E (M2 : s_M) (t : Nat) (k : Int32) (c : Nat) (w p : Int32) : (g_E (g_kc M2 t k c w p)).1 = if m_ck (g_ser M2 + 1, k, c, c + 1, w, p) < 6 then m_ins c (g_E M2).1 else (g_E M2).1 := rfl
/-- one more change of one key -/
theorem sP_kc {k w p : Int32} {c q' : Nat} (h : sv_P M t W R r u e v q M2) (hc : c < 1331000000000) (hy : y_y (g_E (g_kc M2 t k c w p)).1 W R (g_ser M2 + 1, k, c, c + 1, w, p)) (hl : k = 6 ∨ z_nm c (g_E M2).1 ∨ (997 ≤ c / 121000000 ∧ c / 121000000 ≤ 999))
    (hq : (k = 6 ∨ z_nm c (g_E M2).1) ∧ q ≤ q' ∨ q + 1 ≤ q') (h6 : k = 6 → c / 121000000 = 996) {e' v' : Nat} (he : e + (if k = 1 then 1 else 2) ≤ e') (hv : v + (if k = 6 then 1 else 0) ≤ v') : sv_P M t W R r (u + 1) e' v' q' (g_kc M2 t k c w p) := by
  obtain ⟨⟨a11, a12, a13, a14, a15⟩, a2, a3, ⟨b1, b2, b3, b4, b5⟩, a5, a6, a7, c1, c2, c3, c4⟩ := h
  have ck6 : k = 6 → ¬ m_ck (g_ser M2 + 1, k, c, c + 1, w, p) < 6 := fun e6 => by
    unfold m_ck
    rw [if_neg (fun z => by rw [e6] at z; exact absurd z.1 (show ¬ (6 : Int32) = 1 by decide)), if_pos ⟨e6, h6 e6⟩]
    decide
  have hE2 : (g_E (g_kc M2 t k c w p)).2 = (g_E M2).2 := rfl
  have hk : ∀ d, z_nm d (g_E M2).1 → z_nm d (g_E (g_kc M2 t k c w p)).1 := fun d hd => by
    rw [kc_E]
    split
    · obtain ⟨a, hd⟩ := hd; exact ⟨a, m_ins_mem hd⟩
    · exact hd
  have ex : g_X (g_kc M2 t k c w p) t = ((g_X M2 t).1, (g_X M2 t).2.1 ++ [(g_ser M2 + 1, k, c, c + 1, w, p)], (g_X M2 t).2.2) := by
    show (if t = t then _ else _) = _
    rw [if_pos rfl]
  have lone : ∀ f : k_CH → Nat, z_sum f [(g_ser M2 + 1, k, c, c + 1, w, p)] = f (g_ser M2 + 1, k, c, c + 1, w, p) := fun f => by unfold z_sum; simp
  refine ⟨⟨a11, a12, a13, a14, a15⟩, fun p' hp => ?_, by rw [ex]; exact a3, ⟨?_, fun x hx => ?_, fun d hd => hk d (b3 d hd), ?_, ?_⟩, ?_, ?_, by rw [ex]; exact a7, ?_, ?_, ?_, ?_⟩
  · show (if p' = t then _ else g_X M2 p') = _
    rw [if_neg hp]
    exact a2 p' hp
  · have : g_E (g_kc M2 t k c w p) = ((if m_ck (g_ser M2 + 1, k, c, c + 1, w, p) < 6 then m_ins c (g_E M2).1 else (g_E M2).1), (g_E M2).2) := rfl
    rw [this]
    split
    · exact iK_ins b1 hc
    · exact b1
  · rw [kc_E] at hx
    split at hx
    · rename_i hlt
      rcases m_ins_of hx with ee | ee
      · rw [ee]
        rcases hl with g | g | g
        · exact absurd hlt (ck6 g)
        · obtain ⟨a, g⟩ := g; exact b2 _ g
        · exact Or.inr g
      · exact b2 x ee
    · exact b2 x hx
  · rw [kc_E]
    split
    · rename_i hlt
      rcases hq with ⟨g | g, g2⟩ | g2
      · exact absurd hlt (ck6 g)
      · obtain ⟨a, g⟩ := g
        rw [m_ins_in b1.1 g]; omega
      · have := m_ins_len c (g_E M2).1
        omega
    · omega
  · rw [← b5]
    exact V_kp b1.1 b1.2.1
  · show g_ser M2 + 1 ≤ _
    omega
  · rw [ex]
    intro y hy'
    rcases List.mem_append.mp hy' with g | g
    · exact yy_mono hk (fun _ h => h) (fun _ h => h) (a6 y g)
    · have : y = (g_ser M2 + 1, k, c, c + 1, w, p) := by simpa using g
      rw [this]
      exact hy
  · rw [ex]
    show ((g_X M2 t).2.1 ++ [_]).length ≤ _
    rw [List.length_append]
    show (g_X M2 t).2.1.length + 1 ≤ _
    omega
  · rw [ex]
    show z_cy ((g_X M2 t).2.1 ++ [_]) ≤ _
    rw [cy_app]
    have : z_cy [(g_ser M2 + 1, k, c, c + 1, w, p)] ≤ if k = 1 then 1 else 2 := by
      by_cases e1 : k = 1
      · rw [if_pos e1]
        unfold z_cy
        rw [lone, lone]
        unfold z_c1 z_c2
        rw [e1, if_pos (show s_ord 1 = true by decide), if_neg (show ¬ 1 < c + 1 - c by omega), if_pos rfl, if_neg (show ¬ (1 : Int32) = 6 by decide)]
        exact Nat.le_refl _
      · rw [if_neg e1]
        exact cy_le [_]
    omega
  · rw [ex]
    show z_sum z_w1 ((g_X M2 t).2.1 ++ [_]) ≤ _
    rw [zs_app, lone]
    have : z_w1 (g_ser M2 + 1, k, c, c + 1, w, p) = 0 := by
      unfold z_w1
      rw [if_neg (fun z => by have := z.2; have z2 : 1 < c + 1 - c := z.2; omega)]
    omega
  · rw [ex]
    show z_sum z_s6 ((g_X M2 t).2.1 ++ [_]) ≤ _
    rw [zs_app, lone]
    have : z_s6 (g_ser M2 + 1, k, c, c + 1, w, p) = if k = 6 then 1 else 0 := rfl
    omega
/-- a change of a key of the layers of records, indexes by field and by count -/
theorem sP_v {k w p : Int32} {c : Nat} (h : sv_P M t W R r u e v q M2) (hc : c < 1331000000000) (hk : k = 0 ∨ k = 2) (hw : c ∈ W) (hl : c / 121000000 = 998 ∨ c / 121000000 = 997) : sv_P M t W R r (u + 1) (e + 2) v (q + 1) (g_kc M2 t k c w p) := by
  have k6 : ¬ k = 6 := by rcases hk with rfl | rfl <;> decide
  have k1 : ¬ k = 1 := by rcases hk with rfl | rfl <;> decide
  refine sP_kc h hc ⟨hc, by show c + 1 ≤ _; omega, Or.inr (Or.inr (Or.inl ⟨?_, rfl, ?_, hw, Or.inr (Or.inl ⟨?_, hl⟩)⟩))⟩ (Or.inr (Or.inr (by omega))) (Or.inr (Nat.le_refl _)) (fun z => absurd z k6) (by rw [if_neg k1]; exact Nat.le_refl _) (by rw [if_neg k6]; exact Nat.le_refl _)
  · rcases hk with z | z
    · exact Or.inl z
    · exact Or.inr (Or.inl z)
  · rw [kc_E]
    have : m_ck (g_ser M2 + 1, k, c, c + 1, w, p) = k := by
      unfold m_ck
      rw [if_neg (fun z => k1 z.1), if_neg (fun z => k6 z.1)]
    rw [this, if_pos (by rcases hk with rfl | rfl <;> decide)]
    exact m_ins_has _
  · rcases hk with rfl | rfl
    · show ¬ (0 : Int32) = 5; decide
    · show ¬ (2 : Int32) = 5; decide
theorem ck1 (s c : Nat) (w p : Int32) : m_ck (s, 1, c, c + 1, w, p) = 1 := by
  unfold m_ck
  rw [if_neg (fun z => by have z2 : 1 < c + 1 - c := z.2; omega), if_neg (fun z => absurd z.1 (show ¬ (1 : Int32) = 6 by decide))]
theorem sP_c {w p : Int32} {c : Nat} (h : sv_P M t W R r u e v q M2) (hc : c < 1331000000000) (hl : c / 121000000 = 998 ∨ c / 121000000 = 999) : sv_P M t W R r (u + 1) (e + 1) v (q + 1) (g_kc M2 t 1 c w p) := by
  refine sP_kc h hc ⟨hc, by show c + 1 ≤ _; omega, Or.inr (Or.inl ⟨rfl, rfl, ?_, by show ¬ (993 ≤ c / 121000000 ∧ c / 121000000 ≤ 995); omega⟩)⟩ (Or.inr (Or.inr (by omega))) (Or.inr (Nat.le_refl _)) (fun z => absurd z (by decide)) (by rw [if_pos rfl]; exact Nat.le_refl _) (by rw [if_neg (by decide)]; exact Nat.le_refl _)
  rw [kc_E, ck1, if_pos (by decide)]
  exact m_ins_has _
theorem sP_x {w p : Int32} {c : Nat} (h : sv_P M t W R r u e v q M2) (hc : c < 1331000000000) (hl : c / 121000000 = 996) (hn : z_nm c (g_E M2).1) : sv_P M t W R r (u + 1) (e + 1) v q (g_kc M2 t 1 c w p) := by
  refine sP_kc h hc ⟨hc, by show c + 1 ≤ _; omega, Or.inr (Or.inl ⟨rfl, rfl, ?_, by show ¬ (993 ≤ c / 121000000 ∧ c / 121000000 ≤ 995); omega⟩)⟩ (Or.inr (Or.inl hn)) (Or.inl ⟨Or.inr hn, Nat.le_refl _⟩) (fun z => absurd z (by decide)) (by rw [if_pos rfl]; exact Nat.le_refl _) (by rw [if_neg (by decide)]; exact Nat.le_refl _)
  rw [kc_E, ck1, if_pos (by decide)]
  exact m_ins_has _
theorem sP_6 {w p : Int32} {k : Nat} (h : sv_P M t W R r u e v q M2) (hk : k < 100) : sv_P M t W R r (u + 1) (e + 2) (v + 1) q (g_kc M2 t 6 (s_cd (-4) 0 (nI k)) w p) := by
  have l := m4_ly (v := 0) (k := k) (by decide) hk
  have e0 : (nI 0 : Int32) = 0 := rfl
  rw [e0] at l
  refine sP_kc h l.2.2.2 ⟨l.2.2.2, by show s_cd (-4) 0 (nI k) + 1 ≤ _; have := l.2.2.2; omega, Or.inr (Or.inr (Or.inr ⟨rfl, rfl, Or.inr (Or.inr ⟨k, hk, rfl⟩)⟩))⟩ (Or.inl rfl) (Or.inl ⟨Or.inl rfl, Nat.le_refl _⟩) (fun _ => l.1) (by rw [if_neg (by decide)]; exact Nat.le_refl _) (by rw [if_pos rfl]; exact Nat.le_refl _)
theorem sP_r {p : Int32} {k j : Nat} (h : sv_P M t W R r u e v q M2) (hr : y_rec W R k j) : sv_P M t W R r (u + 1) (e + 2) v (q + 1) (g_kc M2 t 0 (sv_re (nI k)) (nI j) p) := by
  have l := re_ly hr.1
  have hc : sv_re (nI k) < 1331000000000 := s_cd_lt na_m6.2.2.2.2.2.2.1 (na_100 (by have := hr.1; omega)) (Or.inl rfl)
  refine sP_kc h hc ⟨hc, by show sv_re (nI k) + 1 ≤ _; omega, Or.inr (Or.inr (Or.inl ⟨Or.inl rfl, rfl, ?_, hr.2.2.2.2.1, Or.inr (Or.inr ⟨rfl, k, j, hr, rfl, rfl⟩)⟩))⟩ (Or.inr (Or.inr (by omega))) (Or.inr (Nat.le_refl _)) (fun z => absurd z (by decide)) (by rw [if_neg (by decide)]; exact Nat.le_refl _) (by rw [if_neg (by decide)]; exact Nat.le_refl _)
  rw [kc_E]
  have : m_ck (g_ser M2 + 1, 0, sv_re (nI k), sv_re (nI k) + 1, nI j, p) = 0 := by
    unfold m_ck
    rw [if_neg (fun z => absurd z.1 (by show ¬ (0 : Int32) = 1; decide)), if_neg (fun z => absurd z.1 (by show ¬ (0 : Int32) = 6; decide))]
  show z_nm (sv_re (nI k)) (if m_ck (g_ser M2 + 1, 0, sv_re (nI k), sv_re (nI k) + 1, nI j, p) < 6 then m_ins (sv_re (nI k)) (g_E M2).1 else (g_E M2).1)
  rw [this, if_pos (by decide)]
  exact m_ins_has _
theorem sP_1 {c : Bool} {k w p : Int32} {cd : Nat} {u' e' v' q' : Nat} (h : sv_P M t W R r u e v q M2) (h2 : c = true → sv_P M t W R r u' e' v' q' (g_kc M2 t k cd w p)) (l1 : u ≤ u') (l2 : e ≤ e') (l3 : v ≤ v') (l4 : q ≤ q') : sv_P M t W R r u' e' v' q' (sv_1 c t k cd w p M2) := by
  unfold sv_1
  split
  · rename_i hc; exact h2 hc
  · exact sP_mono h (Nat.le_refl _) l1 l2 l3 l4
/-- what is seen of a record's versions -/
theorem seen_at {Vs : List Nat} {n : Int32} (h : sv_P M t W R r u e v q M2) (hV : ∀ x ∈ (g_E M).1, x.1 / 121000000 = 996 → ∃ v ∈ Vs, s_dig x.1 1 = v + 1000) : (sv_seen M2 t n).length ≤ Vs.length ∧ ∀ x ∈ sv_seen M2 t n, x.1 / 121000000 = 996 ∧ x.1 < 1331000000000 ∧ z_nm x.1 (g_E M2).1 := by
  have at4 : ∀ x ∈ sv_seen M2 t n, x.1 / 121000000 = 996 ∧ x.1 < 1331000000000 ∧ z_nm x.1 (g_E M2).1 ∧ s_no x.1 2 = n := fun x hx => by
    obtain ⟨h1, h2⟩ := List.mem_filter.mp hx
    obtain ⟨h3, h4⟩ := List.mem_filter.mp h1
    simp only [Bool.and_eq_true, decide_eq_true_eq] at h4
    have d : s_lo (-4) 10000 = 120516000000 ∧ s_la (-4) 10000 + 1 = 120637000000 := by decide +kernel
    exact ⟨by omega, h.2.2.2.1.1.2.2 x h3, ⟨x.2, h3⟩, by simpa using h2⟩
  refine ⟨?_, fun x hx => ⟨(at4 x hx).1, (at4 x hx).2.1, (at4 x hx).2.2.1⟩⟩
  have s : (sv_seen M2 t n).Pairwise (fun x y => x.1 < y.1) := List.Pairwise.sublist (List.Sublist.trans List.filter_sublist List.filter_sublist) h.2.2.2.1.1.1
  have := nd_len (l := (sv_seen M2 t n).map (fun x => s_dig x.1 1)) (m := Vs.map (fun v => v + 1000)) (List.pairwise_map.mpr (s.imp_of_mem (fun {a b} ha hb hab e => by
    obtain ⟨a1, a2, -, a3⟩ := at4 a ha
    obtain ⟨b1, b2, -, b3⟩ := at4 b hb
    have e2 : s_dig a.1 2 = s_dig b.1 2 := by rw [← no_dg, ← no_dg, a3, b3]
    have := dig_eq a2 b2 (by omega) e e2
    have hab : a.1 < b.1 := hab
    omega))) (fun c hc => by
    obtain ⟨x, hx, rfl⟩ := List.mem_map.mp hc
    obtain ⟨a1, a2, ⟨k, a3⟩, -⟩ := at4 x hx
    obtain ⟨k', hk'⟩ : z_nm x.1 (g_E M).1 := by
      rcases h.2.2.2.1.2.1 _ a3 with g | g
      · exact g
      · have g' : 997 ≤ x.1 / 121000000 := g.1
        omega
    obtain ⟨w, hw, ew⟩ := hV _ hk' a1
    exact List.mem_map.mpr ⟨w, hw, ew.symm⟩)
  rw [List.length_map, List.length_map] at this
  exact this
theorem sP_cls : ∀ (X : List k_K2) (M2 : s_M) (u e : Nat), (∀ x ∈ X, x.1 / 121000000 = 996 ∧ x.1 < 1331000000000 ∧ z_nm x.1 (g_E M2).1) → sv_P M t W R r u e v q M2 → sv_P M t W R r (u + X.length) (e + X.length) v q (g_cls t X M2) := by
  intro X
  induction X with
  | nil => intro M2 u e _ h; exact h
  | cons x X ih =>
    intro M2 u e hX h
    obtain ⟨h1, h2, h3⟩ := hX x List.mem_cons_self
    have s := sP_x (w := 0) (p := 0) h h2 h1 h3
    have := ih (g_kc M2 t 1 x.1 0 0) (u + 1) (e + 1) (fun y hy => by
      obtain ⟨g1, g2, g3⟩ := hX y (List.mem_cons_of_mem _ hy)
      refine ⟨g1, g2, ?_⟩
      rw [kc_E]
      split
      · obtain ⟨a, g3⟩ := g3; exact ⟨a, m_ins_mem g3⟩
      · exact g3) s
    rw [List.length_cons]
    have e1 : u + (X.length + 1) = u + 1 + X.length := by omega
    have e2 : e + (X.length + 1) = e + 1 + X.length := by omega
    rw [e1, e2]
    exact this
end SVP
end
section
/-! SAVES: the invariant -/
theorem rk_cs (M2 : s_M) (t c : Nat) : (g_X (g_rk M2 t c) t).2.1 = (g_X M2 t).2.1 ∧ (g_X (g_rk M2 t c) t).1 = (g_X M2 t).1 := by
  have ex : g_X (g_rk M2 t c) t = ((g_X M2 t).1, (g_X M2 t).2.1, s_rdk true (g_X M2 t).2.1 (g_X M2 t).2.2 c (g_ser M2)) := by
    show (if t = t then _ else _) = _
    rw [if_pos rfl]
  rw [ex]
  exact ⟨rfl, rfl⟩
theorem r4_cs (M : s_M) (t : Nat) (n : Int32) : (g_X (sv_r4 M t n) t).2.1 = (g_X M t).2.1 ∧ (g_X (sv_r4 M t n) t).1 = (g_X M t).1 := by
  unfold sv_r4
  obtain ⟨a1, b1⟩ := rk_cs (g_rk (g_rk (g_rk M t (sv_co 0)) t (sv_co 1)) t (sv_co 2)) t (sv_re n)
  obtain ⟨a2, b2⟩ := rk_cs (g_rk (g_rk M t (sv_co 0)) t (sv_co 1)) t (sv_co 2)
  obtain ⟨a3, b3⟩ := rk_cs (g_rk M t (sv_co 0)) t (sv_co 1)
  obtain ⟨a4, b4⟩ := rk_cs M t (sv_co 0)
  exact ⟨by rw [a1, a2, a3, a4], by rw [b1, b2, b3, b4]⟩
section SV2
variable {M : s_M} {t : Nat} {W R Vs : List Nat} {kn jf : Nat} {saves : Bool}
theorem sP_0 (K : i_K (g_E M)) (hy : ∀ y ∈ (g_X M t).2.1, y_y (g_E M).1 W R y) : sv_P M t W R 0 0 0 0 0 M :=
  ⟨⟨rfl, rfl, rfl, rfl, rfl⟩, fun _ _ => rfl, rfl, ⟨K, fun x hx => Or.inl ⟨x.2, hx⟩, fun _ h => h, Nat.le_refl _, rfl⟩, Nat.le_refl _, hy, Nat.le_refl _, Nat.le_refl _, Nat.le_refl _, Nat.le_refl _, Nat.le_refl _⟩
theorem sP_mid (K : i_K (g_E M)) (hy : ∀ y ∈ (g_X M t).2.1, y_y (g_E M).1 W R y) (hold : ∀ v, (g_see M t (sv_re (nI kn))).1 = some v → ∃ j, y_rec W R kn j ∧ v = nI j) (hr : y_rec W R kn jf) :
    sv_P M t W R 4 0 0 0 0 (sv_r4 M t (nI kn)) ∧ sv_P M t W R 4 4 7 0 4 (sv_mid M t (nI kn) saves (nI jf)) := by
  have h4 : sv_P M t W R 4 0 0 0 0 (sv_r4 M t (nI kn)) := sP_rk (sP_rk (sP_rk (sP_rk (sP_0 K hy))))
  refine ⟨h4, ?_⟩
  have nk : s_na (nI kn) := na_100 (by have := hr.1; omega)
  have nf : s_na (nI jf) := na_100 (by have := hr.2.1; omega)
  have old : (g_see M t (sv_re (nI kn))).1.isSome = true → ∃ j, y_rec W R kn j ∧ o_told (g_see M t (sv_re (nI kn))).1 = nI j := fun h => by
    obtain ⟨v, hv⟩ := Option.isSome_iff_exists.mp h
    obtain ⟨j, h1, h2⟩ := hold v hv
    exact ⟨j, h1, by rw [hv]; exact h2⟩
  unfold sv_mid sv_p
  generalize o_told (g_see M t (sv_re (nI kn))).1 = ov at old ⊢
  generalize (g_see M t (sv_re (nI kn))).1.isSome = had at old ⊢
  have cx : ∀ {g b : Bool}, (g && b) = true → b = true := fun {g b} h => by rw [Bool.and_eq_true] at h; exact h.2
  have s1 : sv_P M t W R 4 1 1 0 1 (sv_1 (sv_go M t 0 (nI kn) && had) t 1 (s_cd (-2) ov (nI kn)) 0 0 (sv_r4 M t (nI kn))) := by
    refine sP_1 h4 (fun h => ?_) (by decide) (by decide) (by decide) (by decide)
    obtain ⟨j, h1, e⟩ := old (cx h)
    have nj : s_na (nI j) := na_100 (by have := h1.2.1; omega)
    rw [e]
    exact sP_c h4 (s_cd_lt na_m6.2.2.2.2.2.1 nj nk) (Or.inl (by rw [s_cd_div nj nk]; rfl))
  have s2 : sv_P M t W R 4 2 3 0 2 (sv_1 (sv_go M t 0 (nI kn) && saves) t 0 (s_cd (-2) (nI jf) (nI kn)) 0 0 (sv_1 (sv_go M t 0 (nI kn) && had) t 1 (s_cd (-2) ov (nI kn)) 0 0 (sv_r4 M t (nI kn)))) :=
    sP_1 s1 (fun h => sP_v s1 (s_cd_lt na_m6.2.2.2.2.2.1 nf nk) (Or.inl rfl) hr.2.2.1 (Or.inl (by rw [s_cd_div nf nk]; rfl))) (by decide) (by decide) (by decide) (by decide)
  have s3 : sv_P M t W R 4 3 5 0 3 (sv_1 (sv_go M t 1 (nI kn) && had) t 2 (s_cd (-3) ov 10000) (-1) 0 (sv_1 (sv_go M t 0 (nI kn) && saves) t 0 (s_cd (-2) (nI jf) (nI kn)) 0 0 (sv_1 (sv_go M t 0 (nI kn) && had) t 1 (s_cd (-2) ov (nI kn)) 0 0 (sv_r4 M t (nI kn))))) := by
    refine sP_1 s2 (fun h => ?_) (by decide) (by decide) (by decide) (by decide)
    obtain ⟨j, h1, e⟩ := old (cx h)
    have nj : s_na (nI j) := na_100 (by have := h1.2.1; omega)
    rw [e] at s2 ⊢
    exact sP_v s2 (s_cd_lt na_m6.2.2.2.2.1 nj (Or.inl rfl)) (Or.inr rfl) h1.2.2.2.1 (Or.inr (by rw [s_cd_div nj (Or.inl rfl)]; rfl))
  exact sP_1 s3 (fun h => sP_v s3 (s_cd_lt na_m6.2.2.2.2.1 nf (Or.inl rfl)) (Or.inr rfl) hr.2.2.2.1 (Or.inr (by rw [s_cd_div nf (Or.inl rfl)]; rfl))) (by decide) (by decide) (by decide) (by decide)
/-- what a save leaves -/
theorem sP_end (K : i_K (g_E M)) (hy : ∀ y ∈ (g_X M t).2.1, y_y (g_E M).1 W R y) (hold : ∀ v, (g_see M t (sv_re (nI kn))).1 = some v → ∃ j, y_rec W R kn j ∧ v = nI j) (hr : y_rec W R kn jf) (hV : ∀ x ∈ (g_E M).1, x.1 / 121000000 = 996 → ∃ v ∈ Vs, s_dig x.1 1 = v + 1000) :
    sv_P M t W R 4 (6 + Vs.length) (11 + Vs.length) 1 5 (sv_w M t (nI kn) saves (nI jf)).1 ∧ ((g_X (sv_w M t (nI kn) saves (nI jf)).1 t).2.1 = (g_X M t).2.1 ∨ z_sum z_s6 (g_X (sv_w M t (nI kn) saves (nI jf)).1 t).2.1 < (g_X (sv_w M t (nI kn) saves (nI jf)).1 t).2.1.length) ∧
    (sv_seen (g_sdr (sv_mid M t (nI kn) saves (nI jf)) t (nI kn)) t (nI kn)).length ≤ Vs.length := by
  obtain ⟨h4, hm⟩ := sP_mid (saves := saves) K hy hold hr
  obtain ⟨q1, q2⟩ := seen_at (n := nI kn) (sP_sdr (n := nI kn) hm) hV
  refine ⟨?_, ?_, q1⟩
  · unfold sv_w
    split
    · exact sP_mono h4 (Nat.le_refl _) (by omega) (by omega) (by omega) (by omega)
    · have eall : sv_all M t (nI kn) saves (nI jf) = sv_f (sv_go M t 2 (nI kn)) saves t (nI kn) (nI jf) (sv_q (sv_go M t 2 (nI kn) && (g_see M t (sv_re (nI kn))).1.isSome) t (nI kn) (sv_mid M t (nI kn) saves (nI jf))) := rfl
      show sv_P M t W R 4 (6 + Vs.length) (11 + Vs.length) 1 5 (sv_all M t (nI kn) saves (nI jf))
      rw [eall]
      have hq : sv_P M t W R 4 (4 + Vs.length) (7 + Vs.length) 0 4 (sv_q (sv_go M t 2 (nI kn) && (g_see M t (sv_re (nI kn))).1.isSome) t (nI kn) (sv_mid M t (nI kn) saves (nI jf))) := by
        unfold sv_q
        split
        · have := sP_cls _ _ _ _ q2 (sP_sdr (n := nI kn) hm)
          exact sP_mono this (Nat.le_refl _) (by omega) (by omega) (Nat.le_refl _) (Nat.le_refl _)
        · exact sP_mono hm (Nat.le_refl _) (by omega) (by omega) (Nat.le_refl _) (Nat.le_refl _)
      generalize sv_q _ t (nI kn) _ = M3 at hq ⊢
      unfold sv_f
      have h6 : sv_P M t W R 4 (5 + Vs.length) (9 + Vs.length) 1 4 (sv_1 (sv_go M t 2 (nI kn) && saves) t 6 (s_cd (-4) 0 (nI kn)) (nI jf) 1 M3) :=
        sP_1 hq (fun _ => sP_mono (sP_6 hq hr.1) (Nat.le_refl _) (by omega) (by omega) (by omega) (by omega)) (by omega) (by omega) (by omega) (by omega)
      generalize sv_1 _ t 6 _ _ 1 M3 = M4 at h6 ⊢
      cases saves with
      | true => exact sP_mono (sP_r h6 hr) (Nat.le_refl _) (by omega) (by omega) (by omega) (by omega)
      | false =>
        have hc : sv_re (nI kn) < 1331000000000 := s_cd_lt na_m6.2.2.2.2.2.2.1 (na_100 (by have := hr.1; omega)) (Or.inl rfl)
        exact sP_mono (sP_c h6 hc (Or.inr (re_ly hr.1))) (Nat.le_refl _) (by omega) (by omega) (by omega) (by omega)
  · unfold sv_w
    split
    · exact Or.inl (r4_cs M t (nI kn)).1
    · right
      have eall : sv_all M t (nI kn) saves (nI jf) = sv_f (sv_go M t 2 (nI kn)) saves t (nI kn) (nI jf) (sv_q (sv_go M t 2 (nI kn) && (g_see M t (sv_re (nI kn))).1.isSome) t (nI kn) (sv_mid M t (nI kn) saves (nI jf))) := rfl
      show z_sum z_s6 (g_X (sv_all M t (nI kn) saves (nI jf)) t).2.1 < (g_X (sv_all M t (nI kn) saves (nI jf)) t).2.1.length
      rw [eall]
      unfold sv_f
      generalize sv_1 _ t 6 _ _ 1 _ = M4
      have ex : ∀ (k w p : Int32) (c : Nat), g_X (g_kc M4 t k c w p) t = ((g_X M4 t).1, (g_X M4 t).2.1 ++ [(g_ser M4 + 1, k, c, c + 1, w, p)], (g_X M4 t).2.2) := fun k w p c => by
        show (if t = t then _ else _) = _
        rw [if_pos rfl]
      rw [ex]
      show z_sum z_s6 ((g_X M4 t).2.1 ++ [_]) < ((g_X M4 t).2.1 ++ [_]).length
      rw [zs_app, List.length_append]
      have := s6_le (g_X M4 t).2.1
      have e1 : z_sum z_s6 [(g_ser M4 + 1, (if saves = true then 0 else 1 : Int32), sv_re (nI kn), sv_re (nI kn) + 1, (if saves = true then nI jf else -2147483648), (0 : Int32))] = 0 := by
        unfold z_sum z_s6
        cases saves
        · rfl
        · rfl
      rw [e1]
      show _ < _ + 1
      omega
end SV2
theorem A_save {i N w t : Nat} {M : s_M} {W S R V Vs : List Nat} {a s b p C D X Y Np kn jf : Nat} (I : i_A i M N w W S R V Vs a s b p C D X Y Np) (hi : i < 512) (ht : t < 4) (hk : kn < 100) (hj : jf < 100) (saves : Bool) :
    (∀ v, (g_see M t (sv_re (nI kn))).1 = some v → ∃ j, j < 100 ∧ v = nI j) ∧ sv_st M t (nI kn) = false ∧ sv_P M t (sv_re (nI kn) :: s_cd (-2) (nI jf) (nI kn) :: s_cd (-3) (nI jf) 10000 :: W) (kn :: R) 4 4 7 0 4 (sv_mid M t (nI kn) saves (nI jf)) ∧
    sv_P M t (sv_re (nI kn) :: s_cd (-2) (nI jf) (nI kn) :: s_cd (-3) (nI jf) 10000 :: W) (kn :: R) 4 (6 + C) (11 + C) 1 5 (sv_w M t (nI kn) saves (nI jf)).1 ∧ ((g_X (sv_w M t (nI kn) saves (nI jf)).1 t).2.1 = (g_X M t).2.1 ∨ z_sum z_s6 (g_X (sv_w M t (nI kn) saves (nI jf)).1 t).2.1 < (g_X (sv_w M t (nI kn) saves (nI jf)).1 t).2.1.length) ∧
    (sv_seen (g_sdr (sv_mid M t (nI kn) saves (nI jf)) t (nI kn)) t (nI kn)).length ≤ C := by
  obtain ⟨⟨g1, g2, g3⟩, hS, gX, gC, gN, g4, g5, g6⟩ := I
  have hW : ∀ c ∈ W, c ∈ (sv_re (nI kn) :: s_cd (-2) (nI jf) (nI kn) :: s_cd (-3) (nI jf) 10000 :: W) := fun c h => List.mem_cons_of_mem _ (List.mem_cons_of_mem _ (List.mem_cons_of_mem _ h))
  have hR : ∀ c ∈ R, c ∈ kn :: R := fun c h => List.mem_cons_of_mem _ h
  have hy := fun y hy => yy_mono (fun _ h => h) hW hR ((gX t ht).1 y hy)
  have sr := see_M (c := sv_re (nI kn)) gX hS.2.1.1 ht (Or.inl (re_ly hk))
  have hold : ∀ v, (g_see M t (sv_re (nI kn))).1 = some v → ∃ j, y_rec (sv_re (nI kn) :: s_cd (-2) (nI jf) (nI kn) :: s_cd (-3) (nI jf) 10000 :: W) (kn :: R) kn j ∧ v = nI j := fun v hv => by
    obtain ⟨j, h1, h2⟩ := sr.2 kn hk rfl v hv
    exact ⟨j, yrec_mono hW hR h1, h2⟩
  have hr : y_rec (sv_re (nI kn) :: s_cd (-2) (nI jf) (nI kn) :: s_cd (-3) (nI jf) 10000 :: W) (kn :: R) kn jf := ⟨hk, hj, List.mem_cons_of_mem _ List.mem_cons_self, List.mem_cons_of_mem _ (List.mem_cons_of_mem _ List.mem_cons_self), List.mem_cons_self, List.mem_cons_self⟩
  obtain ⟨-, hm⟩ := sP_mid (saves := saves) hS.1.2 hy hold hr
  obtain ⟨e1, e2, e3⟩ := sP_end (saves := saves) hS.1.2 hy hold hr hS.2.1.2.2.1
  have hC := hS.2.1.2.2.2.2
  refine ⟨fun v hv => ?_, ?_, hm, sP_mono e1 (Nat.le_refl _) (by omega) (by omega) (Nat.le_refl _) (Nat.le_refl _), e2, Nat.le_trans e3 hC⟩
  · obtain ⟨j, h1, h2⟩ := sr.2 kn hk rfl v hv
    exact ⟨j, h1.2.1, h2⟩
  · unfold sv_st
    have c0 := (see_M (c := sv_co 0) gX hS.2.1.1 ht (Or.inr (co_ly (i := 0) (by decide)))).1
    have c1 := (see_M (c := sv_co 1) gX hS.2.1.1 ht (Or.inr (co_ly (i := 1) (by decide)))).1
    have c2 := (see_M (c := sv_co 2) gX hS.2.1.1 ht (Or.inr (co_ly (i := 2) (by decide)))).1
    rw [c0, c1, c2, sr.1]
    rfl
theorem I_sv {i N w t N' w' : Nat} {M : s_M} {W S R V Vs : List Nat} {a s b p C D X Y Np kn jf : Nat} (I : i_A i M N w W S R V Vs a s b p C D X Y Np) (hi : i < 512) (ht : t < 4) (hk : kn < 100) (hj : jf < 100) (saves : Bool) (hl : (g_X M t).2.1.length < 12) (hN : N' ≤ N + 10 + C) (hw : w' ≤ w + 12) : i_I (i + 1) (sv_w M t (nI kn) saves (nI jf)).1 N' w' := by
  obtain ⟨-, -, -, P, alt, -⟩ := A_save I hi ht hk hj saves
  obtain ⟨⟨g1, g2, g3⟩, hS, gX, gC, gN, g4, g5, g6⟩ := I
  have i1 := i1_save (x := nI kn) (saves := saves) (field := nI jf) g1 ht
  generalize (sv_w M t (nI kn) saves (nI jf)).1 = M' at P alt i1 ⊢
  obtain ⟨⟨a1, a2, a3, a4, a5⟩, b1, b2, ⟨c1, c2, c3, c4, c5⟩, d1, d2, d3, d4, d5, d6, d7⟩ := P
  have hW : ∀ c ∈ W, c ∈ (sv_re (nI kn) :: s_cd (-2) (nI jf) (nI kn) :: s_cd (-3) (nI jf) 10000 :: W) := fun c h => List.mem_cons_of_mem _ (List.mem_cons_of_mem _ (List.mem_cons_of_mem _ h))
  have hR : ∀ c ∈ R, c ∈ kn :: R := fun c h => List.mem_cons_of_mem _ h
  have hCi : C ≤ i := gN.2.2.2.2.2.2.2
  obtain ⟨x1, x2, x3, x4, x5, x6⟩ := gX t ht
  have cyl := cy_le (g_X M t).2.1
  have w1l := w1_le (g_X M t).2.1
  have s6l := s6_le (g_X M t).2.1
  have eMK : g_MK M' = g_MK M := congrArg (fun q => q.2.1) a5
  have ePT : g_PT M' = g_PT M := congrArg (fun q => q.2.2.1) a5
  have eDS : g_DS M' = g_DS M := congrArg (fun q => q.2.2.2) a5
  have zc : z_C M' ≤ z_C M + 1 := by
    have := z4_up2 (f := fun u => z_cr (g_n M) (g_X M u)) (g := fun u => z_cr (g_n M') (g_X M' u)) ht (fun u hu => by rw [b1 u hu, a1]; exact Nat.le_refl _)
    have e1 : z_cr (g_n M') (g_X M' t) ≤ z_cr (g_n M) (g_X M t) + 1 := by
      rw [a1]
      rcases alt with e | e
      · rw [zcr_hd e (by rw [b2])]; exact Nat.le_succ _
      · exact zcr_sv hl d7 e
    have e2 : z_los M' = z_los M := by unfold z_los; rw [a3]
    unfold z_C
    rw [e2]
    omega
  refine ⟨sv_re (nI kn) :: s_cd (-2) (nI jf) (nI kn) :: s_cd (-3) (nI jf) 10000 :: W, S, kn :: R, V, Vs, a + 1, s, b, p + 1, C, D, X, Y + C, Np, ⟨⟨i1_mono i1 (by omega) (Nat.le_succ _), iD_same g2 eDS, by omega⟩, ?_, ?_, ⟨?_, ?_, gC.2.2⟩, iN_p gN ?_, by omega, ?_, by omega⟩⟩
  · refine S_same hS (Nat.le_succ _) hW hR (fun k hk' => ?_) (by simp only [List.length_cons]; omega) (by simp) a1 a4 eMK ePT c1 (fun x hx => ?_) (by have := hS.2.2.2.2.1.1; omega) c5
    · rcases List.mem_cons.mp hk' with rfl | hk'
      · exact hk
      · exact hS.2.2.1.2.2.1.2 k hk'
    · rcases c2 x hx with g | g
      · exact Or.inl g
      · exact Or.inr ⟨fun z => by omega, by omega⟩
  · intro u hu
    by_cases e : u = t
    · subst e
      exact ⟨d2, by omega, by omega, by omega, by omega, by omega⟩
    · rw [b1 u e]
      exact ix_mono (gX u hu) c3 hW hR (Nat.le_succ _) (Nat.le_refl _)
  · have := gC.1
    simp only [List.length_cons]
    omega
  · have := gC.2.1
    simp only [List.length_cons]
    omega
  · have := z4_bg (M := M) (M' := M') ht b1
    rw [b2] at this
    rw [a3]
    omega
  · rw [Nat.add_mul]; omega
theorem I_saved {i N w : Nat} {M : s_M} {x n : Int32} {saves : Bool} {field : Int32} (I : i_I i M N w) (hi : i < 512) (hfe : saves = false → field = 0) : ∃ sl, sv_C M n field saves sl ∧ i_I (i + 1) (F_saved M x n saves field).1 (N + 10 + sl) (w + 12) ∧ ∀ t, t < 4 → s_inB n 0 99 = true → (saves = true → s_inB field 0 99 = true) → g_shut M t = false → sv_L M t n saves field := by
  obtain ⟨W, S, R, V, Vs, a, s, b, p, C, D, X, Y, Np, I0⟩ := id I
  have l0 := A_lim I0 (by omega)
  have fj : (saves = true → s_inB field 0 99 = true) → ∃ jf, jf < 100 ∧ field = nI jf := fun h => by
    cases e : saves with
    | true =>
      obtain ⟨j, h1, h2⟩ := in99_n (h e)
      exact ⟨j, by omega, h2⟩
    | false => exact ⟨0, by decide, by rw [hfe e]; rfl⟩
  have gN := I0.2.2.2.2.1
  have hCi : C ≤ i := gN.2.2.2.2.2.2.2
  have sL : ∀ t, t < 4 → s_inB n 0 99 = true → (saves = true → s_inB field 0 99 = true) → g_shut M t = false → sv_L M t n saves field ∧ sv_st M t n = false ∧ (sv_seen (g_sdr (sv_mid M t n saves field) t n) t n).length ≤ C := by
    intro t ht hn hf hs
    obtain ⟨kn, hk, rfl⟩ := in99_n hn
    obtain ⟨jf, hj, rfl⟩ := fj hf
    obtain ⟨q1, q2, q3, q4, q5, q6⟩ := A_save (kn := kn) I0 hi ht (by omega) hj saves
    obtain ⟨sh1, sh2⟩ := z_shut (M := M) (t := t) (by rw [hs]; decide)
    obtain ⟨⟨g1, g2, g3⟩, hS, gX, -⟩ := I0
    have hser : g_ser M ≤ 2 ^ 29 := by omega
    have hsb : sv_B M t 4090 11990 (2 ^ 29) := ⟨Nat.le_of_lt (Nat.lt_of_lt_of_le sh2 (by decide)), by have := hS.2.2.2.2.1.1; omega, hser⟩
    refine ⟨⟨fun v hv => ?_, hsb, ?_, fun _ => ?_⟩, q2, q6⟩
    · obtain ⟨j, h1, h2⟩ := q1 v hv
      rw [h2]; exact na_100 (by omega)
    · have := (gX t ht).2.1; omega
    · have h1 := q3.2.2.2.2.2.2.2.1
      omega
  refine ⟨C, fun t ht hn hf hs => ?_, ?_, fun t ht hn hf hs => (sL t ht hn hf hs).1⟩
  · obtain ⟨h1, h2, h3⟩ := sL t ht hn hf hs
    obtain ⟨sh1, sh2⟩ := z_shut (M := M) (t := t) (by rw [hs]; decide)
    obtain ⟨⟨g1, g2, g3⟩, hS, gX, -⟩ := I0
    refine ⟨⟨sh1, (g1.2.2.2.1 t ht).1, fun u hu y hy => ?_, l0.1.2.1, l0.1.2.2, fun y hy e => ?_⟩, h1, h2, fun _ => h3⟩
    · rcases ((gX u hu).1 y hy).2.2 with g | g | g | g
      · exact Or.inl g.1
      · exact Or.inl g.1
      · exact Or.inr (Or.inr ⟨g.2.1, g.2.2.1⟩)
      · exact Or.inr (Or.inl g.1)
    · rcases ((gX t ht).1 y hy).2.2 with g | g | g | g
      · rw [e] at g; exact absurd g.1 (by decide)
      · rw [e] at g; exact absurd g.1 (by decide)
      · rw [e] at g; exact absurd g.1 (by decide)
      · rw [e] at g; exact absurd g.1 (by decide)
  · rcases z_saved (M := M) (x := x) (n := n) (saves := saves) (field := field) with e | ⟨t, ht, hn, hf, hb, hl, -, e⟩
    · rw [e]
      obtain ⟨W1, S1, R1, V1, Vs1, a1, s1, b1, p1, C1, D1, X1, Y1, Np1, J⟩ := I_0 (N' := N + 12) I (Nat.le_refl _)
      have J' := J
      obtain ⟨j1, j2, j3, j4, j5, -, j6, -⟩ := J'
      obtain ⟨⟨g1, g2, g3⟩, hS, gX, gC, gN, g4, g5, g6⟩ := I0
      have hp := iN_p (M' := M) gN (Nat.le_add_right _ _)
      refine ⟨W, S, R, V, Vs, a + 1, s, b, p + 1, C, D, X, Y + C, Np, ⟨⟨i1_mono g1 (by omega) (Nat.le_succ _), iD_same g2 rfl, by omega⟩, ?_, iX_same rfl rfl gX, ⟨by have := gC.1; omega, by have := gC.2.1; omega, gC.2.2⟩, hp, by omega, by rw [Nat.add_mul]; omega, by omega⟩⟩
      exact S_same hS (Nat.le_succ _) (fun _ h => h) (fun _ h => h) hS.2.2.1.2.2.1.2 (Nat.le_refl _) (Nat.le_refl _) rfl rfl rfl rfl hS.1.2 (fun x hx => Or.inl ⟨x.2, hx⟩) (by have := hS.2.2.2.2.1.1; omega) rfl
    · rw [e]
      obtain ⟨kn, hk, rfl⟩ := in99_n hn
      obtain ⟨jf, hj, rfl⟩ := fj hf
      exact I_sv (kn := kn) I0 hi ht (by omega) hj saves hl (Nat.le_refl _) (Nat.le_refl _)
end
section
/-! WHAT THE INVARIANT GIVES; ITS START -/
theorem I_g0 : i_I 0 g_0 0 0 := by
  refine ⟨[], [], [], [], [], 0, 0, 0, 0, 0, 0, 0, 0, 0, ⟨⟨i1_0, ?_, Nat.le_refl _⟩, ?_, fun t ht => ix_nil rfl rfl, ⟨Nat.le_refl _, Nat.le_refl _, fun _ => rfl⟩, ⟨Nat.le_refl _, Nat.le_refl _, Nat.le_refl _, Nat.le_refl _, Nat.le_refl _, Nat.le_refl _, Nat.le_refl _, Nat.le_refl _⟩, Nat.le_refl _, Nat.le_refl _, Nat.le_refl _⟩⟩
  · refine ⟨⟨⟨List.pairwise_singleton _ _, List.mem_singleton.mpr rfl, fun d hd h0 => ?_, ⟨fun _ => 0, fun d hd p hp => ?_⟩, fun d hd => ?_⟩, by decide, fun d hd => ?_, by decide⟩, by decide, by decide, by decide⟩
    · have : d = (0, none, 0, 0) := List.mem_singleton.mp hd
      rw [this] at h0; exact absurd rfl h0
    · have : d = (0, none, 0, 0) := List.mem_singleton.mp hd
      rw [this] at hp; cases hp
    · have : d = (0, none, 0, 0) := List.mem_singleton.mp hd
      rw [this]; exact ⟨Nat.zero_le _, Nat.zero_le _⟩
    · have : d = (0, none, 0, 0) := List.mem_singleton.mp hd
      rw [this]; exact Nat.zero_lt_one
  · refine ⟨⟨i2_0, List.Pairwise.nil, fun x hx => (by cases hx), fun x hx => (by cases hx)⟩, ⟨fun x hx => (by cases hx), fun x hx => (by cases hx), fun x hx => (by cases hx), fun x hx => (by cases hx), Nat.le_refl _⟩, ⟨fun c hc => (by cases hc), fun v hv => (by cases hv), ⟨fun v hv => (by cases hv), fun v hv => (by cases hv)⟩, fun k hk v hv => (by cases hv), fun v hv => (by cases hv)⟩, ⟨⟨List.pairwise_singleton _ _, fun p hp => ?_, fun p hp => ?_⟩, by decide, by decide, Nat.le_refl _⟩, ⟨Nat.le_refl _, Nat.le_refl _⟩, Or.inl ⟨rfl, Nat.le_refl _⟩⟩
    · have : ((0, 0) : p_T) = p := Option.some.inj hp
      rw [← this]
    · have : p = (0, 0) := List.mem_singleton.mp hp
      rw [this]; exact Nat.zero_lt_succ _
theorem I_use {i N w : Nat} {M : s_M} (I : i_I i M N w) (hi : i ≤ 512) :
    (e_lim (g_E M) ∧ g_nm M ∧ g_pk M ∧ g_p0 M ∧ g_wk M ∧ g_ws M) ∧ (g_n M ≤ 10 * i ∧ g_gen M ≤ i ∧ g_los M ≤ 2 ∧ g_ser M ≤ 1000 * i ∧ w ≤ 12 * i) ∧ (∀ t, t < 4 → ((g_X M t).1.2.2.1 ≤ g_n M ∧ (g_X M t).1.2.2.2.1 ≤ g_gen M ∧ (g_X M t).1.2.2.2.2 ≤ g_n M) ∧ (g_X M t).2.1.length ≤ 17 + i ∧ (g_X M t).2.2.length ≤ 4 * i) ∧
    ((∀ v ∈ g_MK M, v ≤ g_n M) ∧ (g_MK M).length ≤ 10 ∧ (g_WT M).length ≤ 20) ∧ i_D i M ∧ ((g_PT M).length ≤ 1409 ∧ ∀ p ∈ g_PT M, p.1 < 1331000000000) ∧ (g_E M).1.length ≤ 22 * i ∧ ∃ W R, (∀ x ∈ (g_E M).2.1, y_E W R x.2.1 x.2.2.2) ∧ (∀ x ∈ (g_E M).1, y_K x.1) ∧ i_K (g_E M) := by
  obtain ⟨W, S, R, V, Vs, a, s, b, p, C, D, X, Y, Np, I⟩ := I
  have l := A_lim I hi
  obtain ⟨⟨g1, g2, g3⟩, hS, gX, gC, gN, g4, g5, g6⟩ := I
  obtain ⟨a1, a2, a3, a4, a5, a6, a7⟩ := g1
  have hCi := gN.2.2.2.2.2.2.2
  refine ⟨⟨l.1, fun u hu y hy => ?_, ⟨hS.2.2.2.1.1.1, hS.2.2.2.1.2.1⟩, hS.2.2.2.1.1.2.1, i2_wk hS.1.1 (by omega), i2_ws hS.1.1⟩, ⟨a1, a2, a3, g3, g6⟩, fun t ht => ⟨a4 t ht, ?_, ?_⟩, ⟨a5, a6, a7⟩, g2, ⟨l.2.2.1, hS.2.2.2.1.1.2.2⟩, hS.2.2.2.2.1.1, W, R, hS.2.1.1, hS.2.1.2.1, hS.1.2⟩
  · rcases ((gX u hu).1 y hy).2.2 with g | g | g | g
    · exact Or.inl g.1
    · exact Or.inl g.1
    · exact Or.inr (Or.inr ⟨g.2.1, g.2.2.1⟩)
    · exact Or.inr (Or.inl g.1)
  · have := (gX t ht).2.2.1; omega
  · exact (gX t ht).2.1
theorem pC_dec : ∀ c : Fin 513, (512 - c.val) * c.val ≤ 65536 := by decide +kernel
theorem I_size {i N w : Nat} {M : s_M} (I : i_I i M N w) (hi : i ≤ 512) : (g_E M).1.length + (g_E M).2.1.length + (g_E M).2.2.length + N ≤ 563000 := by
  obtain ⟨W, S, R, V, Vs, a, s, b, p, C, D, X, Y, Np, I⟩ := I
  obtain ⟨⟨l1, l2, l3⟩, l4, l5, l6⟩ := A_lim I hi
  obtain ⟨⟨g1, g2, g3⟩, hS, gX, gC, gN, g4, g5, g6⟩ := I
  obtain ⟨n1, n2, n3, n4, n5, n6, n7, n8⟩ := gN
  obtain ⟨k1, k2⟩ := hS.2.2.2.2.1
  have hp : p ≤ 512 - C := by omega
  have := Nat.mul_le_mul_right C hp
  have h2 := pC_dec ⟨C, by omega⟩
  dsimp only at h2
  generalize p * C = u1 at *
  generalize (512 - C) * C = u2 at *
  omega
/-! .. and the room -/
theorem sum_le {f g : Nat → Nat} : ∀ l : List Nat, (∀ i ∈ l, f i ≤ g i) → (l.map f).sum ≤ (l.map g).sum := by
  intro l
  induction l with
  | nil => intro _; exact Nat.le_refl _
  | cons x l ih =>
    intro h
    rw [List.map_cons, List.map_cons, List.sum_cons, List.sum_cons]
    have := h x List.mem_cons_self
    have := ih (fun i hi => h i (List.mem_cons_of_mem _ hi))
    omega
theorem kg1_mono {a b : Nat} (h : a ≤ b) : kg1 a ≤ kg1 b := by
  unfold kg1
  split
  · split <;> omega
  · rw [if_neg (by omega)]
    omega
theorem bd_1 : ((List.range 31).map (fun i => kg1 (k_bd i))).sum ≤ 5000 := by decide +kernel
theorem bd_2 : ((List.range 31).map (fun i => kg2 (k_bd i))).sum ≤ 900000 := by decide +kernel
theorem sl_36 : m_sl 36 ≤ 1900000 := by decide +kernel
end
