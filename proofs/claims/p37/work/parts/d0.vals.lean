/-! VALUES BEHIND A COMMIT, out of those ahead of it -/
def u_stp (n c : Nat) (MC : List k_CH) (o : Option Int32) : Option Int32 := MC.foldl (fun o y => if y.2.1 = 6 ∧ e_sc y n = c then some y.2.2.2.2.1 else o) o
def u_ord (MC : List k_CH) (U : Nat → Option Int32) (c : Nat) : Option Int32 := (s_see c MC (U c, false)).1
def u_all (n : Nat) (MC : List k_CH) (U : Nat → Option Int32) (c : Nat) : Option Int32 := u_stp n c MC (u_ord MC U c)
def y3s (y : k_CH) : Prop := y.2.2.1 < 1331000000000 ∧ y.2.2.2.1 ≤ 1331000000000 ∧ ((y.2.1 = 1 ∧ 1 < y.2.2.2.1 - y.2.2.1) ∨ y.2.2.2.1 = y.2.2.1 + 1)
theorem see_b {c : Nat} : ∀ (MC : List k_CH) (z : Option Int32) (b b' : Bool), (s_see c MC (z, b)).1 = (s_see c MC (z, b')).1 := by
  intro MC
  induction MC with
  | nil => intro z b b'; rfl
  | cons y MC ih =>
    intro z b b'
    show (s_see c MC (if s_cov y c = true then (s_apO y.2.1 y.2.2.2.2.1 0 z, s_apS y.2.1 b) else (z, b))).1 = (s_see c MC (if s_cov y c = true then (s_apO y.2.1 y.2.2.2.2.1 0 z, s_apS y.2.1 b') else (z, b'))).1
    by_cases h : s_cov y c = true
    · rw [if_pos h, if_pos h]; exact ih _ _ _
    · rw [if_neg h, if_neg h]; exact ih _ _ _
theorem apO_5 {k g s : Int32} {o : Option Int32} (h : ¬ k = 5) : s_apO k g s o = s_apO k g 0 o := by
  unfold s_apO ap_v
  rw [if_neg h, if_neg h]
theorem clr_ne {n lo hi c : Nat} {E : e_S} (h : ¬ (lo ≤ c ∧ c < hi)) (m : Nat) : r_val c m (e_clr n lo hi E).2.1 = r_val c m E.2.1 := by
  have h9 := pus_ls n ((r_flt lo hi (fun c => (r_val c n E.2.1).isSome) E.1).map (fun x => x.1)) E.2.1
  have e : (e_clr n lo hi E).2.1 = r_pus n (((r_flt lo hi (fun c => (r_val c n E.2.1).isSome) E.1).map (fun x => x.1)).map (fun c => (c, none))) E.2.1 := by
    show r_pus n _ E.2.1 = _
    rw [List.map_map]
    rfl
  rw [e, h9.1 c m, if_neg]
  rintro ⟨hm, -⟩
  obtain ⟨x, hx, rfl⟩ := List.mem_map.mp hm
  obtain ⟨-, hx⟩ := List.mem_filter.mp hx
  simp only [Bool.and_eq_true, decide_eq_true_eq] at hx
  exact h hx.1
theorem clr_old {n lo hi c m : Nat} {E : e_S} (h : m < n) : r_val c m (e_clr n lo hi E).2.1 = r_val c m E.2.1 := by
  have h9 := pus_ls n ((r_flt lo hi (fun c => (r_val c n E.2.1).isSome) E.1).map (fun x => x.1)) E.2.1
  have e : (e_clr n lo hi E).2.1 = r_pus n (((r_flt lo hi (fun c => (r_val c n E.2.1).isSome) E.1).map (fun x => x.1)).map (fun c => (c, none))) E.2.1 := by
    show r_pus n _ E.2.1 = _
    rw [List.map_map]
    rfl
  rw [e, h9.1 c m, if_neg]
  rintro ⟨-, hm⟩
  omega
/-- what was in a version stays -/
theorem zE_ext {n : Nat} {E E' : e_S} (z : z_E n E E') {c m : Nat} (h : m < n) : r_val c m E'.2.1 = r_val c m E.2.1 :=
  z (fun F => r_val c m F.2.1 = r_val c m E.2.1) (fun F d o ih => by rw [put_val, if_neg (fun z => by omega)]; exact ih) (fun F lo hi _ _ ih => by rw [clr_old h]; exact ih) rfl
theorem clr_iK {n lo hi : Nat} {E : e_S} (I : i_K E) (h1 : lo < hi) (h2 : hi ≤ 1331000000000) : i_K (e_clr n lo hi E) :=
  zP_iK (zP_clr (n := n) (A := fun _ _ => False) (B := fun c => c < 1331000000000) I h1 (by omega) (fun c a b => by omega)) ⟨fun c v h => h.elim, fun c h => h⟩ I
theorem s_cov_1 {y : k_CH} {c : Nat} (h : y.2.2.2.1 = y.2.2.1 + 1) : s_cov y c = true ↔ s_ord y.2.1 = true ∧ y.2.2.1 = c := by
  unfold s_cov
  simp only [Bool.and_eq_true, decide_eq_true_eq]
  constructor
  · rintro ⟨⟨a, b⟩, d⟩; exact ⟨a, by omega⟩
  · rintro ⟨a, b⟩; exact ⟨⟨a, by omega⟩, by omega⟩
theorem do_val {n c : Nat} : ∀ (MC : List k_CH) (E : e_S), i_K E → (∀ y ∈ MC, y3s y) → (∀ y ∈ MC, s_cov y c = true → ¬ y.2.1 = 5) →
    r_val c n (MC.foldl (e_do n) E).2.1 = (s_see c MC (r_val c n E.2.1, false)).1 := by
  intro MC
  induction MC with
  | nil => intro E _ _ _; rfl
  | cons y MC ih =>
    intro E K h h5
    obtain ⟨h1, h2, h3⟩ := h y List.mem_cons_self
    have hc5 := h5 y List.mem_cons_self
    have step : i_K (e_do n E y) ∧ r_val c n (e_do n E y).2.1 = if s_cov y c = true then s_apO y.2.1 y.2.2.2.2.1 0 (r_val c n E.2.1) else r_val c n E.2.1 := by
      by_cases ho : s_ord y.2.1 = true
      · by_cases hw : 1 < y.2.2.2.1 - y.2.2.1
        · have hk : y.2.1 = 1 := by
            rcases h3 with ⟨g, -⟩ | g
            · exact g
            · omega
          have e : e_do n E y = e_clr n y.2.2.1 y.2.2.2.1 E := by unfold e_do; rw [if_pos ho, if_pos hw]
          rw [e]
          refine ⟨clr_iK K (by omega) (by omega), ?_⟩
          by_cases hr : y.2.2.1 ≤ c ∧ c < y.2.2.2.1
          · rw [clr_none K hr.1 hr.2, if_pos (by unfold s_cov; rw [ho, decide_eq_true hr.1, decide_eq_true hr.2]; rfl), hk]
            rfl
          · rw [clr_ne hr, if_neg]
            unfold s_cov
            simp only [Bool.and_eq_true, decide_eq_true_eq]
            exact fun z => hr ⟨z.1.2, z.2⟩
        · have hh : y.2.2.2.1 = y.2.2.1 + 1 := by
            rcases h3 with ⟨-, g⟩ | g
            · exact absurd g hw
            · exact g
          have e : e_do n E y = e_put n y.2.2.1 (s_apO y.2.1 y.2.2.2.2.1 (nI n) (r_val y.2.2.1 n E.2.1)) E := by unfold e_do; rw [if_pos ho, if_neg hw]
          rw [e]
          refine ⟨iK_put K h1, ?_⟩
          rw [put_val]
          by_cases hc : y.2.2.1 = c
          · have hv := (s_cov_1 (c := c) hh).mpr ⟨ho, hc⟩
            rw [if_pos ⟨hc, Nat.le_refl _⟩, if_pos hv, hc, apO_5 (hc5 hv)]
          · rw [if_neg (fun z => hc z.1), if_neg (fun z => hc ((s_cov_1 hh).mp z).2)]
      · have e : e_do n E y = E := by unfold e_do; rw [if_neg ho]
        rw [e, if_neg]
        · exact ⟨K, rfl⟩
        · unfold s_cov
          simp only [Bool.and_eq_true, decide_eq_true_eq]
          exact fun z => ho z.1.1
    show r_val c n (MC.foldl (e_do n) (e_do n E y)).2.1 = (s_see c MC (if s_cov y c = true then (s_apO y.2.1 y.2.2.2.2.1 0 (r_val c n E.2.1), s_apS y.2.1 false) else (r_val c n E.2.1, false))).1
    rw [ih _ step.1 (fun x hx => h x (List.mem_cons_of_mem _ hx)) (fun x hx => h5 x (List.mem_cons_of_mem _ hx)), step.2]
    by_cases hv : s_cov y c = true
    · rw [if_pos hv, if_pos hv]; exact see_b _ _ _ _
    · rw [if_neg hv, if_neg hv]
theorem do_iK {n : Nat} : ∀ (MC : List k_CH) (E : e_S), i_K E → (∀ y ∈ MC, y3s y) → i_K (MC.foldl (e_do n) E) := by
  intro MC
  induction MC with
  | nil => intro E K _; exact K
  | cons y MC ih =>
    intro E K h
    obtain ⟨h1, h2, h3⟩ := h y List.mem_cons_self
    refine ih _ ?_ (fun x hx => h x (List.mem_cons_of_mem _ hx))
    unfold e_do
    split
    · split
      · rename_i hw; exact clr_iK K (by omega) (by omega)
      · exact iK_put K h1
    · exact K
theorem st_val {n c : Nat} : ∀ (MC : List k_CH) (E : e_S), r_val c n (MC.foldl (e_st n) E).2.1 = u_stp n c MC (r_val c n E.2.1) := by
  intro MC
  induction MC with
  | nil => intro E; rfl
  | cons y MC ih =>
    intro E
    show r_val c n (MC.foldl (e_st n) (e_st n E y)).2.1 = u_stp n c MC (if y.2.1 = 6 ∧ e_sc y n = c then some y.2.2.2.2.1 else r_val c n E.2.1)
    rw [ih]
    congr 1
    unfold e_st
    by_cases h6 : y.2.1 = 6
    · rw [if_pos h6, put_val]
      by_cases hc : e_sc y n = c
      · rw [if_pos ⟨hc, Nat.le_refl _⟩, if_pos ⟨h6, hc⟩]
      · rw [if_neg (fun z => hc z.1), if_neg (fun z => hc z.2)]
    · rw [if_neg h6, if_neg (fun z => h6 z.1)]
theorem all_val {n c : Nat} {MC : List k_CH} {E : e_S} (K : i_K E) (h : ∀ y ∈ MC, y3s y) (h5 : ∀ y ∈ MC, s_cov y c = true → ¬ y.2.1 = 5) :
    r_val c n (e_all n MC E).2.1 = u_all n MC (fun c => r_val c n E.2.1) c := by
  unfold e_all
  rw [st_val, do_val MC E K h h5]
  rfl
/-! .. lists that are made longer -/
theorem stp_app (n c : Nat) (MC M2 : List k_CH) (o : Option Int32) : u_stp n c (MC ++ M2) o = u_stp n c M2 (u_stp n c MC o) := List.foldl_append
theorem stp_no {n c : Nat} : ∀ (MC : List k_CH) (o : Option Int32), (∀ y ∈ MC, y.2.1 = 6 → ¬ e_sc y n = c) → u_stp n c MC o = o := by
  intro MC
  induction MC with
  | nil => intro o _; rfl
  | cons y MC ih =>
    intro o h
    show u_stp n c MC (if y.2.1 = 6 ∧ e_sc y n = c then some y.2.2.2.2.1 else o) = o
    rw [if_neg (fun z => h y List.mem_cons_self z.1 z.2)]
    exact ih o (fun x hx => h x (List.mem_cons_of_mem _ hx))
theorem stp_flt {n c : Nat} {p : k_CH → Bool} : ∀ (MC : List k_CH) (o : Option Int32), (∀ y ∈ MC, p y = false → y.2.1 = 6 → ¬ e_sc y n = c) → u_stp n c (MC.filter p) o = u_stp n c MC o := by
  intro MC
  induction MC with
  | nil => intro o _; rfl
  | cons y MC ih =>
    intro o h
    have h' := fun x hx => h x (List.mem_cons_of_mem y hx)
    cases e : p y with
    | true =>
      rw [List.filter_cons_of_pos e]
      exact ih _ h'
    | false =>
      rw [List.filter_cons_of_neg (by rw [e]; decide)]
      show _ = u_stp n c MC (if y.2.1 = 6 ∧ e_sc y n = c then some y.2.2.2.2.1 else o)
      rw [if_neg (fun z => h y List.mem_cons_self e z.1 z.2)]
      exact ih o h'
/-- a stamp that was made is seen, whatever was there -/
theorem stp_som {n c : Nat} : ∀ (MC : List k_CH) (o o' : Option Int32), (∃ y ∈ MC, y.2.1 = 6 ∧ e_sc y n = c) → u_stp n c MC o = u_stp n c MC o' ∧ (u_stp n c MC o).isSome = true := by
  intro MC
  induction MC with
  | nil => rintro o o' ⟨y, hy, -⟩; cases hy
  | cons y MC ih =>
    rintro o o' ⟨x, hx, h6, hc⟩
    show u_stp n c MC (if y.2.1 = 6 ∧ e_sc y n = c then some y.2.2.2.2.1 else o) = u_stp n c MC (if y.2.1 = 6 ∧ e_sc y n = c then some y.2.2.2.2.1 else o') ∧ (u_stp n c MC (if y.2.1 = 6 ∧ e_sc y n = c then some y.2.2.2.2.1 else o)).isSome = true
    by_cases q : ∃ y ∈ MC, y.2.1 = 6 ∧ e_sc y n = c
    · exact ih _ _ q
    · have hn : ∀ y ∈ MC, y.2.1 = 6 → ¬ e_sc y n = c := fun y hy a b => q ⟨y, hy, a, b⟩
      rcases List.mem_cons.mp hx with e | hx
      · subst e
        rw [if_pos ⟨h6, hc⟩, if_pos ⟨h6, hc⟩, stp_no _ _ hn]
        exact ⟨rfl, rfl⟩
      · exact absurd ⟨x, hx, h6, hc⟩ q
theorem ord_app (MC M2 : List k_CH) (U : Nat → Option Int32) (c : Nat) : u_ord (MC ++ M2) U c = (s_see c M2 (u_ord MC U c, false)).1 := by
  unfold u_ord
  have e : s_see c (MC ++ M2) (U c, false) = s_see c M2 (s_see c MC (U c, false)) := List.foldl_append
  rw [e]
  exact see_b _ _ _ _
theorem ord_1 (MC : List k_CH) (y : k_CH) (U : Nat → Option Int32) (c : Nat) : u_ord (MC ++ [y]) U c = if s_cov y c = true then s_apO y.2.1 y.2.2.2.2.1 0 (u_ord MC U c) else u_ord MC U c := by
  rw [ord_app]
  show (if s_cov y c = true then (s_apO y.2.1 y.2.2.2.2.1 0 (u_ord MC U c), s_apS y.2.1 false) else (u_ord MC U c, false)).1 = _
  split <;> rfl
theorem ord_no {MC : List k_CH} {U : Nat → Option Int32} {c : Nat} (h : ∀ y ∈ MC, ¬ s_cov y c = true) : u_ord MC U c = U c := by
  unfold u_ord
  suffices ∀ (z : Option Int32 × Bool), s_see c MC z = z by rw [this]
  revert h
  induction MC with
  | nil => intro _ z; rfl
  | cons y MC ih =>
    intro h z
    show s_see c MC (if s_cov y c = true then _ else z) = z
    rw [if_neg (h y List.mem_cons_self)]
    exact ih (fun x hx => h x (List.mem_cons_of_mem _ hx)) z
theorem ord_flt {MC : List k_CH} {U : Nat → Option Int32} {c : Nat} {p : k_CH → Bool} (h : ∀ y ∈ MC, p y = false → s_cov y c = false) : u_ord (MC.filter p) U c = u_ord MC U c := by
  unfold u_ord
  rw [see_flt MC _ h]
theorem ord_cg {MC : List k_CH} {U Z : Nat → Option Int32} {c : Nat} (h : U c = Z c) : u_ord MC U c = u_ord MC Z c := by unfold u_ord; rw [h]
