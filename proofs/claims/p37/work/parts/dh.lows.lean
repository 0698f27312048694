/-! CODES OF KEYS: no parts begin below them -/
def J_z (M : s_M) : Prop := (∀ x ∈ (g_E M).2.1, 121000000 ≤ x.2.1) ∧ ∀ p ∈ (g_PT M).tail, 121000000 ≤ p.1
theorem split_tl (V : List Nat) : ∀ (k : Nat) (pre todo : List p_T) (P : p_T → Prop), (∀ v ∈ V, ∀ s, P (v, s)) → (∀ p ∈ (pre ++ todo).tail, P p) → (∀ (p : p_T) (r : List p_T), todo = p :: r → 8 < p_end V r - p_lt p.1 V → V.getD (p_lt p.1 V + 4) 0 ∈ V) → V.Pairwise (fun x y => x < y) → ∀ p ∈ (p_split V k pre todo).tail, P p := by
  intro k
  induction k with
  | zero => intro pre todo P _ h _ _; exact h
  | succ k ih =>
    intro pre todo P hV h _ hs
    cases todo with
    | nil =>
      rw [List.append_nil] at h
      exact h
    | cons p rest =>
      show ∀ q ∈ (if 8 < p_end V rest - p_lt p.1 V then p_split V k (pre ++ [p]) ((V.getD (p_lt p.1 V + 4) 0, p_idle (pre ++ p :: rest)) :: rest) else p_split V k (pre ++ [p]) rest).tail, P q
      by_cases c : 8 < p_end V rest - p_lt p.1 V
      · rw [if_pos c]
        refine ih _ _ P hV (fun q hq => ?_) (fun p' r' _ c' => (p_new hs c').2.1) hs
        have hp : (pre ++ [p] ++ (V.getD (p_lt p.1 V + 4) 0, p_idle (pre ++ p :: rest)) :: rest).tail = (pre ++ [p]).tail ++ (V.getD (p_lt p.1 V + 4) 0, p_idle (pre ++ p :: rest)) :: rest := by
          cases pre <;> rfl
        rw [hp] at hq
        have ho : (pre ++ p :: rest).tail = (pre ++ [p]).tail ++ rest := by cases pre <;> simp
        rw [ho] at h
        rcases List.mem_append.mp hq with g | g
        · exact h q (List.mem_append.mpr (Or.inl g))
        · rcases List.mem_cons.mp g with g | g
          · rw [g]; exact hV _ (p_new hs c).2.1 _
          · exact h q (List.mem_append.mpr (Or.inr g))
      · rw [if_neg c]
        refine ih _ _ P hV (fun q hq => ?_) (fun p' r' _ c' => (p_new hs c').2.1) hs
        rw [List.append_assoc] at hq
        exact h q hq
theorem join_tl (V : List Nat) (r : List p_T) (p : p_T) : ∀ q ∈ (p_join V p r).tail, q ∈ r := by
  obtain ⟨t, e, ht⟩ := p_join_hd V r p
  rw [e]
  exact ht
theorem arr_tl {V : List Nat} (hs : V.Pairwise (fun x y => x < y)) {PT : List p_T} {P : p_T → Prop} (hV : ∀ v ∈ V, ∀ s, P (v, s)) (h : ∀ p ∈ PT.tail, P p) : ∀ p ∈ (p_arr V PT).tail, P p := by
  have s := split_tl V (PT.length + V.length) [] PT P hV h (fun p r _ c => (p_new hs c).2.1) hs
  unfold p_arr
  generalize p_split V (PT.length + V.length) [] PT = S at s
  cases S with
  | nil => intro p hp; cases hp
  | cons p r => exact fun q hq => s q (join_tl V r p q hq)
theorem Jz_k {M M' : s_M} (K' : i_K (g_E M')) (h : J_k M M') (hL : ∀ x ∈ (g_E M').2.1, 121000000 ≤ x.2.1) (J : J_z M) : J_z M' := by
  refine ⟨hL, ?_⟩
  rcases h with ⟨k, h1, h2, h3, h4⟩ | ⟨E', z, h1, h2, h3, h4⟩ | ⟨h1, h2, h3, c, h4⟩
  · rw [h4]; exact J.2
  · rw [h4]
    rw [h2] at K' hL
    refine arr_tl (V_srt K'.1) (fun v hv s => ?_) J.2
    obtain ⟨w, hw⟩ := Option.isSome_iff_exists.mp ((V_mem K'.2.1).mp hv)
    obtain ⟨x, hx, e, -⟩ := val_mem hw
    show 121000000 ≤ v
    rw [← e]; exact hL x hx
  · rw [h3]; exact J.2
/-! .. the log behind each call -/
section LZ
variable {M : s_M}
def lz (L : List k_E4) : Prop := ∀ x ∈ L, 121000000 ≤ x.2.1
theorem lz_put {n c : Nat} {o : Option Int32} {E : e_S} (h : lz E.2.1) (hc : 121000000 ≤ c) : lz (e_put n c o E).2.1 := fun x hx => by
  rcases List.mem_cons.mp hx with g | g
  · rw [g]; exact hc
  · exact h x g
theorem lz_clr {n lo hi : Nat} {E : e_S} (h : lz E.2.1) : lz (e_clr n lo hi E).2.1 := fun x hx => by
  rcases clr_log x hx with g | ⟨-, -, -, g⟩
  · exact h x g
  · obtain ⟨w, hw⟩ := Option.isSome_iff_exists.mp g
    obtain ⟨z, hz, e, -⟩ := val_mem hw
    rw [← e]; exact h z hz
theorem lz_cd {a b c : Int32} (h : 1 ≤ s_dg a) : 121000000 ≤ s_cd a b c := by unfold s_cd; omega
theorem lz_all {n : Nat} {MC : List k_CH} {E : e_S} (hn : n < 9000) (h : lz E.2.1) (hy : ∀ y ∈ MC, y3 y) : lz (e_all n MC E).2.1 := fun x hx => by
  rcases st_log MC _ x hx with g | ⟨-, y, g1, g2, g3⟩
  · rcases do_log MC E (fun y q => y3_s (hy y q)) x g with g | ⟨-, y, g1, g2⟩
    · exact h x g
    · have := y3_lo (hy y g1)
      have := (cov_of g2).2.1
      omega
  · have h1 := y3_lo (hy y g1)
    have h2 := (hy y g1).1
    rw [← g3]
    have := with_ly (lo := y.2.2.1) (k := s_stp (m_ck y) y.2.2.1) h2 hn
    unfold e_sc
    split at this <;> omega
theorem lz_take {w : Int32} {c : Nat} (h : lz (g_E M).2.1) : lz (wk_tE M w c).2.1 := lz_put h (lz_cd (by decide))
theorem lz_finish {c : Nat} (h : lz (g_E M).2.1) : lz (wk_fE M c).2.1 := lz_put (lz_put h (lz_cd (by decide))) (lz_cd (by decide))
theorem lz_off {x : Int32} (h : lz (g_E M).2.1) : lz (of_E M x).2.1 := lz_put (lz_clr h) (lz_cd (by decide))
theorem lz_remove {d : Nat} (h : lz (g_E M).2.1) : lz (rm_E M d).2.1 := by
  unfold rm_E
  have key : ∀ (X : List s_D) (F : e_S), lz F.2.1 → lz (X.foldl (fun E x => e_clr (g_n M + 1) (rm_lo x) (rm_hi x + 1) E) F).2.1 := by
    intro X
    induction X with
    | nil => intro F h; exact h
    | cons x X ih => intro F h; exact ih _ (lz_clr h)
  exact key _ _ h
theorem lz_back {v : Nat} (h : lz (g_E M).2.1) : lz (bb_E M v).2.1 := by
  unfold bb_E
  have hk : ∀ y ∈ bb_list M v, 121000000 ≤ y.1 := fun y hy => by
    obtain ⟨-, hy⟩ := List.mem_filter.mp hy
    rcases dif_or hy with q | q
    · obtain ⟨w, hw⟩ := Option.isSome_iff_exists.mp q
      obtain ⟨z, hz, e, -⟩ := val_mem hw
      rw [← e]; exact h z hz
    · obtain ⟨w, hw⟩ := Option.isSome_iff_exists.mp q
      obtain ⟨z, hz, e, -⟩ := val_mem hw
      rw [← e]; exact h z hz
  have key : ∀ (X : List k_K2) (F : e_S), (∀ y ∈ X, 121000000 ≤ y.1) → lz F.2.1 → lz (X.foldl (fun E y => e_put (g_n M + 1) y.1 (r_val y.1 v (g_E M).2.1) E) F).2.1 := by
    intro X
    induction X with
    | nil => intro F _ h; exact h
    | cons x X ih => intro F hx h; exact ih _ (fun y hy => hx y (List.mem_cons_of_mem _ hy)) (lz_put h (hx x List.mem_cons_self))
  exact key _ _ hk h
theorem lz_build {x most : Int32} (h : lz (g_E M).2.1) : lz (bl_E M x most).2.1 := by
  unfold bl_E
  refine lz_put ?_ (lz_cd (by decide))
  unfold bl_run
  have one : ∀ (n : Nat) (k : Nat) (f : Int32) (E : e_S), lz E.2.1 → lz (bl_one n x k f E).2.1 := fun n k f E h => by
    unfold bl_one
    split
    · exact lz_put h (lz_cd (by decide))
    · split
      · exact lz_put h (lz_cd (by decide))
      · exact lz_put h (lz_cd (by decide))
  have key : ∀ (X : List Nat) (A : b_S), lz A.1.2.1 → lz (X.foldl (bl_step (g_n M + 1) x (bl_st M x) most) A).1.2.1 := by
    intro X
    induction X with
    | nil => intro A h; exact h
    | cons k X ih =>
      intro A h
      refine ih _ ?_
      unfold bl_step
      split
      · split
        · exact h
        · exact one _ _ _ _ h
      · exact h
  exact key _ _ h
end LZ
