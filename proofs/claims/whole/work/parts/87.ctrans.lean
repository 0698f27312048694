/-! THE CLASS'S TRANSACTIONS, AS ONE PREDICATE -/
def c_T (t : Nat) : Nat := if t = 0 then 16 else 17 + 3 * t
def c_dn (d : Nat) : Int32 := if d = 0 then -2147483648 else nI d
def c_wc (y : k_CH) : Prop := y.2.2.1 < y.2.2.2.1 ∧ y.2.2.2.1 ≤ 1331000000000 ∧ (¬ 1 < y.2.2.2.1 - y.2.2.1 ∨ y.2.1 = 1) ∧ (y.2.1 = 6 → s_pl y.2.2.2.2.2 = s_stp (m_ck y) y.2.2.1) ∧ (y.2.1 = 6 → y.2.2.1 / 121000000 = 996 → y.2.2.1 = s_cd (-4) 0 (s_no y.2.2.1 2))
abbrev k_CX : Type := k_CH × Nat
def c_mc (CX : List k_CX) : List k_CH := (CX.filter (fun y => !(decide (y.1.2.1 = 7)))).map (fun y => (y.2, y.1.2))
def c_rr (CX : List k_CX) (sp : k_SP) (r : Nat × Nat × Nat) : Prop := sp.2.1 = r.1 ∧ (sp.2.2.1 = r.2.1 ∨ (sp.2.2.1 = 1331000000000 ∧ r.2.1 = 1331000000001)) ∧ (∀ (j : Nat) (y : k_CX), CX[j]? = some y → (j < sp.2.2.2 ↔ y.2 ≤ r.2.2)) ∧ sp.2.2.2 ≤ CX.length
def c_tr (CX : List k_CX) (RS : List k_SP) (x : s_X) (ser w kept : Nat) : Prop :=
  (x.2.1 = c_mc CX ∧ kept = x.2.1.length) ∧ ((CX.map (fun y => y.2)).Pairwise (fun x y => x < y) ∧ ∀ y ∈ CX, y.2 ≤ ser ∧ c_wc y.1) ∧ (RS.length = x.2.2.length ∧ (∀ (i : Nat) (sp : k_SP) (r : Nat × Nat × Nat), RS[i]? = some sp → x.2.2[i]? = some r → c_rr CX sp r) ∧ ∀ r ∈ x.2.2, r.2.2 ≤ ser) ∧ (CX.filter (fun y => decide (y.1.2.1 = 7))).length ≤ w
def c_tb (a : Nat) (h : k_H) (t : Nat) (CX : List k_CX) (x : s_X) (ser w : Nat) : Prop := ∃ (RS : List k_SP) (cap capR kept : Nat),
  h.1 (a + c_T t) = some (k_o 12 [vR (some (a + (c_T t + 1))), vR (some (a + (c_T t + 2))), vI (kB x.1.1), vI (kB x.1.2.1), vI (nI x.1.2.2.1), vI (nI x.1.2.2.2.1), vI (c_dn x.1.2.2.2.2), vI (nI kept)]) ∧
  (r_cs h (a + (c_T t + 1)) cap (CX.map (fun y => y.1)) ∧ r_rs h (a + (c_T t + 2)) capR RS ∧ CX.Pairwise (fun x y => x.1.1 ≠ y.1.1)) ∧ (x.1.1 = true → c_tr CX RS x ser w kept)
def c_TX (a : Nat) (h : k_H) (X : Nat → s_X) (ser w : Nat) : Prop := ∃ CXf : Nat → List k_CX, (∀ t, t < 4 → c_tb a h t (CXf t) (X t) ser w) ∧ (∀ t u, t < 4 → u < 4 → t ≠ u → ∀ y ∈ CXf t, ∀ z ∈ CXf u, y.1.1 ≠ z.1.1) ∧ a + 31 ≤ h.2.1 ∧ k_wf h
theorem c_T_lt {t : Nat} (h : t < 4) : c_T t + 2 < 31 ∧ 16 ≤ c_T t := by unfold c_T; split <;> omega
theorem c_T_ne {t u : Nat} (h : t ≠ u) : c_T t ≠ c_T u ∧ c_T t ≠ c_T u + 1 ∧ c_T t ≠ c_T u + 2 ∧ c_T t + 1 ≠ c_T u + 2 ∧ c_T t + 2 ≠ c_T u + 1 := by unfold c_T; split <;> split <;> omega
theorem tb_fr {a : Nat} {K : List Nat} {A : Nat → Prop} {h h' : k_H} {t : Nat} {CX : List k_CX} {x : s_X} {ser w : Nat} (b : c_tb a h t CX x ser w) (m : k_fr K A h h') (hK : 4 ∉ K ∧ 10 ∉ K ∧ 12 ∉ K) (hA : ∀ q ci fs, h.1 q = some (k_o ci fs) → ci = 4 ∨ ci = 10 → ¬ A q) (hL : ¬ A (a + c_T t) ∧ ¬ A (a + (c_T t + 1)) ∧ ¬ A (a + (c_T t + 2))) : c_tb a h' t CX x ser w := by
  obtain ⟨RS, cap, capR, kept, o, ⟨c1, c2, c3⟩, c4⟩ := b
  refine ⟨RS, cap, capR, kept, m _ _ o hL.1 (fun ci fs e => by cases e; exact hK.2.2), ⟨⟨m _ _ c1.1 hL.2.1 (fun ci fs e => by cases e), fun y hy => ⟨?_, (c1.2.1 y hy).2⟩, c1.2.2⟩, ⟨m _ _ c2.1 hL.2.2 (fun ci fs e => by cases e), fun y hy => ⟨?_, (c2.2.1 y hy).2⟩, c2.2.2⟩, c3⟩, c4⟩
  · have := (c1.2.1 y hy).1
    exact m _ _ this (hA _ _ _ this (by simp)) (fun ci fs e => by cases e; exact hK.1)
  · have := (c2.2.1 y hy).1
    exact m _ _ this (hA _ _ _ this (by simp)) (fun ci fs e => by cases e; exact hK.2.1)
theorem TX_fr {a o : Nat} {K : List Nat} {A : Nat → Prop} {h h' : k_H} {X : Nat → s_X} {ser w : Nat} (b : c_TX a h X ser w) (m : k_mo a K A o h h') (hK : 4 ∉ K ∧ 10 ∉ K ∧ 12 ∉ K) (hA : ∀ q ci fs, h.1 q = some (k_o ci fs) → ci = 4 ∨ ci = 10 → ¬ A q) (hL : ∀ i, 15 < i → i < 31 → ¬ A (a + i)) : c_TX a h' X ser w := by
  obtain ⟨CXf, b1, b2, b3, b4⟩ := b
  exact ⟨CXf, fun t ht => tb_fr (b1 t ht) m.1 hK hA ⟨hL _ (by have := c_T_lt ht; omega) (by have := c_T_lt ht; omega), hL _ (by have := c_T_lt ht; omega) (by have := c_T_lt ht; omega), hL _ (by have := c_T_lt ht; omega) (by have := c_T_lt ht; omega)⟩, b2, Nat.le_trans b3 m.2.2.1, m.2.1 b4⟩
/-- what a transaction sees, by the reference's changes -/
theorem see_mc (c : Nat) : ∀ (CX : List k_CX) (z : Option Int32 × Bool), s_see c (CX.map (fun y => y.1)) z = s_see c (c_mc CX) z := by
  intro CX
  induction CX with
  | nil => exact fun z => rfl
  | cons y t ih =>
    intro z
    by_cases e : y.1.2.1 = 7
    · have e1 : c_mc (y :: t) = c_mc t := by
        unfold c_mc
        rw [List.filter_cons_of_neg (by simp [e])]
      rw [e1, ← ih]
      show s_see c (y.1 :: t.map (fun y => y.1)) z = _
      unfold s_see
      rw [List.foldl_cons, if_neg]
      unfold s_cov s_ord
      rw [e]
      simp
    · have e1 : c_mc (y :: t) = (y.2, y.1.2) :: c_mc t := by
        unfold c_mc
        rw [List.filter_cons_of_pos (by simp [e]), List.map_cons]
      rw [e1]
      show s_see c (y.1 :: t.map (fun y => y.1)) z = s_see c ((y.2, y.1.2) :: c_mc t) z
      have h1 : ∀ w, s_see c (t.map (fun y => y.1)) w = s_see c (c_mc t) w := ih
      unfold s_see at h1 ⊢
      rw [List.foldl_cons, List.foldl_cons, h1]
      rfl
/-- one of the first changes says all -/
theorem own_mc {CX : List k_CX} {n ser : Nat} (hn : ∀ (j : Nat) (y : k_CX), CX[j]? = some y → (j < n ↔ y.2 ≤ ser)) (lo hi : Nat) : s_own ((CX.map (fun y => y.1)).take n) lo hi = s_ownS (c_mc CX) ser lo hi := by
  rw [Bool.eq_iff_iff]
  unfold s_own s_ownS c_mc
  rw [List.any_eq_true, List.any_eq_true]
  constructor
  · rintro ⟨y, hy, hb⟩
    obtain ⟨j, hj⟩ := List.getElem?_of_mem hy
    rw [List.getElem?_take] at hj
    by_cases c : j < n
    · rw [if_pos c, List.getElem?_map] at hj
      cases e : CX[j]? with
      | none => rw [e] at hj; cases hj
      | some w =>
        rw [e] at hj
        cases hj
        refine ⟨(w.2, w.1.2), List.mem_map.mpr ⟨w, List.mem_filter.mpr ⟨List.mem_of_getElem? e, ?_⟩, rfl⟩, ?_⟩
        · simp only [Bool.and_eq_true] at hb
          by_cases e7 : w.1.2.1 = 7
          · have := hb.1.1
            rw [e7] at this
            cases this
          · simp [e7]
        · simp only [Bool.and_eq_true, decide_eq_true_eq] at hb ⊢
          exact ⟨⟨⟨hb.1.1, (hn j w e).mp c⟩, hb.1.2⟩, hb.2⟩
    · rw [if_neg c] at hj; cases hj
  · rintro ⟨y, hy, hb⟩
    obtain ⟨w, hw, rfl⟩ := List.mem_map.mp hy
    obtain ⟨j, hj⟩ := List.getElem?_of_mem (List.mem_filter.mp hw).1
    simp only [Bool.and_eq_true, decide_eq_true_eq] at hb
    refine ⟨w.1, ?_, ?_⟩
    · refine List.mem_of_getElem? (i := j) ?_
      rw [List.getElem?_take, if_pos ((hn j w hj).mpr hb.1.1.2), List.getElem?_map, hj]
      rfl
    · simp only [Bool.and_eq_true, decide_eq_true_eq]
      exact ⟨⟨hb.1.1.1, hb.1.2⟩, hb.2⟩
theorem mc_app (CX : List k_CX) (y : k_CX) (h : ¬ y.1.2.1 = 7) : c_mc (CX ++ [y]) = c_mc CX ++ [(y.2, y.1.2)] := by
  unfold c_mc
  rw [List.filter_append, List.map_append]
  congr 1
  rw [List.filter_cons_of_pos (by simp [h])]
  rfl
