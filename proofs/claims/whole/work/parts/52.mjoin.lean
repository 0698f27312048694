/-! PARTS ARE JOINED; commits open and close -/
section MJ
variable {G : k_G} {l : Launch}
theorem arr_join (ok : k_ok G l) {b : Nat} {s0 : m_S} {h : k_H} {KM : List k_K2} {L : List k_E4} {n : Nat} {Q : k_H → k_R → Prop} {h0 : k_H} :
    ∀ (k : Nat) (pre rest : List p_T) (p : p_T) (r : m_S), rest.length = k → m_st r KM L n → m_pt r (pre ++ p :: rest) → m_fr [49] [35, 36] s0 r → (pre ++ p :: rest).Pairwise (fun x y => x.1 < y.1) →
      (∀ (pre1 r1 : List p_T) (a c : p_T), pre ++ p :: rest = pre1 ++ a :: c :: r1 → pre1.length < pre.length → 4 ≤ p_end (m_V KM n L) r1 - p_lt a.1 (m_V KM n L)) →
      (∀ r2, m_st r2 KM L n → m_pt r2 (pre ++ p_join (m_V KM n L) p rest) → (pre ++ p_join (m_V KM n L) p rest).Pairwise (fun x y => x.1 < y.1) → m_fr [49] [35, 36] s0 r2 → Q (m_hp b r2 h) (.inl none)) →
      ∀ (d i : Nat), pre.length - i = d → i ≤ pre.length → k_X (jX12_arranges G l h0) (m_hp b r h) 122 [(0, vR (some b)), (1, vI (nI i))] [] Q := by
  intro k
  induction k with
  | zero =>
    intro pre rest p r hr hk hp hf hs hok K d
    have hre : rest = [] := List.length_eq_zero_iff.mp hr
    subst hre
    induction d with
    | zero =>
      intro i hd hi
      have h4096 := hp.2.1
      simp at h4096
      refine mX12_arranges_122 (fun _ => bX12_arranges_216 (K r hk hp hs hf)) (fun z => absurd (by rw [hp.1, nI_1]; exact nI_le (by simp; omega) (by omega)) z)
    | succ d ihd =>
      intro i hd hi
      have h4096 := hp.2.1
      simp at h4096
      have hsp : ∃ (a c : p_T) (r1 : List p_T), pre ++ [p] = (pre ++ [p]).take i ++ a :: c :: r1 := by
        have h1 : i < (pre ++ [p]).length := by simp; omega
        have h2 : i + 1 < (pre ++ [p]).length := by simp; omega
        refine ⟨(pre ++ [p])[i], (pre ++ [p])[i + 1], (pre ++ [p]).drop (i + 1 + 1), ?_⟩
        rw [← List.drop_eq_getElem_cons h2, ← List.drop_eq_getElem_cons h1, List.take_append_drop]
      obtain ⟨a, c, r1, hsp⟩ := hsp
      have hlt : ((pre ++ [p]).take i).length = i := by rw [List.length_take]; simp; omega
      have hq := hok _ _ _ _ hsp (by rw [hlt]; omega)
      generalize (pre ++ [p]).take i = T at hsp hlt
      rw [hsp] at hp hs
      have hs2 := List.pairwise_append.mp hs
      have hs3 := List.pairwise_cons.mp hs2.2.1
      have hs4 := List.pairwise_cons.mp hs3.2
      have hac := hs3.1 c List.mem_cons_self
      have m1 := p_lt_mono (Nat.le_of_lt hac) (m_V KM n L)
      have m2 : p_lt c.1 (m_V KM n L) ≤ p_end (m_V KM n L) r1 := by
        cases r1 with
        | nil => exact p_lt_le _ _
        | cons y t => exact p_lt_mono (Nat.le_of_lt (hs4.1 y List.mem_cons_self)) _
      have hl9 : (T ++ a :: c :: r1).length = i + (r1.length + 2) := by simp; omega
      refine mX12_arranges_122 (fun z => absurd z (by rw [hp.1, nI_1]; exact nI_ge (by omega) (by have := hp.2.1; omega))) (fun _ => ?_)
      refine mX12_arranges_132 (by rw [← hlt]; exact c_X12_manyOf ok hk hp (fun q hq9 => by cases hq9; exact hac)) ?_
      rintro _ _ ⟨hr9, rfl⟩
      rw [hr9]
      have ea : T ++ a :: c :: r1 = (T ++ [a]) ++ c :: r1 := by simp
      have ela : (T ++ [a]).length = i + 1 := by simp; omega
      rw [ea] at hp
      refine mX12_arranges_137 (by rw [nI_1, ← ela]; exact c_X12_manyOf ok hk hp (fun q hq9 => hs4.1 q (List.mem_of_mem_head? hq9))) ?_
      rintro _ _ ⟨hr8, rfl⟩
      rw [hr8]
      have hsum : p_end (m_V KM n L) (c :: r1) - p_lt a.1 (m_V KM n L) + (p_end (m_V KM n L) r1 - p_lt c.1 (m_V KM n L)) = p_end (m_V KM n L) r1 - p_lt a.1 (m_V KM n L) := by
        show p_lt c.1 (m_V KM n L) - _ + _ = _
        omega
      have hVl : p_end (m_V KM n L) r1 ≤ 12000 := by
        have := p_end_le (m_V KM n L) r1
        have := hk.1.2.1
        have := List.length_filter_le (fun x : k_K2 => (r_val x.1 n L).isSome) KM
        have : (m_V KM n L).length ≤ KM.length := by unfold m_V; rw [List.length_map]; omega
        omega
      refine bX12_arranges_144 (fun _ => bX12_arranges_210 ?_) (fun z => absurd (by rw [nI_add, hsum]; exact nI_le (a := 4) hq (by omega)) z)
      rw [nI_1]
      exact ihd (i + 1) (by omega) (by omega)
  | succ k ih =>
    intro pre rest p r hr hk hp hf hs hok K d
    obtain ⟨q, rest, rfl⟩ : ∃ q t, rest = q :: t := by
      cases rest with
      | nil => simp at hr
      | cons q t => exact ⟨q, t, rfl⟩
    have hVl : ∀ r1, p_end (m_V KM n L) r1 ≤ 12000 := fun r1 => by
      have := p_end_le (m_V KM n L) r1
      have := hk.1.2.1
      have := List.length_filter_le (fun x : k_K2 => (r_val x.1 n L).isSome) KM
      have : (m_V KM n L).length ≤ KM.length := by unfold m_V; rw [List.length_map]; omega
      omega
    -- one pair is looked at
    have pair : ∀ (T r1 : List p_T) (a c : p_T) (Q2 : k_H → k_R → Prop), pre ++ p :: q :: rest = T ++ a :: c :: r1 →
        (4 ≤ p_end (m_V KM n L) r1 - p_lt a.1 (m_V KM n L) → k_X (jX12_arranges G l h0) (m_hp b r h) 122 [(0, vR (some b)), (1, vI (nI (T.length + 1)))] [] Q2) →
        (¬ 4 ≤ p_end (m_V KM n L) r1 - p_lt a.1 (m_V KM n L) → k_X (jX12_arranges G l h0) (m_hp b r h) 149 [(0, vR (some b)), (1, vI (nI T.length))] [] Q2) →
        k_X (jX12_arranges G l h0) (m_hp b r h) 122 [(0, vR (some b)), (1, vI (nI T.length))] [] Q2 := by
      intro T r1 a c Q2 hsp K1 K2
      have hp1 := hp
      have hs1 := hs
      rw [hsp] at hp1 hs1
      have hs2 := List.pairwise_append.mp hs1
      have hs3 := List.pairwise_cons.mp hs2.2.1
      have hs4 := List.pairwise_cons.mp hs3.2
      have hac := hs3.1 c List.mem_cons_self
      have m1 := p_lt_mono (Nat.le_of_lt hac) (m_V KM n L)
      have m2 : p_lt c.1 (m_V KM n L) ≤ p_end (m_V KM n L) r1 := by
        cases r1 with
        | nil => exact p_lt_le _ _
        | cons y t => exact p_lt_mono (Nat.le_of_lt (hs4.1 y List.mem_cons_self)) _
      have hl9 : (T ++ a :: c :: r1).length = T.length + (r1.length + 2) := by simp
      refine mX12_arranges_122 (fun z => absurd z (by rw [hp1.1, nI_1]; exact nI_ge (by omega) (by have := hp1.2.1; omega))) (fun _ => ?_)
      refine mX12_arranges_132 (c_X12_manyOf ok hk hp1 (fun q hq9 => by cases hq9; exact hac)) ?_
      rintro _ _ ⟨hr9, rfl⟩
      rw [hr9]
      have ea : T ++ a :: c :: r1 = (T ++ [a]) ++ c :: r1 := by simp
      have ela : (T ++ [a]).length = T.length + 1 := by simp
      rw [ea] at hp1
      refine mX12_arranges_137 (by rw [nI_1, ← ela]; exact c_X12_manyOf ok hk hp1 (fun q hq9 => hs4.1 q (List.mem_of_mem_head? hq9))) ?_
      rintro _ _ ⟨hr8, rfl⟩
      rw [hr8]
      have hsum : p_end (m_V KM n L) (c :: r1) - p_lt a.1 (m_V KM n L) + (p_end (m_V KM n L) r1 - p_lt c.1 (m_V KM n L)) = p_end (m_V KM n L) r1 - p_lt a.1 (m_V KM n L) := by
        show p_lt c.1 (m_V KM n L) - _ + _ = _
        omega
      have hb := hVl r1
      refine bX12_arranges_144 (fun z => bX12_arranges_210 ?_) (fun z => K2 (fun y => z (by rw [nI_add, hsum]; exact nI_le (a := 4) y (by omega))))
      rw [nI_add, hsum] at z
      rw [nI_1]
      exact K1 ((nI_leI (a := 4) (by omega) (by omega)).mp z)
    induction d with
    | zero =>
      intro i hd hi
      have ei : i = pre.length := by omega
      subst ei
      refine pair pre rest p q Q rfl (fun h4 => ?_) (fun h4 => ?_)
      · have eap : ∀ X : List p_T, (pre ++ [p]) ++ X = pre ++ p :: X := fun X => by simp
        have el1 : (pre ++ [p]).length = pre.length + 1 := by simp
        have hj : p_join (m_V KM n L) p (q :: rest) = p :: p_join (m_V KM n L) q rest := if_neg (by omega)
        rw [hj] at K
        rw [← el1]
        refine ih (pre ++ [p]) rest q r (by simpa using hr) hk (by rw [eap]; exact hp) hf (by rw [eap]; exact hs) (fun pre1 r1 a c hsp hlt => ?_) (fun r2 k1 k2 k3 k4 => K r2 k1 (by rw [eap] at k2; exact k2) (by rw [eap] at k3; exact k3) k4) 0 _ (Nat.sub_self _) (Nat.le_refl _)
        rw [eap] at hsp
        by_cases e : pre1.length < pre.length
        · exact hok pre1 r1 a c hsp e
        · have el : pre1.length = pre.length := by omega
          obtain ⟨e1, e2⟩ := List.append_inj hsp el.symm
          cases e2
          exact h4
      · have hj : p_join (m_V KM n L) p (q :: rest) = p_join (m_V KM n L) p rest := if_pos (by omega)
        rw [hj] at K
        refine arr_del (s0 := s0) hk hp hf (fun r2 k1 k2 k3 => ?_)
        have hs9 : (pre ++ p :: rest).Pairwise (fun x y => x.1 < y.1) := by
          refine List.Pairwise.sublist ?_ hs
          exact List.Sublist.append_left (List.Sublist.cons₂ _ (List.sublist_cons_self _ _)) _
        refine ih pre rest p r2 (by simpa using hr) k1 k2 k3 hs9 (fun pre1 r1 a c hsp hlt => ?_) K pre.length 0 rfl (Nat.zero_le _)
        -- the same pair, ahead of the deletion
        have h1 : pre1.length + 1 ≤ pre.length := hlt
        have hpre : pre = pre1 ++ (pre.drop pre1.length) := by
          have h2 : pre1 <+: (pre ++ p :: rest) := ⟨a :: c :: r1, hsp.symm⟩
          have h3 : pre1 <+: pre := List.prefix_of_prefix_length_le h2 (List.prefix_append _ _) (by omega)
          obtain ⟨t, ht⟩ := h3
          rw [← ht, List.drop_left]
        generalize hX : pre.drop pre1.length = X at hpre
        have hXl : X.length = pre.length - pre1.length := by rw [← hX, List.length_drop]
        rw [hpre, List.append_assoc] at hsp
        have hsp2 := List.append_cancel_left hsp
        cases X with
        | nil => simp at hXl; omega
        | cons a' X =>
          have ha : a' = a := by simpa using (List.cons.inj hsp2).1
          subst ha
          have hsp3 : X ++ p :: rest = c :: r1 := (List.cons.inj hsp2).2
          cases X with
          | nil =>
            cases hsp3
            have := hok pre1 (q :: rest) a' p (by rw [hpre, List.append_assoc]; rfl) hlt
            have hs2 := List.pairwise_append.mp hs
            have hs3 := List.pairwise_cons.mp hs2.2.1
            have hs4 := List.pairwise_cons.mp hs3.2
            have m2 : p_lt q.1 (m_V KM n L) ≤ p_end (m_V KM n L) rest := by
              cases rest with
              | nil => exact p_lt_le _ _
              | cons y t => exact p_lt_mono (Nat.le_of_lt (hs4.1 y List.mem_cons_self)) _
            have e9 : p_end (m_V KM n L) (q :: rest) = p_lt q.1 (m_V KM n L) := rfl
            omega
          | cons c' X =>
            have hc : c' = c := (List.cons.inj hsp3).1
            subst hc
            have hsp4 : X ++ p :: rest = r1 := (List.cons.inj hsp3).2
            have := hok pre1 (X ++ p :: q :: rest) a' c' (by rw [hpre, List.append_assoc]; rfl) hlt
            rw [← hsp4]
            cases X with
            | nil => exact this
            | cons z X => exact this
    | succ d ihd =>
      intro i hd hi
      have hsp : ∃ (a c : p_T) (r1 : List p_T), pre ++ p :: q :: rest = (pre ++ p :: q :: rest).take i ++ a :: c :: r1 := by
        have h1 : i < (pre ++ p :: q :: rest).length := by simp; omega
        have h2 : i + 1 < (pre ++ p :: q :: rest).length := by simp; omega
        refine ⟨(pre ++ p :: q :: rest)[i], (pre ++ p :: q :: rest)[i + 1], (pre ++ p :: q :: rest).drop (i + 1 + 1), ?_⟩
        rw [← List.drop_eq_getElem_cons h2, ← List.drop_eq_getElem_cons h1, List.take_append_drop]
      obtain ⟨a, c, r1, hsp⟩ := hsp
      have hlt : ((pre ++ p :: q :: rest).take i).length = i := by rw [List.length_take]; simp; omega
      have hq := hok _ _ _ _ hsp (by rw [hlt]; omega)
      have := pair _ _ _ _ Q hsp (fun _ => by rw [hlt]; exact ihd (i + 1) (by omega) (by omega)) (fun z => absurd hq z)
      rw [hlt] at this
      exact this
theorem p_split_ne (V : List Nat) : ∀ (k : Nat) (pre todo : List p_T), pre ≠ [] ∨ todo ≠ [] → p_split V k pre todo ≠ [] := by
  intro k
  induction k with
  | zero =>
    intro pre todo h
    show pre ++ todo ≠ []
    rcases h with h | h <;> simp [h]
  | succ k ih =>
    intro pre todo h
    cases todo with
    | nil =>
      show pre ≠ []
      rcases h with h | h
      · exact h
      · exact absurd rfl h
    | cons p rest =>
      show (if _ then _ else _) ≠ []
      split
      · exact ih _ _ (Or.inl (by simp))
      · exact ih _ _ (Or.inl (by simp))
theorem c_X12_arranges (ok : k_ok G l) {b : Nat} {s : m_S} {h : k_H} {KM : List k_K2} {L : List k_E4} {n : Nat} {PT : List p_T} (hk : m_st s KM L n) (hp : m_pt s PT) (hs : PT.Pairwise (fun x y => x.1 < y.1)) (hne : PT ≠ []) (hsz : PT.length + (m_V KM n L).length / 4 ≤ 4096) :
    k_ctv (tX12_arranges G l) [vR (some b)] (m_hp b s h) (m_pv b h (fun s1 => m_st s1 KM L n ∧ m_pt s1 (p_arr (m_V KM n L) PT) ∧ (p_arr (m_V KM n L) PT).Pairwise (fun x y => x.1 < y.1) ∧ m_fr [49] [35, 36] s s1)) := by
  refine k_ctv_of (eX12_arranges ok.2 (bX12_arranges_0 ?_))
  refine arr_split ok (s0 := s) (PT.length + (m_V KM n L).length) [] PT s hk hp (m_fr_refl _ _ _) hs ?_ ?_ (fun r2 k1 k2 k3 k4 => ?_)
  · cases PT with
    | nil => exact Nat.zero_le _
    | cons p r =>
      show r.length + 1 + _ ≤ r.length + 1 + _
      omega
  · cases PT with
    | nil => exact absurd rfl hne
    | cons p r =>
      show 0 + (r.length + 1 + _ / 4) ≤ 4096
      simp only [List.length_cons] at hsz
      have : ((m_V KM n L).length - p_lt p.1 (m_V KM n L)) / 4 ≤ (m_V KM n L).length / 4 := Nat.div_le_div_right (Nat.sub_le _ _)
      omega
  · have hne2 := p_split_ne (m_V KM n L) (PT.length + (m_V KM n L).length) [] PT (Or.inr hne)
    unfold p_arr
    generalize p_split (m_V KM n L) (PT.length + (m_V KM n L).length) [] PT = T at k2 k3 hne2
    cases T with
    | nil => exact absurd rfl hne2
    | cons p rest =>
      refine bX12_arranges_120 ?_
      exact arr_join ok (s0 := s) rest.length [] rest p r2 rfl k1 k2 k4 k3 (fun pre1 r1 a c _ hlt => absurd hlt (Nat.not_lt_zero _)) (fun r3 a1 a2 a3 a4 => ⟨rfl, r3, rfl, a1, a2, a3, a4⟩) 0 0 rfl (Nat.le_refl _)
end MJ
