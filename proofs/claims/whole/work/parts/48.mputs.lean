/-! THE REFERENCE NAMES A KEY, AND PUTS AN ENTRY -/
def m_fr (A B : List Nat) (s s1 : m_S) : Prop := (∀ k, k ∉ A → s1.1 k = s.1 k) ∧ (∀ i, i ∉ B → s1.2.1 i = s.2.1 i ∧ s1.2.2 i = s.2.2 i)
theorem m_fr_refl (A B : List Nat) (s : m_S) : m_fr A B s s := ⟨fun _ _ => rfl, fun _ _ => ⟨rfl, rfl⟩⟩
theorem m_fr_trans {A B : List Nat} {s s1 s2 : m_S} (h1 : m_fr A B s s1) (h2 : m_fr A B s1 s2) : m_fr A B s s2 :=
  ⟨fun k hk => (h2.1 k hk).trans (h1.1 k hk), fun i hi => ⟨(h2.2 i hi).1.trans (h1.2 i hi).1, (h2.2 i hi).2.trans (h1.2 i hi).2⟩⟩
theorem m_fr_mono {A B A' B' : List Nat} {s s1 : m_S} (h : m_fr A B s s1) (hA : ∀ x ∈ A, x ∈ A') (hB : ∀ x ∈ B, x ∈ B') : m_fr A' B' s s1 :=
  ⟨fun k hk => h.1 k (fun z => hk (hA k z)), fun i hi => h.2 i (fun z => hi (hB i z))⟩
theorem nI_m1 {k : Nat} (h : 0 < k) : nI k + (-1) = nI (k - 1) := by
  have := nI_sub (a := k) (b := 1) h
  rw [← this, Int32.sub_eq_add_neg]
  rfl
def m_ins (c : Nat) (KM : List k_K2) : List k_K2 := if (r_at c KM).isSome = true then KM else KM.insertIdx (r_pl c KM) (c, 0)
theorem m_ins_len (c : Nat) (KM : List k_K2) : (m_ins c KM).length ≤ KM.length + 1 := by
  unfold m_ins
  split
  · omega
  · rw [List.length_insertIdx]; split <;> omega
theorem m_ins_srt {c : Nat} {KM : List k_K2} (s : KM.Pairwise (fun x y => x.1 < y.1)) : (m_ins c KM).Pairwise (fun x y => x.1 < y.1) := by
  unfold m_ins
  split
  · exact s
  · rename_i hn
    have hle := r_pl_le c KM
    rw [List.pairwise_iff_getElem]
    intro i j hi hj hij
    have ei := List.getElem?_eq_getElem hi
    have ej := List.getElem?_eq_getElem hj
    generalize (KM.insertIdx (r_pl c KM) (c, 0))[i] = x at ei
    generalize (KM.insertIdx (r_pl c KM) (c, 0))[j] = y at ej
    rw [List.getElem?_insertIdx] at ei ej
    by_cases i1 : i < r_pl c KM
    · rw [if_pos i1] at ei
      have hx := r_pl_lt i1 ei
      by_cases j1 : j < r_pl c KM
      · rw [if_pos j1] at ej
        exact r_srt s hij ei ej
      · rw [if_neg j1] at ej
        by_cases j2 : j = r_pl c KM
        · rw [if_pos j2, if_pos (by omega)] at ej
          cases ej
          exact hx
        · rw [if_neg j2] at ej
          exact r_srt s (by omega) ei ej
    · rw [if_neg i1] at ei
      rw [if_neg (by omega), if_neg (by omega)] at ej
      by_cases i2 : i = r_pl c KM
      · rw [if_pos i2, if_pos (by omega)] at ei
        cases ei
        have h1 := r_pl_ge (c := c) s (by omega) ej
        by_cases e : y.1 = c
        · exfalso
          have hy := List.mem_of_getElem? ej
          have h2 := r_at_mem (c := c) (a := y.2) s (by rw [← e]; exact hy)
          rw [h2] at hn
          exact hn rfl
        · show c < y.1
          omega
      · rw [if_neg i2] at ei
        exact r_srt s (by omega) ei ej
theorem m_ins_at {c : Nat} {KM : List k_K2} : ∃ a, (m_ins c KM)[r_pl c KM]? = some (c, a) := by
  have hle := r_pl_le c KM
  unfold m_ins
  split
  · rename_i h
    cases e : r_at c KM with
    | none => rw [e] at h; cases h
    | some a => exact ⟨a, r_at_get e⟩
  · refine ⟨0, ?_⟩
    rw [List.getElem?_insertIdx, if_neg (by omega), if_pos rfl, if_pos hle]
theorem m_ins_mem {c : Nat} {KM : List k_K2} {x : k_K2} (h : x ∈ KM) : x ∈ m_ins c KM := by
  unfold m_ins
  split
  · exact h
  · rw [List.mem_insertIdx (r_pl_le c KM)]
    exact Or.inr h
theorem m_ins_of {c : Nat} {KM : List k_K2} {x : k_K2} (h : x ∈ m_ins c KM) : x.1 = c ∨ x ∈ KM := by
  unfold m_ins at h
  split at h
  · exact Or.inr h
  · rw [List.mem_insertIdx (r_pl_le c KM)] at h
    rcases h with rfl | h
    · exact Or.inl rfl
    · exact Or.inr h
theorem m_hd_none {c : Nat} {KM : List k_K2} {L : List k_E4} (s : KM.Pairwise (fun x y => x.1 < y.1)) (hin : r_in KM L) (h : r_at c KM = none) : m_hd c L = -1 := by
  unfold m_hd r_fst
  cases e : L.find? (fun x => x.2.1 == c) with
  | none => rfl
  | some x =>
    have h1 := List.find?_some e
    obtain ⟨a, ha⟩ := hin x (List.mem_of_find?_eq_some e)
    simp only [beq_iff_eq] at h1
    rw [h1] at ha
    rw [r_at_mem s ha] at h
    cases h
section MN
variable {G : k_G} {l : Launch}
theorem c_X12_name (ok : k_ok G l) {b : Nat} {s : m_S} {h : k_H} {KM : List k_K2} {L : List k_E4} {c : Nat} (hk : m_ks s KM L) (hin : r_in KM L) (hc : c < 1331000000000) (hK : (m_ins c KM).length ≤ 12000) : k_cti (tX12_name G l) [vR (some b), vJ (lN c)] (m_hp b s h) (m_p b h (fun s1 v => v = nI (r_pl c KM) ∧ m_ks s1 (m_ins c KM) L ∧ m_fr [2] [1, 2] s s1)) := by
  refine k_cti_of (eX12_name ok.2 (mX12_name_0 (c_X12_placeOf ok hk (by omega)) ?_))
  rintro _ _ ⟨hr, rfl⟩
  rw [hr]
  refine mX12_name_5 (c_X12_isNamed ok hk (by omega)) ?_
  rintro _ _ ⟨hr, rfl⟩
  rw [hr]
  have hle := r_pl_le c KM
  cases e : r_at c KM with
  | some a =>
    refine bX12_name_12 (fun _ => bX12_name_89 ⟨_, rfl, _, rfl, rfl, ?_, m_fr_refl _ _ _⟩) (fun z => absurd z (kB_n0.mpr rfl))
    unfold m_ins
    rw [e]
    exact hk
  | none =>
    have hhd := m_hd_none hk.2.2.2 hin e
    have hK1 : KM.length < 12000 := by
      have el : (m_ins c KM).length = KM.length + 1 := by
        unfold m_ins
        rw [e, if_neg (by decide), List.length_insertIdx, if_pos hle]
      omega
    obtain ⟨e1, e2, e3, e4⟩ := id hk
    refine bX12_name_12 (fun z => absurd rfl z) (fun _ => mX12_name_15 ?_)
    rw [e1]
    have key : ∀ (d k : Nat) (r : m_S), k - r_pl c KM = d → r_pl c KM ≤ k → k ≤ KM.length → m_fr [] [1, 2] s r →
        (∀ q, r.2.2 1 q = if k < q ∧ q ≤ KM.length then s.2.2 1 (q - 1) else s.2.2 1 q) → (∀ q, r.2.1 2 q = if k < q ∧ q ≤ KM.length then s.2.1 2 (q - 1) else s.2.1 2 q) →
        (∀ q, r.2.1 1 q = s.2.1 1 q) → (∀ q, r.2.2 2 q = s.2.2 2 q) →
        k_X (jX12_name G l (m_hp b s h)) (m_hp b r h) 21 [(0, vR (some b)), (1, vJ (lN c)), (3, vI (nI (r_pl c KM))), (4, vI (nI k))] [] (q_i (m_p b h (fun s1 v => v = nI (r_pl c KM) ∧ m_ks s1 (m_ins c KM) L ∧ m_fr [2] [1, 2] s s1))) := by
      intro d
      induction d with
      | zero =>
        intro k r hd hpk hkl hf h1 h2 h3 h4
        have ek : k = r_pl c KM := by omega
        refine bX12_name_21 (fun _ => ?_) (fun z => absurd (nI_le (by omega) (by omega)) z)
        refine mX12_name_65 (m_ii (by omega) (by omega)) (mX12_name_72 (m_ii (by omega) (by omega)) (mX12_name_79 (bX12_name_89 ⟨_, rfl, _, rfl, rfl, ?_, ?_⟩)))
        · have el : (m_ins c KM).length = KM.length + 1 := by
            unfold m_ins
            rw [e, if_neg (by decide), List.length_insertIdx, if_pos hle]
          refine ⟨?_, by omega, fun i x hx => ?_, m_ins_srt e4⟩
          · show r.1 2 + 1 = _
            rw [hf.1 2 (by simp), e1, el, nI_1]
          · show va_up (r.2.2 1) (nI (r_pl c KM)).toNatClampNeg (lN c) i = lN x.1 ∧ va_up (r.2.1 2) (nI (r_pl c KM)).toNatClampNeg (-1) i = m_hd x.1 L ∧ x.1 < 1331000000000
            rw [nI_clamp (by omega)]
            unfold m_ins at hx
            rw [e, if_neg (by decide), List.getElem?_insertIdx] at hx
            by_cases i1 : i < r_pl c KM
            · rw [if_pos i1] at hx
              obtain ⟨x1, x2, x3⟩ := e3 _ _ hx
              rw [va_up_ne _ _ (by omega), va_up_ne _ _ (by omega), h1, h2, if_neg (by omega), if_neg (by omega)]
              exact ⟨x1, x2, x3⟩
            · rw [if_neg i1] at hx
              by_cases i2 : i = r_pl c KM
              · rw [if_pos i2, if_pos (by omega)] at hx
                cases hx
                rw [i2, va_up_self, va_up_self]
                exact ⟨rfl, hhd.symm, hc⟩
              · rw [if_neg i2] at hx
                obtain ⟨x1, x2, x3⟩ := e3 _ _ hx
                have hlt := (List.getElem?_eq_some_iff.mp hx).1
                rw [va_up_ne _ _ (by omega), va_up_ne _ _ (by omega), h1, h2, if_pos (by omega), if_pos (by omega)]
                exact ⟨x1, x2, x3⟩
        · refine ⟨fun q hq => ?_, fun i hi => ?_⟩
          · show (if q = 2 then _ else r.1 q) = _
            rw [if_neg (by simpa using hq)]
            exact hf.1 q (by simp)
          · show (if i = 2 then _ else r.2.1 i) = _ ∧ (if i = 1 then _ else r.2.2 i) = _
            simp only [List.mem_cons, List.not_mem_nil, or_false, not_or] at hi
            rw [if_neg hi.2, if_neg hi.1]
            exact hf.2 i (by simp [hi.1, hi.2])
      | succ d ih =>
        intro k r hd hpk hkl hf h1 h2 h3 h4
        refine bX12_name_21 (fun z => absurd z (nI_ge (by omega) (by omega))) (fun _ => ?_)
        have ek : nI k - 1 = nI (k - 1) := nI_sub (b := 1) (by omega)
        refine mX12_name_27 (by rw [ek]; exact m_ii (by omega) (by omega)) (m_ii (by omega) (by omega)) ?_
        refine mX12_name_43 (by rw [ek]; exact m_ii (by omega) (by omega)) (m_ii (by omega) (by omega)) (bX12_name_59 ?_)
        rw [ek, nI_clamp (by omega), nI_clamp (by omega), nI_m1 (by omega)]
        refine ih (k - 1) _ (by omega) (by omega) (by omega) ?_ (fun q => ?_) (fun q => ?_) (fun q => ?_) (fun q => ?_)
        · refine ⟨fun q hq => hf.1 q hq, fun i hi => ?_⟩
          show (if i = 2 then _ else r.2.1 i) = _ ∧ (if i = 1 then _ else r.2.2 i) = _
          simp only [List.mem_cons, List.not_mem_nil, or_false, not_or] at hi
          rw [if_neg hi.2, if_neg hi.1]
          exact hf.2 i (by simp [hi.1, hi.2])
        · show va_up (r.2.2 1) k (r.2.2 1 (k - 1)) q = _
          by_cases eq : q = k
          · rw [eq, va_up_self, h1, if_neg (by omega), if_pos (by omega)]
          · rw [va_up_ne _ _ eq, h1]
            by_cases c1 : k < q ∧ q ≤ KM.length
            · rw [if_pos c1, if_pos (by omega)]
            · rw [if_neg c1, if_neg (by omega)]
        · show va_up (r.2.1 2) k (r.2.1 2 (k - 1)) q = _
          by_cases eq : q = k
          · rw [eq, va_up_self, h2, if_neg (by omega), if_pos (by omega)]
          · rw [va_up_ne _ _ eq, h2]
            by_cases c1 : k < q ∧ q ≤ KM.length
            · rw [if_pos c1, if_pos (by omega)]
            · rw [if_neg c1, if_neg (by omega)]
        · exact h3 q
        · exact h4 q
    exact key _ KM.length s rfl hle (Nat.le_refl _) (m_fr_refl _ _ _) (fun q => by rw [if_neg (by omega)]) (fun q => by rw [if_neg (by omega)]) (fun _ => rfl) (fun _ => rfl)
end MN
def m_ptT (s : m_S) (hs vl pl : Int32) : m_S := m_si (m_sa (m_sa (m_sa (m_sa (m_sa s 3 (va_up (s.2.1 3) (s.1 5).toNatClampNeg (s.1 0))) 5 (va_up (s.2.1 5) (s.1 5).toNatClampNeg hs)) 4 (va_up (s.2.1 4) (s.1 5).toNatClampNeg vl)) 6 (va_up (s.2.1 6) (s.1 5).toNatClampNeg (s.2.1 2 pl.toNatClampNeg))) 2 (va_up (s.2.1 2) pl.toNatClampNeg (s.1 5))) 5 (s.1 5 + 1)
theorem m_log_keep {s s1 : m_S} : ∀ {L : List k_E4}, (∀ i, i < L.length → s1.2.1 3 i = s.2.1 3 i ∧ s1.2.1 5 i = s.2.1 5 i ∧ s1.2.1 4 i = s.2.1 4 i ∧ s1.2.1 6 i = s.2.1 6 i) → m_log s L → m_log s1 L := by
  intro L
  induction L with
  | nil => exact fun _ _ => trivial
  | cons x t ih =>
    intro h k
    obtain ⟨a1, a2, a3, a4⟩ := h t.length (by simp)
    obtain ⟨⟨q1, q2, q3, q4, q5⟩, q6⟩ := k
    exact ⟨⟨q1, a1.trans q2, a2.trans q3, a3.trans q4, a4.trans q5⟩, ih (fun i hi => h i (by simp; omega)) q6⟩
theorem m_put_st {s : m_S} {KM : List k_K2} {L : List k_E4} {n c : Nat} {o : Option Int32} (hks : m_ks s (m_ins c KM) L) (h5 : s.1 5 = nI L.length) (hlen : L.length < 420000) (hl : m_log s L) (h0 : s.1 0 = nI n) (hn : n < 2 ^ 20) (hv : ∀ x ∈ L, x.2.2.1 ≤ n) (hin : r_in KM L) :
    m_st (m_ptT s (kB o.isSome) (o.getD 0) (nI (r_pl c KM))) (m_ins c KM) ((L.length, c, n, o) :: L) n := by
  obtain ⟨k1, k2, k3, k4⟩ := hks
  obtain ⟨a, ha⟩ := m_ins_at (c := c) (KM := KM)
  have hpl := (List.getElem?_eq_some_iff.mp ha).1
  have ec : (nI L.length).toNatClampNeg = L.length := nI_clamp (by omega)
  have ep : (nI (r_pl c KM)).toNatClampNeg = r_pl c KM := nI_clamp (by omega)
  refine ⟨⟨k1, k2, fun i x hx => ?_, k4⟩, ?_, by simp; omega, ⟨⟨rfl, ?_, ?_, ?_, ?_⟩, m_log_keep (fun i hi => ?_) hl⟩, h0, hn, fun x hx => ?_, fun x hx => ?_⟩
  · obtain ⟨x1, x2, x3⟩ := k3 _ _ hx
    refine ⟨x1, ?_, x3⟩
    show va_up (s.2.1 2) (nI (r_pl c KM)).toNatClampNeg (s.1 5) i = m_hd x.1 ((L.length, c, n, o) :: L)
    rw [ep, h5]
    by_cases e : i = r_pl c KM
    · rw [e, ha] at hx
      cases hx
      rw [e, va_up_self]
      unfold m_hd
      rw [r_fst_eq (c := c) (x := (L.length, c, n, o)) rfl]
    · rw [va_up_ne _ _ e, x2]
      have hne : ¬ c = x.1 := fun z => by
        rcases Nat.lt_or_gt_of_ne e with q | q
        · have := r_srt k4 q hx ha
          simp only at this
          omega
        · have := r_srt k4 q ha hx
          simp only at this
          omega
      unfold m_hd
      rw [r_fst_ne (x := (L.length, c, n, o)) hne]
  · show s.1 5 + 1 = _
    rw [h5, nI_1, List.length_cons]
  · show va_up (s.2.1 3) (s.1 5).toNatClampNeg (s.1 0) L.length = nI n
    rw [h5, ec, va_up_self, h0]
  · show va_up (s.2.1 5) (s.1 5).toNatClampNeg (kB o.isSome) L.length = _
    rw [h5, ec, va_up_self]
  · show va_up (s.2.1 4) (s.1 5).toNatClampNeg (o.getD 0) L.length = _
    rw [h5, ec, va_up_self]
  · show va_up (s.2.1 6) (s.1 5).toNatClampNeg (s.2.1 2 (nI (r_pl c KM)).toNatClampNeg) L.length = m_hd c L
    rw [h5, ec, va_up_self, ep, (k3 _ _ ha).2.1]
  · show va_up (s.2.1 3) (s.1 5).toNatClampNeg (s.1 0) i = _ ∧ va_up (s.2.1 5) (s.1 5).toNatClampNeg (kB o.isSome) i = _ ∧ va_up (s.2.1 4) (s.1 5).toNatClampNeg (o.getD 0) i = _ ∧ va_up (s.2.1 6) (s.1 5).toNatClampNeg _ i = _
    rw [h5, ec, va_up_ne _ _ (by omega), va_up_ne _ _ (by omega), va_up_ne _ _ (by omega), va_up_ne _ _ (by omega)]
    exact ⟨rfl, rfl, rfl, rfl⟩
  · rcases List.mem_cons.mp hx with rfl | hx
    · exact Nat.le_refl _
    · exact hv x hx
  · rcases List.mem_cons.mp hx with rfl | hx
    · exact ⟨a, List.mem_of_getElem? ha⟩
    · obtain ⟨a2, h2⟩ := hin x hx
      exact ⟨a2, m_ins_mem h2⟩
section MP2
variable {G : k_G} {l : Launch}
theorem c_X12_puts (ok : k_ok G l) {b : Nat} {s : m_S} {h : k_H} {KM : List k_K2} {L : List k_E4} {c n : Nat} {o : Option Int32} (hk : m_st s KM L n) (hc : c < 1331000000000) (hK : (m_ins c KM).length ≤ 12000) (hL : L.length < 420000) :
    k_ctv (tX12_puts G l) [vR (some b), vJ (lN c), vI (kB o.isSome), vI (o.getD 0)] (m_hp b s h) (m_pv b h (fun s1 => m_st s1 (m_ins c KM) ((L.length, c, n, o) :: L) n ∧ m_fr [2, 5] [1, 2, 3, 4, 5, 6] s s1)) := by
  obtain ⟨k1, k2, k3, k4, k5, k6, k7, k8⟩ := hk
  refine k_ctv_of (eX12_puts ok.2 (mX12_puts_0 (c_X12_name ok k1 k8 hc hK) ?_))
  rintro s1 _ ⟨rfl, hks, hf⟩
  have hpl : r_pl c KM < 12000 := by
    obtain ⟨a, ha⟩ := m_ins_at (c := c) (KM := KM)
    have := (List.getElem?_eq_some_iff.mp ha).1
    omega
  have e5 : s1.1 5 = nI L.length := by rw [hf.1 5 (by simp), k2]
  have y5 : vp_in (s1.1 5) 420000 := by rw [e5]; exact m_ii hL (by omega)
  have yp : vp_in (nI (r_pl c KM)) 12000 := m_ii hpl (by omega)
  refine mX12_puts_5 y5 (mX12_puts_20 y5 (kB_bl _) (mX12_puts_30 y5 (mX12_puts_41 yp y5 (mX12_puts_57 yp (mX12_puts_68 (bX12_puts_78 ⟨rfl, _, rfl, ?_⟩))))))
  show m_st (m_ptT s1 (kB o.isSome) (o.getD 0) (nI (r_pl c KM))) _ _ _ ∧ m_fr _ _ _ (m_ptT s1 (kB o.isSome) (o.getD 0) (nI (r_pl c KM)))
  refine ⟨m_put_st hks e5 hL (m_log_keep (fun i hi => ?_) k4) (by rw [hf.1 0 (by simp), k5]) k6 k7 k8, fun k hk => ?_, fun i hi => ?_⟩
  · rw [(hf.2 3 (by simp)).1, (hf.2 5 (by simp)).1, (hf.2 4 (by simp)).1, (hf.2 6 (by simp)).1]
    exact ⟨rfl, rfl, rfl, rfl⟩
  · simp only [List.mem_cons, List.not_mem_nil, or_false, not_or] at hk
    show (if k = 5 then _ else s1.1 k) = _
    rw [if_neg hk.2]
    exact hf.1 k (by simp [hk.1])
  · simp only [List.mem_cons, List.not_mem_nil, or_false, not_or] at hi
    obtain ⟨i1, i2, i3, i4, i5, i6⟩ := hi
    show (if i = 2 then _ else if i = 6 then _ else if i = 4 then _ else if i = 5 then _ else if i = 3 then _ else s1.2.1 i) = _ ∧ s1.2.2 i = _
    rw [if_neg i2, if_neg i6, if_neg i4, if_neg i5, if_neg i3]
    exact hf.2 i (by simp [i1, i2])
end MP2
