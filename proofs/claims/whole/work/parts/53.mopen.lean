/-! COMMITS OPEN AND CLOSE -/
def m_fire (n m : Nat) (L0 L1 : List k_E4) (w : Nat × Int32) : Nat × Int32 := (w.1, if w.2 = -2147483648 ∧ ¬ r_val w.1 m L1 = r_val w.1 n L0 then nI m else w.2)
theorem o_told_ne {o q : Option Int32} (h : kB o.isSome = kB q.isSome) (ht : o_told o = o_told q) : o = q := by
  cases o <;> cases q
  · rfl
  · cases h
  · cases h
  · exact congrArg some ht
section MO
variable {G : k_G} {l : Launch}
theorem c_X12_opens (ok : k_ok G l) {b : Nat} {s : m_S} {h : k_H} {KM : List k_K2} {L : List k_E4} {n : Nat} {WT : List (Nat × Int32)} (hk : m_st s KM L n) (hw : m_wt s WT) (hn : n + 1 < 2 ^ 20) :
    k_ctv (tX12_opens G l) [vR (some b)] (m_hp b s h) (m_pv b h (fun s1 => m_st s1 KM L (n + 1) ∧ m_hw s1 WT n L ∧ m_fr [0] [32, 33] s s1)) := by
  obtain ⟨w1, w2, w3⟩ := id hw
  refine k_ctv_of (eX12_opens ok.2 (bX12_opens_0 ?_))
  have key : ∀ (d i : Nat) (r : m_S), WT.length - i = d → i ≤ WT.length → m_fr [] [32, 33] s r → (∀ (j : Nat) (w : Nat × Int32), j < i → WT[j]? = some w → r.2.1 32 j = kB (r_val w.1 n L).isSome ∧ r.2.1 33 j = o_told (r_val w.1 n L)) →
      k_X (jX12_opens G l (m_hp b s h)) (m_hp b r h) 2 [(0, vR (some b)), (1, vI (nI i))] [] (q_v (m_pv b h (fun s1 => m_st s1 KM L (n + 1) ∧ m_hw s1 WT n L ∧ m_fr [0] [32, 33] s s1))) := by
    intro d
    induction d with
    | zero =>
      intro i r hd hi hf hr
      refine mX12_opens_2 (fun _ => mX12_opens_48 (bX12_opens_58 ⟨rfl, _, rfl, ?_, ?_, ?_⟩)) (fun z => absurd (by rw [hf.1 42 (by simp), w1]; exact nI_le (by omega) (by omega)) z)
      · obtain ⟨k1, k2, k3, k4, k5, k6, k7, k8⟩ := m_st_fr hk hf (by simp) (fun i h1 h2 => by simp; omega)
        refine ⟨m_ks_fr k1 rfl rfl rfl, k2, k3, m_log_keep (s := r) (fun _ _ => ⟨rfl, rfl, rfl, rfl⟩) k4, ?_, hn, fun x hx => by have := k7 x hx; omega, k8⟩
        show r.1 0 + 1 = _
        rw [k5, nI_1]
      · exact fun j w hj => hr j w (by have := (List.getElem?_eq_some_iff.mp hj).1; omega) hj
      · refine ⟨fun k hk9 => ?_, fun i hi9 => hf.2 i hi9⟩
        show (if k = 0 then _ else r.1 k) = _
        rw [if_neg (by simpa using hk9)]
        exact hf.1 k (by simp)
    | succ d ih =>
      intro i r hd hi hf hr
      have hlt : i < WT.length := by omega
      obtain ⟨w, hwi⟩ : ∃ w, WT[i]? = some w := ⟨_, List.getElem?_eq_getElem hlt⟩
      obtain ⟨g1, g2, g3⟩ := w3 _ _ hwi
      have hkr := m_st_fr hk hf (by simp) (fun i h1 h2 => by simp; omega)
      have y : vp_in (nI i) 20 := m_ii (by omega) (by omega)
      have e30 : r.2.2 30 i = lN w.1 := by rw [(hf.2 30 (by simp)).2, g1]
      refine mX12_opens_2 (fun z => absurd z (by rw [hf.1 42 (by simp), w1]; exact nI_ge hlt (by omega))) (fun _ => ?_)
      refine mX12_opens_10 y (by rw [nI_clamp (by omega), e30]; exact c_X12_hasNow ok hkr (by omega)) ?_
      rintro _ _ ⟨hr9, rfl⟩
      rw [hr9]
      refine mX12_opens_25 (i9 := 32) rfl (by decide) (by decide) y (kB_bl _) ?_
      rw [nI_clamp (by omega)]
      have hf2 : m_fr [] [32, 33] s (m_sa r 32 (va_up (r.2.1 32) i (kB (r_val w.1 n L).isSome))) := ⟨fun k hk9 => hf.1 k hk9, fun j hj => by
        have hj2 := hj
        simp only [List.mem_cons, List.not_mem_nil, or_false, not_or] at hj2
        show (if j = 32 then _ else r.2.1 j) = _ ∧ r.2.2 j = _
        rw [if_neg hj2.1]
        exact hf.2 j hj⟩
      have hkr2 := m_st_fr hk hf2 (by simp) (fun i h1 h2 => by simp; omega)
      have e30b : (m_sa r 32 (va_up (r.2.1 32) i (kB (r_val w.1 n L).isSome))).2.2 30 i = lN w.1 := e30
      have h32 : (m_sa r 32 (va_up (r.2.1 32) i (kB (r_val w.1 n L).isSome))).2.1 32 = va_up (r.2.1 32) i (kB (r_val w.1 n L).isSome) := rfl
      have h33 : (m_sa r 32 (va_up (r.2.1 32) i (kB (r_val w.1 n L).isSome))).2.1 33 = r.2.1 33 := rfl
      generalize m_sa r 32 (va_up (r.2.1 32) i (kB (r_val w.1 n L).isSome)) = r2 at hf2 hkr2 e30b h32 h33
      refine mX12_opens_26 y (by rw [nI_clamp (by omega), e30b]; exact c_X12_valueNow ok hkr2 (by omega)) ?_
      rintro _ _ ⟨hr8, rfl⟩
      rw [hr8]
      refine mX12_opens_41 (i9 := 33) rfl (by decide) (by decide) y (bX12_opens_42 ?_)
      rw [nI_clamp (by omega), nI_1]
      refine ih (i + 1) _ (by omega) (by omega) ⟨fun k hk9 => hf2.1 k hk9, fun j hj => ?_⟩ (fun j w' hj hw' => ?_)
      · have hj2 := hj
        simp only [List.mem_cons, List.not_mem_nil, or_false, not_or] at hj2
        show (if j = 33 then _ else r2.2.1 j) = _ ∧ r2.2.2 j = _
        rw [if_neg hj2.2]
        exact hf2.2 j hj
      · show r2.2.1 32 j = _ ∧ va_up (r2.2.1 33) i (o_told (r_val w.1 n L)) j = _
        rw [h32, h33]
        by_cases e : j = i
        · subst e
          rw [hwi] at hw'
          cases hw'
          rw [va_up_self, va_up_self]
          exact ⟨rfl, rfl⟩
        · rw [va_up_ne _ _ e, va_up_ne _ _ e]
          exact hr j w' (by omega) hw'
  exact key _ 0 s rfl (Nat.zero_le _) (m_fr_refl _ _ _) (fun j w hj => absurd hj (Nat.not_lt_zero _))
theorem c_X12_closes (ok : k_ok G l) {b : Nat} {s : m_S} {h : k_H} {KM : List k_K2} {L L0 : List k_E4} {n n0 : Nat} {WT : List (Nat × Int32)} {PT : List p_T} (hk : m_st s KM L n) (hw : m_wt s WT) (hh : m_hw s WT n0 L0)
    (hp : m_pt s PT) (hs : PT.Pairwise (fun x y => x.1 < y.1)) (hne : PT ≠ []) (hsz : PT.length + (m_V KM n L).length / 4 ≤ 4096) :
    k_ctv (tX12_closes G l) [vR (some b)] (m_hp b s h) (m_pv b h (fun s1 => m_st s1 KM L n ∧ m_wt s1 (WT.map (m_fire n0 n L0 L)) ∧ m_pt s1 (p_arr (m_V KM n L) PT) ∧ (p_arr (m_V KM n L) PT).Pairwise (fun x y => x.1 < y.1) ∧ m_fr [49] [31, 35, 36] s s1)) := by
  obtain ⟨w1, w2, w3⟩ := id hw
  have e0 := hk.2.2.2.2.1
  refine k_ctv_of (eX12_closes ok.2 (bX12_closes_0 ?_))
  have key : ∀ (d i : Nat) (r : m_S), WT.length - i = d → i ≤ WT.length → m_fr [] [31] s r → (∀ (j : Nat) (w : Nat × Int32), WT[j]? = some w → r.2.1 31 j = if j < i then (m_fire n0 n L0 L w).2 else w.2) →
      k_X (jX12_closes G l (m_hp b s h)) (m_hp b r h) 2 [(0, vR (some b)), (1, vI (nI i))] [] (q_v (m_pv b h (fun s1 => m_st s1 KM L n ∧ m_wt s1 (WT.map (m_fire n0 n L0 L)) ∧ m_pt s1 (p_arr (m_V KM n L) PT) ∧ (p_arr (m_V KM n L) PT).Pairwise (fun x y => x.1 < y.1) ∧ m_fr [49] [31, 35, 36] s s1))) := by
    intro d
    induction d with
    | zero =>
      intro i r hd hi hf hr
      have hkr := m_st_fr hk hf (by simp) (fun i h1 h2 => by simp; omega)
      refine mX12_closes_2 (fun _ => mX12_closes_94 (c_X12_arranges ok hkr (m_pt_fr hp hf (by simp) (by simp)) hs hne hsz) ?_) (fun z => absurd (by rw [hf.1 42 (by simp), w1]; exact nI_le (by omega) (by omega)) z)
      rintro r2 ⟨a1, a2, a3, a4⟩
      refine bX12_closes_98 ⟨rfl, _, rfl, a1, ?_, a2, a3, ?_⟩
      · refine m_wt_fr ?_ a4 (by simp) (by simp)
        refine ⟨by rw [hf.1 42 (by simp), w1, List.length_map], by rw [List.length_map]; exact w2, fun j w hj => ?_⟩
        rw [List.getElem?_map] at hj
        obtain ⟨w', hw', rfl⟩ := Option.map_eq_some_iff.mp hj
        have hlt := (List.getElem?_eq_some_iff.mp hw').1
        rw [(hf.2 30 (by simp)).2, hr j w' hw', if_pos (by omega)]
        exact ⟨(w3 _ _ hw').1, rfl, (w3 _ _ hw').2.2⟩
      · exact m_fr_trans (m_fr_mono hf (by simp) (by simp)) (m_fr_mono a4 (by simp) (by simp))
    | succ d ih =>
      intro i r hd hi hf hr
      have hlt : i < WT.length := by omega
      obtain ⟨w, hwi⟩ : ∃ w, WT[i]? = some w := ⟨_, List.getElem?_eq_getElem hlt⟩
      obtain ⟨g1, g2, g3⟩ := w3 _ _ hwi
      have hkr := m_st_fr hk hf (by simp) (fun i h1 h2 => by simp; omega)
      have y : vp_in (nI i) 20 := m_ii (by omega) (by omega)
      have e30 : r.2.2 30 i = lN w.1 := by rw [(hf.2 30 (by simp)).2, g1]
      have e32 : r.2.1 32 i = kB (r_val w.1 n0 L0).isSome := by rw [(hf.2 32 (by simp)).1, (hh _ _ hwi).1]
      have e33 : r.2.1 33 i = o_told (r_val w.1 n0 L0) := by rw [(hf.2 33 (by simp)).1, (hh _ _ hwi).2]
      have e31 : r.2.1 31 i = w.2 := by rw [hr i w hwi, if_neg (by omega)]
      have er0 : r.1 0 = nI n := by rw [hf.1 0 (by simp), e0]
      -- what is written, and on
      have wr : ∀ x : Int32, x = (m_fire n0 n L0 L w).2 → k_X (jX12_closes G l (m_hp b s h)) (m_hp b r h) 87 [(0, vR (some b)), (1, vI (nI i))] [vI x, vI (nI i), vR (some (b + 31))] (q_v (m_pv b h (fun s1 => m_st s1 KM L n ∧ m_wt s1 (WT.map (m_fire n0 n L0 L)) ∧ m_pt s1 (p_arr (m_V KM n L) PT) ∧ (p_arr (m_V KM n L) PT).Pairwise (fun x y => x.1 < y.1) ∧ m_fr [49] [31, 35, 36] s s1))) := by
        intro x hx
        refine mX12_closes_87 (i9 := 31) rfl (by decide) (by decide) y (bX12_closes_88 ?_)
        rw [nI_clamp (by omega), nI_1]
        refine ih (i + 1) _ (by omega) (by omega) ⟨fun k hk9 => hf.1 k hk9, fun j hj => ?_⟩ (fun j w' hw' => ?_)
        · show (if j = 31 then _ else r.2.1 j) = _ ∧ r.2.2 j = _
          rw [if_neg (by simpa using hj)]
          exact hf.2 j hj
        · show va_up (r.2.1 31) i x j = _
          by_cases e : j = i
          · subst e
            rw [hwi] at hw'
            cases hw'
            rw [va_up_self, if_pos (by omega), hx]
          · rw [va_up_ne _ _ e, hr j w' hw']
            by_cases c1 : j < i
            · rw [if_pos c1, if_pos (by omega)]
            · rw [if_neg c1, if_neg (by omega)]
      have changed : ¬ r_val w.1 n L = r_val w.1 n0 L0 → k_X (jX12_closes G l (m_hp b s h)) (m_hp b r h) 48 [(0, vR (some b)), (1, vI (nI i))] [] (q_v (m_pv b h (fun s1 => m_st s1 KM L n ∧ m_wt s1 (WT.map (m_fire n0 n L0 L)) ∧ m_pt s1 (p_arr (m_V KM n L) PT) ∧ (p_arr (m_V KM n L) PT).Pairwise (fun x y => x.1 < y.1) ∧ m_fr [49] [31, 35, 36] s s1))) := by
        intro hne9
        refine bX12_closes_48 (mX12_closes_53 (fun z => absurd z (by decide)) (fun _ => ?_))
        refine mX12_closes_63 y (fun c1 => ?_) (fun c1 => ?_)
        · rw [nI_clamp (by omega), e31] at c1
          refine mX12_closes_81 y (wr _ ?_)
          rw [nI_clamp (by omega), e31]
          exact (if_neg (fun z => c1 z.1)).symm
        · rw [nI_clamp (by omega), e31] at c1
          refine mX12_closes_74 (wr _ ?_)
          rw [er0]
          exact (if_pos ⟨c1, hne9⟩).symm
      refine mX12_closes_2 (fun z => absurd z (by rw [hf.1 42 (by simp), w1]; exact nI_ge hlt (by omega))) (fun _ => ?_)
      refine mX12_closes_10 y (by rw [nI_clamp (by omega), e30]; exact c_X12_hasNow ok hkr (by omega)) ?_
      rintro _ _ ⟨hr9, rfl⟩
      rw [hr9]
      refine mX12_closes_20 y (fun c1 => changed (fun z => ?_)) (fun c1 => ?_)
      · rw [nI_clamp (by omega), e32, z] at c1
        exact c1 rfl
      · rw [nI_clamp (by omega), e32] at c1
        refine mX12_closes_29 y (by rw [nI_clamp (by omega), e30]; exact c_X12_valueNow ok hkr (by omega)) ?_
        rintro _ _ ⟨hr8, rfl⟩
        rw [hr8]
        refine mX12_closes_39 y (fun c2 => ?_) (fun c2 => changed (fun z => ?_))
        · rw [nI_clamp (by omega), e33] at c2
          have heq := o_told_ne c1 c2
          refine bX12_closes_52 (mX12_closes_53 (fun _ => ?_) (fun z => absurd rfl z))
          refine mX12_closes_81 y (wr _ ?_)
          rw [nI_clamp (by omega), e31]
          exact (if_neg (fun z => z.2 heq)).symm
        · rw [nI_clamp (by omega), e33, z] at c2
          exact c2 rfl
  exact key _ 0 s rfl (Nat.zero_le _) (m_fr_refl _ _ _) (fun j w hj => by rw [if_neg (by omega)]; exact (w3 _ _ hj).2.1)
end MO
