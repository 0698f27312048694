/-! THE REFERENCE ARRANGES ITS PARTS -/
theorem p_ins_app (p q : p_T) (rest : List p_T) : ∀ pre : List p_T, (pre ++ p :: rest).insertIdx (pre.length + 1) q = pre ++ p :: q :: rest := by
  intro pre
  induction pre with
  | nil => rfl
  | cons x t ih =>
    show x :: (t ++ p :: rest).insertIdx (t.length + 1) q = x :: (t ++ p :: q :: rest)
    rw [ih]
theorem p_era_app (p q : p_T) (rest : List p_T) : ∀ pre : List p_T, (pre ++ p :: q :: rest).eraseIdx (pre.length + 1) = pre ++ p :: rest := by
  intro pre
  induction pre with
  | nil => rfl
  | cons x t ih =>
    show x :: (t ++ p :: q :: rest).eraseIdx (t.length + 1) = x :: (t ++ p :: rest)
    rw [ih]
theorem p_end_le (V : List Nat) (r : List p_T) : p_end V r ≤ V.length := by
  cases r with
  | nil => exact Nat.le_refl _
  | cons q t => exact p_lt_le _ _
def p_ms (V : List Nat) : List p_T → Nat
  | [] => 0
  | p :: r => r.length + 1 + (V.length - p_lt p.1 V)
def p_sz (V : List Nat) : List p_T → Nat
  | [] => 0
  | p :: r => r.length + 1 + (V.length - p_lt p.1 V) / 4
section MA
variable {G : k_G} {l : Launch}
theorem arr_ins {b : Nat} {s0 r : m_S} {h h0 : k_H} {KM : List k_K2} {L : List k_E4} {n : Nat} {pre rest : List p_T} {p q : p_T} {Q : k_H → k_R → Prop} (hk : m_st r KM L n) (hp : m_pt r (pre ++ p :: rest)) (hf : m_fr [49] [35, 36] s0 r) (hq : q.1 < 1331000000000) (hsz : (pre ++ p :: rest).length < 4096)
    (K : ∀ r2, m_st r2 KM L n → m_pt r2 (pre ++ p :: q :: rest) → m_fr [49] [35, 36] s0 r2 → k_X (jX12_arranges G l h0) (m_hp b r2 h) 2 [(0, vR (some b)), (1, vI (nI pre.length))] [] Q) :
    k_X (jX12_arranges G l h0) (m_hp b r h) 37 [(0, vR (some b)), (1, vI (nI pre.length)), (2, vI q.2), (3, vJ (lN q.1)), (5, vI (nI (pre ++ p :: rest).length))] [] Q := by
  obtain ⟨p1, p2, p3⟩ := id hp
  have hN : (pre ++ p :: rest).length = pre.length + (rest.length + 1) := by simp
  generalize hT : pre ++ p :: rest = T at hp p1 p2 p3 hN hsz
  have key : ∀ (d k : Nat) (r1 : m_S), k - (pre.length + 1) = d → pre.length + 1 ≤ k → k ≤ T.length → m_fr [] [35, 36] r r1 →
      (∀ i, r1.2.2 35 i = if k < i ∧ i ≤ T.length then r.2.2 35 (i - 1) else r.2.2 35 i) → (∀ i, r1.2.1 36 i = if k < i ∧ i ≤ T.length then r.2.1 36 (i - 1) else r.2.1 36 i) →
      k_X (jX12_arranges G l h0) (m_hp b r1 h) 37 [(0, vR (some b)), (1, vI (nI pre.length)), (2, vI q.2), (3, vJ (lN q.1)), (5, vI (nI k))] [] Q := by
    intro d
    induction d with
    | zero =>
      intro k r1 hd hk1 hk2 hf1 h1 h2
      have y : vp_in (nI pre.length + 1) 4096 := by rw [nI_1]; exact m_ii (by omega) (by omega)
      refine bX12_arranges_37 (fun _ => ?_) (fun z => absurd (by rw [nI_1]; exact nI_le (by omega) (by omega)) z)
      refine mX12_arranges_83 y (mX12_arranges_92 y (mX12_arranges_101 (bX12_arranges_111 (K _ ?_ ?_ ?_))))
      · refine m_st_fr (A := [49]) (B := [35, 36]) hk ⟨fun k hk9 => ?_, fun i hi9 => ?_⟩ (by simp) (fun i h1 h2 => by simp; omega)
        · show (if k = 49 then _ else r1.1 k) = _
          rw [if_neg (by simpa using hk9)]
          exact hf1.1 k (by simp)
        · have hi8 := hi9
          simp only [List.mem_cons, List.not_mem_nil, or_false, not_or] at hi9
          show (if i = 36 then _ else r1.2.1 i) = _ ∧ (if i = 35 then _ else r1.2.2 i) = _
          rw [if_neg hi9.2, if_neg hi9.1]
          exact hf1.2 i hi8
      · rw [← p_ins_app, hT]
        have ec : (nI pre.length + 1).toNatClampNeg = pre.length + 1 := by rw [nI_1]; exact nI_clamp (by omega)
        refine ⟨?_, by rw [List.length_insertIdx]; split <;> omega, fun i w hw => ?_⟩
        · show r1.1 49 + 1 = _
          rw [hf1.1 49 (by simp), p1, nI_1, List.length_insertIdx, if_pos (by omega)]
        · show va_up (r1.2.2 35) (nI pre.length + 1).toNatClampNeg (lN q.1) i = lN w.1 ∧ va_up (r1.2.1 36) (nI pre.length + 1).toNatClampNeg q.2 i = w.2 ∧ _
          rw [ec]
          rw [List.getElem?_insertIdx] at hw
          by_cases i1 : i < pre.length + 1
          · rw [if_pos i1] at hw
            rw [va_up_ne _ _ (by omega), va_up_ne _ _ (by omega), h1, h2, if_neg (by omega), if_neg (by omega)]
            exact p3 _ _ hw
          · rw [if_neg i1] at hw
            by_cases i2 : i = pre.length + 1
            · rw [if_pos i2, if_pos (by omega)] at hw
              cases hw
              rw [i2, va_up_self, va_up_self]
              exact ⟨rfl, rfl, hq⟩
            · rw [if_neg i2] at hw
              have hlt := (List.getElem?_eq_some_iff.mp hw).1
              rw [va_up_ne _ _ (by omega), va_up_ne _ _ (by omega), h1, h2, if_pos (by omega), if_pos (by omega)]
              exact p3 _ _ hw
      · refine m_fr_trans hf ⟨fun k hk9 => ?_, fun i hi9 => ?_⟩
        · show (if k = 49 then _ else r1.1 k) = _
          rw [if_neg (by simpa using hk9)]
          exact hf1.1 k (by simp)
        · have hi8 := hi9
          simp only [List.mem_cons, List.not_mem_nil, or_false, not_or] at hi9
          show (if i = 36 then _ else r1.2.1 i) = _ ∧ (if i = 35 then _ else r1.2.2 i) = _
          rw [if_neg hi9.2, if_neg hi9.1]
          exact hf1.2 i hi8
    | succ d ih =>
      intro k r1 hd hk1 hk2 hf1 h1 h2
      have ek : nI k - 1 = nI (k - 1) := nI_sub (b := 1) (by omega)
      refine bX12_arranges_37 (fun z => absurd z (by rw [nI_1]; exact nI_ge (by omega) (by omega))) (fun _ => ?_)
      refine mX12_arranges_45 (by rw [ek]; exact m_ii (by omega) (by omega)) (m_ii (by omega) (by omega)) ?_
      refine mX12_arranges_61 (by rw [ek]; exact m_ii (by omega) (by omega)) (m_ii (by omega) (by omega)) (bX12_arranges_77 ?_)
      rw [ek, nI_clamp (by omega), nI_clamp (by omega), nI_m1 (by omega)]
      refine ih (k - 1) _ (by omega) (by omega) (by omega) ⟨fun i hi => hf1.1 i hi, fun i hi9 => ?_⟩ (fun i => ?_) (fun i => ?_)
      · have hi8 := hi9
        simp only [List.mem_cons, List.not_mem_nil, or_false, not_or] at hi9
        show (if i = 36 then _ else r1.2.1 i) = _ ∧ (if i = 35 then _ else r1.2.2 i) = _
        rw [if_neg hi9.2, if_neg hi9.1]
        exact hf1.2 i hi8
      · show va_up (r1.2.2 35) k (r1.2.2 35 (k - 1)) i = _
        by_cases e : i = k
        · rw [e, va_up_self, h1, if_neg (by omega), if_pos (by omega)]
        · rw [va_up_ne _ _ e, h1]
          by_cases c1 : k < i ∧ i ≤ T.length
          · rw [if_pos c1, if_pos (by omega)]
          · rw [if_neg c1, if_neg (by omega)]
      · show va_up (r1.2.1 36) k (r1.2.1 36 (k - 1)) i = _
        by_cases e : i = k
        · rw [e, va_up_self, h2, if_neg (by omega), if_pos (by omega)]
        · rw [va_up_ne _ _ e, h2]
          by_cases c1 : k < i ∧ i ≤ T.length
          · rw [if_pos c1, if_pos (by omega)]
          · rw [if_neg c1, if_neg (by omega)]
  exact key _ T.length r rfl (by omega) (Nat.le_refl _) (m_fr_refl _ _ _) (fun i => by rw [if_neg (by omega)]) (fun i => by rw [if_neg (by omega)])
theorem arr_del {b : Nat} {s0 r : m_S} {h h0 : k_H} {KM : List k_K2} {L : List k_E4} {n : Nat} {pre rest : List p_T} {p q : p_T} {Q : k_H → k_R → Prop} (hk : m_st r KM L n) (hp : m_pt r (pre ++ p :: q :: rest)) (hf : m_fr [49] [35, 36] s0 r)
    (K : ∀ r2, m_st r2 KM L n → m_pt r2 (pre ++ p :: rest) → m_fr [49] [35, 36] s0 r2 → k_X (jX12_arranges G l h0) (m_hp b r2 h) 122 [(0, vR (some b)), (1, vI 0)] [] Q) :
    k_X (jX12_arranges G l h0) (m_hp b r h) 149 [(0, vR (some b)), (1, vI (nI pre.length))] [] Q := by
  obtain ⟨p1, p2, p3⟩ := id hp
  have hN : (pre ++ p :: q :: rest).length = pre.length + (rest.length + 2) := by simp
  generalize hT : pre ++ p :: q :: rest = T at hp p1 p2 p3 hN
  refine mX12_arranges_149 (bX12_arranges_159 ?_)
  rw [nI_1]
  have eN : nI T.length - 1 = nI (T.length - 1) := nI_sub (b := 1) (by omega)
  have key : ∀ (d k : Nat) (r1 : m_S), T.length - 1 - k = d → pre.length + 1 ≤ k → k ≤ T.length - 1 → m_fr [49] [35, 36] r r1 → r1.1 49 = nI (T.length - 1) →
      (∀ i, r1.2.2 35 i = if pre.length + 1 ≤ i ∧ i < k then r.2.2 35 (i + 1) else r.2.2 35 i) → (∀ i, r1.2.1 36 i = if pre.length + 1 ≤ i ∧ i < k then r.2.1 36 (i + 1) else r.2.1 36 i) →
      k_X (jX12_arranges G l h0) (m_hp b r1 h) 163 [(0, vR (some b)), (2, vI (nI k))] [] Q := by
    intro d
    induction d with
    | zero =>
      intro k r1 hd hk1 hk2 hf1 h49 h1 h2
      refine mX12_arranges_163 (fun _ => bX12_arranges_205 (K r1 ?_ ?_ (m_fr_trans hf hf1))) (fun z => absurd (by rw [h49]; exact nI_le (by omega) (by omega)) z)
      · exact m_st_fr hk hf1 (by simp) (fun i h1 h2 => by simp; omega)
      · rw [← p_era_app p q, hT]
        refine ⟨?_, by rw [List.length_eraseIdx]; split <;> omega, fun i w hw => ?_⟩
        · rw [h49, List.length_eraseIdx, if_pos (by omega)]
        · rw [List.getElem?_eraseIdx] at hw
          by_cases i1 : i < pre.length + 1
          · rw [if_pos i1] at hw
            rw [h1, h2, if_neg (by omega), if_neg (by omega)]
            exact p3 _ _ hw
          · rw [if_neg i1] at hw
            have hlt := (List.getElem?_eq_some_iff.mp hw).1
            rw [h1, h2, if_pos (by omega), if_pos (by omega)]
            exact p3 _ _ hw
    | succ d ih =>
      intro k r1 hd hk1 hk2 hf1 h49 h1 h2
      refine mX12_arranges_163 (fun z => absurd z (by rw [h49]; exact nI_ge (by omega) (by omega))) (fun _ => ?_)
      refine mX12_arranges_171 (by rw [nI_1]; exact m_ii (by omega) (by omega)) (m_ii (by omega) (by omega)) ?_
      refine mX12_arranges_185 (by rw [nI_1]; exact m_ii (by omega) (by omega)) (m_ii (by omega) (by omega)) (bX12_arranges_199 ?_)
      rw [nI_1, nI_clamp (by omega), nI_clamp (by omega)]
      refine ih (k + 1) _ (by omega) (by omega) (by omega) ⟨fun i hi => hf1.1 i hi, fun i hi9 => ?_⟩ h49 (fun i => ?_) (fun i => ?_)
      · have hi8 := hi9
        simp only [List.mem_cons, List.not_mem_nil, or_false, not_or] at hi9
        show (if i = 36 then _ else r1.2.1 i) = _ ∧ (if i = 35 then _ else r1.2.2 i) = _
        rw [if_neg hi9.2, if_neg hi9.1]
        exact hf1.2 i hi8
      · show va_up (r1.2.2 35) k (r1.2.2 35 (k + 1)) i = _
        by_cases e : i = k
        · rw [e, va_up_self, h1, if_neg (by omega), if_pos (by omega)]
        · rw [va_up_ne _ _ e, h1]
          by_cases c1 : pre.length + 1 ≤ i ∧ i < k
          · rw [if_pos c1, if_pos (by omega)]
          · rw [if_neg c1, if_neg (by omega)]
      · show va_up (r1.2.1 36) k (r1.2.1 36 (k + 1)) i = _
        by_cases e : i = k
        · rw [e, va_up_self, h2, if_neg (by omega), if_pos (by omega)]
        · rw [va_up_ne _ _ e, h2]
          by_cases c1 : pre.length + 1 ≤ i ∧ i < k
          · rw [if_pos c1, if_pos (by omega)]
          · rw [if_neg c1, if_neg (by omega)]
  refine key _ (pre.length + 1) _ rfl (by omega) (by omega) ⟨fun k hk9 => ?_, fun i _ => ⟨rfl, rfl⟩⟩ ?_ (fun i => by rw [if_neg (by omega)]; rfl) (fun i => by rw [if_neg (by omega)]; rfl)
  · show (if k = 49 then _ else r.1 k) = _
    rw [if_neg (by simpa using hk9)]
  · show r.1 49 - 1 = _
    rw [p1, eN]
theorem arr_split (ok : k_ok G l) {b : Nat} {s0 : m_S} {h : k_H} {KM : List k_K2} {L : List k_E4} {n : Nat} {Q : k_H → k_R → Prop} {h0 : k_H} :
    ∀ (k : Nat) (pre todo : List p_T) (r : m_S), m_st r KM L n → m_pt r (pre ++ todo) → m_fr [49] [35, 36] s0 r → (pre ++ todo).Pairwise (fun x y => x.1 < y.1) → p_ms (m_V KM n L) todo ≤ k → pre.length + p_sz (m_V KM n L) todo ≤ 4096 →
      (∀ r2, m_st r2 KM L n → m_pt r2 (p_split (m_V KM n L) k pre todo) → (p_split (m_V KM n L) k pre todo).Pairwise (fun x y => x.1 < y.1) → m_fr [49] [35, 36] s0 r2 → k_X (jX12_arranges G l h0) (m_hp b r2 h) 120 [(0, vR (some b))] [] Q) →
      k_X (jX12_arranges G l h0) (m_hp b r h) 2 [(0, vR (some b)), (1, vI (nI pre.length))] [] Q := by
  intro k
  induction k with
  | zero =>
    intro pre todo r hk hp hf hs hms hsz K
    cases todo with
    | nil => exact mX12_arranges_2 (fun _ => K r hk hp hs hf) (fun z => absurd (by rw [hp.1]; exact nI_le (by simp) (by have := hp.2.1; simp at this; omega)) z)
    | cons p rest => simp [p_ms] at hms
  | succ k ih =>
    intro pre todo r hk hp hf hs hms hsz K
    cases todo with
    | nil =>
      refine mX12_arranges_2 (fun _ => K r hk ?_ ?_ hf) (fun z => absurd (by rw [hp.1]; exact nI_le (by simp) (by have := hp.2.1; simp at this; omega)) z)
      · show m_pt r pre
        rw [List.append_nil] at hp
        exact hp
      · show pre.Pairwise _
        rw [List.append_nil] at hs
        exact hs
    | cons p rest =>
      have hlen : (pre ++ p :: rest).length = pre.length + (rest.length + 1) := by simp
      have h4096 := hp.2.1
      have sV : (m_V KM n L).Pairwise (fun x y => x < y) := p_srt (p := fun c => (r_val c n L).isSome) hk.1.2.2.2
      have hVb : ∀ x ∈ m_V KM n L, x < 1331000000000 := fun x hx => by
        obtain ⟨y, hy, rfl⟩ := List.mem_map.mp hx
        obtain ⟨j, hj⟩ := List.getElem?_of_mem (List.mem_filter.mp hy).1
        exact (hk.1.2.2.1 _ _ hj).2.2
      have hs2 := List.pairwise_append.mp hs
      have hs3 := List.pairwise_cons.mp hs2.2.1
      have hle : ∀ q ∈ rest.head?, p.1 < q.1 := fun q hq => hs3.1 q (List.mem_of_mem_head? hq)
      have hms2 : rest.length + 1 + ((m_V KM n L).length - p_lt p.1 (m_V KM n L)) ≤ k + 1 := hms
      have hsz2 : pre.length + (rest.length + 1 + ((m_V KM n L).length - p_lt p.1 (m_V KM n L)) / 4) ≤ 4096 := hsz
      have hVl : (m_V KM n L).length ≤ 12000 := by
        have := hk.1.2.1
        have := List.length_filter_le (fun x : k_K2 => (r_val x.1 n L).isSome) KM
        unfold m_V
        rw [List.length_map]
        omega
      refine mX12_arranges_2 (fun z => absurd z (by rw [hp.1]; exact nI_ge (by omega) (by omega))) (fun _ => ?_)
      refine mX12_arranges_10 (c_X12_manyOf ok hk hp hle) ?_
      rintro _ _ ⟨hr, rfl⟩
      rw [hr]
      have hel := p_end_le (m_V KM n L) rest
      have hsplit : p_split (m_V KM n L) (k + 1) pre (p :: rest) = if 8 < p_end (m_V KM n L) rest - p_lt p.1 (m_V KM n L) then p_split (m_V KM n L) k (pre ++ [p]) (((m_V KM n L).getD (p_lt p.1 (m_V KM n L) + 4) 0, p_idle (pre ++ p :: rest)) :: rest) else p_split (m_V KM n L) k (pre ++ [p]) rest := rfl
      have eap : ∀ X : List p_T, (pre ++ [p]) ++ X = pre ++ p :: X := fun X => by simp
      have el1 : (pre ++ [p]).length = pre.length + 1 := by simp
      refine bX12_arranges_15 (fun c1 => ?_) (fun c1 => ?_)
      · have c2 := (nI_leI (b := 8) (by omega) (by omega)).mp c1
        rw [hsplit, if_neg (by omega)] at K
        refine bX12_arranges_114 ?_
        rw [nI_1, ← el1]
        refine ih (pre ++ [p]) rest r hk (by rw [eap]; exact hp) hf (by rw [eap]; exact hs) ?_ ?_ K
        · cases rest with
          | nil => exact Nat.zero_le _
          | cons q t =>
            have := p_lt_mono (Nat.le_of_lt (hle q rfl)) (m_V KM n L)
            show t.length + 1 + _ ≤ k
            simp only [List.length_cons] at hms2
            omega
        · rw [el1]
          cases rest with
          | nil => show pre.length + 1 + 0 ≤ 4096; omega
          | cons q t =>
            have := p_lt_mono (Nat.le_of_lt (hle q rfl)) (m_V KM n L)
            show pre.length + 1 + (t.length + 1 + _ / 4) ≤ 4096
            simp only [List.length_cons] at hsz2
            omega
      · have c2 : ¬ (p_end (m_V KM n L) rest - p_lt p.1 (m_V KM n L)) ≤ 8 := fun z => c1 ((nI_leI (b := 8) (by omega) (by omega)).mpr z)
        rw [hsplit, if_pos (by omega)] at K
        have h5 : p_lt p.1 (m_V KM n L) + 4 < (m_V KM n L).length := by omega
        have hgp : (pre ++ p :: rest)[pre.length]? = some p := by rw [List.getElem?_append_right (Nat.le_refl _), Nat.sub_self]; rfl
        refine mX12_arranges_20 (c_X12_server ok hp) ?_
        rintro _ _ ⟨hr1, rfl⟩
        rw [hr1]
        refine mX12_arranges_24 (c_X12_fifthOf ok hk hp hgp h5) ?_
        rintro _ _ ⟨hr2, rfl⟩
        rw [hr2]
        refine mX12_arranges_30 ?_
        rw [hp.1]
        have hV4 : (m_V KM n L)[p_lt p.1 (m_V KM n L) + 4]? = some ((m_V KM n L).getD (p_lt p.1 (m_V KM n L) + 4) 0) := by
          rw [List.getD_eq_getElem?_getD, List.getElem?_eq_getElem h5]
          rfl
        generalize (m_V KM n L).getD (p_lt p.1 (m_V KM n L) + 4) 0 = w at hV4 K
        have hw1 := p_lt_at sV hV4
        have hwb := hVb w (List.mem_of_getElem? hV4)
        have hpw : p.1 < w := by
          by_cases z : p.1 < w
          · exact z
          · have := p_lt_mono (show w ≤ p.1 by omega) (m_V KM n L)
            omega
        have hwr : ∀ x ∈ rest, w < x.1 := fun x hx => by
          cases rest with
          | nil => cases hx
          | cons y t =>
            have hy : w < y.1 := (p_lt_iff sV hV4).mpr (by
              have : p_end (m_V KM n L) (y :: t) = p_lt y.1 (m_V KM n L) := rfl
              omega)
            rcases List.mem_cons.mp hx with rfl | hx
            · exact hy
            · have := (List.pairwise_cons.mp hs3.2).1 x hx
              omega
        refine arr_ins (q := (w, p_idle (pre ++ p :: rest))) hk hp hf hwb (by omega) (fun r2 hk2 hp2 hf2 => ?_)
        have hsrt2 : (pre ++ p :: (w, p_idle (pre ++ p :: rest)) :: rest).Pairwise (fun x y => x.1 < y.1) := by
          rw [List.pairwise_append]
          refine ⟨hs2.1, List.pairwise_cons.mpr ⟨fun x hx => ?_, List.pairwise_cons.mpr ⟨hwr, hs3.2⟩⟩, fun x hx y hy => ?_⟩
          · rcases List.mem_cons.mp hx with rfl | hx
            · exact hpw
            · exact hs3.1 x hx
          · have hxp := hs2.2.2 x hx p List.mem_cons_self
            rcases List.mem_cons.mp hy with rfl | hy
            · exact hxp
            · rcases List.mem_cons.mp hy with rfl | hy
              · show x.1 < w; omega
              · exact hs2.2.2 x hx y (List.mem_cons_of_mem _ hy)
        refine mX12_arranges_2 (fun z => absurd z (by rw [hp2.1]; exact nI_ge (by simp) (by have := hp2.2.1; omega))) (fun _ => ?_)
        refine mX12_arranges_10 (c_X12_manyOf ok hk2 hp2 (fun q hq => by cases hq; exact hpw)) ?_
        rintro _ _ ⟨hr3, rfl⟩
        rw [hr3]
        have e4 : p_end (m_V KM n L) ((w, p_idle (pre ++ p :: rest)) :: rest) - p_lt p.1 (m_V KM n L) = 4 := by
          show p_lt w (m_V KM n L) - _ = 4
          omega
        rw [e4]
        refine bX12_arranges_15 (fun _ => bX12_arranges_114 ?_) (fun z => absurd (by decide) z)
        rw [nI_1, ← el1]
        refine ih (pre ++ [p]) ((w, p_idle (pre ++ p :: rest)) :: rest) r2 hk2 (by rw [eap]; exact hp2) hf2 (by rw [eap]; exact hsrt2) ?_ ?_ K
        · show rest.length + 1 + ((m_V KM n L).length - p_lt w (m_V KM n L)) ≤ k
          omega
        · show (pre ++ [p]).length + (rest.length + 1 + ((m_V KM n L).length - p_lt w (m_V KM n L)) / 4) ≤ 4096
          rw [el1]
          omega
end MA
