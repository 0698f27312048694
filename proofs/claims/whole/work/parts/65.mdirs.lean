/-! DIRECTORIES OF THE REFERENCE -/
def d_pa (D : List s_D) (a : Nat) : Option Nat := (D.find? (fun d => decide (d.1 = a))).bind (fun d => d.2.1)
def d_up (D : List s_D) : Nat → Nat → Option Nat
  | 0, a => some a
  | n + 1, a => match d_pa D a with
    | none => none
    | some p => d_up D n p
noncomputable def d_bel (D : List s_D) (a o : Nat) : Bool := @decide (∃ n, d_up D n a = some o) (Classical.propDecidable _)
theorem d_bel_iff {D : List s_D} {a o : Nat} : d_bel D a o = true ↔ ∃ n, d_up D n a = some o := by
  unfold d_bel
  exact @decide_eq_true_iff _ (Classical.propDecidable _)
theorem d_bel_self (D : List s_D) (o : Nat) : d_bel D o o = true := d_bel_iff.mpr ⟨0, rfl⟩
theorem d_bel_none {D : List s_D} {a o : Nat} (h : ¬ a = o) (hp : d_pa D a = none) : d_bel D a o = false := by
  rw [Bool.eq_false_iff]
  intro z
  obtain ⟨n, hn⟩ := d_bel_iff.mp z
  cases n with
  | zero => exact h (Option.some.inj hn)
  | succ n =>
    have : d_up D (n + 1) a = none := by unfold d_up; rw [hp]
    rw [this] at hn
    cases hn
theorem d_bel_some {D : List s_D} {a o p : Nat} (h : ¬ a = o) (hp : d_pa D a = some p) : d_bel D a o = d_bel D p o := by
  rw [Bool.eq_iff_iff, d_bel_iff, d_bel_iff]
  constructor
  · rintro ⟨n, hn⟩
    cases n with
    | zero => exact absurd (Option.some.inj hn) h
    | succ n =>
      unfold d_up at hn
      rw [hp] at hn
      exact ⟨n, hn⟩
  · rintro ⟨n, hn⟩
    refine ⟨n + 1, ?_⟩
    unfold d_up
    rw [hp]
    exact hn
def d_wf (D : List s_D × Nat) : Prop := D.1.Pairwise (fun x y => x.1 < y.1) ∧ (0, none, 0, 0) ∈ D.1 ∧ (∀ d ∈ D.1, ¬ d.1 = 0 → ∃ p, d.2.1 = some p ∧ ∃ e ∈ D.1, e.1 = p) ∧ (∃ rk : Nat → Nat, ∀ d ∈ D.1, ∀ p, d.2.1 = some p → rk p < rk d.1) ∧ ∀ d ∈ D.1, d.2.2.1 ≤ 9 ∧ d.2.2.2 ≤ 9
theorem d_uniq {D : List s_D} (s : D.Pairwise (fun x y => x.1 < y.1)) {d e : s_D} (hd : d ∈ D) (he : e ∈ D) (h : d.1 = e.1) : d = e := by
  induction D with
  | nil => cases hd
  | cons x t ih =>
    have h1 := List.pairwise_cons.mp s
    rcases List.mem_cons.mp hd with e1 | hd1 <;> rcases List.mem_cons.mp he with e2 | he1
    · rw [e1, e2]
    · have := h1.1 e he1; rw [e1] at h; omega
    · have := h1.1 d hd1; rw [e2] at h; omega
    · exact ih h1.2 hd1 he1
theorem d_pa_of {D : List s_D} (s : D.Pairwise (fun x y => x.1 < y.1)) {d : s_D} (hd : d ∈ D) : d_pa D d.1 = d.2.1 := by
  unfold d_pa
  cases e : D.find? (fun x => decide (x.1 = d.1)) with
  | none =>
    have := List.find?_eq_none.mp e d hd
    simp at this
  | some x =>
    have h1 := List.find?_some e
    have h2 := List.mem_of_find?_eq_some e
    rw [d_uniq s h2 hd (by simpa using h1)]
    rfl
theorem d_root {D : List s_D × Nat} (w : d_wf D) {d : s_D} (hd : d ∈ D.1) (h0 : d.1 = 0) : d = (0, none, 0, 0) := d_uniq w.1 hd w.2.1 h0
def d_is (D : List s_D × Nat) (x : Int32) : Bool := D.1.any (fun d => decide (nI d.1 = x))
def d_nm (D : List s_D) (p nm : Int32) : Int32 := match D.find? (fun d => !(decide (d.1 = 0)) && decide (m_par d.2.1 = p) && decide (nI d.2.2.1 = nm)) with
  | some d => nI d.1
  | none => -2147483648
def d_many (D : List s_D) : Nat := D.countP (fun d => !(decide (d.1 = 0)))
def d_used (D : List s_D) (n : Nat) : Bool := D.any (fun d => !(decide (d.1 = 0)) && decide (d.2.2.2 = n))
def d_free (D : List s_D) : Nat → Nat → Nat
  | 0, n => n
  | k + 1, n => if d_used D n = true then d_free D k (n + 1) else n
/-- some number up to ten is free -/
def d_fok (D : List s_D) : Prop := d_used D (d_free D 12 1) = false
section MDR
variable {G : k_G} {l : Launch}
theorem m_ds_row {s : m_S} {D : List s_D × Nat} (h : m_ds s D) {k : Nat} (hk : k < D.2) : s.2.1 28 k = kB (d_is D (nI k)) := by
  obtain ⟨a1, a2, a3, a4⟩ := h
  rw [a3 k hk]
  congr 1
  unfold d_is
  rw [Bool.eq_iff_iff, List.any_eq_true, List.any_eq_true]
  constructor
  · rintro ⟨d, hd, he⟩
    exact ⟨d, hd, by simp only [decide_eq_true_eq] at he ⊢; rw [he]⟩
  · rintro ⟨d, hd, he⟩
    refine ⟨d, hd, ?_⟩
    simp only [decide_eq_true_eq] at he ⊢
    have := (a4 d hd).1
    exact (nI_eq (by omega) (by omega)).mp he
theorem d_is_ex {s : m_S} {D : List s_D × Nat} (h : m_ds s D) {x : Int32} (hx : d_is D x = true) : ∃ d ∈ D.1, x = nI d.1 ∧ d.1 < D.2 := by
  unfold d_is at hx
  rw [List.any_eq_true] at hx
  obtain ⟨d, hd, he⟩ := hx
  exact ⟨d, hd, (by simpa using he : nI d.1 = x).symm, (h.2.2.2 d hd).1⟩
theorem c_X12_isDirectory (ok : k_ok G l) {b : Nat} {s : m_S} {h : k_H} {D : List s_D × Nat} {x : Int32} (hd : m_ds s D) (hD : 0 < D.2) : k_cti (tX12_isDirectory G l) [vR (some b), vI x] (m_hp b s h) (m_p b h (fun s1 v => s1 = s ∧ v = kB (d_is D x))) := by
  obtain ⟨a1, a2, a3, a4⟩ := id hd
  have e1 : s.1 36 - 1 = nI (D.2 - 1) := by rw [a1]; exact nI_sub (b := 1) hD
  refine k_cti_of (eX12_isDirectory ok.2 (mX12_isDirectory_0 (m_stI (c_X12_isIn ok)) ?_))
  rintro _ _ ⟨hr, rfl⟩
  rw [hr, e1]
  cases hin : s_inB x 0 (nI (D.2 - 1)) with
  | false =>
    refine bX12_isDirectory_11 (fun _ => bX12_isDirectory_27 (bX12_isDirectory_28 (Or.inl rfl) ⟨_, rfl, s, rfl, rfl, ?_⟩)) (fun z => absurd rfl z)
    have : d_is D x = false := by
      rw [Bool.eq_false_iff]
      intro z
      obtain ⟨d, hd9, rfl, hlt⟩ := d_is_ex hd z
      have : s_inB (nI d.1) 0 (nI (D.2 - 1)) = true := by
        unfold s_inB
        simp only [Bool.and_eq_true, decide_eq_true_eq]
        exact ⟨nI_pos (by omega), fun z => by have := (nI_ltI (by omega) (by omega)).mp z; omega⟩
      rw [this] at hin
      cases hin
    rw [this]; rfl
  | true =>
    obtain ⟨e2, hle⟩ := s_inN (by omega) hin
    generalize x.toInt.toNat = k at e2 hle
    subst e2
    refine bX12_isDirectory_11 (fun z => absurd z (by decide)) (fun _ => ?_)
    refine mX12_isDirectory_14 (m_ii (by omega) (by omega)) (fun c1 => ?_) (fun c1 => ?_)
    · rw [nI_clamp (by omega), m_ds_row hd (by omega)] at c1
      exact bX12_isDirectory_27 (bX12_isDirectory_28 (Or.inl rfl) ⟨_, rfl, s, rfl, rfl, c1.symm⟩)
    · rw [nI_clamp (by omega), m_ds_row hd (by omega), kB_n0] at c1
      exact bX12_isDirectory_23 (bX12_isDirectory_28 (Or.inr rfl) ⟨_, rfl, s, rfl, rfl, by rw [c1]; rfl⟩)
/-- those from a number on -/
def d_ge (D : List s_D) (k : Nat) : List s_D := D.filter (fun d => decide (k ≤ d.1))
theorem d_ge_skip {D : List s_D × Nat} {k : Nat} (h : d_is D (nI k) = false) (hb : ∀ d ∈ D.1, d.1 < 2 ^ 31) (hk : k < 2 ^ 31) : d_ge D.1 k = d_ge D.1 (k + 1) := by
  unfold d_ge
  refine List.filter_congr fun d hd => ?_
  have : ¬ d.1 = k := fun e => by
    rw [Bool.eq_false_iff] at h
    exact h (by unfold d_is; rw [List.any_eq_true]; exact ⟨d, hd, by simp [e]⟩)
  by_cases c : k ≤ d.1
  · rw [decide_eq_true c, decide_eq_true (show k + 1 ≤ d.1 by omega)]
  · rw [decide_eq_false c, decide_eq_false (show ¬ k + 1 ≤ d.1 by omega)]
theorem d_ge_take {D : List s_D} {d : s_D} (s : D.Pairwise (fun x y => x.1 < y.1)) (hd : d ∈ D) : d_ge D d.1 = d :: d_ge D (d.1 + 1) := by
  unfold d_ge
  induction D with
  | nil => cases hd
  | cons x t ih =>
    have h1 := List.pairwise_cons.mp s
    rcases List.mem_cons.mp hd with rfl | hd
    · rw [List.filter_cons_of_pos (by simp), List.filter_cons_of_neg (by simp)]
      congr 1
      refine List.filter_congr fun y hy => ?_
      have := h1.1 y hy
      rw [decide_eq_true (show d.1 ≤ y.1 by omega), decide_eq_true (show d.1 + 1 ≤ y.1 by omega)]
    · have := h1.1 d hd
      rw [List.filter_cons_of_neg (by simp; omega), List.filter_cons_of_neg (by simp; omega)]
      exact ih h1.2 hd
theorem d_ge_end {D : List s_D} {k : Nat} (h : ∀ d ∈ D, d.1 < k) : d_ge D k = [] := by
  unfold d_ge
  rw [List.filter_eq_nil_iff]
  intro d hd
  have := h d hd
  simp; omega
theorem d_ge_1 {D : List s_D × Nat} (w : d_wf D) : d_ge D.1 1 = D.1.filter (fun d => !(decide (d.1 = 0))) := by
  unfold d_ge
  refine List.filter_congr fun d _ => ?_
  by_cases e : d.1 = 0
  · rw [decide_eq_true e, decide_eq_false (by omega)]; rfl
  · rw [decide_eq_false e, decide_eq_true (by omega)]; rfl
theorem c_X12_manyThere (ok : k_ok G l) {b : Nat} {s : m_S} {h : k_H} {D : List s_D × Nat} (hd : m_ds s D) (w : d_wf D) : k_cti (tX12_manyThere G l) [vR (some b)] (m_hp b s h) (m_p b h (fun s1 v => s1 = s ∧ v = nI (d_many D.1))) := by
  obtain ⟨a1, a2, a3, a4⟩ := id hd
  have hD : 0 < D.2 := by have := (a4 _ w.2.1).1; omega
  refine k_cti_of (eX12_manyThere ok.2 (bX12_manyThere_0 ?_))
  have key : ∀ (d k acc : Nat), D.2 - k = d → 0 < k → k ≤ D.2 → acc + (d_ge D.1 k).length = d_many D.1 → k_X (jX12_manyThere G l (m_hp b s h)) (m_hp b s h) 4 [(0, vR (some b)), (1, vI (nI acc)), (2, vI (nI k))] [] (q_i (m_p b h (fun s1 v => s1 = s ∧ v = nI (d_many D.1)))) := by
    intro d
    induction d with
    | zero =>
      intro k acc hd9 hk0 hk he
      refine mX12_manyThere_4 (fun _ => bX12_manyThere_35 ⟨_, rfl, s, rfl, rfl, ?_⟩) (fun z => absurd (by rw [a1]; exact nI_le (by omega) (by omega)) z)
      rw [d_ge_end (fun d hd8 => by have := (a4 d hd8).1; omega)] at he
      rw [← he]; rfl
    | succ d ih =>
      intro k acc hd9 hk0 hk he
      refine mX12_manyThere_4 (fun z => absurd z (by rw [a1]; exact nI_ge (by omega) (by omega))) (fun _ => ?_)
      refine mX12_manyThere_12 (m_ii (by omega) (by omega)) (fun c1 => ?_) (fun c1 => ?_)
      · rw [nI_clamp (by omega), m_ds_row hd (by omega), kB_0] at c1
        refine bX12_manyThere_26 (bX12_manyThere_27 ?_)
        rw [nI_1, show (0 : Int32) = nI 0 from rfl, nI_add]
        rw [d_ge_skip c1 (fun d hd8 => by have := (a4 d hd8).1; omega) (by omega)] at he
        exact ih (k + 1) (acc + 0) (by omega) (by omega) (by omega) he
      · rw [nI_clamp (by omega), m_ds_row hd (by omega), kB_n0] at c1
        obtain ⟨d9, hd9', e9, -⟩ := d_is_ex hd c1
        have ek : k = d9.1 := (nI_eq (by omega) (by have := (a4 d9 hd9').1; omega)).mp e9
        refine bX12_manyThere_22 (bX12_manyThere_27 ?_)
        rw [nI_1, nI_1]
        rw [ek, d_ge_take w.1 hd9', List.length_cons, ← ek] at he
        exact ih (k + 1) (acc + 1) (by omega) (by omega) (by omega) (by omega)
  refine key _ 1 0 rfl (by omega) (by omega) ?_
  rw [d_ge_1 w]
  unfold d_many
  rw [List.countP_eq_length_filter]
  omega
theorem c_X12_namedIn (ok : k_ok G l) {b : Nat} {s : m_S} {h : k_H} {D : List s_D × Nat} {p nm : Int32} (hd : m_ds s D) (w : d_wf D) : k_cti (tX12_namedIn G l) [vR (some b), vI p, vI nm] (m_hp b s h) (m_p b h (fun s1 v => s1 = s ∧ v = d_nm D.1 p nm)) := by
  obtain ⟨a1, a2, a3, a4⟩ := id hd
  have hD : 0 < D.2 := by have := (a4 _ w.2.1).1; omega
  refine k_cti_of (eX12_namedIn ok.2 (bX12_namedIn_0 ?_))
  have hnm : D.1.find? (fun d => !(decide (d.1 = 0)) && decide (m_par d.2.1 = p) && decide (nI d.2.2.1 = nm)) = (d_ge D.1 1).find? (fun d => decide (m_par d.2.1 = p) && decide (nI d.2.2.1 = nm)) := by
    rw [d_ge_1 w, List.find?_filter]
    congr 1
    funext d
    rw [Bool.eq_iff_iff]
    simp only [Bool.and_eq_true, decide_eq_true_eq, Bool.not_eq_true']
    exact and_assoc
  unfold d_nm
  rw [hnm]
  have key : ∀ (d k : Nat), D.2 - k = d → 0 < k → k ≤ D.2 → k_X (jX12_namedIn G l (m_hp b s h)) (m_hp b s h) 2 [(0, vR (some b)), (1, vI p), (2, vI nm), (3, vI (nI k))] [] (q_i (m_p b h (fun s1 v => s1 = s ∧ v = (match (d_ge D.1 k).find? (fun d => decide (m_par d.2.1 = p) && decide (nI d.2.2.1 = nm)) with
      | some d => nI d.1
      | none => -2147483648)))) := by
    intro d
    induction d with
    | zero =>
      intro k hd9 hk0 hk
      refine mX12_namedIn_2 (fun _ => bX12_namedIn_47 ⟨_, rfl, s, rfl, rfl, ?_⟩) (fun z => absurd (by rw [a1]; exact nI_le (by omega) (by omega)) z)
      rw [d_ge_end (fun d hd8 => by have := (a4 d hd8).1; omega)]
      rfl
    | succ d ih =>
      intro k hd9 hk0 hk
      have nxt := ih (k + 1) (by omega) (by omega) (by omega)
      refine mX12_namedIn_2 (fun z => absurd z (by rw [a1]; exact nI_ge (by omega) (by omega))) (fun _ => ?_)
      refine mX12_namedIn_10 (m_ii (by omega) (by omega)) (fun c1 => ?_) (fun c1 => ?_)
      · rw [nI_clamp (by omega), m_ds_row hd (by omega), kB_0] at c1
        refine bX12_namedIn_41 ?_
        rw [nI_1]
        rw [d_ge_skip c1 (fun d hd8 => by have := (a4 d hd8).1; omega) (by omega)]
        exact nxt
      · rw [nI_clamp (by omega), m_ds_row hd (by omega), kB_n0] at c1
        obtain ⟨d9, hd9', e9, -⟩ := d_is_ex hd c1
        have ek : k = d9.1 := (nI_eq (by omega) (by have := (a4 d9 hd9').1; omega)).mp e9
        obtain ⟨g1, g2, g3, g4⟩ := a4 d9 hd9'
        have hcons : d_ge D.1 k = d9 :: d_ge D.1 (k + 1) := by rw [ek]; exact d_ge_take w.1 hd9'
        rw [hcons]
        refine mX12_namedIn_19 (m_ii (by omega) (by omega)) (fun c2 => ?_) (fun c2 => ?_)
        · rw [nI_clamp (by omega), ek, g2] at c2
          refine bX12_namedIn_41 ?_
          rw [nI_1, List.find?_cons_of_neg (by simp [c2])]
          exact nxt
        · rw [nI_clamp (by omega), ek, g2] at c2
          refine mX12_namedIn_29 (m_ii (by omega) (by omega)) (fun c3 => ?_) (fun c3 => ?_)
          · rw [nI_clamp (by omega), ek, g3] at c3
            refine bX12_namedIn_41 ?_
            rw [nI_1, List.find?_cons_of_neg (by simp [c3])]
            exact nxt
          · rw [nI_clamp (by omega), ek, g3] at c3
            refine bX12_namedIn_39 ⟨_, rfl, s, rfl, rfl, ?_⟩
            rw [List.find?_cons_of_pos (by simp [c2, c3])]
            rw [ek]
  exact key _ 1 rfl (by omega) (by omega)
theorem c_X12_freeShort (ok : k_ok G l) {b : Nat} {s : m_S} {h : k_H} {D : List s_D × Nat} (hd : m_ds s D) (w : d_wf D) (hf : d_fok D.1) : k_cti (tX12_freeShort G l) [vR (some b)] (m_hp b s h) (m_p b h (fun s1 v => s1 = s ∧ v = nI (d_free D.1 12 1))) := by
  obtain ⟨a1, a2, a3, a4⟩ := id hd
  have hD : 0 < D.2 := by have := (a4 _ w.2.1).1; omega
  refine k_cti_of (eX12_freeShort ok.2 (bX12_freeShort_0 ?_))
  -- one number is looked for
  have inner : ∀ (n : Nat) (Q : k_H → k_R → Prop), n < 2 ^ 20 → (d_used D.1 n = true → k_X (jX12_freeShort G l (m_hp b s h)) (m_hp b s h) 4 [(0, vR (some b)), (1, vI (nI (n + 1))), (2, vI 1)] [] Q) → (d_used D.1 n = false → k_X (jX12_freeShort G l (m_hp b s h)) (m_hp b s h) 4 [(0, vR (some b)), (1, vI (nI n)), (2, vI 0)] [] Q) →
      ∀ (d k : Nat) (u : Bool), D.2 - k = d → 0 < k → k ≤ D.2 → (u || (d_ge D.1 k).any (fun d => decide (d.2.2.2 = n))) = d_used D.1 n → k_X (jX12_freeShort G l (m_hp b s h)) (m_hp b s h) 12 [(0, vR (some b)), (1, vI (nI n)), (2, vI (kB u)), (3, vI (nI k))] [] Q := by
    intro n Q hn K1 K2 d
    induction d with
    | zero =>
      intro k u hd9 hk0 hk he
      rw [d_ge_end (fun d hd8 => by have := (a4 d hd8).1; omega)] at he
      have he2 : u = d_used D.1 n := by simpa using he
      refine mX12_freeShort_12 (fun _ => ?_) (fun z => absurd (by rw [a1]; exact nI_le (by omega) (by omega)) z)
      cases u with
      | true =>
        refine bX12_freeShort_55 (fun z => absurd z (by decide)) (fun _ => bX12_freeShort_60 (bX12_freeShort_65 ?_))
        rw [nI_1]
        exact K1 he2.symm
      | false =>
        refine bX12_freeShort_55 (fun _ => bX12_freeShort_64 (bX12_freeShort_65 ?_)) (fun z => absurd rfl z)
        rw [show (0 : Int32) = nI 0 from rfl, nI_add]
        exact K2 he2.symm
    | succ d ih =>
      intro k u hd9 hk0 hk he
      refine mX12_freeShort_12 (fun z => absurd z (by rw [a1]; exact nI_ge (by omega) (by omega))) (fun _ => ?_)
      have nxt : ∀ v : Bool, (v || (d_ge D.1 (k + 1)).any (fun d => decide (d.2.2.2 = n))) = d_used D.1 n → k_X (jX12_freeShort G l (m_hp b s h)) (m_hp b s h) 48 [(0, vR (some b)), (1, vI (nI n)), (3, vI (nI k))] [vI (kB v)] Q := fun v hv => by
        refine bX12_freeShort_48 ?_
        rw [nI_1]
        exact ih (k + 1) v (by omega) (by omega) (by omega) hv
      cases hu : u with
      | true =>
        refine bX12_freeShort_20 (fun _ => bX12_freeShort_43 (nxt true ?_)) (fun z => absurd z (by decide))
        rw [hu] at he
        simpa using he
      | false =>
        rw [hu, Bool.false_or] at he
        refine bX12_freeShort_20 (fun z => absurd rfl z) (fun _ => ?_)
        refine mX12_freeShort_24 (m_ii (by omega) (by omega)) (fun c1 => ?_) (fun c1 => ?_)
        · rw [nI_clamp (by omega), m_ds_row hd (by omega), kB_0] at c1
          rw [d_ge_skip c1 (fun d hd8 => by have := (a4 d hd8).1; omega) (by omega)] at he
          exact bX12_freeShort_47 (nxt false (by rw [Bool.false_or]; exact he))
        · rw [nI_clamp (by omega), m_ds_row hd (by omega), kB_n0] at c1
          obtain ⟨d9, hd9', e9, -⟩ := d_is_ex hd c1
          have ek : k = d9.1 := (nI_eq (by omega) (by have := (a4 d9 hd9').1; omega)).mp e9
          obtain ⟨g1, g2, g3, g4⟩ := a4 d9 hd9'
          have h9 := (w.2.2.2.2 d9 hd9').2
          have hcons : d_ge D.1 k = d9 :: d_ge D.1 (k + 1) := by rw [ek]; exact d_ge_take w.1 hd9'
          rw [hcons, List.any_cons] at he
          refine mX12_freeShort_33 (m_ii (by omega) (by omega)) (fun c2 => ?_) (fun c2 => ?_)
          · rw [nI_clamp (by omega), ek, g4] at c2
            have c3 : ¬ d9.2.2.2 = n := fun z => c2 (by rw [z])
            rw [decide_eq_false c3] at he
            exact bX12_freeShort_47 (nxt false he)
          · rw [nI_clamp (by omega), ek, g4] at c2
            have c3 := (nI_eq (by omega) (by omega)).mp c2
            rw [decide_eq_true c3] at he
            exact bX12_freeShort_43 (nxt true (by simpa using he))
  have hstart : ∀ n, (false || (d_ge D.1 1).any (fun d => decide (d.2.2.2 = n))) = d_used D.1 n := fun n => by
    rw [d_ge_1 w, Bool.false_or, List.any_filter]
    unfold d_used
    rfl
  have outer : ∀ (k n : Nat), n < 2 ^ 19 → d_used D.1 (d_free D.1 k n) = false → k_X (jX12_freeShort G l (m_hp b s h)) (m_hp b s h) 4 [(0, vR (some b)), (1, vI (nI n)), (2, vI 1)] [] (q_i (m_p b h (fun s1 v => s1 = s ∧ v = nI (d_free D.1 k n)))) := by
    intro k
    induction k with
    | zero =>
      intro n hn hu
      refine bX12_freeShort_4 (fun z => absurd z (by decide)) (fun _ => bX12_freeShort_8 ?_)
      refine inner n _ (by omega) (fun z => ?_) (fun _ => bX12_freeShort_4 (fun _ => bX12_freeShort_70 ⟨_, rfl, s, rfl, rfl, rfl⟩) (fun z => absurd rfl z)) (D.2 - 1) 1 false rfl (by omega) (by omega) (hstart n)
      have hu2 : d_used D.1 n = false := hu
      rw [hu2] at z
      cases z
    | succ k ih =>
      intro n hn hu
      refine bX12_freeShort_4 (fun z => absurd z (by decide)) (fun _ => bX12_freeShort_8 ?_)
      by_cases hn2 : n + 1 < 2 ^ 19
      · refine inner n _ (by omega) (fun z => ?_) (fun z => ?_) (D.2 - 1) 1 false rfl (by omega) (by omega) (hstart n)
        · have e : d_free D.1 (k + 1) n = d_free D.1 k (n + 1) := if_pos z
          rw [e] at hu ⊢
          exact ih (n + 1) hn2 hu
        · have e : d_free D.1 (k + 1) n = n := if_neg (by rw [z]; decide)
          rw [e]
          exact bX12_freeShort_4 (fun _ => bX12_freeShort_70 ⟨_, rfl, s, rfl, rfl, rfl⟩) (fun z => absurd rfl z)
      · have hun : d_used D.1 n = false := by
          rw [Bool.eq_false_iff]
          intro z
          unfold d_used at z
          rw [List.any_eq_true] at z
          obtain ⟨d, hd8, he⟩ := z
          have := (w.2.2.2.2 d hd8).2
          simp only [Bool.and_eq_true, decide_eq_true_eq] at he
          omega
        have e : d_free D.1 (k + 1) n = n := if_neg (by rw [hun]; decide)
        rw [e]
        refine inner n _ (by omega) (fun z => ?_) (fun _ => bX12_freeShort_4 (fun _ => bX12_freeShort_70 ⟨_, rfl, s, rfl, rfl, rfl⟩) (fun z => absurd rfl z)) (D.2 - 1) 1 false rfl (by omega) (by omega) (hstart n)
        rw [hun] at z
        cases z
  exact outer 12 1 (by decide) hf
theorem c_X12_isBelow (ok : k_ok G l) {b : Nat} {s : m_S} {h : k_H} {D : List s_D × Nat} {o : Nat} (hd : m_ds s D) (w : d_wf D) (ho : o < 1024) {d0 : s_D} (hd0 : d0 ∈ D.1) : k_cti (tX12_isBelow G l) [vR (some b), vI (nI d0.1), vI (nI o)] (m_hp b s h) (m_p b h (fun s1 v => s1 = s ∧ v = kB (d_bel D.1 d0.1 o))) := by
  obtain ⟨a1, a2, a3, a4⟩ := id hd
  obtain ⟨rk, hrk⟩ := w.2.2.2.1
  refine k_cti_of (eX12_isBelow ok.2 (bX12_isBelow_0 ?_))
  have fin : ∀ (x : Int32) (u : Bool), u = decide (x = nI o) → k_X (jX12_isBelow G l (m_hp b s h)) (m_hp b s h) 23 [(2, vI (nI o)), (3, vI x)] [] (q_i (m_p b h (fun s1 v => s1 = s ∧ v = kB u))) := by
    intro x u hu
    refine bX12_isBelow_23 (fun c => bX12_isBelow_32 (bX12_isBelow_33 (Or.inl rfl) ⟨_, rfl, s, rfl, rfl, ?_⟩)) (fun c => bX12_isBelow_28 (bX12_isBelow_33 (Or.inr rfl) ⟨_, rfl, s, rfl, rfl, ?_⟩))
    · rw [hu, decide_eq_false c]; rfl
    · rw [hu, decide_eq_true c]; rfl
  have key : ∀ (n : Nat) (d : s_D), rk d.1 = n → d ∈ D.1 → k_X (jX12_isBelow G l (m_hp b s h)) (m_hp b s h) 2 [(0, vR (some b)), (2, vI (nI o)), (3, vI (nI d.1))] [] (q_i (m_p b h (fun s1 v => s1 = s ∧ v = kB (d_bel D.1 d.1 o)))) := by
    intro n
    induction n using Nat.strongRecOn with
    | ind n ih =>
      intro d hn hd9
      obtain ⟨g1, g2, g3, g4⟩ := a4 d hd9
      refine bX12_isBelow_2 (fun z => ?_) (fun _ => ?_)
      · exfalso
        have h9 : ¬ nI d.1 < 0 := nI_pos (by omega)
        rw [z] at h9
        exact h9 (by decide)
      · refine bX12_isBelow_8 (fun c => fin _ _ ?_) (fun c => ?_)
        · rw [decide_eq_true c]
          have : d.1 = o := (nI_eq (by omega) (by omega)).mp c
          rw [this, d_bel_self]
        · have hne : ¬ d.1 = o := fun z => c (by rw [z])
          have hpa := d_pa_of w.1 hd9
          refine mX12_isBelow_13 (m_ii (by omega) (by omega)) ?_
          rw [nI_clamp (by omega), g2]
          cases hp : d.2.1 with
          | none =>
            rw [hp] at hpa
            rw [d_bel_none hne hpa]
            refine bX12_isBelow_2 (fun _ => fin _ _ ?_) (fun z => absurd rfl z)
            rw [decide_eq_false]
            intro z
            have h9 : ¬ nI o < 0 := nI_pos (by omega)
            rw [← z] at h9
            exact h9 (by decide)
          | some p =>
            rw [hp] at hpa
            rw [d_bel_some hne hpa]
            by_cases h0 : d.1 = 0
            · rw [d_root w hd9 h0] at hp; cases hp
            · obtain ⟨p', hp', e, he, hep⟩ := w.2.2.1 d hd9 h0
              rw [hp] at hp'
              cases hp'
              have hlt := hrk d hd9 p hp
              subst hep
              exact ih (rk e.1) (by omega) e rfl he
  exact key _ d0 rfl hd0
end MDR
