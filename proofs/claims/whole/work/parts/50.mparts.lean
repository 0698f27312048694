/-! PARTS, as mathematics: V the codes with a value, rising; parts (low, server) -/
abbrev p_T : Type := Nat × Int32
def p_lt (c : Nat) (V : List Nat) : Nat := (V.filter (fun x => decide (x < c))).length
def p_end (V : List Nat) : List p_T → Nat
  | [] => V.length
  | q :: _ => p_lt q.1 V
def p_cn (PT : List p_T) (v : Int32) : Nat := PT.countP (fun p => decide (p.2 = v))
def p_idle (PT : List p_T) : Int32 := if p_cn PT 1 < p_cn PT 0 then (if p_cn PT 2 < p_cn PT 1 then 2 else 1) else if p_cn PT 2 < p_cn PT 0 then 2 else 0
def p_split (V : List Nat) : Nat → List p_T → List p_T → List p_T
  | 0, pre, post => pre ++ post
  | _ + 1, pre, [] => pre
  | k + 1, pre, p :: rest => if 8 < p_end V rest - p_lt p.1 V then p_split V k (pre ++ [p]) ((V.getD (p_lt p.1 V + 4) 0, p_idle (pre ++ p :: rest)) :: rest) else p_split V k (pre ++ [p]) rest
def p_join (V : List Nat) : p_T → List p_T → List p_T
  | p, [] => [p]
  | p, q :: r => if p_end V r - p_lt p.1 V < 4 then p_join V p r else p :: p_join V q r
def p_arr (V : List Nat) (PT : List p_T) : List p_T := match p_split V (PT.length + V.length) [] PT with
  | [] => []
  | p :: r => p_join V p r
theorem p_lt_le (c : Nat) (V : List Nat) : p_lt c V ≤ V.length := List.length_filter_le _ _
theorem p_lt_mono {a c : Nat} (h : a ≤ c) : ∀ V : List Nat, p_lt a V ≤ p_lt c V := by
  intro V
  induction V with
  | nil => exact Nat.le_refl _
  | cons x t ih =>
    unfold p_lt at ih ⊢
    by_cases h1 : x < a
    · rw [List.filter_cons_of_pos (by simpa using h1), List.filter_cons_of_pos (by simp; omega)]
      simp; exact ih
    · rw [List.filter_cons_of_neg (by simpa using h1)]
      by_cases h2 : x < c
      · rw [List.filter_cons_of_pos (by simpa using h2)]; simp; omega
      · rw [List.filter_cons_of_neg (by simpa using h2)]; exact ih
/-- rising: the n-th one has n ahead of it -/
theorem p_lt_at {V : List Nat} (s : V.Pairwise (fun x y => x < y)) : ∀ {i : Nat} {x : Nat}, V[i]? = some x → p_lt x V = i := by
  induction V with
  | nil => intro i x h; simp at h
  | cons y t ih =>
    intro i x h
    cases i with
    | zero =>
      simp at h
      subst h
      unfold p_lt
      rw [List.filter_eq_nil_iff.mpr]
      · rfl
      · intro z hz
        rcases List.mem_cons.mp hz with rfl | hz
        · simp
        · have := (List.pairwise_cons.mp s).1 z hz
          simp; omega
    | succ i =>
      have hx : t[i]? = some x := by simpa using h
      have h1 := ih (List.Pairwise.of_cons s) hx
      have h2 := (List.pairwise_cons.mp s).1 x (List.mem_of_getElem? hx)
      unfold p_lt at h1 ⊢
      rw [List.filter_cons_of_pos (by simpa using h2), List.length_cons, h1]
theorem p_lt_iff {V : List Nat} (s : V.Pairwise (fun x y => x < y)) {i x c : Nat} (h : V[i]? = some x) : x < c ↔ i < p_lt c V := by
  constructor
  · intro hc
    have h1 := p_lt_at s h
    have h2 : p_lt x V < p_lt c V := by
      have hm := List.mem_of_getElem? h
      clear h h1 s i
      induction V with
      | nil => cases hm
      | cons y t ih =>
        have hmono := p_lt_mono (Nat.le_of_lt hc) t
        unfold p_lt at ih hmono ⊢
        rcases List.mem_cons.mp hm with rfl | hm
        · rw [List.filter_cons_of_neg (by simp), List.filter_cons_of_pos (by simpa using hc)]; simp; omega
        · have := ih hm
          by_cases h3 : y < x
          · rw [List.filter_cons_of_pos (by simpa using h3), List.filter_cons_of_pos (by simp; omega)]; simp; omega
          · rw [List.filter_cons_of_neg (by simpa using h3)]
            by_cases h4 : y < c
            · rw [List.filter_cons_of_pos (by simpa using h4)]; simp; omega
            · rw [List.filter_cons_of_neg (by simpa using h4)]; omega
    omega
  · intro hi
    by_cases hc : x < c
    · exact hc
    · have h1 := p_lt_at s h
      have h2 := p_lt_mono (show c ≤ x by omega) V
      omega
theorem p_lt_all {V : List Nat} {c : Nat} (h : ∀ x ∈ V, x < c) : p_lt c V = V.length := by
  unfold p_lt
  rw [List.filter_eq_self.mpr]
  intro x hx
  simpa using h x hx
/-- how many of a range -/
theorem p_cnt {lo hi : Nat} (h : lo ≤ hi) (p : Nat → Bool) (K : List k_K2) : (r_flt lo hi p K).length + p_lt lo ((K.filter (fun x => p x.1)).map (fun x => x.1)) = p_lt hi ((K.filter (fun x => p x.1)).map (fun x => x.1)) := by
  unfold r_flt p_lt
  induction K with
  | nil => rfl
  | cons y t ih =>
    by_cases hp : p y.1 = true
    · have e2 : ((y :: t).filter (fun x => p x.1)) = y :: t.filter (fun x => p x.1) := List.filter_cons_of_pos (by simpa using hp)
      rw [e2, List.map_cons]
      by_cases h1 : y.1 < lo
      · rw [List.filter_cons_of_neg (by simp; omega), List.filter_cons_of_pos (by simpa using h1), List.filter_cons_of_pos (by simp; omega)]
        simp only [List.length_cons]; omega
      · rw [List.filter_cons_of_neg (p := fun x => decide (x < lo)) (by simpa using h1)]
        by_cases h2 : y.1 < hi
        · rw [List.filter_cons_of_pos (by simp [hp, h2]; omega), List.filter_cons_of_pos (p := fun x => decide (x < hi)) (by simpa using h2)]
          simp only [List.length_cons]; omega
        · rw [List.filter_cons_of_neg (by simp [hp]; omega), List.filter_cons_of_neg (p := fun x => decide (x < hi)) (by simpa using h2)]
          exact ih
    · have e2 : ((y :: t).filter (fun x => p x.1)) = t.filter (fun x => p x.1) := List.filter_cons_of_neg (by simpa using hp)
      rw [e2, List.filter_cons_of_neg (by simp [hp])]
      exact ih
theorem p_srt {p : Nat → Bool} {K : List k_K2} (s : K.Pairwise (fun x y => x.1 < y.1)) : ((K.filter (fun x => p x.1)).map (fun x => x.1)).Pairwise (fun x y => x < y) := by
  rw [List.pairwise_map]
  exact List.Pairwise.filter _ s
/-- those from a code on -/
theorem p_from {lo : Nat} {V : List Nat} (s : V.Pairwise (fun x y => x < y)) : V.filter (fun x => decide (lo ≤ x)) = V.drop (p_lt lo V) := by
  induction V with
  | nil => rfl
  | cons y t ih =>
    have ih2 := ih (List.Pairwise.of_cons s)
    have h9 := (List.pairwise_cons.mp s).1
    unfold p_lt at ih2 ⊢
    by_cases h1 : y < lo
    · rw [List.filter_cons_of_neg (by simp; omega), List.filter_cons_of_pos (by simpa using h1), List.length_cons, List.drop_succ_cons, ih2]
    · rw [List.filter_cons_of_pos (by simp; omega), List.filter_cons_of_neg (by simpa using h1)]
      have e : t.filter (fun x => decide (x < lo)) = [] := by
        rw [List.filter_eq_nil_iff]
        intro z hz
        have := h9 z hz
        simp; omega
      rw [e] at ih2 ⊢
      rw [ih2]
      rfl
def m_pt (s : m_S) (PT : List p_T) : Prop := s.1 49 = nI PT.length ∧ PT.length ≤ 4096 ∧ ∀ (i : Nat) (p : p_T), PT[i]? = some p → s.2.2 35 i = lN p.1 ∧ s.2.1 36 i = p.2 ∧ p.1 < 1331000000000
theorem m_pt_fr {A B : List Nat} {s s1 : m_S} {PT : List p_T} (h : m_pt s PT) (f : m_fr A B s s1) (hA : 49 ∉ A) (hB : 35 ∉ B ∧ 36 ∉ B) : m_pt s1 PT := by
  obtain ⟨k1, k2, k3⟩ := h
  refine ⟨(f.1 49 hA).trans k1, k2, fun i w hw => ?_⟩
  rw [(f.2 35 hB.1).2, (f.2 36 hB.2).1]
  exact k3 i w hw
/-- the codes with a value -/
def m_V (KM : List k_K2) (n : Nat) (L : List k_E4) : List Nat := (KM.filter (fun x => (r_val x.1 n L).isSome)).map (fun x => x.1)
section MPT
variable {G : k_G} {l : Launch}
theorem c_X12_endOf (ok : k_ok G l) {b : Nat} {s : m_S} {h : k_H} {PT : List p_T} {i : Nat} (hp : m_pt s PT) (hi : i < PT.length) : k_ctj (tX12_endOf G l) [vR (some b), vI (nI i)] (m_hp b s h) (m_p b h (fun s1 v => s1 = s ∧ v = (match PT[i + 1]? with | some q => lN q.1 - 1 | none => lN 1331000000000))) := by
  obtain ⟨p1, p2, p3⟩ := hp
  refine k_ctj_of (eX12_endOf ok.2 (mX12_endOf_0 (fun c1 => ?_) (fun c1 => ?_)))
  · rw [p1, nI_1] at c1
    have c2 := (nI_leI (by omega) (by omega)).mp c1
    refine bX12_endOf_23 (bX12_endOf_26 ⟨_, rfl, s, rfl, rfl, ?_⟩)
    rw [List.getElem?_eq_none c2]
    rfl
  · rw [p1, nI_1] at c1
    have c2 : ¬ PT.length ≤ i + 1 := fun z => c1 ((nI_leI (by omega) (by omega)).mpr z)
    refine mX12_endOf_10 (by rw [nI_1]; exact m_ii (by omega) (by omega)) (bX12_endOf_26 ⟨_, rfl, s, rfl, rfl, ?_⟩)
    obtain ⟨q, hq⟩ : ∃ q, PT[i + 1]? = some q := ⟨_, List.getElem?_eq_getElem (by omega)⟩
    rw [hq, nI_1, nI_clamp (by omega), (p3 _ _ hq).1]
theorem c_X12_manyOf (ok : k_ok G l) {b : Nat} {s : m_S} {h : k_H} {KM : List k_K2} {L : List k_E4} {n : Nat} {pre rest : List p_T} {p : p_T} (hk : m_st s KM L n) (hp : m_pt s (pre ++ p :: rest)) (hle : ∀ q ∈ rest.head?, p.1 < q.1) :
    k_cti (tX12_manyOf G l) [vR (some b), vI (nI pre.length)] (m_hp b s h) (m_p b h (fun s1 v => s1 = s ∧ v = nI (p_end (m_V KM n L) rest - p_lt p.1 (m_V KM n L)))) := by
  have hl : (pre ++ p :: rest).length = pre.length + (rest.length + 1) := by simp
  obtain ⟨p1, p2, p3⟩ := id hp
  have hg : (pre ++ p :: rest)[pre.length]? = some p := by rw [List.getElem?_append_right (Nat.le_refl _), Nat.sub_self]; rfl
  obtain ⟨g1, g2, g3⟩ := p3 _ _ hg
  refine k_cti_of (eX12_manyOf ok.2 (mX12_manyOf_0 (m_ii (by omega) (by omega)) (c_X12_endOf ok hp (by omega)) ?_))
  rintro _ _ ⟨hr, rfl⟩
  rw [hr, nI_clamp (by omega), g1]
  have hsv : ∀ x ∈ m_V KM n L, x < 1331000000000 := fun x hx => by
    obtain ⟨y, hy, rfl⟩ := List.mem_map.mp hx
    obtain ⟨j, hj⟩ := List.getElem?_of_mem (List.mem_filter.mp hy).1
    exact (hk.1.2.2.1 _ _ hj).2.2
  cases rest with
  | nil =>
    have e : (pre ++ [p])[pre.length + 1]? = none := List.getElem?_eq_none (by simp)
    rw [e]
    refine mX12_manyOf_12 (c_X12_manyIn ok hk (by omega) (by omega)) ?_
    rintro _ _ ⟨hr2, rfl⟩
    refine bX12_manyOf_15 ⟨_, rfl, s, by rw [hr2], rfl, ?_⟩
    have := p_cnt (show p.1 ≤ 1331000000000 + 1 by omega) (fun c => (r_val c n L).isSome) KM
    congr 1
    show _ = (m_V KM n L).length - p_lt p.1 (m_V KM n L)
    have h2 : p_lt (1331000000000 + 1) (m_V KM n L) = (m_V KM n L).length := p_lt_all (fun x hx => by have := hsv x hx; omega)
    unfold m_V at h2 ⊢
    omega
  | cons q r =>
    have e : (pre ++ p :: q :: r)[pre.length + 1]? = some q := by rw [List.getElem?_append_right (by omega), Nat.add_sub_cancel_left]; rfl
    obtain ⟨q1, q2, q3⟩ := p3 _ _ e
    have hpq := hle q rfl
    rw [e]
    have e2 : lN q.1 - 1 = lN (q.1 - 1) := lN_sub (b := 1) (by omega)
    simp only [e2]
    refine mX12_manyOf_12 (c_X12_manyIn ok hk (by omega) (by omega)) ?_
    rintro _ _ ⟨hr2, rfl⟩
    refine bX12_manyOf_15 ⟨_, rfl, s, by rw [hr2], rfl, ?_⟩
    rw [show q.1 - 1 + 1 = q.1 by omega]
    have := p_cnt (show p.1 ≤ q.1 by omega) (fun c => (r_val c n L).isSome) KM
    congr 1
    show _ = p_lt q.1 (m_V KM n L) - p_lt p.1 (m_V KM n L)
    unfold m_V
    omega
theorem c_X12_fifthOf (ok : k_ok G l) {b : Nat} {s : m_S} {h : k_H} {KM : List k_K2} {L : List k_E4} {n : Nat} {PT : List p_T} {i : Nat} {p : p_T} (hk : m_st s KM L n) (hp : m_pt s PT) (hi : PT[i]? = some p) (h5 : p_lt p.1 (m_V KM n L) + 4 < (m_V KM n L).length) :
    k_ctj (tX12_fifthOf G l) [vR (some b), vI (nI i)] (m_hp b s h) (m_p b h (fun s1 v => s1 = s ∧ v = lN ((m_V KM n L).getD (p_lt p.1 (m_V KM n L) + 4) 0))) := by
  obtain ⟨p1, p2, p3⟩ := hp
  obtain ⟨g1, g2, g3⟩ := p3 _ _ hi
  have hlt := (List.getElem?_eq_some_iff.mp hi).1
  obtain ⟨⟨e1, e2, e3, e4⟩, -, -, -, e0, en, -, -⟩ := id hk
  refine k_ctj_of (eX12_fifthOf ok.2 (mX12_fifthOf_0 (m_ii (by omega) (by omega)) (by rw [nI_clamp (by omega), g1]; exact c_X12_placeOf ok hk.1 (by omega)) ?_))
  rintro _ _ ⟨hr, rfl⟩
  rw [hr]
  refine bX12_fifthOf_12 ?_
  have hV : m_V KM n L = (KM.filter (fun x => (r_val x.1 n L).isSome)).map (fun x => x.1) := rfl
  have hrem : ∀ j, (r_rem 1331000000000 (fun c => (r_val c n L).isSome) KM j) = (KM.drop j).filter (fun x => (r_val x.1 n L).isSome) := fun j => by
    unfold r_rem
    refine List.filter_congr fun y hy => ?_
    obtain ⟨k, hk9⟩ := List.getElem?_of_mem (List.mem_of_mem_drop hy)
    rw [decide_eq_true (e3 _ _ hk9).2.2, Bool.true_and]
  have hst : (r_rem 1331000000000 (fun c => (r_val c n L).isSome) KM (r_pl p.1 KM)).map (fun x => x.1) = (m_V KM n L).drop (p_lt p.1 (m_V KM n L)) := by
    rw [rs_start e4, hV, ← p_from (p_srt (p := fun c => (r_val c n L).isSome) e4)]
    unfold r_flt
    rw [List.filter_map, List.filter_filter]
    congr 1
    refine List.filter_congr fun y hy => ?_
    obtain ⟨k, hk9⟩ := List.getElem?_of_mem hy
    rw [decide_eq_true (e3 _ _ hk9).2.2, Bool.and_true]
    rfl
  have hget : ((r_rem 1331000000000 (fun c => (r_val c n L).isSome) KM (r_pl p.1 KM)).map (fun x => x.1))[4]? = some ((m_V KM n L).getD (p_lt p.1 (m_V KM n L) + 4) 0) := by
    rw [hst, List.getElem?_drop, List.getD_eq_getElem?_getD, List.getElem?_eq_getElem h5]
    rfl
  generalize (m_V KM n L).getD (p_lt p.1 (m_V KM n L) + 4) 0 = w at hget
  have key : ∀ (d j m : Nat), KM.length - j = d → j ≤ KM.length → m ≤ 4 → ((r_rem 1331000000000 (fun c => (r_val c n L).isSome) KM j).map (fun x => x.1))[4 - m]? = some w →
      k_X (jX12_fifthOf G l (m_hp b s h)) (m_hp b s h) 13 [(0, vR (some b)), (2, vI (nI m)), (3, vI (nI j))] [] (q_j (m_p b h (fun s1 v => s1 = s ∧ v = lN w))) := by
    intro d
    induction d with
    | zero =>
      intro j m hd hj hm hg
      rw [rs_end (by omega)] at hg
      simp at hg
    | succ d ih =>
      intro j m hd hj hm hg
      have hlt : j < KM.length := by omega
      obtain ⟨x, hx⟩ : ∃ x, KM[j]? = some x := ⟨_, List.getElem?_eq_getElem hlt⟩
      obtain ⟨x1, x2, x3⟩ := e3 _ _ hx
      refine bX12_fifthOf_13 (fun z => absurd z (nI_ge (a := m) (b := 5) (by omega) (by omega))) (fun _ => ?_)
      refine mX12_fifthOf_18 (by rw [e0]; exact c_X12_hasAt ok hk hx (by omega)) ?_
      rintro _ _ ⟨hr9, rfl⟩
      rw [hr9]
      refine bX12_fifthOf_28 (fun c3 => ?_) (fun c3 => ?_)
      · rw [kB_0] at c3
        refine bX12_fifthOf_35 (bX12_fifthOf_36 ?_)
        rw [nI_1, show (0 : Int32) = nI 0 from rfl, nI_add]
        rw [rs_skip hx c3] at hg
        exact ih (j + 1) (m + 0) (by omega) (by omega) hm hg
      · rw [kB_n0] at c3
        refine bX12_fifthOf_31 (bX12_fifthOf_36 ?_)
        rw [nI_1, nI_1]
        rw [rs_take hx x3 c3, List.map_cons] at hg
        by_cases em : m = 4
        · subst em
          have hw : x.1 = w := by simpa using hg
          refine bX12_fifthOf_13 (fun _ => ?_) (fun z => absurd (nI_le (a := 5) (b := 4 + 1) (by omega) (by omega)) z)
          have es : nI (j + 1) - 1 = nI j := nI_sub (a := j + 1) (b := 1) (by omega)
          refine mX12_fifthOf_44 (by rw [es]; exact m_ii (by omega) (by omega)) ⟨_, rfl, s, rfl, rfl, ?_⟩
          rw [es, nI_clamp (by omega), x1, hw]
        · refine ih (j + 1) (m + 1) (by omega) (by omega) (by omega) ?_
          rw [show 4 - m = (4 - (m + 1)) + 1 by omega] at hg
          simpa using hg
  exact key _ (r_pl p.1 KM) 0 rfl (r_pl_le _ _) (by omega) hget
theorem c_X12_server (ok : k_ok G l) {b : Nat} {s : m_S} {h : k_H} {PT : List p_T} (hp : m_pt s PT) : k_cti (tX12_server G l) [vR (some b)] (m_hp b s h) (m_p b h (fun s1 v => s1 = s ∧ v = p_idle PT)) := by
  obtain ⟨p1, p2, p3⟩ := id hp
  refine k_cti_of (eX12_server ok.2 (mX12_server_0 ?_))
  rw [p1, nI_1]
  have hcn : ∀ v : Int32, p_cn PT v ≤ PT.length := fun v => List.countP_le_length
  -- counting one server's parts
  have cnt : ∀ (v : Int32) (x1 x2 : Int32) (Q : k_H → k_R → Prop), k_X (jX12_server G l (m_hp b s h)) (m_hp b s h) 58 [(0, vR (some b)), (1, vI x1), (2, vI x2), (3, vI v), (4, vI (nI (p_cn PT v)))] [] Q →
      ∀ (d i m : Nat), PT.length - i = d → i ≤ PT.length → m + p_cn (PT.drop i) v = p_cn PT v →
      k_X (jX12_server G l (m_hp b s h)) (m_hp b s h) 22 [(0, vR (some b)), (1, vI x1), (2, vI x2), (3, vI v), (4, vI (nI m)), (5, vI (nI i))] [] Q := by
    intro v x1 x2 Q K d
    induction d with
    | zero =>
      intro i m hd hi hm
      refine mX12_server_22 (fun _ => ?_) (fun z => absurd (by rw [p1]; exact nI_le (by omega) (by omega)) z)
      rw [List.drop_eq_nil_of_le (by omega)] at hm
      have : m = p_cn PT v := by simpa [p_cn] using hm
      rw [this]
      exact K
    | succ d ih =>
      intro i m hd hi hm
      have hlt : i < PT.length := by omega
      obtain ⟨q, hq⟩ : ∃ q, PT[i]? = some q := ⟨_, List.getElem?_eq_getElem hlt⟩
      have hdrop : PT.drop i = q :: PT.drop (i + 1) := by
        rw [List.drop_eq_getElem_cons hlt]
        congr 1
        exact (List.getElem?_eq_some_iff.mp hq).2
      rw [hdrop] at hm
      unfold p_cn at hm ih
      rw [List.countP_cons] at hm
      refine mX12_server_22 (fun z => absurd z (by rw [p1]; exact nI_ge hlt (by omega))) (fun _ => ?_)
      refine mX12_server_31 (m_ii (by omega) (by omega)) (fun c1 => ?_) (fun c1 => ?_)
      · rw [nI_clamp (by omega), (p3 _ _ hq).2.1] at c1
        rw [if_neg (by simpa using c1)] at hm
        refine bX12_server_48 (bX12_server_49 ?_)
        rw [nI_1, show (0 : Int32) = nI 0 from rfl, nI_add]
        exact ih (i + 1) (m + 0) (by omega) (by omega) (by omega)
      · rw [nI_clamp (by omega), (p3 _ _ hq).2.1] at c1
        rw [if_pos (by simpa using c1)] at hm
        refine bX12_server_44 (bX12_server_49 ?_)
        rw [nI_1, nI_1]
        exact ih (i + 1) (m + 1) (by omega) (by omega) (by omega)
  have one : ∀ (v : Int32) (x1 : Int32) (f : Nat) (Q : k_H → k_R → Prop), v < 3 → f ≤ PT.length + 1 → k_X (jX12_server G l (m_hp b s h)) (m_hp b s h) 11 [(0, vR (some b)), (1, vI (if p_cn PT v < f then v else x1)), (2, vI (nI (if p_cn PT v < f then p_cn PT v else f))), (3, vI (v + 1))] [] Q →
      k_X (jX12_server G l (m_hp b s h)) (m_hp b s h) 11 [(0, vR (some b)), (1, vI x1), (2, vI (nI f)), (3, vI v)] [] Q := by
    intro v x1 f Q hv hf K
    have hc := hcn v
    refine bX12_server_11 (fun z => absurd hv (Int32.not_lt.mpr z)) (fun _ => bX12_server_16 ?_)
    refine cnt v x1 (nI f) Q ?_ PT.length 0 0 rfl (Nat.zero_le _) (by rw [List.drop_zero]; omega)
    by_cases hlt : p_cn PT v < f
    · rw [if_pos hlt, if_pos hlt] at K
      refine bX12_server_58 (fun z => absurd z (nI_ge hlt (by omega))) (fun _ => bX12_server_64 ?_)
      refine bX12_server_69 (fun z => absurd z (nI_ge hlt (by omega))) (fun _ => bX12_server_76 ?_)
      exact bX12_server_82 K
    · rw [if_neg hlt, if_neg hlt] at K
      refine bX12_server_58 (fun _ => bX12_server_68 ?_) (fun z => absurd (nI_le (by omega) (by omega)) z)
      refine bX12_server_69 (fun _ => bX12_server_81 ?_) (fun z => absurd (nI_le (by omega) (by omega)) z)
      exact bX12_server_82 K
  have h0 := hcn 0
  have h1 := hcn 1
  have h2 := hcn 2
  refine one 0 0 (PT.length + 1) _ (by decide) (Nat.le_refl _) ?_
  rw [if_pos (show p_cn PT 0 < PT.length + 1 by omega), if_pos (show p_cn PT 0 < PT.length + 1 by omega)]
  refine one (0 + 1) 0 (p_cn PT 0) _ (by decide) (by omega) ?_
  rw [show (0 : Int32) + 1 = 1 from rfl]
  refine one (1 + 1) _ _ _ (by decide) (by split <;> omega) ?_
  rw [show (1 : Int32) + 1 = 2 from rfl]
  refine bX12_server_11 (fun _ => bX12_server_89 ⟨_, rfl, s, rfl, rfl, ?_⟩) (fun z => absurd (by decide) z)
  unfold p_idle
  by_cases a : p_cn PT 1 < p_cn PT 0
  · simp only [if_pos a]
  · simp only [if_neg a]
end MPT
