/-! THE REFERENCE'S KEYS AND ENTRIES: a log whose addresses are the entries' places; looked up -/
theorem m_ii {i n : Nat} (h : i < n) (hn : n < 2 ^ 31) : vp_in (nI i) n := by
  unfold vp_in
  rw [nI_clamp (by omega)]
  intro c
  rcases c with c | c
  · exact nI_pos (by omega) c
  · omega
theorem nI_div {a b : Nat} (ha : a < 2 ^ 31) (hb : b < 2 ^ 31) : nI a / nI b = nI (a / b) := by
  have h1 : a / b ≤ a := Nat.div_le_self _ _
  apply Int32.toInt_inj.mp
  rw [nI_toInt (by omega), Int32.toInt_div, nI_toInt ha, nI_toInt hb]
  rw [Int.tdiv_eq_ediv_of_nonneg (by omega)]
  have : ((a : Int) / (b : Int)) = ((a / b : Nat) : Int) := rfl
  rw [this]
  generalize a / b = q at h1
  rw [Int.bmod_eq_of_le (by omega) (by omega)]
theorem nI_neg1 : ((-1 : Int32) < 0) := by decide
def m_hd (c : Nat) (L : List k_E4) : Int32 := match r_fst c L with
  | some a => nI a
  | none => -1
def m_lk (c n : Nat) (L : List k_E4) : Int32 := match r_look c n L with
  | some a => nI a
  | none => -1
def m_log (s : m_S) : List k_E4 → Prop
  | [] => True
  | x :: t => (x.1 = t.length ∧ s.2.1 3 t.length = nI x.2.2.1 ∧ s.2.1 5 t.length = kB x.2.2.2.isSome ∧ s.2.1 4 t.length = x.2.2.2.getD 0 ∧ s.2.1 6 t.length = m_hd x.2.1 t) ∧ m_log s t
def m_ks (s : m_S) (KM : List k_K2) (L : List k_E4) : Prop := s.1 2 = nI KM.length ∧ KM.length ≤ 12000 ∧ (∀ (i : Nat) (x : k_K2), KM[i]? = some x → s.2.2 1 i = lN x.1 ∧ s.2.1 2 i = m_hd x.1 L ∧ x.1 < 1331000000000) ∧ KM.Pairwise (fun x y => x.1 < y.1)
def m_st (s : m_S) (KM : List k_K2) (L : List k_E4) (n : Nat) : Prop := m_ks s KM L ∧ s.1 5 = nI L.length ∧ L.length ≤ 420000 ∧ m_log s L ∧ s.1 0 = nI n ∧ n < 2 ^ 20 ∧ (∀ x ∈ L, x.2.2.1 ≤ n) ∧ r_in KM L
theorem m_log_mem {s : m_S} {L : List k_E4} (h : m_log s L) {x : k_E4} (hx : x ∈ L) : x.1 < L.length ∧ s.2.1 3 x.1 = nI x.2.2.1 ∧ s.2.1 5 x.1 = kB x.2.2.2.isSome ∧ s.2.1 4 x.1 = x.2.2.2.getD 0 := by
  induction L with
  | nil => cases hx
  | cons y t ih =>
    rcases List.mem_cons.mp hx with rfl | hx
    · obtain ⟨⟨e, e1, e2, e3, -⟩, -⟩ := h
      rw [e]
      exact ⟨by simp, e1, e2, e3⟩
    · obtain ⟨i1, i2⟩ := ih h.2 hx
      exact ⟨by simp; omega, i2⟩
section MQ
variable {G : k_G} {l : Launch}
theorem c_X12_placeOf (ok : k_ok G l) {b : Nat} {s : m_S} {h : k_H} {KM : List k_K2} {L : List k_E4} {c : Nat} (hk : m_ks s KM L) (hc : c < 2 ^ 62) : k_cti (tX12_placeOf G l) [vR (some b), vJ (lN c)] (m_hp b s h) (m_p b h (fun s1 v => s1 = s ∧ v = nI (r_pl c KM))) := by
  obtain ⟨e1, e2, e3, e4⟩ := hk
  refine k_cti_of (eX12_placeOf ok.2 (mX12_placeOf_0 ?_))
  rw [e1]
  have key : ∀ (d lo hi : Nat), hi - lo = d → lo ≤ hi → hi ≤ KM.length → (∀ (i : Nat) (x : k_K2), i < lo → KM[i]? = some x → x.1 < c) → (∀ (i : Nat) (x : k_K2), hi ≤ i → KM[i]? = some x → ¬ x.1 < c) →
      k_X (jX12_placeOf G l (m_hp b s h)) (m_hp b s h) 8 [(0, vR (some b)), (1, vJ (lN c)), (3, vI (nI lo)), (4, vI (nI hi))] [] (q_i (m_p b h (fun s1 v => s1 = s ∧ v = nI (r_pl c KM)))) := by
    intro d
    induction d using Nat.strongRecOn with
    | ind d ih =>
      intro lo hi hd hle hlen i1 i2
      refine bX12_placeOf_8 (fun c1 => ?_) (fun c1 => ?_)
      · have c2 := (nI_leI (by omega) (by omega)).mp c1
        have e : lo = hi := by omega
        refine bX12_placeOf_72 ⟨_, rfl, s, rfl, rfl, ?_⟩
        rw [r_pl_of i1 (by omega) (fun x hx => i2 lo x (by omega) hx)]
      · have c2 : ¬ hi ≤ lo := fun z => c1 ((nI_leI (by omega) (by omega)).mpr z)
        have em : (nI lo + nI hi) / 2 = nI ((lo + hi) / 2) := by rw [nI_add]; exact nI_div (b := 2) (by omega) (by omega)
        have hm : (lo + hi) / 2 < KM.length := by omega
        obtain ⟨x, hx⟩ : ∃ x, KM[(lo + hi) / 2]? = some x := ⟨_, List.getElem?_eq_getElem hm⟩
        obtain ⟨hx1, -, hx3⟩ := e3 _ _ hx
        refine mX12_placeOf_14 (by rw [em]; exact m_ii (by omega) (by omega)) (fun c3 => ?_) (fun c3 => ?_)
        · rw [em, nI_clamp (by omega), hx1] at c3
          have c4 := (lX_le hc (by omega)).mp c3
          rw [em]
          refine bX12_placeOf_38 (bX12_placeOf_39 (fun _ => ?_) (fun z => absurd rfl z))
          refine bX12_placeOf_53 (bX12_placeOf_54 (fun _ => ?_) (fun z => absurd rfl z))
          refine bX12_placeOf_65 (bX12_placeOf_67 (ih ((lo + hi) / 2 - lo) (by omega) lo ((lo + hi) / 2) rfl (by omega) (by omega) i1 (fun i y hi9 hy => ?_)))
          by_cases e : i = (lo + hi) / 2
          · subst e; rw [hx] at hy; cases hy; omega
          · have := r_srt e4 (i := (lo + hi) / 2) (j := i) (by omega) hx hy
            omega
        · rw [em, nI_clamp (by omega), hx1] at c3
          have c4 : ¬ c ≤ x.1 := fun z => c3 ((lX_le hc (by omega)).mpr z)
          rw [em]
          refine bX12_placeOf_34 (bX12_placeOf_39 (fun z => absurd z (by decide)) (fun _ => ?_))
          refine bX12_placeOf_46 (bX12_placeOf_54 (fun z => absurd z (by decide)) (fun _ => ?_))
          refine bX12_placeOf_60 (bX12_placeOf_67 ?_)
          rw [nI_1]
          refine ih (hi - ((lo + hi) / 2 + 1)) (by omega) _ _ rfl (by omega) hlen (fun i y hi9 hy => ?_) i2
          by_cases e : i = (lo + hi) / 2
          · subst e; rw [hx] at hy; cases hy; omega
          · have := r_srt e4 (i := i) (j := (lo + hi) / 2) (by omega) hy hx
            omega
  exact key _ 0 KM.length rfl (Nat.zero_le _) (Nat.le_refl _) (fun i x hi => by omega) (fun i x hi hx => by rw [List.getElem?_eq_none hi] at hx; cases hx)
theorem c_X12_isNamed (ok : k_ok G l) {b : Nat} {s : m_S} {h : k_H} {KM : List k_K2} {L : List k_E4} {c : Nat} (hk : m_ks s KM L) (hc : c < 2 ^ 62) : k_cti (tX12_isNamed G l) [vR (some b), vI (nI (r_pl c KM)), vJ (lN c)] (m_hp b s h) (m_p b h (fun s1 v => s1 = s ∧ v = kB (r_at c KM).isSome)) := by
  obtain ⟨e1, e2, e3, e4⟩ := hk
  have hle := r_pl_le c KM
  refine k_cti_of (eX12_isNamed ok.2 ?_)
  refine mX12_isNamed_0 (fun c1 => ?_) (fun c1 => ?_)
  · rw [e1] at c1
    have c2 := (nI_leI (by omega) (by omega)).mp c1
    refine bX12_isNamed_23 (bX12_isNamed_24 (Or.inl rfl) ⟨_, rfl, s, rfl, rfl, ?_⟩)
    unfold r_at
    rw [List.getElem?_eq_none c2]
    rfl
  · rw [e1] at c1
    have c2 : r_pl c KM < KM.length := by
      have c0 : ¬ KM.length ≤ r_pl c KM := fun z => c1 ((nI_leI (by omega) (by omega)).mpr z)
      omega
    obtain ⟨x, hx⟩ : ∃ x, KM[r_pl c KM]? = some x := ⟨_, List.getElem?_eq_getElem c2⟩
    obtain ⟨hx1, -, hx3⟩ := e3 _ _ hx
    refine mX12_isNamed_8 (m_ii (by omega) (by omega)) (fun c3 => ?_) (fun c3 => ?_)
    · rw [nI_clamp (by omega), hx1] at c3
      refine bX12_isNamed_23 (bX12_isNamed_24 (Or.inl rfl) ⟨_, rfl, s, rfl, rfl, ?_⟩)
      unfold r_at
      rw [hx]
      simp only [if_neg (show ¬ x.1 = c from fun z => c3 (by rw [z]))]
      rfl
    · rw [nI_clamp (by omega), hx1] at c3
      have c4 := (lX_eq (by omega) hc).mp c3
      refine bX12_isNamed_19 (bX12_isNamed_24 (Or.inr rfl) ⟨_, rfl, s, rfl, rfl, ?_⟩)
      unfold r_at
      rw [hx]
      simp only [if_pos c4]
      rfl
theorem c_X12_entryAt (ok : k_ok G l) {b : Nat} {s : m_S} {h : k_H} {KM : List k_K2} {L : List k_E4} {i n n0 : Nat} {x : k_K2} (hk : m_st s KM L n0) (hx : KM[i]? = some x) (hn : n < 2 ^ 31) : k_cti (tX12_entryAt G l) [vR (some b), vI (nI i), vI (nI n)] (m_hp b s h) (m_p b h (fun s1 v => s1 = s ∧ v = m_lk x.1 n L)) := by
  obtain ⟨⟨e1, e2, e3, e4⟩, e5, e6, e7, e8, e9, e10, e11⟩ := hk
  have hi := (List.getElem?_eq_some_iff.mp hx).1
  refine k_cti_of (eX12_entryAt ok.2 (mX12_entryAt_0 (m_ii (by omega) (by omega)) ?_))
  rw [nI_clamp (by omega), (e3 _ _ hx).2.1]
  have key : ∀ t : List k_E4, m_log s t → t.length ≤ 420000 → (∀ y ∈ t, y.2.2.1 ≤ n0) → k_X (jX12_entryAt G l (m_hp b s h)) (m_hp b s h) 7 [(0, vR (some b)), (2, vI (nI n)), (3, vI (m_hd x.1 t))] [] (q_i (m_p b h (fun s1 v => s1 = s ∧ v = m_lk x.1 n t))) := by
    intro t
    induction t with
    | nil => exact fun _ _ _ => bX12_entryAt_7 (fun _ => bX12_entryAt_31 ⟨_, rfl, s, rfl, rfl, rfl⟩) (fun z => absurd nI_neg1 z)
    | cons y t ih =>
      intro hl hlen hy
      have hlen2 : t.length < 420000 := by simp at hlen; omega
      obtain ⟨⟨q1, q2, q3, q4, q5⟩, q6⟩ := hl
      have ih2 := ih q6 (by omega) (fun z hz => hy z (List.mem_cons_of_mem _ hz))
      by_cases e : y.2.1 = x.1
      · have eh : m_hd x.1 (y :: t) = nI t.length := by unfold m_hd; rw [r_fst_eq e, q1]
        rw [eh]
        have hv := hy y List.mem_cons_self
        refine bX12_entryAt_7 (fun z => absurd z (nI_pos (by omega))) (fun _ => ?_)
        refine mX12_entryAt_11 (m_ii (by omega) (by omega)) (fun c1 => ?_) (fun c1 => ?_)
        · rw [nI_clamp (by omega), q2] at c1
          have c2 := (nI_leI (by omega) hn).mp c1
          refine bX12_entryAt_31 ⟨_, rfl, s, rfl, rfl, ?_⟩
          unfold m_lk r_look
          rw [r_get_eq e c2, ← q1]
          rfl
        · rw [nI_clamp (by omega), q2] at c1
          have c2 : ¬ y.2.2.1 ≤ n := fun z => c1 ((nI_leI (by omega) hn).mpr z)
          refine mX12_entryAt_21 (m_ii (by omega) (by omega)) ?_
          rw [nI_clamp (by omega), q5, e]
          unfold m_lk r_look at ih2 ⊢
          rw [r_get_ne (fun z => c2 z.2)]
          exact ih2
      · have eh : m_hd x.1 (y :: t) = m_hd x.1 t := by unfold m_hd; rw [r_fst_ne e]
        rw [eh]
        unfold m_lk r_look at ih2 ⊢
        rw [r_get_ne (fun z => e z.1)]
        exact ih2
  exact key L e7 e6 e10
theorem m_lk_ok {s : m_S} {L : List k_E4} (hL : m_log s L) (c n : Nat) : (m_lk c n L = -1 ∧ r_val c n L = none) ∨ (∃ x ∈ L, r_get c n L = some x ∧ m_lk c n L = nI x.1 ∧ r_val c n L = x.2.2.2) := by
  unfold m_lk r_look r_val
  cases e : r_get c n L with
  | none => exact Or.inl ⟨rfl, rfl⟩
  | some x =>
    unfold r_get at e
    exact Or.inr ⟨x, List.mem_of_find?_eq_some e, rfl, rfl, rfl⟩
theorem c_X12_hasAt (ok : k_ok G l) {b : Nat} {s : m_S} {h : k_H} {KM : List k_K2} {L : List k_E4} {i n n0 : Nat} {x : k_K2} (hk : m_st s KM L n0) (hx : KM[i]? = some x) (hn : n < 2 ^ 31) : k_cti (tX12_hasAt G l) [vR (some b), vI (nI i), vI (nI n)] (m_hp b s h) (m_p b h (fun s1 v => s1 = s ∧ v = kB (r_val x.1 n L).isSome)) := by
  have hL := hk.2.2.2.1
  have hlen := hk.2.2.1
  refine k_cti_of (eX12_hasAt ok.2 (mX12_hasAt_0 (c_X12_entryAt ok hk hx hn) ?_))
  rintro _ _ ⟨rfl, rfl⟩
  rcases m_lk_ok hL x.1 n with ⟨e1, e2⟩ | ⟨y, hy, -, e1, e2⟩
  · rw [e1, e2]
    exact bX12_hasAt_6 (fun _ => bX12_hasAt_24 (bX12_hasAt_25 (Or.inl rfl) ⟨_, rfl, _, rfl, rfl, rfl⟩)) (fun z => absurd nI_neg1 z)
  · rw [e1, e2]
    obtain ⟨m1, m2, m3, m4⟩ := m_log_mem hL hy
    refine bX12_hasAt_6 (fun z => absurd z (nI_pos (by omega))) (fun _ => ?_)
    refine mX12_hasAt_11 (m_ii (by omega) (by omega)) (fun c1 => ?_) (fun c1 => ?_)
    · rw [nI_clamp (by omega), m3, kB_0] at c1
      exact bX12_hasAt_24 (bX12_hasAt_25 (Or.inl rfl) ⟨_, rfl, _, rfl, rfl, by rw [c1]; rfl⟩)
    · rw [nI_clamp (by omega), m3, kB_n0] at c1
      exact bX12_hasAt_20 (bX12_hasAt_25 (Or.inr rfl) ⟨_, rfl, _, rfl, rfl, by rw [c1]; rfl⟩)
theorem c_X12_valueAt (ok : k_ok G l) {b : Nat} {s : m_S} {h : k_H} {KM : List k_K2} {L : List k_E4} {i n n0 : Nat} {x : k_K2} (hk : m_st s KM L n0) (hx : KM[i]? = some x) (hn : n < 2 ^ 31) : k_cti (tX12_valueAt G l) [vR (some b), vI (nI i), vI (nI n)] (m_hp b s h) (m_p b h (fun s1 v => s1 = s ∧ v = o_told (r_val x.1 n L))) := by
  have hL := hk.2.2.2.1
  have hlen := hk.2.2.1
  refine k_cti_of (eX12_valueAt ok.2 (mX12_valueAt_0 (c_X12_entryAt ok hk hx hn) ?_))
  rintro _ _ ⟨rfl, rfl⟩
  rcases m_lk_ok hL x.1 n with ⟨e1, e2⟩ | ⟨y, hy, -, e1, e2⟩
  · rw [e1, e2]
    exact bX12_valueAt_6 (fun _ => bX12_valueAt_29 (bX12_valueAt_31 ⟨_, rfl, _, rfl, rfl, rfl⟩)) (fun z => absurd nI_neg1 z)
  · rw [e1, e2]
    obtain ⟨m1, m2, m3, m4⟩ := m_log_mem hL hy
    refine bX12_valueAt_6 (fun z => absurd z (nI_pos (by omega))) (fun _ => ?_)
    refine mX12_valueAt_11 (m_ii (by omega) (by omega)) (fun c1 => ?_) (fun c1 => ?_)
    · rw [nI_clamp (by omega), m3, kB_0] at c1
      refine bX12_valueAt_29 (bX12_valueAt_31 ⟨_, rfl, _, rfl, rfl, ?_⟩)
      cases e : y.2.2.2 with
      | none => rfl
      | some w => rw [e] at c1; cases c1
    · rw [nI_clamp (by omega), m3, kB_n0] at c1
      refine mX12_valueAt_20 (m_ii (by omega) (by omega)) (bX12_valueAt_31 ⟨_, rfl, _, rfl, rfl, ?_⟩)
      rw [nI_clamp (by omega), m4]
      cases e : y.2.2.2 with
      | none => rw [e] at c1; cases c1
      | some w => rfl
theorem r_val_none {c n : Nat} {KM : List k_K2} {L : List k_E4} (s : KM.Pairwise (fun x y => x.1 < y.1)) (hin : r_in KM L) (h : r_at c KM = none) : r_val c n L = none := by
  have := r_look_none (n := n) s hin h
  unfold r_look at this
  unfold r_val
  rw [Option.map_eq_none_iff.mp this]
  rfl
theorem r_at_get {c a : Nat} {KM : List k_K2} (h : r_at c KM = some a) : KM[r_pl c KM]? = some (c, a) := by
  unfold r_at at h
  cases e : KM[r_pl c KM]? with
  | none => rw [e] at h; cases h
  | some x =>
    rw [e] at h
    by_cases z : x.1 = c
    · simp only [if_pos z] at h
      cases h
      rw [← z]
    · simp only [if_neg z] at h
      cases h
theorem c_X12_hasNow (ok : k_ok G l) {b : Nat} {s : m_S} {h : k_H} {KM : List k_K2} {L : List k_E4} {c n : Nat} (hk : m_st s KM L n) (hc : c < 2 ^ 62) : k_cti (tX12_hasNow G l) [vR (some b), vJ (lN c)] (m_hp b s h) (m_p b h (fun s1 v => s1 = s ∧ v = kB (r_val c n L).isSome)) := by
  refine k_cti_of (eX12_hasNow ok.2 (mX12_hasNow_0 (c_X12_placeOf ok hk.1 hc) ?_))
  rintro _ _ ⟨rfl, rfl⟩
  refine mX12_hasNow_5 (c_X12_isNamed ok hk.1 hc) ?_
  rintro _ _ ⟨rfl, rfl⟩
  have e0 := hk.2.2.2.2.1
  have e9 := hk.2.2.2.2.2.1
  cases e : r_at c KM with
  | none =>
    refine bX12_hasNow_12 (fun _ => bX12_hasNow_31 (bX12_hasNow_32 (Or.inl rfl) ⟨_, rfl, _, rfl, rfl, ?_⟩)) (fun z => absurd rfl z)
    rw [r_val_none hk.1.2.2.2 hk.2.2.2.2.2.2.2 e]
    rfl
  | some a =>
    refine bX12_hasNow_12 (fun z => absurd z (kB_n0.mpr rfl)) (fun _ => ?_)
    refine mX12_hasNow_15 (by rw [e0]; exact c_X12_hasAt ok hk (r_at_get e) (by omega)) ?_
    rintro _ _ ⟨rfl, rfl⟩
    refine bX12_hasNow_24 (fun c1 => ?_) (fun c1 => ?_)
    · exact bX12_hasNow_31 (bX12_hasNow_32 (Or.inl rfl) ⟨_, rfl, _, rfl, rfl, c1.symm⟩)
    · rw [kB_n0] at c1
      exact bX12_hasNow_27 (bX12_hasNow_32 (Or.inr rfl) ⟨_, rfl, _, rfl, rfl, by rw [c1]; rfl⟩)
theorem c_X12_valueNow (ok : k_ok G l) {b : Nat} {s : m_S} {h : k_H} {KM : List k_K2} {L : List k_E4} {c n : Nat} (hk : m_st s KM L n) (hc : c < 2 ^ 62) : k_cti (tX12_valueNow G l) [vR (some b), vJ (lN c)] (m_hp b s h) (m_p b h (fun s1 v => s1 = s ∧ v = o_told (r_val c n L))) := by
  refine k_cti_of (eX12_valueNow ok.2 (mX12_valueNow_0 (c_X12_placeOf ok hk.1 hc) ?_))
  rintro _ _ ⟨rfl, rfl⟩
  refine mX12_valueNow_5 (c_X12_isNamed ok hk.1 hc) ?_
  rintro _ _ ⟨rfl, rfl⟩
  have e0 := hk.2.2.2.2.1
  have e9 := hk.2.2.2.2.2.1
  cases e : r_at c KM with
  | none =>
    refine bX12_valueNow_12 (fun _ => bX12_valueNow_27 (bX12_valueNow_29 ⟨_, rfl, _, rfl, rfl, ?_⟩)) (fun z => absurd rfl z)
    rw [r_val_none hk.1.2.2.2 hk.2.2.2.2.2.2.2 e]
    rfl
  | some a =>
    refine bX12_valueNow_12 (fun z => absurd z (kB_n0.mpr rfl)) (fun _ => ?_)
    refine mX12_valueNow_15 (by rw [e0]; exact c_X12_valueAt ok hk (r_at_get e) (by omega)) ?_
    rintro _ _ ⟨rfl, rfl⟩
    exact bX12_valueNow_24 (bX12_valueNow_29 ⟨_, rfl, _, rfl, rfl, rfl⟩)
end MQ
