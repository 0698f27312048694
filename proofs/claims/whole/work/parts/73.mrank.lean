/-! THE REFERENCE'S RANKS, WATCHES AND MARKS -/
def rk_v (M : s_M) (c : Nat) : Option Int32 := r_val c (g_n M) (g_E M).2.1
def rk_1 (M : s_M) (field : Int32) (anew : Bool) (k : Nat) : Int32 :=
  if anew = true then (if (rk_v M (sv_re (nI k))).isSome && decide (¬ field ≤ o_told (rk_v M (sv_re (nI k)))) then 1 else 0)
  else if (rk_v M (s_cd (-3) (nI k) 10000)).isSome && decide (¬ field ≤ nI k) then o_told (rk_v M (s_cd (-3) (nI k) 10000)) else 0
def rk_sum (M : s_M) (field : Int32) (anew : Bool) : Int32 := (List.range' 0 100).foldl (fun a k => a + rk_1 M field anew k) 0
def F_ranked (M : s_M) (field : Int32) (anew : Bool) : s_M × Nat × Int32 := if s_inB field 0 99 = false then (M, 1, 0) else (M, 0, rk_sum M field anew)
def F_rank (M : s_M) (field : Int32) : s_M × Nat × Int32 := F_ranked M field false
def F_rankAnew (M : s_M) (field : Int32) : s_M × Nat × Int32 := F_ranked M field true
def g_wts (M : s_M) (WT : List (Nat × Int32)) : s_M := (M.1, M.2.1, M.2.2.1, WT, M.2.2.2.2)
def g_mks (M : s_M) (MK : List Nat) : s_M := (M.1, M.2.1, M.2.2.1, M.2.2.2.1, MK, M.2.2.2.2.2)
def F_watch (M : s_M) (a b c : Int32) : s_M × Nat × Int32 := if s_keyB a b c = false then (M, 1, 0) else if (g_WT M).length = 20 then (M, 2, 0) else (g_wts M (g_WT M ++ [(s_cd a b c, -2147483648)]), 0, nI (g_WT M).length)
def F_fired (M : s_M) (x : Int32) : s_M × Nat × Int32 := if s_inB x 0 (nI (g_WT M).length - 1) = false then (M, 1, 0) else (M, 0, match (g_WT M)[t_of x]? with | some w => w.2 | none => 0)
def F_mark (M : s_M) : s_M × Nat × Int32 := if (g_MK M).length = 10 then (M, 1, 0) else (g_mks M (g_MK M ++ [g_n M]), 0, nI (g_MK M).length)
def F_parts (M : s_M) : s_M × Nat × Int32 := (M, 0, nI (g_PT M).length)
theorem s_in_ {x : Int32} {k : Nat} (hk : k < 2 ^ 20) (h : s_inB x 0 (nI k - 1) = true) : ∃ j, j < k ∧ x = nI j ∧ t_of x = j := by
  by_cases e : k = 0
  · subst e
    exfalso
    unfold s_inB at h
    simp only [Bool.and_eq_true, decide_eq_true_eq] at h
    obtain ⟨h1, h2⟩ := h
    have h3 : ¬ x.toInt < (0 : Int32).toInt := fun z => h1 (Int32.lt_iff_toInt_lt.mpr z)
    have h4 : ¬ (nI 0 - 1).toInt < x.toInt := fun z => h2 (Int32.lt_iff_toInt_lt.mpr z)
    have e1 : (nI 0 - 1).toInt = -1 := by decide
    have e2 : (0 : Int32).toInt = 0 := by decide
    omega
  · obtain ⟨m, rfl⟩ : ∃ m, k = m + 1 := ⟨k - 1, by omega⟩
    have e1 : nI (m + 1) - 1 = nI m := by rw [← nI_1]; exact Int32.add_sub_cancel (nI m) 1
    rw [e1] at h
    obtain ⟨a, c⟩ := s_inN (by omega) h
    exact ⟨_, by omega, a, rfl⟩
section MRK
variable {G : k_G} {l : Launch}
theorem c_X12_ranked (ok : k_ok G l) {b : Nat} {s : m_S} {h : k_H} {M : s_M} {field : Int32} {anew : Bool} (hM : m_M s M) : k_cti (tX12_ranked G l) [vR (some b), vI field, vI (kB anew)] (m_hp b s h) (m_p b h (m_R (F_ranked M field anew))) := by
  refine k_cti_of (eX12_ranked ok.2 (mX12_ranked_0 (m_stI (c_X12_isIn ok)) ?_))
  rintro _ _ ⟨hr, rfl⟩
  rw [hr]
  cases hin : s_inB field 0 99 with
  | false =>
    have hF : F_ranked M field anew = (M, 1, 0) := by unfold F_ranked; rw [if_pos hin]
    rw [hF]
    refine bX12_ranked_8 (fun _ => bX12_ranked_15 (mX12_ranked_16 (c_X12_goes ok) ?_)) (fun z => absurd rfl z)
    rintro _ _ ⟨hr, rfl⟩
    rw [hr]
    exact bX12_ranked_19 (fun z => absurd rfl z) (fun _ => bX12_ranked_22 ⟨_, rfl, _, rfl, m_thr (k := 1) hM (by decide)⟩)
  | true =>
    have hF : F_ranked M field anew = (M, 0, rk_sum M field anew) := by unfold F_ranked; rw [hin, if_neg (by decide)]
    rw [hF]
    refine bX12_ranked_8 (fun z => absurd z (by decide)) (fun _ => bX12_ranked_11 (mX12_ranked_16 (c_X12_goes ok) ?_))
    rintro _ _ ⟨hr, rfl⟩
    rw [hr]
    obtain ⟨a1, a2⟩ := m_ok hM
    generalize m_si s 52 0 = r at a1 a2
    have key : ∀ (d k : Nat) (acc : Int32), k + d = 100 → (List.range' k d).foldl (fun a k => a + rk_1 M field anew k) acc = rk_sum M field anew → k_X (jX12_ranked G l (m_hp b s h)) (m_hp b r h) 29 [(0, vR (some b)), (1, vI field), (2, vI (kB anew)), (3, vI acc), (4, vI (nI k))] [] (q_i (m_p b h (m_R (M, 0, rk_sum M field anew)))) := by
      intro d
      induction d with
      | zero =>
        intro k acc hkd he
        exact bX12_ranked_29 (fun _ => bX12_ranked_132 ⟨_, rfl, r, rfl, a1, a2, fun _ => he⟩) (fun z => absurd (by rw [show k = 100 by omega]; decide) z)
      | succ d ih =>
        intro k acc hkd he
        rw [List.range'_succ, List.foldl_cons] at he
        have kn : s_na (nI k) := e_n_na (by omega)
        have nm3 : s_na (-3) := sv_na (by decide)
        have hre : sv_re (nI k) < 1331000000000 := s_cd_lt (sv_na (z := -1) (by decide)) kn (Or.inl rfl)
        have hc3 : s_cd (-3) (nI k) 10000 < 1331000000000 := s_cd_lt nm3 kn (Or.inl rfl)
        have nx : ∀ y : Int32, rk_1 M field anew k = y → k_X (jX12_ranked G l (m_hp b s h)) (m_hp b r h) 124 [(0, vR (some b)), (1, vI field), (2, vI (kB anew)), (4, vI (nI k))] [vI y, vI acc] (q_i (m_p b h (m_R (M, 0, rk_sum M field anew)))) := by
          intro y hy
          refine bX12_ranked_124 ?_
          rw [nI_1]
          rw [hy] at he
          exact ih (k + 1) _ (by omega) he
        refine bX12_ranked_29 (fun z => absurd z (nI_ge (b := 100) (by omega) (by omega))) (fun _ => ?_)
        cases anew with
        | false =>
          have e1 : rk_1 M field false k = if (rk_v M (s_cd (-3) (nI k) 10000)).isSome && decide (¬ field ≤ nI k) then o_told (rk_v M (s_cd (-3) (nI k) 10000)) else 0 := by unfold rk_1; rw [if_neg (by decide)]
          refine bX12_ranked_36 (fun _ => mX12_ranked_48 (m_stJ (c_X12_codeOf ok nm3 kn (Or.inl rfl))) ?_) (fun z => absurd rfl z)
          rintro _ _ ⟨hr, rfl⟩
          rw [hr]
          refine mX12_ranked_58 (c_X12_hasNow ok a1.1.1 (by omega)) ?_
          rintro _ _ ⟨hr, rfl⟩
          rw [hr]
          have ev : r_val (s_cd (-3) (nI k) 10000) (g_n M) (g_E M).2.1 = rk_v M (s_cd (-3) (nI k) 10000) := rfl
          rw [ev]
          have no : ((rk_v M (s_cd (-3) (nI k) 10000)).isSome && decide (¬ field ≤ nI k)) = false → k_X (jX12_ranked G l (m_hp b s h)) (m_hp b r h) 83 [(0, vR (some b)), (1, vI field), (2, vI (kB false)), (3, vI acc), (4, vI (nI k)), (5, vJ (lN (s_cd (-3) (nI k) 10000)))] [] (q_i (m_p b h (m_R (M, 0, rk_sum M field false)))) := fun e => bX12_ranked_83 (bX12_ranked_84 (fun z => absurd rfl z) (fun _ => bX12_ranked_92 (nx 0 (by rw [e1, if_neg (by rw [e]; decide)]))))
          refine bX12_ranked_66 (fun c1 => no (by rw [kB_0] at c1; rw [c1]; rfl)) (fun c1 => bX12_ranked_69 (fun z => absurd rfl z) (fun _ => bX12_ranked_73 (fun c2 => no (by rw [decide_eq_false (fun z => z c2), Bool.and_false])) (fun c2 => bX12_ranked_79 (bX12_ranked_84 (fun _ => bX12_ranked_96 (fun _ => mX12_ranked_118 (c_X12_valueNow ok a1.1.1 (by omega)) ?_) (fun z => absurd rfl z)) (fun z => absurd z (by decide))))))
          rintro _ _ ⟨hr, rfl⟩
          rw [hr]
          rw [kB_n0] at c1
          exact nx _ (by rw [e1, if_pos (by rw [c1, decide_eq_true c2]; rfl)]; rfl)
        | true =>
          have e1 : rk_1 M field true k = if (rk_v M (sv_re (nI k))).isSome && decide (¬ field ≤ o_told (rk_v M (sv_re (nI k)))) then 1 else 0 := by unfold rk_1; rw [if_pos rfl]
          refine bX12_ranked_36 (fun z => absurd z (by decide)) (fun _ => mX12_ranked_40 (m_stJ (c_X12_recordOf ok kn)) ?_)
          rintro _ _ ⟨hr, rfl⟩
          rw [hr]
          refine bX12_ranked_45 (mX12_ranked_58 (c_X12_hasNow (c := sv_re (nI k)) ok a1.1.1 (by omega)) ?_)
          rintro _ _ ⟨hr, rfl⟩
          rw [hr]
          have ev : r_val (sv_re (nI k)) (g_n M) (g_E M).2.1 = rk_v M (sv_re (nI k)) := rfl
          rw [ev]
          refine bX12_ranked_66 (fun c1 => ?_) (fun c1 => bX12_ranked_69 (fun _ => bX12_ranked_79 (bX12_ranked_84 (fun _ => bX12_ranked_96 (fun z => absurd z (by decide)) (fun _ => mX12_ranked_100 (c_X12_valueNow (c := sv_re (nI k)) ok a1.1.1 (by omega)) ?_)) (fun z => absurd z (by decide)))) (fun z => absurd z (by decide)))
          · rw [kB_0] at c1
            exact bX12_ranked_83 (bX12_ranked_84 (fun z => absurd rfl z) (fun _ => bX12_ranked_92 (nx 0 (by rw [e1, if_neg (by rw [c1, Bool.false_and]; decide)]))))
          · rintro _ _ ⟨hr, rfl⟩
            rw [hr]
            rw [kB_n0] at c1
            rw [ev]
            refine bX12_ranked_106 (fun c2 => bX12_ranked_114 (nx 0 ?_)) (fun c2 => bX12_ranked_110 (nx 1 ?_))
            · rw [e1, if_neg (by rw [decide_eq_false (fun z => z c2), Bool.and_false]; decide)]
            · rw [e1, if_pos (by rw [c1, decide_eq_true c2]; rfl)]
    exact bX12_ranked_19 (fun _ => bX12_ranked_24 (key 100 0 0 rfl rfl)) (fun z => absurd z (by decide))
theorem c_X12_rank (ok : k_ok G l) {b : Nat} {s : m_S} {h : k_H} {M : s_M} {field : Int32} (hM : m_M s M) : k_cti (tX12_rank G l) [vR (some b), vI field] (m_hp b s h) (m_p b h (m_R (F_rank M field))) := by
  refine k_cti_of (eX12_rank ok.2 (mX12_rank_0 (c_X12_ranked (anew := false) ok hM) ?_))
  intro r v hR
  exact bX12_rank_6 ⟨_, rfl, r, rfl, hR⟩
theorem c_X12_rankAnew (ok : k_ok G l) {b : Nat} {s : m_S} {h : k_H} {M : s_M} {field : Int32} (hM : m_M s M) : k_cti (tX12_rankAnew G l) [vR (some b), vI field] (m_hp b s h) (m_p b h (m_R (F_rankAnew M field))) := by
  refine k_cti_of (eX12_rankAnew ok.2 (mX12_rankAnew_0 (c_X12_ranked (anew := true) ok hM) ?_))
  intro r v hR
  exact bX12_rankAnew_6 ⟨_, rfl, r, rfl, hR⟩
theorem c_X12_fired (ok : k_ok G l) {b : Nat} {s : m_S} {h : k_H} {M : s_M} {x : Int32} (hM : m_M s M) : k_cti (tX12_fired G l) [vR (some b), vI x] (m_hp b s h) (m_p b h (m_R (F_fired M x))) := by
  have hw := hM.2.2.2.1
  refine k_cti_of (eX12_fired ok.2 (mX12_fired_0 (by rw [hw.1]; exact m_stI (c_X12_isIn ok)) ?_))
  rintro _ _ ⟨hr, rfl⟩
  rw [hr]
  cases hin : s_inB x 0 (nI (g_WT M).length - 1) with
  | false =>
    have hF : F_fired M x = (M, 1, 0) := by unfold F_fired; rw [if_pos hin]
    rw [hF]
    refine bX12_fired_12 (fun _ => bX12_fired_19 (mX12_fired_20 (c_X12_goes ok) ?_)) (fun z => absurd rfl z)
    rintro _ _ ⟨hr, rfl⟩
    rw [hr]
    exact bX12_fired_23 (fun _ => bX12_fired_35 (bX12_fired_36 ⟨_, rfl, _, rfl, m_thr (k := 1) hM (by decide)⟩)) (fun z => absurd rfl z)
  | true =>
    obtain ⟨j, hj, rfl, ej⟩ := s_in_ (by have := hw.2.1; omega) hin
    obtain ⟨w, hw9⟩ : ∃ w, (g_WT M)[j]? = some w := ⟨_, List.getElem?_eq_getElem hj⟩
    have hF : F_fired M (nI j) = (M, 0, w.2) := by unfold F_fired; rw [hin, if_neg (by decide), ej, hw9]
    rw [hF]
    refine bX12_fired_12 (fun z => absurd z (by decide)) (fun _ => bX12_fired_15 (mX12_fired_20 (c_X12_goes ok) ?_))
    rintro _ _ ⟨hr, rfl⟩
    rw [hr]
    obtain ⟨a1, a2⟩ := m_ok hM
    generalize m_si s 52 0 = r at a1 a2
    have hl := hw.2.1
    refine bX12_fired_23 (fun z => absurd z (by decide)) (fun _ => mX12_fired_26 (m_ii (by omega) (by omega)) (bX12_fired_36 ⟨_, rfl, r, rfl, a1, a2, fun _ => ?_⟩))
    rw [nI_clamp (by omega), (a1.2.2.2.1.2.2 j w hw9).2.1]
theorem c_X12_watch (ok : k_ok G l) {b : Nat} {s : m_S} {h : k_H} {M : s_M} {a b' c : Int32} (hM : m_M s M) : k_cti (tX12_watch G l) [vR (some b), vI a, vI b', vI c] (m_hp b s h) (m_p b h (m_R (F_watch M a b' c))) := by
  refine k_cti_of (eX12_watch ok.2 (mX12_watch_0 (m_stI (c_X12_isKey ok)) ?_))
  rintro _ _ ⟨hr, rfl⟩
  rw [hr]
  have thr : ∀ k : Nat, ¬ k = 0 → k < 9 → F_watch M a b' c = (M, k, 0) → k_X (jX12_watch G l (m_hp b s h)) (m_hp b s h) 32 [(0, vR (some b)), (1, vI a), (2, vI b'), (3, vI c)] [vI (nI k), vR (some b)] (q_i (m_p b h (m_R (F_watch M a b' c)))) := by
    intro k hk hk9 he
    refine mX12_watch_32 (c_X12_goes ok) ?_
    rintro _ _ ⟨hr, rfl⟩
    rw [hr, he]
    have hne : ¬ nI k = 0 := fun z => hk ((nI_eq (b := 0) (by omega) (by omega)).mp z)
    exact bX12_watch_35 (fun z => absurd (by rw [decide_eq_false hne]; rfl) z) (fun _ => bX12_watch_38 ⟨_, rfl, _, rfl, m_thr hM hk⟩)
  have hw := hM.2.2.2.1
  have hl := hw.2.1
  cases hkey : s_keyB a b' c with
  | false => exact bX12_watch_6 (fun z => absurd rfl z) (fun _ => bX12_watch_14 (thr 1 (by decide) (by decide) (by unfold F_watch; rw [if_pos hkey])))
  | true =>
    obtain ⟨na, nb, nc⟩ := s_keyB_na hkey
    refine bX12_watch_6 (fun _ => mX12_watch_18 (fun c1 => bX12_watch_31 ?_) (fun c1 => bX12_watch_27 (thr 2 (by decide) (by decide) ?_))) (fun z => absurd z (by decide))
    · rw [hw.1] at c1
      have c2 : ¬ (g_WT M).length = 20 := fun z => c1 (by rw [z]; rfl)
      have hF : F_watch M a b' c = (g_wts M (g_WT M ++ [(s_cd a b' c, -2147483648)]), 0, nI (g_WT M).length) := by unfold F_watch; rw [hkey, if_neg (by decide), if_neg c2]
      rw [hF]
      refine mX12_watch_32 (c_X12_goes ok) ?_
      rintro _ _ ⟨hr, rfl⟩
      rw [hr]
      obtain ⟨a1, a2⟩ := m_ok hM
      generalize m_si s 52 0 = r at a1 a2
      refine bX12_watch_35 (fun _ => mX12_watch_40 (m_stJ (c_X12_codeOf ok na nb nc)) ?_) (fun z => absurd z (by decide))
      rintro _ _ ⟨hr, rfl⟩
      rw [hr]
      obtain ⟨w1, w2, w3⟩ := id a1.2.2.2.1
      have yl : vp_in (r.1 42) 20 := by rw [w1]; exact m_ii (by omega) (by omega)
      have el : (r.1 42).toNatClampNeg = (g_WT M).length := by rw [w1]; exact nI_clamp (by omega)
      refine mX12_watch_54 (i9 := 30) rfl (by decide) (by decide) yl (mX12_watch_55 yl (mX12_watch_66 (mX12_watch_76 ⟨_, rfl, _, rfl, ?_, a2, fun _ => ?_⟩)))
      · rw [show (m_sj r 30 (va_up (r.2.2 30) (r.1 42).toNatClampNeg (lN (s_cd a b' c)))).1 42 = r.1 42 from rfl, el]
        have hf : m_fr [42] [30, 31] r (m_si (m_sa (m_sj r 30 (va_up (r.2.2 30) (g_WT M).length (lN (s_cd a b' c)))) 31 (va_up ((m_sj r 30 (va_up (r.2.2 30) (g_WT M).length (lN (s_cd a b' c)))).2.1 31) (g_WT M).length (-2147483648))) 42 (r.1 42 + 1)) := by
          refine ⟨fun k hk => ?_, fun i hi => ?_⟩
          · show (if k = 42 then _ else r.1 k) = _
            rw [if_neg (by simpa using hk)]
          · simp only [List.mem_cons, List.not_mem_nil, or_false, not_or] at hi
            show (if i = 31 then _ else r.2.1 i) = _ ∧ (if i = 30 then _ else r.2.2 i) = _
            rw [if_neg hi.2, if_neg hi.1]
            exact ⟨rfl, rfl⟩
        obtain ⟨h1, ⟨h2, h3, h4, h5⟩, h6, h7, h8, h9, h10⟩ := a1
        refine ⟨m_E_fr h1 hf (by simp) (fun i h1 h2 => by simp; omega), ⟨(hf.1 1 (by simp)).trans h2, m_lo_fr h3 hf (by simp), (hf.1 32 (by simp)).trans h4, (hf.1 19 (by simp)).trans h5⟩, fun u hu => m_tx_tk (h6 u hu) (m_tk_fr hf (fun i h1 h2 => by simp; omega)), ⟨?_, ?_, ?_⟩, m_mk_fr h8 hf (by simp) (by simp), m_pt_fr h9 hf (by simp) (by simp), m_ds_fr h10 hf (by simp) (by simp)⟩
        · show r.1 42 + 1 = nI (g_WT M ++ [_]).length
          rw [w1, nI_1, List.length_append]
          rfl
        · show (g_WT M ++ [_]).length ≤ 20
          rw [List.length_append, List.length_singleton]
          omega
        · intro i w hi
          have hi2 : (g_WT M ++ [(s_cd a b' c, (-2147483648 : Int32))])[i]? = some w := hi
          show va_up (r.2.2 30) (g_WT M).length (lN (s_cd a b' c)) i = _ ∧ va_up (r.2.1 31) (g_WT M).length (-2147483648) i = _ ∧ _
          by_cases e : i < (g_WT M).length
          · rw [List.getElem?_append_left e] at hi2
            rw [va_up_ne _ _ (by omega), va_up_ne _ _ (by omega)]
            exact w3 i w hi2
          · have e2 : i = (g_WT M).length := by
              have := (List.getElem?_eq_some_iff.mp hi2).1
              simp at this; omega
            rw [e2] at hi2 ⊢
            simp at hi2
            subst hi2
            rw [va_up_self, va_up_self]
            exact ⟨rfl, rfl, s_cd_lt na nb nc⟩
      · show r.1 42 + 1 - 1 = nI (g_WT M).length
        rw [w1]
        exact Int32.add_sub_cancel _ _
    · rw [hw.1] at c1
      have c2 : (g_WT M).length = 20 := (nI_eq (b := 20) (by omega) (by omega)).mp c1
      unfold F_watch
      rw [hkey, if_neg (by decide), if_pos c2]
theorem c_X12_mark (ok : k_ok G l) {b : Nat} {s : m_S} {h : k_H} {M : s_M} (hM : m_M s M) : k_cti (tX12_mark G l) [vR (some b)] (m_hp b s h) (m_p b h (m_R (F_mark M))) := by
  obtain ⟨w1, w2, w3⟩ := id hM.2.2.2.2.1
  refine k_cti_of (eX12_mark ok.2 (mX12_mark_0 (fun c1 => ?_) (fun c1 => ?_)))
  · rw [w1] at c1
    have c2 : ¬ (g_MK M).length = 10 := fun z => c1 (by rw [z]; rfl)
    have hF : F_mark M = (g_mks M (g_MK M ++ [g_n M]), 0, nI (g_MK M).length) := by unfold F_mark; rw [if_neg c2]
    rw [hF]
    refine bX12_mark_14 (mX12_mark_15 (c_X12_goes ok) ?_)
    rintro _ _ ⟨hr, rfl⟩
    rw [hr]
    obtain ⟨a1, a2⟩ := m_ok hM
    generalize m_si s 52 0 = r at a1 a2
    obtain ⟨w1, w2, w3⟩ := id a1.2.2.2.2.1
    have yl : vp_in (r.1 47) 10 := by rw [w1]; exact m_ii (by omega) (by omega)
    have el : (r.1 47).toNatClampNeg = (g_MK M).length := by rw [w1]; exact nI_clamp (by omega)
    have e0 : r.1 0 = nI (g_n M) := a1.1.1.2.2.2.2.1
    refine bX12_mark_18 (fun _ => mX12_mark_23 yl (mX12_mark_36 (mX12_mark_46 ⟨_, rfl, _, rfl, ?_, a2, fun _ => ?_⟩))) (fun z => absurd z (by decide))
    · rw [el, e0]
      have hf : m_fr [47] [34] r (m_si (m_sa r 34 (va_up (r.2.1 34) (g_MK M).length (nI (g_n M)))) 47 (r.1 47 + 1)) := by
        refine ⟨fun k hk => ?_, fun i hi => ?_⟩
        · show (if k = 47 then _ else r.1 k) = _
          rw [if_neg (by simpa using hk)]
        · show (if i = 34 then _ else r.2.1 i) = _ ∧ _
          rw [if_neg (by simpa using hi)]
          exact ⟨rfl, rfl⟩
      obtain ⟨h1, ⟨h2, h3, h4, h5⟩, h6, h7, h8, h9, h10⟩ := a1
      refine ⟨m_E_fr h1 hf (by simp) (fun i h1 h2 => by simp; omega), ⟨(hf.1 1 (by simp)).trans h2, m_lo_fr h3 hf (by simp), (hf.1 32 (by simp)).trans h4, (hf.1 19 (by simp)).trans h5⟩, fun u hu => m_tx_tk (h6 u hu) (m_tk_fr hf (fun i h1 h2 => by simp; omega)), m_wt_fr h7 hf (by simp) (by simp), ⟨?_, ?_, ?_⟩, m_pt_fr h9 hf (by simp) (by simp), m_ds_fr h10 hf (by simp) (by simp)⟩
      · show r.1 47 + 1 = nI (g_MK M ++ [_]).length
        rw [w1, nI_1, List.length_append]
        rfl
      · show (g_MK M ++ [_]).length ≤ 10
        rw [List.length_append, List.length_singleton]
        omega
      · intro i v hi
        have hi2 : (g_MK M ++ [g_n M])[i]? = some v := hi
        show va_up (r.2.1 34) (g_MK M).length (nI (g_n M)) i = _
        by_cases e : i < (g_MK M).length
        · rw [List.getElem?_append_left e] at hi2
          rw [va_up_ne _ _ (by omega)]
          exact w3 i v hi2
        · have e2 : i = (g_MK M).length := by
            have := (List.getElem?_eq_some_iff.mp hi2).1
            simp at this; omega
          rw [e2] at hi2 ⊢
          simp at hi2
          subst hi2
          rw [va_up_self]
    · show r.1 47 + 1 - 1 = nI (g_MK M).length
      rw [w1]
      exact Int32.add_sub_cancel _ _
  · rw [w1] at c1
    have c2 : (g_MK M).length = 10 := (nI_eq (b := 10) (by omega) (by omega)).mp c1
    have hF : F_mark M = (M, 1, 0) := by unfold F_mark; rw [if_pos c2]
    rw [hF]
    refine bX12_mark_10 (mX12_mark_15 (c_X12_goes ok) ?_)
    rintro _ _ ⟨hr, rfl⟩
    rw [hr]
    exact bX12_mark_18 (fun z => absurd rfl z) (fun _ => bX12_mark_21 ⟨_, rfl, _, rfl, m_thr (k := 1) hM (by decide)⟩)
theorem c_X12_parts (ok : k_ok G l) {b : Nat} {s : m_S} {h : k_H} {M : s_M} (hM : m_M s M) : k_cti (tX12_parts G l) [vR (some b)] (m_hp b s h) (m_p b h (m_R (F_parts M))) := by
  obtain ⟨a1, a2⟩ := m_ok hM
  refine k_cti_of (eX12_parts ok.2 (mX12_parts_0 (mX12_parts_5 ⟨_, rfl, _, rfl, a1, a2, fun _ => a1.2.2.2.2.2.1.1⟩)))
end MRK
