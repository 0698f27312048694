/-! SMALL CALLS OF THE REFERENCE -/
theorem m_st_adv {s s1 : m_S} {KM : List k_K2} {L : List k_E4} {n m : Nat} {A B : List Nat} (h : m_st s KM L n) (f : m_fr A B s s1) (hA : 2 ∉ A ∧ 5 ∉ A) (hB : ∀ i, 0 < i → i < 7 → i ∉ B) (h0 : s1.1 0 = nI m) (hnm : n ≤ m) (hm : m < 2 ^ 20) : m_st s1 KM L m := by
  obtain ⟨k1, k2, k3, k4, k5, k6, k7, k8⟩ := h
  have r := fun i h1 h2 => f.2 i (hB i h1 h2)
  refine ⟨m_ks_fr k1 (f.1 2 hA.1) (r 1 (by omega) (by omega)).2 (r 2 (by omega) (by omega)).1, (f.1 5 hA.2).trans k2, k3, m_log_keep (fun i _ => ?_) k4, h0, hm, fun x hx => by have := k7 x hx; omega, k8⟩
  rw [(r 3 (by omega) (by omega)).1, (r 5 (by omega) (by omega)).1, (r 4 (by omega) (by omega)).1, (r 6 (by omega) (by omega)).1]
  exact ⟨rfl, rfl, rfl, rfl⟩
def F_begin (M : s_M) (x : Int32) (once : Bool) : s_M × Nat × Int32 := if s_inB x 0 3 = false then (M, 1, 0) else (g_tx M (t_of x) ((true, once, g_n M, g_gen M, 0), [], []), 0, nI (g_n M))
def F_why (M : s_M) : s_M × Nat × Int32 := (M, 0, g_why M)
def F_lose (M : s_M) (d : Bool) : s_M × Nat × Int32 := (g_sl M (if d = true then 1 else 2), 0, 0)
def g_adv (M : s_M) (k gen : Nat) : s_M := ((g_n M + k, gen, g_los M, g_why M, g_ser M), M.2)
def F_recover (M : s_M) : s_M × Nat × Int32 := (g_adv M 10 (g_gen M + 1), 0, nI (g_n M + 10))
def F_pass (M : s_M) (x : Int32) : s_M × Nat × Int32 := if s_inB x 1 10 = false then (M, 1, 0) else (g_adv M x.toInt.toNat (g_gen M), 0, nI (g_n M + x.toInt.toNat))
def F_version (M : s_M) : s_M × Nat × Int32 := (M, 0, nI (g_n M))
def F_value (M : s_M) (v a b c : Int32) : s_M × Nat × Int32 := if (s_inB v 0 (nI (g_n M)) && s_keyB a b c) = false then (M, 1, 0) else (M, 0, o_told (r_val (s_cd a b c) v.toInt.toNat (g_E M).2.1))
def f_pk (a b c p : Int32) : Int32 :=
  let z := if p / 3 = 0 then a else if p / 3 = 1 then b else if p / 3 = 2 then c else 10000
  if z = 10000 then -2147483648 else if p - p / 3 * 3 = 0 then (if 0 ≤ z then 2 else 1) else if p - p / 3 * 3 = 1 then (if 0 ≤ z then z else z + 1000) / 100 else (if 0 ≤ z then z else z + 1000) - (if 0 ≤ z then z else z + 1000) / 100 * 100
def F_packed (M : s_M) (a b c p : Int32) : s_M × Nat × Int32 := if p < 0 then (M, 1, 0) else if s_keyB a b c = false then (M, 2, 0) else (M, 0, f_pk a b c p)
theorem s_keyB_na {a b c : Int32} (h : s_keyB a b c = true) : s_na a ∧ s_na b ∧ s_na c := by
  unfold s_keyB at h
  simp only [Bool.and_eq_true, Bool.or_eq_true, decide_eq_true_eq, s_nmB_iff] at h
  obtain ⟨h1, h2⟩ := h
  rcases h2 with ⟨h3, h4⟩ | ⟨h3, h4⟩
  · exact ⟨Or.inr h1, Or.inl h3, Or.inl h4⟩
  · rcases h4 with h4 | h4
    · exact ⟨Or.inr h1, Or.inr h3, Or.inl h4⟩
    · exact ⟨Or.inr h1, Or.inr h3, Or.inr h4⟩
theorem s_rngB_na {a b : Int32} (h : s_rngB a b = true) : s_na a ∧ s_na b := by
  unfold s_rngB at h
  simp only [Bool.and_eq_true, Bool.or_eq_true, decide_eq_true_eq, s_nmB_iff] at h
  rcases h with ⟨h3, h4⟩ | ⟨h3, h4⟩
  · exact ⟨Or.inl h3, Or.inl h4⟩
  · rcases h4 with h4 | h4
    · exact ⟨Or.inr h3, Or.inl h4⟩
    · exact ⟨Or.inr h3, Or.inr h4⟩
theorem s_inN {x : Int32} {m : Nat} (hm : m < 2 ^ 31) (h : s_inB x 0 (nI m) = true) : x = nI x.toInt.toNat ∧ x.toInt.toNat ≤ m := by
  unfold s_inB at h
  simp only [Bool.and_eq_true, decide_eq_true_eq] at h
  have e1 := Int32.le_iff_toInt_le.mp (Int32.not_lt.mp h.1)
  have e2 := Int32.le_iff_toInt_le.mp (Int32.not_lt.mp h.2)
  have r1 : (0 : Int32).toInt = 0 := by decide
  rw [nI_toInt hm] at e2
  refine ⟨?_, by omega⟩
  apply Int32.toInt_inj.mp
  rw [nI_toInt (by omega)]
  omega
theorem s_inA {x : Int32} {a m : Nat} (hm : m < 2 ^ 31) (ha : a ≤ m) (h : s_inB x (nI a) (nI m) = true) : x = nI x.toInt.toNat ∧ a ≤ x.toInt.toNat ∧ x.toInt.toNat ≤ m := by
  unfold s_inB at h
  simp only [Bool.and_eq_true, decide_eq_true_eq] at h
  have e1 := Int32.le_iff_toInt_le.mp (Int32.not_lt.mp h.1)
  have e2 := Int32.le_iff_toInt_le.mp (Int32.not_lt.mp h.2)
  rw [nI_toInt hm] at e2
  rw [nI_toInt (by omega)] at e1
  refine ⟨?_, by omega, by omega⟩
  apply Int32.toInt_inj.mp
  rw [nI_toInt (by omega)]
  omega
section MSM
variable {G : k_G} {l : Launch}
theorem m_thr {s : m_S} {M : s_M} {k : Nat} (hM : m_M s M) (hk : ¬ k = 0) : m_R (M, k, 0) (m_si s 52 (nI k)) 0 := ⟨m_M_fr hM (m_52 s (nI k)) (by simp) (by simp), rfl, fun z => absurd z hk⟩
theorem m_ok {s : m_S} {M : s_M} (hM : m_M s M) : m_M (m_si s 52 0) M ∧ (m_si s 52 0).1 52 = 0 := ⟨m_M_fr hM (m_52 s 0) (by simp) (by simp), rfl⟩
theorem c_X12_thrown (ok : k_ok G l) {b : Nat} {s : m_S} {h : k_H} : k_cti (tX12_thrown G l) [vR (some b)] (m_hp b s h) (m_p b h (fun s1 v => s1 = s ∧ v = s.1 52)) := k_cti_of (eX12_thrown ok.2 (mX12_thrown_0 ⟨_, rfl, s, rfl, rfl, rfl⟩))
theorem c_X12_why (ok : k_ok G l) {b : Nat} {s : m_S} {h : k_H} {M : s_M} (hM : m_M s M) : k_cti (tX12_why G l) [vR (some b)] (m_hp b s h) (m_p b h (m_R (F_why M))) := by
  obtain ⟨a1, a2⟩ := m_ok hM
  exact k_cti_of (eX12_why ok.2 (mX12_why_0 (mX12_why_5 ⟨_, rfl, _, rfl, a1, a2, fun _ => a1.2.1.2.2.1⟩)))
theorem c_X12_version (ok : k_ok G l) {b : Nat} {s : m_S} {h : k_H} {M : s_M} (hM : m_M s M) : k_cti (tX12_version G l) [vR (some b)] (m_hp b s h) (m_p b h (m_R (F_version M))) := by
  obtain ⟨a1, a2⟩ := m_ok hM
  exact k_cti_of (eX12_version ok.2 (mX12_version_0 (mX12_version_5 ⟨_, rfl, _, rfl, a1, a2, fun _ => a1.1.1.2.2.2.2.1⟩)))
theorem c_X12_lose (ok : k_ok G l) {b : Nat} {s : m_S} {h : k_H} {M : s_M} {d : Bool} (hM : m_M s M) : k_ctv (tX12_lose G l) [vR (some b), vI (kB d)] (m_hp b s h) (m_pv b h (fun s1 => m_R (F_lose M d) s1 0)) := by
  obtain ⟨h1, ⟨h2, h3, h4, h5⟩, h6, h7, h8, h9, h10⟩ := id hM
  refine k_ctv_of (eX12_lose ok.2 (mX12_lose_0 (mX12_lose_5 (mX12_lose_10 (kB_bl d) (bX12_lose_15 ⟨rfl, _, rfl, ?_, rfl, fun _ => rfl⟩)))))
  have f : m_fr [52, 30, 31] [] s (m_si (m_si (m_si s 52 0) 30 1) 31 (kB d)) := by
    refine ⟨fun k hk => ?_, fun _ _ => ⟨rfl, rfl⟩⟩
    simp only [List.mem_cons, List.not_mem_nil, or_false, not_or] at hk
    show (if k = 31 then _ else if k = 30 then _ else if k = 52 then _ else s.1 k) = _
    rw [if_neg hk.2.2, if_neg hk.2.1, if_neg hk.1]
  have hlo : m_lo (m_si (m_si (m_si s 52 0) 30 1) 31 (kB d)) (if d = true then 1 else 2) := by
    cases d
    · exact And.intro rfl (And.intro (fun z => absurd z (by decide)) (And.intro (fun _ => rfl) (by decide)))
    · exact And.intro rfl (And.intro (fun _ => rfl) (And.intro (fun z => absurd z (by decide)) (by decide)))
  exact ⟨m_E_fr h1 f (by simp) (fun i _ _ => by simp), ⟨(f.1 1 (by simp)).trans h2, hlo, (f.1 32 (by simp)).trans h4, (f.1 19 (by simp)).trans h5⟩, fun u hu => m_tx_tk (h6 u hu) (m_tk_fr f (fun i _ _ => by simp)), m_wt_fr h7 f (by simp) (by simp), m_mk_fr h8 f (by simp) (by simp), m_pt_fr h9 f (by simp) (by simp), m_ds_fr h10 f (by simp) (by simp)⟩
theorem m_M_adv {s s1 : m_S} {M : s_M} {k gen : Nat} (hM : m_M s M) (f : m_fr [52, 0, 1] [] s s1) (h0 : s1.1 0 = nI (g_n M + k)) (h1 : s1.1 1 = nI gen) (hk : g_n M + k < 2 ^ 20) : m_M s1 (g_adv M k gen) := by
  obtain ⟨h1', ⟨h2, h3, h4, h5⟩, h6, h7, h8, h9, h10⟩ := hM
  exact ⟨⟨m_st_adv h1'.1 f (by simp) (fun i _ _ => by simp) h0 (Nat.le_add_right _ _) hk, m_rg_fr h1'.2 f (by simp) (by simp)⟩, ⟨h1, m_lo_fr h3 f (by simp), (f.1 32 (by simp)).trans h4, (f.1 19 (by simp)).trans h5⟩, fun u hu => m_tx_tk (h6 u hu) (m_tk_fr f (fun i _ _ => by simp)), m_wt_fr h7 f (by simp) (by simp), m_mk_fr h8 f (by simp) (by simp), m_pt_fr h9 f (by simp) (by simp), m_ds_fr h10 f (by simp) (by simp)⟩
theorem c_X12_recover (ok : k_ok G l) {b : Nat} {s : m_S} {h : k_H} {M : s_M} (hM : m_M s M) (hn : g_n M + 10 < 2 ^ 20) : k_cti (tX12_recover G l) [vR (some b)] (m_hp b s h) (m_p b h (m_R (F_recover M))) := by
  have e0 : s.1 0 + 10 = nI (g_n M + 10) := by rw [hM.1.1.2.2.2.2.1, show (10 : Int32) = nI 10 from rfl, nI_add]
  have e1 : s.1 1 + 1 = nI (g_gen M + 1) := by rw [hM.2.1.1, nI_1]
  refine k_cti_of (eX12_recover ok.2 (mX12_recover_0 (mX12_recover_5 (mX12_recover_15 (mX12_recover_26 ⟨_, rfl, _, rfl, m_M_adv hM ⟨fun k hk => ?_, fun _ _ => ⟨rfl, rfl⟩⟩ e0 e1 hn, rfl, fun _ => e0⟩)))))
  simp only [List.mem_cons, List.not_mem_nil, or_false, not_or] at hk
  show (if k = 0 then _ else if k = 1 then _ else if k = 52 then _ else s.1 k) = _
  rw [if_neg hk.2.1, if_neg hk.2.2, if_neg hk.1]
theorem c_X12_pass (ok : k_ok G l) {b : Nat} {s : m_S} {h : k_H} {M : s_M} {x : Int32} (hM : m_M s M) (hn : g_n M + 10 < 2 ^ 20) : k_cti (tX12_pass G l) [vR (some b), vI x] (m_hp b s h) (m_p b h (m_R (F_pass M x))) := by
  refine k_cti_of (eX12_pass ok.2 (mX12_pass_0 (m_stI (c_X12_isIn ok)) ?_))
  rintro _ _ ⟨hr, rfl⟩
  rw [hr]
  unfold F_pass
  cases hin : s_inB x 1 10 with
  | false =>
    rw [if_pos rfl]
    refine bX12_pass_8 (fun _ => bX12_pass_15 (mX12_pass_16 (c_X12_goes ok) ?_)) (fun z => absurd rfl z)
    rintro _ _ ⟨hr, rfl⟩
    rw [hr]
    exact bX12_pass_19 (fun z => absurd rfl z) (fun _ => bX12_pass_22 ⟨_, rfl, _, rfl, m_thr (k := 1) hM (by decide)⟩)
  | true =>
    rw [if_neg (by decide)]
    obtain ⟨e9, e1, e2⟩ := s_inA (a := 1) (m := 10) (by decide) (by decide) hin
    refine bX12_pass_8 (fun z => absurd z (by decide)) (fun _ => bX12_pass_11 (mX12_pass_16 (c_X12_goes ok) ?_))
    rintro _ _ ⟨hr, rfl⟩
    rw [hr]
    have e0 : (m_si s 52 0).1 0 + x = nI (g_n M + x.toInt.toNat) := by
      rw [show (m_si s 52 0).1 0 = s.1 0 from rfl, hM.1.1.2.2.2.2.1]
      conv => lhs; rw [e9]
      rw [nI_add]
    refine bX12_pass_19 (fun _ => mX12_pass_24 (mX12_pass_34 ⟨_, rfl, _, rfl, m_M_adv hM ⟨fun k hk => ?_, fun _ _ => ⟨rfl, rfl⟩⟩ e0 hM.2.1.1 (by omega), rfl, fun _ => e0⟩)) (fun z => absurd z (by decide))
    simp only [List.mem_cons, List.not_mem_nil, or_false, not_or] at hk
    show (if k = 0 then _ else if k = 52 then _ else s.1 k) = _
    rw [if_neg hk.2.1, if_neg hk.1]
theorem c_X12_value (ok : k_ok G l) {b : Nat} {s : m_S} {h : k_H} {M : s_M} {v a b' c : Int32} (hM : m_M s M) : k_cti (tX12_value G l) [vR (some b), vI v, vI a, vI b', vI c] (m_hp b s h) (m_p b h (m_R (F_value M v a b' c))) := by
  have e0 : s.1 0 = nI (g_n M) := hM.1.1.2.2.2.2.1
  have hn := hM.1.1.2.2.2.2.2.1
  refine k_cti_of (eX12_value ok.2 (mX12_value_0 (m_stI (c_X12_isIn ok)) ?_))
  rintro _ _ ⟨hr, rfl⟩
  rw [hr, e0]
  have thr : (s_inB v 0 (nI (g_n M)) && s_keyB a b' c) = false → k_X (jX12_value G l (m_hp b s h)) (m_hp b s h) 27 [(0, vR (some b)), (1, vI v), (2, vI a), (3, vI b'), (4, vI c)] [vR (some b)] (q_i (m_p b h (m_R (F_value M v a b' c)))) := fun hf => by
    unfold F_value
    rw [if_pos hf]
    refine bX12_value_27 (mX12_value_28 (c_X12_goes ok) ?_)
    rintro _ _ ⟨hr, rfl⟩
    rw [hr]
    exact bX12_value_31 (fun z => absurd rfl z) (fun _ => bX12_value_34 ⟨_, rfl, _, rfl, m_thr (k := 1) hM (by decide)⟩)
  cases hin : s_inB v 0 (nI (g_n M)) with
  | false => exact bX12_value_10 (fun _ => thr (by rw [hin]; rfl)) (fun z => absurd rfl z)
  | true =>
    refine bX12_value_10 (fun z => absurd z (by decide)) (fun _ => mX12_value_13 (m_stI (c_X12_isKey ok)) ?_)
    rintro _ _ ⟨hr, rfl⟩
    rw [hr]
    cases hkey : s_keyB a b' c with
    | false => exact bX12_value_20 (fun _ => thr (by rw [hkey]; simp)) (fun z => absurd rfl z)
    | true =>
      have hF : F_value M v a b' c = (M, 0, o_told (r_val (s_cd a b' c) v.toInt.toNat (g_E M).2.1)) := by unfold F_value; rw [hin, hkey]; rfl
      rw [hF]
      obtain ⟨na, nb, nc⟩ := s_keyB_na hkey
      obtain ⟨e9, hle⟩ := s_inN (by omega) hin
      have hcl := s_cd_lt na nb nc
      refine bX12_value_20 (fun z => absurd z (by decide)) (fun _ => bX12_value_23 (mX12_value_28 (c_X12_goes ok) ?_))
      rintro _ _ ⟨hr, rfl⟩
      rw [hr]
      obtain ⟨a1, a2⟩ := m_ok hM
      generalize m_si s 52 0 = r at a1 a2
      refine bX12_value_31 (fun _ => mX12_value_36 (m_stJ (c_X12_codeOf ok na nb nc)) ?_) (fun z => absurd z (by decide))
      rintro _ _ ⟨hr, rfl⟩
      rw [hr]
      refine mX12_value_43 (c_X12_placeOf ok a1.1.1.1 (by omega)) ?_
      rintro _ _ ⟨hr, rfl⟩
      rw [hr]
      refine mX12_value_51 (c_X12_isNamed ok a1.1.1.1 (by omega)) ?_
      rintro _ _ ⟨hr, rfl⟩
      rw [hr]
      cases er : r_at (s_cd a b' c) (g_E M).1 with
      | none =>
        refine bX12_value_61 (fun _ => bX12_value_74 (bX12_value_76 ⟨_, rfl, r, rfl, a1, a2, fun _ => ?_⟩)) (fun z => absurd rfl z)
        rw [r_val_none a1.1.1.1.2.2.2 a1.1.1.2.2.2.2.2.2.2 er]
        rfl
      | some q =>
        refine bX12_value_61 (fun z => absurd z (kB_n0.mpr rfl)) (fun _ => mX12_value_64 (by rw [e9]; exact c_X12_valueAt ok a1.1.1 (r_at_get er) (by omega)) ?_)
        rintro _ _ ⟨hr, rfl⟩
        rw [hr]
        exact bX12_value_71 (bX12_value_76 ⟨_, rfl, r, rfl, a1, a2, fun _ => rfl⟩)
theorem c_X12_packed (ok : k_ok G l) {b : Nat} {s : m_S} {h : k_H} {M : s_M} {a b' c p : Int32} (hM : m_M s M) : k_cti (tX12_packed G l) [vR (some b), vI a, vI b', vI c, vI p] (m_hp b s h) (m_p b h (m_R (F_packed M a b' c p))) := by
  refine k_cti_of (eX12_packed ok.2 ?_)
  unfold F_packed
  refine bX12_packed_0 (fun c0 => ?_) (fun c0 => ?_)
  · rw [if_neg (Int32.not_lt.mpr c0)]
    refine mX12_packed_10 (m_stI (c_X12_isKey ok)) ?_
    rintro _ _ ⟨hr, rfl⟩
    rw [hr]
    cases hkey : s_keyB a b' c with
    | false =>
      rw [if_pos rfl]
      refine bX12_packed_16 (fun _ => bX12_packed_23 (mX12_packed_24 (c_X12_goes ok) ?_)) (fun z => absurd rfl z)
      rintro _ _ ⟨hr, rfl⟩
      rw [hr]
      exact bX12_packed_27 (fun z => absurd rfl z) (fun _ => bX12_packed_30 ⟨_, rfl, _, rfl, m_thr (k := 2) hM (by decide)⟩)
    | true =>
      rw [if_neg (by decide)]
      refine bX12_packed_16 (fun z => absurd z (by decide)) (fun _ => bX12_packed_19 (mX12_packed_24 (c_X12_goes ok) ?_))
      rintro _ _ ⟨hr, rfl⟩
      rw [hr]
      obtain ⟨a1, a2⟩ := m_ok hM
      generalize m_si s 52 0 = r at a1 a2
      refine bX12_packed_27 (fun _ => ?_) (fun z => absurd z (by decide))
      have fin : ∀ v : Int32, v = f_pk a b' c p → k_X (jX12_packed G l (m_hp b s h)) (m_hp b r h) 142 [] [vI v] (q_i (m_p b h (m_R (M, 0, f_pk a b' c p)))) := fun v hv => bX12_packed_142 ⟨_, rfl, r, rfl, a1, a2, fun _ => hv⟩
      have st : ∀ z : Int32, z = (if p / 3 = 0 then a else if p / 3 = 1 then b' else if p / 3 = 2 then c else 10000) → k_X (jX12_packed G l (m_hp b s h)) (m_hp b r h) 70 [(4, vI p)] [vI z] (q_i (m_p b h (m_R (M, 0, f_pk a b' c p)))) := by
        intro z hz
        have ef : f_pk a b' c p = if z = 10000 then -2147483648 else if p - p / 3 * 3 = 0 then (if 0 ≤ z then 2 else 1) else if p - p / 3 * 3 = 1 then (if 0 ≤ z then z else z + 1000) / 100 else (if 0 ≤ z then z else z + 1000) - (if 0 ≤ z then z else z + 1000) / 100 * 100 := by rw [hz]; rfl
        rw [ef] at fin ⊢
        refine bX12_packed_70 (fun c1 => ?_) (fun c1 => bX12_packed_80 ⟨_, rfl, r, rfl, a1, a2, fun _ => (if_pos c1).symm⟩)
        rw [if_neg c1] at fin ⊢
        have st2 : ∀ u : Int32, u = (if 0 ≤ z then z else z + 1000) → k_X (jX12_packed G l (m_hp b s h)) (m_hp b r h) 99 [(4, vI p), (5, vI z)] [vI u] (q_i (m_p b h (m_R (M, 0, if p - p / 3 * 3 = 0 then (if 0 ≤ z then 2 else 1) else if p - p / 3 * 3 = 1 then (if 0 ≤ z then z else z + 1000) / 100 else (if 0 ≤ z then z else z + 1000) - (if 0 ≤ z then z else z + 1000) / 100 * 100)))) := by
          intro u hu
          rw [← hu] at fin ⊢
          refine bX12_packed_99 (fun c2 => bX12_packed_121 (fun c3 => bX12_packed_137 (fin _ ?_)) (fun c3 => bX12_packed_129 (fin _ ?_))) (fun c2 => bX12_packed_108 (fun c4 => bX12_packed_117 (fin _ ?_)) (fun c4 => bX12_packed_113 (fin _ ?_)))
          · rw [if_neg c2, if_neg c3]
          · rw [if_neg c2, if_pos c3]
          · rw [if_pos c2, if_pos c4]
          · rw [if_pos c2, if_neg c4]
        exact bX12_packed_83 (fun c2 => bX12_packed_97 (st2 _ (by rw [if_pos c2]))) (fun c2 => bX12_packed_88 (st2 _ (by rw [if_neg c2])))
      refine bX12_packed_32 (fun c1 => bX12_packed_43 (fun c2 => bX12_packed_55 (fun c3 => bX12_packed_67 (st _ ?_)) (fun c3 => bX12_packed_63 (st _ ?_))) (fun c2 => bX12_packed_51 (st _ ?_))) (fun c1 => bX12_packed_39 (st _ ?_))
      · rw [if_neg c1, if_neg c2, if_neg c3]
      · rw [if_neg c1, if_neg c2, if_pos c3]
      · rw [if_neg c1, if_pos c2]
      · rw [if_pos c1]
  · rw [if_pos (Int32.not_le.mp c0)]
    refine bX12_packed_6 (mX12_packed_24 (c_X12_goes ok) ?_)
    rintro _ _ ⟨hr, rfl⟩
    rw [hr]
    exact bX12_packed_27 (fun z => absurd rfl z) (fun _ => bX12_packed_30 ⟨_, rfl, _, rfl, m_thr (k := 1) hM (by decide)⟩)
theorem c_X12_begin (ok : k_ok G l) {b : Nat} {s : m_S} {h : k_H} {M : s_M} {x : Int32} {once : Bool} (hM : m_M s M) (hgen : g_gen M < 2 ^ 20) : k_cti (tX12_begin G l) [vR (some b), vI x, vI (kB once)] (m_hp b s h) (m_p b h (m_R (F_begin M x once))) := by
  refine k_cti_of (eX12_begin ok.2 (mX12_begin_0 (m_stI (c_X12_isTransaction ok)) ?_))
  rintro _ _ ⟨hr, rfl⟩
  rw [hr]
  unfold F_begin
  cases hin : s_inB x 0 3 with
  | false =>
    rw [if_pos rfl]
    refine bX12_begin_5 (fun _ => bX12_begin_12 (mX12_begin_13 (c_X12_goes ok) ?_)) (fun z => absurd rfl z)
    rintro _ _ ⟨hr, rfl⟩
    rw [hr]
    exact bX12_begin_16 (fun z => absurd rfl z) (fun _ => bX12_begin_19 ⟨_, rfl, _, rfl, m_thr (k := 1) hM (by decide)⟩)
  | true =>
    rw [if_neg (by decide)]
    obtain ⟨t, ht, rfl, e9⟩ := s_in4 hin
    have eto : t_of (nI t) = t := e9
    rw [eto]
    have et : (nI t).toNatClampNeg = t := nI_clamp (by omega)
    have yt : vp_in (nI t) 4 := m_ii ht (by omega)
    refine bX12_begin_5 (fun z => absurd z (by decide)) (fun _ => bX12_begin_8 (mX12_begin_13 (c_X12_goes ok) ?_))
    rintro _ _ ⟨hr, rfl⟩
    rw [hr]
    obtain ⟨a1, a2⟩ := m_ok hM
    generalize m_si s 52 0 = r at a1 a2
    refine bX12_begin_16 (fun _ => mX12_begin_21 (c_X12_over ok ht (a1.2.2.1 t ht)) ?_) (fun z => absurd z (by decide))
    rintro r2 ⟨p1, p2, p3⟩
    have hn := a1.1.1.2.2.2.2.2.1
    have e0 : r2.1 0 = nI (g_n M) := by rw [p3.1 0 (by simp)]; exact a1.1.1.2.2.2.2.1
    have e1 : r2.1 1 = nI (g_gen M) := by rw [p3.1 1 (by simp)]; exact a1.2.1.1
    refine mX12_begin_26 yt (mX12_begin_33 yt (kB_bl _) (mX12_begin_40 yt (mX12_begin_50 yt (mX12_begin_60 yt (mX12_begin_67 ⟨_, rfl, _, rfl, ?_, (p3.1 52 (by simp)).trans a2, fun _ => e0⟩)))))
    rw [et]
    obtain ⟨⟨b1, b2, b3, b4, b5⟩, hb, hc, hd⟩ := p1
    refine m_M_tx (A := []) (B := [10, 11, 12, 13, 14, 15, 21]) a1 ht ⟨⟨?_, ?_, ?_, ?_, ?_⟩, ⟨by show g_n M < 2 ^ 20; omega, hgen, by show 0 < 2 ^ 20; decide⟩, hc, hd⟩ (m_ft_trans p2 (fun u hu hne => ?_)) ⟨fun k hk => p3.1 k hk, fun i hi => ?_⟩ (by simp) (by simp)
    · show va_up (r2.2.1 10) t 1 t = _
      rw [va_up_self]; rfl
    · show va_up (r2.2.1 11) t (kB once) t = _
      rw [va_up_self]
    · show va_up (r2.2.1 12) t (r2.1 0) t = _
      rw [va_up_self, e0]
    · show va_up (r2.2.1 13) t (r2.1 1) t = _
      rw [va_up_self, e1]
    · show va_up (r2.2.1 14) t 0 t = _
      rw [va_up_self]; rfl
    · refine ⟨⟨?_, ?_, ?_, ?_, ?_⟩, ⟨rfl, fun _ _ => ⟨rfl, rfl, rfl, rfl, rfl⟩⟩, ⟨rfl, fun _ _ => ⟨rfl, rfl, rfl⟩⟩⟩
      · exact va_up_ne (r2.2.1 10) _ hne
      · exact va_up_ne (r2.2.1 11) _ hne
      · exact va_up_ne (r2.2.1 12) _ hne
      · exact va_up_ne (r2.2.1 13) _ hne
      · exact va_up_ne (r2.2.1 14) _ hne
    · have hi2 := hi
      simp only [List.mem_cons, List.not_mem_nil, or_false, not_or] at hi
      show (if i = 14 then _ else if i = 13 then _ else if i = 12 then _ else if i = 11 then _ else if i = 10 then _ else r2.2.1 i) = _ ∧ _
      rw [if_neg hi.2.2.2.2.1, if_neg hi.2.2.2.1, if_neg hi.2.2.1, if_neg hi.2.1, if_neg hi.1]
      exact p3.2 i (by simp [hi.1, hi.2.2.2.2.2.1, hi.2.2.2.2.2.2])
end MSM
