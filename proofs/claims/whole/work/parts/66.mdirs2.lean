/-! DIRECTORIES ARE MADE, MOVED, NAMED, in the reference -/
def g_dset (M : s_M) (D : List s_D × Nat) : s_M := (M.1, M.2.1, M.2.2.1, M.2.2.2.1, M.2.2.2.2.1, M.2.2.2.2.2.1, D)
def F_directory (M : s_M) (p nm : Int32) : s_M × Nat × Int32 :=
  if d_is (g_DS M) p = false then (M, 1, 0) else if s_inB nm 0 9 = false then (M, 2, 0)
  else if ¬ d_nm (g_DS M).1 p nm = -2147483648 ∨ d_many (g_DS M).1 = 9 then (M, 3, 0)
  else (g_dset M ((g_DS M).1 ++ [((g_DS M).2, some (t_of p), t_of nm, d_free (g_DS M).1 12 1)], (g_DS M).2 + 1), 0, nI (g_DS M).2)
noncomputable def mv_can (D : List s_D × Nat) (d p nm : Int32) : Bool := d_is D d && d_is D p && s_inB nm 0 9 && decide (¬ d ≤ 0) && !(d_bel D.1 (t_of p) (t_of d))
def d_mv (D : List s_D) (d p nm : Nat) : List s_D := D.map (fun x => if x.1 = d then (x.1, some p, nm, x.2.2.2) else x)
noncomputable def F_move (M : s_M) (d p nm : Int32) : s_M × Nat × Int32 :=
  if (d_is (g_DS M) d && d_is (g_DS M) p) = false then (M, 1, 0) else if s_inB nm 0 9 = false then (M, 2, 0)
  else if (mv_can (g_DS M) d p nm && (decide (d_nm (g_DS M).1 p nm = -2147483648) || decide (d_nm (g_DS M).1 p nm = d))) = true then (g_dset M (d_mv (g_DS M).1 (t_of d) (t_of p) (t_of nm), (g_DS M).2), 0, 0)
  else (M, 3, 0)
def d_sh (D : List s_D) (x : Int32) : Int32 := match D.find? (fun d => decide (nI d.1 = x)) with
  | some d => nI d.2.2.2
  | none => 0
def F_shortName (M : s_M) (x : Int32) : s_M × Nat × Int32 := if d_is (g_DS M) x = false then (M, 1, 0) else (M, 0, d_sh (g_DS M).1 x)
def F_named (M : s_M) (p nm : Int32) : s_M × Nat × Int32 := if d_is (g_DS M) p = false then (M, 1, 0) else if s_inB nm 0 9 = false then (M, 2, 0) else (M, 0, d_nm (g_DS M).1 p nm)
section MDS
variable {G : k_G} {l : Launch}
theorem m_M_ds {s s1 : m_S} {A B : List Nat} {M : s_M} {D : List s_D × Nat} (h : m_M s M) (hd : m_ds s1 D) (f : m_fr A B s s1) (hA : ∀ k ∈ A, k = 33 ∨ k = 34 ∨ k = 35 ∨ k = 52 ∨ k = 36) (hB : ∀ k ∈ B, 24 < k ∧ k < 30) : m_M s1 (g_dset M D) := by
  obtain ⟨h1, ⟨h2, h3, h4, h5⟩, h6, h7, h8, h9, h10⟩ := h
  have nA : ∀ k, k ≠ 33 → k ≠ 34 → k ≠ 35 → k ≠ 52 → k ≠ 36 → k ∉ A := fun k a b c d e z => by rcases hA k z with e | e | e | e | e <;> contradiction
  have nB : ∀ k, ¬ (24 < k ∧ k < 30) → k ∉ B := fun k a z => a (hB k z)
  have a := fun k (z : k < 33) => nA k (by omega) (by omega) (by omega) (by omega) (by omega)
  refine ⟨m_E_fr h1 f ⟨a 0 (by omega), a 2 (by omega), a 5 (by omega), a 10 (by omega)⟩ (fun i _ _ => nB i (by omega)), ⟨(f.1 1 (a 1 (by omega))).trans h2, m_lo_fr h3 f ⟨a 30 (by omega), a 31 (by omega)⟩, (f.1 32 (a 32 (by omega))).trans h4, (f.1 19 (a 19 (by omega))).trans h5⟩, fun u hu => m_tx_tk (h6 u hu) (m_tk_fr f (fun i _ _ => nB i (by omega))), ?_, ?_, ?_, hd⟩
  · exact m_wt_fr h7 f (nA 42 (by omega) (by omega) (by omega) (by omega) (by omega)) ⟨nB 30 (by omega), nB 31 (by omega)⟩
  · exact m_mk_fr h8 f (nA 47 (by omega) (by omega) (by omega) (by omega) (by omega)) (nB 34 (by omega))
  · exact m_pt_fr h9 f (nA 49 (by omega) (by omega) (by omega) (by omega) (by omega)) ⟨nB 35 (by omega), nB 36 (by omega)⟩
theorem c_X12_directory (ok : k_ok G l) {b : Nat} {s : m_S} {h : k_H} {M : s_M} {p nm : Int32} (hM : m_M s M) (w : d_wf (g_DS M)) (hf : d_fok (g_DS M).1) (hlim : (g_DS M).2 < 1024) (hmany : d_many (g_DS M).1 < 2 ^ 30) : k_cti (tX12_directory G l) [vR (some b), vI p, vI nm] (m_hp b s h) (m_p b h (m_R (F_directory M p nm))) := by
  have hds := hM.2.2.2.2.2.2
  have hD : 0 < (g_DS M).2 := by have := (hds.2.2.2 _ w.2.1).1; omega
  refine k_cti_of (eX12_directory ok.2 (mX12_directory_0 (c_X12_isDirectory ok hds hD) ?_))
  rintro _ _ ⟨hr, rfl⟩
  rw [hr]
  refine mX12_directory_5 (m_stI (c_X12_isIn ok)) ?_
  rintro _ _ ⟨hr, rfl⟩
  rw [hr]
  have thr : ∀ k : Nat, ¬ k = 0 → k < 9 → F_directory M p nm = (M, k, 0) → k_X (jX12_directory G l (m_hp b s h)) (m_hp b s h) 58 [(0, vR (some b)), (1, vI p), (2, vI nm)] [vI (nI k), vR (some b)] (q_i (m_p b h (m_R (F_directory M p nm)))) := by
    intro k hk hk9 he
    refine mX12_directory_58 (c_X12_goes ok) ?_
    rintro _ _ ⟨hr, rfl⟩
    rw [hr, he]
    have hne : ¬ nI k = 0 := fun z => hk ((nI_eq (b := 0) (by omega) (by omega)).mp z)
    exact bX12_directory_61 (fun z => absurd (by rw [decide_eq_false hne]; rfl) z) (fun _ => bX12_directory_64 ⟨_, rfl, _, rfl, m_thr hM hk⟩)
  cases hp : d_is (g_DS M) p with
  | false => exact bX12_directory_13 (fun z => absurd rfl z) (fun _ => bX12_directory_20 (thr 1 (by decide) (by decide) (by unfold F_directory; rw [if_pos hp])))
  | true =>
    refine bX12_directory_13 (fun _ => ?_) (fun z => absurd z (by decide))
    cases hn : s_inB nm 0 9 with
    | false => exact bX12_directory_24 (fun z => absurd rfl z) (fun _ => bX12_directory_29 (thr 2 (by decide) (by decide) (by unfold F_directory; rw [hp, hn]; rfl)))
    | true =>
      refine bX12_directory_24 (fun _ => ?_) (fun z => absurd z (by decide))
      refine mX12_directory_33 (c_X12_namedIn ok hds w) ?_
      rintro _ _ ⟨hr, rfl⟩
      rw [hr]
      have bad : (¬ d_nm (g_DS M).1 p nm = -2147483648 ∨ d_many (g_DS M).1 = 9) → k_X (jX12_directory G l (m_hp b s h)) (m_hp b s h) 53 [(0, vR (some b)), (1, vI p), (2, vI nm)] [vR (some b)] (q_i (m_p b h (m_R (F_directory M p nm)))) := fun e =>
        bX12_directory_53 (thr 3 (by decide) (by decide) (by unfold F_directory; rw [hp, hn, if_neg (by decide), if_neg (by decide), if_pos e]))
      refine bX12_directory_39 (fun c1 => bad (Or.inl c1)) (fun c1 => mX12_directory_44 (c_X12_manyThere ok hds w) ?_)
      rintro _ _ ⟨hr, rfl⟩
      rw [hr]
      refine bX12_directory_48 (fun c2 => ?_) (fun c2 => bad (Or.inr ((nI_eq (b := 9) (by omega) (by omega)).mp c2)))
      have c3 : ¬ d_many (g_DS M).1 = 9 := fun z => c2 (by rw [z]; rfl)
      have hF : F_directory M p nm = (g_dset M ((g_DS M).1 ++ [((g_DS M).2, some (t_of p), t_of nm, d_free (g_DS M).1 12 1)], (g_DS M).2 + 1), 0, nI (g_DS M).2) := by unfold F_directory; rw [hp, hn, if_neg (by decide), if_neg (by decide), if_neg (fun z => z.elim (fun y => y c1) c3)]
      rw [hF]
      obtain ⟨dp, hdp, epp, hlt⟩ := d_is_ex hds hp
      obtain ⟨en, hn9⟩ := s_inN (m := 9) (by decide) hn
      have ep : p = nI (t_of p) := by
        rw [epp]
        unfold t_of
        rw [nI_toInt (by have := hds.2.1; omega)]
        rfl
      have en2 : nm = nI (t_of nm) := en
      refine bX12_directory_57 (mX12_directory_58 (c_X12_goes ok) ?_)
      rintro _ _ ⟨hr, rfl⟩
      rw [hr]
      obtain ⟨a1, a2⟩ := m_ok hM
      generalize m_si s 52 0 = r at a1 a2
      have hds2 := a1.2.2.2.2.2.2
      obtain ⟨b1, b2, b3, b4⟩ := id hds2
      have ec : (nI (g_DS M).2).toNatClampNeg = (g_DS M).2 := nI_clamp (by omega)
      have y : vp_in (nI (g_DS M).2) 1024 := m_ii hlim (by omega)
      refine bX12_directory_61 (fun _ => mX12_directory_66 (c_X12_freeShort ok hds2 w hf) ?_) (fun z => absurd z (by decide))
      rintro _ _ ⟨hr, rfl⟩
      rw [hr, b1]
      refine mX12_directory_78 (i9 := 27) rfl (by decide) (by decide) y (mX12_directory_79 (by rw [show (m_sa r 27 _).1 36 = r.1 36 from rfl, b1]; exact y) (mX12_directory_89 (by rw [show (m_sa (m_sa r 27 _) 25 _).1 36 = r.1 36 from rfl, b1]; exact y) (mX12_directory_99 (by rw [show (m_sa (m_sa (m_sa r 27 _) 25 _) 26 _).1 36 = r.1 36 from rfl, b1]; exact y) (mX12_directory_109 (mX12_directory_119 ⟨_, rfl, _, rfl, m_M_ds (A := [36]) (B := [25, 26, 27, 28]) a1 ?_ ⟨fun k hk => ?_, fun i hi => ?_⟩ (by simp) (by simp), a2, fun _ => ?_⟩)))))
      · have r36 : r.1 36 + 1 = nI ((g_DS M).2 + 1) := by rw [b1, nI_1]
        refine ⟨r36, by show (g_DS M).2 + 1 ≤ 1024; omega, fun k hk => ?_, fun d hd => ?_⟩
        · show va_up (r.2.1 28) (r.1 36).toNatClampNeg 1 k = kB (List.any ((g_DS M).1 ++ [_]) _)
          rw [b1, ec, List.any_append]
          by_cases e : k = (g_DS M).2
          · rw [e, va_up_self]
            simp [kB]
          · have hk2 : k < (g_DS M).2 := by
              have : k < (g_DS M).2 + 1 := hk
              omega
            rw [va_up_ne _ _ e, b3 k hk2]
            have : List.any [((g_DS M).2, some (t_of p), t_of nm, d_free (g_DS M).1 12 1)] (fun d => decide (d.1 = k)) = false := by
              simp; omega
            rw [this, Bool.or_false]
        · show d.1 < (g_DS M).2 + 1 ∧ va_up (r.2.1 25) (r.1 36).toNatClampNeg p d.1 = m_par d.2.1 ∧ va_up (r.2.1 26) (r.1 36).toNatClampNeg nm d.1 = nI d.2.2.1 ∧ va_up (r.2.1 27) (nI (g_DS M).2).toNatClampNeg (nI (d_free (g_DS M).1 12 1)) d.1 = nI d.2.2.2
          rw [b1, ec]
          rcases List.mem_append.mp hd with hd | hd
          · obtain ⟨g1, g2, g3, g4⟩ := b4 d hd
            rw [va_up_ne _ _ (by omega), va_up_ne _ _ (by omega), va_up_ne _ _ (by omega)]
            exact ⟨by omega, g2, g3, g4⟩
          · have hd2 : d = ((g_DS M).2, some (t_of p), t_of nm, d_free (g_DS M).1 12 1) := by simpa using hd
            subst hd2
            rw [va_up_self, va_up_self, va_up_self]
            exact ⟨by show (g_DS M).2 < (g_DS M).2 + 1; omega, ep, en2, rfl⟩
      · show (if k = 36 then _ else r.1 k) = _
        rw [if_neg (by simpa using hk)]
      · simp only [List.mem_cons, List.not_mem_nil, or_false, not_or] at hi
        show (if i = 28 then _ else if i = 26 then _ else if i = 25 then _ else if i = 27 then _ else r.2.1 i) = _ ∧ _
        rw [if_neg hi.2.2.2, if_neg hi.2.1, if_neg hi.1, if_neg hi.2.2.1]
        exact ⟨rfl, rfl⟩
      · show r.1 36 + 1 - 1 = _
        rw [b1]
        exact Int32.add_sub_cancel _ _
theorem t_of_is {s : m_S} {D : List s_D × Nat} (h : m_ds s D) {x : Int32} (hx : d_is D x = true) : x = nI (t_of x) ∧ t_of x < D.2 ∧ ∃ d ∈ D.1, d.1 = t_of x := by
  obtain ⟨d, hd, e, hlt⟩ := d_is_ex h hx
  have e2 : t_of x = d.1 := by
    unfold t_of
    rw [e, nI_toInt (by have := h.2.1; omega)]
    rfl
  exact ⟨by rw [e2]; exact e, by omega, d, hd, e2.symm⟩
theorem c_X12_shortName (ok : k_ok G l) {b : Nat} {s : m_S} {h : k_H} {M : s_M} {x : Int32} (hM : m_M s M) (w : d_wf (g_DS M)) : k_cti (tX12_shortName G l) [vR (some b), vI x] (m_hp b s h) (m_p b h (m_R (F_shortName M x))) := by
  have hds := hM.2.2.2.2.2.2
  have hD : 0 < (g_DS M).2 := by have := (hds.2.2.2 _ w.2.1).1; omega
  refine k_cti_of (eX12_shortName ok.2 (mX12_shortName_0 (c_X12_isDirectory ok hds hD) ?_))
  rintro _ _ ⟨hr, rfl⟩
  rw [hr]
  unfold F_shortName
  cases hp : d_is (g_DS M) x with
  | false =>
    rw [if_pos rfl]
    refine bX12_shortName_6 (fun _ => bX12_shortName_13 (mX12_shortName_14 (c_X12_goes ok) ?_)) (fun z => absurd rfl z)
    rintro _ _ ⟨hr, rfl⟩
    rw [hr]
    exact bX12_shortName_17 (fun _ => bX12_shortName_29 (bX12_shortName_30 ⟨_, rfl, _, rfl, m_thr (k := 1) hM (by decide)⟩)) (fun z => absurd rfl z)
  | true =>
    rw [if_neg (by decide)]
    obtain ⟨ex, hlt, d, hd, ed⟩ := t_of_is hds hp
    refine bX12_shortName_6 (fun z => absurd z (by decide)) (fun _ => bX12_shortName_9 (mX12_shortName_14 (c_X12_goes ok) ?_))
    rintro _ _ ⟨hr, rfl⟩
    rw [hr]
    obtain ⟨a1, a2⟩ := m_ok hM
    have hlim := hds.2.1
    have g4 := (a1.2.2.2.2.2.2.2.2.2 d hd).2.2.2
    generalize m_si s 52 0 = r at a1 a2 g4
    refine bX12_shortName_17 (fun z => absurd z (by decide)) (fun _ => mX12_shortName_20 (by rw [ex]; exact m_ii (by omega) (by omega)) (bX12_shortName_30 ⟨_, rfl, r, rfl, a1, a2, fun _ => ?_⟩))
    conv => lhs; rw [ex]
    rw [nI_clamp (by omega), ← ed, g4]
    unfold d_sh
    have : (g_DS M).1.find? (fun d => decide (nI d.1 = x)) = some d := by
      cases e : (g_DS M).1.find? (fun d => decide (nI d.1 = x)) with
      | none =>
        have := List.find?_eq_none.mp e d hd
        rw [ed] at this
        simp [← ex] at this
      | some q =>
        have h1 := List.find?_some e
        have h2 := List.mem_of_find?_eq_some e
        have h3 : nI q.1 = x := by simpa using h1
        have h4 := (hds.2.2.2 q h2).1
        rw [ex] at h3
        have h5 := (nI_eq (by omega) (by omega)).mp h3
        rw [d_uniq w.1 h2 hd (by omega)]
    rw [this]
theorem c_X12_named (ok : k_ok G l) {b : Nat} {s : m_S} {h : k_H} {M : s_M} {p nm : Int32} (hM : m_M s M) (w : d_wf (g_DS M)) : k_cti (tX12_named G l) [vR (some b), vI p, vI nm] (m_hp b s h) (m_p b h (m_R (F_named M p nm))) := by
  have hds := hM.2.2.2.2.2.2
  have hD : 0 < (g_DS M).2 := by have := (hds.2.2.2 _ w.2.1).1; omega
  refine k_cti_of (eX12_named ok.2 (mX12_named_0 (c_X12_isDirectory ok hds hD) ?_))
  rintro _ _ ⟨hr, rfl⟩
  rw [hr]
  have thr : ∀ k : Nat, ¬ k = 0 → k < 9 → F_named M p nm = (M, k, 0) → k_X (jX12_named G l (m_hp b s h)) (m_hp b s h) 28 [(0, vR (some b)), (1, vI p), (2, vI nm)] [vI (nI k), vR (some b)] (q_i (m_p b h (m_R (F_named M p nm)))) := by
    intro k hk hk9 he
    refine mX12_named_28 (c_X12_goes ok) ?_
    rintro _ _ ⟨hr, rfl⟩
    rw [hr, he]
    have hne : ¬ nI k = 0 := fun z => hk ((nI_eq (b := 0) (by omega) (by omega)).mp z)
    exact bX12_named_31 (fun _ => bX12_named_43 (bX12_named_44 ⟨_, rfl, _, rfl, m_thr hM hk⟩)) (fun z => absurd (by rw [decide_eq_false hne]; rfl) z)
  cases hp : d_is (g_DS M) p with
  | false => exact bX12_named_6 (fun z => absurd rfl z) (fun _ => bX12_named_9 (thr 1 (by decide) (by decide) (by unfold F_named; rw [if_pos hp])))
  | true =>
    refine bX12_named_6 (fun _ => mX12_named_13 (m_stI (c_X12_isIn ok)) ?_) (fun z => absurd z (by decide))
    rintro _ _ ⟨hr, rfl⟩
    rw [hr]
    cases hn : s_inB nm 0 9 with
    | false => exact bX12_named_20 (fun _ => bX12_named_27 (thr 2 (by decide) (by decide) (by unfold F_named; rw [hp, hn]; rfl))) (fun z => absurd rfl z)
    | true =>
      have hF : F_named M p nm = (M, 0, d_nm (g_DS M).1 p nm) := by unfold F_named; rw [hp, hn]; rfl
      rw [hF]
      refine bX12_named_20 (fun z => absurd z (by decide)) (fun _ => bX12_named_23 (mX12_named_28 (c_X12_goes ok) ?_))
      rintro _ _ ⟨hr, rfl⟩
      rw [hr]
      obtain ⟨a1, a2⟩ := m_ok hM
      generalize m_si s 52 0 = r at a1 a2
      refine bX12_named_31 (fun z => absurd z (by decide)) (fun _ => mX12_named_34 (c_X12_namedIn ok a1.2.2.2.2.2.2 w) ?_)
      rintro _ _ ⟨hr, rfl⟩
      rw [hr]
      exact bX12_named_40 (bX12_named_44 ⟨_, rfl, r, rfl, a1, a2, fun _ => rfl⟩)
theorem c_X12_move (ok : k_ok G l) {b : Nat} {s : m_S} {h : k_H} {M : s_M} {d p nm : Int32} (hM : m_M s M) (w : d_wf (g_DS M)) : k_ctv (tX12_move G l) [vR (some b), vI d, vI p, vI nm] (m_hp b s h) (m_pv b h (fun s1 => m_R (F_move M d p nm) s1 0)) := by
  have hds := hM.2.2.2.2.2.2
  have hD : 0 < (g_DS M).2 := by have := (hds.2.2.2 _ w.2.1).1; omega
  have hlim := hds.2.1
  refine k_ctv_of (eX12_move ok.2 (mX12_move_0 (c_X12_isDirectory ok hds hD) ?_))
  rintro _ _ ⟨hr, rfl⟩
  rw [hr]
  have thr : ∀ k : Nat, ¬ k = 0 → k < 9 → F_move M d p nm = (M, k, 0) → k_X (jX12_move G l (m_hp b s h)) (m_hp b s h) 122 [(0, vR (some b)), (1, vI d), (2, vI p), (3, vI nm)] [vI (nI k), vR (some b)] (q_v (m_pv b h (fun s1 => m_R (F_move M d p nm) s1 0))) := by
    intro k hk hk9 he
    refine mX12_move_122 (c_X12_goes ok) ?_
    rintro _ _ ⟨hr, rfl⟩
    rw [hr, he]
    have hne : ¬ nI k = 0 := fun z => hk ((nI_eq (b := 0) (by omega) (by omega)).mp z)
    exact bX12_move_125 (fun _ => bX12_move_142 ⟨rfl, _, rfl, m_thr hM hk⟩) (fun z => absurd (by rw [decide_eq_false hne]; rfl) z)
  -- it is moved
  have mv : (mv_can (g_DS M) d p nm && (decide (d_nm (g_DS M).1 p nm = -2147483648) || decide (d_nm (g_DS M).1 p nm = d))) = true → k_X (jX12_move G l (m_hp b s h)) (m_hp b s h) 117 [(0, vR (some b)), (1, vI d), (2, vI p), (3, vI nm)] [vR (some b)] (q_v (m_pv b h (fun s1 => m_R (F_move M d p nm) s1 0))) := by
    intro hc
    have hc2 := hc
    rw [Bool.and_eq_true] at hc2
    have hc3 := hc2.1
    unfold mv_can at hc3
    simp only [Bool.and_eq_true] at hc3
    obtain ⟨⟨⟨⟨i1, i2⟩, i3⟩, i4⟩, i5⟩ := hc3
    have hF : F_move M d p nm = (g_dset M (d_mv (g_DS M).1 (t_of d) (t_of p) (t_of nm), (g_DS M).2), 0, 0) := by unfold F_move; rw [i1, i2, i3, if_neg (by decide), if_neg (by decide), if_pos hc]
    rw [hF]
    obtain ⟨ed, hdl, dd, hdd, edd⟩ := t_of_is hds i1
    obtain ⟨ep, hpl, -⟩ := t_of_is hds i2
    have en : nm = nI (t_of nm) := (s_inN (m := 9) (by decide) i3).1
    refine bX12_move_117 (mX12_move_122 (c_X12_goes ok) ?_)
    rintro _ _ ⟨hr, rfl⟩
    rw [hr]
    obtain ⟨a1, a2⟩ := m_ok hM
    generalize m_si s 52 0 = r at a1 a2
    obtain ⟨b1, b2, b3, b4⟩ := id a1.2.2.2.2.2.2
    have ec : d.toNatClampNeg = t_of d := by conv => lhs; rw [ed]
                                             exact nI_clamp (by omega)
    have y : vp_in d 1024 := by rw [ed]; exact m_ii (by omega) (by omega)
    refine bX12_move_125 (fun z => absurd z (by decide)) (fun _ => mX12_move_128 y (mX12_move_135 y (bX12_move_142 ⟨rfl, _, rfl, m_M_ds (A := []) (B := [25, 26]) a1 ⟨b1, b2, fun k hk => ?_, fun x hx => ?_⟩ ⟨fun k hk => rfl, fun i hi => ?_⟩ (by simp) (by simp), a2, fun _ => rfl⟩)))
    · show r.2.1 28 k = _
      rw [b3 k hk]
      congr 1
      unfold d_mv
      rw [List.any_map]
      congr 1
      funext x
      show decide (x.1 = k) = decide ((if x.1 = t_of d then _ else x : s_D).1 = k)
      split <;> rfl
    · unfold d_mv at hx
      obtain ⟨x0, hx0, rfl⟩ := List.mem_map.mp hx
      obtain ⟨g1, g2, g3, g4⟩ := b4 x0 hx0
      show _ ∧ va_up (r.2.1 25) d.toNatClampNeg p _ = _ ∧ va_up (r.2.1 26) d.toNatClampNeg nm _ = _ ∧ r.2.1 27 _ = _
      rw [ec]
      by_cases e : x0.1 = t_of d
      · rw [if_pos e]
        rw [e, va_up_self, va_up_self]
        rw [e] at g4
        exact ⟨hdl, ep, en, g4⟩
      · rw [if_neg e, va_up_ne _ _ e, va_up_ne _ _ e]
        exact ⟨g1, g2, g3, g4⟩
    · simp only [List.mem_cons, List.not_mem_nil, or_false, not_or] at hi
      show (if i = 26 then _ else if i = 25 then _ else r.2.1 i) = _ ∧ _
      rw [if_neg hi.2, if_neg hi.1]
      exact ⟨rfl, rfl⟩
  -- the tests at the end
  have st78 : ∀ (ca : Bool) (o : Int32), (d_is (g_DS M) d && d_is (g_DS M) p) = true → s_inB nm 0 9 = true → ca = mv_can (g_DS M) d p nm → (ca = true → o = d_nm (g_DS M).1 p nm) →
      k_X (jX12_move G l (m_hp b s h)) (m_hp b s h) 78 [(0, vR (some b)), (1, vI d), (2, vI p), (3, vI nm), (4, vI 1), (5, vI 1), (6, vI (kB ca))] [vI o] (q_v (m_pv b h (fun s1 => m_R (F_move M d p nm) s1 0))) := by
    intro ca o h1 h2 h3 h4
    refine bX12_move_78 (fun _ => bX12_move_90 (fun _ => bX12_move_99 (fun c => ?_) (fun c => ?_)) (fun z => absurd z (by decide))) (fun z => absurd z (by decide))
    · rw [kB_0] at c
      refine bX12_move_121 (thr 3 (by decide) (by decide) ?_)
      unfold F_move
      rw [h1, h2, ← h3, c]
      rfl
    · rw [kB_n0] at c
      have ho := h4 c
      refine bX12_move_104 (fun c1 => mv ?_) (fun c1 => bX12_move_111 (fun c2 => ?_) (fun c2 => mv ?_))
      · rw [← h3, c, ← ho, decide_eq_true c1]; rfl
      · refine bX12_move_121 (thr 3 (by decide) (by decide) ?_)
        unfold F_move
        rw [h1, h2, ← h3, c, ← ho, decide_eq_false c1, decide_eq_false c2]
        rfl
      · rw [← h3, c, ← ho, decide_eq_true c2]; simp
  have st60 : ∀ ca : Bool, (d_is (g_DS M) d && d_is (g_DS M) p) = true → s_inB nm 0 9 = true → ca = mv_can (g_DS M) d p nm →
      k_X (jX12_move G l (m_hp b s h)) (m_hp b s h) 60 [(0, vR (some b)), (1, vI d), (2, vI p), (3, vI nm), (4, vI 1), (5, vI 1)] [vI (kB ca)] (q_v (m_pv b h (fun s1 => m_R (F_move M d p nm) s1 0))) := by
    intro ca h1 h2 h3
    refine bX12_move_60 (fun c => bX12_move_76 ?_) (fun c => mX12_move_67 (c_X12_namedIn ok hds w) ?_)
    · rw [kB_0] at c
      exact st78 ca _ h1 h2 h3 (fun z => by rw [c] at z; cases z)
    · rintro _ _ ⟨hr, rfl⟩
      rw [hr]
      exact bX12_move_73 (st78 ca _ h1 h2 h3 (fun _ => rfl))
  have st21 : ∀ are : Bool, are = (d_is (g_DS M) d && d_is (g_DS M) p) → k_X (jX12_move G l (m_hp b s h)) (m_hp b s h) 21 [(0, vR (some b)), (1, vI d), (2, vI p), (3, vI nm)] [vI (kB are)] (q_v (m_pv b h (fun s1 => m_R (F_move M d p nm) s1 0))) := by
    intro are h1
    refine mX12_move_21 (m_stI (c_X12_isIn ok)) ?_
    rintro _ _ ⟨hr, rfl⟩
    rw [hr]
    cases are with
    | false =>
      have F1 : F_move M d p nm = (M, 1, 0) := by unfold F_move; rw [if_pos h1.symm]
      exact bX12_move_30 (fun _ => bX12_move_59 (bX12_move_60 (fun _ => bX12_move_76 (bX12_move_78 (fun z => absurd rfl z) (fun _ => bX12_move_86 (thr 1 (by decide) (by decide) F1)))) (fun z => absurd rfl z))) (fun z => absurd rfl z)
    | true =>
      refine bX12_move_30 (fun z => absurd z (by decide)) (fun _ => ?_)
      cases hn : s_inB nm 0 9 with
      | false =>
        have F2 : F_move M d p nm = (M, 2, 0) := by unfold F_move; rw [← h1, hn]; rfl
        exact bX12_move_37 (fun _ => bX12_move_59 (bX12_move_60 (fun _ => bX12_move_76 (bX12_move_78 (fun _ => bX12_move_90 (fun z => absurd rfl z) (fun _ => bX12_move_95 (thr 2 (by decide) (by decide) F2))) (fun z => absurd z (by decide)))) (fun z => absurd rfl z))) (fun z => absurd rfl z)
      | true =>
        refine bX12_move_37 (fun z => absurd z (by decide)) (fun _ => ?_)
        have h1' := h1.symm
        have h1'' := h1'
        rw [Bool.and_eq_true] at h1''
        refine bX12_move_42 (fun c => bX12_move_59 (st60 false h1' hn ?_)) (fun c => ?_)
        · unfold mv_can
          rw [decide_eq_false (fun z => z c)]
          simp
        · obtain ⟨ed, hdl, -⟩ := t_of_is hds h1''.1
          obtain ⟨ep, hpl, dp, hdp, edp⟩ := t_of_is hds h1''.2
          refine mX12_move_46 (by rw [ep, ed, ← edp]; exact c_X12_isBelow ok hds w (by omega) hdp) ?_
          rintro _ _ ⟨hr, rfl⟩
          rw [hr, edp]
          refine bX12_move_52 (fun c1 => ?_) (fun c1 => ?_)
          · rw [kB_n0] at c1
            refine bX12_move_59 (st60 false h1' hn ?_)
            unfold mv_can
            rw [c1]; simp
          · rw [kB_0] at c1
            refine bX12_move_55 (st60 true h1' hn ?_)
            unfold mv_can
            rw [h1''.1, h1''.2, hn, decide_eq_true c, c1]; rfl
  refine bX12_move_5 (fun c => ?_) (fun c => ?_)
  · rw [kB_0] at c
    exact bX12_move_20 (st21 false (by rw [c]; rfl))
  · rw [kB_n0] at c
    refine mX12_move_8 (c_X12_isDirectory ok hds hD) ?_
    rintro _ _ ⟨hr, rfl⟩
    rw [hr]
    refine bX12_move_13 (fun c1 => ?_) (fun c1 => ?_)
    · rw [kB_0] at c1
      exact bX12_move_20 (st21 false (by rw [c1]; simp))
    · rw [kB_n0] at c1
      exact bX12_move_16 (st21 true (by rw [c, c1]; rfl))
end MDS
