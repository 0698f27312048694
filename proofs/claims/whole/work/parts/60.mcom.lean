/-! THE REFERENCE'S COMMIT -/
def g_goes (M : s_M) (t : Nat) : Bool := !(decide ((g_X M t).2.1.length = 0)) && !(decide (30 < g_n M - (g_X M t).1.2.2.1)) && decide ((g_X M t).1.2.2.2.1 = g_gen M) && decide ((g_X M t).2.2.findIdx? (s_met (g_X M t).2.1 (g_X M t).1.2.2.1 (g_E M).2.1 (g_E M).2.2) = none)
/-- what a commit tells, and the state; the transaction isn't over yet -/
def f_cmd (M : s_M) (t : Nat) : s_M × Int32 :=
  if (g_X M t).2.1.length = 0 then (M, nI (g_X M t).1.2.2.1)
  else if 30 < g_n M - (g_X M t).1.2.2.1 ∨ ¬ (g_X M t).1.2.2.2.1 = g_gen M then (M, -2)
  else match (g_X M t).2.2.findIdx? (s_met (g_X M t).2.1 (g_X M t).1.2.2.1 (g_E M).2.1 (g_E M).2.2) with
    | some k => (g_sw M (nI k), -1)
    | none => if g_los M = 2 then (g_sl M 0, -3) else (g_tx (g_cm (g_sl M 0) (e_all (g_n M + 1) (g_X M t).2.1 (g_E M))) t (g_dn (g_X M t) (g_n M + 1)), if g_los M = 1 then -3 else nI (g_n M + 1))
def f_commit (M : s_M) (t : Nat) : s_M × Int32 :=
  if (g_X M t).1.2.1 = true ∧ 0 < (g_X M t).1.2.2.2.2 then (g_tx M t (g_ov (g_X M t)), nI (g_X M t).1.2.2.2.2)
  else if (f_cmd M t).2 = -3 then f_cmd M t else (g_tx (f_cmd M t).1 t (g_ov (g_X (f_cmd M t).1 t)), (f_cmd M t).2)
theorem m_M_tx {s s1 : m_S} {A B : List Nat} {M : s_M} {t : Nat} {x : s_X} (h : m_M s M) (ht : t < 4) (hx : m_tx s1 t x) (hft : m_ft t s s1) (f : m_fr A B s s1) (hA : ∀ k ∈ A, k = 33 ∨ k = 34 ∨ k = 35 ∨ k = 52) (hB : ∀ k ∈ B, 9 < k ∧ k < 25) : m_M s1 (g_tx M t x) := by
  obtain ⟨h1, ⟨h2, h3, h4, h5⟩, h6, h7, h8, h9, h10⟩ := h
  have nA : ∀ k, k ≠ 33 → k ≠ 34 → k ≠ 35 → k ≠ 52 → k ∉ A := fun k a b c d z => by rcases hA k z with e | e | e | e <;> contradiction
  have nB : ∀ k, ¬ (9 < k ∧ k < 25) → k ∉ B := fun k a z => a (hB k z)
  have a := fun k (z : k < 33) => nA k (by omega) (by omega) (by omega) (by omega)
  refine ⟨m_E_fr h1 f ⟨a 0 (by omega), a 2 (by omega), a 5 (by omega), a 10 (by omega)⟩ (fun i _ _ => nB i (by omega)), ⟨(f.1 1 (a 1 (by omega))).trans h2, m_lo_fr h3 f ⟨a 30 (by omega), a 31 (by omega)⟩, (f.1 32 (a 32 (by omega))).trans h4, (f.1 19 (a 19 (by omega))).trans h5⟩, fun u hu => ?_, ?_, ?_, ?_, ?_⟩
  · show m_tx s1 u (if u = t then x else g_X M u)
    by_cases e : u = t
    · rw [if_pos e, e]; exact hx
    · rw [if_neg e]; exact m_tx_tk (h6 u hu) (hft u hu e)
  · exact m_wt_fr h7 f (nA 42 (by omega) (by omega) (by omega) (by omega)) ⟨nB 30 (by omega), nB 31 (by omega)⟩
  · exact m_mk_fr h8 f (nA 47 (by omega) (by omega) (by omega) (by omega)) (nB 34 (by omega))
  · exact m_pt_fr h9 f (nA 49 (by omega) (by omega) (by omega) (by omega)) ⟨nB 35 (by omega), nB 36 (by omega)⟩
  · exact m_ds_fr h10 f (nA 36 (by omega) (by omega) (by omega) (by omega)) ⟨nB 25 (by omega), nB 26 (by omega), nB 27 (by omega), nB 28 (by omega)⟩
section MCM
variable {G : k_G} {l : Launch}
theorem m_52 (s : m_S) (x : Int32) : m_fr [52] [] s (m_si s 52 x) := ⟨fun k hk => by
  show (if k = 52 then _ else s.1 k) = _
  rw [if_neg (by simpa using hk)], fun _ _ => ⟨rfl, rfl⟩⟩
theorem c_X12_goes (ok : k_ok G l) {b : Nat} {s : m_S} {h : k_H} {x : Int32} : k_cti (tX12_goes G l) [vR (some b), vI x] (m_hp b s h) (m_p b h (fun s1 v => s1 = m_si s 52 x ∧ v = kB (decide (x = 0)))) := by
  refine k_cti_of (eX12_goes ok.2 (mX12_goes_0 ?_))
  refine bX12_goes_5 (fun c => bX12_goes_13 (bX12_goes_14 (Or.inl rfl) ⟨_, rfl, _, rfl, rfl, by rw [decide_eq_false c]; rfl⟩)) (fun c => bX12_goes_9 (bX12_goes_14 (Or.inr rfl) ⟨_, rfl, _, rfl, rfl, by rw [decide_eq_true c]; rfl⟩))
theorem c_X12_committed (ok : k_ok G l) {b : Nat} {s : m_S} {h : k_H} {M : s_M} {t : Nat} (hM : m_M s M) (ht : t < 4) (hn : g_n M + 1 < 9000) (hgen : g_gen M < 2 ^ 20) (hra : (g_X M t).1.2.2.1 ≤ g_n M) (hpk : g_pk M) (hwk : g_wk M)
    (hlim : g_goes M t = true → g_ps M (e_all (g_n M + 1) (g_X M t).2.1 (g_E M)) ∧ e_lim (e_all (g_n M + 1) (g_X M t).2.1 (g_E M))) :
    k_cti (tX12_committed G l) [vR (some b), vI (nI t)] (m_hp b s h) (m_p b h (fun s1 v => m_M s1 (f_cmd M t).1 ∧ s1.1 52 = s.1 52 ∧ v = (f_cmd M t).2)) := by
  obtain ⟨h1, ⟨h2, h3, h4, h5⟩, h6, h7, h8, h9, h10⟩ := id hM
  obtain ⟨⟨a1, a2, a3, a4, a5⟩, ⟨b1, b2, b3⟩, ⟨q1, q2, q3⟩, hrd⟩ := id (h6 t ht)
  obtain ⟨l1, l2, l3, l4⟩ := id h3
  have et : (nI t).toNatClampNeg = t := nI_clamp (by omega)
  have yt : vp_in (nI t) 4 := m_ii ht (by omega)
  have e0 : s.1 0 = nI (g_n M) := h1.1.2.2.2.2.1
  refine k_cti_of (eX12_committed ok.2 ?_)
  unfold f_cmd
  unfold g_goes at hlim
  refine mX12_committed_0 yt (fun c1 => ?_) (fun c1 => ?_)
  · rw [et, q1] at c1
    have c2 : ¬ (g_X M t).2.1.length = 0 := fun z => c1 (by rw [z]; rfl)
    rw [if_neg c2]
    have old : (30 < g_n M - (g_X M t).1.2.2.1 ∨ ¬ (g_X M t).1.2.2.2.1 = g_gen M) → k_X (jX12_committed G l (m_hp b s h)) (m_hp b s h) 45 [] [] (q_i (m_p b h (fun s1 v => m_M s1 (if 30 < g_n M - (g_X M t).1.2.2.1 ∨ ¬ (g_X M t).1.2.2.2.1 = g_gen M then (M, (-2 : Int32)) else match (g_X M t).2.2.findIdx? (s_met (g_X M t).2.1 (g_X M t).1.2.2.1 (g_E M).2.1 (g_E M).2.2) with
        | some k => (g_sw M (nI k), -1)
        | none => if g_los M = 2 then (g_sl M 0, -3) else (g_tx (g_cm (g_sl M 0) (e_all (g_n M + 1) (g_X M t).2.1 (g_E M))) t (g_dn (g_X M t) (g_n M + 1)), if g_los M = 1 then -3 else nI (g_n M + 1))).1 ∧ s1.1 52 = s.1 52 ∧ v = (if 30 < g_n M - (g_X M t).1.2.2.1 ∨ ¬ (g_X M t).1.2.2.2.1 = g_gen M then (M, (-2 : Int32)) else match (g_X M t).2.2.findIdx? (s_met (g_X M t).2.1 (g_X M t).1.2.2.1 (g_E M).2.1 (g_E M).2.2) with
        | some k => (g_sw M (nI k), -1)
        | none => if g_los M = 2 then (g_sl M 0, -3) else (g_tx (g_cm (g_sl M 0) (e_all (g_n M + 1) (g_X M t).2.1 (g_E M))) t (g_dn (g_X M t) (g_n M + 1)), if g_los M = 1 then -3 else nI (g_n M + 1))).2))) := fun z => by
      rw [if_pos z]
      exact bX12_committed_45 ⟨_, rfl, s, rfl, hM, rfl, rfl⟩
    refine mX12_committed_16 yt (fun c3 => ?_) (fun c3 => ?_)
    · rw [et, e0, a3, nI_sub hra] at c3
      exact old (Or.inl ((nI_ltI (a := 30) (by omega) (by omega)).mp c3))
    · rw [et, e0, a3, nI_sub hra] at c3
      have c4 : ¬ 30 < g_n M - (g_X M t).1.2.2.1 := fun z => c3 ((nI_ltI (a := 30) (by omega) (by omega)).mpr z)
      refine mX12_committed_32 yt (fun c5 => ?_) (fun c5 => old (Or.inr (fun z => c5 (by rw [et, a4, h2, z]))))
      rw [et, a4, h2] at c5
      have c6 := (nI_eq (by omega) (by omega)).mp c5
      rw [if_neg (fun z => z.elim c4 (fun y => y c6))]
      refine mX12_committed_48 (c_X12_firstMet ok h1.1 h1.2 hwk.2 hwk.1 ht (h6 t ht)) ?_
      rintro _ _ ⟨hr, rfl⟩
      rw [hr]
      cases hfi : (g_X M t).2.2.findIdx? (s_met (g_X M t).2.1 (g_X M t).1.2.2.1 (g_E M).2.1 (g_E M).2.2) with
      | some k =>
        have hk : k < 2048 := by
          have h9 := (List.findIdx?_eq_some_iff_getElem.mp hfi).1
          have := hrd.2.1
          omega
        refine bX12_committed_53 (fun z => ?_) (fun _ => mX12_committed_60 (bX12_committed_65 ⟨_, rfl, _, rfl, ?_, rfl, rfl⟩))
        · exfalso
          have : ¬ nI k < 0 := nI_pos (by omega)
          have z2 : nI k = -2147483648 := z
          rw [z2] at this
          exact this (by decide)
        · have f : m_fr [32] [] s (m_si s 32 (nI k)) := ⟨fun q hq => by
            show (if q = 32 then _ else s.1 q) = _
            rw [if_neg (by simpa using hq)], fun _ _ => ⟨rfl, rfl⟩⟩
          exact ⟨m_E_fr h1 f (by simp) (fun i _ _ => by simp), ⟨h2, m_lo_fr h3 f (by simp), rfl, h5⟩, fun u hu => m_tx_tk (h6 u hu) (m_tk_fr f (fun i _ _ => by simp)), m_wt_fr h7 f (by simp) (by simp), m_mk_fr h8 f (by simp) (by simp), m_pt_fr h9 f (by simp) (by simp), m_ds_fr h10 f (by simp) (by simp)⟩
      | none =>
        have hlim2 := hlim (by rw [hfi]; simp [c2, c4, c6])
        refine bX12_committed_53 (fun _ => mX12_committed_67 ?_) (fun z => absurd rfl z)
        rw [l1]
        have f30 : m_fr [30] [] s (m_si s 30 0) := ⟨fun q hq => by
          show (if q = 30 then _ else s.1 q) = _
          rw [if_neg (by simpa using hq)], fun _ _ => ⟨rfl, rfl⟩⟩
        have hlo0 : m_lo (m_si s 30 0) 0 := And.intro rfl (And.intro (fun z => absurd z (by decide)) (And.intro (fun z => absurd z (by decide)) (by decide)))
        have hM2 : m_M (m_si s 30 0) (g_sl M 0) := ⟨m_E_fr h1 f30 (by simp) (fun i _ _ => by simp), ⟨h2, hlo0, h4, h5⟩, fun u hu => m_tx_tk (h6 u hu) (m_tk_fr f30 (fun i _ _ => by simp)), m_wt_fr h7 f30 (by simp) (by simp), m_mk_fr h8 f30 (by simp) (by simp), m_pt_fr h9 f30 (by simp) (by simp), m_ds_fr h10 f30 (by simp) (by simp)⟩
        have h31 : (m_si s 30 0).1 31 = s.1 31 := rfl
        have h52 : (m_si s 30 0).1 52 = s.1 52 := rfl
        generalize m_si s 30 0 = r at hM2 h31 h52 f30
        have apply9 : ¬ g_los M = 2 → k_X (jX12_committed G l (m_hp b s h)) (m_hp b r h) 88 [(0, vR (some b)), (1, vI (nI t)), (3, vI (kB (decide (g_los M ≠ 0))))] [] (q_i (m_p b h (fun s1 v => m_M s1 (if g_los M = 2 then (g_sl M 0, (-3 : Int32)) else (g_tx (g_cm (g_sl M 0) (e_all (g_n M + 1) (g_X M t).2.1 (g_E M))) t (g_dn (g_X M t) (g_n M + 1)), if g_los M = 1 then -3 else nI (g_n M + 1))).1 ∧ s1.1 52 = s.1 52 ∧ v = (if g_los M = 2 then (g_sl M 0, (-3 : Int32)) else (g_tx (g_cm (g_sl M 0) (e_all (g_n M + 1) (g_X M t).2.1 (g_E M))) t (g_dn (g_X M t) (g_n M + 1)), if g_los M = 1 then -3 else nI (g_n M + 1))).2))) := by
          intro hl2
          rw [if_neg hl2]
          refine mX12_committed_88 (c_X12_applies ok (M := g_sl M 0) hM2 ht hn hpk hlim2.1 hlim2.2) ?_
          rintro r2 ⟨p1, p2⟩
          have e02 : r2.1 0 = nI (g_n M + 1) := p1.1.1.2.2.2.2.1
          refine mX12_committed_93 yt ?_
          rw [et, e02]
          have hx2 := p1.2.2.1 t ht
          have fM : m_M (m_sa r2 14 (va_up (r2.2.1 14) t (nI (g_n M + 1)))) (g_tx (g_cm (g_sl M 0) (e_all (g_n M + 1) (g_X M t).2.1 (g_E M))) t (g_dn (g_X M t) (g_n M + 1))) := by
            refine m_M_tx (A := []) (B := [14]) p1 ht ?_ ?_ ⟨fun _ _ => rfl, fun i hi => ?_⟩ (by simp) (by simp)
            · obtain ⟨⟨z1, z2, z3, z4, z5⟩, ⟨y1, y2, y3⟩, zc, zr⟩ := hx2
              refine ⟨⟨z1, z2, z3, z4, ?_⟩, ⟨y1, y2, by show g_n M + 1 < 2 ^ 20; omega⟩, zc, zr⟩
              show va_up (r2.2.1 14) t (nI (g_n M + 1)) t = _
              rw [va_up_self]; rfl
            · intro u hu hne
              refine ⟨⟨rfl, rfl, rfl, rfl, ?_⟩, ⟨rfl, fun _ _ => ⟨rfl, rfl, rfl, rfl, rfl⟩⟩, ⟨rfl, fun _ _ => ⟨rfl, rfl, rfl⟩⟩⟩
              show va_up (r2.2.1 14) t (nI (g_n M + 1)) u = _
              rw [va_up_ne _ _ hne]
            · show (if i = 14 then _ else r2.2.1 i) = _ ∧ _
              rw [if_neg (by simpa using hi)]
              exact ⟨rfl, rfl⟩
          have e03 : (m_sa r2 14 (va_up (r2.2.1 14) t (nI (g_n M + 1)))).1 0 = nI (g_n M + 1) := e02
          have e523 : (m_sa r2 14 (va_up (r2.2.1 14) t (nI (g_n M + 1)))).1 52 = s.1 52 := p2.trans h52
          generalize m_sa r2 14 (va_up (r2.2.1 14) t (nI (g_n M + 1))) = r3 at fM e03 e523
          refine bX12_committed_103 (fun c7 => ?_) (fun c7 => ?_)
          · rw [kB_0] at c7
            have c8 : g_los M = 0 := by simpa using c7
            refine mX12_committed_112 (bX12_committed_116 ⟨_, rfl, r3, rfl, fM, e523, ?_⟩)
            rw [if_neg (by omega), e03]
          · rw [kB_n0] at c7
            have c8 : ¬ g_los M = 0 := by simpa using c7
            refine bX12_committed_107 (bX12_committed_116 ⟨_, rfl, r3, rfl, fM, e523, ?_⟩)
            rw [if_pos (by omega)]
        refine bX12_committed_77 (fun c7 => ?_) (fun c7 => ?_)
        · rw [kB_0] at c7
          have c8 : g_los M = 0 := by simpa using c7
          exact apply9 (by omega)
        · rw [kB_n0] at c7
          have c8 : ¬ g_los M = 0 := by simpa using c7
          refine mX12_committed_81 (fun c9 => ?_) (fun c9 => ?_)
          · have hl2 : g_los M = 2 := by
              by_cases e1 : g_los M = 1
              · rw [h31, l2 e1] at c9; exact absurd c9 (by decide)
              · omega
            rw [if_pos hl2]
            refine bX12_committed_103 (fun z => absurd z (by rw [decide_eq_true c8]; decide)) (fun _ => bX12_committed_107 (bX12_committed_116 ⟨_, rfl, r, rfl, hM2, h52, rfl⟩))
          · refine apply9 (fun e2 => ?_)
            rw [h31, l3 e2] at c9
            exact c9 rfl
  · rw [et, q1] at c1
    have c2 : (g_X M t).2.1.length = 0 := (nI_eq (b := 0) (by omega) (by omega)).mp c1
    rw [if_pos c2]
    refine mX12_committed_9 yt ⟨_, rfl, s, rfl, hM, rfl, ?_⟩
    rw [et, a3]
theorem f_cmd_tx (M : s_M) (t : Nat) : (g_X (f_cmd M t).1 t).1.2.1 = (g_X M t).1.2.1 := by
  unfold f_cmd
  split
  · rfl
  · split
    · rfl
    · split
      · rfl
      · split
        · rfl
        · show (if t = t then g_dn (g_X M t) (g_n M + 1) else _).1.2.1 = _
          rw [if_pos rfl]; rfl
theorem s_in4 {x : Int32} (h : s_inB x 0 3 = true) : ∃ t, t < 4 ∧ x = nI t ∧ x.toInt.toNat = t := by
  unfold s_inB at h
  simp only [Bool.and_eq_true, decide_eq_true_eq] at h
  have e1 := Int32.le_iff_toInt_le.mp (Int32.not_lt.mp h.1)
  have e2 := Int32.le_iff_toInt_le.mp (Int32.not_lt.mp h.2)
  have r1 : (0 : Int32).toInt = 0 := by decide
  have r2 : (3 : Int32).toInt = 3 := by decide
  refine ⟨x.toInt.toNat, by omega, ?_, rfl⟩
  apply Int32.toInt_inj.mp
  rw [nI_toInt (by omega)]
  omega
/-- the transaction that a number names -/
def t_of (x : Int32) : Nat := x.toInt.toNat
def F_commit (M : s_M) (x : Int32) : s_M × Nat × Int32 := if s_inB x 0 3 = false then (M, 1, 0) else if (g_X M (t_of x)).1.1 = false then (M, 2, 0) else ((f_commit M (t_of x)).1, 0, (f_commit M (t_of x)).2)
/-- what stands behind a call of the reference -/
def m_R (R : s_M × Nat × Int32) (s1 : m_S) (v : Int32) : Prop := m_M s1 R.1 ∧ s1.1 52 = nI R.2.1 ∧ (R.2.1 = 0 → v = R.2.2)
theorem c_X12_commit (ok : k_ok G l) {b : Nat} {s : m_S} {h : k_H} {M : s_M} {x : Int32} (hM : m_M s M) (hn : g_n M + 1 < 9000) (hgen : g_gen M < 2 ^ 20) (hra : ∀ t, t < 4 → (g_X M t).1.2.2.1 ≤ g_n M ∧ (g_X M t).1.2.2.2.2 ≤ g_n M) (hpk : g_pk M) (hwk : g_wk M)
    (hlim : ∀ t, t < 4 → g_goes M t = true → g_ps M (e_all (g_n M + 1) (g_X M t).2.1 (g_E M)) ∧ e_lim (e_all (g_n M + 1) (g_X M t).2.1 (g_E M))) :
    k_cti (tX12_commit G l) [vR (some b), vI x] (m_hp b s h) (m_p b h (m_R (F_commit M x))) := by
  refine k_cti_of (eX12_commit ok.2 (mX12_commit_0 (m_stI (c_X12_isTransaction ok)) ?_))
  rintro _ _ ⟨hr, rfl⟩
  rw [hr]
  have thr : ∀ k : Nat, ¬ k = 0 → k < 9 → F_commit M x = (M, k, 0) → k_X (jX12_commit G l (m_hp b s h)) (m_hp b s h) 28 [(0, vR (some b)), (1, vI x)] [vI (nI k), vR (some b)] (q_i (m_p b h (m_R (F_commit M x)))) := by
    intro k hk hk9 he
    refine mX12_commit_28 (c_X12_goes ok) ?_
    rintro _ _ ⟨hr, rfl⟩
    rw [hr, he]
    have hne : ¬ nI k = 0 := fun z => hk ((nI_eq (b := 0) (by omega) (by omega)).mp z)
    refine bX12_commit_31 (fun z => absurd (by rw [decide_eq_false hne]; rfl) z) (fun _ => bX12_commit_34 ⟨_, rfl, _, rfl, m_M_fr hM (m_52 s (nI k)) (by simp) (by simp), rfl, fun z => absurd z hk⟩)
  cases hin : s_inB x 0 3 with
  | false => exact bX12_commit_4 (fun z => absurd rfl z) (fun _ => bX12_commit_10 (thr 1 (by decide) (by decide) (by unfold F_commit; rw [if_pos hin])))
  | true =>
    obtain ⟨t, ht, rfl, e9⟩ := s_in4 hin
    have et : (nI t).toNatClampNeg = t := nI_clamp (by omega)
    have yt : vp_in (nI t) 4 := m_ii ht (by omega)
    have eto : t_of (nI t) = t := e9
    have hx := hM.2.2.1 t ht
    refine bX12_commit_4 (fun _ => ?_) (fun z => absurd z (by decide))
    refine mX12_commit_14 yt (fun c1 => ?_) (fun c1 => ?_)
    · rw [et, hx.1.1, kB_0] at c1
      exact bX12_commit_27 (thr 2 (by decide) (by decide) (by unfold F_commit; rw [if_neg (by rw [hin]; decide), eto, if_pos c1]))
    · rw [et, hx.1.1, kB_n0] at c1
      have hF : F_commit M (nI t) = ((f_commit M t).1, 0, (f_commit M t).2) := by unfold F_commit; rw [if_neg (by rw [hin]; decide), eto, if_neg (by rw [c1]; decide)]
      rw [hF]
      refine bX12_commit_23 (mX12_commit_28 (c_X12_goes ok) ?_)
      rintro _ _ ⟨hr, rfl⟩
      rw [hr]
      have hM2 := m_M_fr hM (m_52 s 0) (by simp) (by simp)
      have h52 : (m_si s 52 0).1 52 = 0 := rfl
      generalize m_si s 52 0 = r at hM2 h52
      have hx2 := hM2.2.2.1 t ht
      refine bX12_commit_31 (fun _ => ?_) (fun z => absurd z (by decide))
      -- over, and told
      have fin : ∀ (r2 : m_S) (M2 : s_M) (v : Int32), m_M r2 M2 → r2.1 52 = 0 → ¬ v = -3 → f_commit M t = (g_tx M2 t (g_ov (g_X M2 t)), v) → k_X (jX12_commit G l (m_hp b s h)) (m_hp b r2 h) 68 [(0, vR (some b)), (1, vI (nI t))] [vI v] (q_i (m_p b h (m_R ((f_commit M t).1, 0, (f_commit M t).2)))) := by
        intro r2 M2 v hM3 h523 hv he
        refine bX12_commit_68 (fun z => absurd z hv) (fun _ => mX12_commit_75 (c_X12_over ok ht (hM3.2.2.1 t ht)) ?_)
        rintro r3 ⟨p1, p2, p3⟩
        refine bX12_commit_80 ⟨_, rfl, r3, rfl, ?_, (p3.1 52 (by simp)).trans h523, fun _ => ?_⟩
        · rw [he]
          exact m_M_tx hM3 ht p1 p2 p3 (by simp) (by simp)
        · rw [he]
      have cmd : ¬ ((g_X M t).1.2.1 = true ∧ 0 < (g_X M t).1.2.2.2.2) → k_X (jX12_commit G l (m_hp b s h)) (m_hp b r h) 63 [(0, vR (some b)), (1, vI (nI t))] [] (q_i (m_p b h (m_R ((f_commit M t).1, 0, (f_commit M t).2)))) := by
        intro hno
        have he : f_commit M t = if (f_cmd M t).2 = -3 then f_cmd M t else (g_tx (f_cmd M t).1 t (g_ov (g_X (f_cmd M t).1 t)), (f_cmd M t).2) := if_neg hno
        refine mX12_commit_63 (c_X12_committed ok hM2 ht hn hgen (hra t ht).1 hpk hwk (hlim t ht)) ?_
        rintro r2 _ ⟨p1, p2, rfl⟩
        by_cases c3 : (f_cmd M t).2 = -3
        · refine bX12_commit_68 (fun _ => bX12_commit_80 ⟨_, rfl, r2, rfl, ?_, p2.trans h52, fun _ => ?_⟩) (fun z => absurd c3 z)
          · rw [he, if_pos c3]; exact p1
          · rw [he, if_pos c3]
        · exact fin r2 _ _ p1 (p2.trans h52) c3 (by rw [he, if_neg c3])
      refine mX12_commit_36 yt (fun c2 => ?_) (fun c2 => ?_)
      · rw [et, hx2.1.2.1, kB_0] at c2
        exact cmd (fun z => by rw [c2] at z; exact absurd z.1 (by decide))
      · rw [et, hx2.1.2.1, kB_n0] at c2
        refine mX12_commit_45 yt (fun c3 => ?_) (fun c3 => ?_)
        · rw [et, hx2.1.2.2.2.2] at c3
          have := hx2.2.1.2.2
          have c4 := (nI_leI (b := 0) (by omega) (by omega)).mp c3
          exact cmd (fun z => by omega)
        · rw [et, hx2.1.2.2.2.2] at c3
          have h20 := hx2.2.1.2.2
          have c4 : ¬ (g_X M t).1.2.2.2.2 ≤ 0 := fun z => c3 ((nI_leI (b := 0) (by omega) (by omega)).mpr z)
          refine mX12_commit_54 yt ?_
          rw [et, hx2.1.2.2.2.2]
          refine fin r M _ hM2 h52 (fun z => ?_) (if_pos ⟨c2, by omega⟩)
          have h9 : ¬ nI (g_X M t).1.2.2.2.2 < 0 := nI_pos (by omega)
          rw [z] at h9
          exact h9 (by decide)
end MCM
