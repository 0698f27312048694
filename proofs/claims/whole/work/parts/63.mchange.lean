/-! THE REFERENCE KEEPS CHANGES; the rest of reading ranges -/
def g_kp (M : s_M) (t : Nat) (y : k_CH) : s_M := ((g_n M, g_gen M, g_los M, g_why M, g_ser M + 1), (if m_ck y < 6 then m_ins y.2.2.1 (g_E M).1 else (g_E M).1, (g_E M).2), (fun q => if q = t then ((g_X M t).1, (g_X M t).2.1 ++ [y], (g_X M t).2.2) else g_X M q), M.2.2.2)
def g_shut (M : s_M) (t : Nat) : Bool := !(g_X M t).1.1 || decide (12 ≤ (g_X M t).2.1.length)
def F_change (M : s_M) (x k a b c v : Int32) : s_M × Nat × Int32 :=
  if s_inB x 0 3 = false then (M, 1, 0)
  else if (s_inB k 0 6 && (decide (k = 1) || decide (k = 5) || s_inB v (-1000000) 1000000) && s_keyB a b c && !s_inB a (-7) (-1)) = false then (M, 2, 0)
  else if g_shut M (t_of x) = true then (M, 3, 0)
  else (g_kp M (t_of x) (g_ser M + 1, k, s_cd a b c, s_cd a b c + 1, v, if k = 6 then s_last b c else 0), 0, nI ((g_X M (t_of x)).2.1.length + 1))
def F_clear (M : s_M) (x a b : Int32) : s_M × Nat × Int32 :=
  if s_inB x 0 3 = false then (M, 1, 0)
  else if (s_rngB a b && !(decide (a = 10000)) && !s_inB a (-7) (-1)) = false then (M, 2, 0)
  else if g_shut M (t_of x) = true then (M, 3, 0)
  else (g_kp M (t_of x) (g_ser M + 1, 1, s_lo a b, s_la a b + 1, 0, 0), 0, nI ((g_X M (t_of x)).2.1.length + 1))
def F_offer (M : s_M) (x v : Int32) : s_M × Nat × Int32 :=
  if s_inB x 0 3 = false then (M, 1, 0)
  else if s_inB v 0 1000000 = false then (M, 2, 0)
  else if g_shut M (t_of x) = true then (M, 3, 0)
  else (g_kp M (t_of x) (g_ser M + 1, 6, s_cd (-5) 0 10000, s_cd (-5) 0 10000 + 1, v, 1), 0, nI ((g_X M (t_of x)).2.1.length + 1))
theorem s_cd_div {a b c : Int32} (hb : s_na b) (hc : s_na c) : s_cd a b c / 121000000 = s_dg a := by
  have h2 := s_dg_lt hb; have h3 := s_dg_lt hc
  unfold s_cd
  omega
theorem s_lay {a b c : Int32} (ha : s_na a) (hb : s_na b) (hc : s_na c) (h : s_inB a (-7) (-1) = false) : ¬ s_cd a b c / 121000000 = 996 := by
  rw [s_cd_div hb hc]
  intro e
  have h1 := s_un_dg ha
  rw [e] at h1
  have h2 : s_un 996 = -4 := by decide
  rw [h2] at h1
  rw [← h1] at h
  exact absurd h (by decide)
section MKP
variable {G : k_G} {l : Launch}
theorem c_keeps_M (ok : k_ok G l) {b : Nat} {s : m_S} {h : k_H} {M : s_M} {t : Nat} {y : k_CH} (hM : m_M s M) (ht : t < 4) (hser : g_ser M + 1 < 2 ^ 30) (hlen : (g_X M t).2.1.length < 4096) (hy : m_wc y) (hy1 : y.1 = g_ser M + 1) (hKM : m_ck y < 6 → (m_ins y.2.2.1 (g_E M).1).length ≤ 12000) :
    k_ctv (tX12_keeps G l) [vR (some b), vI (nI t), vI (m_ck y), vJ (lN y.2.2.1), vJ (lN (y.2.2.2.1 - 1)), vI (m_cv y)] (m_hp b s h) (m_pv b h (fun s1 => m_M s1 (g_kp M t y) ∧ s1.1 52 = s.1 52)) := by
  obtain ⟨h1, ⟨h2, h3, h4, h5⟩, h6, h7, h8, h9, h10⟩ := id hM
  obtain ⟨h', T, s1, e, p1, p2, p3, p4, p5⟩ := c_X12_keeps ok (h := h) (b := b) h1.1 ht (h6 t ht) h5 hser hlen hy hy1 hKM
  refine ⟨h', T, s1, e, ⟨⟨p1, m_rg_fr h1.2 p5 (by simp) (by simp)⟩, ⟨(p5.1 1 (by simp)).trans h2, m_lo_fr h3 p5 (by simp), (p5.1 32 (by simp)).trans h4, p2⟩, fun u hu => ?_, m_wt_fr h7 p5 (by simp) (by simp), m_mk_fr h8 p5 (by simp) (by simp), m_pt_fr h9 p5 (by simp) (by simp), m_ds_fr h10 p5 (by simp) (by simp)⟩, p5.1 52 (by simp)⟩
  show m_tx s1 u (if u = t then _ else g_X M u)
  by_cases e : u = t
  · rw [if_pos e, e]; exact p3
  · rw [if_neg e]; exact m_tx_tk (h6 u hu) (p4 u hu e)
theorem c_keepsKey_M (ok : k_ok G l) {b : Nat} {s : m_S} {h : k_H} {M : s_M} {t : Nat} {y : k_CH} (hM : m_M s M) (ht : t < 4) (hser : g_ser M + 1 < 2 ^ 30) (hlen : (g_X M t).2.1.length < 4096) (hy : m_wc y) (hy1 : y.1 = g_ser M + 1) (hhi : y.2.2.2.1 = y.2.2.1 + 1) (hKM : m_ck y < 6 → (m_ins y.2.2.1 (g_E M).1).length ≤ 12000) :
    k_ctv (tX12_keepsKey G l) [vR (some b), vI (nI t), vI (m_ck y), vJ (lN y.2.2.1), vI (m_cv y)] (m_hp b s h) (m_pv b h (fun s1 => m_M s1 (g_kp M t y) ∧ s1.1 52 = s.1 52)) := by
  have K := c_keeps_M ok (h := h) (b := b) hM ht hser hlen hy hy1 hKM
  rw [hhi, Nat.add_sub_cancel] at K
  refine k_ctv_of (eX12_keepsKey ok.2 (mX12_keepsKey_0 K ?_))
  rintro r2 ⟨p1, p2⟩
  exact bX12_keepsKey_10 ⟨rfl, r2, rfl, p1, p2⟩
theorem c_X12_offer (ok : k_ok G l) {b : Nat} {s : m_S} {h : k_H} {M : s_M} {x v : Int32} (hM : m_M s M) (hser : g_ser M + 1 < 2 ^ 30) : k_cti (tX12_offer G l) [vR (some b), vI x, vI v] (m_hp b s h) (m_p b h (m_R (F_offer M x v))) := by
  refine k_cti_of (eX12_offer ok.2 (mX12_offer_0 (m_stI (c_X12_isTransaction ok)) ?_))
  rintro _ _ ⟨hr, rfl⟩
  rw [hr]
  have thr : ∀ k : Nat, ¬ k = 0 → k < 9 → F_offer M x v = (M, k, 0) → k_X (jX12_offer G l (m_hp b s h)) (m_hp b s h) 40 [(0, vR (some b)), (1, vI x), (2, vI v)] [vI (nI k), vR (some b)] (q_i (m_p b h (m_R (F_offer M x v)))) := by
    intro k hk hk9 he
    refine mX12_offer_40 (c_X12_goes ok) ?_
    rintro _ _ ⟨hr, rfl⟩
    rw [hr, he]
    have hne : ¬ nI k = 0 := fun z => hk ((nI_eq (b := 0) (by omega) (by omega)).mp z)
    exact bX12_offer_43 (fun z => absurd (by rw [decide_eq_false hne]; rfl) z) (fun _ => bX12_offer_46 ⟨_, rfl, _, rfl, m_thr hM hk⟩)
  cases hin : s_inB x 0 3 with
  | false => exact bX12_offer_5 (fun z => absurd rfl z) (fun _ => bX12_offer_8 (thr 1 (by decide) (by decide) (by unfold F_offer; rw [if_pos hin])))
  | true =>
    obtain ⟨t, ht, rfl, e9⟩ := s_in4 hin
    have eto : t_of (nI t) = t := e9
    have et : (nI t).toNatClampNeg = t := nI_clamp (by omega)
    have yt : vp_in (nI t) 4 := m_ii ht (by omega)
    refine bX12_offer_5 (fun _ => mX12_offer_12 (m_stI (c_X12_isIn ok)) ?_) (fun z => absurd z (by decide))
    rintro _ _ ⟨hr, rfl⟩
    rw [hr]
    cases hv : s_inB v 0 1000000 with
    | false => exact bX12_offer_20 (fun z => absurd rfl z) (fun _ => bX12_offer_23 (thr 2 (by decide) (by decide) (by unfold F_offer; rw [hin, hv]; rfl)))
    | true =>
      refine bX12_offer_20 (fun _ => mX12_offer_27 (c_X12_isShut ok ht (hM.2.2.1 t ht)) ?_) (fun z => absurd z (by decide))
      rintro _ _ ⟨hr, rfl⟩
      rw [hr]
      refine bX12_offer_32 (fun c1 => ?_) (fun c1 => ?_)
      · rw [kB_0] at c1
        have c2 : g_shut M t = false := c1
        have hF : F_offer M (nI t) v = (g_kp M t (g_ser M + 1, 6, s_cd (-5) 0 10000, s_cd (-5) 0 10000 + 1, v, 1), 0, nI ((g_X M t).2.1.length + 1)) := by unfold F_offer; rw [hin, hv, eto, c2]; rfl
        rw [hF]
        refine bX12_offer_39 (mX12_offer_40 (c_X12_goes ok) ?_)
        rintro _ _ ⟨hr, rfl⟩
        rw [hr]
        obtain ⟨a1, a2⟩ := m_ok hM
        generalize m_si s 52 0 = r at a1 a2
        have n5 : s_na (-5) := Or.inr (s_nmB_iff.mp (by decide))
        have n0 : s_na 0 := Or.inr (s_nmB_iff.mp (by decide))
        have hcl := s_cd_lt n5 n0 (Or.inl rfl)
        have hlen : (g_X M t).2.1.length < 12 := by
          unfold g_shut at c2
          simp only [Bool.or_eq_false_iff, decide_eq_false_iff_not] at c2
          omega
        have hd : ¬ s_cd (-5) 0 10000 / 121000000 = 996 := by decide
        refine bX12_offer_43 (fun _ => mX12_offer_48 (m_stJ (c_X12_codeOf ok n5 n0 (Or.inl rfl))) ?_) (fun z => absurd z (by decide))
        rintro _ _ ⟨hr, rfl⟩
        rw [hr]
        have hck : m_ck (g_ser M + 1, 6, s_cd (-5) 0 10000, s_cd (-5) 0 10000 + 1, v, 1) = 6 := by
          unfold m_ck
          rw [if_neg (by simp), if_neg (fun z => hd z.2)]
        have hcv : m_cv (g_ser M + 1, 6, s_cd (-5) 0 10000, s_cd (-5) 0 10000 + 1, v, 1) = v := by
          unfold m_cv
          rw [if_neg (by simp)]
        have K := c_keepsKey_M ok (h := h) (b := b) (y := (g_ser M + 1, 6, s_cd (-5) 0 10000, s_cd (-5) 0 10000 + 1, v, 1)) a1 ht hser (by omega) ⟨by simp, Nat.lt_succ_self _, by show s_cd (-5) 0 10000 + 1 < 2 ^ 61; omega, Or.inl rfl, hcl, hser⟩ rfl rfl (fun z => by rw [hck] at z; exact absurd z (by decide))
        rw [hck, hcv] at K
        refine mX12_offer_61 K ?_
        rintro r2 ⟨p1, p2⟩
        refine mX12_offer_65 yt ⟨_, rfl, r2, rfl, p1, p2.trans a2, fun _ => ?_⟩
        rw [et, (p1.2.2.1 t ht).2.2.1.1]
        show nI ((if t = t then _ else g_X M t) : s_X).2.1.length = _
        rw [if_pos rfl, List.length_append]
        rfl
      · rw [kB_n0] at c1
        have c2 : g_shut M t = true := c1
        exact bX12_offer_35 (thr 3 (by decide) (by decide) (by unfold F_offer; rw [hin, hv, eto, c2]; rfl))
theorem c_X12_clear (ok : k_ok G l) {b : Nat} {s : m_S} {h : k_H} {M : s_M} {x a b' : Int32} (hM : m_M s M) (hser : g_ser M + 1 < 2 ^ 30) : k_cti (tX12_clear G l) [vR (some b), vI x, vI a, vI b'] (m_hp b s h) (m_p b h (m_R (F_clear M x a b'))) := by
  refine k_cti_of (eX12_clear ok.2 (mX12_clear_0 (m_stI (c_X12_isRange ok)) ?_))
  rintro _ _ ⟨hr, rfl⟩
  rw [hr]
  have thr : ∀ k : Nat, ¬ k = 0 → k < 9 → F_clear M x a b' = (M, k, 0) → k_X (jX12_clear G l (m_hp b s h)) (m_hp b s h) 66 [(0, vR (some b)), (1, vI x), (2, vI a), (3, vI b')] [vI (nI k), vR (some b)] (q_i (m_p b h (m_R (F_clear M x a b')))) := by
    intro k hk hk9 he
    refine mX12_clear_66 (c_X12_goes ok) ?_
    rintro _ _ ⟨hr, rfl⟩
    rw [hr, he]
    have hne : ¬ nI k = 0 := fun z => hk ((nI_eq (b := 0) (by omega) (by omega)).mp z)
    exact bX12_clear_69 (fun z => absurd (by rw [decide_eq_false hne]; rfl) z) (fun _ => bX12_clear_72 ⟨_, rfl, _, rfl, m_thr hM hk⟩)
  -- behind the test of the arguments
  have st : ∀ u : Bool, u = (s_rngB a b' && !(decide (a = 10000)) && !s_inB a (-7) (-1)) → k_X (jX12_clear G l (m_hp b s h)) (m_hp b s h) 30 [(0, vR (some b)), (1, vI x), (2, vI a), (3, vI b')] [vI (kB u)] (q_i (m_p b h (m_R (F_clear M x a b')))) := by
    intro u hu
    refine mX12_clear_30 (m_stI (c_X12_isTransaction ok)) ?_
    rintro _ _ ⟨hr, rfl⟩
    rw [hr]
    cases hin : s_inB x 0 3 with
    | false => exact bX12_clear_37 (fun z => absurd rfl z) (fun _ => bX12_clear_40 (thr 1 (by decide) (by decide) (by unfold F_clear; rw [if_pos hin])))
    | true =>
      obtain ⟨t, ht, rfl, e9⟩ := s_in4 hin
      have eto : t_of (nI t) = t := e9
      have et : (nI t).toNatClampNeg = t := nI_clamp (by omega)
      have yt : vp_in (nI t) 4 := m_ii ht (by omega)
      refine bX12_clear_37 (fun _ => ?_) (fun z => absurd z (by decide))
      refine bX12_clear_44 (fun c1 => ?_) (fun c1 => ?_)
      · rw [kB_n0] at c1
        rw [c1] at hu
        refine mX12_clear_53 (c_X12_isShut ok ht (hM.2.2.1 t ht)) ?_
        rintro _ _ ⟨hr, rfl⟩
        rw [hr]
        refine bX12_clear_58 (fun c1 => ?_) (fun c1 => ?_)
        · rw [kB_0] at c1
          have c2 : g_shut M t = false := c1
          have hF : F_clear M (nI t) a b' = (g_kp M t (g_ser M + 1, 1, s_lo a b', s_la a b' + 1, 0, 0), 0, nI ((g_X M t).2.1.length + 1)) := by unfold F_clear; rw [hin, ← hu, eto, c2]; rfl
          rw [hF]
          have hu2 := hu.symm
          simp only [Bool.and_eq_true, Bool.not_eq_true', decide_eq_false_iff_not] at hu2
          obtain ⟨⟨u1, u2⟩, u3⟩ := hu2
          obtain ⟨na, nb⟩ := s_rngB_na u1
          obtain ⟨l1, l2, l3⟩ := s_la_ok na nb
          have hgt : s_lo a b' + 1 < s_la a b' + 1 := by
            unfold s_lo s_la s_hi
            simp only [if_neg u2]
            split <;> omega
          have hlen : (g_X M t).2.1.length < 12 := by
            unfold g_shut at c2
            simp only [Bool.or_eq_false_iff, decide_eq_false_iff_not] at c2
            omega
          refine bX12_clear_65 (mX12_clear_66 (c_X12_goes ok) ?_)
          rintro _ _ ⟨hr, rfl⟩
          rw [hr]
          obtain ⟨a1, a2⟩ := m_ok hM
          generalize m_si s 52 0 = r at a1 a2
          refine bX12_clear_69 (fun _ => mX12_clear_74 (m_stJ (c_X12_firstOf ok na nb)) ?_) (fun z => absurd z (by decide))
          rintro _ _ ⟨hr, rfl⟩
          rw [hr]
          refine mX12_clear_83 (m_stJ (c_X12_lastOf ok na nb)) ?_
          rintro _ _ ⟨hr, rfl⟩
          rw [hr]
          have hck : m_ck (g_ser M + 1, 1, s_lo a b', s_la a b' + 1, 0, 0) = 7 := if_pos ⟨rfl, by show 1 < s_la a b' + 1 - s_lo a b'; omega⟩
          have hcv : m_cv (g_ser M + 1, 1, s_lo a b', s_la a b' + 1, 0, 0) = 0 := if_pos (Or.inl rfl)
          have K := c_keeps_M ok (h := h) (b := b) (y := (g_ser M + 1, 1, s_lo a b', s_la a b' + 1, 0, 0)) a1 ht hser (by omega) ⟨Or.inr (Or.inl rfl), by show s_lo a b' < s_la a b' + 1; omega, by show s_la a b' + 1 < 2 ^ 61; omega, Or.inr rfl, l3, hser⟩ rfl (fun z => by rw [hck] at z; exact absurd z (by decide))
          rw [hck, hcv] at K
          refine mX12_clear_88 K ?_
          rintro r2 ⟨p1, p2⟩
          refine mX12_clear_92 yt ⟨_, rfl, r2, rfl, p1, p2.trans a2, fun _ => ?_⟩
          rw [et, (p1.2.2.1 t ht).2.2.1.1]
          show nI ((if t = t then _ else g_X M t) : s_X).2.1.length = _
          rw [if_pos rfl, List.length_append]
          rfl
        · rw [kB_n0] at c1
          have c2 : g_shut M t = true := c1
          exact bX12_clear_61 (thr 3 (by decide) (by decide) (by unfold F_clear; rw [hin, ← hu, eto, c2]; rfl))
      · rw [kB_0] at c1
        rw [c1] at hu
        exact bX12_clear_49 (thr 2 (by decide) (by decide) (by unfold F_clear; rw [hin, ← hu]; rfl))
  cases h1 : s_rngB a b' with
  | false => exact bX12_clear_5 (fun _ => bX12_clear_29 (st false (by rw [h1]; rfl))) (fun z => absurd rfl z)
  | true =>
    refine bX12_clear_5 (fun z => absurd z (by decide)) (fun _ => bX12_clear_8 (fun c1 => bX12_clear_29 (st false (by rw [decide_eq_true c1]; simp))) (fun c1 => mX12_clear_15 (m_stI (c_X12_isIn ok)) ?_))
    rintro _ _ ⟨hr, rfl⟩
    rw [hr]
    cases h2 : s_inB a (-7) (-1) with
    | true => exact bX12_clear_22 (fun _ => bX12_clear_29 (st false (by rw [h2]; simp))) (fun z => absurd z (by decide))
    | false => exact bX12_clear_22 (fun z => absurd rfl z) (fun _ => bX12_clear_25 (st true (by rw [h1, h2, decide_eq_false c1]; rfl)))
end MKP
