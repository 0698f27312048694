/-! THE REFERENCE'S CHANGE, AND RANGES BY PLACES -/
section MKQ
variable {G : k_G} {l : Launch}
theorem s_in6 {k : Int32} (h : s_inB k 0 6 = true) : k = 0 ∨ k = 1 ∨ k = 2 ∨ k = 3 ∨ k = 4 ∨ k = 5 ∨ k = 6 := by
  obtain ⟨e, hle⟩ := s_inN (m := 6) (by decide) h
  rw [e]
  generalize k.toInt.toNat = n at hle
  have : n = 0 ∨ n = 1 ∨ n = 2 ∨ n = 3 ∨ n = 4 ∨ n = 5 ∨ n = 6 := by omega
  rcases this with rfl | rfl | rfl | rfl | rfl | rfl | rfl <;> simp [show nI 0 = 0 from rfl, show nI 1 = 1 from rfl, show nI 2 = 2 from rfl, show nI 3 = 3 from rfl, show nI 4 = 4 from rfl, show nI 5 = 5 from rfl, show nI 6 = 6 from rfl]
theorem c_X12_change (ok : k_ok G l) {b : Nat} {s : m_S} {h : k_H} {M : s_M} {x k a b' c v : Int32} (hM : m_M s M) (hser : g_ser M + 1 < 2 ^ 30) (hKM : ∀ cd : Nat, (m_ins cd (g_E M).1).length ≤ 12000) : k_cti (tX12_change G l) [vR (some b), vI x, vI k, vI a, vI b', vI c, vI v] (m_hp b s h) (m_p b h (m_R (F_change M x k a b' c v))) := by
  refine k_cti_of (eX12_change ok.2 ?_)
  have thr : ∀ (z : Bool) (m : Nat), ¬ m = 0 → m < 9 → F_change M x k a b' c v = (M, m, 0) → k_X (jX12_change G l (m_hp b s h)) (m_hp b s h) 108 [(0, vR (some b)), (1, vI x), (2, vI k), (3, vI a), (4, vI b'), (5, vI c), (6, vI v), (7, vI (kB z))] [vI (nI m), vR (some b)] (q_i (m_p b h (m_R (F_change M x k a b' c v)))) := by
    intro z m hk hk9 he
    refine mX12_change_108 (c_X12_goes ok) ?_
    rintro _ _ ⟨hr, rfl⟩
    rw [hr, he]
    have hne : ¬ nI m = 0 := fun z => hk ((nI_eq (b := 0) (by omega) (by omega)).mp z)
    exact bX12_change_111 (fun z => absurd (by rw [decide_eq_false hne]; rfl) z) (fun _ => bX12_change_114 ⟨_, rfl, _, rfl, m_thr hM hk⟩)
  have st : ∀ u : Bool, u = (s_inB k 0 6 && (decide (k = 1) || decide (k = 5) || s_inB v (-1000000) 1000000) && s_keyB a b' c && !s_inB a (-7) (-1)) → k_X (jX12_change G l (m_hp b s h)) (m_hp b s h) 72 [(0, vR (some b)), (1, vI x), (2, vI k), (3, vI a), (4, vI b'), (5, vI c), (6, vI v), (7, vI (kB (decide (k = 1) || decide (k = 5))))] [vI (kB u)] (q_i (m_p b h (m_R (F_change M x k a b' c v)))) := by
    intro u hu
    refine mX12_change_72 (m_stI (c_X12_isTransaction ok)) ?_
    rintro _ _ ⟨hr, rfl⟩
    rw [hr]
    cases hin : s_inB x 0 3 with
    | false => exact bX12_change_79 (fun z => absurd rfl z) (fun _ => bX12_change_82 (thr _ 1 (by decide) (by decide) (by unfold F_change; rw [if_pos hin])))
    | true =>
      obtain ⟨t, ht, rfl, e9⟩ := s_in4 hin
      have eto : t_of (nI t) = t := e9
      have et : (nI t).toNatClampNeg = t := nI_clamp (by omega)
      have yt : vp_in (nI t) 4 := m_ii ht (by omega)
      refine bX12_change_79 (fun _ => ?_) (fun z => absurd z (by decide))
      refine bX12_change_86 (fun c1 => ?_) (fun c1 => ?_)
      · rw [kB_n0] at c1
        rw [c1] at hu
        refine mX12_change_95 (c_X12_isShut ok ht (hM.2.2.1 t ht)) ?_
        rintro _ _ ⟨hr, rfl⟩
        rw [hr]
        refine bX12_change_100 (fun c1 => ?_) (fun c1 => ?_)
        · rw [kB_0] at c1
          have c2 : g_shut M t = false := c1
          have hF : F_change M (nI t) k a b' c v = (g_kp M t (g_ser M + 1, k, s_cd a b' c, s_cd a b' c + 1, v, if k = 6 then s_last b' c else 0), 0, nI ((g_X M t).2.1.length + 1)) := by unfold F_change; rw [hin, ← hu, eto, c2]; rfl
          rw [hF]
          have hu2 := hu.symm
          simp only [Bool.and_eq_true, Bool.not_eq_true'] at hu2
          obtain ⟨⟨⟨u1, u2⟩, u3⟩, u4⟩ := hu2
          obtain ⟨na, nb, nc⟩ := s_keyB_na u3
          have hcl := s_cd_lt na nb nc
          have hd := s_lay na nb nc u4
          have hlen : (g_X M t).2.1.length < 12 := by
            unfold g_shut at c2
            simp only [Bool.or_eq_false_iff, decide_eq_false_iff_not] at c2
            omega
          refine bX12_change_107 (mX12_change_108 (c_X12_goes ok) ?_)
          rintro _ _ ⟨hr, rfl⟩
          rw [hr]
          obtain ⟨a1, a2⟩ := m_ok hM
          generalize m_si s 52 0 = r at a1 a2
          refine bX12_change_111 (fun _ => mX12_change_116 (m_stJ (c_X12_codeOf ok na nb nc)) ?_) (fun z => absurd z (by decide))
          rintro _ _ ⟨hr, rfl⟩
          rw [hr]
          have hck : m_ck (g_ser M + 1, k, s_cd a b' c, s_cd a b' c + 1, v, if k = 6 then s_last b' c else 0) = k := by
            unfold m_ck
            rw [if_neg (fun z => by have := z.2; simp only at this; omega), if_neg (fun z => hd z.2)]
          have K := c_keeps_M ok (h := h) (b := b) (y := (g_ser M + 1, k, s_cd a b' c, s_cd a b' c + 1, v, if k = 6 then s_last b' c else 0)) a1 ht hser (by omega) ⟨s_in6 u1, Nat.lt_succ_self _, by show s_cd a b' c + 1 < 2 ^ 61; omega, Or.inl rfl, hcl, hser⟩ rfl (fun _ => hKM _)
          rw [hck] at K
          have fin : ∀ g9 : Int32, g9 = m_cv (g_ser M + 1, k, s_cd a b' c, s_cd a b' c + 1, v, if k = 6 then s_last b' c else 0) → k_X (jX12_change G l (m_hp b s h)) (m_hp b r h) 144 [(0, vR (some b)), (1, vI (nI t))] [vI g9, vJ (lN (s_cd a b' c)), vJ (lN (s_cd a b' c)), vI k, vI (nI t), vR (some b)] (q_i (m_p b h (m_R (g_kp M t (g_ser M + 1, k, s_cd a b' c, s_cd a b' c + 1, v, if k = 6 then s_last b' c else 0), 0, nI ((g_X M t).2.1.length + 1))))) := by
            intro g9 hg
            rw [hg]
            refine mX12_change_144 K ?_
            rintro r2 ⟨p1, p2⟩
            refine mX12_change_147 yt ⟨_, rfl, r2, rfl, p1, p2.trans a2, fun _ => ?_⟩
            rw [et, (p1.2.2.1 t ht).2.2.1.1]
            show nI ((if t = t then _ else g_X M t) : s_X).2.1.length = _
            rw [if_pos rfl, List.length_append]
            rfl
          refine bX12_change_124 (fun c3 => bX12_change_142 (fin _ ?_)) (fun c3 => bX12_change_138 (fin _ ?_))
          · rw [kB_0] at c3
            simp only [Bool.or_eq_false_iff, decide_eq_false_iff_not] at c3
            exact (if_neg (fun z => z.elim c3.1 c3.2)).symm
          · rw [kB_n0] at c3
            simp only [Bool.or_eq_true, decide_eq_true_eq] at c3
            exact (if_pos c3).symm
        · rw [kB_n0] at c1
          have c2 : g_shut M t = true := c1
          exact bX12_change_103 (thr _ 3 (by decide) (by decide) (by unfold F_change; rw [hin, ← hu, eto, c2]; rfl))
      · rw [kB_0] at c1
        rw [c1] at hu
        exact bX12_change_91 (thr _ 2 (by decide) (by decide) (by unfold F_change; rw [hin, ← hu]; rfl))
  have st15 : ∀ f : Bool, f = (decide (k = 1) || decide (k = 5)) → k_X (jX12_change G l (m_hp b s h)) (m_hp b s h) 15 [(0, vR (some b)), (1, vI x), (2, vI k), (3, vI a), (4, vI b'), (5, vI c), (6, vI v)] [vI (kB f)] (q_i (m_p b h (m_R (F_change M x k a b' c v)))) := by
    intro f hf
    rw [← hf] at st
    refine mX12_change_15 (m_stI (c_X12_isIn ok)) ?_
    rintro _ _ ⟨hr, rfl⟩
    rw [hr]
    have bad : (s_inB k 0 6 && (f || s_inB v (-1000000) 1000000) && s_keyB a b' c && !s_inB a (-7) (-1)) = false → k_X (jX12_change G l (m_hp b s h)) (m_hp b s h) 71 [(0, vR (some b)), (1, vI x), (2, vI k), (3, vI a), (4, vI b'), (5, vI c), (6, vI v), (7, vI (kB f))] [] (q_i (m_p b h (m_R (F_change M x k a b' c v)))) := fun e => bX12_change_71 (st false e.symm)
    refine bX12_change_24 (fun c1 => ?_) (fun c1 => ?_)
    · rw [kB_0] at c1
      exact bad (by rw [c1]; rfl)
    rw [kB_n0] at c1
    have st46 : (f || s_inB v (-1000000) 1000000) = true → k_X (jX12_change G l (m_hp b s h)) (m_hp b s h) 46 [(0, vR (some b)), (1, vI x), (2, vI k), (3, vI a), (4, vI b'), (5, vI c), (6, vI v), (7, vI (kB f))] [] (q_i (m_p b h (m_R (F_change M x k a b' c v)))) := by
      intro hv
      refine mX12_change_46 (m_stI (c_X12_isKey ok)) ?_
      rintro _ _ ⟨hr, rfl⟩
      rw [hr]
      refine bX12_change_54 (fun c2 => ?_) (fun c2 => ?_)
      · rw [kB_0] at c2
        exact bad (by rw [c2]; simp)
      · rw [kB_n0] at c2
        refine mX12_change_57 (m_stI (c_X12_isIn ok)) ?_
        rintro _ _ ⟨hr, rfl⟩
        rw [hr]
        refine bX12_change_64 (fun c3 => ?_) (fun c3 => ?_)
        · rw [kB_n0] at c3
          exact bad (by rw [c3]; simp)
        · rw [kB_0] at c3
          exact bX12_change_67 (st true (by rw [c1, hv, c2, c3]; rfl))
    refine bX12_change_27 (fun c2 => ?_) (fun c2 => ?_)
    · rw [kB_n0] at c2
      exact st46 (by rw [c2]; rfl)
    · rw [kB_0] at c2
      refine mX12_change_32 (m_stI (c_X12_isIn ok)) ?_
      rintro _ _ ⟨hr, rfl⟩
      rw [hr]
      refine bX12_change_43 (fun c3 => ?_) (fun c3 => ?_)
      · rw [kB_0] at c3
        exact bad (by rw [c2, c3]; simp)
      · rw [kB_n0] at c3
        exact st46 (by rw [c3]; simp)
  exact bX12_change_0 (fun c1 => bX12_change_10 (st15 true (by rw [decide_eq_true c1]; rfl))) (fun c1 => bX12_change_5 (fun c2 => bX12_change_14 (st15 false (by rw [decide_eq_false c1, decide_eq_false c2]; rfl))) (fun c2 => bX12_change_10 (st15 true (by rw [decide_eq_true c2]; simp))))
theorem c_X12_rangeAt (ok : k_ok G l) {b : Nat} {s : m_S} {h : k_H} {M : s_M} {x a b' p w : Int32} (hM : m_M s M) (hser : g_ser M < 2 ^ 30) (hrd : ∀ t, t < 4 → (g_X M t).2.2.length < 2048) : k_cti (tX12_rangeAt G l) [vR (some b), vI x, vI a, vI b', vI p, vI w] (m_hp b s h) (m_p b h (m_R (F_rangeAt M x a b' p w))) := by
  refine k_cti_of (eX12_rangeAt ok.2 (mX12_rangeAt_0 (m_stI (c_X12_isTransaction ok)) ?_))
  rintro _ _ ⟨hr, rfl⟩
  rw [hr]
  have thr : ∀ k : Nat, ¬ k = 0 → k < 9 → F_rangeAt M x a b' p w = (M, k, 0) → k_X (jX12_rangeAt G l (m_hp b s h)) (m_hp b s h) 65 [(0, vR (some b)), (1, vI x), (2, vI a), (3, vI b'), (4, vI p), (5, vI w)] [vI (nI k), vR (some b)] (q_i (m_p b h (m_R (F_rangeAt M x a b' p w)))) := by
    intro k hk hk9 he
    refine mX12_rangeAt_65 (c_X12_goes ok) ?_
    rintro _ _ ⟨hr, rfl⟩
    rw [hr, he]
    have hne : ¬ nI k = 0 := fun z => hk ((nI_eq (b := 0) (by omega) (by omega)).mp z)
    exact bX12_rangeAt_68 (fun z => absurd (by rw [decide_eq_false hne]; rfl) z) (fun _ => bX12_rangeAt_71 ⟨_, rfl, _, rfl, m_thr hM hk⟩)
  have bad1 : (s_inB x 0 3 && decide (¬ p < 0)) = false → k_X (jX12_rangeAt G l (m_hp b s h)) (m_hp b s h) 16 [(0, vR (some b)), (1, vI x), (2, vI a), (3, vI b'), (4, vI p), (5, vI w)] [] (q_i (m_p b h (m_R (F_rangeAt M x a b' p w)))) := fun e =>
    bX12_rangeAt_16 (bX12_rangeAt_17 (fun z => absurd rfl z) (fun _ => bX12_rangeAt_25 (thr 1 (by decide) (by decide) (by unfold F_rangeAt; rw [if_pos e]))))
  cases hin : s_inB x 0 3 with
  | false => exact bX12_rangeAt_4 (fun _ => bad1 (by rw [hin]; rfl)) (fun z => absurd rfl z)
  | true =>
    obtain ⟨t, ht, rfl, e9⟩ := s_in4 hin
    have eto : t_of (nI t) = t := e9
    have et : (nI t).toNatClampNeg = t := nI_clamp (by omega)
    have yt : vp_in (nI t) 4 := m_ii ht (by omega)
    refine bX12_rangeAt_4 (fun z => absurd z (by decide)) (fun _ => bX12_rangeAt_7 (fun c1 => bad1 (by rw [decide_eq_false (fun z => z c1)]; simp)) (fun c1 => bX12_rangeAt_12 ?_))
    have hp1 : (s_inB (nI t) 0 3 && decide (¬ p < 0)) = true := by rw [hin, decide_eq_true c1]; rfl
    have ep : p = nI p.toInt.toNat ∧ p.toInt.toNat < 2 ^ 31 := by
      have e1 := Int32.le_iff_toInt_le.mp (Int32.not_lt.mp c1)
      have r1 : (0 : Int32).toInt = 0 := by decide
      have r2 := Int32.toInt_lt p
      refine ⟨?_, by omega⟩
      apply Int32.toInt_inj.mp
      rw [nI_toInt (by omega)]
      omega
    refine bX12_rangeAt_17 (fun _ => mX12_rangeAt_29 (m_stI (c_X12_isRange ok)) ?_) (fun z => absurd z (by decide))
    rintro _ _ ⟨hr, rfl⟩
    rw [hr]
    have bad2 : (s_rngB a b' && s_inB w 0 2) = false → k_X (jX12_rangeAt G l (m_hp b s h)) (m_hp b s h) 47 [(0, vR (some b)), (1, vI (nI t)), (2, vI a), (3, vI b'), (4, vI p), (5, vI w)] [vR (some b)] (q_i (m_p b h (m_R (F_rangeAt M (nI t) a b' p w)))) := fun e =>
      bX12_rangeAt_47 (thr 2 (by decide) (by decide) (by unfold F_rangeAt; rw [hp1, e]; rfl))
    cases hkey : s_rngB a b' with
    | false => exact bX12_rangeAt_34 (fun _ => bad2 (by rw [hkey]; rfl)) (fun z => absurd rfl z)
    | true =>
      obtain ⟨na, nb⟩ := s_rngB_na hkey
      obtain ⟨l1, l2, l3⟩ := s_la_ok na nb
      refine bX12_rangeAt_34 (fun z => absurd z (by decide)) (fun _ => mX12_rangeAt_37 (m_stI (c_X12_isIn ok)) ?_)
      rintro _ _ ⟨hr, rfl⟩
      rw [hr]
      cases hw : s_inB w 0 2 with
      | false => exact bX12_rangeAt_44 (fun z => absurd rfl z) (fun _ => bad2 (by rw [hw]; simp))
      | true =>
        refine bX12_rangeAt_44 (fun _ => ?_) (fun z => absurd z (by decide))
        refine mX12_rangeAt_51 yt (fun c2 => ?_) (fun c2 => ?_)
        · rw [et, (hM.2.2.1 t ht).1.1, kB_0] at c2
          exact bX12_rangeAt_64 (thr 3 (by decide) (by decide) (by unfold F_rangeAt; rw [hp1, hkey, hw, eto, c2]; rfl))
        · rw [et, (hM.2.2.1 t ht).1.1, kB_n0] at c2
          have hF : F_rangeAt M (nI t) a b' p w = (g_rdg M t ((g_X M t).2.2 ++ [(s_lo a b', s_la a b' + 1, g_ser M)]), 0, match (g_rng M t (s_lo a b') (s_la a b' + 1))[p.toInt.toNat]? with | some y => s_no y.1 (s_pl w) | none => -2147483648) := by unfold F_rangeAt; rw [hp1, hkey, hw, eto, c2]; rfl
          rw [hF]
          generalize hj : p.toInt.toNat = j at ep
          obtain ⟨ep1, ep2⟩ := ep
          rw [ep1]
          refine bX12_rangeAt_60 (mX12_rangeAt_65 (c_X12_goes ok) ?_)
          rintro _ _ ⟨hr, rfl⟩
          rw [hr]
          obtain ⟨a1, a2⟩ := m_ok hM
          generalize m_si s 52 0 = r at a1 a2
          refine bX12_rangeAt_68 (fun _ => mX12_rangeAt_73 (m_stJ (c_X12_firstOf ok na nb)) ?_) (fun z => absurd z (by decide))
          rintro _ _ ⟨hr, rfl⟩
          rw [hr]
          refine mX12_rangeAt_86 (c_X12_placeOf ok a1.1.1.1 (by omega)) ?_
          rintro _ _ ⟨hr, rfl⟩
          rw [hr]
          refine bX12_rangeAt_89 ?_
          have e4 := a1.1.1.1.2.2.2
          have fin : ∀ (q : m_S) (v : Int32), m_M q M → q.1 52 = 0 → v = (match (g_rng M t (s_lo a b') (s_la a b' + 1))[j]? with | some y => s_no y.1 (s_pl w) | none => -2147483648) → k_X (jX12_rangeAt G l (m_hp b s h)) (m_hp b q h) 173 [(0, vR (some b)), (1, vI (nI t)), (2, vI a), (3, vI b'), (8, vI v)] [] (q_i (m_p b h (m_R (g_rdg M t ((g_X M t).2.2 ++ [(s_lo a b', s_la a b' + 1, g_ser M)]), 0, match (g_rng M t (s_lo a b') (s_la a b' + 1))[j]? with | some y => s_no y.1 (s_pl w) | none => -2147483648)))) := by
            intro q v hq1 hq2 hv
            refine mX12_rangeAt_173 (m_stJ (c_X12_firstOf ok na nb)) ?_
            rintro _ _ ⟨hr, rfl⟩
            rw [hr]
            refine mX12_rangeAt_180 (m_stJ (c_X12_lastOf ok na nb)) ?_
            rintro _ _ ⟨hr, rfl⟩
            rw [hr]
            refine mX12_rangeAt_185 (c_X12_putsDown ok ht (hq1.2.2.1 t ht) hq1.2.1.2.2.2 hser (hrd t ht) l1 l2) ?_
            rintro q2 ⟨p1, p2, p3⟩
            exact bX12_rangeAt_188 ⟨_, rfl, q2, rfl, m_M_tx hq1 ht p1 p2 p3 (by simp) (by simp), (p3.1 52 (by simp)).trans hq2, fun _ => hv⟩
          have key : ∀ (d i acc : Nat) (v : Int32) (q : m_S), (g_E M).1.length - i = d → i ≤ (g_E M).1.length → m_M q M → q.1 52 = 0 → acc ≤ i →
              (acc ≤ j → v = -2147483648 ∧ (r_rem (s_la a b' + 1) (fun c => s_vis (g_see M t c)) (g_E M).1 i)[j - acc]? = (g_rng M t (s_lo a b') (s_la a b' + 1))[j]?) → (j < acc → v = (match (g_rng M t (s_lo a b') (s_la a b' + 1))[j]? with | some y => s_no y.1 (s_pl w) | none => -2147483648)) →
              k_X (jX12_rangeAt G l (m_hp b s h)) (m_hp b q h) 91 [(0, vR (some b)), (1, vI (nI t)), (2, vI a), (3, vI b'), (4, vI (nI j)), (5, vI w), (7, vI (nI acc)), (8, vI v), (9, vI (nI i))] [] (q_i (m_p b h (m_R (g_rdg M t ((g_X M t).2.2 ++ [(s_lo a b', s_la a b' + 1, g_ser M)]), 0, match (g_rng M t (s_lo a b') (s_la a b' + 1))[j]? with | some y => s_no y.1 (s_pl w) | none => -2147483648)))) := by
            intro d
            induction d with
            | zero =>
              intro i acc v q hd hi hq1 hq2 hai h1 h2
              have k1 := hq1.1.1.1.1
              have k2 := hq1.1.1.1.2.1
              refine mX12_rangeAt_91 (fun _ => fin q v hq1 hq2 ?_) (fun z => absurd (by rw [k1]; exact nI_le (by omega) (by omega)) z)
              by_cases e : acc ≤ j
              · obtain ⟨e1, e2⟩ := h1 e
                rw [rs_end (by omega)] at e2
                rw [← e2, e1]; rfl
              · exact h2 (by omega)
            | succ d ih =>
              intro i acc v q hd hi hq1 hq2 hai h1 h2
              have k1 := hq1.1.1.1.1
              have k2 := hq1.1.1.1.2.1
              have hlt : i < (g_E M).1.length := by omega
              obtain ⟨y, hy⟩ : ∃ y, (g_E M).1[i]? = some y := ⟨_, List.getElem?_eq_getElem hlt⟩
              obtain ⟨y1, y2, y3⟩ := hq1.1.1.1.2.2.1 _ _ hy
              refine mX12_rangeAt_91 (fun z => absurd z (by rw [k1]; exact nI_ge hlt (by omega))) (fun _ => ?_)
              refine mX12_rangeAt_100 (m_ii (by omega) (by omega)) (m_stJ (c_X12_lastOf ok na nb)) ?_
              rintro _ _ ⟨hr, rfl⟩
              rw [hr, nI_clamp (by omega), y1]
              refine bX12_rangeAt_112 (fun c3 => ?_) (fun c3 => ?_)
              · have c4 := (lX_lt (by omega) (by omega)).mp c3
                refine fin q v hq1 hq2 ?_
                by_cases e : acc ≤ j
                · obtain ⟨e1, e2⟩ := h1 e
                  rw [rs_stop e4 hy (by omega)] at e2
                  rw [← e2, e1]; rfl
                · exact h2 (by omega)
              · have c4 : ¬ s_la a b' < y.1 := fun z => c3 ((lX_lt (by omega) (by omega)).mpr z)
                refine bX12_rangeAt_116 (fun c5 => fin q v hq1 hq2 (h2 ((nI_ltI ep2 (by omega)).mp c5))) (fun c5 => ?_)
                have c6 : ¬ j < acc := fun z => c5 ((nI_ltI ep2 (by omega)).mpr z)
                obtain ⟨e1, e2⟩ := h1 (by omega)
                refine mX12_rangeAt_123 (m_ii (by omega) (by omega)) (by rw [nI_clamp (by omega), y1]; exact c_X12_isSeen ok hq1.1.1 ht (hq1.2.2.1 t ht) (by omega)) ?_
                rintro q2 _ ⟨rfl, hf2⟩
                have hq3 : m_M q2 M := m_M_fr hq1 hf2 (by simp) (by simp)
                have hq4 : q2.1 52 = 0 := (hf2.1 52 (by simp)).trans hq2
                refine bX12_rangeAt_135 (fun c7 => ?_) (fun c7 => ?_)
                · rw [kB_0] at c7
                  refine bX12_rangeAt_167 ?_
                  rw [nI_1]
                  rw [rs_skip (p := fun c => s_vis (g_see M t c)) hy c7] at e2
                  exact ih (i + 1) acc v q2 (by omega) (by omega) hq3 hq4 (by omega) (fun _ => ⟨e1, e2⟩) (fun z => by omega)
                · rw [kB_n0] at c7
                  rw [rs_take (p := fun c => s_vis (g_see M t c)) hy (by omega) c7] at e2
                  refine bX12_rangeAt_138 (fun c8 => ?_) (fun c8 => ?_)
                  · have c9 : ¬ acc = j := fun z => c8 (by rw [z])
                    refine bX12_rangeAt_160 (bX12_rangeAt_162 (bX12_rangeAt_167 ?_))
                    rw [nI_1, nI_1]
                    refine ih (i + 1) (acc + 1) v q2 (by omega) (by omega) hq3 hq4 (by omega) (fun _ => ⟨e1, ?_⟩) (fun z => by omega)
                    rw [show j - acc = (j - (acc + 1)) + 1 by omega, List.getElem?_cons_succ] at e2
                    exact e2
                  · have c9 := (nI_eq (by omega) ep2).mp c8
                    have y1' : q2.2.2 1 i = lN y.1 := by rw [(hf2.2 1 (by simp)).2, y1]
                    refine mX12_rangeAt_145 (m_ii (by omega) (by omega)) (by rw [nI_clamp (by omega), y1']; exact m_stI (c_X12_numberOf ok y3)) ?_
                    rintro _ _ ⟨hr, rfl⟩
                    rw [hr]
                    refine bX12_rangeAt_157 (bX12_rangeAt_162 (bX12_rangeAt_167 ?_))
                    rw [nI_1, nI_1]
                    refine ih (i + 1) (acc + 1) _ q2 (by omega) (by omega) hq3 hq4 (by omega) (fun z => by omega) (fun _ => ?_)
                    rw [show j - acc = 0 by omega, List.getElem?_cons_zero] at e2
                    rw [← e2]
          exact key _ (r_pl (s_lo a b') (g_E M).1) 0 _ r rfl (r_pl_le _ _) a1 a2 (Nat.zero_le _) (fun _ => ⟨rfl, by rw [rs_start e4]; rfl⟩) (fun z => absurd z (Nat.not_lt_zero _))
end MKQ
