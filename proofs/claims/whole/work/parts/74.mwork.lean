/-! THE REFERENCE'S PARTS AND WORK -/
def F_part (M : s_M) (x w : Int32) : s_M × Nat × Int32 :=
  if s_inB x 0 (nI (g_PT M).length - 1) = false then (M, 1, 0) else if s_inB w 0 4 = false then (M, 2, 0)
  else (M, 0, match (g_PT M)[t_of x]? with
    | some p => if w = 0 then p.2 else if w = 1 then nI (p_end (m_V (g_E M).1 (g_n M) (g_E M).2.1) ((g_PT M).drop (t_of x + 1)) - p_lt p.1 (m_V (g_E M).1 (g_n M) (g_E M).2.1)) else if x = 0 then -2147483648 else s_no p.1 (s_pl (w - 2))
    | none => 0)
def wk_hold (M : s_M) (c : Nat) : Int32 := s_hold (o_told (rk_v M (s_cd (-7) (s_no c 1) 10000))) (nI (g_n M))
def wk_list (M : s_M) (w : Int32) : List k_K2 := r_flt (s_lo (-5) 10000) (s_la (-5) 10000 + 1) (fun c => (rk_v M c).isSome && decide (wk_hold M c = w)) (g_E M).1
def wk_tE (M : s_M) (w : Int32) (c : Nat) : e_S := e_put (g_n M + 1) (s_cd (-7) (s_no c 1) 10000) (some (10000 * w + nI (g_n M + 1) + 10)) (g_E M)
def wk_fE (M : s_M) (c : Nat) : e_S := e_put (g_n M + 1) (s_cd (-7) (s_no c 1) 10000) none (e_put (g_n M + 1) (s_cd (-5) (s_no c 1) 10000) none (g_E M))
def F_take (M : s_M) (w : Int32) : s_M × Nat × Int32 := if s_inB w 0 2 = false then (M, 1, 0) else match (wk_list M (-2147483648)).head? with
  | none => (M, 0, -2147483648)
  | some y => (g_cm M (wk_tE M w y.1), 0, o_told (rk_v M y.1))
def F_finish (M : s_M) (w : Int32) : s_M × Nat × Int32 := if s_inB w 0 2 = false then (M, 1, 0) else match (wk_list M w).head? with
  | none => (M, 0, -2147483648)
  | some y => (g_cm M (wk_fE M y.1), 0, o_told (rk_v M y.1))
/-- leases aren't negative -/
def wk_ok (M : s_M) : Prop := ∀ (x v : Int32), rk_v M (s_cd (-7) x 10000) = some v → ¬ v < 0
theorem wk_ne {i : Nat} (h : i < 2 ^ 31) : ¬ nI i = -2147483648 := by
  intro z
  have e := congrArg Int32.toInt z
  rw [nI_toInt h] at e
  have : (-2147483648 : Int32).toInt = -2147483648 := by decide
  omega
section MWK
variable {G : k_G} {l : Launch}
theorem c_X12_part (ok : k_ok G l) {b : Nat} {s : m_S} {h : k_H} {M : s_M} {x w : Int32} (hM : m_M s M) (hpk : g_pk M) : k_cti (tX12_part G l) [vR (some b), vI x, vI w] (m_hp b s h) (m_p b h (m_R (F_part M x w))) := by
  obtain ⟨p1, p2, p3⟩ := id hM.2.2.2.2.2.1
  refine k_cti_of (eX12_part ok.2 (mX12_part_0 (by rw [p1]; exact m_stI (c_X12_isIn ok)) ?_))
  rintro _ _ ⟨hr, rfl⟩
  rw [hr]
  have thr : ∀ k : Nat, ¬ k = 0 → k < 9 → F_part M x w = (M, k, 0) → k_X (jX12_part G l (m_hp b s h)) (m_hp b s h) 35 [(0, vR (some b)), (1, vI x), (2, vI w)] [vI (nI k), vR (some b)] (q_i (m_p b h (m_R (F_part M x w)))) := by
    intro k hk hk9 he
    refine mX12_part_35 (c_X12_goes ok) ?_
    rintro _ _ ⟨hr, rfl⟩
    rw [hr, he]
    have hne : ¬ nI k = 0 := fun z => hk ((nI_eq (b := 0) (by omega) (by omega)).mp z)
    exact bX12_part_38 (fun z => absurd (by rw [decide_eq_false hne]; rfl) z) (fun _ => bX12_part_41 ⟨_, rfl, _, rfl, m_thr hM hk⟩)
  cases hin : s_inB x 0 (nI (g_PT M).length - 1) with
  | false => exact bX12_part_11 (fun z => absurd rfl z) (fun _ => bX12_part_17 (thr 1 (by decide) (by decide) (by unfold F_part; rw [if_pos hin])))
  | true =>
    obtain ⟨j, hj, rfl, ej⟩ := s_in_ (by omega) hin
    obtain ⟨p, hp⟩ : ∃ p, (g_PT M)[j]? = some p := ⟨_, List.getElem?_eq_getElem hj⟩
    refine bX12_part_11 (fun _ => mX12_part_21 (m_stI (c_X12_isIn ok)) ?_) (fun z => absurd z (by decide))
    rintro _ _ ⟨hr, rfl⟩
    rw [hr]
    cases hw : s_inB w 0 4 with
    | false => exact bX12_part_27 (fun _ => bX12_part_34 (thr 2 (by decide) (by decide) (by unfold F_part; rw [hin, if_neg (by decide), if_pos hw]))) (fun z => absurd rfl z)
    | true =>
      have hF : F_part M (nI j) w = (M, 0, if w = 0 then p.2 else if w = 1 then nI (p_end (m_V (g_E M).1 (g_n M) (g_E M).2.1) ((g_PT M).drop (j + 1)) - p_lt p.1 (m_V (g_E M).1 (g_n M) (g_E M).2.1)) else if nI j = 0 then -2147483648 else s_no p.1 (s_pl (w - 2))) := by
        unfold F_part
        rw [hin, if_neg (by decide), hw, if_neg (by decide), ej, hp]
      rw [hF]
      refine bX12_part_27 (fun z => absurd z (by decide)) (fun _ => bX12_part_30 (mX12_part_35 (c_X12_goes ok) ?_))
      rintro _ _ ⟨hr, rfl⟩
      rw [hr]
      obtain ⟨a1, a2⟩ := m_ok hM
      generalize m_si s 52 0 = r at a1 a2
      obtain ⟨q1, q2, q3⟩ := id a1.2.2.2.2.2.1
      have yj : vp_in (nI j) 4096 := m_ii (by omega) (by omega)
      have ej2 : (nI j).toNatClampNeg = j := nI_clamp (by omega)
      refine bX12_part_38 (fun _ => bX12_part_43 (fun c1 => ?_) (fun c1 => ?_)) (fun z => absurd z (by decide))
      · rw [if_neg c1]
        refine bX12_part_56 (fun c2 => ?_) (fun c2 => ?_)
        · rw [if_neg c2]
          refine bX12_part_69 (fun c3 => ?_) (fun c3 => ?_)
          · rw [if_neg c3]
            refine mX12_part_78 yj (by rw [ej2, (q3 j p hp).1]; exact m_stI (c_X12_numberOf ok (q3 j p hp).2.2)) ?_
            rintro _ _ ⟨hr, rfl⟩
            rw [hr]
            exact bX12_part_90 ⟨_, rfl, r, rfl, a1, a2, fun _ => rfl⟩
          · rw [if_pos c3]
            exact bX12_part_73 (bX12_part_90 ⟨_, rfl, r, rfl, a1, a2, fun _ => rfl⟩)
        · rw [if_pos c2]
          have hspl : (g_PT M).take j ++ p :: (g_PT M).drop (j + 1) = g_PT M := by
            conv => rhs; rw [← List.take_append_drop j (g_PT M), List.drop_eq_getElem_cons hj]
            rw [(List.getElem?_eq_some_iff.mp hp).2]
          have htl : ((g_PT M).take j).length = j := by rw [List.length_take]; omega
          have C := c_X12_manyOf ok (h := h) (b := b) (pre := (g_PT M).take j) (p := p) (rest := (g_PT M).drop (j + 1)) a1.1.1 (by rw [hspl]; exact a1.2.2.2.2.2.1) (fun q hq => by
            rw [List.head?_drop] at hq
            exact List.pairwise_iff_getElem.mp hpk.1 j (j + 1) hj (List.getElem?_eq_some_iff.mp hq).1 (Nat.lt_succ_self j) |> fun z => by
              rw [(List.getElem?_eq_some_iff.mp hp).2, (List.getElem?_eq_some_iff.mp hq).2] at z
              exact z)
          rw [htl] at C
          refine mX12_part_61 C ?_
          rintro _ _ ⟨hr, rfl⟩
          rw [hr]
          exact bX12_part_66 (bX12_part_90 ⟨_, rfl, r, rfl, a1, a2, fun _ => rfl⟩)
      · rw [if_pos c1]
        refine mX12_part_47 yj (bX12_part_90 ⟨_, rfl, r, rfl, a1, a2, fun _ => ?_⟩)
        rw [ej2, (q3 j p hp).2.1]
theorem c_X12_holder (ok : k_ok G l) {b : Nat} {s : m_S} {h : k_H} {M : s_M} {x : Int32} (hM : m_M s M) (hx : s_na x) (hw : wk_ok M) : k_cti (tX12_holder G l) [vR (some b), vI x] (m_hp b s h) (m_p b h (fun s1 v => s1 = s ∧ v = s_hold (o_told (rk_v M (s_cd (-7) x 10000))) (nI (g_n M)))) := by
  have n7 : s_na (-7) := sv_na (by decide)
  have hc := s_cd_lt n7 hx (Or.inl rfl : s_na 10000)
  have e0 : s.1 0 = nI (g_n M) := hM.1.1.2.2.2.2.1
  refine k_cti_of (eX12_holder ok.2 (mX12_holder_0 (m_stJ (c_X12_codeOf ok n7 hx (Or.inl rfl))) ?_))
  rintro _ _ ⟨hr, rfl⟩
  rw [hr]
  refine mX12_holder_10 (c_X12_valueNow ok hM.1.1 (by omega)) ?_
  rintro _ _ ⟨hr, rfl⟩
  rw [hr]
  have ev : r_val (s_cd (-7) x 10000) (g_n M) (g_E M).2.1 = rk_v M (s_cd (-7) x 10000) := rfl
  rw [ev]
  have hneg := hw x
  generalize rk_v M (s_cd (-7) x 10000) = z at hneg
  have eN : z = none → s_hold (o_told z) (nI (g_n M)) = -2147483648 := fun e => by rw [e]; rfl
  refine bX12_holder_13 (fun c1 => bX12_holder_30 (bX12_holder_40 ⟨_, rfl, s, rfl, rfl, ?_⟩)) (fun c1 => ?_)
  · cases z with
    | none => rfl
    | some v => exact absurd c1 (hneg v rfl)
  · have hne : ¬ o_told z = -2147483648 := fun e => c1 (by rw [e]; decide)
    refine mX12_holder_18 (fun c2 => bX12_holder_35 (bX12_holder_40 ⟨_, rfl, s, rfl, rfl, ?_⟩)) (fun c2 => bX12_holder_30 (bX12_holder_40 ⟨_, rfl, s, rfl, rfl, ?_⟩))
    · rw [e0] at c2
      unfold s_hold
      rw [if_neg hne, if_pos c2]
    · rw [e0] at c2
      unfold s_hold
      rw [if_neg hne, if_neg c2]
theorem c_X12_workOf (ok : k_ok G l) {b : Nat} {s : m_S} {h : k_H} {M : s_M} {w : Int32} (hM : m_M s M) (hw : wk_ok M) : k_cti (tX12_workOf G l) [vR (some b), vI w] (m_hp b s h) (m_p b h (fun s1 v => s1 = s ∧ ((v = -2147483648 ∧ (wk_list M w).head? = none) ∨ ∃ i y, v = nI i ∧ (g_E M).1[i]? = some y ∧ (wk_list M w).head? = some y))) := by
  have n5 : s_na (-5) := sv_na (by decide)
  obtain ⟨l1, l2, l3⟩ := s_la_ok n5 (Or.inl rfl : s_na 10000)
  have k1 := hM.1.1.1.1
  have k2 := hM.1.1.1.2.1
  have e4 := hM.1.1.1.2.2.2
  have e0 : s.1 0 = nI (g_n M) := hM.1.1.2.2.2.2.1
  have hn : g_n M < 2 ^ 20 := hM.1.1.2.2.2.2.2.1
  refine k_cti_of (eX12_workOf ok.2 (mX12_workOf_0 (m_stJ (c_X12_firstOf ok n5 (Or.inl rfl))) ?_))
  rintro _ _ ⟨hr, rfl⟩
  rw [hr]
  refine mX12_workOf_9 (c_X12_placeOf ok hM.1.1.1 (by omega)) ?_
  rintro _ _ ⟨hr, rfl⟩
  rw [hr]
  have key : ∀ (d i : Nat), (g_E M).1.length - i = d → i ≤ (g_E M).1.length → (r_rem (s_la (-5) 10000 + 1) (fun c => (rk_v M c).isSome && decide (wk_hold M c = w)) (g_E M).1 i).head? = (wk_list M w).head? →
      k_X (jX12_workOf G l (m_hp b s h)) (m_hp b s h) 13 [(0, vR (some b)), (1, vI w), (2, vI (nI i))] [] (q_i (m_p b h (fun s1 v => s1 = s ∧ ((v = -2147483648 ∧ (wk_list M w).head? = none) ∨ ∃ i y, v = nI i ∧ (g_E M).1[i]? = some y ∧ (wk_list M w).head? = some y)))) := by
    intro d
    induction d with
    | zero =>
      intro i hd hi he
      rw [rs_end (by omega)] at he
      exact mX12_workOf_13 (fun _ => bX12_workOf_77 ⟨_, rfl, s, rfl, rfl, Or.inl ⟨rfl, he.symm⟩⟩) (fun z => absurd (by rw [k1]; exact nI_le (by omega) (by omega)) z)
    | succ d ih =>
      intro i hd hi he
      have hlt : i < (g_E M).1.length := by omega
      obtain ⟨y, hy⟩ : ∃ y, (g_E M).1[i]? = some y := ⟨_, List.getElem?_eq_getElem hlt⟩
      obtain ⟨y1, y2, y3⟩ := hM.1.1.1.2.2.1 _ _ hy
      have yi : vp_in (nI i) 12000 := m_ii (by omega) (by omega)
      have ei : (nI i).toNatClampNeg = i := nI_clamp (by omega)
      refine mX12_workOf_13 (fun z => absurd z (by rw [k1]; exact nI_ge hlt (by omega))) (fun _ => mX12_workOf_21 yi (m_stJ (c_X12_lastOf ok n5 (Or.inl rfl))) ?_)
      rintro _ _ ⟨hr, rfl⟩
      rw [hr, ei, y1]
      refine bX12_workOf_35 (fun c1 => ?_) (fun c1 => ?_)
      · have c2 := (lX_lt (by omega) (by omega)).mp c1
        rw [rs_stop e4 hy (by omega)] at he
        exact bX12_workOf_77 ⟨_, rfl, s, rfl, rfl, Or.inl ⟨rfl, he.symm⟩⟩
      · have c2 : ¬ s_la (-5) 10000 < y.1 := fun z => c1 ((lX_lt (by omega) (by omega)).mpr z)
        have nx : ((rk_v M y.1).isSome && decide (wk_hold M y.1 = w)) = false → k_X (jX12_workOf G l (m_hp b s h)) (m_hp b s h) 71 [(0, vR (some b)), (1, vI w), (2, vI (nI i))] [] (q_i (m_p b h (fun s1 v => s1 = s ∧ ((v = -2147483648 ∧ (wk_list M w).head? = none) ∨ ∃ i y, v = nI i ∧ (g_E M).1[i]? = some y ∧ (wk_list M w).head? = some y)))) := by
          intro e
          refine bX12_workOf_71 ?_
          rw [nI_1]
          rw [rs_skip (p := fun c => (rk_v M c).isSome && decide (wk_hold M c = w)) hy e] at he
          exact ih (i + 1) (by omega) (by omega) he
        refine mX12_workOf_39 (by rw [e0]; exact c_X12_hasAt ok hM.1.1 hy (by omega)) ?_
        rintro _ _ ⟨hr, rfl⟩
        rw [hr]
        have ev : r_val y.1 (g_n M) (g_E M).2.1 = rk_v M y.1 := rfl
        rw [ev]
        refine bX12_workOf_48 (fun c3 => nx (by rw [kB_0] at c3; rw [c3]; rfl)) (fun c3 => mX12_workOf_51 yi (by rw [ei, y1]; exact m_stI (c_X12_numberOf ok y3)) ?_)
        rintro _ _ ⟨hr, rfl⟩
        rw [hr, show s_pl 1 = 1 from rfl]
        refine mX12_workOf_62 (c_X12_holder ok hM (s_no_na _ _) hw) ?_
        rintro _ _ ⟨hr, rfl⟩
        rw [hr]
        have eh : s_hold (o_told (rk_v M (s_cd (-7) (s_no y.1 1) 10000))) (nI (g_n M)) = wk_hold M y.1 := rfl
        rw [eh]
        rw [kB_n0] at c3
        refine bX12_workOf_65 (fun c4 => nx (by rw [decide_eq_false c4, Bool.and_false])) (fun c4 => bX12_workOf_69 ⟨_, rfl, s, rfl, rfl, Or.inr ⟨i, y, rfl, hy, ?_⟩⟩)
        rw [rs_take (p := fun c => (rk_v M c).isSome && decide (wk_hold M c = w)) hy (by omega) (by rw [c3, decide_eq_true c4]; rfl)] at he
        exact he.symm
  exact bX12_workOf_12 (key _ (r_pl (s_lo (-5) 10000) (g_E M).1) rfl (r_pl_le _ _) (by rw [rs_start e4]; rfl))
theorem c_X12_take (ok : k_ok G l) {b : Nat} {s : m_S} {h : k_H} {M : s_M} {w : Int32} (hM : m_M s M) (hw : wk_ok M) (hn : g_n M + 1 < 9000) (hpk : g_pk M) (hlim : ∀ c, g_ps M (wk_tE M w c) ∧ e_lim (wk_tE M w c)) : k_cti (tX12_take G l) [vR (some b), vI w] (m_hp b s h) (m_p b h (m_R (F_take M w))) := by
  refine k_cti_of (eX12_take ok.2 (mX12_take_0 (m_stI (c_X12_isWorker ok)) ?_))
  rintro _ _ ⟨hr, rfl⟩
  rw [hr]
  cases hin : s_inB w 0 2 with
  | false =>
    have hF : F_take M w = (M, 1, 0) := by unfold F_take; rw [if_pos hin]
    rw [hF]
    refine bX12_take_5 (fun _ => bX12_take_12 (mX12_take_13 (c_X12_goes ok) ?_)) (fun z => absurd rfl z)
    rintro _ _ ⟨hr, rfl⟩
    rw [hr]
    exact bX12_take_16 (fun z => absurd rfl z) (fun _ => bX12_take_19 ⟨_, rfl, _, rfl, m_thr (k := 1) hM (by decide)⟩)
  | true =>
    refine bX12_take_5 (fun z => absurd z (by decide)) (fun _ => bX12_take_8 (mX12_take_13 (c_X12_goes ok) ?_))
    rintro _ _ ⟨hr, rfl⟩
    rw [hr]
    obtain ⟨a1, a2⟩ := m_ok hM
    generalize m_si s 52 0 = r at a1 a2
    refine bX12_take_16 (fun _ => mX12_take_21 (c_X12_workOf ok a1 hw) ?_) (fun z => absurd z (by decide))
    rintro _ v ⟨hr, hv⟩
    rw [hr]
    rcases hv with ⟨rfl, hv⟩ | ⟨i, y, rfl, hy, hv⟩
    · have hF : F_take M w = (M, 0, -2147483648) := by unfold F_take; rw [hin, if_neg (by decide), hv]
      rw [hF]
      exact bX12_take_27 (fun z => absurd rfl z) (fun _ => bX12_take_34 ⟨_, rfl, r, rfl, a1, a2, fun _ => rfl⟩)
    · have hF : F_take M w = (g_cm M (wk_tE M w y.1), 0, o_told (rk_v M y.1)) := by unfold F_take; rw [hin, if_neg (by decide), hv]
      rw [hF]
      have hlt := (List.getElem?_eq_some_iff.mp hy).1
      have k2 := a1.1.1.1.2.1
      obtain ⟨y1, y2, y3⟩ := a1.1.1.1.2.2.1 _ _ hy
      have e0 : r.1 0 = nI (g_n M) := a1.1.1.2.2.2.2.1
      have n7 : s_na (-7) := sv_na (by decide)
      obtain ⟨hps, hl⟩ := hlim y.1
      refine bX12_take_27 (fun _ => mX12_take_37 (by rw [e0]; exact c_X12_valueAt ok a1.1.1 hy (by omega)) ?_) (fun z => absurd z (wk_ne (by omega)))
      rintro _ _ ⟨hr, rfl⟩
      rw [hr]
      refine mX12_take_46 (m_ii (by omega) (by omega)) (by rw [nI_clamp (by omega), y1]; exact m_stI (c_X12_numberOf ok y3)) ?_
      rintro _ _ ⟨hr, rfl⟩
      rw [hr, show s_pl 1 = 1 from rfl]
      refine mX12_take_57 (cm_open ok a1 (by omega)) ?_
      rintro r1 ⟨o1, o2, o3⟩
      refine mX12_take_63 (m_stJ (c_X12_codeOf ok n7 (s_no_na _ _) (Or.inl rfl))) ?_
      rintro _ _ ⟨hr, rfl⟩
      rw [hr]
      have e01 : r1.1 0 = nI (g_n M + 1) := o1.1.2.2.2.2.1
      refine mX12_take_74 (by rw [e01]; exact c_e_put ok (o := some (10000 * w + nI (g_n M + 1) + 10)) o1 (s_cd_lt n7 (s_no_na _ _) (Or.inl rfl)) hl) ?_
      rintro r2 ⟨w1, w2⟩
      refine mX12_take_91 (cm_close ok a1 o2 o3 w1 (m_fr_mono w2 (by simp) (by simp)) hpk hps) ?_
      rintro r3 ⟨z1, z2⟩
      exact bX12_take_95 ⟨_, rfl, r3, rfl, z1, (z2.1 52 (by simp)).trans a2, fun _ => rfl⟩
theorem c_X12_finish (ok : k_ok G l) {b : Nat} {s : m_S} {h : k_H} {M : s_M} {w : Int32} (hM : m_M s M) (hw : wk_ok M) (hn : g_n M + 1 < 9000) (hpk : g_pk M) (hlim : ∀ c, g_ps M (wk_fE M c) ∧ e_lim (wk_fE M c)) : k_cti (tX12_finish G l) [vR (some b), vI w] (m_hp b s h) (m_p b h (m_R (F_finish M w))) := by
  refine k_cti_of (eX12_finish ok.2 (mX12_finish_0 (m_stI (c_X12_isWorker ok)) ?_))
  rintro _ _ ⟨hr, rfl⟩
  rw [hr]
  cases hin : s_inB w 0 2 with
  | false =>
    have hF : F_finish M w = (M, 1, 0) := by unfold F_finish; rw [if_pos hin]
    rw [hF]
    refine bX12_finish_5 (fun _ => bX12_finish_12 (mX12_finish_13 (c_X12_goes ok) ?_)) (fun z => absurd rfl z)
    rintro _ _ ⟨hr, rfl⟩
    rw [hr]
    exact bX12_finish_16 (fun z => absurd rfl z) (fun _ => bX12_finish_19 ⟨_, rfl, _, rfl, m_thr (k := 1) hM (by decide)⟩)
  | true =>
    refine bX12_finish_5 (fun z => absurd z (by decide)) (fun _ => bX12_finish_8 (mX12_finish_13 (c_X12_goes ok) ?_))
    rintro _ _ ⟨hr, rfl⟩
    rw [hr]
    obtain ⟨a1, a2⟩ := m_ok hM
    generalize m_si s 52 0 = r at a1 a2
    refine bX12_finish_16 (fun _ => mX12_finish_21 (c_X12_workOf ok a1 hw) ?_) (fun z => absurd z (by decide))
    rintro _ v ⟨hr, hv⟩
    rw [hr]
    rcases hv with ⟨rfl, hv⟩ | ⟨i, y, rfl, hy, hv⟩
    · have hF : F_finish M w = (M, 0, -2147483648) := by unfold F_finish; rw [hin, if_neg (by decide), hv]
      rw [hF]
      exact bX12_finish_26 (fun z => absurd rfl z) (fun _ => bX12_finish_33 ⟨_, rfl, r, rfl, a1, a2, fun _ => rfl⟩)
    · have hF : F_finish M w = (g_cm M (wk_fE M y.1), 0, o_told (rk_v M y.1)) := by unfold F_finish; rw [hin, if_neg (by decide), hv]
      rw [hF]
      have hlt := (List.getElem?_eq_some_iff.mp hy).1
      have k2 := a1.1.1.1.2.1
      obtain ⟨y1, y2, y3⟩ := a1.1.1.1.2.2.1 _ _ hy
      have e0 : r.1 0 = nI (g_n M) := a1.1.1.2.2.2.2.1
      have n7 : s_na (-7) := sv_na (by decide)
      have n5 : s_na (-5) := sv_na (by decide)
      obtain ⟨hps, hl⟩ := hlim y.1
      refine bX12_finish_26 (fun _ => mX12_finish_36 (by rw [e0]; exact c_X12_valueAt ok a1.1.1 hy (by omega)) ?_) (fun z => absurd z (wk_ne (by omega)))
      rintro _ _ ⟨hr, rfl⟩
      rw [hr]
      refine mX12_finish_45 (m_ii (by omega) (by omega)) (by rw [nI_clamp (by omega), y1]; exact m_stI (c_X12_numberOf ok y3)) ?_
      rintro _ _ ⟨hr, rfl⟩
      rw [hr, show s_pl 1 = 1 from rfl]
      refine mX12_finish_56 (cm_open ok a1 (by omega)) ?_
      rintro r1 ⟨o1, o2, o3⟩
      refine mX12_finish_62 (m_stJ (c_X12_codeOf ok n5 (s_no_na _ _) (Or.inl rfl))) ?_
      rintro _ _ ⟨hr, rfl⟩
      rw [hr]
      refine mX12_finish_73 (c_e_put ok (o := none) o1 (s_cd_lt n5 (s_no_na _ _) (Or.inl rfl)) (e_lim_le hl (e_le_put _ _ _ _))) ?_
      rintro r2 ⟨w1, w2⟩
      refine mX12_finish_78 (m_stJ (c_X12_codeOf ok n7 (s_no_na _ _) (Or.inl rfl))) ?_
      rintro _ _ ⟨hr, rfl⟩
      rw [hr]
      refine mX12_finish_89 (c_e_put ok (o := none) w1 (s_cd_lt n7 (s_no_na _ _) (Or.inl rfl)) hl) ?_
      rintro r3 ⟨w3, w4⟩
      refine mX12_finish_94 (cm_close ok a1 o2 o3 w3 (m_fr_mono (m_fr_trans w2 w4) (by simp) (by simp)) hpk hps) ?_
      rintro r4 ⟨z1, z2⟩
      exact bX12_finish_98 ⟨_, rfl, r4, rfl, z1, (z2.1 52 (by simp)).trans a2, fun _ => rfl⟩
end MWK
