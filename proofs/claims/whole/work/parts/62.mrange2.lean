/-! THE REFERENCE READS KEYS AND RANGES -/
def g_see (M : s_M) (t c : Nat) : Option Int32 × Bool := s_see c (g_X M t).2.1 (r_val c (g_X M t).1.2.2.1 (g_E M).2.1, false)
def g_rdg (M : s_M) (t : Nat) (r : List (Nat × Nat × Nat)) : s_M := g_tx M t ((g_X M t).1, (g_X M t).2.1, r)
def g_rng (M : s_M) (t lo hi : Nat) : List k_K2 := r_flt lo hi (fun c => s_vis (g_see M t c)) (g_E M).1
def F_get (M : s_M) (x a b c : Int32) (counts : Bool) : s_M × Nat × Int32 :=
  if s_inB x 0 3 = false then (M, 1, 0) else if s_keyB a b c = false then (M, 2, 0) else if (g_X M (t_of x)).1.1 = false then (M, 3, 0)
  else if (g_see M (t_of x) (s_cd a b c)).2 = true then (M, 3, 0)
  else (g_rdg M (t_of x) (s_rdk counts (g_X M (t_of x)).2.1 (g_X M (t_of x)).2.2 (s_cd a b c) (g_ser M)), 0, o_told (g_see M (t_of x) (s_cd a b c)).1)
def F_range (M : s_M) (x a b : Int32) (counts : Bool) : s_M × Nat × Int32 :=
  if s_inB x 0 3 = false then (M, 1, 0) else if s_rngB a b = false then (M, 2, 0) else if (g_X M (t_of x)).1.1 = false then (M, 3, 0)
  else (if counts = true then g_rdg M (t_of x) ((g_X M (t_of x)).2.2 ++ [(s_lo a b, s_la a b + 1, g_ser M)]) else M, 0, nI (g_rng M (t_of x) (s_lo a b) (s_la a b + 1)).length)
def F_rangeAt (M : s_M) (x a b p w : Int32) : s_M × Nat × Int32 :=
  if (s_inB x 0 3 && decide (¬ p < 0)) = false then (M, 1, 0) else if (s_rngB a b && s_inB w 0 2) = false then (M, 2, 0) else if (g_X M (t_of x)).1.1 = false then (M, 3, 0)
  else (g_rdg M (t_of x) ((g_X M (t_of x)).2.2 ++ [(s_lo a b, s_la a b + 1, g_ser M)]), 0, match (g_rng M (t_of x) (s_lo a b) (s_la a b + 1))[p.toInt.toNat]? with | some y => s_no y.1 (s_pl w) | none => -2147483648)
theorem s_la_ok {a b : Int32} (ha : s_na a) (hb : s_na b) : s_lo a b ≤ s_la a b ∧ s_la a b < 2 ^ 60 ∧ s_lo a b < 1331000000000 := by
  unfold s_lo s_la s_hi
  have := s_cd_lt ha hb (Or.inl rfl)
  by_cases e : a = 10000
  · simp only [if_pos e]; omega
  · simp only [if_neg e]
    by_cases e2 : b = 10000
    · simp only [if_pos e2]; omega
    · simp only [if_neg e2]; omega
section MG
variable {G : k_G} {l : Launch}
theorem c_X12_get (ok : k_ok G l) {b : Nat} {s : m_S} {h : k_H} {M : s_M} {x a b' c : Int32} {counts : Bool} (hM : m_M s M) (hser : g_ser M < 2 ^ 30) (hrd : ∀ t, t < 4 → (g_X M t).2.2.length < 2048) : k_cti (tX12_get G l) [vR (some b), vI x, vI a, vI b', vI c, vI (kB counts)] (m_hp b s h) (m_p b h (m_R (F_get M x a b' c counts))) := by
  refine k_cti_of (eX12_get ok.2 (mX12_get_0 (m_stI (c_X12_isTransaction ok)) ?_))
  rintro _ _ ⟨hr, rfl⟩
  rw [hr]
  refine mX12_get_4 (m_stI (c_X12_isKey ok)) ?_
  rintro _ _ ⟨hr, rfl⟩
  rw [hr]
  have thr : ∀ k : Nat, ¬ k = 0 → k < 9 → F_get M x a b' c counts = (M, k, 0) → k_X (jX12_get G l (m_hp b s h)) (m_hp b s h) 48 [(0, vR (some b)), (1, vI x), (2, vI a), (3, vI b'), (4, vI c), (5, vI (kB counts))] [vI (nI k), vR (some b)] (q_i (m_p b h (m_R (F_get M x a b' c counts)))) := by
    intro k hk hk9 he
    refine mX12_get_48 (c_X12_goes ok) ?_
    rintro _ _ ⟨hr, rfl⟩
    rw [hr, he]
    have hne : ¬ nI k = 0 := fun z => hk ((nI_eq (b := 0) (by omega) (by omega)).mp z)
    exact bX12_get_51 (fun z => absurd (by rw [decide_eq_false hne]; rfl) z) (fun _ => bX12_get_54 ⟨_, rfl, _, rfl, m_thr hM hk⟩)
  cases hin : s_inB x 0 3 with
  | false => exact bX12_get_13 (fun z => absurd rfl z) (fun _ => bX12_get_21 (thr 1 (by decide) (by decide) (by unfold F_get; rw [if_pos hin])))
  | true =>
    obtain ⟨t, ht, rfl, e9⟩ := s_in4 hin
    have eto : t_of (nI t) = t := e9
    have et : (nI t).toNatClampNeg = t := nI_clamp (by omega)
    have yt : vp_in (nI t) 4 := m_ii ht (by omega)
    refine bX12_get_13 (fun _ => ?_) (fun z => absurd z (by decide))
    cases hkey : s_keyB a b' c with
    | false => exact bX12_get_25 (fun z => absurd rfl z) (fun _ => bX12_get_30 (thr 2 (by decide) (by decide) (by unfold F_get; rw [hin, hkey]; rfl)))
    | true =>
      obtain ⟨na, nb, nc⟩ := s_keyB_na hkey
      have hcl := s_cd_lt na nb nc
      refine bX12_get_25 (fun _ => ?_) (fun z => absurd z (by decide))
      refine mX12_get_34 yt (fun c1 => ?_) (fun c1 => ?_)
      · rw [et, (hM.2.2.1 t ht).1.1, kB_0] at c1
        exact bX12_get_47 (thr 3 (by decide) (by decide) (by unfold F_get; rw [hin, hkey, eto, c1]; rfl))
      · rw [et, (hM.2.2.1 t ht).1.1, kB_n0] at c1
        refine bX12_get_43 (mX12_get_48 (c_X12_goes ok) ?_)
        rintro _ _ ⟨hr, rfl⟩
        rw [hr]
        obtain ⟨a1, a2⟩ := m_ok hM
        have hfs := m_52 s 0
        generalize m_si s 52 0 = r at a1 a2 hfs
        refine bX12_get_51 (fun _ => mX12_get_56 (m_stJ (c_X12_codeOf ok na nb nc)) ?_) (fun z => absurd z (by decide))
        rintro _ _ ⟨hr, rfl⟩
        rw [hr]
        have hx := a1.2.2.1 t ht
        refine mX12_get_63 (c_X12_sees ok a1.1.1 ht hx.2.2.1 hx.1.2.2.1 (by have := hx.2.1.1; omega) (by omega)) ?_
        rintro r2 ⟨⟨z1, z2, z3⟩, hf2⟩
        have a3 : m_M r2 M := m_M_fr a1 hf2 (by simp) (by simp)
        have ez : s_see (s_cd a b' c) (g_X M t).2.1 (r_val (s_cd a b' c) (g_X M t).1.2.2.1 (g_E M).2.1, false) = g_see M t (s_cd a b' c) := rfl
        rw [ez] at z1 z2 z3
        refine mX12_get_72 (fun c2 => ?_) (fun c2 => ?_)
        · rw [z3, kB_0] at c2
          have hF : F_get M (nI t) a b' c counts = (g_rdg M t (s_rdk counts (g_X M t).2.1 (g_X M t).2.2 (s_cd a b' c) (g_ser M)), 0, o_told (g_see M t (s_cd a b' c)).1) := by unfold F_get; rw [hin, hkey, eto, c1, c2]; rfl
          rw [hF]
          refine bX12_get_84 (mX12_get_85 (c_X12_goes ok) ?_)
          rintro _ _ ⟨hr, rfl⟩
          rw [hr]
          obtain ⟨b1, b2⟩ := m_ok a3
          generalize m_si r2 52 0 = r3 at b1 b2
          refine bX12_get_88 (fun _ => mX12_get_93 (c_X12_reads ok b1.1.1 ht (b1.2.2.1 t ht) b1.2.1.2.2.2 hser (hrd t ht) (by omega)) ?_) (fun z => absurd z (by decide))
          rintro r4 ⟨⟨y1, y2, y3⟩, p1, p2, p3⟩
          rw [ez] at y1 y2 y3
          have hM4 : m_M r4 (g_rdg M t (s_rdk counts (g_X M t).2.1 (g_X M t).2.2 (s_cd a b' c) (g_ser M))) := m_M_tx b1 ht p1 p2 p3 (by simp) (by simp)
          have h524 : r4.1 52 = 0 := (p3.1 52 (by simp)).trans b2
          refine mX12_get_102 (fun c3 => bX12_get_116 (bX12_get_118 ⟨_, rfl, r4, rfl, hM4, h524, fun _ => ?_⟩)) (fun c3 => mX12_get_109 (bX12_get_118 ⟨_, rfl, r4, rfl, hM4, h524, fun _ => ?_⟩))
          · rw [y1, kB_0] at c3
            cases ev : (g_see M t (s_cd a b' c)).1 with
            | none => rfl
            | some w => rw [ev] at c3; cases c3
          · rw [y1, kB_n0] at c3
            rw [y2]
            cases ev : (g_see M t (s_cd a b' c)).1 with
            | none => rw [ev] at c3; cases c3
            | some w => rfl
        · rw [z3, kB_n0] at c2
          have hF : F_get M (nI t) a b' c counts = (M, 3, 0) := by unfold F_get; rw [hin, hkey, eto, c1, c2]; rfl
          rw [hF]
          refine bX12_get_80 (mX12_get_85 (c_X12_goes ok) ?_)
          rintro _ _ ⟨hr, rfl⟩
          rw [hr]
          exact bX12_get_88 (fun z => absurd rfl z) (fun _ => bX12_get_91 ⟨_, rfl, _, rfl, m_thr (k := 3) a3 (by decide)⟩)
theorem c_X12_range (ok : k_ok G l) {b : Nat} {s : m_S} {h : k_H} {M : s_M} {x a b' : Int32} {counts : Bool} (hM : m_M s M) (hser : g_ser M < 2 ^ 30) (hrd : ∀ t, t < 4 → (g_X M t).2.2.length < 2048) : k_cti (tX12_range G l) [vR (some b), vI x, vI a, vI b', vI (kB counts)] (m_hp b s h) (m_p b h (m_R (F_range M x a b' counts))) := by
  refine k_cti_of (eX12_range ok.2 (mX12_range_0 (m_stI (c_X12_isTransaction ok)) ?_))
  rintro _ _ ⟨hr, rfl⟩
  rw [hr]
  have thr : ∀ k : Nat, ¬ k = 0 → k < 9 → F_range M x a b' counts = (M, k, 0) → k_X (jX12_range G l (m_hp b s h)) (m_hp b s h) 38 [(0, vR (some b)), (1, vI x), (2, vI a), (3, vI b'), (4, vI (kB counts))] [vI (nI k), vR (some b)] (q_i (m_p b h (m_R (F_range M x a b' counts)))) := by
    intro k hk hk9 he
    refine mX12_range_38 (c_X12_goes ok) ?_
    rintro _ _ ⟨hr, rfl⟩
    rw [hr, he]
    have hne : ¬ nI k = 0 := fun z => hk ((nI_eq (b := 0) (by omega) (by omega)).mp z)
    exact bX12_range_41 (fun z => absurd (by rw [decide_eq_false hne]; rfl) z) (fun _ => bX12_range_44 ⟨_, rfl, _, rfl, m_thr hM hk⟩)
  cases hin : s_inB x 0 3 with
  | false => exact bX12_range_5 (fun z => absurd rfl z) (fun _ => bX12_range_8 (thr 1 (by decide) (by decide) (by unfold F_range; rw [if_pos hin])))
  | true =>
    obtain ⟨t, ht, rfl, e9⟩ := s_in4 hin
    have eto : t_of (nI t) = t := e9
    have et : (nI t).toNatClampNeg = t := nI_clamp (by omega)
    have yt : vp_in (nI t) 4 := m_ii ht (by omega)
    refine bX12_range_5 (fun _ => mX12_range_12 (m_stI (c_X12_isRange ok)) ?_) (fun z => absurd z (by decide))
    rintro _ _ ⟨hr, rfl⟩
    rw [hr]
    cases hkey : s_rngB a b' with
    | false => exact bX12_range_17 (fun z => absurd rfl z) (fun _ => bX12_range_20 (thr 2 (by decide) (by decide) (by unfold F_range; rw [hin, hkey]; rfl)))
    | true =>
      obtain ⟨na, nb⟩ := s_rngB_na hkey
      obtain ⟨l1, l2, l3⟩ := s_la_ok na nb
      refine bX12_range_17 (fun _ => ?_) (fun z => absurd z (by decide))
      refine mX12_range_24 yt (fun c1 => ?_) (fun c1 => ?_)
      · rw [et, (hM.2.2.1 t ht).1.1, kB_0] at c1
        exact bX12_range_37 (thr 3 (by decide) (by decide) (by unfold F_range; rw [hin, hkey, eto, c1]; rfl))
      · rw [et, (hM.2.2.1 t ht).1.1, kB_n0] at c1
        have hF : F_range M (nI t) a b' counts = (if counts = true then g_rdg M t ((g_X M t).2.2 ++ [(s_lo a b', s_la a b' + 1, g_ser M)]) else M, 0, nI (g_rng M t (s_lo a b') (s_la a b' + 1)).length) := by unfold F_range; rw [hin, hkey, eto, c1]; rfl
        rw [hF]
        refine bX12_range_33 (mX12_range_38 (c_X12_goes ok) ?_)
        rintro _ _ ⟨hr, rfl⟩
        rw [hr]
        obtain ⟨a1, a2⟩ := m_ok hM
        generalize m_si s 52 0 = r at a1 a2
        refine bX12_range_41 (fun _ => mX12_range_46 (m_stJ (c_X12_firstOf ok na nb)) ?_) (fun z => absurd z (by decide))
        rintro _ _ ⟨hr, rfl⟩
        rw [hr]
        refine mX12_range_55 (c_X12_placeOf ok a1.1.1.1 (by omega)) ?_
        rintro _ _ ⟨hr, rfl⟩
        rw [hr]
        refine bX12_range_58 ?_
        have e4 := a1.1.1.1.2.2.2
        have fin : ∀ (q : m_S) (m : Nat), m_M q M → q.1 52 = 0 → m = (g_rng M t (s_lo a b') (s_la a b' + 1)).length → k_X (jX12_range G l (m_hp b s h)) (m_hp b q h) 116 [(0, vR (some b)), (1, vI (nI t)), (2, vI a), (3, vI b'), (4, vI (kB counts)), (5, vI (nI m))] [] (q_i (m_p b h (m_R (if counts = true then g_rdg M t ((g_X M t).2.2 ++ [(s_lo a b', s_la a b' + 1, g_ser M)]) else M, 0, nI (g_rng M t (s_lo a b') (s_la a b' + 1)).length)))) := by
          intro q m hq1 hq2 hm
          refine bX12_range_116 (fun c2 => bX12_range_136 ⟨_, rfl, q, rfl, ?_, hq2, fun _ => by rw [hm]⟩) (fun c2 => mX12_range_121 (m_stJ (c_X12_firstOf ok na nb)) ?_)
          · rw [kB_0] at c2
            rw [if_neg (by rw [c2]; decide)]
            exact hq1
          · rw [kB_n0] at c2
            rw [if_pos c2]
            rintro _ _ ⟨hr, rfl⟩
            rw [hr]
            refine mX12_range_128 (m_stJ (c_X12_lastOf ok na nb)) ?_
            rintro _ _ ⟨hr, rfl⟩
            rw [hr]
            refine mX12_range_133 (c_X12_putsDown ok ht (hq1.2.2.1 t ht) hq1.2.1.2.2.2 hser (hrd t ht) l1 l2) ?_
            rintro q2 ⟨p1, p2, p3⟩
            exact bX12_range_136 ⟨_, rfl, q2, rfl, m_M_tx hq1 ht p1 p2 p3 (by simp) (by simp), (p3.1 52 (by simp)).trans hq2, fun _ => by rw [hm]⟩
        have key : ∀ (d i acc : Nat) (q : m_S), (g_E M).1.length - i = d → i ≤ (g_E M).1.length → m_M q M → q.1 52 = 0 → acc + (r_rem (s_la a b' + 1) (fun c => s_vis (g_see M t c)) (g_E M).1 i).length = (g_rng M t (s_lo a b') (s_la a b' + 1)).length →
            k_X (jX12_range G l (m_hp b s h)) (m_hp b q h) 60 [(0, vR (some b)), (1, vI (nI t)), (2, vI a), (3, vI b'), (4, vI (kB counts)), (5, vI (nI acc)), (6, vI (nI i))] [] (q_i (m_p b h (m_R (if counts = true then g_rdg M t ((g_X M t).2.2 ++ [(s_lo a b', s_la a b' + 1, g_ser M)]) else M, 0, nI (g_rng M t (s_lo a b') (s_la a b' + 1)).length)))) := by
          intro d
          induction d with
          | zero =>
            intro i acc q hd hi hq1 hq2 hacc
            have k1 := hq1.1.1.1.1
            have k2 := hq1.1.1.1.2.1
            rw [rs_end (by omega)] at hacc
            exact mX12_range_60 (fun _ => fin q acc hq1 hq2 (by simpa using hacc)) (fun z => absurd (by rw [k1]; exact nI_le (by omega) (by omega)) z)
          | succ d ih =>
            intro i acc q hd hi hq1 hq2 hacc
            have k1 := hq1.1.1.1.1
            have k2 := hq1.1.1.1.2.1
            have hlt : i < (g_E M).1.length := by omega
            obtain ⟨y, hy⟩ : ∃ y, (g_E M).1[i]? = some y := ⟨_, List.getElem?_eq_getElem hlt⟩
            obtain ⟨y1, y2, y3⟩ := hq1.1.1.1.2.2.1 _ _ hy
            refine mX12_range_60 (fun z => absurd z (by rw [k1]; exact nI_ge hlt (by omega))) (fun _ => ?_)
            refine mX12_range_69 (m_ii (by omega) (by omega)) (m_stJ (c_X12_lastOf ok na nb)) ?_
            rintro _ _ ⟨hr, rfl⟩
            rw [hr, nI_clamp (by omega), y1]
            refine bX12_range_81 (fun c2 => ?_) (fun c2 => ?_)
            · have c3 := (lX_lt (by omega) (by omega)).mp c2
              rw [rs_stop e4 hy (by omega)] at hacc
              exact fin q acc hq1 hq2 (by simpa using hacc)
            · have c3 : ¬ s_la a b' < y.1 := fun z => c2 ((lX_lt (by omega) (by omega)).mpr z)
              refine mX12_range_85 (m_ii (by omega) (by omega)) (by rw [nI_clamp (by omega), y1]; exact c_X12_isSeen ok hq1.1.1 ht (hq1.2.2.1 t ht) (by omega)) ?_
              rintro q2 _ ⟨rfl, hf2⟩
              have hq3 : m_M q2 M := m_M_fr hq1 hf2 (by simp) (by simp)
              have hq4 : q2.1 52 = 0 := (hf2.1 52 (by simp)).trans hq2
              refine bX12_range_99 (fun c4 => ?_) (fun c4 => ?_)
              · rw [kB_0] at c4
                refine bX12_range_106 (bX12_range_107 ?_)
                rw [nI_1, show (0 : Int32) = nI 0 from rfl, nI_add]
                rw [rs_skip (p := fun c => s_vis (g_see M t c)) hy c4] at hacc
                exact ih (i + 1) (acc + 0) q2 (by omega) (by omega) hq3 hq4 hacc
              · rw [kB_n0] at c4
                refine bX12_range_102 (bX12_range_107 ?_)
                rw [nI_1, nI_1]
                rw [rs_take (p := fun c => s_vis (g_see M t c)) hy (by omega) c4, List.length_cons] at hacc
                exact ih (i + 1) (acc + 1) q2 (by omega) (by omega) hq3 hq4 (by omega)
        exact key _ (r_pl (s_lo a b') (g_E M).1) 0 r rfl (r_pl_le _ _) a1 a2 (by rw [rs_start e4]; unfold g_rng; omega)
end MG
