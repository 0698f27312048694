/-! THE REFERENCE SAVES AND ERASES RECORDS: its stamps -/
def g_kc (M : s_M) (t : Nat) (kind : Int32) (code : Nat) (value place : Int32) : s_M := g_kp M t (g_ser M + 1, kind, code, code + 1, value, place)
def sv_is (number : Int32) (x : k_CH) : Bool := decide (m_ck x = 8) && decide (s_no x.2.2.1 2 = number)
def sv_drop (number : Int32) (MC : List k_CH) : List k_CH := MC.filter (fun x => !sv_is number x)
def g_sdr (M : s_M) (t : Nat) (number : Int32) : s_M := g_tx M t ((g_X M t).1, sv_drop number (g_X M t).2.1, (g_X M t).2.2)
def sv_seen (M : s_M) (t : Nat) (number : Int32) : List k_K2 := (g_rng M t (s_lo (-4) 10000) (s_la (-4) 10000 + 1)).filter (fun x => decide (s_no x.1 2 = number))
def g_cls (t : Nat) (X : List k_K2) (M : s_M) : s_M := X.foldl (fun M x => g_kc M t 1 x.1 0 0) M
def sv_take (M : s_M) (t : Nat) (number : Int32) : s_M := g_cls t (sv_seen (g_sdr M t number) t number) (g_sdr M t number)
theorem g_kc_X (M : s_M) (t : Nat) (k : Int32) (c : Nat) (v p : Int32) : g_X (g_kc M t k c v p) t = ((g_X M t).1, (g_X M t).2.1 ++ [(g_ser M + 1, k, c, c + 1, v, p)], (g_X M t).2.2) := by
  show (if t = t then _ else g_X M t) = _
  rw [if_pos rfl]
theorem g_see_kc {M : s_M} {t : Nat} {k : Int32} {c d : Nat} {v p : Int32} (h : ¬ d = c) : g_see (g_kc M t k c v p) t d = g_see M t d := by
  unfold g_see
  rw [g_kc_X]
  show s_see d ((g_X M t).2.1 ++ [(g_ser M + 1, k, c, c + 1, v, p)]) (r_val d (g_X M t).1.2.2.1 (g_E M).2.1, false) = _
  unfold s_see
  rw [List.foldl_append, List.foldl_cons, List.foldl_nil, if_neg]
  unfold s_cov
  simp only [Bool.and_eq_true, decide_eq_true_eq]
  omega
theorem m_ck_kc (q : Nat) {k : Int32} {c : Nat} {v p : Int32} (h : ¬ (k = 6 ∧ c / 121000000 = 996)) : m_ck (q, k, c, c + 1, v, p) = k := by
  unfold m_ck
  rw [if_neg (fun z => absurd z.2 (by show ¬ 1 < c + 1 - c; omega)), if_neg h]
theorem m_ck_k8 (q : Nat) {c : Nat} {v p : Int32} (h : c / 121000000 = 996) : m_ck (q, 6, c, c + 1, v, p) = 8 := by
  unfold m_ck
  rw [if_neg (fun z => absurd z.1 (show ¬ (6 : Int32) = 1 by decide)), if_pos ⟨rfl, h⟩]
theorem g_cls_ser (t : Nat) : ∀ (X : List k_K2) (M : s_M), g_ser (g_cls t X M) = g_ser M + X.length := by
  intro X
  induction X with
  | nil => exact fun M => rfl
  | cons x u ih =>
    intro M
    show g_ser (g_cls t u (g_kc M t 1 x.1 0 0)) = _
    rw [ih]
    show g_ser M + 1 + u.length = g_ser M + (u.length + 1)
    omega
theorem g_cls_len (t : Nat) : ∀ (X : List k_K2) (M : s_M), (g_X (g_cls t X M) t).2.1.length = (g_X M t).2.1.length + X.length := by
  intro X
  induction X with
  | nil => exact fun M => rfl
  | cons x u ih =>
    intro M
    show (g_X (g_cls t u (g_kc M t 1 x.1 0 0)) t).2.1.length = _
    rw [ih, g_kc_X, List.length_cons (a := x)]
    show ((g_X M t).2.1 ++ [_]).length + u.length = _
    rw [List.length_append, List.length_singleton]
    omega
theorem g_kc_E {M : s_M} {t : Nat} {k : Int32} {c a : Nat} {v p : Int32} (s : (g_E M).1.Pairwise (fun x y => x.1 < y.1)) (h : (c, a) ∈ (g_E M).1) : g_E (g_kc M t k c v p) = g_E M := by
  show ((if m_ck (g_ser M + 1, k, c, c + 1, v, p) < 6 then m_ins c (g_E M).1 else (g_E M).1), (g_E M).2) = _
  rw [m_ins_in s h]; split <;> rfl
theorem g_cls_E (t : Nat) : ∀ (X : List k_K2) (M : s_M), (g_E M).1.Pairwise (fun x y => x.1 < y.1) → (∀ x ∈ X, x ∈ (g_E M).1) → g_E (g_cls t X M) = g_E M := by
  intro X
  induction X with
  | nil => exact fun M _ _ => rfl
  | cons x u ih =>
    intro M hs hX
    have e : g_E (g_kc M t 1 x.1 0 0) = g_E M := g_kc_E hs (a := x.2) (hX x (List.mem_cons_self ..))
    show g_E (g_cls t u (g_kc M t 1 x.1 0 0)) = _
    rw [ih _ (by rw [e]; exact hs) (by rw [e]; exact fun y hy => hX y (List.mem_cons_of_mem _ hy)), e]
/-- a row of a change, and its copy -/
def m_cr (s : m_S) (p : Nat) (y : k_CH) : Prop := s.2.1 16 p = m_ck y ∧ s.2.2 17 p = lN y.2.2.1 ∧ s.2.2 18 p = lN (y.2.2.2.1 - 1) ∧ s.2.1 19 p = m_cv y ∧ s.2.1 20 p = nI y.1
def m_c5 (s s1 : m_S) (p : Nat) : Prop := s1.2.1 16 p = s.2.1 16 p ∧ s1.2.2 17 p = s.2.2 17 p ∧ s1.2.2 18 p = s.2.2 18 p ∧ s1.2.1 19 p = s.2.1 19 p ∧ s1.2.1 20 p = s.2.1 20 p
def m_cy1 (s : m_S) (p q : Nat) : m_S := m_sa s 16 (va_up (s.2.1 16) q (s.2.1 16 p))
def m_cy2 (s : m_S) (p q : Nat) : m_S := m_sj (m_cy1 s p q) 17 (va_up ((m_cy1 s p q).2.2 17) q ((m_cy1 s p q).2.2 17 p))
def m_cy3 (s : m_S) (p q : Nat) : m_S := m_sj (m_cy2 s p q) 18 (va_up ((m_cy2 s p q).2.2 18) q ((m_cy2 s p q).2.2 18 p))
def m_cy4 (s : m_S) (p q : Nat) : m_S := m_sa (m_cy3 s p q) 19 (va_up ((m_cy3 s p q).2.1 19) q ((m_cy3 s p q).2.1 19 p))
def m_cpy (s : m_S) (p q : Nat) : m_S := m_sa (m_cy4 s p q) 20 (va_up ((m_cy4 s p q).2.1 20) q ((m_cy4 s p q).2.1 20 p))
theorem m_cpy_rows (s : m_S) (p q : Nat) : (m_cpy s p q).2.1 16 = va_up (s.2.1 16) q (s.2.1 16 p) ∧ (m_cpy s p q).2.2 17 = va_up (s.2.2 17) q (s.2.2 17 p) ∧ (m_cpy s p q).2.2 18 = va_up (s.2.2 18) q (s.2.2 18 p) ∧ (m_cpy s p q).2.1 19 = va_up (s.2.1 19) q (s.2.1 19 p) ∧ (m_cpy s p q).2.1 20 = va_up (s.2.1 20) q (s.2.1 20 p) := ⟨rfl, rfl, rfl, rfl, rfl⟩
theorem m_cpy_fr (s : m_S) (p q : Nat) : m_fr [] [16, 17, 18, 19, 20] s (m_cpy s p q) := by
  refine ⟨fun k hk => rfl, fun i hi => ?_⟩
  simp only [List.mem_cons, List.not_mem_nil, or_false, not_or] at hi
  show (if i = 20 then _ else if i = 19 then _ else if i = 16 then _ else s.2.1 i) = _ ∧ (if i = 18 then _ else if i = 17 then _ else s.2.2 i) = _
  rw [if_neg hi.1, if_neg hi.2.2.2.2, if_neg hi.2.2.2.1, if_neg hi.2.1, if_neg hi.2.2.1]
  exact ⟨rfl, rfl⟩
theorem m_cpy_at {s : m_S} {p : Nat} (q : Nat) {y : k_CH} (h : m_cr s p y) : m_cr (m_cpy s p q) q y := by
  obtain ⟨r1, r2, r3, r4, r5⟩ := m_cpy_rows s p q
  unfold m_cr
  rw [r1, r2, r3, r4, r5, va_up_self, va_up_self, va_up_self, va_up_self, va_up_self]
  exact h
theorem m_cpy_ne (s : m_S) (p : Nat) {q j : Nat} (h : j ≠ q) : m_c5 s (m_cpy s p q) j := by
  obtain ⟨r1, r2, r3, r4, r5⟩ := m_cpy_rows s p q
  unfold m_c5
  rw [r1, r2, r3, r4, r5, va_up_ne _ _ h, va_up_ne _ _ h, va_up_ne _ _ h, va_up_ne _ _ h, va_up_ne _ _ h]
  exact ⟨rfl, rfl, rfl, rfl, rfl⟩
theorem m_cr_c5 {s s1 : m_S} {p : Nat} {y : k_CH} (h : m_cr s p y) (k : m_c5 s s1 p) : m_cr s1 p y := by
  obtain ⟨k1, k2, k3, k4, k5⟩ := k
  unfold m_cr
  rw [k1, k2, k3, k4, k5]
  exact h
theorem m_c5_trans {s s1 s2 : m_S} {p : Nat} (h : m_c5 s s1 p) (k : m_c5 s1 s2 p) : m_c5 s s2 p := ⟨k.1.trans h.1, k.2.1.trans h.2.1, k.2.2.1.trans h.2.2.1, k.2.2.2.1.trans h.2.2.2.1, k.2.2.2.2.trans h.2.2.2.2⟩
theorem sv_drop_take {number : Int32} {MC : List k_CH} {k : Nat} {y : k_CH} (h : MC[k]? = some y) : sv_drop number (MC.take (k + 1)) = sv_drop number (MC.take k) ++ (if sv_is number y = true then [] else [y]) := by
  unfold sv_drop
  rw [List.take_succ, h, List.filter_append]
  congr 1
  show [y].filter _ = _
  cases e : sv_is number y with
  | true => simp [e]
  | false => simp [e]
theorem s_na_m4 : s_na (-4) := Or.inr (s_nmB_iff.mp (by decide))
section MSV
variable {G : k_G} {l : Launch}
theorem c_X12_takesStamps (ok : k_ok G l) {b : Nat} {s : m_S} {h : k_H} {M : s_M} {t : Nat} {number : Int32} (hM : m_M s M) (ht : t < 4) (hser : g_ser M + 4100 < 2 ^ 30) (hlen : (g_X M t).2.1.length + (sv_seen (g_sdr M t number) t number).length ≤ 4096) :
    k_ctv (tX12_takesStamps G l) [vR (some b), vI (nI t), vI number] (m_hp b s h) (m_pv b h (fun s1 => m_M s1 (sv_take M t number) ∧ s1.1 52 = s.1 52)) := by
  have ec : (nI t).toNatClampNeg = t := nI_clamp (by omega)
  have yt : vp_in (nI t) 4 := m_ii ht (by omega)
  obtain ⟨⟨a1, a2, a3, a4, a5⟩, hb, ⟨q1, q2, q3⟩, ⟨p1, p2, p3⟩⟩ := id (hM.2.2.1 t ht)
  obtain ⟨l1, l2, l3⟩ := s_la_ok s_na_m4 (Or.inl rfl : s_na 10000)
  refine k_ctv_of (eX12_takesStamps ok.2 (bX12_takesStamps_0 ?_))
  -- the second loop
  have loop2 : ∀ (d i : Nat) (r : m_S) (N : s_M), (g_E N).1.length - i = d → i ≤ (g_E N).1.length → m_M r N → r.1 52 = s.1 52 → g_cls t ((r_rem (s_la (-4) 10000 + 1) (fun c => s_vis (g_see N t c)) (g_E N).1 i).filter (fun x => decide (s_no x.1 2 = number))) N = sv_take M t number →
      (g_X N t).2.1.length + ((r_rem (s_la (-4) 10000 + 1) (fun c => s_vis (g_see N t c)) (g_E N).1 i).filter (fun x => decide (s_no x.1 2 = number))).length ≤ 4096 →
      g_ser N + ((r_rem (s_la (-4) 10000 + 1) (fun c => s_vis (g_see N t c)) (g_E N).1 i).filter (fun x => decide (s_no x.1 2 = number))).length < 2 ^ 30 →
      k_X (jX12_takesStamps G l (m_hp b s h)) (m_hp b r h) 177 [(0, vR (some b)), (1, vI (nI t)), (2, vI number), (4, vI (nI i))] [] (q_v (m_pv b h (fun s1 => m_M s1 (sv_take M t number) ∧ s1.1 52 = s.1 52))) := by
    intro d
    induction d with
    | zero =>
      intro i r N hd hi hN h52 he _ _
      have k1 := hN.1.1.1.1
      have k2 := hN.1.1.1.2.1
      rw [rs_end (by omega)] at he
      exact mX12_takesStamps_177 (fun _ => bX12_takesStamps_262 ⟨rfl, r, rfl, he ▸ hN, h52⟩) (fun z => absurd (by rw [k1]; exact nI_le (by omega) (by omega)) z)
    | succ d ih =>
      intro i r N hd hi hN h52 he hl hs
      have k1 := hN.1.1.1.1
      have k2 := hN.1.1.1.2.1
      have e4 := hN.1.1.1.2.2.2
      have hlt : i < (g_E N).1.length := by omega
      obtain ⟨y, hy⟩ : ∃ y, (g_E N).1[i]? = some y := ⟨_, List.getElem?_eq_getElem hlt⟩
      obtain ⟨y1, y2, y3⟩ := hN.1.1.1.2.2.1 _ _ hy
      have yi : vp_in (nI i) 12000 := m_ii (by omega) (by omega)
      have ei : (nI i).toNatClampNeg = i := nI_clamp (by omega)
      refine mX12_takesStamps_177 (fun z => absurd z (by rw [k1]; exact nI_ge hlt (by omega))) (fun _ => ?_)
      refine mX12_takesStamps_186 yi (m_stJ (c_X12_lastOf ok s_na_m4 (Or.inl rfl))) ?_
      rintro _ _ ⟨hr, rfl⟩
      rw [hr, ei, y1]
      refine bX12_takesStamps_201 (fun c2 => ?_) (fun c2 => ?_)
      · have c3 := (lX_lt (by omega) (by omega)).mp c2
        rw [rs_stop e4 hy (by omega)] at he
        exact bX12_takesStamps_262 ⟨rfl, r, rfl, he ▸ hN, h52⟩
      · have c3 : ¬ s_la (-4) 10000 < y.1 := fun z => c2 ((lX_lt (by omega) (by omega)).mpr z)
        have nx : ∀ (r2 : m_S), m_M r2 N → r2.1 52 = s.1 52 → (r_rem (s_la (-4) 10000 + 1) (fun c => s_vis (g_see N t c)) (g_E N).1 i).filter (fun x => decide (s_no x.1 2 = number)) = (r_rem (s_la (-4) 10000 + 1) (fun c => s_vis (g_see N t c)) (g_E N).1 (i + 1)).filter (fun x => decide (s_no x.1 2 = number)) →
            k_X (jX12_takesStamps G l (m_hp b s h)) (m_hp b r2 h) 256 [(0, vR (some b)), (1, vI (nI t)), (2, vI number), (4, vI (nI i))] [] (q_v (m_pv b h (fun s1 => m_M s1 (sv_take M t number) ∧ s1.1 52 = s.1 52))) := by
          intro r2 hN2 h522 e
          rw [e] at he hl hs
          refine bX12_takesStamps_256 ?_
          rw [nI_1]
          exact ih (i + 1) r2 N (by omega) (by omega) hN2 h522 he hl hs
        refine mX12_takesStamps_205 yi (by rw [ei, y1]; exact m_stI (c_X12_numberOf ok y3)) ?_
        rintro _ _ ⟨hr, rfl⟩
        rw [hr, show s_pl 2 = 2 from rfl]
        refine bX12_takesStamps_216 (fun c4 => ?_) (fun c4 => ?_)
        · refine nx r hN h52 ?_
          cases ev : s_vis (g_see N t y.1) with
          | false => rw [rs_skip (p := fun c => s_vis (g_see N t c)) hy ev]
          | true => rw [rs_take (p := fun c => s_vis (g_see N t c)) hy (by omega) ev, List.filter_cons_of_neg (by simpa using c4)]
        · refine mX12_takesStamps_220 yi (by rw [ei, y1]; exact c_X12_isSeen ok hN.1.1 ht (hN.2.2.1 t ht) (by omega)) ?_
          rintro r2 _ ⟨rfl, hf2⟩
          have hN2 : m_M r2 N := m_M_fr hN hf2 (by simp) (by simp)
          have h522 : r2.1 52 = s.1 52 := (hf2.1 52 (by simp)).trans h52
          refine bX12_takesStamps_232 (fun c5 => ?_) (fun c5 => ?_)
          · rw [kB_0] at c5
            exact nx r2 hN2 h522 (by rw [rs_skip (p := fun c => s_vis (g_see N t c)) hy c5])
          · rw [kB_n0] at c5
            have er := rs_take (hi := s_la (-4) 10000 + 1) (p := fun c => s_vis (g_see N t c)) hy (by omega) c5
            have er2 : (r_rem (s_la (-4) 10000 + 1) (fun c => s_vis (g_see N t c)) (g_E N).1 i).filter (fun x => decide (s_no x.1 2 = number)) = y :: (r_rem (s_la (-4) 10000 + 1) (fun c => s_vis (g_see N t c)) (g_E N).1 (i + 1)).filter (fun x => decide (s_no x.1 2 = number)) := by rw [er, List.filter_cons_of_pos (by simpa using c4)]
            rw [er2] at he hl hs
            rw [List.length_cons] at hl hs
            have hmem : (y.1, y.2) ∈ (g_E N).1 := List.mem_of_getElem? hy
            have hE : g_E (g_kc N t 1 y.1 0 0) = g_E N := g_kc_E e4 hmem
            have K := c_keeps_M ok (h := h) (b := b) (y := (g_ser N + 1, 1, y.1, y.1 + 1, 0, 0)) hN2 ht (by omega) (by omega) ⟨Or.inr (Or.inl rfl), Nat.lt_succ_self _, by show y.1 + 1 < 2 ^ 61; omega, Or.inl rfl, y3, by show g_ser N + 1 < 2 ^ 30; omega⟩ rfl (fun _ => by show (m_ins y.1 (g_E N).1).length ≤ 12000; rw [m_ins_in e4 hmem]; exact k2)
            rw [m_ck_kc _ (fun z => absurd z.1 (by decide)), show m_cv (g_ser N + 1, 1, y.1, y.1 + 1, 0, 0) = 0 from rfl] at K
            have y1' : r2.2.2 1 i = lN y.1 := by rw [(hf2.2 1 (by simp)).2, y1]
            refine mX12_takesStamps_235 yi (by rw [ei, y1']; exact K) ?_
            rintro r3 ⟨b1, b2⟩
            refine bX12_takesStamps_256 ?_
            rw [nI_1]
            have ef : r_rem (s_la (-4) 10000 + 1) (fun c => s_vis (g_see (g_kc N t 1 y.1 0 0) t c)) (g_E N).1 (i + 1) = r_rem (s_la (-4) 10000 + 1) (fun c => s_vis (g_see N t c)) (g_E N).1 (i + 1) := by
              unfold r_rem
              refine List.filter_congr fun z hz => ?_
              obtain ⟨j, hj⟩ := List.getElem?_of_mem hz
              rw [List.getElem?_drop] at hj
              have := r_srt e4 (i := i) (j := i + 1 + j) (by omega) hy hj
              show (_ && s_vis (g_see (g_kc N t 1 y.1 0 0) t z.1)) = _
              rw [g_see_kc (show ¬ z.1 = y.1 by omega)]
            refine ih (i + 1) r3 (g_kc N t 1 y.1 0 0) (by rw [hE]; omega) (by rw [hE]; omega) b1 (b2.trans h522) ?_ ?_ ?_
            · rw [hE, ef]; exact he
            · rw [hE, ef, g_kc_X, List.length_append]
              show (g_X N t).2.1.length + 1 + _ ≤ 4096
              omega
            · rw [hE, ef]
              show g_ser N + 1 + _ < 2 ^ 30
              omega
  -- the first loop
  have loop1 : ∀ (d k : Nat) (r : m_S), (g_X M t).2.1.length - k = d → k ≤ (g_X M t).2.1.length → m_fr [] [16, 17, 18, 19, 20] s r → (∀ j y, (sv_drop number ((g_X M t).2.1.take k))[j]? = some y → m_cr r (4096 * t + j) y) → (∀ j y, k ≤ j → (g_X M t).2.1[j]? = some y → m_cr r (4096 * t + j) y) → (∀ p, p < 4096 * t ∨ 4096 * t + 4096 ≤ p → m_c5 s r p) →
      k_X (jX12_takesStamps G l (m_hp b s h)) (m_hp b r h) 5 [(0, vR (some b)), (1, vI (nI t)), (2, vI number), (3, vI (nI (sv_drop number ((g_X M t).2.1.take k)).length)), (4, vI (nI k))] [] (q_v (m_pv b h (fun s1 => m_M s1 (sv_take M t number) ∧ s1.1 52 = s.1 52))) := by
    intro d
    induction d with
    | zero =>
      intro k r hd hk hf hpre hsuf hout
      have e15 : r.2.1 15 t = nI (g_X M t).2.1.length := by rw [(hf.2 15 (by simp)).1]; exact q1
      rw [List.take_of_length_le (by omega)] at hpre ⊢
      have hdl : (sv_drop number (g_X M t).2.1).length ≤ (g_X M t).2.1.length := List.length_filter_le _ _
      refine mX12_takesStamps_5 yt (fun _ => mX12_takesStamps_156 yt ?_) (fun z => absurd (by rw [ec, e15]; exact nI_le (by omega) (by omega)) z)
      rw [ec]
      have hf2 : m_fr [] [15, 16, 17, 18, 19, 20] s (m_sa r 15 (va_up (r.2.1 15) t (nI (sv_drop number (g_X M t).2.1).length))) := ⟨fun i hi => hf.1 i hi, fun i hi => by
        simp only [List.mem_cons, List.not_mem_nil, or_false, not_or] at hi
        show (if i = 15 then _ else r.2.1 i) = _ ∧ _
        rw [if_neg hi.1]
        exact hf.2 i (by simp; omega)⟩
      have hM2 : m_M (m_sa r 15 (va_up (r.2.1 15) t (nI (sv_drop number (g_X M t).2.1).length))) (g_sdr M t number) := by
        refine m_M_tx hM ht ⟨?_, hb, ⟨va_up_self _ _ _, by show (sv_drop number (g_X M t).2.1).length ≤ 4096; omega, fun j y hj => ?_⟩, ?_⟩ (fun u hu hne => ?_) hf2 (by simp) (by simp)
        · show r.2.1 10 t = _ ∧ r.2.1 11 t = _ ∧ r.2.1 12 t = _ ∧ r.2.1 13 t = _ ∧ r.2.1 14 t = _
          rw [(hf.2 10 (by simp)).1, (hf.2 11 (by simp)).1, (hf.2 12 (by simp)).1, (hf.2 13 (by simp)).1, (hf.2 14 (by simp)).1]
          exact ⟨a1, a2, a3, a4, a5⟩
        · have hj2 : (sv_drop number (g_X M t).2.1)[j]? = some y := hj
          obtain ⟨i, hi⟩ := List.getElem?_of_mem (List.mem_filter.mp (List.mem_of_getElem? hj2)).1
          exact ⟨(q3 i y hi).1, hpre j y hj2⟩
        · show r.2.1 21 t = _ ∧ _ ∧ ∀ k z, _ → r.2.2 22 _ = _ ∧ r.2.2 23 _ = _ ∧ r.2.1 24 _ = _ ∧ _
          rw [(hf.2 21 (by simp)).1, (hf.2 22 (by simp)).2, (hf.2 23 (by simp)).2, (hf.2 24 (by simp)).1]
          exact ⟨p1, p2, p3⟩
        · refine ⟨⟨(hf2.2 10 (by simp)).1 ▸ rfl, (hf2.2 11 (by simp)).1 ▸ rfl, (hf2.2 12 (by simp)).1 ▸ rfl, (hf2.2 13 (by simp)).1 ▸ rfl, (hf2.2 14 (by simp)).1 ▸ rfl⟩, ⟨?_, fun k hk9 => ?_⟩, ⟨(hf2.2 21 (by simp)).1 ▸ rfl, fun k hk9 => ⟨(hf2.2 22 (by simp)).2 ▸ rfl, (hf2.2 23 (by simp)).2 ▸ rfl, (hf2.2 24 (by simp)).1 ▸ rfl⟩⟩⟩
          · show va_up (r.2.1 15) t _ u = _
            rw [va_up_ne _ _ hne, (hf.2 15 (by simp)).1]
          · exact hout (4096 * u + k) (by omega)
      generalize m_sa r 15 (va_up (r.2.1 15) t (nI (sv_drop number (g_X M t).2.1).length)) = r2 at hf2 hM2
      refine mX12_takesStamps_163 (m_stJ (c_X12_firstOf ok s_na_m4 (Or.inl rfl))) ?_
      rintro _ _ ⟨hr, rfl⟩
      rw [hr]
      refine mX12_takesStamps_172 (c_X12_placeOf ok hM2.1.1.1 (by omega)) ?_
      rintro _ _ ⟨hr, rfl⟩
      rw [hr]
      have e4 := hM2.1.1.1.2.2.2
      refine bX12_takesStamps_175 (loop2 _ _ r2 (g_sdr M t number) rfl (r_pl_le _ _) hM2 (hf2.1 52 (by simp)) ?_ ?_ ?_)
      · rw [rs_start e4]; rfl
      · rw [rs_start e4]
        have e1 : (g_X (g_sdr M t number) t).2.1 = sv_drop number (g_X M t).2.1 := by
          show (if t = t then _ else g_X M t).2.1 = _
          rw [if_pos rfl]
        rw [e1]
        have : (r_flt (s_lo (-4) 10000) (s_la (-4) 10000 + 1) (fun c => s_vis (g_see (g_sdr M t number) t c)) (g_E (g_sdr M t number)).1).filter (fun x => decide (s_no x.1 2 = number)) = sv_seen (g_sdr M t number) t number := rfl
        rw [this]
        omega
      · rw [rs_start e4]
        have : (r_flt (s_lo (-4) 10000) (s_la (-4) 10000 + 1) (fun c => s_vis (g_see (g_sdr M t number) t c)) (g_E (g_sdr M t number)).1).filter (fun x => decide (s_no x.1 2 = number)) = sv_seen (g_sdr M t number) t number := rfl
        rw [this]
        have : g_ser (g_sdr M t number) = g_ser M := rfl
        rw [this]
        omega
    | succ d ih =>
      intro k r hd hk hf hpre hsuf hout
      have e15 : r.2.1 15 t = nI (g_X M t).2.1.length := by rw [(hf.2 15 (by simp)).1]; exact q1
      have hlt : k < (g_X M t).2.1.length := by omega
      obtain ⟨y, hy⟩ : ∃ y, (g_X M t).2.1[k]? = some y := ⟨_, List.getElem?_eq_getElem hlt⟩
      have hwc := (q3 k y hy).1
      have hpl : (sv_drop number ((g_X M t).2.1.take k)).length ≤ k := by
        refine Nat.le_trans (List.length_filter_le _ _) ?_
        rw [List.length_take]
        omega
      have hex := sv_drop_take (number := number) hy
      generalize hKL : sv_drop number ((g_X M t).2.1.take k) = KL at hpre hpl hex
      have yf : vp_in (nI (4096 * t + k)) 16384 := m_ii (by omega) (by omega)
      have yto : vp_in (nI (4096 * t + KL.length)) 16384 := m_ii (by omega) (by omega)
      have ef : (nI (4096 * t + k)).toNatClampNeg = 4096 * t + k := nI_clamp (by omega)
      have eto : (nI (4096 * t + KL.length)).toNatClampNeg = 4096 * t + KL.length := nI_clamp (by omega)
      have hrow := hsuf k y (Nat.le_refl _) hy
      refine mX12_takesStamps_5 yt (fun z => absurd z (by rw [ec, e15]; exact nI_ge hlt (by omega))) (fun _ => ?_)
      refine mX12_takesStamps_16 (c_X12_changeAt ok t k) ?_
      rintro _ _ ⟨hr, rfl⟩
      rw [hr]
      refine mX12_takesStamps_23 (c_X12_changeAt ok t KL.length) ?_
      rintro _ _ ⟨hr, rfl⟩
      rw [hr]
      -- the copy
      have cp : ∀ u : Bool, u = sv_is number y → k_X (jX12_takesStamps G l (m_hp b s h)) (m_hp b r h) 65 [(0, vR (some b)), (1, vI (nI t)), (2, vI number), (3, vI (nI KL.length)), (4, vI (nI k)), (5, vI (nI (4096 * t + k))), (6, vI (nI (4096 * t + KL.length)))] [vI (kB u)] (q_v (m_pv b h (fun s1 => m_M s1 (sv_take M t number) ∧ s1.1 52 = s.1 52))) := by
        intro u hu
        refine mX12_takesStamps_65 yf yto (mX12_takesStamps_81 yf yto (mX12_takesStamps_95 yf yto (mX12_takesStamps_109 yf yto (mX12_takesStamps_123 yf yto ?_))))
        rw [ef, eto]
        show k_X _ (m_hp b (m_cpy r (4096 * t + k) (4096 * t + KL.length)) h) _ _ _ _
        have hrow2 := m_cpy_at (4096 * t + KL.length) hrow
        have hne := fun j (hj : j ≠ 4096 * t + KL.length) => m_cpy_ne r (4096 * t + k) hj
        have hf2 : m_fr [] [16, 17, 18, 19, 20] s (m_cpy r (4096 * t + k) (4096 * t + KL.length)) := m_fr_trans hf (m_cpy_fr _ _ _)
        generalize m_cpy r (4096 * t + k) (4096 * t + KL.length) = r2 at hrow2 hne hf2
        have hsuf2 : ∀ j z, k + 1 ≤ j → (g_X M t).2.1[j]? = some z → m_cr r2 (4096 * t + j) z := fun j z hj hz => m_cr_c5 (hsuf j z (by omega) hz) (hne _ (by omega))
        have hout2 : ∀ p, p < 4096 * t ∨ 4096 * t + 4096 ≤ p → m_c5 s r2 p := fun p hp => m_c5_trans (hout p hp) (hne p (by omega))
        have hpre0 : ∀ j z, KL[j]? = some z → m_cr r2 (4096 * t + j) z := fun j z hj => m_cr_c5 (hpre j z hj) (hne _ (by have := (List.getElem?_eq_some_iff.mp hj).1; omega))
        have I := ih (k + 1) r2 (by omega) (by omega) hf2
        cases u with
        | true =>
          rw [← hu, if_pos rfl, List.append_nil] at hex
          rw [hex] at I
          refine bX12_takesStamps_137 (fun z => absurd z (by decide)) (fun _ => bX12_takesStamps_143 (bX12_takesStamps_148 ?_))
          rw [nI_1, show (0 : Int32) = nI 0 from rfl, nI_add, Nat.add_zero]
          exact I hpre0 hsuf2 hout2
        | false =>
          rw [← hu, if_neg (by decide)] at hex
          rw [hex, List.length_append] at I
          refine bX12_takesStamps_137 (fun _ => bX12_takesStamps_147 (bX12_takesStamps_148 ?_)) (fun z => absurd rfl z)
          rw [nI_1, nI_1]
          refine I (fun j z hj => ?_) hsuf2 hout2
          by_cases e : j < KL.length
          · rw [List.getElem?_append_left e] at hj
            exact hpre0 j z hj
          · have e2 : j = KL.length := by
              have := (List.getElem?_eq_some_iff.mp hj).1
              simp at this; omega
            rw [e2] at hj ⊢
            simp at hj
            subst hj
            exact hrow2
      refine mX12_takesStamps_31 yf (fun c1 => ?_) (fun c1 => ?_)
      · rw [ef, hrow.1] at c1
        exact bX12_takesStamps_64 (cp false (by unfold sv_is; rw [decide_eq_false c1]; rfl))
      · rw [ef, hrow.1] at c1
        refine mX12_takesStamps_45 yf (by rw [ef, hrow.2.1]; exact m_stI (c_X12_numberOf ok hwc.2.2.2.2.1)) ?_
        rintro _ _ ⟨hr, rfl⟩
        rw [hr, show s_pl 2 = 2 from rfl]
        refine bX12_takesStamps_56 (fun c2 => bX12_takesStamps_64 (cp false (by unfold sv_is; rw [decide_eq_false c2, Bool.and_false]))) (fun c2 => bX12_takesStamps_60 (cp true (by unfold sv_is; rw [decide_eq_true c2, decide_eq_true c1]; rfl)))
  have I := loop1 _ 0 s rfl (Nat.zero_le _) (m_fr_refl _ _ _) (fun j y hj => by simp [sv_drop] at hj) (fun j y _ hj => (q3 j y hj).2) (fun p _ => ⟨rfl, rfl, rfl, rfl, rfl⟩)
  exact I
end MSV
