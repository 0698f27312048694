/-! THE CLASS KEEPS CHANGES: change, clear, offer -/
theorem m_ins_iff {c : Nat} {KM : List k_K2} {x : k_K2} : x ∈ m_ins c KM ↔ (x ∈ KM ∨ (r_at c KM = none ∧ x = (c, 0))) := by
  unfold m_ins
  cases h : r_at c KM with
  | some q => simp
  | none =>
    simp only [Option.isSome_none, Bool.false_eq_true, if_false, true_and]
    rw [List.mem_insertIdx (r_pl_le c KM)]
    exact or_comm
theorem V_ins {c n : Nat} {KM : List k_K2} {L : List k_E4} (s : KM.Pairwise (fun x y => x.1 < y.1)) (hin : r_in KM L) : m_V (m_ins c KM) n L = m_V KM n L := by
  unfold m_V
  cases h : r_at c KM with
  | some q => unfold m_ins; rw [h]; rfl
  | none =>
    have s2 : (m_ins c KM).Pairwise (fun x y => x.1 < y.1) := by
      unfold m_ins
      rw [h]
      exact ins_srt s h
    refine srt_ext (List.pairwise_map.mpr (s2.sublist List.filter_sublist)) (List.pairwise_map.mpr (s.sublist List.filter_sublist)) fun x => ?_
    rw [List.mem_map, List.mem_map]
    constructor
    · rintro ⟨y, hy, rfl⟩
      obtain ⟨hy1, hy2⟩ := List.mem_filter.mp hy
      rcases m_ins_iff.mp hy1 with h1 | ⟨-, rfl⟩
      · exact ⟨y, List.mem_filter.mpr ⟨h1, hy2⟩, rfl⟩
      · rw [r_val_none s hin h] at hy2; cases hy2
    · rintro ⟨y, hy, rfl⟩
      obtain ⟨hy1, hy2⟩ := List.mem_filter.mp hy
      exact ⟨y, List.mem_filter.mpr ⟨m_ins_iff.mpr (Or.inl hy1), hy2⟩, rfl⟩
theorem V_kp {M : s_M} {t : Nat} {y : k_CH} (s : (g_E M).1.Pairwise (fun x y => x.1 < y.1)) (hin : r_in (g_E M).1 (g_E M).2.1) : g_V (g_kp M t y) = g_V M := by
  show m_V (if m_ck y < 6 then m_ins y.2.2.1 (g_E M).1 else (g_E M).1) (g_n M) (g_E M).2.1 = m_V (g_E M).1 (g_n M) (g_E M).2.1
  split
  · exact V_ins s hin
  · rfl
theorem kind6 {k : Int32} (hk : k = 0 ∨ k = 1 ∨ k = 2 ∨ k = 3 ∨ k = 4 ∨ k = 5) : k < 6 ∧ ¬ k = 6 ∧ ¬ k = 7 := by
  rcases hk with e | e | e | e | e | e <;> rw [e] <;> decide
theorem kp_E6 {M : s_M} {t : Nat} {y : k_CH} (h : ¬ m_ck y < 6) : g_E (g_kp M t y) = g_E M := by
  show ((if m_ck y < 6 then m_ins y.2.2.1 (g_E M).1 else (g_E M).1), (g_E M).2) = g_E M
  rw [if_neg h]
section CCH
variable {G : k_G} {l : Launch}
theorem C_keep (ok : k_ok G l) {a t N w c : Nat} {B : Nat × Nat} {h : k_H} {M : s_M} {k v : Int32} (W : c_W a B h M N w) (ht : t < 4) (hb : (g_X M t).1.1 = true) (hk : k = 0 ∨ k = 1 ∨ k = 2 ∨ k = 3 ∨ k = 4 ∨ k = 5) (hc : c < 1331000000000) (hlim : e_lim (g_E M)) (hl : (g_X M t).2.1.length + w ≤ 13300) :
    k_ctv (tX11_keep G l) [vR (some a), vR (some (a + c_T t)), vI k, vJ (lN c), vI v] h (fun h' => c_W a B h' (g_kp M t (g_ser M + 1, k, c, c + 1, v, 0)) (N + 1) w) := by
  obtain ⟨Q, S, PS, s, r, p, co⟩ := W
  obtain ⟨r1, r2, r3, r4, r5, r6, r7⟩ := id r
  obtain ⟨f0, f1, f2, f3, f4, f5, o11⟩ := sE_obj s
  obtain ⟨n9, E9, Es, Ein⟩ := sE_n s
  obtain ⟨k6, k66, k7⟩ := kind6 hk
  refine k_ctv_of (eX11_keep ok.2 (bX11_keep_0 r3 rfl (k_is_o o11) (c_E_keyFor ok s hc hlim) ?_))
  rintro h1 _ ⟨q, S1, rfl, s1, hS, m1⟩
  have q1 := rs_sto r s m1
  have co1 := co_mo co m1
  obtain ⟨r11, -⟩ := id q1
  obtain ⟨kept, o1, -⟩ := tx_obj r11 ht
  refine bX11_keep_8 (k_is_o o1) (c_X_keepKey ok (k := k) (v := v) r11 ht hb k7 ⟨by show c < c + 1; omega, by show c + 1 ≤ _; omega, Or.inl (by show ¬ 1 < c + 1 - c; omega), fun z => absurd z k66, fun z => absurd z k66⟩ hl) ?_
  rintro h2 ⟨x2, m2⟩
  have ec : m_ck (g_ser M + 1, k, c, c + 1, v, 0) = k := m_ck_kc _ (fun z => k66 z.1)
  have eE : g_E (g_kp M t (g_ser M + 1, k, c, c + 1, v, 0)) = (m_ins c (g_E M).1, (g_E M).2) := by
    show ((if m_ck (g_ser M + 1, k, c, c + 1, v, 0) < 6 then m_ins c (g_E M).1 else (g_E M).1), (g_E M).2) = _
    rw [ec, if_pos k6]
  obtain ⟨s2, q2⟩ := rs_tx (M' := g_kp M t (g_ser M + 1, k, c, c + 1, v, 0)) s1 q1 ht m2 (by simp) x2 ⟨rfl, rfl, rfl, rfl, rfl, rfl⟩
  exact bX11_keep_17 ⟨rfl, Q, S1, PS, by rw [eE]; exact s2, q2, ⟨p.1, by rw [V_kp Es Ein]; exact p.2⟩, co_le (co_mo co1 m2) (by omega)⟩
/-- a stamped key, a range -/
theorem W_kept {a t o N w : Nat} {B : Nat × Nat} {h h' : k_H} {M : s_M} {y : k_CH} (W : c_W a B h M N w) (ht : t < 4) (h6 : ¬ m_ck y < 6) (m : k_mo a [] (c_At a t) o h h') (x : c_TX a h' (X_up (g_X M) t ((g_X M t).1, (g_X M t).2.1 ++ [y], (g_X M t).2.2)) (g_ser M + 1) w) : c_W a B h' (g_kp M t y) (N + o) w := by
  obtain ⟨Q, S, PS, s, r, p, co⟩ := W
  obtain ⟨n9, E9, Es, Ein⟩ := sE_n s
  obtain ⟨s2, q2⟩ := rs_tx (M' := g_kp M t y) s r ht m (by simp) x ⟨rfl, rfl, rfl, rfl, rfl, rfl⟩
  exact ⟨Q, S, PS, by rw [kp_E6 h6]; exact s2, q2, ⟨p.1, by rw [V_kp Es Ein]; exact p.2⟩, co_le (co_mo co m) (by omega)⟩
theorem C_keepStamped (ok : k_ok G l) {a t N w c : Nat} {B : Nat × Nat} {h : k_H} {M : s_M} {v p1 : Int32} (W : c_W a B h M N w) (ht : t < 4) (hb : (g_X M t).1.1 = true) (hc : c < 1331000000000) (hp : s_pl p1 = s_stp (m_ck (0, 6, c, c + 1, v, p1)) c) (h4 : c / 121000000 = 996 → c = s_cd (-4) 0 (s_no c 2)) (hl : (g_X M t).2.1.length + w ≤ 13300) :
    k_ctv (tX9_keepStamped G l) [vR (some (a + c_T t)), vJ (lN c), vI p1, vI v] h (fun h' => c_W a B h' (g_kp M t (g_ser M + 1, 6, c, c + 1, v, p1)) (N + 1) w) := by
  obtain ⟨Q, S, PS, s, r, p, co⟩ := id W
  obtain ⟨h', tr, x, m⟩ := c_X_keepStamped ok (v := v) (p := p1) r.1 ht hb ⟨by show c < c + 1; omega, by show c + 1 ≤ _; omega, Or.inl (by show ¬ 1 < c + 1 - c; omega), fun _ => hp, fun _ => h4⟩ hl
  refine ⟨h', tr, W_kept W ht ?_ m x⟩
  unfold m_ck
  show ¬ (if (6 : Int32) = 1 ∧ 1 < c + 1 - c then (7 : Int32) else if (6 : Int32) = 6 ∧ c / 121000000 = 996 then 8 else 6) < 6
  rw [if_neg (fun z => absurd z.1 (by decide))]
  split <;> decide
theorem C_keepRange (ok : k_ok G l) {a t N w c d : Nat} {B : Nat × Nat} {h : k_H} {M : s_M} (W : c_W a B h M N w) (ht : t < 4) (hb : (g_X M t).1.1 = true) (hcd : 1 < d - c) (hd : d ≤ 1331000000000) (hl : (g_X M t).2.1.length + w ≤ 13300) :
    k_ctv (tX9_keepRange G l) [vR (some (a + c_T t)), vJ (lN c), vJ (lN d)] h (fun h' => c_W a B h' (g_kp M t (g_ser M + 1, 1, c, d, 0, 0)) (N + 1) w) := by
  obtain ⟨Q, S, PS, s, r, p, co⟩ := id W
  obtain ⟨h', tr, x, m⟩ := c_X_keepRange ok r.1 ht hb ⟨by show c < d; omega, hd, Or.inr rfl, fun z => absurd z (show ¬ (1 : Int32) = 6 by decide), fun z => absurd z (show ¬ (1 : Int32) = 6 by decide)⟩ hl
  refine ⟨h', tr, W_kept W ht ?_ m x⟩
  unfold m_ck
  rw [if_pos ⟨rfl, hcd⟩]
  decide
/-- how many changes are told -/
theorem W_told {a t N w : Nat} {B : Nat × Nat} {h : k_H} {M : s_M} {y : k_CH} (W : c_W a B h (g_kp M t y) N w) (ht : t < 4) (hb : (g_X M t).1.1 = true) : ∃ fs, h.1 (a + c_T t) = some (k_o 12 fs) ∧ fs[7]? = some (vI (nI ((g_X M t).2.1.length + 1))) := by
  obtain ⟨Q, S, PS, s, r, p, co⟩ := W
  obtain ⟨kept, o, hk⟩ := tx_obj r.1 ht
  have hX : g_X (g_kp M t y) t = ((g_X M t).1, (g_X M t).2.1 ++ [y], (g_X M t).2.2) := by
    show (if t = t then _ else _) = _
    rw [if_pos rfl]
  rw [hX] at hk o
  have := hk hb
  rw [List.length_append, List.length_singleton] at this
  exact ⟨_, o, by rw [← this]; rfl⟩
theorem g_shutF {M : s_M} {t : Nat} (h : g_shut M t = false) : (g_X M t).1.1 = true ∧ (g_X M t).2.1.length < 12 := by
  unfold g_shut at h
  rw [Bool.or_eq_false_iff] at h
  exact ⟨by simpa using h.1, by have := h.2; simp at this; omega⟩
theorem C_change (ok : k_ok G l) {a N w : Nat} {B : Nat × Nat} {h : k_H} {M : s_M} {x k a1 b1 c1 v : Int32} (W : c_W a B h M N w) (hlim : e_lim (g_E M)) (hw : w ≤ 13000) (hl9 : ∀ t, t < 4 → (g_X M t).2.1.length < 2 ^ 20) :
    k_ct (tX11_change G l) [vR (some a), vI x, vI k, vI a1, vI b1, vI c1, vI v] h (c_R a B (F_change M x k a1 b1 c1 v) x_3 (N + 1) w) := by
  obtain ⟨Q, S, PS, s, r, p, co⟩ := id W
  obtain ⟨r1, r2, r3, r4, r5, r6, r7⟩ := id r
  refine eX11_change ok.2 ?_
  cases hin : s_inB x 0 3 with
  | false =>
    refine bX11_change_0x (k_is_o r3) (c_trAtX ok r3 r4 hin) ?_
    rintro _ rfl
    exact R_x (k := 1) W (by unfold F_change; rw [if_pos hin]) (by decide)
  | true =>
    obtain ⟨t, ht, rfl, e9⟩ := s_in4 hin
    have e9 : t_of (nI t) = t := e9
    refine bX11_change_0 (k_is_o r3) (c_trAt ok r3 r4 r1 ht) ?_
    rintro _ _ ⟨hh, rfl⟩
    rw [hh]
    have F2 : (s_inB k 0 6 && (decide (k = 1) || decide (k = 5) || s_inB v (-1000000) 1000000) && s_keyB a1 b1 c1 && !s_inB a1 (-7) (-1)) = false → F_change M (nI t) k a1 b1 c1 v = (M, 2, 0) := fun hc => by
      unfold F_change; rw [if_neg (by rw [hin]; decide), if_pos hc]
    have bad17 : s_inB k 0 6 = false → k_X (jX11_change G l h) h 17 [] [] (c_R a B (F_change M (nI t) k a1 b1 c1 v) x_3 (N + 1) w) := fun hc =>
      bX11_change_17 (R_x (k := 2) W (F2 (by rw [hc]; rfl)) (by decide))
    refine bX11_change_5 (fun c => bad17 ?_) (fun c2 => bX11_change_11 (fun c3 => ?_) (fun c => bad17 ?_))
    · unfold s_inB; rw [decide_eq_false (by simpa using c), Bool.false_and]
    · have hk6 : s_inB k 0 6 = true := by unfold s_inB; rw [decide_eq_true c2, decide_eq_true (Int32.not_lt.mpr c3)]; rfl
      have rest : (decide (k = 1) || decide (k = 5) || s_inB v (-1000000) 1000000) = true → k_X (jX11_change G l h) h 61 [(0, vR (some a)), (2, vI k), (3, vI a1), (4, vI b1), (5, vI c1), (6, vI v), (7, vR (some (a + c_T t)))] [] (c_R a B (F_change M (nI t) k a1 b1 c1 v) x_3 (N + 1) w) := by
        intro hv
        cases hk : s_keyB a1 b1 c1 with
        | false =>
          refine bX11_change_61x (x_X11_requireKey ok hk) ?_
          rintro _ rfl
          exact R_x (k := 2) W (F2 (by rw [hk, Bool.and_false, Bool.false_and])) (by decide)
        | true =>
          refine bX11_change_61 (c_X11_requireKey ok hk) ?_
          rintro _ hh
          rw [hh]
          obtain ⟨na, nb, nc⟩ := s_keyB_na hk
          have hcd := s_cd_lt na nb nc
          cases hla : s_inB a1 (-7) (-1) with
          | true =>
            refine bX11_change_69x (x_X11_requireAboveLayers ok (fun z => z ?_)) ?_
            · unfold s_inB at hla
              simp only [Bool.and_eq_true, decide_eq_true_eq, Int32.not_lt] at hla
              exact hla
            rintro _ rfl
            exact R_x (k := 2) W (F2 (by rw [hla, Bool.not_true, Bool.and_false])) (by decide)
          | false =>
            refine bX11_change_69 (c_X11_requireAboveLayers ok (fun z => ?_)) ?_
            · unfold s_inB at hla
              rw [decide_eq_true (Int32.not_lt.mpr z.1), decide_eq_true (Int32.not_lt.mpr z.2)] at hla
              cases hla
            rintro _ hh
            rw [hh]
            have hall : ¬ (s_inB k 0 6 && (decide (k = 1) || decide (k = 5) || s_inB v (-1000000) 1000000) && s_keyB a1 b1 c1 && !s_inB a1 (-7) (-1)) = false := by
              rw [hk6, hv, hk, hla]; decide
            cases hsh : g_shut M t with
            | true =>
              refine bX11_change_73x (c_roomX ok r1 ht (hl9 t ht) hsh) ?_
              rintro _ rfl
              exact R_x (k := 3) W (by unfold F_change; rw [if_neg (by rw [hin]; decide), if_neg hall, e9, if_pos hsh]) (by decide)
            | false =>
              obtain ⟨hb, hl⟩ := g_shutF hsh
              have hF : F_change M (nI t) k a1 b1 c1 v = (g_kp M t (g_ser M + 1, k, s_cd a1 b1 c1, s_cd a1 b1 c1 + 1, v, if k = 6 then s_last b1 c1 else 0), 0, nI ((g_X M t).2.1.length + 1)) := by
                unfold F_change; rw [if_neg (by rw [hin]; decide), if_neg hall, e9, if_neg (by rw [hsh]; decide)]
              refine bX11_change_73 (c_room ok r1 ht hb hl) ?_
              rintro _ hh
              rw [hh]
              obtain ⟨kept, o12, -⟩ := tx_obj r1 ht
              refine bX11_change_78 (c_X11_codeOf ok na nb nc) ?_
              rintro _ _ ⟨hh, rfl⟩
              rw [hh]
              refine bX11_change_86 (fun c6 => ?_) (fun c6 => ?_)
              · have hk5 : k = 0 ∨ k = 1 ∨ k = 2 ∨ k = 3 ∨ k = 4 ∨ k = 5 := by
                  rcases s_in6 hk6 with e | e | e | e | e | e | e
                  · exact Or.inl e
                  · exact Or.inr (Or.inl e)
                  · exact Or.inr (Or.inr (Or.inl e))
                  · exact Or.inr (Or.inr (Or.inr (Or.inl e)))
                  · exact Or.inr (Or.inr (Or.inr (Or.inr (Or.inl e))))
                  · exact Or.inr (Or.inr (Or.inr (Or.inr (Or.inr e))))
                  · exact absurd e c6
                rw [if_neg c6] at hF
                refine bX11_change_113 (k_is_o r3) (C_keep ok W ht hb hk5 hcd hlim (by omega)) ?_
                rintro h2 W2
                obtain ⟨fs, o2, g2⟩ := W_told W2 ht hb
                exact bX11_change_124 o2 g2 (R_ok W2 hF)
              · rw [if_pos c6] at hF
                refine bX11_change_94 (c_X11_lastPlace ok) ?_
                rintro _ _ ⟨hh, rfl⟩
                rw [hh]
                have hn4 := s_lay na nb nc hla
                refine bX11_change_105 (k_is_o o12) (C_keepStamped ok W ht hb hcd ?_ (fun z => absurd z hn4) (by omega)) ?_
                · rw [m_ck_kc _ (fun z => hn4 z.2)]
                  unfold s_stp s_last
                  rw [if_neg (show ¬ (6 : Int32) = 8 by decide), s_no_1 na nb nc, s_no_2 na nb nc]
                  by_cases hb1 : b1 = 10000
                  · rw [if_pos hb1, if_pos hb1]; rfl
                  · rw [if_neg hb1, if_neg hb1]
                    by_cases hc1 : c1 = 10000
                    · rw [if_pos hc1, if_pos hc1]; rfl
                    · rw [if_neg hc1, if_neg hc1]; rfl
                rintro h2 W2
                rw [c6] at hF
                obtain ⟨fs, o2, g2⟩ := W_told W2 ht hb
                refine bX11_change_110 (bX11_change_124 o2 g2 ?_)
                rw [c6]
                exact R_ok W2 hF
      refine bX11_change_27 (fun c => rest ?_) (fun c4 => bX11_change_32 (fun c => rest ?_) (fun c5 => ?_))
      · rw [decide_eq_true c]; rfl
      · rw [decide_eq_true c, Bool.or_true, Bool.true_or]
      · have bad51 : s_inB v (-1000000) 1000000 = false → k_X (jX11_change G l h) h 51 [] [] (c_R a B (F_change M (nI t) k a1 b1 c1 v) x_3 (N + 1) w) := fun hc =>
          bX11_change_51 (R_x (k := 2) W (F2 (by rw [hc, decide_eq_false c4, decide_eq_false c5, Bool.or_false, Bool.or_false, Bool.and_false, Bool.false_and, Bool.false_and])) (by decide))
        refine bX11_change_37 (fun c => bad51 ?_) (fun c6 => bX11_change_44 (fun c => rest ?_) (fun c => bad51 ?_))
        · unfold s_inB; rw [decide_eq_false (by simpa using c), Bool.false_and]
        · have : s_inB v (-1000000) 1000000 = true := by unfold s_inB; rw [decide_eq_true c6, decide_eq_true (Int32.not_lt.mpr c)]; rfl
          rw [this, Bool.or_true]
        · unfold s_inB; rw [decide_eq_false (show ¬ ¬ (1000000 : Int32) < v from fun z => c (Int32.not_lt.mp z)), Bool.and_false]
    · unfold s_inB; rw [decide_eq_false (show ¬ ¬ (6 : Int32) < k from fun z => c (Int32.not_lt.mp z)), Bool.and_false]
theorem C_clear (ok : k_ok G l) {a N w : Nat} {B : Nat × Nat} {h : k_H} {M : s_M} {x a1 b1 : Int32} (W : c_W a B h M N w) (hw : w ≤ 13000) (hl9 : ∀ t, t < 4 → (g_X M t).2.1.length < 2 ^ 20) :
    k_ct (tX11_clear G l) [vR (some a), vI x, vI a1, vI b1] h (c_R a B (F_clear M x a1 b1) x_3 (N + 1) w) := by
  obtain ⟨Q, S, PS, s, r, p, co⟩ := id W
  obtain ⟨r1, r2, r3, r4, r5, r6, r7⟩ := id r
  refine eX11_clear ok.2 ?_
  cases hin : s_inB x 0 3 with
  | false =>
    refine bX11_clear_0x (k_is_o r3) (c_trAtX ok r3 r4 hin) ?_
    rintro _ rfl
    exact R_x (k := 1) W (by unfold F_clear; rw [if_pos hin]) (by decide)
  | true =>
    obtain ⟨t, ht, rfl, e9⟩ := s_in4 hin
    have e9 : t_of (nI t) = t := e9
    refine bX11_clear_0 (k_is_o r3) (c_trAt ok r3 r4 r1 ht) ?_
    rintro _ _ ⟨hh, rfl⟩
    rw [hh]
    have F2 : (s_rngB a1 b1 && !(decide (a1 = 10000)) && !s_inB a1 (-7) (-1)) = false → F_clear M (nI t) a1 b1 = (M, 2, 0) := fun hc => by
      unfold F_clear; rw [if_neg (by rw [hin]; decide), if_pos hc]
    cases hk : s_rngB a1 b1 with
    | false =>
      refine bX11_clear_5x (x_X11_requireRange ok hk) ?_
      rintro _ rfl
      exact R_x (k := 2) W (F2 (by rw [hk]; rfl)) (by decide)
    | true =>
      refine bX11_clear_5 (c_X11_requireRange ok hk) ?_
      rintro _ hh
      rw [hh]
      refine bX11_clear_12 (fun c0 => ?_) (fun c0 => bX11_clear_19 (R_x (k := 2) W (F2 (by rw [decide_eq_true c0, Bool.not_true, Bool.and_false, Bool.false_and])) (by decide)))
      obtain ⟨na, nb⟩ := s_rngB_na hk
      obtain ⟨hl1, hl2, hl3, hl4⟩ := s_hi_la na nb
      cases hla : s_inB a1 (-7) (-1) with
      | true =>
        refine bX11_clear_29x (x_X11_requireAboveLayers ok (fun z => z ?_)) ?_
        · unfold s_inB at hla
          simp only [Bool.and_eq_true, decide_eq_true_eq, Int32.not_lt] at hla
          exact hla
        rintro _ rfl
        exact R_x (k := 2) W (F2 (by rw [hla, Bool.not_true, Bool.and_false])) (by decide)
      | false =>
        refine bX11_clear_29 (c_X11_requireAboveLayers ok (fun z => ?_)) ?_
        · unfold s_inB at hla
          rw [decide_eq_true (Int32.not_lt.mpr z.1), decide_eq_true (Int32.not_lt.mpr z.2)] at hla
          cases hla
        rintro _ hh
        rw [hh]
        have hall : ¬ (s_rngB a1 b1 && !(decide (a1 = 10000)) && !s_inB a1 (-7) (-1)) = false := by
          rw [hk, hla, decide_eq_false c0]; decide
        cases hsh : g_shut M t with
        | true =>
          refine bX11_clear_33x (c_roomX ok r1 ht (hl9 t ht) hsh) ?_
          rintro _ rfl
          exact R_x (k := 3) W (by unfold F_clear; rw [if_neg (by rw [hin]; decide), if_neg hall, e9, if_pos hsh]) (by decide)
        | false =>
          obtain ⟨hb, hl⟩ := g_shutF hsh
          have ehi : s_la a1 b1 + 1 = s_hi a1 b1 ∧ 1 < s_hi a1 b1 - s_lo a1 b1 := by
            unfold s_la s_hi s_lo
            rw [if_neg c0, if_neg c0, if_neg c0]
            split <;> omega
          have hF : F_clear M (nI t) a1 b1 = (g_kp M t (g_ser M + 1, 1, s_lo a1 b1, s_hi a1 b1, 0, 0), 0, nI ((g_X M t).2.1.length + 1)) := by
            unfold F_clear; rw [if_neg (by rw [hin]; decide), if_neg hall, e9, if_neg (by rw [hsh]; decide), ehi.1]
          refine bX11_clear_33 (c_room ok r1 ht hb hl) ?_
          rintro _ hh
          rw [hh]
          obtain ⟨kept, o12, -⟩ := tx_obj r1 ht
          refine bX11_clear_38 (c_X11_lowOf ok na nb) ?_
          rintro _ _ ⟨hh, rfl⟩
          rw [hh]
          refine bX11_clear_45 (c_X11_highOf ok na nb) ?_
          rintro _ _ ⟨hh, rfl⟩
          rw [hh]
          refine bX11_clear_50 (k_is_o o12) (C_keepRange ok W ht hb ehi.2 hl2 (by omega)) ?_
          rintro h2 W2
          obtain ⟨fs, o2, g2⟩ := W_told W2 ht hb
          exact bX11_clear_53 o2 g2 (R_ok W2 hF)
theorem C_offer (ok : k_ok G l) {a N w : Nat} {B : Nat × Nat} {h : k_H} {M : s_M} {x v : Int32} (W : c_W a B h M N w) (hw : w ≤ 13000) (hl9 : ∀ t, t < 4 → (g_X M t).2.1.length < 2 ^ 20) :
    k_ct (tX11_offer G l) [vR (some a), vI x, vI v] h (c_R a B (F_offer M x v) x_3 (N + 1) w) := by
  obtain ⟨Q, S, PS, s, r, p, co⟩ := id W
  obtain ⟨r1, r2, r3, r4, r5, r6, r7⟩ := id r
  refine eX11_offer ok.2 ?_
  cases hin : s_inB x 0 3 with
  | false =>
    refine bX11_offer_0x (k_is_o r3) (c_trAtX ok r3 r4 hin) ?_
    rintro _ rfl
    exact R_x (k := 1) W (by unfold F_offer; rw [if_pos hin]) (by decide)
  | true =>
    obtain ⟨t, ht, rfl, e9⟩ := s_in4 hin
    have e9 : t_of (nI t) = t := e9
    refine bX11_offer_0 (k_is_o r3) (c_trAt ok r3 r4 r1 ht) ?_
    rintro _ _ ⟨hh, rfl⟩
    rw [hh]
    have bad : s_inB v 0 1000000 = false → k_X (jX11_offer G l h) h 16 [] [] (c_R a B (F_offer M (nI t) v) x_3 (N + 1) w) := fun hc =>
      bX11_offer_16 (R_x (k := 2) W (by unfold F_offer; rw [if_neg (by rw [hin]; decide), if_pos hc]) (by decide))
    refine bX11_offer_5 (fun c => bad ?_) (fun c2 => bX11_offer_10 (fun c3 => ?_) (fun c => bad ?_))
    · unfold s_inB; rw [decide_eq_false (by simpa using c), Bool.false_and]
    · have hv : s_inB v 0 1000000 = true := by unfold s_inB; rw [decide_eq_true c2, decide_eq_true (Int32.not_lt.mpr c3)]; rfl
      cases hsh : g_shut M t with
      | true =>
        refine bX11_offer_26x (c_roomX ok r1 ht (hl9 t ht) hsh) ?_
        rintro _ rfl
        exact R_x (k := 3) W (by unfold F_offer; rw [if_neg (by rw [hin]; decide), if_neg (by rw [hv]; decide), e9, if_pos hsh]) (by decide)
      | false =>
        obtain ⟨hb, hl⟩ := g_shutF hsh
        have hF : F_offer M (nI t) v = (g_kp M t (g_ser M + 1, 6, s_cd (-5) 0 10000, s_cd (-5) 0 10000 + 1, v, 1), 0, nI ((g_X M t).2.1.length + 1)) := by
          unfold F_offer; rw [if_neg (by rw [hin]; decide), if_neg (by rw [hv]; decide), e9, if_neg (by rw [hsh]; decide)]
        refine bX11_offer_26 (c_room ok r1 ht hb hl) ?_
        rintro _ hh
        rw [hh]
        obtain ⟨kept, o12, -⟩ := tx_obj r1 ht
        have n5 : s_na (-5) := Or.inr (by unfold s_nm; decide)
        have n0 : s_na 0 := Or.inr (by unfold s_nm; decide)
        refine bX11_offer_30 (c_X11_codeOf_ ok n5 n0) ?_
        rintro _ _ ⟨hh, rfl⟩
        rw [hh]
        have ec : s_cd (-5) 0 10000 = 120406000000 := by decide
        refine bX11_offer_37 (k_is_o o12) (C_keepStamped ok W ht hb (by rw [ec]; decide) (by rw [ec, m_ck_kc _ (fun z => absurd z.2 (show ¬ 120406000000 / 121000000 = 996 by decide))]; decide) (by rw [ec]; intro z; exact absurd z (by decide)) (by omega)) ?_
        rintro h2 W2
        obtain ⟨fs, o2, g2⟩ := W_told W2 ht hb
        exact bX11_offer_42 o2 g2 (R_ok W2 hF)
    · unfold s_inB; rw [decide_eq_false (show ¬ ¬ (1000000 : Int32) < v from fun z => c (Int32.not_lt.mp z)), Bool.and_false]
end CCH
