/-! .. and its end -/
section AI2
variable {G : k_G} {l : Launch} {a i q : Nat} {A : lp_A} {M : s_M} {H : k_H}
theorem q_begin3 (ok : k_ok G l) (g0 : k_fh G = 0) (W : lp_W a A i q M H) (hi : i < 512) : k_cti (tX11_begin G l) [vR (some a), vI 3, vI 0] H (fun H' u => lp_W a A (i + 1) q (m_3 M []) H' ∧ u = nI (g_n M)) := by
  have c := lp_cti (lA_begin ok g0 (x := 3) (once := false) W hi) (by rw [m3_begin])
  rw [m3_begin] at c
  exact c
theorem q_range3 (ok : k_ok G l) (g0 : k_fh G = 0) {r : List (Nat × Nat × Nat)} (W : lp_W a A i q (m_3 M r) H) (hi : i < 512) {x y : Int32} (h : s_rngB x y = true) {lo hi9 : Nat} (e1 : s_lo x y = lo) (e2 : s_la x y + 1 = hi9) : k_cti (tX11_range G l) [vR (some a), vI 3, vI x, vI y, vI 0] H (fun H' u => lp_W a A i (q + 1) (m_3 M r) H' ∧ u = nI (r_flt lo hi9 (fun c => (g_U M (g_n M) c).isSome) (g_E M).1).length) := by
  have c := lp_cti (lA_rangeF ok g0 (x := 3) (a1 := x) (b1 := y) W hi) (by rw [m3_range M r h])
  rw [m3_range M r h, e1, e2] at c
  exact c
theorem q_rangeAt3 (ok : k_ok G l) (g0 : k_fh G = 0) {r : List (Nat × Nat × Nat)} (W : lp_W a A i q (m_3 M r) H) (hi : i < 512) (hr : r.length + 1 ≤ 4 * i) {x y w : Int32} {p : Nat} (h : s_rngB x y = true) (hp : p < 2 ^ 20) (hw : s_inB w 0 2 = true) {lo hi9 : Nat} (e1 : s_lo x y = lo) (e2 : s_la x y + 1 = hi9) : k_cti (tX11_rangeAt G l) [vR (some a), vI 3, vI x, vI y, vI (nI p), vI w] H (fun H' u => (∃ r', r'.length = r.length + 1 ∧ lp_W a A i (q + 1) (m_3 M r') H') ∧ u = match (r_flt lo hi9 (fun c => (g_U M (g_n M) c).isSome) (g_E M).1)[p]? with | some y => s_no y.1 (s_pl w) | none => -2147483648) := by
  have e := m3_rangeAt M r (p := nI p) h (nI_pos (by omega)) hw
  have c := lp_cti (lA_rangeAt3 ok g0 (a1 := x) (b1 := y) (p1 := nI p) (w1 := w) W hi (by rw [m3_X]; exact hr)) (by rw [e])
  rw [e, e1, e2, show (nI p).toInt.toNat = p from by rw [nI_toInt (by omega)]; rfl] at c
  obtain ⟨H', u, t, W', hu⟩ := c
  exact ⟨H', u, t, ⟨_, by rw [List.length_append]; rfl, W'⟩, hu⟩
theorem r_m1 : s_rngB (-1) 10000 = true ∧ s_lo (-1) 10000 = 120879000000 ∧ s_la (-1) 10000 + 1 = 121000000000 := by decide +kernel
theorem r_m2 : s_rngB (-2) 10000 = true ∧ s_lo (-2) 10000 = 120758000000 ∧ s_la (-2) 10000 + 1 = 120879000000 := by decide +kernel
theorem r_m4 : s_rngB (-4) 10000 = true ∧ s_lo (-4) 10000 = 120516000000 ∧ s_la (-4) 10000 + 1 = 120637000000 := by decide +kernel
/-- the loop over the keys by versions -/
theorem ai_loop2 (ok : k_ok G l) (g0 : k_fh G = 0) (hi : i < 512) (h8 : 30 ≤ 4 * i) (n9 : g_n M < 9000) (W0 : j_W (g_n M) (g_U M (g_n M))) {N : Nat} (hN : (r_flt 120516000000 120637000000 (fun c => (g_U M (g_n M) c).isSome) (g_E M).1).length = N) (hN12 : N ≤ 12) {h0 : k_H} {Q : k_H → k_R → Prop} {f b1 : Int32}
    (K : ∀ H1 q1 r, q1 ≤ q + 4 * 12 → r.length ≤ 24 → lp_W a A i q1 (m_3 M r) H1 → k_X (jL_areIndexed G l h0) H1 380 [(0, vR (some a)), (2, vI f), (5, vI b1), (10, vI 1)] [] Q) :
    ∀ (d s q1 : Nat) (r : List (Nat × Nat × Nat)) (H1 : k_H), s + d = N → q1 ≤ q + 4 * s → r.length = 2 * s → lp_W a A i q1 (m_3 M r) H1 → k_X (jL_areIndexed G l h0) H1 273 [(0, vR (some a)), (1, vI (nI (g_n M))), (2, vI f), (3, vI 1), (5, vI b1), (9, vI (nI N)), (10, vI 1), (11, vI (nI s))] [] Q := by
  intro d
  induction d with
  | zero =>
    intro s q1 r H1 hs hq hr W
    exact bL_areIndexed_273 (fun _ => K H1 q1 r (by omega) (by omega) W) (fun c => absurd ((nI_leI (by omega) (by omega)).mpr (by omega)) c)
  | succ d ih =>
    intro s q1 r H1 hs hq hr W
    refine bL_areIndexed_273 (fun c => absurd ((nI_leI (by omega) (by omega)).mp c) (by omega)) (fun _ => bL_areIndexed_280 (fun c => absurd c (by decide)) (fun _ => bL_areIndexed_285 (fun c => absurd c (by decide)) (fun _ => ?_)))
    have hget : (r_flt 120516000000 120637000000 (fun c => (g_U M (g_n M) c).isSome) (g_E M).1)[s]? = some (r_flt 120516000000 120637000000 (fun c => (g_U M (g_n M) c).isSome) (g_E M).1)[s] := List.getElem?_eq_getElem (by omega)
    generalize (r_flt 120516000000 120637000000 (fun c => (g_U M (g_n M) c).isSome) (g_E M).1)[s] = y at hget
    have hy := List.mem_of_getElem? hget
    unfold r_flt at hy
    rw [List.mem_filter, Bool.and_eq_true, Bool.and_eq_true, decide_eq_true_eq, decide_eq_true_eq] at hy
    obtain ⟨v, hv⟩ := Option.isSome_iff_exists.mp hy.2.2
    obtain ⟨u, k, u1, u2, u3, u4, u5, u6⟩ := W0.1 _ v hy.2.1.1 hy.2.1.2 hv
    have na0 : s_na (-4) := s_na_m4
    have no1 : s_no y.1 1 = nI u := by rw [u4, ← wW_eq (by omega) (by omega)]; exact s_no_1 na0 (na_100 (by omega)) (na_100 (by omega))
    have no2 : s_no y.1 2 = nI k := by rw [u4, ← wW_eq (by omega) (by omega)]; exact s_no_2 na0 (na_100 (by omega)) (na_100 (by omega))
    refine bL_areIndexed_289 (lp_is W) (q_rangeAt3 ok g0 W hi (by omega) r_m4.1 (by omega) (by decide) r_m4.2.1 r_m4.2.2) ?_
    rintro H2 _ ⟨⟨r2, hr2, W2⟩, rfl⟩
    rw [hget]
    refine bL_areIndexed_302 (lp_is W2) (q_rangeAt3 ok g0 W2 hi (by omega) r_m4.1 (by omega) (by decide) r_m4.2.1 r_m4.2.2) ?_
    rintro H3 _ ⟨⟨r3, hr3, W3⟩, rfl⟩
    rw [hget]
    show k_X (jL_areIndexed G l h0) H3 317 [(0, vR (some a)), (1, vI (nI (g_n M))), (2, vI f), (3, vI 1), (5, vI b1), (9, vI (nI N)), (11, vI (nI s)), (12, vI (s_no y.1 1))] [vI (s_no y.1 2)] Q
    rw [no1, no2]
    refine bL_areIndexed_317 (fun c => absurd ((nI_leI (b := 0) (by omega) (by omega)).mp c) (by omega)) (fun _ => bL_areIndexed_324 (fun c => absurd ((nI_ltI (by omega) (by omega)).mp c) (by omega)) (fun _ => bL_areIndexed_330 (fun c => absurd c (nI_pos (by omega))) (fun _ => bL_areIndexed_335 (fun c => absurd ((nI_leI (a := 12) (by omega) (by omega)).mp c) (by omega)) (fun _ => ?_))))
    refine bL_areIndexed_342 (lp_is W3) (q_val ok g0 W3 hi (Nat.le_refl (g_n M)) (key_4 (by omega) (by omega)).1 (key_4 (by omega) (by omega)).2) ?_
    rintro H4 _ ⟨W4, rfl⟩
    refine bL_areIndexed_353 (lp_is W4) (q_val ok g0 W4 hi (Nat.le_refl (g_n M)) (key_1 (by omega)).1 (key_1 (by omega)).2) ?_
    rintro H5 _ ⟨W5, rfl⟩
    have eq : o_told (g_U (m_3 M r3) (g_n M) (wW u k)) = o_told (g_U (m_3 M r3) (g_n M) (wR k)) := by
      show o_told (g_U M (g_n M) (wW u k)) = o_told (g_U M (g_n M) (wR k))
      rw [← u4, hv, u5]
    refine bL_areIndexed_364 (fun c => absurd eq c) (fun _ => bL_areIndexed_367 (bL_areIndexed_372 ?_))
    rw [show nI s + 1 = nI (s + 1) from nI_add s 1]
    exact ih (s + 1) _ r3 H5 (by omega) (by omega) (by omega) W5
/-- areIndexed answers 1 -/
theorem t_areIndexed (ok : k_ok G l) (g0 : k_fh G = 0) {wf : Prop} (W : lp_W a A i q M H) (hi : i + 1 < 512) (h8 : 30 ≤ 4 * i) (J : J_I wf M) {f : Nat} (hf : f < 100) {sure : Bool} (hs : sure = true → wf) :
    k_cti (tL_areIndexed G l) [vR (some a), vI (nI (g_n M)), vI (nI f), vI (kB sure)] H (fun H' v => (∃ r, lp_W a A (i + 1) (q + 100) (m_3 M r) H') ∧ v = 1) := by
  have e := lp_e W (by omega)
  have n9 := e.2.2.1
  have A0 := (J.1 _ (Nat.le_refl _)).1
  have inK : ∀ c, (g_U M (g_n M) c).isSome = true → ∃ k, (c, k) ∈ (g_E M).1 := fun c hc => val_in e.1.2.1 hc
  have P3 : ∀ H1 q1 r, q1 ≤ q + 98 → lp_W a A (i + 1) q1 (m_3 M r) H1 → k_X (jL_areIndexed G l H) H1 380 [(0, vR (some a)), (2, vI (nI f)), (5, vI (i_b M 1)), (10, vI 1)] [] (q_i (fun H' v => (∃ r, lp_W a A (i + 1) (q + 100) (m_3 M r) H') ∧ v = 1)) := by
    intro H1 q1 r hq W1
    have rank : (∀ k, k < 12 → j_g (g_U M (g_n M)) 1 k = true) → k_X (jL_areIndexed G l H) H1 400 [(0, vR (some a)), (2, vI (nI f))] [] (q_i (fun H' v => (∃ r, lp_W a A (i + 1) (q + 100) (m_3 M r) H') ∧ v = 1)) := by
      intro hon
      have inF : s_inB (nI f) 0 99 = true := by
        unfold s_inB
        rw [decide_eq_true (nI_pos (by omega)), decide_eq_true (show ¬ (99 : Int32) < nI f from fun z => by have := (nI_ltI (a := 99) (by omega) (by omega)).mp z; omega)]
        rfl
      have e1 : F_rank (m_3 M r) (nI f) = (m_3 M r, 0, rk_sum (m_3 M r) (nI f) false) := by unfold F_rank F_ranked; rw [if_neg (by rw [inF]; decide)]
      have e2 : F_rankAnew (m_3 M r) (nI f) = (m_3 M r, 0, rk_sum (m_3 M r) (nI f) true) := by unfold F_rankAnew F_ranked; rw [if_neg (by rw [inF]; decide)]
      have c1 := lp_cti (lA_rank ok g0 (x := nI f) W1 hi) (by rw [e1])
      refine bL_areIndexed_400 (lp_is W1) c1 ?_
      rintro H2 _ ⟨W2, rfl⟩
      have c2 := lp_cti (lA_rankAnew ok g0 (x := nI f) W2 hi) (by rw [e2])
      refine bL_areIndexed_405 (lp_is W2) c2 ?_
      rintro H3 _ ⟨W3, rfl⟩
      rw [e1, e2]
      refine bL_areIndexed_410 (fun c => absurd ?_ c) (fun _ => bL_areIndexed_413 (bL_areIndexed_418 (Or.inr rfl) ⟨1, rfl, ⟨r, lp_mono W3 (by omega)⟩, rfl⟩))
      exact rank_eq (M := m_3 M r) A0 hf hon
    refine bL_areIndexed_380 (fun c => absurd c (by decide)) (fun _ => bL_areIndexed_385 (fun c => rank (fun k hk => ?_)) (fun _ => bL_areIndexed_392 (fun _ => bL_areIndexed_413 (bL_areIndexed_418 (Or.inr rfl) ⟨1, rfl, ⟨r, lp_mono W1 (by omega)⟩, rfl⟩)) (fun c => rank (fun k hk => ?_))))
    · rw [i_bg, c]
      unfold s_goes
      rw [decide_eq_true rfl]; rfl
    · rw [i_bg, c, show (1000 : Int32) = nI 1000 from rfl, goes_nI (by omega) (by omega)]
      exact decide_eq_true (by omega)
  refine k_cti_of (eL_areIndexed ok.2 (bL_areIndexed_0 (lp_is W) (q_val ok g0 W (by omega) (Nat.le_refl _) (c := wS 0) (by decide) (wS_eq (x := 0) (by omega))) ?_))
  rintro H1 _ ⟨W1, rfl⟩
  refine bL_areIndexed_11 (lp_is W1) (q_val ok g0 W1 (by omega) (Nat.le_refl _) (c := wS 1) (by decide) (wS_eq (x := 1) (by omega))) ?_
  rintro H2 _ ⟨W2, rfl⟩
  refine bL_areIndexed_24 (lp_is W2) (q_val ok g0 W2 (by omega) (Nat.le_refl _) (c := wS 2) (by decide) (wS_eq (x := 2) (by omega))) ?_
  rintro H3 _ ⟨W3, rfl⟩
  refine bL_areIndexed_37 (ai_loop (q := q + 3) ok g0 (by omega) A0 ?_ 12 0 (q + 1 + 1 + 1) H3 rfl (Nat.le_refl _) W3)
  intro H4 q4 hq4 W4
  refine bL_areIndexed_205 (lp_is W4) (q_begin3 ok g0 W4 (by omega)) ?_
  rintro H5 _ ⟨W5, rfl⟩
  refine bL_areIndexed_211 (lp_is W5) (q_range3 ok g0 W5 hi r_m1.1 r_m1.2.1 r_m1.2.2) ?_
  rintro H6 _ ⟨W6, rfl⟩
  rw [cnt_R A0 e.1.1 inK]
  refine bL_areIndexed_222 (fun c => absurd rfl c) (fun _ => bL_areIndexed_227 (lp_is W6) (q_range3 ok g0 W6 hi r_m2.1 r_m2.2.1 r_m2.2.2) ?_)
  rintro H7 _ ⟨W7, rfl⟩
  rw [cnt_F A0 e.1.1 inK]
  refine bL_areIndexed_238 (fun c => absurd rfl c) (fun _ => ?_)
  have h12 : (List.range 12).countP (fun k => i_has (g_U M (g_n M)) k && j_g (g_U M (g_n M)) 2 k) ≤ 12 := Nat.le_trans List.countP_le_length (Nat.le_of_eq List.length_range)
  cases sure with
  | false =>
    refine bL_areIndexed_243 (fun _ => bL_areIndexed_263 (bL_areIndexed_268 (bL_areIndexed_273 (fun _ => P3 H7 _ [] (by omega) W7) (fun _ => bL_areIndexed_280 (fun c => absurd c (by decide)) (fun _ => bL_areIndexed_285 (fun _ => P3 H7 _ [] (by omega) W7) (fun c => absurd rfl c)))))) (fun c => absurd rfl c)
  | true =>
    obtain ⟨bv, B⟩ := J.2.2.2 (hs rfl)
    have W0 := B.1 _ (Nat.le_refl _)
    have hN := cnt_W (by omega) W0 e.1.1 inK
    refine bL_areIndexed_243 (fun c => absurd c (by decide)) (fun _ => bL_areIndexed_247 (lp_is W7) (q_range3 ok g0 W7 hi r_m4.1 r_m4.2.1 r_m4.2.2) ?_)
    rintro H8 _ ⟨W8, rfl⟩
    rw [hN]
    refine bL_areIndexed_258 (fun c => absurd rfl c) (fun _ => bL_areIndexed_263 (bL_areIndexed_268 ?_))
    exact ai_loop2 (q := q4 + 1 + 1 + 1) ok g0 hi (by omega) (by omega) W0 hN h12 (fun H1 q1 r hq hr W1 => P3 H1 q1 r (by omega) W1) _ 0 _ [] H8 (Nat.zero_add _) (Nat.le_refl _) rfl W8
end AI2
