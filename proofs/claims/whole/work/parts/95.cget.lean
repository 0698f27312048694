/-! THE CLASS'S get, range, rangeAt -/
def x_3 (k : Nat) : String := if k = 1 then x_IO else if k = 2 then x_IA else x_IS
theorem R_x {a N w k : Nat} {B : Nat × Nat} {h : k_H} {M : s_M} {R : s_M × Nat × Int32} {X : Nat → String} (W : c_W a B h M N w) (hF : R = (M, k, 0)) (hk : k ≠ 0) : c_R a B R X (N + 1) w (k_sk h 1 6) (.inr (X k)) := by
  rw [hF]
  refine ⟨W_sk W, ?_⟩
  show _ = if k = 0 then _ else _
  rw [if_neg hk]
theorem R_ok {a N w : Nat} {B : Nat × Nat} {h : k_H} {M : s_M} {v : Int32} {R : s_M × Nat × Int32} {X : Nat → String} (W : c_W a B h M N w) (hF : R = (M, 0, v)) : c_R a B R X N w h (.inl (some (vI v))) := by
  rw [hF]
  exact ⟨W, rfl⟩
theorem W_le {a N N' w : Nat} {B : Nat × Nat} {h : k_H} {M : s_M} (W : c_W a B h M N w) (hN : N ≤ N') : c_W a B h M N' w := by
  obtain ⟨Q, S, PS, s, r, p, c⟩ := W
  exact ⟨Q, S, PS, s, r, p, co_le c (by omega)⟩
theorem g_rdg_self (M : s_M) (t : Nat) : g_rdg M t (g_X M t).2.2 = M := by
  show (M.1, M.2.1, X_up (g_X M) t (g_X M t), M.2.2.2) = M
  rw [X_up_self]
theorem sE_n {a n S : Nat} {h : k_H} {E : e_S} {Q : List k_K2} (s : c_sE a h E n Q S) : n ≤ 9000 ∧ (∀ y ∈ E.1, y.1 < 1331000000000) ∧ E.1.Pairwise (fun x y => x.1 < y.1) ∧ r_in E.1 E.2.1 := by
  obtain ⟨KS, L, WS, z, st, rE, q, e⟩ := s
  obtain ⟨cK, cW, cH, xs, ka, -, ⟨t1, t2, t3, t4⟩, -, tW, tn, ta, tw⟩ := id st
  exact ⟨tn, fun y hy => by obtain ⟨k, hk⟩ := rE.2.1.1 y hy; exact (t1.1 _ hk).1, rE.2.2.2.2, rE.2.2.2.1⟩
theorem sE_obj {a n S : Nat} {h : k_H} {E : e_S} {Q : List k_K2} (s : c_sE a h E n Q S) : ∃ f0 f1 f2 f3 f4 f5, h.1 (a + 1) = some (k_o 11 [f0, f1, f2, f3, f4, f5, vI (nI n)]) := by
  obtain ⟨KS, L, WS, z, st, rE, q, e⟩ := s
  exact ⟨_, _, _, _, _, _, st_obj st⟩
theorem s_hi_la {a b : Int32} (ha : s_na a) (hb : s_na b) : (s_hi a b = s_la a b + 1 ∨ (s_hi a b = 1331000000000 ∧ s_la a b + 1 = 1331000000001)) ∧ s_hi a b ≤ 1331000000000 ∧ s_lo a b < s_hi a b ∧ s_lo a b < 1331000000000 := by
  have h1 := s_dg_lt ha
  have h2 := s_dg_lt hb
  have h3 : s_dg 10000 = 0 := s_dg_none
  unfold s_la s_hi s_lo s_cd
  rw [h3]
  by_cases c : a = 10000
  · rw [if_pos c, if_pos c, if_pos c]; omega
  · rw [if_neg c, if_neg c, if_neg c]
    by_cases d : b = 10000
    · rw [if_pos d, d, h3]; omega
    · rw [if_neg d]; omega
theorem rng_hi {M : s_M} {t lo hi him : Nat} (hE : ∀ y ∈ (g_E M).1, y.1 < 1331000000000) (hh : hi = him ∨ (hi = 1331000000000 ∧ him = 1331000000001)) : g_rng M t lo hi = g_rng M t lo him := by
  unfold g_rng r_flt
  refine List.filter_congr fun y hy => ?_
  have := hE y hy
  rw [decide_eq_decide.mpr (show y.1 < hi ↔ y.1 < him by omega)]
theorem nI_ofN {x : Int32} (h : 0 ≤ x.toInt) : x = nI x.toInt.toNat := by
  apply Int32.toInt_inj.mp
  rw [nI_toInt (by have := Int32.toInt_lt x; omega)]
  omega
section CGT
variable {G : k_G} {l : Launch}
theorem C_get (ok : k_ok G l) {a N w : Nat} {B : Nat × Nat} {h : k_H} {M : s_M} {x a1 b1 c1 : Int32} {counts : Bool} (W : c_W a B h M N w) (hra : ∀ t, t < 4 → (g_X M t).1.2.2.1 ≤ g_n M) (hrd : ∀ t, t < 4 → (g_X M t).2.2.length < 2048) :
    k_ct (tX11_get G l) [vR (some a), vI x, vI a1, vI b1, vI c1, vI (kB counts)] h (c_R a B (F_get M x a1 b1 c1 counts) x_3 (N + 1) w) := by
  obtain ⟨Q, S, PS, s, r, p, co⟩ := id W
  obtain ⟨r1, r2, r3, r4, r5, r6, r7⟩ := id r
  refine eX11_get ok.2 ?_
  cases hin : s_inB x 0 3 with
  | false =>
    refine bX11_get_0x (k_is_o r3) (c_trAtX ok r3 r4 hin) ?_
    rintro _ rfl
    exact R_x (k := 1) W (by unfold F_get; rw [if_pos hin]) (by decide)
  | true =>
    obtain ⟨t, ht, rfl, e9⟩ := s_in4 hin
    have e9 : t_of (nI t) = t := e9
    refine bX11_get_0 (k_is_o r3) (c_trAt ok r3 r4 r1 ht) ?_
    rintro _ _ ⟨hh, rfl⟩
    rw [hh]
    cases hk : s_keyB a1 b1 c1 with
    | false =>
      refine bX11_get_5x (x_X11_requireKey ok hk) ?_
      rintro _ rfl
      exact R_x (k := 2) W (by unfold F_get; rw [if_neg (by rw [hin]; decide), if_pos hk]) (by decide)
    | true =>
      refine bX11_get_5 (c_X11_requireKey ok hk) ?_
      rintro _ hh
      rw [hh]
      cases hb : (g_X M t).1.1 with
      | false =>
        refine bX11_get_14x (c_begunX ok r1 ht hb) ?_
        rintro _ rfl
        exact R_x (k := 3) W (by unfold F_get; rw [if_neg (by rw [hin]; decide), if_neg (by rw [hk]; decide), e9, if_pos hb]) (by decide)
      | true =>
        obtain ⟨na, nb, nc⟩ := s_keyB_na hk
        have hc := s_cd_lt na nb nc
        obtain ⟨n9, E9, -, -⟩ := sE_n s
        have hra' := hra t ht
        obtain ⟨kept, o12, -⟩ := tx_obj r1 ht
        obtain ⟨f0, f1, f2, f3, f4, f5, o11⟩ := sE_obj s
        obtain ⟨⟨z0, l1⟩, -⟩ := id r4
        refine bX11_get_14 (c_begun ok r1 ht hb) ?_
        rintro _ hh
        rw [hh]
        refine bX11_get_19 (c_X11_codeOf ok na nb nc) ?_
        rintro _ _ ⟨hh, rfl⟩
        rw [hh]
        refine bX11_get_26 r3 rfl rfl o12 rfl (k_is_o o11) (c_E_entryIn ok s (by omega) (by omega)) ?_
        rintro _ y ⟨hh, hy⟩
        rw [hh]
        refine bX11_get_50 (k_is_o o12) (c_X_look ok r1 ht hb l1 (by omega) hy) ?_
        rintro h1 e1
        obtain ⟨s1, q1, l11, m1⟩ := cell_rs s r _ e1
        have co1 := co_mo co m1
        obtain ⟨r11, r12, r13, r14, r15, r16, r17⟩ := id q1
        have l12 : h1.1 (a + 10) = some (o_cel (g_see M t (s_cd a1 b1 c1)).1 (g_see M t (s_cd a1 b1 c1)).2) := l11
        refine bX11_get_53 r13 rfl l12 rfl (fun c2 => ?_) (fun c2 => ?_)
        · rw [kB_0] at c2
          have hF : ∀ r, s_rdk counts (g_X M t).2.1 (g_X M t).2.2 (s_cd a1 b1 c1) (g_ser M) = r → F_get M (nI t) a1 b1 c1 counts = (g_rdg M t r, 0, o_told (g_see M t (s_cd a1 b1 c1)).1) := fun r hr => by
            unfold F_get
            rw [if_neg (by rw [hin]; decide), if_neg (by rw [hk]; decide), e9, if_neg (by rw [hb]; decide), if_neg (by rw [c2]; decide), hr]
          refine bX11_get_73 (fun c3 => ?_) (fun c3 => ?_)
          · rw [kB_0] at c3
            refine bX11_get_85 r13 rfl (k_is_o l12) (c_X0_told ok l12) ?_
            rintro _ _ ⟨hh, rfl⟩
            rw [hh, o_told_eq]
            refine bX11_get_92 (R_ok (M := M) ⟨Q, S, PS, s1, q1, p, co_le co1 (by omega)⟩ ?_)
            rw [hF _ (by unfold s_rdk; rw [if_neg (by rw [c3]; simp)]), g_rdg_self]
          · rw [kB_n0] at c3
            obtain ⟨kept1, o1, -⟩ := tx_obj r11 ht
            refine bX11_get_78 (k_is_o o1) (c_X_putDownKey ok r11 ht hb (by omega) (hrd t ht)) ?_
            rintro h2 ⟨x2, m2⟩
            obtain ⟨s2, q2⟩ := rs_tx (M' := g_rk M t (s_cd a1 b1 c1)) s1 q1 ht m2 (by simp) x2 ⟨rfl, rfl, rfl, rfl, rfl, rfl⟩
            have co2 := co_mo co1 m2
            have l13 : h2.1 (a + 10) = some (o_cel (g_see M t (s_cd a1 b1 c1)).1 (g_see M t (s_cd a1 b1 c1)).2) := m2.1 _ _ l12 (tx_nA ht 10 (by omega)) (fun _ _ _ => List.not_mem_nil)
            refine bX11_get_85 q2.2.2.1 rfl (k_is_o l13) (c_X0_told ok l13) ?_
            rintro _ _ ⟨hh, rfl⟩
            rw [hh, o_told_eq]
            refine bX11_get_92 (R_ok (M := g_rk M t (s_cd a1 b1 c1)) ⟨Q, S, PS, s2, q2, p, co2⟩ ?_)
            rw [hF _ rfl, c3]
            rfl
        · rw [kB_n0] at c2
          refine bX11_get_63 ?_
          exact R_x (k := 3) (M := M) ⟨Q, S, PS, s1, q1, p, co1⟩ (by unfold F_get; rw [if_neg (by rw [hin]; decide), if_neg (by rw [hk]; decide), e9, if_neg (by rw [hb]; decide), if_pos c2]) (by decide)
theorem C_range (ok : k_ok G l) {a N w : Nat} {B : Nat × Nat} {h : k_H} {M : s_M} {x a1 b1 : Int32} {counts : Bool} (W : c_W a B h M N w) (hlim : e_lim (g_E M)) (hnm : g_nm M) (hra : ∀ t, t < 4 → (g_X M t).1.2.2.1 ≤ g_n M) (hrd : ∀ t, t < 4 → (g_X M t).2.2.length < 2048) :
    k_ct (tX11_range G l) [vR (some a), vI x, vI a1, vI b1, vI (kB counts)] h (c_R a B (F_range M x a1 b1 counts) x_3 (N + 1) w) := by
  obtain ⟨Q, S, PS, s, r, p, co⟩ := id W
  obtain ⟨r1, r2, r3, r4, r5, r6, r7⟩ := id r
  refine eX11_range ok.2 ?_
  cases hin : s_inB x 0 3 with
  | false =>
    refine bX11_range_0x (k_is_o r3) (c_trAtX ok r3 r4 hin) ?_
    rintro _ rfl
    exact R_x (k := 1) W (by unfold F_range; rw [if_pos hin]) (by decide)
  | true =>
    obtain ⟨t, ht, rfl, e9⟩ := s_in4 hin
    have e9 : t_of (nI t) = t := e9
    refine bX11_range_0 (k_is_o r3) (c_trAt ok r3 r4 r1 ht) ?_
    rintro _ _ ⟨hh, rfl⟩
    rw [hh]
    cases hk : s_rngB a1 b1 with
    | false =>
      refine bX11_range_5x (x_X11_requireRange ok hk) ?_
      rintro _ rfl
      exact R_x (k := 2) W (by unfold F_range; rw [if_neg (by rw [hin]; decide), if_pos hk]) (by decide)
    | true =>
      refine bX11_range_5 (c_X11_requireRange ok hk) ?_
      rintro _ hh
      rw [hh]
      cases hb : (g_X M t).1.1 with
      | false =>
        refine bX11_range_12x (c_begunX ok r1 ht hb) ?_
        rintro _ rfl
        exact R_x (k := 3) W (by unfold F_range; rw [if_neg (by rw [hin]; decide), if_neg (by rw [hk]; decide), e9, if_pos hb]) (by decide)
      | true =>
        obtain ⟨na, nb⟩ := s_rngB_na hk
        obtain ⟨hl1, hl2, hl3, hl4⟩ := s_hi_la na nb
        obtain ⟨n9, E9, -, -⟩ := sE_n s
        have hra' := hra t ht
        refine bX11_range_12 (c_begun ok r1 ht hb) ?_
        rintro _ hh
        rw [hh]
        refine bX11_range_17 (c_X11_lowOf ok na nb) ?_
        rintro _ _ ⟨hh, rfl⟩
        rw [hh]
        refine bX11_range_25 (c_X11_highOf ok na nb) ?_
        rintro _ _ ⟨hh, rfl⟩
        rw [hh]
        refine bX11_range_30 (k_is_o r3) (c_listSeen ok s r co ht hb (by omega) (by omega) (by omega) hlim hnm) ?_
        rintro h1 ⟨s1, q1, co1, X, cap, l12, eX, -⟩
        rw [rng_hi E9 hl1] at eX
        have elen : (X.map (fun x => x.2)).length = (g_rng M t (s_lo a1 b1) (s_la a1 b1 + 1)).length := by
          have := congrArg List.length eX
          rw [List.length_map, List.length_map] at this
          rw [List.length_map, this]
        obtain ⟨r11, r12, r13, r14, r15, r16, r17⟩ := id q1
        have hF : ∀ M', (if counts = true then g_rdg M t ((g_X M t).2.2 ++ [(s_lo a1 b1, s_la a1 b1 + 1, g_ser M)]) else M) = M' → F_range M (nI t) a1 b1 counts = (M', 0, nI (g_rng M t (s_lo a1 b1) (s_la a1 b1 + 1)).length) := fun M' hr => by
          unfold F_range
          rw [if_neg (by rw [hin]; decide), if_neg (by rw [hk]; decide), e9, if_neg (by rw [hb]; decide), hr]
        refine bX11_range_33 (fun c3 => ?_) (fun c3 => ?_)
        · rw [kB_0] at c3
          refine bX11_range_53 r13 rfl (Or.inr ⟨rfl, _, _, l12⟩) (c_size ok l12) ?_
          rintro _ _ ⟨hh, rfl⟩
          rw [hh, elen]
          refine bX11_range_60 (R_ok (M := M) ⟨Q, S, PS, s1, q1, p, co_le co1 (by omega)⟩ (hF M (by rw [c3, if_neg (by decide)])))
        · rw [kB_n0] at c3
          refine bX11_range_38 (c_X11_lowOf ok na nb) ?_
          rintro _ _ ⟨hh, rfl⟩
          rw [hh]
          refine bX11_range_45 (c_X11_highOf ok na nb) ?_
          rintro _ _ ⟨hh, rfl⟩
          rw [hh]
          obtain ⟨kept1, o1, -⟩ := tx_obj r11 ht
          refine bX11_range_50 (k_is_o o1) (c_X_putDown ok r11 ht hb hl1 (by omega) (by omega) (hrd t ht)) ?_
          rintro h2 ⟨x2, m2⟩
          obtain ⟨s2, q2⟩ := rs_tx (M' := g_rdg M t ((g_X M t).2.2 ++ [(s_lo a1 b1, s_la a1 b1 + 1, g_ser M)])) s1 q1 ht m2 (by simp) x2 ⟨rfl, rfl, rfl, rfl, rfl, rfl⟩
          have co2 := co_mo co1 m2
          have l13 : h2.1 (a + 12) = some (k_l (X.map (fun x => x.2)) cap) := m2.1 _ _ l12 (tx_nA ht 12 (by omega)) (fun _ _ _ => List.not_mem_nil)
          refine bX11_range_53 q2.2.2.1 rfl (Or.inr ⟨rfl, _, _, l13⟩) (c_size ok l13) ?_
          rintro _ _ ⟨hh, rfl⟩
          rw [hh, elen]
          exact bX11_range_60 (R_ok (M := g_rdg M t ((g_X M t).2.2 ++ [(s_lo a1 b1, s_la a1 b1 + 1, g_ser M)])) ⟨Q, S, PS, s2, q2, p, co2⟩ (hF _ (by rw [c3, if_pos rfl])))
theorem C_rangeAt (ok : k_ok G l) {a N w : Nat} {B : Nat × Nat} {h : k_H} {M : s_M} {x a1 b1 p1 w1 : Int32} (W : c_W a B h M N w) (hlim : e_lim (g_E M)) (hnm : g_nm M) (hra : ∀ t, t < 4 → (g_X M t).1.2.2.1 ≤ g_n M) (hrd : ∀ t, t < 4 → (g_X M t).2.2.length < 2048) :
    k_ct (tX11_rangeAt G l) [vR (some a), vI x, vI a1, vI b1, vI p1, vI w1] h (c_R a B (F_rangeAt M x a1 b1 p1 w1) x_3 (N + 1) w) := by
  obtain ⟨Q, S, PS, s, r, p, co⟩ := id W
  obtain ⟨r1, r2, r3, r4, r5, r6, r7⟩ := id r
  refine eX11_rangeAt ok.2 ?_
  cases hin : s_inB x 0 3 with
  | false =>
    refine bX11_rangeAt_0x (k_is_o r3) (c_trAtX ok r3 r4 hin) ?_
    rintro _ rfl
    exact R_x (k := 1) W (by unfold F_rangeAt; rw [hin, Bool.false_and, if_pos rfl]) (by decide)
  | true =>
    obtain ⟨t, ht, rfl, e9⟩ := s_in4 hin
    have e9 : t_of (nI t) = t := e9
    refine bX11_rangeAt_0 (k_is_o r3) (c_trAt ok r3 r4 r1 ht) ?_
    rintro _ _ ⟨hh, rfl⟩
    rw [hh]
    refine bX11_rangeAt_5 (fun c0 => ?_) (fun c0 => ?_)
    · have c0' : ¬ p1 < 0 := Int32.not_lt.mpr c0
      have hp0 : (s_inB (nI t) 0 3 && decide (¬ p1 < 0)) = true := by rw [hin, decide_eq_true c0']; rfl
      cases hk : s_rngB a1 b1 with
      | false =>
        refine bX11_rangeAt_22x (x_X11_requireRange ok hk) ?_
        rintro _ rfl
        exact R_x (k := 2) W (by unfold F_rangeAt; rw [if_neg (by rw [hp0]; decide), hk, Bool.false_and, if_pos rfl]) (by decide)
      | true =>
        refine bX11_rangeAt_22 (c_X11_requireRange ok hk) ?_
        rintro _ hh
        rw [hh]
        have bad : s_inB w1 0 2 = false → k_X (jX11_rangeAt G l h) h 38 [] [] (c_R a B (F_rangeAt M (nI t) a1 b1 p1 w1) x_3 (N + 1) w) := fun hw =>
          bX11_rangeAt_38 (R_x (k := 2) W (by unfold F_rangeAt; rw [if_neg (by rw [hp0]; decide), hk, hw, Bool.true_and, if_pos rfl]) (by decide))
        refine bX11_rangeAt_27 (fun c2 => bad ?_) (fun c2 => ?_)
        · unfold s_inB; rw [decide_eq_false (by simpa using c2), Bool.false_and]
        refine bX11_rangeAt_32 (fun c3 => ?_) (fun c3 => bad ?_)
        · have hw : s_inB w1 0 2 = true := by
            unfold s_inB
            rw [decide_eq_true c2, decide_eq_true (Int32.not_lt.mpr c3)]; rfl
          have hkw : (s_rngB a1 b1 && s_inB w1 0 2) = true := by rw [hk, hw]; rfl
          cases hb : (g_X M t).1.1 with
          | false =>
            refine bX11_rangeAt_48x (c_begunX ok r1 ht hb) ?_
            rintro _ rfl
            exact R_x (k := 3) W (by unfold F_rangeAt; rw [if_neg (by rw [hp0]; decide), if_neg (by rw [hkw]; decide), e9, if_pos hb]) (by decide)
          | true =>
            obtain ⟨na, nb⟩ := s_rngB_na hk
            obtain ⟨hl1, hl2, hl3, hl4⟩ := s_hi_la na nb
            obtain ⟨n9, E9, -, -⟩ := sE_n s
            have hra' := hra t ht
            refine bX11_rangeAt_48 (c_begun ok r1 ht hb) ?_
            rintro _ hh
            rw [hh]
            refine bX11_rangeAt_53 (c_X11_lowOf ok na nb) ?_
            rintro _ _ ⟨hh, rfl⟩
            rw [hh]
            refine bX11_rangeAt_61 (c_X11_highOf ok na nb) ?_
            rintro _ _ ⟨hh, rfl⟩
            rw [hh]
            refine bX11_rangeAt_66 (k_is_o r3) (c_listSeen ok s r co ht hb (by omega) (by omega) (by omega) hlim hnm) ?_
            rintro h1 ⟨s1, q1, co1, X, cap, l12, eX, hX⟩
            rw [rng_hi E9 hl1] at eX
            have elen : (X.map (fun x => x.2)).length = (g_rng M t (s_lo a1 b1) (s_la a1 b1 + 1)).length := by
              have := congrArg List.length eX
              rw [List.length_map, List.length_map] at this
              rw [List.length_map, this]
            have hEl : (g_rng M t (s_lo a1 b1) (s_la a1 b1 + 1)).length ≤ 12000 := Nat.le_trans (List.length_filter_le _ _) hlim.1
            obtain ⟨r11, r12, r13, r14, r15, r16, r17⟩ := id q1
            obtain ⟨kept1, o1, -⟩ := tx_obj r11 ht
            refine bX11_rangeAt_69 (c_X11_lowOf ok na nb) ?_
            rintro _ _ ⟨hh, rfl⟩
            rw [hh]
            refine bX11_rangeAt_76 (c_X11_highOf ok na nb) ?_
            rintro _ _ ⟨hh, rfl⟩
            rw [hh]
            refine bX11_rangeAt_81 (k_is_o o1) (c_X_putDown ok r11 ht hb hl1 (by omega) (by omega) (hrd t ht)) ?_
            rintro h2 ⟨x2, m2⟩
            obtain ⟨s2, q2⟩ := rs_tx (M' := g_rdg M t ((g_X M t).2.2 ++ [(s_lo a1 b1, s_la a1 b1 + 1, g_ser M)])) s1 q1 ht m2 (by simp) x2 ⟨rfl, rfl, rfl, rfl, rfl, rfl⟩
            have co2 := co_mo co1 m2
            have l13 : h2.1 (a + 12) = some (k_l (X.map (fun x => x.2)) cap) := m2.1 _ _ l12 (tx_nA ht 12 (by omega)) (fun _ _ _ => List.not_mem_nil)
            have hF : ∀ v, (match (g_rng M t (s_lo a1 b1) (s_la a1 b1 + 1))[p1.toInt.toNat]? with | some y => s_no y.1 (s_pl w1) | none => -2147483648) = v → F_rangeAt M (nI t) a1 b1 p1 w1 = (g_rdg M t ((g_X M t).2.2 ++ [(s_lo a1 b1, s_la a1 b1 + 1, g_ser M)]), 0, v) := fun v hv => by
              subst hv
              unfold F_rangeAt
              rw [if_neg (by rw [hp0]; decide), if_neg (by rw [hkw]; decide), e9, if_neg (by rw [hb]; decide)]
              rfl
            have W2 : c_W a B h2 (g_rdg M t ((g_X M t).2.2 ++ [(s_lo a1 b1, s_la a1 b1 + 1, g_ser M)])) (N + 1) w := ⟨Q, S, PS, s2, q2, p, co2⟩
            have p1i : 0 ≤ p1.toInt := by
              have := Int32.le_iff_toInt_le.mp c0
              simpa using this
            have hp1 : p1 = nI p1.toInt.toNat := nI_ofN p1i
            refine bX11_rangeAt_84 q2.2.2.1 rfl (Or.inr ⟨rfl, _, _, l13⟩) (c_size ok l13) ?_
            rintro _ _ ⟨hh, rfl⟩
            rw [hh, elen]
            have hle : nI (g_rng M t (s_lo a1 b1) (s_la a1 b1 + 1)).length ≤ p1 ↔ (g_rng M t (s_lo a1 b1) (s_la a1 b1 + 1)).length ≤ p1.toInt.toNat := by
              have h9 : p1.toInt < 2 ^ 31 := Int32.toInt_lt p1
              rw [Int32.le_iff_toInt_le, nI_toInt (by omega)]
              omega
            refine bX11_rangeAt_93 (fun c4 => ?_) (fun c4 => ?_)
            · have c5 := hle.mp c4
              refine bX11_rangeAt_119 (bX11_rangeAt_121 (R_ok W2 (hF _ ?_)))
              rw [List.getElem?_eq_none c5]
            · have c5 : ¬ (g_rng M t (s_lo a1 b1) (s_la a1 b1 + 1)).length ≤ p1.toInt.toNat := fun z => c4 (hle.mpr z)
              have hlt : p1.toInt.toNat < X.length := by rw [List.length_map] at elen; omega
              obtain ⟨y, hy⟩ : ∃ y, X[p1.toInt.toNat]? = some y := ⟨_, List.getElem?_eq_getElem hlt⟩
              have hy2 : (X.map (fun x => x.2))[p1.toInt.toNat]? = some y.2 := by rw [List.getElem?_map, hy]; rfl
              have hy1 : ((g_rng M t (s_lo a1 b1) (s_la a1 b1 + 1)).map (fun x => x.1))[p1.toInt.toNat]? = some y.1 := by rw [← eX, List.getElem?_map, hy]; rfl
              have hyc := (hX y (List.mem_of_getElem? hy)).1
              obtain ⟨f, hf⟩ := (hX y (List.mem_of_getElem? hy)).2.2
              have hf2 : h2.1 y.2 = some (k_o 7 [vJ (lN y.1), f]) := m2.1 _ _ hf (tx_nO r11 ht _ _ _ hf (by decide)) (fun _ _ _ => List.not_mem_nil)
              have hg : k_ctr (tAL_get G l) [vR (some (a + 12)), vI p1] h2 (fun h' v => h' = h2 ∧ v = some y.2) := by
                rw [hp1]
                exact c_get ok l13 hy2
              refine bX11_rangeAt_96 q2.2.2.1 rfl (Or.inr ⟨rfl, _, _, l13⟩) hg ?_
              rintro _ _ ⟨hh, rfl⟩
              rw [hh]
              refine bX11_rangeAt_105 hf2 rfl (c_X11_numberOf ok hyc) ?_
              rintro _ _ ⟨hh, rfl⟩
              rw [hh]
              refine bX11_rangeAt_116 (bX11_rangeAt_121 (R_ok W2 (hF _ ?_)))
              rw [List.getElem?_map] at hy1
              cases hg : (g_rng M t (s_lo a1 b1) (s_la a1 b1 + 1))[p1.toInt.toNat]? with
              | none => rw [hg] at hy1; cases hy1
              | some g =>
                rw [hg] at hy1
                have : g.1 = y.1 := by simpa using hy1
                show s_no g.1 (s_pl w1) = _
                rw [this]
        · unfold s_inB; rw [decide_eq_false (show ¬ ¬ (2 : Int32) < w1 from fun z => c3 (Int32.not_lt.mp z)), Bool.and_false]
    · refine bX11_rangeAt_12 (R_x (k := 1) W (by
        unfold F_rangeAt
        rw [hin, decide_eq_false (show ¬ ¬ p1 < 0 from fun z => c0 (Int32.not_lt.mp z)), Bool.and_false, if_pos rfl]) (by decide))
end CGT
