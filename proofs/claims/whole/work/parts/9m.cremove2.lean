/-! THE CLASS REMOVES DIRECTORIES -/
section CR2
variable {G : k_G} {l : Launch}
theorem c_dirLow (ok : k_ok G l) {q : Nat} {h : k_H} {x : s_D} {p : k_V} {nm : k_V} (o : h.1 q = some (k_o 5 [vI (nI x.1), vI (nI x.2.2.2), p, nm])) (h9 : x.2.2.2 ≤ 9) : k_ctj (tX2_low G l) [vR (some q)] h (fun h' v => h' = h ∧ v = lN (s_lo (nI x.2.2.2) 10000)) := by
  refine k_ctj_of (eX2_low ok.2 (bX2_low_0 o rfl (c_X11_lowOf ok (na_100 (by omega)) na_m6.2.2.2.2.2.2.2) ?_))
  rintro _ _ ⟨hh, rfl⟩
  rw [hh]
  exact bX2_low_10 ⟨_, rfl, rfl, rfl⟩
theorem c_dirHigh (ok : k_ok G l) {q : Nat} {h : k_H} {x : s_D} {p : k_V} {nm : k_V} (o : h.1 q = some (k_o 5 [vI (nI x.1), vI (nI x.2.2.2), p, nm])) (h9 : x.2.2.2 ≤ 9) : k_ctj (tX2_high G l) [vR (some q)] h (fun h' v => h' = h ∧ v = lN (s_hi (nI x.2.2.2) 10000)) := by
  refine k_ctj_of (eX2_high ok.2 (bX2_high_0 o rfl (c_X11_highOf ok (na_100 (by omega)) na_m6.2.2.2.2.2.2.2) ?_))
  rintro _ _ ⟨hh, rfl⟩
  rw [hh]
  exact bX2_high_10 ⟨_, rfl, rfl, rfl⟩
theorem W_listM (ok : k_ok G l) {a N w lo hi : Nat} {B : Nat × Nat} {h : k_H} {M : s_M} (W : c_W a B h M N w) (hlo : lo < 2 ^ 62) (hhi : hi < 2 ^ 62) (hlim : e_lim (g_E M)) : k_ctr (tX8_listHeld G l) [vR (some (a + 1)), vJ (lN lo), vJ (lN hi)] h (fun h' v => v = some (a + 4) ∧ c_W a B h' M N w ∧ (∃ (X : List Nat) (cap : Nat), h'.1 (a + 4) = some (k_l X cap) ∧ X.length = (r_flt lo hi (fun c => (r_val c (g_n M) (g_E M).2.1).isSome) (g_E M).1).length) ∧ k_mo a [] (fun q => q = a + 4) 0 h h' ∧ ∀ q fs, h.1 q = some (k_o 5 fs) → ¬ (q = a + 4)) := by
  obtain ⟨Q, S, PS, s, r, p, co⟩ := W
  obtain ⟨KS, L, WS, z', st, -⟩ := id s
  obtain ⟨cK, cW, cH, xs, ka, ⟨-, -, -, s4', -⟩, -⟩ := id st
  obtain ⟨h', v, t, e, s', ⟨X, cap, x1, x2, x3⟩, m⟩ := c_E_listHeldP ok s hlo hhi hlim
  refine ⟨h', v, t, e, ⟨Q, S, PS, s', rs_sto r s (mv_mono m (fun _ h => by cases h) (fun p h => Or.inr (Or.inr (Or.inl h))) (Nat.le_refl _)), p, co_le (co_mo co m) (Nat.le_refl _)⟩, ⟨_, cap, x1, ?_⟩, m, fun q fs hq z => by rw [z, s4'] at hq; cases hq⟩
  have := congrArg List.length x2
  rw [List.length_map, List.length_map] at this
  rw [List.length_map, this]
  rfl
theorem c_heldWithin (ok : k_ok G l) {a N w o : Nat} {B : Nat × Nat} {h : k_H} {M : s_M} {da : Nat → Nat} (W : c_W a B h M N w) (dp : c_dp a h (g_DS M).1 da) (hd : d_ok (g_DS M)) (ho : ∃ e ∈ (g_DS M).1, e.1 = o) (hlim : e_lim (g_E M)) :
    k_cti (tX11_heldWithin G l) [vR (some a), vR (some (da o))] h (fun h' v => c_W a B h' M N w ∧ c_dp a h' (g_DS M).1 da ∧ v = nI (rm_many M o)) := by
  obtain ⟨w9, h91, h92, h93⟩ := id hd
  refine k_cti_of (eX11_heldWithin ok.2 (bX11_heldWithin_0 ?_))
  have key : ∀ (todo pre : List s_D) (hh : k_H), (g_DS M).1 = pre ++ todo → c_W a B hh M N w → c_dp a hh (g_DS M).1 da → k_X (jX11_heldWithin G l h) hh 4 [(0, vR (some a)), (1, vR (some (da o))), (2, vI (nI (((pre.filter (fun x => d_bel (g_DS M).1 x.1 o)).map (rm_cnt M)).sum))), (3, vI (nI pre.length))] [] (q_i (fun h' v => c_W a B h' M N w ∧ c_dp a h' (g_DS M).1 da ∧ v = nI (rm_many M o))) := by
    intro todo
    induction todo with
    | nil =>
      intro pre hh hp W1 dp1
      obtain ⟨o14, -⟩ := W_ob W1
      obtain ⟨⟨cap, b1⟩, b2, b3⟩ := id dp1
      rw [List.append_nil] at hp
      have hpl : (g_DS M).1.length = pre.length := by rw [hp]
      refine bX11_heldWithin_4 o14 rfl (Or.inr ⟨rfl, _, _, b1⟩) (c_size ok b1) ?_
      rintro _ _ ⟨hh2, rfl⟩
      rw [hh2, List.length_map]
      refine bX11_heldWithin_12 (fun _ => bX11_heldWithin_66 ⟨_, rfl, W1, dp1, ?_⟩) (fun c => absurd (nI_le (Nat.le_of_eq hpl) (by omega)) c)
      unfold rm_many rm_gone
      rw [hp]
    | cons y todo ih =>
      intro pre hh hp W1 dp1
      obtain ⟨o14, f0, f1, f2, f3, f4, f5, o11⟩ := W_ob W1
      obtain ⟨⟨cap, b1⟩, b2, b3⟩ := id dp1
      have hlt : pre.length < (g_DS M).1.length := by rw [hp, List.length_append, List.length_cons]; omega
      have hy : ((g_DS M).1.map (fun x => da x.1))[pre.length]? = some (da y.1) := by rw [hp]; simp
      have hym : y ∈ (g_DS M).1 := by rw [hp]; simp
      have hy9 := (w9.2.2.2.2 y hym).2
      refine bX11_heldWithin_4 o14 rfl (Or.inr ⟨rfl, _, _, b1⟩) (c_size ok b1) ?_
      rintro _ _ ⟨hh2, rfl⟩
      rw [hh2, List.length_map]
      refine bX11_heldWithin_12 (fun c => absurd c (nI_ge hlt (by omega))) (fun _ => ?_)
      refine bX11_heldWithin_15 o14 rfl (Or.inr ⟨rfl, _, _, b1⟩) (c_get ok b1 hy) ?_
      rintro _ _ ⟨hh2, rfl⟩
      rw [hh2]
      refine bX11_heldWithin_23 (b2 y hym) (c_isWithin ok dp1 hd ho hym) ?_
      rintro _ _ ⟨hh2, rfl⟩
      rw [hh2]
      refine bX11_heldWithin_34 (fun c => ?_) (fun c => ?_)
      · rw [kB_0] at c
        refine bX11_heldWithin_60 ?_
        rw [nI_1]
        have := ih (pre ++ [y]) hh (by rw [hp]; simp) W1 dp1
        rw [List.length_append, List.length_singleton, List.filter_append, List.filter_cons_of_neg (by rw [c]; decide), List.filter_nil, List.append_nil] at this
        exact this
      · rw [kB_n0] at c
        have hna : s_na (nI y.2.2.2) := na_100 (by omega)
        obtain ⟨hl1, hl2, hl3, hl4⟩ := s_hi_la hna na_m6.2.2.2.2.2.2.2
        obtain ⟨e1, e2⟩ := rm_hi_eq hy9
        refine bX11_heldWithin_37 o14 rfl (k_is_o (b2 y hym)) (c_dirLow ok (b2 y hym) hy9) ?_
        rintro _ _ ⟨hh2, rfl⟩
        rw [hh2]
        refine bX11_heldWithin_47 (k_is_o (b2 y hym)) (c_dirHigh ok (b2 y hym) hy9) ?_
        rintro _ _ ⟨hh2, rfl⟩
        rw [hh2]
        refine bX11_heldWithin_52 (k_is_o o11) (W_listM ok W1 (by omega) (by omega) hlim) ?_
        rintro h3 _ ⟨rfl, W3, ⟨X, capX, x1, x2⟩, m3, n5⟩
        have dp3 := dp_fr dp1 m3.1 (by simp) (by omega) n5
        refine bX11_heldWithin_55 (Or.inr ⟨rfl, _, _, x1⟩) (c_size ok x1) ?_
        rintro _ _ ⟨hh3, rfl⟩
        rw [hh3, x2]
        refine bX11_heldWithin_58 (bX11_heldWithin_60 ?_)
        rw [nI_1, nI_add]
        have ec : (r_flt (s_lo (nI y.2.2.2) 10000) (s_hi (nI y.2.2.2) 10000) (fun c => (r_val c (g_n M) (g_E M).2.1).isSome) (g_E M).1).length = rm_cnt M y := by
          unfold rm_cnt
          rw [e1, e2]
        rw [ec]
        have := ih (pre ++ [y]) h3 (by rw [hp]; simp) W3 dp3
        rw [List.length_append, List.length_singleton, List.filter_append, List.filter_cons_of_pos (by rw [c]), List.filter_nil, List.map_append, List.sum_append, List.map_cons, List.map_nil, List.sum_cons, List.sum_nil, Nat.add_zero] at this
        exact this
  have := key (g_DS M).1 [] h rfl W dp
  exact this
theorem c_wipeWithin (ok : k_ok G l) {a N w o : Nat} {B : Nat × Nat} {h : k_H} {M : s_M} {da : Nat → Nat} (W : c_W a B h M N w) (dp : c_dp a h (g_DS M).1 da) (hd : d_ok (g_DS M)) (ho : ∃ e ∈ (g_DS M).1, e.1 = o) (hn : g_n M + 1 < 9000) (hlim : e_lim (rm_E M o)) (hpk : g_pk M) (h0 : g_p0 M) (hps : g_ps M (rm_E M o)) :
    k_ctv (tX11_wipeWithin G l) [vR (some a), vR (some (da o))] h (fun h' => c_W a B h' (g_cm M (rm_E M o)) (N + g_sp M (rm_E M o)) w ∧ c_dp a h' (g_DS M).1 da) := by
  obtain ⟨w9, h91, h92, h93⟩ := id hd
  obtain ⟨o14, f0, f1, f2, f3, f4, f5, o11⟩ := W_ob W
  refine k_ctv_of (eX11_wipeWithin ok.2 (bX11_wipeWithin_0 o14 rfl (k_is_o o11) (O_openM ok W (by omega)) ?_))
  rintro h1 ⟨O1, m1⟩
  have dp1 := dp_fr dp m1.1 (by decide) id (fun _ _ _ z => z)
  refine bX11_wipeWithin_8 ?_
  have key : ∀ (todo pre : List s_D) (hh : k_H) (E : e_S), (g_DS M).1 = pre ++ todo → ((todo.filter (fun x => d_bel (g_DS M).1 x.1 o)).foldl (fun E x => e_clr (g_n M + 1) (rm_lo x) (rm_hi x + 1) E) E) = rm_E M o → e_ex (g_n M) (g_E M) E → c_O a B hh M E N w → c_dp a hh (g_DS M).1 da → k_X (jX11_wipeWithin G l h) hh 10 [(0, vR (some a)), (1, vR (some (da o))), (2, vI (nI pre.length))] [] (q_v (fun h' => c_W a B h' (g_cm M (rm_E M o)) (N + g_sp M (rm_E M o)) w ∧ c_dp a h' (g_DS M).1 da)) := by
    intro todo
    induction todo with
    | nil =>
      intro pre hh E hp hE hex O2 dp2
      obtain ⟨o14, -⟩ := O_ob O2
      obtain ⟨⟨cap, b1⟩, b2, b3⟩ := id dp2
      rw [List.append_nil] at hp
      have hpl : (g_DS M).1.length = pre.length := by rw [hp]
      have hE : E = rm_E M o := hE
      rw [hE] at O2 hex
      refine bX11_wipeWithin_10 o14 rfl (Or.inr ⟨rfl, _, _, b1⟩) (c_size ok b1) ?_
      rintro _ _ ⟨hh2, rfl⟩
      rw [hh2, List.length_map]
      refine bX11_wipeWithin_18 (fun _ => ?_) (fun c => absurd (nI_le (Nat.le_of_eq hpl) (by omega)) c)
      refine bX11_wipeWithin_62 (k_is_o o14) (O_closeM ok O2 hex hlim hpk h0 hps) ?_
      rintro h5 ⟨W5, m5⟩
      obtain ⟨Q, S, PS, s, r, p, co⟩ := O2
      obtain ⟨KS, L, WS, z', st, -⟩ := id s
      obtain ⟨cK, cW, cH, xs, ka, ⟨-, -, -, s4', -⟩, -⟩ := id st
      obtain ⟨-, ⟨cap7, p1, -⟩, -⟩ := id r.2.1
      refine bX11_wipeWithin_66 ⟨rfl, W5, dp_fr dp2 m5.1 (by decide) (by omega) (fun q fs hq z => ?_)⟩
      rcases z with z | z
      · rw [z, s4'] at hq; cases hq
      · rw [z, p1] at hq; cases hq
    | cons y todo ih =>
      intro pre hh E hp hE hex O2 dp2
      obtain ⟨o14, f0, f1, f2, f3, f4, f5, o11⟩ := O_ob O2
      obtain ⟨⟨cap, b1⟩, b2, b3⟩ := id dp2
      have hlt : pre.length < (g_DS M).1.length := by rw [hp, List.length_append, List.length_cons]; omega
      have hy : ((g_DS M).1.map (fun x => da x.1))[pre.length]? = some (da y.1) := by rw [hp]; simp
      have hym : y ∈ (g_DS M).1 := by rw [hp]; simp
      have hy9 := (w9.2.2.2.2 y hym).2
      refine bX11_wipeWithin_10 o14 rfl (Or.inr ⟨rfl, _, _, b1⟩) (c_size ok b1) ?_
      rintro _ _ ⟨hh2, rfl⟩
      rw [hh2, List.length_map]
      refine bX11_wipeWithin_18 (fun c => absurd c (nI_ge hlt (by omega))) (fun _ => ?_)
      refine bX11_wipeWithin_21 o14 rfl (Or.inr ⟨rfl, _, _, b1⟩) (c_get ok b1 hy) ?_
      rintro _ _ ⟨hh2, rfl⟩
      rw [hh2]
      refine bX11_wipeWithin_29 (b2 y hym) (c_isWithin ok dp2 hd ho hym) ?_
      rintro _ _ ⟨hh2, rfl⟩
      rw [hh2]
      refine bX11_wipeWithin_38 (fun c => ?_) (fun c => ?_)
      · rw [kB_0] at c
        rw [List.filter_cons_of_neg (by rw [c]; decide)] at hE
        refine bX11_wipeWithin_56 ?_
        rw [nI_1]
        have := ih (pre ++ [y]) hh E (by rw [hp]; simp) hE hex O2 dp2
        rw [List.length_append, List.length_singleton] at this
        exact this
      · rw [kB_n0] at c
        rw [List.filter_cons_of_pos (by rw [c]), List.foldl_cons] at hE
        have hna : s_na (nI y.2.2.2) := na_100 (by omega)
        obtain ⟨hl1, hl2, hl3, hl4⟩ := s_hi_la hna na_m6.2.2.2.2.2.2.2
        obtain ⟨e1, e2⟩ := rm_hi_eq hy9
        have le1 : e_lim (e_clr (g_n M + 1) (s_lo (nI y.2.2.2) 10000) (s_hi (nI y.2.2.2) 10000) E) := by
          rw [← hE] at hlim
          have := e_lim_le hlim (e_le_rm M _ _)
          rw [e1, e2] at this
          exact this
        refine bX11_wipeWithin_41 o14 rfl (k_is_o (b2 y hym)) (c_dirLow ok (b2 y hym) hy9) ?_
        rintro _ _ ⟨hh2, rfl⟩
        rw [hh2]
        refine bX11_wipeWithin_49 (k_is_o (b2 y hym)) (c_dirHigh ok (b2 y hym) hy9) ?_
        rintro _ _ ⟨hh2, rfl⟩
        rw [hh2]
        refine bX11_wipeWithin_53 (k_is_o o11) (O_wipeM ok O2 hl3 hl2 le1) ?_
        rintro h3 ⟨O3, o3, m3⟩
        have n5 : ∀ q fs, hh.1 q = some (k_o 5 fs) → ¬ c_A5 a q := fun q fs hq => by
          obtain ⟨Q, S, PS, s, -⟩ := O2
          exact sE_A5 s hq (by decide)
        have dp3 := dp_fr dp2 m3.1 (by decide) (fun z => by rcases z with z | z | z | z <;> omega) n5
        refine bX11_wipeWithin_56 ?_
        rw [nI_1]
        have hE' : e_clr (g_n M + 1) (rm_lo y) (rm_hi y + 1) E = e_clr (g_n M + 1) (s_lo (nI y.2.2.2) 10000) (s_hi (nI y.2.2.2) 10000) E := by rw [e1, e2]
        have := ih (pre ++ [y]) h3 _ (by rw [hp]; simp) hE (ex_trans hex (ex_clr _ _ _ _)) (by rw [hE']; exact O3) dp3
        rw [List.length_append, List.length_singleton] at this
        exact this
  exact key (g_DS M).1 [] h1 (g_E M) rfl rfl (ex_refl _ _) O1 dp1
theorem C_remove (ok : k_ok G l) {a N w k : Nat} {B : Nat × Nat} {h : k_H} {M : s_M} {x : Int32} (W : c_W a B h M N w) (hd : d_ok (g_DS M)) (hlim0 : e_lim (g_E M)) (hn : g_n M + 1 < 9000) (hpk : g_pk M) (h0 : g_p0 M) (hml : ∀ o, rm_many M o < 2 ^ 31) (hlim : ∀ o, ¬ o = 0 → 0 < rm_many M o → g_ps M (rm_E M o) ∧ e_lim (rm_E M o) ∧ g_sp M (rm_E M o) ≤ k) :
    k_ct (tX11_remove G l) [vR (some a), vI x] h (c_R a B (F_remove M x) x_I (N + 1 + k) w) := by
  obtain ⟨o14, -⟩ := W_ob W
  obtain ⟨da, dp⟩ := W_dp W
  refine eX11_remove ok.2 ?_
  cases hx : d_is (g_DS M) x with
  | false =>
    refine bX11_remove_0x (k_is_o o14) (c_dirAtX ok o14 rfl dp hd hx) ?_
    rintro _ rfl
    have hF : F_remove M x = (M, 1, 0) := by unfold F_remove; rw [if_pos hx]
    rw [hF]
    exact ⟨W_le (W_sk W) (by omega), rfl⟩
  | true =>
    obtain ⟨d, hm, he, ht, hf, hc⟩ := c_dirAt ok o14 rfl dp hd hx
    obtain ⟨w9, h91, h92, h93⟩ := id hd
    have hdl := h92 d hm
    have hd0 : x = 0 ↔ d.1 = 0 := by rw [he]; exact nI_eq (a := d.1) (b := 0) (by omega) (by omega)
    refine bX11_remove_0 (k_is_o o14) hc ?_
    rintro _ _ ⟨hh, rfl⟩
    rw [hh]
    refine bX11_remove_5 (dp.2.1 d hm) rfl (fun c0 => ?_) (fun c0 => ?_)
    · have c0' : ¬ d.1 = 0 := fun z => c0 (by rw [z]; rfl)
      have hF : F_remove M x = (g_dset (if 0 < rm_many M d.1 then g_cm M (rm_E M d.1) else M) (rm_D M d.1), 0, nI (rm_many M d.1)) := by
        unfold F_remove; rw [if_neg (by rw [hx]; decide), if_neg (fun z => c0' (hd0.mp z)), ht]
      refine bX11_remove_24 (k_is_o o14) (c_heldWithin ok W dp hd ⟨d, hm, rfl⟩ hlim0) ?_
      rintro h1 _ ⟨W1, dp1, rfl⟩
      -- taking them out of the list
      have tail : ∀ (h2 : k_H) (M2 : s_M) (N2 : Nat), c_W a B h2 M2 N2 w → N2 ≤ N + 1 + k → c_dp a h2 (g_DS M).1 da → g_DS M2 = g_DS M → F_remove M x = (g_dset M2 (rm_D M d.1), 0, nI (rm_many M d.1)) → k_X (jX11_remove G l h) h2 39 [(0, vR (some a)), (2, vR (some (da d.1))), (3, vI (nI (rm_many M d.1)))] [] (c_R a B (F_remove M x) x_I (N + 1 + k) w) := by
        intro h2 M2 N2 W2 hN dp2 hM2 hF2
        obtain ⟨o14, -⟩ := W_ob W2
        obtain ⟨⟨cap, b1⟩, b2, b3⟩ := id dp2
        refine bX11_remove_39 o14 rfl (Or.inr ⟨rfl, _, _, b1⟩) (c_size ok b1) ?_
        rintro _ _ ⟨hh2, rfl⟩
        rw [hh2, List.length_map]
        refine bX11_remove_46 ?_
        have key : ∀ (k0 : Nat) (pre suf : List s_D) (hh : k_H) (v : Int32), pre.length = k0 → v = nI k0 + (-1) → (g_DS M).1 = pre ++ suf → k_mo a [] (fun q => q = a + 13) 0 h2 hh → hh.1 (a + 13) = some (k_l ((pre ++ suf.filter (fun x => !(d_bel (g_DS M).1 x.1 d.1))).map (fun x => da x.1)) cap) →
            k_X (jX11_remove G l h) hh 50 [(0, vR (some a)), (2, vR (some (da d.1))), (3, vI (nI (rm_many M d.1))), (4, vI v)] [] (c_R a B (F_remove M x) x_I (N + 1 + k) w) := by
          intro k0
          induction k0 with
          | zero =>
            rintro pre suf hh v hk rfl hp m e13
            have hpre : pre = [] := List.length_eq_zero_iff.mp hk
            subst hpre
            have hp : (g_DS M).1 = suf := hp
            refine bX11_remove_50 (fun _ => bX11_remove_90 ?_) (fun c => absurd (by decide) c)
            rw [List.nil_append, ← hp] at e13
            have nO : ∀ p ci fs, h2.1 p = some (k_o ci fs) → ¬ (p = a + 13) := fun p ci fs hp z => by rw [z, b1] at hp; cases hp
            have W3 : c_W a B hh (g_dset M2 (rm_D M d.1)) N2 w := by
              refine W_dset W2 b1 m ⟨da, cap, e13, fun y hy => ?_, fun y hy z hz e => ?_⟩ (by rw [hM2]; rfl)
              · have hy2 := (List.mem_filter.mp hy).1
                exact m.1 _ _ (b2 y hy2) (nO _ _ _ (b2 y hy2)) (fun _ _ _ => List.not_mem_nil)
              · exact b3 y (List.mem_filter.mp hy).1 z (List.mem_filter.mp hz).1 e
            exact R_ok (W_le W3 hN) hF2
          | succ k0 ih =>
            rintro pre suf hh v hk rfl hp m e13
            rw [nI_m1 (by omega), Nat.add_sub_cancel]
            obtain ⟨pre', y, rfl⟩ : ∃ pre' y, pre = pre' ++ [y] := by
              rcases List.eq_nil_or_concat pre with e | ⟨l, y, e⟩
              · rw [e] at hk; cases hk
              · exact ⟨l, y, by rw [e, List.concat_eq_append]⟩
            have hk' : pre'.length = k0 := by rw [List.length_append, List.length_singleton] at hk; omega
            have hym : y ∈ (g_DS M).1 := by rw [hp]; simp
            have hkl : k0 < 2 ^ 31 := by
              have := congrArg List.length hp
              rw [List.length_append, List.length_append] at this
              omega
            have o14h : hh.1 a = h2.1 a := by
              have := m.1 _ _ o14 (by omega) (fun _ _ _ => List.not_mem_nil)
              rw [this, o14]
            have nO : ∀ p ci fs, h2.1 p = some (k_o ci fs) → ¬ (p = a + 13) := fun p ci fs hp z => by rw [z, b1] at hp; cases hp
            have b2h : ∀ x ∈ (g_DS M).1, hh.1 (da x.1) = some (k_o 5 [vI (nI x.1), vI (nI x.2.2.2), vR (x.2.1.map da), vI (nI x.2.2.1)]) := fun x hx => m.1 _ _ (b2 x hx) (nO _ _ _ (b2 x hx)) (fun _ _ _ => List.not_mem_nil)
            have e13' : hh.1 (a + 13) = some (k_l (pre'.map (fun x => da x.1) ++ da y.1 :: (suf.filter (fun x => !(d_bel (g_DS M).1 x.1 d.1))).map (fun x => da x.1)) cap) := by
              rw [e13, List.map_append, List.map_append, List.append_assoc]
              rfl
            have hg : (pre'.map (fun x => da x.1) ++ da y.1 :: (suf.filter (fun x => !(d_bel (g_DS M).1 x.1 d.1))).map (fun x => da x.1))[k0]? = some (da y.1) := by
              rw [← hk']
              have : pre'.length = (pre'.map (fun x => da x.1)).length := by rw [List.length_map]
              rw [this]
              simp
            refine bX11_remove_50 (fun c => absurd c (fun z => ?_)) (fun _ => ?_)
            · have := (nI_ltI (a := k0) (b := 0) hkl (by omega)).mp z
              omega
            refine bX11_remove_55 (o14h.trans o14) rfl (Or.inr ⟨rfl, _, _, e13'⟩) (c_get ok e13' hg) ?_
            rintro _ _ ⟨hh3, rfl⟩
            rw [hh3]
            refine bX11_remove_64 (b2h y hym) (c_isWithin2 ok b2h b3 hd ⟨d, hm, rfl⟩ hym) ?_
            rintro _ _ ⟨hh3, rfl⟩
            rw [hh3]
            have hp' : (g_DS M).1 = pre' ++ y :: suf := by rw [hp, List.append_assoc]; rfl
            refine bX11_remove_71 (fun c => ?_) (fun c => ?_)
            · rw [kB_0] at c
              refine bX11_remove_84 (ih pre' (y :: suf) hh _ hk' rfl hp' m ?_)
              rw [e13', List.filter_cons_of_pos (by rw [c]; rfl), List.map_append]
              rfl
            · rw [kB_n0] at c
              refine bX11_remove_74 (o14h.trans o14) rfl (Or.inr ⟨rfl, _, _, e13'⟩) (c_removeAt ok e13' hg (fun z hz => ?_)) ?_
              · have hz2 : ∃ u ∈ (g_DS M).1, z = da u.1 := by
                  rcases List.mem_append.mp hz with hz | hz
                  · obtain ⟨u, hu, rfl⟩ := List.mem_map.mp hz
                    exact ⟨u, by rw [hp']; exact List.mem_append_left _ hu, rfl⟩
                  · rcases List.mem_cons.mp hz with rfl | hz
                    · exact ⟨y, hym, rfl⟩
                    · obtain ⟨u, hu, rfl⟩ := List.mem_map.mp hz
                      exact ⟨u, by rw [hp']; exact List.mem_append_right _ (List.mem_cons_of_mem _ (List.mem_filter.mp hu).1), rfl⟩
                obtain ⟨u, hu, rfl⟩ := hz2
                exact el_dir (b2h u hu)
              rintro h3 _ ⟨hh3, -⟩
              have m3 : k_mo a [] (fun q => q = a + 13) 0 hh h3 := by rw [hh3]; exact mv_lu e13' (by omega) rfl
              refine bX11_remove_83 (bX11_remove_84 (ih pre' (y :: suf) h3 _ hk' rfl hp' (mv_mono (mv_trans m m3) (fun _ h => h) (fun _ h => h) (Nat.le_refl _)) ?_))
              have era : (pre'.map (fun x => da x.1) ++ da y.1 :: (suf.filter (fun x => !(d_bel (g_DS M).1 x.1 d.1))).map (fun x => da x.1)).eraseIdx k0 = pre'.map (fun x => da x.1) ++ (suf.filter (fun x => !(d_bel (g_DS M).1 x.1 d.1))).map (fun x => da x.1) := by
                rw [← hk']
                have : pre'.length = (pre'.map (fun x => da x.1)).length := by rw [List.length_map]
                rw [this]
                exact era_mid _ _ _
              rw [hh3, k_up_self, era, List.filter_cons_of_neg (by rw [c]; decide), List.map_append]
        refine key (g_DS M).1.length (g_DS M).1 [] h2 _ rfl (by rw [Int32.sub_eq_add_neg]) (List.append_nil _).symm (mv_refl _ _ _ _) ?_
        rw [b1, List.filter_nil, List.append_nil]
      refine bX11_remove_29 (fun c1 => ?_) (fun c1 => ?_)
      · have c1' : rm_many M d.1 ≤ 0 := (nI_leI (b := 0) (hml _) (by omega)).mp c1
        exact tail h1 M N W1 (by omega) dp1 rfl (by rw [hF, if_neg (by omega)])
      · have c1' : 0 < rm_many M d.1 := by
          by_cases e : rm_many M d.1 ≤ 0
          · exact absurd ((nI_leI (b := 0) (hml _) (by omega)).mpr e) c1
          · omega
        obtain ⟨g1, g2, g3⟩ := hlim d.1 c0' c1'
        obtain ⟨o14, -⟩ := W_ob W1
        refine bX11_remove_34 (k_is_o o14) (c_wipeWithin ok W1 dp1 hd ⟨d, hm, rfl⟩ hn g2 hpk h0 g1) ?_
        rintro h2 ⟨W2, dp2⟩
        exact tail h2 _ _ W2 (by omega) dp2 rfl (by rw [hF, if_pos c1'])
    · have c0' : d.1 = 0 := (nI_eq (a := d.1) (b := 0) (by omega) (by omega)).mp c0
      refine bX11_remove_13 ?_
      have hF : F_remove M x = (M, 2, 0) := by unfold F_remove; rw [if_neg (by rw [hx]; decide), if_pos (hd0.mpr c0')]
      rw [hF]
      exact ⟨W_le (W_sk W) (by omega), rfl⟩
end CR2
