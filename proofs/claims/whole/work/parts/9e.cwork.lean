/-! OPEN COMMITS OF THE CLASS; off, work, bringing back -/
def c_O (a : Nat) (B : Nat × Nat) (h : k_H) (M : s_M) (E : e_S) (N w : Nat) : Prop := ∃ (Q : List k_K2) (S : Nat) (PS : List k_PT), c_sE a h E (g_n M + 1) Q S ∧ c_rs a h M Q w PS ∧ PS.map k_pr = g_PT M ∧ c_co a B h (S + N)
theorem O_ob {a N w : Nat} {B : Nat × Nat} {h : k_H} {M : s_M} {E : e_S} (O : c_O a B h M E N w) : c_ob a h M ∧ ∃ f0 f1 f2 f3 f4 f5, h.1 (a + 1) = some (k_o 11 [f0, f1, f2, f3, f4, f5, vI (nI (g_n M + 1))]) := by
  obtain ⟨Q, S, PS, s, r, p, co⟩ := O
  exact ⟨r.2.2.1, sE_obj s⟩
theorem O_n {a N w : Nat} {B : Nat × Nat} {h : k_H} {M : s_M} {E : e_S} (O : c_O a B h M E N w) : g_n M + 1 ≤ 9000 := by
  obtain ⟨Q, S, PS, s, r, p, co⟩ := O
  exact (sE_n s).1
theorem s_na_m2 {x : Int32} (h : s_inB x 0 2 = true) : s_na (-2 - x) ∧ ¬ (-2 - x) = 10000 ∧ s_na x ∧ (0 ≤ x ∧ x < 3) := by
  rcases s_in3 h with rfl | rfl | rfl
  · exact ⟨Or.inr (by unfold s_nm; decide), by decide, Or.inr (by unfold s_nm; decide), by decide⟩
  · exact ⟨Or.inr (by unfold s_nm; decide), by decide, Or.inr (by unfold s_nm; decide), by decide⟩
  · exact ⟨Or.inr (by unfold s_nm; decide), by decide, Or.inr (by unfold s_nm; decide), by decide⟩
theorem in3_not {x : Int32} (h : s_inB x 0 2 = false) : ¬ (0 ≤ x ∧ x < 3) := fun z => by
  unfold s_inB at h
  rw [decide_eq_true (Int32.not_lt.mpr z.1), Bool.true_and, decide_eq_false_iff_not, Classical.not_not] at h
  have h1 := Int32.lt_iff_toInt_lt.mp h
  have h2 := Int32.lt_iff_toInt_lt.mp z.2
  have e1 : (2 : Int32).toInt = 2 := by decide
  have e2 : (3 : Int32).toInt = 3 := by decide
  omega
theorem na_m6 : s_na (-6) ∧ s_na (-7) ∧ s_na (-5) ∧ s_na (-4) ∧ s_na (-3) ∧ s_na (-2) ∧ s_na (-1) ∧ s_na 10000 :=
  ⟨Or.inr (by unfold s_nm; decide), Or.inr (by unfold s_nm; decide), Or.inr (by unfold s_nm; decide), Or.inr (by unfold s_nm; decide), Or.inr (by unfold s_nm; decide), Or.inr (by unfold s_nm; decide), Or.inr (by unfold s_nm; decide), Or.inl rfl⟩
section COC
variable {G : k_G} {l : Launch}
theorem O_openM (ok : k_ok G l) {a N w : Nat} {B : Nat × Nat} {h : k_H} {M : s_M} (W : c_W a B h M N w) (hn : g_n M + 1 ≤ 9000) : k_ctv (tX8_advance G l) [vR (some (a + 1)), vI 1] h (fun h' => c_O a B h' M (g_E M) N w ∧ k_mo a [11] (fun _ => False) 0 h h') := by
  obtain ⟨Q, S, PS, s, r, p, co⟩ := W
  obtain ⟨KS, L, WS, z, st, rE, q, e⟩ := id s
  obtain ⟨h', t, hh⟩ := c_X8_advance ok (m := 1) (st_obj st) hn
  have st' := c_st_adv (m := 1) st hn
  rw [← hh] at st'
  have m : k_mo a [11] (fun _ => False) 0 h h' := by rw [hh]; exact mv_o (st_obj st) (Or.inl (by simp))
  have s1 : c_sE a h' (g_E M) (g_n M + 1) Q S := ⟨KS, L, WS, z, st', rE, q, e⟩
  exact ⟨h', t, ⟨Q, S, PS, s1, rs_fr r m (fun k hk => by simp at hk; simp [hk]) (fun _ _ _ z => z) (fun _ _ _ _ _ z => z), p.1, co_le (co_mo co m) (Nat.le_refl _)⟩, m⟩
theorem O_open (ok : k_ok G l) {a N w : Nat} {B : Nat × Nat} {h : k_H} {M : s_M} (W : c_W a B h M N w) (hn : g_n M + 1 ≤ 9000) : k_ctv (tX8_advance G l) [vR (some (a + 1)), vI 1] h (fun h' => c_O a B h' M (g_E M) N w ∧ ∀ c0 q0, c_pin a h c0 q0 → c_pin a h' c0 q0) := by
  obtain ⟨h', t, O, m⟩ := O_openM ok W hn
  exact ⟨h', t, O, fun c0 q0 h0 => pin_fr h0 m (by decide) id (fun _ _ _ z => z)⟩
theorem O_alter (ok : k_ok G l) {a N w c : Nat} {B : Nat × Nat} {h : k_H} {M : s_M} {E : e_S} {kd g : Int32} (O : c_O a B h M E N w) (hc : c < 1331000000000) (hlim : e_lim (e_put (g_n M + 1) c (s_apO kd g (nI (g_n M + 1)) (r_val c (g_n M + 1) E.2.1)) E)) :
    k_ctv (tX8_alter G l) [vR (some (a + 1)), vI kd, vJ (lN c), vI g] h (fun h' => c_O a B h' M (e_put (g_n M + 1) c (s_apO kd g (nI (g_n M + 1)) (r_val c (g_n M + 1) E.2.1)) E) N w ∧ ∀ c0 q0, c0 < 2 ^ 62 → c_pin a h c0 q0 → c_pin a h' c0 q0) := by
  obtain ⟨Q, S, PS, s, r, p, co⟩ := O
  obtain ⟨h', t, S', s', hS, m, pn⟩ := c_E_alterP ok (kd := kd) (g := g) s hc hlim
  exact ⟨h', t, ⟨Q, S', PS, s', rs_sto r s m, p, co_le (co_mo co m) (by omega)⟩, pn⟩
theorem O_wipeM (ok : k_ok G l) {a N w lo hi : Nat} {B : Nat × Nat} {h : k_H} {M : s_M} {E : e_S} (O : c_O a B h M E N w) (hlo : lo < hi) (hhi : hi ≤ 1331000000000) (hlim : e_lim (e_clr (g_n M + 1) lo hi E)) :
    k_ctv (tX8_wipe G l) [vR (some (a + 1)), vJ (lN lo), vJ (lN hi)] h (fun h' => c_O a B h' M (e_clr (g_n M + 1) lo hi E) N w ∧ ∃ o, k_mo a [6, 7, 11] (c_A5 a) o h h') := by
  obtain ⟨Q, S, PS, s, r, p, co⟩ := O
  obtain ⟨h', t, S', s', hS, m⟩ := c_E_wipe ok s hlo hhi hlim
  exact ⟨h', t, ⟨Q, S', PS, s', rs_sto r s m, p, co_le (co_mo co m) (by omega)⟩, _, m⟩
theorem O_wipe (ok : k_ok G l) {a N w lo hi : Nat} {B : Nat × Nat} {h : k_H} {M : s_M} {E : e_S} (O : c_O a B h M E N w) (hlo : lo < hi) (hhi : hi ≤ 1331000000000) (hlim : e_lim (e_clr (g_n M + 1) lo hi E)) :
    k_ctv (tX8_wipe G l) [vR (some (a + 1)), vJ (lN lo), vJ (lN hi)] h (fun h' => c_O a B h' M (e_clr (g_n M + 1) lo hi E) N w) := by
  obtain ⟨h', t, O', -⟩ := O_wipeM ok O hlo hhi hlim
  exact ⟨h', t, O'⟩
theorem O_closeM (ok : k_ok G l) {a N w : Nat} {B : Nat × Nat} {h : k_H} {M : s_M} {E : e_S} (O : c_O a B h M E N w) (hext : e_ex (g_n M) (g_E M) E) (hlim : e_lim E) (hpk : g_pk M) (h0 : g_p0 M) (hps : g_ps M E) :
    k_ctv (tX11_closeCommit G l) [vR (some a)] h (fun h' => c_W a B h' (g_cm M E) (N + g_sp M E) w ∧ k_mo a [8, 13] (fun q => q = a + 4 ∨ q = a + 7) (g_sp M E) h h') := by
  obtain ⟨Q, S, PS, s, r, p, co⟩ := O
  exact C_closeP ok s r p co (fun c => hext c _ (Nat.le_refl _)) hlim hpk h0 hps
theorem O_close (ok : k_ok G l) {a N w : Nat} {B : Nat × Nat} {h : k_H} {M : s_M} {E : e_S} (O : c_O a B h M E N w) (hext : e_ex (g_n M) (g_E M) E) (hlim : e_lim E) (hpk : g_pk M) (h0 : g_p0 M) (hps : g_ps M E) :
    k_ctv (tX11_closeCommit G l) [vR (some a)] h (fun h' => c_W a B h' (g_cm M E) (N + g_sp M E) w ∧ ∀ c0 q0, c_pin a h c0 q0 → c_pin a h' c0 q0) := by
  obtain ⟨h', t, W, m⟩ := O_closeM ok O hext hlim hpk h0 hps
  obtain ⟨Q, S, PS, s, r, p, co⟩ := O
  obtain ⟨KS, L, WS, z', st, -⟩ := id s
  obtain ⟨cK, cW, cH, xs, ka, ⟨-, -, -, s4', -⟩, -⟩ := id st
  obtain ⟨-, ⟨cap, p1, -⟩, -⟩ := id r.2.1
  refine ⟨h', t, W, fun c0 q0 h0 => pin_fr h0 m (by decide) (by omega) (fun q fs hq z => ?_)⟩
  rcases z with z | z
  · rw [z, s4'] at hq; cases hq
  · rw [z, p1] at hq; cases hq
theorem W_list (ok : k_ok G l) {a N w lo hi : Nat} {B : Nat × Nat} {h : k_H} {M : s_M} (W : c_W a B h M N w) (hlo : lo < 2 ^ 62) (hhi : hi < 2 ^ 62) (hlim : e_lim (g_E M)) : k_ctr (tX8_listHeld G l) [vR (some (a + 1)), vJ (lN lo), vJ (lN hi)] h (fun h' v => v = some (a + 4) ∧ c_W a B h' M N w ∧ (∃ (X : List k_K2) (cap : Nat), h'.1 (a + 4) = some (k_l (X.map (fun x => x.2)) cap) ∧ X.map (fun x => x.1) = (c_hl lo hi (g_n M) (g_E M).1 (g_E M).2.1).map (fun x => x.1) ∧ ∀ y ∈ X, y.1 < 1331000000000 ∧ c_pin a h' y.1 y.2)) := by
  obtain ⟨Q, S, PS, s, r, p, co⟩ := W
  obtain ⟨h', v, t, e, s', ⟨X, cap, x1, x2, x3⟩, m⟩ := c_E_listHeldP ok s hlo hhi hlim
  exact ⟨h', v, t, e, ⟨Q, S, PS, s', rs_sto r s (mv_mono m (fun _ h => by cases h) (fun p h => Or.inr (Or.inr (Or.inl h))) (Nat.le_refl _)), p, co_le (co_mo co m) (Nat.le_refl _)⟩, X, cap, x1, x2, fun y hy => ⟨(x3 y hy).1, (x3 y hy).2.1⟩⟩
theorem W_value (ok : k_ok G l) {a N w c : Nat} {B : Nat × Nat} {h : k_H} {M : s_M} (W : c_W a B h M N w) (hc : c < 2 ^ 62) : k_cti (tX8_valueNow G l) [vR (some (a + 1)), vJ (lN c)] h (fun h' v => c_W a B h' M N w ∧ v = o_told (rk_v M c) ∧ (∀ c0 q0, c_pin a h c0 q0 → c_pin a h' c0 q0) ∧ ∀ (ys : List Nat) (cap : Nat), h.1 (a + 4) = some (k_l ys cap) → h'.1 (a + 4) = some (k_l ys cap)) := by
  obtain ⟨Q, S, PS, s, r, p, co⟩ := W
  obtain ⟨h', v, t, s', e, m⟩ := c_E_valueNowP ok s hc
  obtain ⟨KS, L, WS, z, st, -⟩ := id s
  have hcl := st_cell st
  refine ⟨h', v, t, ⟨Q, S, PS, s', rs_sto r s (mv_mono m (fun _ h => by cases h) (fun p h => Or.inr (Or.inr (Or.inr h))) (Nat.le_refl _)), p, co_le (co_mo co m) (Nat.le_refl _)⟩, e, fun c0 q0 h0 => pin_fr h0 m (by simp) (by omega) (fun q fs hq z => ?_), fun ys cap hy => m.1 _ _ hy (by omega) (fun ci fs e => by cases e)⟩
  rw [z, hcl] at hq; cases hq
theorem pin_o {a c q : Nat} {h : k_H} (p : c_pin a h c q) : ∃ f, h.1 q = some (k_o 7 [vJ (lN c), f]) := by
  obtain ⟨xs, cap, p1, p2, f, p3⟩ := p
  exact ⟨f, p3⟩
theorem C_off (ok : k_ok G l) {a N w k : Nat} {B : Nat × Nat} {h : k_H} {M : s_M} {x : Int32} (W : c_W a B h M N w) (hn : g_n M + 1 < 9000) (hlim0 : e_lim (g_E M)) (hpk : g_pk M) (h0 : g_p0 M) (hlim : s_inB x 0 2 = true → g_ps M (of_E M x) ∧ e_lim (of_E M x) ∧ g_sp M (of_E M x) ≤ k) :
    k_ct (tX11_off G l) [vR (some a), vI x] h (c_R a B (F_off M x) x_I (N + 1 + k) w) := by
  refine eX11_off ok.2 ?_
  cases hin : s_inB x 0 2 with
  | false =>
    refine bX11_off_0x (x_X11_requireIndex ok (in3_not hin)) ?_
    rintro _ rfl
    have hF : F_off M x = (M, 1, 0) := by unfold F_off; rw [if_pos hin]
    rw [hF]
    exact ⟨W_le (W_sk W) (by omega), rfl⟩
  | true =>
    obtain ⟨na, nn, nx, hx⟩ := s_na_m2 hin
    obtain ⟨g1, g2, g3⟩ := hlim hin
    have hF : F_off M x = (g_cm M (of_E M x), 0, nI (r_flt (of_lo x) (of_hi x + 1) (fun c => (r_val c (g_n M) (g_E M).2.1).isSome) (g_E M).1).length) := by unfold F_off; rw [if_neg (by rw [hin]; decide)]
    obtain ⟨hl1, hl2, hl3, hl4⟩ := s_hi_la na na_m6.2.2.2.2.2.2.2
    have ehi : of_hi x + 1 = s_hi (-2 - x) 10000 := by
      show s_la (-2 - x) 10000 + 1 = _
      rcases hl1 with e | e
      · exact e.symm
      · unfold s_hi at e ⊢
        rw [if_neg nn] at e ⊢
        have h9 := s_dg_lt na
        have h8 : s_dg 10000 = 0 := s_dg_none
        unfold s_la at e ⊢
        rw [if_neg nn] at e ⊢
        omega
    refine bX11_off_0 (c_X11_requireIndex ok hx) ?_
    rintro _ hh
    rw [hh]
    refine bX11_off_4 (c_X11_lowOf ok na na_m6.2.2.2.2.2.2.2) ?_
    rintro _ _ ⟨hh, rfl⟩
    rw [hh]
    refine bX11_off_14 (c_X11_highOf ok na na_m6.2.2.2.2.2.2.2) ?_
    rintro _ _ ⟨hh, rfl⟩
    rw [hh]
    obtain ⟨o14, f0, f1, f2, f3, f4, f5, o11⟩ := W_ob W
    refine bX11_off_25 o14 rfl (k_is_o o11) (W_list ok W (by omega) (by omega) hlim0) ?_
    rintro h1 _ ⟨rfl, W1, X, cap, x1, x2, -⟩
    have hlen : (X.map (fun x => x.2)).length = (r_flt (of_lo x) (of_hi x + 1) (fun c => (r_val c (g_n M) (g_E M).2.1).isSome) (g_E M).1).length := by
      have := congrArg List.length x2
      rw [List.length_map, List.length_map] at this
      rw [List.length_map, this, ehi]
      rfl
    refine bX11_off_37 (Or.inr ⟨rfl, _, _, x1⟩) (c_size ok x1) ?_
    rintro _ _ ⟨hh, rfl⟩
    rw [hh, hlen]
    obtain ⟨o14, f0, f1, f2, f3, f4, f5, o11⟩ := W_ob W1
    refine bX11_off_40 o14 rfl (k_is_o o11) (O_open ok W1 (by omega)) ?_
    rintro h2 ⟨O2, -⟩
    obtain ⟨o14, f0, f1, f2, f3, f4, f5, o11⟩ := O_ob O2
    have le1 : e_lim (e_clr (g_n M + 1) (s_lo (-2 - x) 10000) (s_hi (-2 - x) 10000) (g_E M)) := by
      rw [← ehi]
      exact e_lim_le g2 (e_le_put _ _ _ _)
    refine bX11_off_50 o14 rfl (k_is_o o11) (O_wipe ok O2 hl3 hl2 le1) ?_
    rintro h3 O3
    obtain ⟨o14, f0, f1, f2, f3, f4, f5, o11⟩ := O_ob O3
    refine bX11_off_60 o14 rfl (c_X11_codeOf_ ok na_m6.1 nx) ?_
    rintro _ _ ⟨hh, rfl⟩
    rw [hh]
    have eE : of_E M x = e_put (g_n M + 1) (s_cd (-6) x 10000) (s_apO 0 (-1000) (nI (g_n M + 1)) (r_val (s_cd (-6) x 10000) (g_n M + 1) (e_clr (g_n M + 1) (s_lo (-2 - x) 10000) (s_hi (-2 - x) 10000) (g_E M)).2.1)) (e_clr (g_n M + 1) (s_lo (-2 - x) 10000) (s_hi (-2 - x) 10000) (g_E M)) := by
      unfold of_E
      rw [ehi, ap_set]
      rfl
    refine bX11_off_71 (k_is_o o11) (O_alter ok O3 (s_cd_lt na_m6.1 nx na_m6.2.2.2.2.2.2.2) (by rw [← eE]; exact g2)) ?_
    rintro h4 ⟨O4, -⟩
    rw [← eE] at O4
    obtain ⟨o14, -⟩ := O_ob O4
    refine bX11_off_77 (k_is_o o14) (O_close ok O4 ?_ g2 hpk h0 g1) ?_
    · unfold of_E
      exact ex_trans (ex_clr _ _ _ _) (ex_put _ _ _ _)
    rintro h5 ⟨W5, -⟩
    exact bX11_off_81 (R_ok (W_le W5 (by omega)) hF)
theorem C_firstWork (ok : k_ok G l) {a N w : Nat} {B : Nat × Nat} {h : k_H} {M : s_M} {x : Int32} (W : c_W a B h M N w) (hlim0 : e_lim (g_E M)) :
    k_ctr (tX11_firstWork G l) [vR (some a), vI x] h (fun h' v => c_W a B h' M N w ∧ ((v = none ∧ (wk_list M x).head? = none) ∨ ∃ q y, v = some q ∧ (wk_list M x).head? = some y ∧ y.1 < 1331000000000 ∧ c_pin a h' y.1 q)) := by
  obtain ⟨o14, f0, f1, f2, f3, f4, f5, o11⟩ := W_ob W
  have n5 : s_na (-5) := na_m6.2.2.1
  have n0 : s_na 10000 := na_m6.2.2.2.2.2.2.2
  obtain ⟨hl1, hl2, hl3, hl4⟩ := s_hi_la n5 n0
  have ehi : s_la (-5) 10000 + 1 = s_hi (-5) 10000 := by decide
  refine k_ctr_of (eX11_firstWork ok.2 (bX11_firstWork_0 o14 rfl (c_X11_lowOf ok n5 n0) ?_))
  rintro _ _ ⟨hh, rfl⟩
  rw [hh]
  refine bX11_firstWork_12 (c_X11_highOf ok n5 n0) ?_
  rintro _ _ ⟨hh, rfl⟩
  rw [hh]
  refine bX11_firstWork_20 (k_is_o o11) (W_list ok W (by omega) (by omega) hlim0) ?_
  rintro h1 _ ⟨rfl, W1, X, cap, x1, x2, x3⟩
  refine bX11_firstWork_23 ?_
  have hXl : X.length ≤ 12000 := by
    have := congrArg List.length x2
    rw [List.length_map, List.length_map] at this
    rw [this]
    exact Nat.le_trans (List.length_filter_le _ _) hlim0.1
  have ewk : (wk_list M x).map (fun y => y.1) = ((X.map (fun y => y.1)).filter (fun c => decide (wk_hold M c = x))) := by
    rw [x2]
    unfold wk_list c_hl r_flt
    rw [ehi, List.filter_map, List.filter_filter]
    congr 1
    refine List.filter_congr fun y _ => ?_
    show (decide (s_lo (-5) 10000 ≤ y.1) && decide (y.1 < s_hi (-5) 10000) && ((rk_v M y.1).isSome && decide (wk_hold M y.1 = x))) = (decide (wk_hold M y.1 = x) && (decide (s_lo (-5) 10000 ≤ y.1) && decide (y.1 < s_hi (-5) 10000) && (r_val y.1 (g_n M) (g_E M).2.1).isSome))
    unfold rk_v
    generalize decide (s_lo (-5) 10000 ≤ y.1) = p1
    generalize decide (y.1 < s_hi (-5) 10000) = p2
    generalize decide (wk_hold M y.1 = x) = p3
    generalize (r_val y.1 (g_n M) (g_E M).2.1).isSome = p4
    cases p1 <;> cases p2 <;> cases p3 <;> cases p4 <;> rfl
  have key : ∀ (todo pre : List k_K2) (hh : k_H), X = pre ++ todo → (pre.map (fun y => y.1)).filter (fun c => decide (wk_hold M c = x)) = [] → c_W a B hh M N w → hh.1 (a + 4) = some (k_l (X.map (fun x => x.2)) cap) → (∀ y ∈ X, y.1 < 1331000000000 ∧ c_pin a hh y.1 y.2) →
      k_X (jX11_firstWork G l h) hh 26 [(0, vR (some a)), (1, vI x), (2, vR (some (a + 4))), (3, vI (nI pre.length))] [] (q_r (fun h' v => c_W a B h' M N w ∧ ((v = none ∧ (wk_list M x).head? = none) ∨ ∃ q y, v = some q ∧ (wk_list M x).head? = some y ∧ y.1 < 1331000000000 ∧ c_pin a h' y.1 q))) := by
    intro todo
    induction todo with
    | nil =>
      intro pre hh hp hf W2 e4 hX
      rw [List.append_nil] at hp
      have hpl : X.length = pre.length := by rw [hp]
      refine bX11_firstWork_26 (Or.inr ⟨rfl, _, _, e4⟩) (c_size ok e4) ?_
      rintro _ _ ⟨hh2, rfl⟩
      rw [hh2, List.length_map]
      refine bX11_firstWork_31 (fun _ => bX11_firstWork_73 ⟨_, rfl, W2, Or.inl ⟨rfl, ?_⟩⟩) (fun c => absurd (nI_le (Nat.le_of_eq hpl) (by omega)) c)
      rw [hp, hf] at ewk
      rw [List.map_eq_nil_iff.mp ewk]
      rfl
    | cons y todo ih =>
      intro pre hh hp hf W2 e4 hX
      have hlt : pre.length < X.length := by rw [hp, List.length_append, List.length_cons]; omega
      have hy : (X.map (fun x => x.2))[pre.length]? = some y.2 := by rw [hp]; simp
      have hym : y ∈ X := by rw [hp]; simp
      obtain ⟨y1, y2⟩ := hX y hym
      obtain ⟨f, oy⟩ := pin_o y2
      obtain ⟨o14, f0, f1, f2, f3, f4, f5, o11⟩ := W_ob W2
      refine bX11_firstWork_26 (Or.inr ⟨rfl, _, _, e4⟩) (c_size ok e4) ?_
      rintro _ _ ⟨hh2, rfl⟩
      rw [hh2, List.length_map]
      refine bX11_firstWork_31 (fun c => absurd c (nI_ge hlt (by omega))) (fun _ => ?_)
      refine bX11_firstWork_34 (Or.inr ⟨rfl, _, _, e4⟩) (c_get ok e4 hy) ?_
      rintro _ _ ⟨hh2, rfl⟩
      rw [hh2]
      refine bX11_firstWork_39 oy o14 rfl (c_X11_leaseOf ok oy y1) ?_
      rintro _ _ ⟨hh2, rfl⟩
      rw [hh2]
      have hcd := s_cd_lt na_m6.2.1 (s_no_na y.1 1) n0
      refine bX11_firstWork_54 (k_is_o o11) (W_value ok W2 (by omega)) ?_
      rintro h3 _ ⟨W3, rfl, pn, l4⟩
      obtain ⟨o14, f0, f1, f2, f3, f4, f5, o11⟩ := W_ob W3
      refine bX11_firstWork_57 (k_is_o o14) (c_X11_holderOf ok o14 o11) ?_
      rintro _ _ ⟨hh2, rfl⟩
      rw [hh2]
      have hold : s_hold (o_told (rk_v M (s_cd (-7) (s_no y.1 1) 10000))) (nI (g_n M)) = wk_hold M y.1 := rfl
      rw [hold]
      refine bX11_firstWork_60 (fun c => ?_) (fun c => ?_)
      · refine bX11_firstWork_67 ?_
        rw [nI_1]
        have := ih (pre ++ [y]) h3 (by rw [hp]; simp) (by rw [List.map_append, List.filter_append, hf]; simp [c]) W3 (l4 _ _ e4) (fun z hz => ⟨(hX z hz).1, pn _ _ (hX z hz).2⟩)
        rw [List.length_append, List.length_singleton] at this
        exact this
      · have hh9 : ((wk_list M x).map (fun y => y.1)).head? = some y.1 := by
          rw [ewk, hp, List.map_append, List.filter_append, hf, List.nil_append, List.map_cons, List.filter_cons_of_pos (by simp [c])]
          rfl
        rw [List.head?_map] at hh9
        cases hg : (wk_list M x).head? with
        | none => rw [hg] at hh9; cases hh9
        | some g =>
          rw [hg] at hh9
          have eg : g.1 = y.1 := by simpa using hh9
          exact bX11_firstWork_64 ⟨_, rfl, W3, Or.inr ⟨y.2, g, rfl, rfl, by rw [eg]; exact y1, by rw [eg]; exact pn _ _ y2⟩⟩
  exact key X [] h1 rfl rfl W1 x1 x3
end COC
