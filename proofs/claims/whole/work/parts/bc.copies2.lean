/-! CONTRACTS ONCE MORE, 2 (printed by wip/whole/gencopy2.py) -/
section CP2
variable {G : k_G} {l : Launch}
theorem C_take1 (ok : k_ok G l) {a N w k : Nat} {B : Nat × Nat} {h : k_H} {M : s_M} {x : Int32} (W : c_W a B h M N w) (hn : g_n M + 1 < 9000) (hlim0 : e_lim (g_E M)) (hpk : g_pk M) (h0 : g_p0 M) (hlim : s_inB x 0 2 = true → ∀ y, (wk_list M (-2147483648)).head? = some y → g_ps M (wk_tE M x y.1) ∧ e_lim (wk_tE M x y.1) ∧ g_sp M (wk_tE M x y.1) ≤ k ∧ r_val y.1 (g_n M + 1) (wk_tE M x y.1).2.1 = rk_v M y.1) :
    k_ct (tX11_take G l) [vR (some a), vI x] h (c_R a B (F_take M x) x_I (N + 1 + k) w) := by
  refine eX11_take ok.2 ?_
  cases hin : s_inB x 0 2 with
  | false =>
    refine bX11_take_0x (x_X11_requireWorker ok (in3_not hin)) ?_
    rintro _ rfl
    have hF : F_take M x = (M, 1, 0) := by unfold F_take; rw [if_pos hin]
    rw [hF]
    exact ⟨W_le (W_sk W) (by omega), rfl⟩
  | true =>
    obtain ⟨o14, -⟩ := W_ob W
    refine bX11_take_0 (c_X11_requireWorker ok (in3_yes hin)) ?_
    rintro _ hh
    rw [hh]
    refine bX11_take_4 (k_is_o o14) (C_firstWork ok W hlim0) ?_
    rintro h1 _ ⟨W1, ⟨rfl, hw⟩ | ⟨q, y, rfl, hw, hy, pn⟩⟩
    · have hF : F_take M x = (M, 0, -2147483648) := by unfold F_take; rw [if_neg (by rw [hin]; decide), hw]
      exact bX11_take_10 (fun _ => bX11_take_15 (R_ok (W_le W1 (by omega)) hF)) (fun a e => by cases e)
    · have hF : F_take M x = (g_cm M (wk_tE M x y.1), 0, o_told (rk_v M y.1)) := by unfold F_take; rw [if_neg (by rw [hin]; decide), hw]
      obtain ⟨g1, g2, g3, g4⟩ := hlim hin y hw
      refine bX11_take_10 (fun e => by cases e) (fun a' _ => ?_)
      obtain ⟨o14, f0, f1, f2, f3, f4, f5, o11⟩ := W_ob W1
      refine bX11_take_18 o14 rfl (k_is_o o11) (O_open ok W1 (by omega)) ?_
      rintro h2 ⟨O2, pn2⟩
      obtain ⟨o14, f0, f1, f2, f3, f4, f5, o11⟩ := O_ob O2
      refine bX11_take_26 o14 rfl (O_lease ok (pn2 _ _ pn) hy) ?_
      rintro _ _ ⟨hh, rfl⟩
      rw [hh]
      have eE : wk_tE M x y.1 = e_put (g_n M + 1) (s_cd (-7) (s_no y.1 1) 10000) (s_apO 0 (10000 * x + nI (g_n M + 1) + 10) (nI (g_n M + 1)) (r_val (s_cd (-7) (s_no y.1 1) 10000) (g_n M + 1) (g_E M).2.1)) (g_E M) := by
        rw [ap_set]; rfl
      refine bX11_take_35 o14 rfl o11 rfl (k_is_o o11) (O_alter ok O2 (s_cd_lt na_m6.2.1 (s_no_na y.1 1) na_m6.2.2.2.2.2.2.2) (by rw [← eE]; exact g2)) ?_
      rintro h3 ⟨O3, pn3⟩
      rw [← eE] at O3
      obtain ⟨o14, -⟩ := O_ob O3
      refine bX11_take_54 (k_is_o o14) (O_close ok O3 (ex_put _ _ _ _) g2 hpk h0 g1) ?_
      rintro h4 ⟨W4, pn4⟩
      obtain ⟨o14, f0, f1, f2, f3, f4, f5, o11⟩ := W_ob W4
      obtain ⟨f, o7⟩ := pin_o (pn4 _ _ (pn3 _ _ (by omega) (pn2 _ _ pn)))
      refine bX11_take_58 o14 rfl o7 rfl (k_is_o o11) (W_value ok W4 (by omega)) ?_
      rintro h5 _ ⟨W5, rfl, -⟩
      have ev : rk_v (g_cm M (wk_tE M x y.1)) y.1 = rk_v M y.1 := g4
      rw [ev]
      exact bX11_take_69 (R_ok (W_le W5 (by omega)) hF)
theorem C_finish1 (ok : k_ok G l) {a N w k : Nat} {B : Nat × Nat} {h : k_H} {M : s_M} {x : Int32} (W : c_W a B h M N w) (hn : g_n M + 1 < 9000) (hlim0 : e_lim (g_E M)) (hpk : g_pk M) (h0 : g_p0 M) (hlim : s_inB x 0 2 = true → ∀ y, (wk_list M x).head? = some y → g_ps M (wk_fE M y.1) ∧ e_lim (wk_fE M y.1) ∧ g_sp M (wk_fE M y.1) ≤ k ∧ s_cd (-5) (s_no y.1 1) 10000 = y.1) :
    k_ct (tX11_finish G l) [vR (some a), vI x] h (c_R a B (F_finish M x) x_I (N + 1 + k) w) := by
  refine eX11_finish ok.2 ?_
  cases hin : s_inB x 0 2 with
  | false =>
    refine bX11_finish_0x (x_X11_requireWorker ok (in3_not hin)) ?_
    rintro _ rfl
    have hF : F_finish M x = (M, 1, 0) := by unfold F_finish; rw [if_pos hin]
    rw [hF]
    exact ⟨W_le (W_sk W) (by omega), rfl⟩
  | true =>
    obtain ⟨o14, -⟩ := W_ob W
    refine bX11_finish_0 (c_X11_requireWorker ok (in3_yes hin)) ?_
    rintro _ hh
    rw [hh]
    refine bX11_finish_4 (k_is_o o14) (C_firstWork ok W hlim0) ?_
    rintro h1 _ ⟨W1, ⟨rfl, hw⟩ | ⟨q, y, rfl, hw, hy, pn⟩⟩
    · have hF : F_finish M x = (M, 0, -2147483648) := by unfold F_finish; rw [if_neg (by rw [hin]; decide), hw]
      exact bX11_finish_9 (fun _ => bX11_finish_14 (R_ok (W_le W1 (by omega)) hF)) (fun a e => by cases e)
    · have hF : F_finish M x = (g_cm M (wk_fE M y.1), 0, o_told (rk_v M y.1)) := by unfold F_finish; rw [if_neg (by rw [hin]; decide), hw]
      obtain ⟨g1, g2, g3, g4⟩ := hlim hin y hw
      refine bX11_finish_9 (fun e => by cases e) (fun a' _ => ?_)
      obtain ⟨o14, f0, f1, f2, f3, f4, f5, o11⟩ := W_ob W1
      obtain ⟨f, o7⟩ := pin_o pn
      refine bX11_finish_17 o14 rfl o7 rfl (k_is_o o11) (W_value ok W1 (by omega)) ?_
      rintro h1 _ ⟨W1, rfl, pn1, -⟩
      obtain ⟨o14, f0, f1, f2, f3, f4, f5, o11⟩ := W_ob W1
      refine bX11_finish_28 o14 rfl (k_is_o o11) (O_open ok W1 (by omega)) ?_
      rintro h2 ⟨O2, pn2⟩
      obtain ⟨o14, f0, f1, f2, f3, f4, f5, o11⟩ := O_ob O2
      have p2 := pn2 _ _ (pn1 _ _ pn)
      obtain ⟨f, o7⟩ := pin_o p2
      have e1 : ∀ (c : Nat) (E : e_S), e_put (g_n M + 1) c (s_apO 1 0 (nI (g_n M + 1)) (r_val c (g_n M + 1) E.2.1)) E = e_put (g_n M + 1) c none E := fun c E => by
        unfold s_apO
        rw [if_pos rfl]
      have eE : wk_fE M y.1 = e_put (g_n M + 1) (s_cd (-7) (s_no y.1 1) 10000) none (e_put (g_n M + 1) y.1 none (g_E M)) := by
        unfold wk_fE
        rw [g4]
      have l1 : e_lim (e_put (g_n M + 1) y.1 none (g_E M)) := by
        rw [eE] at g2
        exact e_lim_le g2 (e_le_put _ _ _ _)
      refine bX11_finish_37 o14 rfl o7 rfl (k_is_o o11) (O_alter ok O2 hy (by rw [e1]; exact l1)) ?_
      rintro h3 ⟨O3, pn3⟩
      rw [e1] at O3
      have p3 := pn3 _ _ (by omega) p2
      obtain ⟨o14, f0, f1, f2, f3, f4, f5, o11⟩ := O_ob O3
      refine bX11_finish_50 o14 rfl (O_lease ok p3 hy) ?_
      rintro _ _ ⟨hh, rfl⟩
      rw [hh]
      refine bX11_finish_59 (k_is_o o11) (O_alter ok O3 (s_cd_lt na_m6.2.1 (s_no_na y.1 1) na_m6.2.2.2.2.2.2.2) (by rw [e1, ← eE]; exact g2)) ?_
      rintro h4 ⟨O4, -⟩
      rw [e1, ← eE] at O4
      obtain ⟨o14, -⟩ := O_ob O4
      refine bX11_finish_63 (k_is_o o14) (O_close ok O4 (ex_trans (ex_put _ _ _ _) (ex_put _ _ _ _)) g2 hpk h0 g1) ?_
      rintro h5 ⟨W5, -⟩
      exact bX11_finish_67 (R_ok (W_le W5 (by omega)) hF)
end CP2
