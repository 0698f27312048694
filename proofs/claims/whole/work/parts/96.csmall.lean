/-! SMALL CALLS OF THE CLASS -/
def x_A (k : Nat) : String := x_IA
def x_I (k : Nat) : String := if k = 1 then x_IO else x_IS
theorem ob_upd {a : Nat} {h : k_H} {M M' : s_M} (fs : List k_V) (o : h.1 a = some (k_o 14 fs)) : k_mo a [] (fun q => q = a) 0 h (k_up h a (k_o 14 fs)) := mv_o o (Or.inr rfl)
/-- the class's own object changes -/
theorem rs_own {a w n S : Nat} {h h' : k_H} {M M' : s_M} {E : e_S} {Q : List k_K2} {PS : List k_PT} {fs : List k_V} (s : c_sE a h E n Q S) (r : c_rs a h M Q w PS) (hh : h' = k_up h a (k_o 14 fs)) (ho : c_ob a h' M') (e : g_X M' = g_X M ∧ g_ser M' = g_ser M ∧ g_MK M' = g_MK M ∧ g_DS M' = g_DS M ∧ g_WT M' = g_WT M) :
    c_sE a h' E n Q S ∧ c_rs a h' M' Q w PS ∧ k_mo a [] (fun q => q = a) 0 h h' := by
  obtain ⟨r1, r2, r3, r4, r5, r6, r7⟩ := r
  have m : k_mo a [] (fun q => q = a) 0 h h' := by rw [hh]; exact mv_o r3 (Or.inr rfl)
  have nO : ∀ q ci fs, h.1 q = some (k_o ci fs) → ci ≠ 14 → ¬ (q = a) := fun q ci fs hq hc z => by rw [z, r3] at hq; cases hq; exact hc rfl
  obtain ⟨e1, e2, e3, e4, e5⟩ := e
  refine ⟨sE_fr s m (by simp) (fun i h1 h2 z => by omega) (fun q ci fs hq hc => nO q ci fs hq (by rcases hc with e | e | e <;> rw [e] <;> decide)), ⟨?_, pa_fr r2 m (by simp) ⟨by omega, by omega⟩ (fun q fs hq => nO q 8 fs hq (by decide)), ho, cl_fr r4 m.1 (by simp) ⟨by omega, by omega, by omega⟩, ?_, ?_, ?_⟩, m⟩
  · rw [e1, e2]
    exact TX_fr r1 m (by simp) (fun q ci fs hq hc => nO q ci fs hq (by rcases hc with e | e <;> rw [e] <;> decide)) (fun i h1 h2 z => by omega)
  · rw [e3]; exact mk_fr r5 m.1 (by omega)
  · rw [e4]; exact dr_fr r6 m.1 (by simp) (by omega) (fun q fs hq => nO q 5 fs hq (by decide))
  · rw [e5]; exact wa_fr r7 m.1 (by simp) (by omega) (fun q fs hq => nO q 13 fs hq (by decide))
theorem W_own {a w N : Nat} {B : Nat × Nat} {h h' : k_H} {M M' : s_M} {fs : List k_V} (W : c_W a B h M N w) (hh : h' = k_up h a (k_o 14 fs)) (ho : c_ob a h' M') (e : g_X M' = g_X M ∧ g_ser M' = g_ser M ∧ g_MK M' = g_MK M ∧ g_DS M' = g_DS M ∧ g_WT M' = g_WT M) (e2 : g_E M' = g_E M ∧ g_n M' = g_n M ∧ g_PT M' = g_PT M) : c_W a B h' M' N w := by
  obtain ⟨Q, S, PS, s, r, p, co⟩ := W
  obtain ⟨s1, q1, m1⟩ := rs_own s r hh ho e
  obtain ⟨e3, e4, e5⟩ := e2
  refine ⟨Q, S, PS, by rw [e3, e4]; exact s1, q1, ⟨by rw [e5]; exact p.1, ?_⟩, co_le (co_mo co m1) (Nat.le_refl _)⟩
  unfold g_V
  rw [e3, e4]
  exact p.2
section CSM
variable {G : k_G} {l : Launch}
theorem C_why (ok : k_ok G l) {a N w : Nat} {B : Nat × Nat} {h : k_H} {M : s_M} (W : c_W a B h M N w) : k_ct (tX11_why G l) [vR (some a)] h (c_R a B (F_why M) x_3 N w) := by
  obtain ⟨Q, S, PS, s, r, p, co⟩ := id W
  obtain ⟨r1, r2, r3, r4, r5, r6, r7⟩ := id r
  exact eX11_why ok.2 (bX11_why_0 r3 rfl (R_ok W rfl))
theorem C_version (ok : k_ok G l) {a N w : Nat} {B : Nat × Nat} {h : k_H} {M : s_M} (W : c_W a B h M N w) : k_ct (tX11_version G l) [vR (some a)] h (c_R a B (F_version M) x_3 N w) := by
  obtain ⟨Q, S, PS, s, r, p, co⟩ := id W
  obtain ⟨r1, r2, r3, r4, r5, r6, r7⟩ := id r
  obtain ⟨f0, f1, f2, f3, f4, f5, o11⟩ := sE_obj s
  exact eX11_version ok.2 (bX11_version_0 r3 rfl o11 rfl (R_ok W rfl))
theorem C_lose (ok : k_ok G l) {a N w : Nat} {B : Nat × Nat} {h : k_H} {M : s_M} {d : Bool} (W : c_W a B h M N w) : k_ct (tX11_lose G l) [vR (some a), vI (kB d)] h (c_Rv a B (F_lose M d) x_3 N w) := by
  obtain ⟨Q, S, PS, s, r, p, co⟩ := id W
  obtain ⟨r1, r2, r3, r4, r5, r6, r7⟩ := id r
  refine eX11_lose ok.2 (bX11_lose_0 (fun c => ?_) (fun c => ?_))
  · rw [kB_0] at c
    subst c
    refine bX11_lose_9 (bX11_lose_10 r3 rfl (bX11_lose_13 ?_))
    generalize hh : k_up h a _ = h'
    have ho : c_ob a h' (g_sl M 2) := by rw [← hh]; exact k_up_self _ _ _
    exact ⟨W_own (M' := g_sl M 2) W hh.symm ho ⟨rfl, rfl, rfl, rfl, rfl⟩ ⟨rfl, rfl, rfl⟩, rfl⟩
  · rw [kB_n0] at c
    subst c
    refine bX11_lose_5 (bX11_lose_10 r3 rfl (bX11_lose_13 ?_))
    generalize hh : k_up h a _ = h'
    have ho : c_ob a h' (g_sl M 1) := by rw [← hh]; exact k_up_self _ _ _
    exact ⟨W_own (M' := g_sl M 1) W hh.symm ho ⟨rfl, rfl, rfl, rfl, rfl⟩ ⟨rfl, rfl, rfl⟩, rfl⟩
theorem V_adv {M : s_M} {k gen : Nat} {a S : Nat} {h : k_H} {Q : List k_K2} (s : c_sE a h (g_E M) (g_n M) Q S) : g_V (g_adv M k gen) = g_V M := by
  obtain ⟨KS, L, WS, z, st, rE, q, e⟩ := s
  obtain ⟨cK, cW, cH, xs, ka, -, -, ⟨g1, g2, g3⟩, tW, tn, ta, tw⟩ := id st
  unfold g_V m_V
  show (List.filter (fun x => (r_val x.1 (g_n M + k) (g_E M).2.1).isSome) (g_E M).1).map _ = (List.filter (fun x => (r_val x.1 (g_n M) (g_E M).2.1).isSome) (g_E M).1).map _
  congr 1
  refine List.filter_congr fun y _ => ?_
  rw [← rE.1.1, ← rE.1.1, r_val_adv g1 (Nat.le_add_right _ _)]
theorem C_recover (ok : k_ok G l) {a N w : Nat} {B : Nat × Nat} {h : k_H} {M : s_M} (W : c_W a B h M N w) (hn : g_n M + 10 ≤ 9000) : k_ct (tX11_recover G l) [vR (some a)] h (c_R a B (F_recover M) x_3 N w) := by
  obtain ⟨Q, S, PS, s, r, p, co⟩ := id W
  obtain ⟨r1, r2, r3, r4, r5, r6, r7⟩ := id r
  refine eX11_recover ok.2 (bX11_recover_0 r3 rfl rfl ?_)
  generalize hh : k_up h a _ = h'
  have ho : c_ob a h' (g_adv M 10 (g_gen M + 1)) := by
    rw [← hh, nI_1]
    exact k_up_self _ _ _
  obtain ⟨s1, q1, m1⟩ := rs_own (M' := g_adv M 10 (g_gen M + 1)) s r hh.symm ho ⟨rfl, rfl, rfl, rfl, rfl⟩
  obtain ⟨f0, f1, f2, f3, f4, f5, o11⟩ := sE_obj s1
  refine bX11_recover_10 ho rfl (k_is_o o11) (c_E_advance ok (m := 10) s1 hn) ?_
  rintro h2 ⟨s2, m2⟩
  have q2 := rs_sto q1 s1 m2
  obtain ⟨f0', f1', f2', f3', f4', f5', o12⟩ := sE_obj s2
  have co2 : c_co a B h2 (S + N) := co_le (co_mo (co_mo co m1) m2) (Nat.le_refl _)
  refine bX11_recover_19 q2.2.2.1 rfl o12 rfl (R_ok (M := g_adv M 10 (g_gen M + 1)) ⟨Q, S, PS, s2, q2, ⟨p.1, ?_⟩, co2⟩ rfl)
  rw [V_adv s]
  exact p.2
theorem C_pass (ok : k_ok G l) {a N w : Nat} {B : Nat × Nat} {h : k_H} {M : s_M} {x : Int32} (W : c_W a B h M N w) (hn : g_n M + 10 ≤ 9000) : k_ct (tX11_pass G l) [vR (some a), vI x] h (c_R a B (F_pass M x) x_A (N + 1) w) := by
  obtain ⟨Q, S, PS, s, r, p, co⟩ := id W
  obtain ⟨r1, r2, r3, r4, r5, r6, r7⟩ := id r
  have bad : s_inB x 1 10 = false → k_X (jX11_pass G l h) h 11 [] [] (c_R a B (F_pass M x) x_A (N + 1) w) := fun hw =>
    bX11_pass_11 (R_x (k := 1) W (by unfold F_pass; rw [if_pos hw]) (by decide))
  refine eX11_pass ok.2 (bX11_pass_0 (fun c => bad ?_) (fun c1 => bX11_pass_5 (fun c2 => ?_) (fun c => bad ?_)))
  · unfold s_inB; rw [decide_eq_false (by simpa using c), Bool.false_and]
  · have hin : s_inB x 1 10 = true := by unfold s_inB; rw [decide_eq_true c1, decide_eq_true (Int32.not_lt.mpr c2)]; rfl
    obtain ⟨hx, hx1, hx2⟩ := s_inA (a := 1) (m := 10) (by decide) (by decide) hin
    obtain ⟨f0, f1, f2, f3, f4, f5, o11⟩ := sE_obj s
    have hadv := c_E_advance ok (m := x.toInt.toNat) s (by omega)
    rw [← hx] at hadv
    refine bX11_pass_21 r3 rfl (k_is_o o11) hadv ?_
    rintro h2 ⟨s2, m2⟩
    have q2 := rs_sto r s m2
    obtain ⟨f0', f1', f2', f3', f4', f5', o12⟩ := sE_obj s2
    exact bX11_pass_29 q2.2.2.1 rfl o12 rfl (R_ok (M := g_adv M x.toInt.toNat (g_gen M)) ⟨Q, S, PS, s2, q2, ⟨p.1, by rw [V_adv s]; exact p.2⟩, co_le (co_mo co m2) (by omega)⟩ (by unfold F_pass; rw [if_neg (by rw [hin]; decide)]))
  · unfold s_inB; rw [decide_eq_false (show ¬ ¬ (10 : Int32) < x from fun z => c (Int32.not_lt.mp z)), Bool.and_false]
theorem C_value (ok : k_ok G l) {a N w : Nat} {B : Nat × Nat} {h : k_H} {M : s_M} {v a1 b1 e1 : Int32} (W : c_W a B h M N w) : k_ct (tX11_value G l) [vR (some a), vI v, vI a1, vI b1, vI e1] h (c_R a B (F_value M v a1 b1 e1) x_A (N + 1) w) := by
  obtain ⟨Q, S, PS, s, r, p, co⟩ := id W
  obtain ⟨r1, r2, r3, r4, r5, r6, r7⟩ := id r
  obtain ⟨f0, f1, f2, f3, f4, f5, o11⟩ := sE_obj s
  obtain ⟨n9, E9, -, -⟩ := sE_n s
  have bad : s_inB v 0 (nI (g_n M)) = false → k_X (jX11_value G l h) h 15 [] [] (c_R a B (F_value M v a1 b1 e1) x_A (N + 1) w) := fun hw =>
    bX11_value_15 (R_x (k := 1) W (by unfold F_value; rw [if_pos (by rw [hw]; rfl)]) (by decide))
  refine eX11_value ok.2 (bX11_value_0 (fun c => bad ?_) (fun c1 => bX11_value_4 r3 rfl o11 rfl (fun c2 => ?_) (fun c => bad ?_)))
  · unfold s_inB; rw [decide_eq_false (by simpa using c), Bool.false_and]
  · have hin : s_inB v 0 (nI (g_n M)) = true := by unfold s_inB; rw [decide_eq_true c1, decide_eq_true (Int32.not_lt.mpr c2)]; rfl
    obtain ⟨hv, hv2⟩ := s_inN (by omega) hin
    cases hk : s_keyB a1 b1 e1 with
    | false =>
      refine bX11_value_25x (x_X11_requireKey ok hk) ?_
      rintro _ rfl
      exact R_x (k := 1) W (by unfold F_value; rw [if_pos (by rw [hk, Bool.and_false])]) (by decide)
    | true =>
      refine bX11_value_25 (c_X11_requireKey ok hk) ?_
      rintro _ hh
      rw [hh]
      obtain ⟨na, nb, nc⟩ := s_keyB_na hk
      have hc := s_cd_lt na nb nc
      obtain ⟨⟨z0, l1⟩, -⟩ := id r4
      refine bX11_value_32 r3 rfl rfl (c_X11_codeOf ok na nb nc) ?_
      rintro _ _ ⟨hh, rfl⟩
      rw [hh]
      have he := c_E_entryIn ok (c := s_cd a1 b1 e1) (m := v.toInt.toNat) s (by omega) (by omega)
      rw [← hv] at he
      refine bX11_value_47 (k_is_o o11) he ?_
      rintro _ y ⟨hh, hy⟩
      rw [hh]
      refine bX11_value_51 (k_is_o l1) (c_X0_load ok l1 hy) ?_
      rintro h1 e2
      obtain ⟨s1, q1, l11, m1⟩ := cell_rs s r (r_val (s_cd a1 b1 e1) v.toInt.toNat (g_E M).2.1, false) e2
      refine bX11_value_54 q1.2.2.1 rfl (k_is_o l11) (c_X0_told ok l11) ?_
      rintro _ _ ⟨hh, rfl⟩
      rw [hh, o_told_eq]
      exact bX11_value_61 (R_ok (M := M) ⟨Q, S, PS, s1, q1, p, co_le (co_mo co m1) (by omega)⟩ (by unfold F_value; rw [hin, hk, if_neg (by decide)]))
  · unfold s_inB; rw [decide_eq_false (show ¬ ¬ nI (g_n M) < v from fun z => c (Int32.not_lt.mp z)), Bool.and_false]
end CSM
