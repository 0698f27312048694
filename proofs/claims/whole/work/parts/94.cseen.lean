/-! THE CLASS LISTS WHAT A TRANSACTION SEES -/
theorem co_le {a T T' : Nat} {B : Nat × Nat} {h : k_H} (c : c_co a B h T) (hT : T ≤ T') : c_co a B h T' := by
  obtain ⟨c1, c2, c3⟩ := c
  exact ⟨by omega, by omega, c3⟩
theorem lst_rs {a o w cap : Nat} {h h' : k_H} {M : s_M} {Q : List k_K2} {PS : List k_PT} {ys : List Nat} (r : c_rs a h M Q w PS) (m : k_mo a [] (fun q => q = a + 12) o h h') (e : h'.1 (a + 12) = some (k_l ys cap)) : c_rs a h' M Q w PS := by
  obtain ⟨r1, r2, r3, r4, r5, r6, r7⟩ := r
  obtain ⟨⟨z0, l1⟩, ⟨cap1, l2⟩, ys2, cap2, l3⟩ := id r4
  have nO : ∀ q ci fs, h.1 q = some (k_o ci fs) → ¬ (q = a + 12) := fun q ci fs hq z => by rw [z, l3] at hq; cases hq
  exact ⟨TX_fr r1 m (by simp) (fun q ci fs hq _ => nO q ci fs hq) (fun i h1 h2 z => by omega), pa_fr r2 m (by simp) ⟨by omega, by omega⟩ (fun q fs hq => nO q 8 fs hq), ob_fr r3 m.1 (by simp) (by omega), ⟨⟨z0, m.1 _ _ l1 (by omega) (fun ci fs e => List.not_mem_nil)⟩, ⟨cap1, m.1 _ _ l2 (by omega) (fun ci fs e => by cases e)⟩, ys, cap, e⟩, mk_fr r5 m.1 (by omega), dr_fr r6 m.1 (by simp) (by omega) (fun q fs hq => nO q 5 fs hq), wa_fr r7 m.1 (by simp) (by omega) (fun q fs hq => nO q 13 fs hq)⟩
theorem lst_st {a o n cap : Nat} {h h' : k_H} {KS : List k_K2} {L : List k_E4} {WS : List k_SP} {z : Option Int32 × Bool} {ys : List Nat} (st : c_st a h KS L WS n z) (hl : h.1 (a + 12) = some (k_l ys cap)) (m : k_mo a [] (fun q => q = a + 12) o h h') : c_st a h' KS L WS n z :=
  st_fr st m (by simp) (fun i h1 h2 z => by omega) (fun q ci fs hq hc z => by rw [z, hl] at hq; cases hq)
theorem cel_st {a n : Nat} {h : k_H} {KS : List k_K2} {L : List k_E4} {WS : List k_SP} {z z0 z1 : Option Int32 × Bool} (st : c_st a h KS L WS n z) (hl : h.1 (a + 10) = some (o_cel z0.1 z0.2)) : c_st a (k_up h (a + 10) (o_cel z1.1 z1.2)) KS L WS n z :=
  st_fr st (mv_o (a := a) (K := []) (A := fun q => q = a + 10) hl (Or.inr rfl)) (by simp) (fun i h1 h2 z => by omega) (fun q ci fs hq hc z => by rw [z, hl] at hq; cases hq; rcases hc with e | e | e <;> cases e)
theorem rE_flt2 {KS : List k_K2} {L : List k_E4} {WS : List k_SP} {E : e_S} {x : Nat} (r : c_rE KS L WS E x) (s : KS.Pairwise (fun x y => x.1 < y.1)) {p : Nat → Bool} (hp : ∀ c, p c = true → ∃ k, (c, k) ∈ E.1) : (KS.filter (fun y => p y.1)).map (fun y => y.1) = (E.1.filter (fun y => p y.1)).map (fun y => y.1) := by
  obtain ⟨⟨a1, a2, a3⟩, ⟨b1, b2⟩, b3, b4, b5⟩ := r
  refine srt_ext (List.pairwise_map.mpr (s.sublist List.filter_sublist)) (List.pairwise_map.mpr (b5.sublist List.filter_sublist)) fun c => ?_
  rw [List.mem_map, List.mem_map]
  constructor
  · rintro ⟨y, hy, rfl⟩
    obtain ⟨hy1, hy2⟩ := List.mem_filter.mp hy
    obtain ⟨k, hk⟩ := hp _ hy2
    exact ⟨_, List.mem_filter.mpr ⟨hk, hy2⟩, rfl⟩
  · rintro ⟨y, hy, rfl⟩
    obtain ⟨hy1, hy2⟩ := List.mem_filter.mp hy
    obtain ⟨k, hk⟩ := b1 y hy1
    exact ⟨_, List.mem_filter.mpr ⟨hk, hy2⟩, rfl⟩
/-- what is changed by name is named -/
def g_nm (M : s_M) : Prop := ∀ t, t < 4 → ∀ y ∈ (g_X M t).2.1, y.2.1 = 1 ∨ y.2.1 = 6 ∨ (y.2.2.2.1 = y.2.2.1 + 1 ∧ ∃ k, (y.2.2.1, k) ∈ (g_E M).1)
theorem see_named {c : Nat} {P : Prop} : ∀ (CS : List k_CH) (z : Option Int32 × Bool), (∀ y ∈ CS, y.2.1 = 1 ∨ y.2.1 = 6 ∨ (s_cov y c = true → P)) → (z.1.isSome = true → P) → (s_see c CS z).1.isSome = true → P := by
  intro CS
  induction CS with
  | nil => intro z _ hz h; exact hz h
  | cons y CS ih =>
    intro z hy hz h
    refine ih _ (fun x hx => hy x (List.mem_cons_of_mem _ hx)) ?_ h
    intro h2
    replace h2 : (if s_cov y c = true then (s_apO y.2.1 y.2.2.2.2.1 0 z.1, s_apS y.2.1 z.2) else z).1.isSome = true := h2
    by_cases c1 : s_cov y c = true
    · rw [if_pos c1] at h2
      rcases hy y List.mem_cons_self with e | e | e
      · rw [e] at h2; unfold s_apO at h2; rw [if_pos rfl] at h2; cases h2
      · exfalso
        unfold s_cov s_ord at c1
        rw [e] at c1
        simp at c1
      · exact e c1
    · rw [if_neg c1] at h2; exact hz h2
theorem vis_named {M : s_M} {t c : Nat} (hin : r_in (g_E M).1 (g_E M).2.1) (hm : g_nm M) (ht : t < 4) (h : s_vis (g_see M t c) = true) : ∃ k, (c, k) ∈ (g_E M).1 := by
  unfold s_vis at h
  rw [Bool.and_eq_true] at h
  refine see_named (g_X M t).2.1 _ (fun y hy => ?_) (fun h2 => ?_) h.1
  · rcases hm t ht y hy with e | e | ⟨e1, k, e2⟩
    · exact Or.inl e
    · exact Or.inr (Or.inl e)
    · refine Or.inr (Or.inr fun hc => ⟨k, ?_⟩)
      unfold s_cov at hc
      simp only [Bool.and_eq_true, decide_eq_true_eq] at hc
      have : c = y.2.2.1 := by omega
      rw [this]; exact e2
  · obtain ⟨v, x, hx, e1, e2⟩ := val_has h2
    obtain ⟨k, hk⟩ := hin x hx
    rw [e1] at hk
    exact ⟨k, hk⟩
section CSN
variable {G : k_G} {l : Launch}
theorem c_listSeen (ok : k_ok G l) {a t lo hi T w S : Nat} {B : Nat × Nat} {h : k_H} {M : s_M} {Q : List k_K2} {PS : List k_PT} (s : c_sE a h (g_E M) (g_n M) Q S) (r : c_rs a h M Q w PS) (co : c_co a B h T) (ht : t < 4) (hb : (g_X M t).1.1 = true) (hra : (g_X M t).1.2.2.1 < 2 ^ 31) (hlo : lo < 2 ^ 62) (hhi : hi < 2 ^ 62) (hlim : e_lim (g_E M)) (hnm : g_nm M) :
    k_ctv (tX11_listSeen G l) [vR (some a), vR (some (a + c_T t)), vJ (lN lo), vJ (lN hi)] h (fun h' => c_sE a h' (g_E M) (g_n M) Q S ∧ c_rs a h' M Q w PS ∧ c_co a B h' T ∧ ∃ (X : List k_K2) (cap : Nat), h'.1 (a + 12) = some (k_l (X.map (fun x => x.2)) cap) ∧ X.map (fun x => x.1) = (g_rng M t lo hi).map (fun x => x.1) ∧ ∀ y ∈ X, y.1 < 1331000000000 ∧ (∃ (xs : List Nat) (c2 : Nat), h'.1 (a + 2) = some (k_l xs c2) ∧ y.2 ∈ xs) ∧ ∃ f, h'.1 y.2 = some (k_o 7 [vJ (lN y.1), f])) := by
  obtain ⟨KS, L, WS, z, st, rE, q, e⟩ := s
  obtain ⟨b1, b2, b3, b4⟩ := sE_lim st rE q.2 hlim (e_le_refl _)
  obtain ⟨-, -, r3, ⟨-, -, ys0, cap0, l3⟩, -⟩ := id r
  refine k_ctv_of (eX11_listSeen ok.2 (bX11_listSeen_0 r3 rfl (Or.inr ⟨rfl, _, _, l3⟩) (c_clear ok l3) ?_))
  rintro h1 hh
  have m0 : k_mo a [] (fun q => q = a + 12) 0 h h1 := by rw [hh]; exact mv_lu l3 (by omega) rfl
  have e0 : h1.1 (a + 12) = some (k_l [] cap0) := by rw [hh]; exact k_up_self _ _ _
  have st1 := lst_st st l3 m0
  have r1 := lst_rs r m0 e0
  have co1 := co_mo co m0
  obtain ⟨-, -, o3, -⟩ := id r1
  obtain ⟨cK, cW, cH, xs, ka, ⟨s1, s2, s3, s4, s5⟩, ⟨t1, t2, t3, t4⟩, ⟨g1, g2, g3⟩, tW, tn, ta, tw⟩ := id st1
  refine bX11_listSeen_7 o3 rfl (k_is_o s1) (c_X8_placeFrom ok s1 s2 t1 hlo) ?_
  rintro h1' v ⟨hh', rfl⟩
  rw [hh']
  refine bX11_listSeen_15 ?_
  have key : ∀ (d i : Nat) (hh : k_H) (Y : List k_K2) (c : Nat), KS.length - i = d → i ≤ KS.length → Y.length ≤ i → (∀ y ∈ Y, y ∈ KS) → Y ++ r_rem hi (fun c => s_vis (g_see M t c)) KS i = r_flt lo hi (fun c => s_vis (g_see M t c)) KS →
      c_st a hh KS L WS (g_n M) z → c_rs a hh M Q w PS → c_co a B hh T → hh.1 (a + 12) = some (k_l (Y.map (fun x => x.2)) c) →
      k_X (jX11_listSeen G l h) hh 17 [(0, vR (some a)), (1, vR (some (a + c_T t))), (4, vJ (lN hi)), (6, vI (nI i))] [] (q_v (fun h' => c_sE a h' (g_E M) (g_n M) Q S ∧ c_rs a h' M Q w PS ∧ c_co a B h' T ∧ ∃ (X : List k_K2) (cap : Nat), h'.1 (a + 12) = some (k_l (X.map (fun x => x.2)) cap) ∧ X.map (fun x => x.1) = (g_rng M t lo hi).map (fun x => x.1) ∧ ∀ y ∈ X, y.1 < 1331000000000 ∧ (∃ (xs : List Nat) (c2 : Nat), h'.1 (a + 2) = some (k_l xs c2) ∧ y.2 ∈ xs) ∧ ∃ f, h'.1 y.2 = some (k_o 7 [vJ (lN y.1), f]))) := by
    have fin : ∀ (hh : k_H) (Y : List k_K2) (c : Nat), Y = r_flt lo hi (fun c => s_vis (g_see M t c)) KS → c_st a hh KS L WS (g_n M) z → c_rs a hh M Q w PS → c_co a B hh T → hh.1 (a + 12) = some (k_l (Y.map (fun x => x.2)) c) →
        q_v (fun h' => c_sE a h' (g_E M) (g_n M) Q S ∧ c_rs a h' M Q w PS ∧ c_co a B h' T ∧ ∃ (X : List k_K2) (cap : Nat), h'.1 (a + 12) = some (k_l (X.map (fun x => x.2)) cap) ∧ X.map (fun x => x.1) = (g_rng M t lo hi).map (fun x => x.1) ∧ ∀ y ∈ X, y.1 < 1331000000000 ∧ (∃ (xs : List Nat) (c2 : Nat), h'.1 (a + 2) = some (k_l xs c2) ∧ y.2 ∈ xs) ∧ ∃ f, h'.1 y.2 = some (k_o 7 [vJ (lN y.1), f])) hh (.inl none) := by
      intro hh Y c hY st2 r2 co2 e2
      refine ⟨rfl, ⟨KS, L, WS, z, st2, rE, q, e⟩, r2, co2, Y, c, e2, ?_, fun y hy => ?_⟩
      · rw [hY]
        have := rE_flt2 rE b4 (p := fun c => decide (lo ≤ c) && decide (c < hi) && s_vis (g_see M t c)) (fun c hc => vis_named rE.2.2.2.1 hnm ht (by simp only [Bool.and_eq_true] at hc; exact hc.2))
        exact this
      · obtain ⟨cK, cW, cH, xs, ka, ⟨-, s2', -⟩, ⟨t1, t2, t3, t4⟩, -⟩ := id st2
        rw [hY] at hy
        have hm := (r_flt_of hy).1
        exact ⟨(t1.1 y hm).1, ⟨_, _, s2', List.mem_map.mpr ⟨y, hm, rfl⟩⟩, _, (t1.1 y hm).2⟩
    intro d
    induction d with
    | zero =>
      intro i hh Y c hd hi9 hy hys hr st2 r2 co2 e2
      obtain ⟨cK, cW, cH, xs, ka, ⟨s1, s2, s3, s4, s5⟩, ⟨t1, t2, t3, t4⟩, ⟨g1, g2, g3⟩, tW, tn, ta, tw⟩ := id st2
      obtain ⟨-, -, o3, -⟩ := id r2
      refine bX11_listSeen_17 o3 rfl s1 rfl (Or.inr ⟨rfl, _, _, s2⟩) (c_size ok s2) ?_
      rintro h2 v ⟨hh2, rfl⟩
      rw [hh2, List.length_map]
      refine bX11_listSeen_29 (fun _ => ?_) (fun c1 => absurd (nI_le (by omega) (by omega)) c1)
      refine bX11_listSeen_119 (fin hh Y c ?_ st2 r2 co2 e2)
      rw [rs_end (by omega), List.append_nil] at hr
      exact hr
    | succ d ih =>
      intro i hh Y c hd hi9 hy hys hr st2 r2 co2 e2
      obtain ⟨cK, cW, cH, xs, ka, ⟨s1, s2, s3, s4, s5⟩, ⟨t1, t2, t3, t4⟩, ⟨g1, g2, g3⟩, tW, tn, ta, tw⟩ := id st2
      obtain ⟨x1, -, o3, ⟨⟨zc, lc⟩, -, -⟩, -⟩ := id r2
      have hlt : i < KS.length := by omega
      obtain ⟨x, hx⟩ : ∃ x, KS[i]? = some x := ⟨_, List.getElem?_eq_getElem hlt⟩
      have hx2 : (KS.map (fun x => x.2))[i]? = some x.2 := by rw [List.getElem?_map, hx]; rfl
      have hxm := List.mem_of_getElem? hx
      have hmem := t1.1 x hxm
      refine bX11_listSeen_17 o3 rfl s1 rfl (Or.inr ⟨rfl, _, _, s2⟩) (c_size ok s2) ?_
      rintro h2 v ⟨hh2, rfl⟩
      rw [hh2, List.length_map]
      refine bX11_listSeen_29 (fun c1 => absurd c1 (nI_ge hlt (by omega))) (fun _ => ?_)
      refine bX11_listSeen_32 o3 rfl s1 rfl (Or.inr ⟨rfl, _, _, s2⟩) (c_get ok s2 hx2) ?_
      rintro h2 v ⟨hh2, rfl⟩
      rw [hh2]
      refine bX11_listSeen_44 hmem.2 rfl (fun c1 => ?_) (fun c1 => ?_)
      · have c2 := (lX_lt (by omega) hhi).mp c1
        obtain ⟨kept, o12, -⟩ := tx_obj x1 ht
        refine bX11_listSeen_61 o3 rfl hmem.2 rfl o12 rfl (c_X4_entryIn ok hmem.2 t3 (fun x hx => by have := g1 x hx; omega) hra) ?_
        rintro h2 v ⟨hh2, rfl⟩
        rw [hh2]
        refine bX11_listSeen_80 (k_is_o o12) (c_X_look ok x1 ht hb lc (by omega) (look_ok t3 x.1 (g_X M t).1.2.2.1)) ?_
        rintro h2 hh2
        have m2 : k_mo a [] (fun q => q = a + 10) 0 hh h2 := by rw [hh2]; exact mv_o lc (Or.inr rfl)
        have st3 : c_st a h2 KS L WS (g_n M) z := by rw [hh2]; exact cel_st st2 lc
        obtain ⟨-, r5, l11, -⟩ := cell_rs ⟨KS, L, WS, z, st2, rE, q, e⟩ r2 _ hh2
        have co3 := co_mo co2 m2
        have e3 : h2.1 (a + 12) = some (k_l (Y.map (fun x => x.2)) c) := m2.1 _ _ e2 (by omega) (fun ci fs e => by cases e)
        have hsee : s_see x.1 (g_X M t).2.1 (r_val x.1 (g_X M t).1.2.2.1 L, false) = g_see M t x.1 := by unfold g_see; rw [rE.1.1]
        rw [hsee] at l11
        obtain ⟨-, -, o5, -⟩ := id r5
        have skip : s_vis (g_see M t x.1) = false → k_X (jX11_listSeen G l h) h2 113 [(0, vR (some a)), (1, vR (some (a + c_T t))), (4, vJ (lN hi)), (6, vI (nI i))] [] (q_v (fun h' => c_sE a h' (g_E M) (g_n M) Q S ∧ c_rs a h' M Q w PS ∧ c_co a B h' T ∧ ∃ (X : List k_K2) (cap : Nat), h'.1 (a + 12) = some (k_l (X.map (fun x => x.2)) cap) ∧ X.map (fun x => x.1) = (g_rng M t lo hi).map (fun x => x.1) ∧ ∀ y ∈ X, y.1 < 1331000000000 ∧ (∃ (xs : List Nat) (c2 : Nat), h'.1 (a + 2) = some (k_l xs c2) ∧ y.2 ∈ xs) ∧ ∃ f, h'.1 y.2 = some (k_o 7 [vJ (lN y.1), f]))) := fun hv => by
          refine bX11_listSeen_113 ?_
          rw [nI_1]
          exact ih (i + 1) h2 Y c (by omega) (by omega) (by omega) hys (by rw [← hr, rs_skip hx hv]) st3 r5 co3 e3
        refine bX11_listSeen_83 o5 rfl l11 rfl (fun c3 => ?_) (fun c3 => ?_)
        · rw [kB_0] at c3
          exact skip (by unfold s_vis; rw [c3]; rfl)
        · rw [kB_n0] at c3
          refine bX11_listSeen_93 o5 rfl l11 rfl (fun c4 => ?_) (fun c4 => ?_)
          · rw [kB_n0] at c4
            exact skip (by unfold s_vis; rw [c4, Bool.not_true, Bool.and_false])
          · rw [kB_0] at c4
            have hv : s_vis (g_see M t x.1) = true := by unfold s_vis; rw [c3, c4]; rfl
            obtain ⟨cK3, cW3, cH3, xs3, ka3, -, ⟨u1, u2, u3, u4⟩, -, -, -, -, uw⟩ := id st3
            refine bX11_listSeen_103 o5 rfl (Or.inr ⟨rfl, _, _, e3⟩) (c_add ok uw e3 (by rw [List.length_map]; omega) (fun z hz => ?_) (el_key (u1.1 x hxm).2)) ?_
            · obtain ⟨y, hy1, rfl⟩ := List.mem_map.mp hz
              exact el_key (u1.1 y (hys y hy1)).2
            rintro h3 v ⟨hh3, rfl⟩
            have m3 : k_mo a [] (fun q => q = a + 12) 0 h2 h3 := by rw [hh3]; exact mv_gr e3 (by omega) rfl (by rw [List.length_map]; show _ ≤ 20000; omega)
            obtain ⟨cap3, e4⟩ := gr_at h2 (a + 12) (Y.map (fun x => x.2) ++ [x.2]) (Y.map (fun x => x.2)).length c
            rw [← hh3] at e4
            refine bX11_listSeen_112 (bX11_listSeen_113 ?_)
            rw [nI_1]
            refine ih (i + 1) h3 (Y ++ [x]) cap3 (by omega) (by omega) (by rw [List.length_append, List.length_singleton]; omega) (fun y hy => ?_) ?_ (lst_st st3 e3 m3) (lst_rs r5 m3 e4) (co_mo co3 m3) (by rw [e4, List.map_append]; rfl)
            · rcases List.mem_append.mp hy with hy | hy
              · exact hys y hy
              · rw [List.mem_singleton.mp hy]; exact hxm
            · rw [← hr, rs_take hx c2 hv, List.append_assoc]
              rfl
      · have c2 : ¬ x.1 < hi := fun z => c1 ((lX_lt (by omega) hhi).mpr z)
        refine bX11_listSeen_60 (fin hh Y c ?_ st2 r2 co2 e2)
        rw [rs_stop b4 hx (by omega), List.append_nil] at hr
        exact hr
  exact key _ (r_pl lo KS) h1 [] cap0 rfl (r_pl_le _ _) (Nat.zero_le _) (fun y hy => by cases hy) (by rw [List.nil_append, rs_start b4]) st1 r1 co1 e0
end CSN
