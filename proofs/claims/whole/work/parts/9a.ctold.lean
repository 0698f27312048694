/-! WHAT A COMMIT ANSWERS THAT CHANGES NOTHING MORE, in the class -/
/-- cleared ranges by their versions -/
def g_ws (M : s_M) : Prop := (g_E M).2.2.Pairwise (fun x y => x.2.2 ≤ y.2.2)
def f_td (M : s_M) (t : Nat) : s_M × Int32 :=
  if (g_X M t).1.2.1 = true ∧ 0 < (g_X M t).1.2.2.2.2 then (M, nI (g_X M t).1.2.2.2.2)
  else if (g_X M t).2.1.length = 0 then (M, nI (g_X M t).1.2.2.1)
  else if 30 < g_n M - (g_X M t).1.2.2.1 ∨ ¬ (g_X M t).1.2.2.2.1 = g_gen M then (M, -2)
  else match (g_X M t).2.2.findIdx? (s_met (g_X M t).2.1 (g_X M t).1.2.2.1 (g_E M).2.1 (g_E M).2.2) with
    | some k => (g_sw M (nI k), -1)
    | none => (M, -2147483648)
section CTD
variable {G : k_G} {l : Launch}
theorem c_firstMet (ok : k_ok G l) {a t w S : Nat} {h : k_H} {M : s_M} {Q : List k_K2} {PS : List k_PT} (s : c_sE a h (g_E M) (g_n M) Q S) (r : c_rs a h M Q w PS) (ht : t < 4) (hb : (g_X M t).1.1 = true) (hra : (g_X M t).1.2.2.1 < 2 ^ 31) (hlim : e_lim (g_E M)) (hws : g_ws M) :
    k_cti (tX11_firstMet G l) [vR (some a), vR (some (a + c_T t))] h (fun h' v => h' = h ∧ v = s_told ((g_X M t).2.2.findIdx? (s_met (g_X M t).2.1 (g_X M t).1.2.2.1 (g_E M).2.1 (g_E M).2.2))) := by
  obtain ⟨KS, L, WS, z, st, rE, q, e⟩ := s
  obtain ⟨b1, b2, b3, b4⟩ := sE_lim st rE q.2 hlim (e_le_refl _)
  obtain ⟨r1, r2, r3, r4, r5, r6, r7⟩ := r
  obtain ⟨CXf, x1, -⟩ := r1
  obtain ⟨RS, cap, capR, kept, o1, ⟨c1, c2, c3⟩, c4⟩ := x1 t ht
  obtain ⟨⟨d0, d1⟩, ⟨d2, d3⟩, ⟨d4, d5, d6⟩, d7⟩ := c4 hb
  obtain ⟨cK, cW, cH, xs, ka, -, ⟨t1, t2, t3, t4⟩, ⟨g1, g2, g3⟩, tW, tn, ta, tw⟩ := id st
  have hW : WS.Pairwise (fun x y => x.2.2.2 ≤ y.2.2.2) := by
    have := hws
    unfold g_ws at this
    rw [← rE.2.2.1, List.pairwise_map] at this
    exact this
  have met : ∀ (i : Nat) (sp : k_SP) (rd : Nat × Nat × Nat), RS[i]? = some sp → (g_X M t).2.2[i]? = some rd → (L.any (cm_1 ((CXf t).map (fun y => y.1)) sp (g_X M t).1.2.2.1) || WS.any (cm_2 ((CXf t).map (fun y => y.1)) sp (g_X M t).1.2.2.1)) = s_met (g_X M t).2.1 (g_X M t).1.2.2.1 (g_E M).2.1 (g_E M).2.2 rd := fun i sp rd h1 h2 => by
    rw [d0]
    exact cm_met (ser := 0) rE (fun y hy => (t1.1 y hy).1) t2 (fun w hw => (tW w hw).2.2.1) (d5 i sp rd h1 h2)
  have hlen : RS.length < 16384 := c2.2.2
  refine k_cti_of (eX11_firstMet ok.2 (bX11_firstMet_0 ?_))
  have key : ∀ (d i : Nat), RS.length - i = d → i ≤ RS.length → (∀ (j : Nat) (rd : Nat × Nat × Nat), j < i → (g_X M t).2.2[j]? = some rd → s_met (g_X M t).2.1 (g_X M t).1.2.2.1 (g_E M).2.1 (g_E M).2.2 rd = false) →
      k_X (jX11_firstMet G l h) h 2 [(0, vR (some a)), (1, vR (some (a + c_T t))), (2, vI (nI i))] [] (q_i (fun h' v => h' = h ∧ v = s_told ((g_X M t).2.2.findIdx? (s_met (g_X M t).2.1 (g_X M t).1.2.2.1 (g_E M).2.1 (g_E M).2.2)))) := by
    intro d
    induction d with
    | zero =>
      intro i hd hi hf
      refine bX11_firstMet_2 o1 rfl (Or.inr ⟨rfl, _, _, c2.1⟩) (c_size ok c2.1) ?_
      rintro _ _ ⟨hh, rfl⟩
      rw [hh, List.length_map]
      refine bX11_firstMet_10 (fun _ => bX11_firstMet_51 ⟨_, rfl, rfl, ?_⟩) (fun c => absurd (nI_le (by omega) (by omega)) c)
      have : (g_X M t).2.2.findIdx? (s_met (g_X M t).2.1 (g_X M t).1.2.2.1 (g_E M).2.1 (g_E M).2.2) = none := by
        rw [List.findIdx?_eq_none_iff]
        intro y hy
        obtain ⟨j, hj⟩ := List.getElem?_of_mem hy
        exact hf j y (by have := (List.getElem?_eq_some_iff.mp hj).1; omega) hj
      rw [this]; rfl
    | succ d ih =>
      intro i hd hi hf
      have hlt : i < RS.length := by omega
      obtain ⟨sp, hsp⟩ : ∃ sp, RS[i]? = some sp := ⟨_, List.getElem?_eq_getElem hlt⟩
      obtain ⟨rd, hrd⟩ : ∃ rd, (g_X M t).2.2[i]? = some rd := ⟨_, List.getElem?_eq_getElem (by omega)⟩
      have hsp2 : (RS.map (fun x => x.1))[i]? = some sp.1 := by rw [List.getElem?_map, hsp]; rfl
      obtain ⟨u1, u2⟩ := c2.2.1 sp (List.mem_of_getElem? hsp)
      have hm := met i sp rd hsp hrd
      refine bX11_firstMet_2 o1 rfl (Or.inr ⟨rfl, _, _, c2.1⟩) (c_size ok c2.1) ?_
      rintro _ _ ⟨hh, rfl⟩
      rw [hh, List.length_map]
      refine bX11_firstMet_10 (fun c => absurd c (nI_ge hlt (by omega))) (fun _ => ?_)
      refine bX11_firstMet_13 o1 rfl (Or.inr ⟨rfl, _, _, c2.1⟩) (c_get ok c2.1 hsp2) ?_
      rintro _ _ ⟨hh, rfl⟩
      rw [hh]
      have found : s_met (g_X M t).2.1 (g_X M t).1.2.2.1 (g_E M).2.1 (g_E M).2.2 rd = true → k_X (jX11_firstMet G l h) h 43 [(2, vI (nI i))] [] (q_i (fun h' v => h' = h ∧ v = s_told ((g_X M t).2.2.findIdx? (s_met (g_X M t).2.1 (g_X M t).1.2.2.1 (g_E M).2.1 (g_E M).2.2)))) := fun hc => by
        refine bX11_firstMet_43 ⟨_, rfl, rfl, ?_⟩
        have : (g_X M t).2.2.findIdx? (s_met (g_X M t).2.1 (g_X M t).1.2.2.1 (g_E M).2.1 (g_E M).2.2) = some i := by
          rw [List.findIdx?_eq_some_iff_getElem]
          have hi2 := (List.getElem?_eq_some_iff.mp hrd)
          refine ⟨hi2.1, by rw [hi2.2]; exact hc, fun j hj => ?_⟩
          have := hf j _ hj (List.getElem?_eq_getElem (by omega))
          rw [this]; decide
        rw [this]; rfl
      refine bX11_firstMet_21 u1 (k_is_o r3) (c_keyMet ok st r3 o1 c1 u1 u2 hra) ?_
      rintro _ _ ⟨hh, rfl⟩
      rw [hh]
      refine bX11_firstMet_31 (fun c => found ?_) (fun c => ?_)
      · rw [kB_n0] at c
        rw [← hm, c]; rfl
      rw [kB_0] at c
      refine bX11_firstMet_34 (k_is_o r3) (c_wipeMet ok st r3 o1 c1 u1 u2 hra hW (by omega)) ?_
      rintro _ _ ⟨hh, rfl⟩
      rw [hh]
      refine bX11_firstMet_40 (fun c2 => ?_) (fun c2 => found ?_)
      · rw [kB_0] at c2
        refine bX11_firstMet_45 ?_
        rw [nI_1]
        refine ih (i + 1) (by omega) (by omega) (fun j rd2 hj h2 => ?_)
        by_cases e : j = i
        · subst e
          rw [hrd] at h2
          cases h2
          rw [← hm, c, c2]; rfl
        · exact hf j rd2 (by omega) h2
      · rw [kB_n0] at c2
        rw [← hm, c2, Bool.or_true]
  exact key RS.length 0 (by omega) (Nat.zero_le _) (fun j rd hj _ => absurd hj (by omega))
theorem c_dn_none {d : Nat} (h : d < 2 ^ 31) : c_dn d = -2147483648 ↔ d = 0 := by
  unfold c_dn
  by_cases e : d = 0
  · rw [if_pos e]; exact ⟨fun _ => e, fun _ => rfl⟩
  · rw [if_neg e]; exact ⟨fun z => absurd z (wk_ne h), fun z => absurd z e⟩
theorem C_told (ok : k_ok G l) {a t N w : Nat} {B : Nat × Nat} {h : k_H} {M : s_M} (W : c_W a B h M N w) (ht : t < 4) (hb : (g_X M t).1.1 = true) (hra : (g_X M t).1.2.2.1 ≤ g_n M) (hgen : g_gen M < 2 ^ 31 ∧ (g_X M t).1.2.2.2.1 < 2 ^ 31 ∧ (g_X M t).1.2.2.2.2 < 2 ^ 31) (hl9 : (g_X M t).2.1.length < 2 ^ 20) (hlim : e_lim (g_E M)) (hws : g_ws M) :
    k_cti (tX11_toldUndone G l) [vR (some a), vR (some (a + c_T t))] h (fun h' v => c_W a B h' (f_td M t).1 N w ∧ v = (f_td M t).2) := by
  obtain ⟨Q, S, PS, s, r, p, co⟩ := id W
  obtain ⟨r1, r2, r3, r4, r5, r6, r7⟩ := id r
  obtain ⟨n9, -⟩ := sE_n s
  obtain ⟨f0, f1, f2, f3, f4, f5, o11⟩ := sE_obj s
  obtain ⟨kept, o, hk⟩ := tx_obj r1 ht
  have hk := hk hb
  subst hk
  have rest : ¬ ((g_X M t).1.2.1 = true ∧ 0 < (g_X M t).1.2.2.2.2) → k_X (jX11_toldUndone G l h) h 21 [(0, vR (some a)), (1, vR (some (a + c_T t)))] [] (q_i (fun h' v => c_W a B h' (f_td M t).1 N w ∧ v = (f_td M t).2)) := fun c0 => by
    refine bX11_toldUndone_21 o rfl (fun c1 => ?_) (fun c1 => ?_)
    · have c1' : ¬ (g_X M t).2.1.length = 0 := fun z => c1 (by rw [z]; rfl)
      have late : (30 < g_n M - (g_X M t).1.2.2.1 ∨ ¬ (g_X M t).1.2.2.2.1 = g_gen M) → k_X (jX11_toldUndone G l h) h 61 [] [] (q_i (fun h' v => c_W a B h' (f_td M t).1 N w ∧ v = (f_td M t).2)) := fun c2 => by
        have e : f_td M t = (M, -2) := by unfold f_td; rw [if_neg c0, if_neg c1', if_pos c2]
        rw [e]
        exact bX11_toldUndone_61 ⟨_, rfl, W, rfl⟩
      have e30 : (30 : Int32) < nI (g_n M) - nI (g_X M t).1.2.2.1 ↔ 30 < g_n M - (g_X M t).1.2.2.1 := by
        rw [nI_sub hra]
        exact nI_ltI (a := 30) (by decide) (by omega)
      refine bX11_toldUndone_33 r3 rfl o11 rfl o rfl (fun c2 => late (Or.inl (e30.mp c2))) (fun c2 => ?_)
      refine bX11_toldUndone_50 o rfl r3 rfl (fun c3 => ?_) (fun c3 => late (Or.inr (fun z => c3 (by rw [z]))))
      have c3' := (nI_eq hgen.2.1 hgen.1).mp c3
      have c4 : ¬ (30 < g_n M - (g_X M t).1.2.2.1 ∨ ¬ (g_X M t).1.2.2.2.1 = g_gen M) := fun z => by
        rcases z with z | z
        · exact c2 (e30.mpr z)
        · exact z c3'
      refine bX11_toldUndone_64 (k_is_o r3) (c_firstMet ok s r ht hb (by omega) hlim hws) ?_
      rintro _ _ ⟨hh, rfl⟩
      rw [hh]
      have e : f_td M t = match (g_X M t).2.2.findIdx? (s_met (g_X M t).2.1 (g_X M t).1.2.2.1 (g_E M).2.1 (g_E M).2.2) with
        | some k => (g_sw M (nI k), -1)
        | none => (M, -2147483648) := by unfold f_td; rw [if_neg c0, if_neg c1', if_neg c4]
      rw [e]
      cases hf : (g_X M t).2.2.findIdx? (s_met (g_X M t).2.1 (g_X M t).1.2.2.1 (g_E M).2.1 (g_E M).2.2) with
      | none =>
        exact bX11_toldUndone_69 (fun z => absurd rfl z) (fun _ => bX11_toldUndone_76 ⟨_, rfl, W, rfl⟩)
      | some k =>
        have hkl : k < 2 ^ 31 := by
          rw [List.findIdx?_eq_some_iff_getElem] at hf
          obtain ⟨hk, -⟩ := hf
          obtain ⟨CXf, x1, -⟩ := r1
          obtain ⟨RS, cap, capR, kept, o1, ⟨c1, c2, c3⟩, c4⟩ := x1 t ht
          have := (c4 hb).2.2.1.1
          have := c2.2.2
          omega
        refine bX11_toldUndone_69 (fun _ => ?_) (fun z => absurd z (wk_ne hkl))
        refine bX11_toldUndone_79 r3 rfl ?_
        generalize hh : k_up h a _ = h'
        have ho : c_ob a h' (g_sw M (nI k)) := by rw [← hh]; exact k_up_self _ _ _
        exact bX11_toldUndone_84 ⟨_, rfl, W_own W hh.symm ho ⟨rfl, rfl, rfl, rfl, rfl⟩ ⟨rfl, rfl, rfl⟩, rfl⟩
    · have c1' : (g_X M t).2.1.length = 0 := (nI_eq (b := 0) (by omega) (by decide)).mp c1
      have e : f_td M t = (M, nI (g_X M t).1.2.2.1) := by unfold f_td; rw [if_neg c0, if_pos c1']
      rw [e]
      exact bX11_toldUndone_28 o rfl ⟨_, rfl, W, rfl⟩
  refine k_cti_of (eX11_toldUndone ok.2 (bX11_toldUndone_0 o rfl (fun c => rest ?_) (fun c => ?_)))
  · rw [kB_0] at c
    intro z
    rw [c] at z
    cases z.1
  · rw [kB_n0] at c
    refine bX11_toldUndone_7 o rfl (fun c2 => rest ?_) (fun c2 => ?_)
    · have := (c_dn_none hgen.2.2).mp c2
      intro z
      omega
    · have h0 : ¬ (g_X M t).1.2.2.2.2 = 0 := fun z => c2 ((c_dn_none hgen.2.2).mpr z)
      have e : f_td M t = (M, nI (g_X M t).1.2.2.2.2) := by unfold f_td; rw [if_pos ⟨c, by omega⟩]
      rw [e]
      have e2 : c_dn (g_X M t).1.2.2.2.2 = nI (g_X M t).1.2.2.2.2 := by unfold c_dn; rw [if_neg h0]
      refine bX11_toldUndone_16 o rfl ⟨_, rfl, W, e2⟩
end CTD
