/-! THE CLASS BRINGS BACK; marks, watches, parts -/
theorem el_wat {h : k_H} {a : Nat} {fs : List k_V} (ho : h.1 a = some (k_o 13 fs)) : k_el h a := ⟨13, k_is_o ho, k_to rfl (by decide)⟩
theorem inB_k {x : Int32} {k : Nat} (hk : k < 2 ^ 20) : s_inB x 0 (nI k - 1) = (decide (¬ x < 0) && decide (x < nI k)) := by
  unfold s_inB
  by_cases c : x < 0
  · rw [decide_eq_false (show ¬ ¬ x < 0 from fun z => z c), Bool.false_and, Bool.false_and]
  · rw [decide_eq_true c, Bool.true_and, Bool.true_and]
    have hx : 0 ≤ x.toInt := by
      have := Int32.le_iff_toInt_le.mp (Int32.not_lt.mp c)
      simpa using this
    have hj := nI_ofN hx
    have hlt : x.toInt.toNat < 2 ^ 31 := by have := Int32.toInt_lt x; omega
    rw [decide_eq_decide]
    by_cases k0 : k = 0
    · subst k0
      constructor
      · intro h
        exact absurd (show (nI 0 - 1 : Int32) < x from by
          rw [Int32.lt_iff_toInt_lt]
          have : (nI 0 - 1 : Int32).toInt = -1 := by decide
          omega) h
      · intro h
        exact absurd h c
    · have e1 : nI k - 1 = nI (k - 1) := nI_sub (b := 1) (by omega)
      rw [e1]
      generalize x.toInt.toNat = j at hj hlt
      rw [hj, nI_ltI hlt (by omega), nI_ltI (by omega) hlt]
      omega
section CWT
variable {G : k_G} {l : Launch}
theorem W_parts {a N w : Nat} {B : Nat × Nat} {h : k_H} {M : s_M} (W : c_W a B h M N w) : ∃ (PS : List k_PT) (cap : Nat), h.1 (a + 6) = some (k_o 9 [vR (some (a + 7))]) ∧ r_ps h (a + 7) cap PS ∧ PS.map k_pr = g_PT M ∧ p_ho (g_V M) (g_V M).length PS := by
  obtain ⟨Q, S, PS, s, r, p, co⟩ := W
  obtain ⟨p1, ⟨cap, p2⟩, -⟩ := r.2.1
  exact ⟨PS, cap, p1, p2, p.1, p.2⟩
theorem C_parts (ok : k_ok G l) {a N w : Nat} {B : Nat × Nat} {h : k_H} {M : s_M} (W : c_W a B h M N w) : k_ct (tX11_parts G l) [vR (some a)] h (c_R a B (F_parts M) x_3 N w) := by
  obtain ⟨o14, -⟩ := W_ob W
  obtain ⟨PS, cap, p1, p2, p3, -⟩ := W_parts W
  refine eX11_parts ok.2 (bX11_parts_0 o14 rfl p1 rfl (Or.inr ⟨rfl, _, _, p2.1⟩) (c_size ok p2.1) ?_)
  rintro _ _ ⟨hh, rfl⟩
  rw [hh, List.length_map]
  refine bX11_parts_10 (R_ok W ?_)
  unfold F_parts
  rw [← p3, List.length_map]
theorem p_ho_at {V : List Nat} {e : Nat} : ∀ {PS : List k_PT} {i : Nat} {x : k_PT}, p_ho V e PS → PS[i]? = some x → x.2.2.2 = (match PS.drop (i + 1) with | [] => e | y :: _ => p_lt y.2.1 V) - p_lt x.2.1 V := by
  intro PS
  induction PS with
  | nil => intro i x h hx; cases hx
  | cons y t ih =>
    intro i x h hx
    cases i with
    | zero =>
      have : y = x := by simpa using hx
      subst this
      rw [h.1]
      cases t <;> rfl
    | succ i =>
      have : t[i]? = some x := by simpa using hx
      exact ih h.2 this
theorem C_part (ok : k_ok G l) {a N w : Nat} {B : Nat × Nat} {h : k_H} {M : s_M} {x y : Int32} (W : c_W a B h M N w) (hpt : (g_PT M).length ≤ 4096) (hlo : ∀ p ∈ g_PT M, p.1 < 1331000000000) : k_ct (tX11_part G l) [vR (some a), vI x, vI y] h (c_R a B (F_part M x y) x_3 (N + 1) w) := by
  obtain ⟨o14, -⟩ := W_ob W
  obtain ⟨PS, cap, p1, p2, p3, p4⟩ := W_parts W
  have hPl : PS.length = (g_PT M).length := by rw [← p3, List.length_map]
  have hin := inB_k (x := x) (k := (g_PT M).length) (by omega)
  have bad : s_inB x 0 (nI (g_PT M).length - 1) = false → k_X (jX11_part G l h) h 18 [] [] (c_R a B (F_part M x y) x_3 (N + 1) w) := fun hc =>
    bX11_part_18 (R_x (k := 1) W (by unfold F_part; rw [if_pos hc]) (by decide))
  refine eX11_part ok.2 (bX11_part_0 (fun c => bad ?_) (fun c1 => bX11_part_4 o14 rfl p1 rfl (Or.inr ⟨rfl, _, _, p2.1⟩) (c_size ok p2.1) ?_))
  · rw [hin, decide_eq_false (show ¬ ¬ x < 0 from fun z => z c), Bool.false_and]
  rintro _ _ ⟨hh, rfl⟩
  rw [hh, List.length_map, hPl]
  refine bX11_part_15 (fun c2 => ?_) (fun c2 => bad ?_)
  · have hi : s_inB x 0 (nI (g_PT M).length - 1) = true := by rw [hin, decide_eq_true c1, decide_eq_true c2]; rfl
    have bad2 : s_inB y 0 4 = false → k_X (jX11_part G l h) h 37 [] [] (c_R a B (F_part M x y) x_3 (N + 1) w) := fun hc =>
      bX11_part_37 (R_x (k := 2) W (by unfold F_part; rw [if_neg (by rw [hi]; decide), if_pos hc]) (by decide))
    refine bX11_part_28 (fun c => bad2 ?_) (fun c3 => bX11_part_32 (fun c4 => ?_) (fun c => bad2 ?_))
    · unfold s_inB; rw [decide_eq_false (by simpa using c), Bool.false_and]
    · have hy : s_inB y 0 4 = true := by unfold s_inB; rw [decide_eq_true c3, decide_eq_true (Int32.not_lt.mpr c4)]; rfl
      obtain ⟨j, hj, rfl, ht⟩ := s_in_ (by omega) hi
      obtain ⟨p, hp⟩ : ∃ p, PS[j]? = some p := ⟨_, List.getElem?_eq_getElem (by omega)⟩
      have hp1 : (PS.map (fun x => x.1))[j]? = some p.1 := by rw [List.getElem?_map, hp]; rfl
      have hp2 : (g_PT M)[j]? = some (k_pr p) := by rw [← p3, List.getElem?_map, hp]; rfl
      obtain ⟨u1, u2, u3⟩ := p2.2.1 p (List.mem_of_getElem? hp)
      have hpl := hlo _ (List.mem_of_getElem? hp2)
      have hF : ∀ v, (if y = 0 then p.2.2.1 else if y = 1 then nI (p_end (m_V (g_E M).1 (g_n M) (g_E M).2.1) ((g_PT M).drop (j + 1)) - p_lt p.2.1 (m_V (g_E M).1 (g_n M) (g_E M).2.1)) else if nI j = 0 then -2147483648 else s_no p.2.1 (s_pl (y - 2))) = v → F_part M (nI j) y = (M, 0, v) := fun v hv => by
        unfold F_part
        rw [if_neg (by rw [hi]; decide), if_neg (by rw [hy]; decide), ht, hp2]
        exact congrArg (fun v => (M, 0, v)) hv
      have hheld : p.2.2.2 = p_end (m_V (g_E M).1 (g_n M) (g_E M).2.1) ((g_PT M).drop (j + 1)) - p_lt p.2.1 (m_V (g_E M).1 (g_n M) (g_E M).2.1) := by
        rw [p_ho_at p4 hp, ← p3, ← List.map_drop]
        show (match PS.drop (j + 1) with | [] => (g_V M).length | y :: _ => p_lt y.2.1 (g_V M)) - _ = _
        cases PS.drop (j + 1) <;> rfl
      have W1 := W_le W (Nat.le_succ N)
      refine bX11_part_47 o14 rfl p1 rfl (Or.inr ⟨rfl, _, _, p2.1⟩) (c_get ok p2.1 hp1) ?_
      rintro _ _ ⟨hh, rfl⟩
      rw [hh]
      refine bX11_part_58 u1 (fun d0 => bX11_part_71 (fun d1 => bX11_part_81 (fun d2 => ?_) (fun d2 => ?_)) (fun d1 => ?_)) (fun d0 => ?_)
      · refine bX11_part_90 u1 rfl (c_X11_numberOf ok hpl) ?_
        rintro _ _ ⟨hh, rfl⟩
        rw [hh]
        exact bX11_part_100 (R_ok W1 (hF _ (by rw [if_neg d0, if_neg d1, if_neg d2])))
      · exact bX11_part_85 (bX11_part_100 (R_ok W1 (hF _ (by rw [if_neg d0, if_neg d1, if_pos d2]))))
      · refine bX11_part_76 u1 rfl (R_ok W1 (hF _ (by rw [if_neg d0, if_pos d1, hheld])))
      · refine bX11_part_66 u1 rfl (R_ok W1 (hF _ (by rw [if_pos d0])))
    · unfold s_inB; rw [decide_eq_false (show ¬ ¬ (4 : Int32) < y from fun z => c (Int32.not_lt.mp z)), Bool.and_false]
  · rw [hin, decide_eq_false c2, Bool.and_false]
theorem C_fired (ok : k_ok G l) {a N w : Nat} {B : Nat × Nat} {h : k_H} {M : s_M} {x : Int32} (W : c_W a B h M N w) (hwl : (g_WT M).length ≤ 20) : k_ct (tX11_fired G l) [vR (some a), vI x] h (c_R a B (F_fired M x) x_I (N + 1) w) := by
  obtain ⟨Q, S, PS, s, r, p, co⟩ := id W
  obtain ⟨r1, r2, r3, r4, r5, r6, WA, capW, w1, ⟨w2, w3, w4⟩, w5⟩ := id r
  have hin := inB_k (x := x) (k := (g_WT M).length) (by omega)
  have bad : s_inB x 0 (nI (g_WT M).length - 1) = false → k_X (jX11_fired G l h) h 15 [] [] (c_R a B (F_fired M x) x_I (N + 1) w) := fun hc =>
    bX11_fired_15 (R_x (k := 1) W (by unfold F_fired; rw [if_pos hc]) (by decide))
  refine eX11_fired ok.2 (bX11_fired_0 (fun c => bad ?_) (fun c1 => bX11_fired_4 r3 rfl (Or.inr ⟨rfl, _, _, w1⟩) (c_size ok w1) ?_))
  · rw [hin, decide_eq_false (show ¬ ¬ x < 0 from fun z => z c), Bool.false_and]
  rintro _ _ ⟨hh, rfl⟩
  rw [hh, w2]
  refine bX11_fired_12 (fun c2 => ?_) (fun c2 => bad (by rw [hin, decide_eq_false c2, Bool.and_false]))
  have hi : s_inB x 0 (nI (g_WT M).length - 1) = true := by rw [hin, decide_eq_true c1, decide_eq_true c2]; rfl
  obtain ⟨j, hj, rfl, ht⟩ := s_in_ (by omega) hi
  obtain ⟨b, hb⟩ : ∃ b, WA[j]? = some b := ⟨_, List.getElem?_eq_getElem (by omega)⟩
  obtain ⟨x, hx⟩ : ∃ x, (g_WT M)[j]? = some x := ⟨_, List.getElem?_eq_getElem (by omega)⟩
  obtain ⟨q, hq⟩ : ∃ q, Q[j]? = some q := ⟨_, List.getElem?_eq_getElem (by omega)⟩
  refine bX11_fired_26 r3 rfl (Or.inr ⟨rfl, _, _, w1⟩) (c_get ok w1 hb) ?_
  rintro _ _ ⟨hh, rfl⟩
  rw [hh]
  refine bX11_fired_34 (w5 j b x q hb hx hq).2 rfl (R_ok (W_le W (Nat.le_succ _)) ?_)
  unfold F_fired
  rw [if_neg (by rw [hi]; decide), ht, hx]
theorem C_mark (ok : k_ok G l) {a N w : Nat} {B : Nat × Nat} {h : k_H} {M : s_M} (W : c_W a B h M N w) (hmk : (g_MK M).length ≤ 10) : k_ct (tX11_mark G l) [vR (some a)] h (c_R a B (F_mark M) (fun _ => x_IS) (N + 1) w) := by
  obtain ⟨Q, S, PS, s, r, p, co⟩ := id W
  obtain ⟨r1, r2, r3, r4, ⟨f, k1, k2⟩, r6, r7⟩ := id r
  obtain ⟨f0, f1, f2, f3, f4, f5, o11⟩ := sE_obj s
  refine eX11_mark ok.2 (bX11_mark_0 r3 rfl (fun c => absurd c (fun z => ?_)) (fun _ => bX11_mark_7 r3 rfl rfl k1 (fun c => ?_) (fun c => ?_)))
  · have := (nI_ltI (a := (g_MK M).length) (b := 0) (by omega) (by omega)).mp z
    omega
  · have hlt := (nI_ltI (by omega) (by omega)).mp c
    refine bX11_mark_30 r3 rfl rfl rfl o11 rfl k1 (nI_in hlt (by omega)) ?_
    rw [nI_clamp (by omega)]
    generalize hg : k_up h (a + 15) _ = h1
    have e15 : h1.1 (a + 15) = some (k_i 10 (va_up f (g_MK M).length (nI (g_n M)))) := by rw [← hg]; exact k_up_self _ _ _
    have e14 : h1.1 a = some (k_o 14 [vR (some (a + 1)), vR (some (a + 6)), vR (some (a + 10)), vR (some (a + 11)), vR (some (a + 12)), vR (some (a + 13)), vR (some (a + 14)), vR (some (a + 15)), vI (nI (g_MK M).length), vI (nI (g_gen M)), vI (nI (g_los M)), vI (g_why M), vI (nI ((g_DS M).2 - 1))]) := by
      rw [← hg, k_up_ne _ _ (by omega)]; exact r3
    refine bX11_mark_46 e14 rfl rfl ?_
    rw [nI_1]
    generalize hg2 : k_up h1 a _ = h2
    have o2 : c_ob a h2 (g_mks M (g_MK M ++ [g_n M])) := by
      have e : (g_MK (g_mks M (g_MK M ++ [g_n M]))).length = (g_MK M).length + 1 := by
        show (g_MK M ++ [g_n M]).length = _
        rw [List.length_append, List.length_singleton]
      unfold c_ob
      rw [e, ← hg2]
      exact k_up_self _ _ _
    have m : k_mo a [] (fun q => q = a ∨ q = a + 15) 0 h h2 := by
      have m1 : k_mo a [] (fun q => q = a ∨ q = a + 15) 0 h1 h2 := by rw [← hg2]; exact mv_o e14 (Or.inr (Or.inl rfl))
      have ek : ∀ q, kcp (h1.1 q) = kcp (h.1 q) := fun q => by
        by_cases e : q = a + 15
        · rw [e, e15, k1]; rfl
        · rw [← hg, k_up_ne _ _ e]
      have m0 : k_mo a [] (fun q => q = a ∨ q = a + 15) 0 h h1 := by
        refine ⟨fun q c hq hA _ => ?_, fun wf => ?_, ?_, ?_, ?_, fun i hi hb => ?_⟩
        · rw [← hg, k_up_ne _ _ (fun z => hA (Or.inr z))]; exact hq
        · rw [← hg]; exact wf_up wf k1
        · rw [← hg]; exact Nat.le_refl _
        · have e1 : kT kg1 a h1 = kT kg1 a h := kT_eq (fun i _ => ek _)
          have e2 : h1.2.1 = h.2.1 := by rw [← hg]; rfl
          omega
        · have e1 : kT kg2 a h1 = kT kg2 a h := kT_eq (fun i _ => ek _)
          have e2 : h1.2.2 = h.2.2 := by rw [← hg]; rfl
          omega
        · rw [ek]; exact hb
      exact mv_mono (mv_trans m0 m1) (fun _ h => h) (fun _ h => h) (Nat.le_refl _)
    have nO : ∀ q ci fs, h.1 q = some (k_o ci fs) → ci ≠ 14 → ¬ (q = a ∨ q = a + 15) := fun q ci fs hq hc z => by
      rcases z with z | z
      · rw [z, r3] at hq; cases hq; exact hc rfl
      · rw [z, k1] at hq; cases hq
    have s2 := sE_fr s m (by simp) (fun i h1 h2 z => by omega) (fun q ci fs hq hc => nO q ci fs hq (by rcases hc with e | e | e <;> rw [e] <;> decide))
    have q2 : c_rs a h2 (g_mks M (g_MK M ++ [g_n M])) Q w PS := by
      refine ⟨TX_fr r1 m (by simp) (fun q ci fs hq hc => nO q ci fs hq (by rcases hc with e | e <;> rw [e] <;> decide)) (fun i h1 h2 z => by omega), pa_fr r2 m (by simp) ⟨by omega, by omega⟩ (fun q fs hq => nO q 8 fs hq (by decide)), o2, cl_fr r4 m.1 (by simp) ⟨by omega, by omega, by omega⟩, ⟨_, by rw [← hg2, k_up_ne _ _ (by omega)]; exact e15, fun i v hv => ?_⟩, dr_fr r6 m.1 (by simp) (by omega) (fun q fs hq => nO q 5 fs hq (by decide)), wa_fr r7 m.1 (by simp) (by omega) (fun q fs hq => nO q 13 fs hq (by decide))⟩
      have hv' : (g_MK M ++ [g_n M])[i]? = some v := hv
      by_cases e : i < (g_MK M).length
      · rw [List.getElem?_append_left e] at hv'
        show va_up f (g_MK M).length (nI (g_n M)) i = nI v
        unfold va_up
        rw [if_neg (by omega)]
        exact k2 i v hv'
      · have ei : i = (g_MK M).length := by
          have := (List.getElem?_eq_some_iff.mp hv').1
          simp at this; omega
        subst ei
        simp at hv'
        subst hv'
        show va_up f (g_MK M).length (nI (g_n M)) (g_MK M).length = _
        unfold va_up
        rw [if_pos rfl]
    have W2 : c_W a B h2 (g_mks M (g_MK M ++ [g_n M])) (N + 1) w := ⟨Q, S, PS, s2, q2, p, co_le (co_mo co m) (by omega)⟩
    refine bX11_mark_56 o2 rfl (R_ok W2 ?_)
    unfold F_mark
    rw [if_neg (by omega)]
    have e : (g_MK (g_mks M (g_MK M ++ [g_n M]))).length = (g_MK M).length + 1 := by
      show (g_MK M ++ [g_n M]).length = _
      rw [List.length_append, List.length_singleton]
    rw [e]
    exact congrArg (fun v => (g_mks M (g_MK M ++ [g_n M]), 0, v)) (nI_sub (a := (g_MK M).length + 1) (b := 1) (by omega)).symm
  · have : (g_MK M).length = 10 := by
      by_cases e : (g_MK M).length < 10
      · exact absurd ((nI_ltI (by omega) (by omega)).mpr e) c
      · omega
    exact bX11_mark_19 (R_x (k := 1) (X := fun _ => x_IS) W (by unfold F_mark; rw [if_pos this]) (by decide))
end CWT
