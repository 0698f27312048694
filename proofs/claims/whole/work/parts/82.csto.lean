/-! THE CLASS'S STORE AGAINST THE REFERENCE'S: contracts -/
def c_A5 (a : Nat) : Nat → Prop := fun q => q = a + 2 ∨ q = a + 3 ∨ q = a + 4 ∨ q = a + 5
def c_sE (a : Nat) (h : k_H) (E : e_S) (n : Nat) (Q : List k_K2) (S : Nat) : Prop := ∃ (KS : List k_K2) (L : List k_E4) (WS : List k_SP) (z : Option Int32 × Bool), c_st a h KS L WS n z ∧ c_rE KS L WS E Q.length ∧ ((∀ q ∈ Q, q ∈ KS) ∧ Q.length ≤ 20) ∧ S = KS.length + L.length + WS.length
theorem c_st_adv {a : Nat} {h : k_H} {KS : List k_K2} {L : List k_E4} {WS : List k_SP} {n m : Nat} {z : Option Int32 × Bool} (hs : c_st a h KS L WS n z) (hn : n + m ≤ 9000) : c_st a (k_up h (a + 1) (k_o 11 [vR (some (a + 2)), vR (some (a + 3)), vR (some (a + 4)), vR (some (a + 5)), vI (nI L.length), vR (L.head?.map (fun y => y.1)), vI (nI (n + m))])) KS L WS (n + m) z := by
  obtain ⟨cK, cW, cH, xs, ka, ⟨s1, s2, s3, s4, s5⟩, ⟨t1, t2, t3, t4⟩, ⟨l1, l2, l3⟩, tW, tn, ta, tw⟩ := hs
  have n1 : ∀ p d, h.1 p = some d → (∀ gs, d ≠ k_o 11 gs) → (k_up h (a + 1) (k_o 11 [vR (some (a + 2)), vR (some (a + 3)), vR (some (a + 4)), vR (some (a + 5)), vI (nI L.length), vR (L.head?.map (fun y => y.1)), vI (nI (n + m))])).1 p = some d := fun p d hp hne => k_up_cell s1 hp hne _
  exact ⟨cK, cW, cH, xs, ka, ⟨k_up_self _ _ _, n1 _ _ s2 (fun gs e => by cases e), n1 _ _ s3 (fun gs e => by cases e), n1 _ _ s4 (fun gs e => by cases e), n1 _ _ s5 (fun gs e => by cases e)⟩, ⟨⟨fun x hx => ⟨(t1.1 x hx).1, n1 _ _ (t1.1 x hx).2 (fun gs e => by cases e)⟩, t1.2⟩, t2, r_log_keep6 (fun q fs hq => n1 _ _ hq (fun gs e => by cases e)) t3, t4⟩, ⟨fun x hx => Nat.le_trans (l1 x hx) (Nat.le_add_right _ _), l2, l3⟩, fun x hx => ⟨n1 _ _ (tW x hx).1 (fun gs e => by cases e), (tW x hx).2.1, (tW x hx).2.2.1, Nat.le_trans (tW x hx).2.2.2 (Nat.le_add_right _ _)⟩, hn, ta, wf_up tw s1⟩
theorem sE_lim {a : Nat} {h : k_H} {KS : List k_K2} {L : List k_E4} {WS : List k_SP} {E E' : e_S} {n : Nat} {z : Option Int32 × Bool} {Q : List k_K2} (hs : c_st a h KS L WS n z) (r : c_rE KS L WS E Q.length) (hQ : Q.length ≤ 20) (hlim : e_lim E') (hle : e_le E E') : KS.length ≤ 12020 ∧ L.length ≤ 420000 ∧ WS.length ≤ 8192 ∧ KS.Pairwise (fun x y => x.1 < y.1) := by
  obtain ⟨cK, cW, cH, xs, ka, -, ⟨t1, -⟩, -⟩ := hs
  have h1 := r.1.2.2
  have h2 := r.2.1.2
  have h3 : WS.length = E.2.2.length := by rw [← r.2.2.1, List.length_map]
  have := hlim.1; have := hlim.2.1; have := hlim.2.2
  have := hle.1; have := hle.2.1; have := hle.2.2
  exact ⟨by omega, by omega, by omega, t1.2.1⟩
theorem bb_ls (n : Nat) (f : Nat → Option Int32) : ∀ (X : List k_K2) (E : e_S), E.1.Pairwise (fun x y => x.1 < y.1) → (∀ x ∈ X, x ∈ E.1) → w_ls (X.map (fun x => x.1)) n f E.2.1 (X.foldl (fun E y => e_put n y.1 (f y.1) E) E).2.1 ∧ (X.foldl (fun E y => e_put n y.1 (f y.1) E) E).1 = E.1 ∧ (X.foldl (fun E y => e_put n y.1 (f y.1) E) E).2.2 = E.2.2 ∧ (X.foldl (fun E y => e_put n y.1 (f y.1) E) E).2.1.length = E.2.1.length + X.length := by
  intro X
  induction X with
  | nil => exact fun E _ _ => ⟨w_ls_nil _ _ _, rfl, rfl, rfl⟩
  | cons x t ih =>
    intro E s hX
    have e1 : (e_put n x.1 (f x.1) E).1 = E.1 := m_ins_in s (a := x.2) (hX x (List.mem_cons_self ..))
    obtain ⟨i1, i2, i3, i4⟩ := ih (e_put n x.1 (f x.1) E) (by rw [e1]; exact s) (fun y hy => by rw [e1]; exact hX y (List.mem_cons_of_mem _ hy))
    refine ⟨w_ls_cons (L1 := (e_put n x.1 (f x.1) E).2.1) w_lg_new i1, i2.trans e1, i3, ?_⟩
    rw [List.foldl_cons, i4, List.length_cons]
    show E.2.1.length + 1 + t.length = _
    omega
theorem lX_sub1 {lo hi : Nat} (h : lo < hi) (hh : hi < 2 ^ 61) : decide (lN hi - lN lo ≤ 1) = decide (¬ 1 < hi - lo) := by
  have e : lN hi - lN lo = lN (hi - lo) := lN_sub (Nat.le_of_lt h)
  rw [e]
  have h1 : lN (hi - lo) ≤ 1 ↔ hi - lo ≤ 1 := lX_le (b := 1) (by omega) (by omega)
  by_cases c : hi - lo ≤ 1
  · rw [decide_eq_true (h1.mpr c), decide_eq_true (by omega)]
  · rw [decide_eq_false (fun z => c (h1.mp z)), decide_eq_false (by omega)]
section CSO
variable {G : k_G} {l : Launch}
theorem c_E_advance (ok : k_ok G l) {a : Nat} {h : k_H} {E : e_S} {n m S : Nat} {Q : List k_K2} (hs : c_sE a h E n Q S) (hn : n + m ≤ 9000) : k_ctv (tX8_advance G l) [vR (some (a + 1)), vI (nI m)] h (fun h' => c_sE a h' E (n + m) Q S ∧ k_mo a [6, 7, 11] (c_A5 a) 0 h h') := by
  obtain ⟨KS, L, WS, z, st, r, q, e⟩ := hs
  obtain ⟨h', t, rfl⟩ := c_X8_advance ok (st_obj st) hn
  exact ⟨_, t, ⟨KS, L, WS, z, c_st_adv st hn, r, q, e⟩, mv_o (st_obj st) (Or.inl (by simp))⟩
theorem c_E_keyFor (ok : k_ok G l) {a : Nat} {h : k_H} {E : e_S} {n c S : Nat} {Q : List k_K2} (hs : c_sE a h E n Q S) (hc : c < 1331000000000) (hlim : e_lim E) : k_ctr (tX8_keyFor G l) [vR (some (a + 1)), vJ (lN c)] h (fun h' v => ∃ k S', v = some k ∧ c_sE a h' (m_ins c E.1, E.2) n Q S' ∧ S ≤ S' ∧ k_mo a [6, 7, 11] (c_A5 a) (S' - S) h h') := by
  obtain ⟨KS, L, WS, z, st, r, q, e⟩ := hs
  obtain ⟨b1, b2, b3, b4⟩ := sE_lim st r q.2 hlim (e_le_refl E)
  obtain ⟨h', v, t, k, rfl, st', hm, mv⟩ := c_S_keyFor ok st hc (by omega)
  have hl := c_ins_le c k KS
  exact ⟨h', _, t, k, _, rfl, ⟨_, L, WS, z, st', rE_ins r b4, ⟨fun y hy => c_ins_mem (q.1 y hy), q.2⟩, rfl⟩, by omega, mv_mono mv (fun _ h => by cases h) (fun p h => Or.inl h) (by omega)⟩
theorem c_E_keyForW (ok : k_ok G l) {a : Nat} {h : k_H} {E : e_S} {n c S : Nat} {Q : List k_K2} (hs : c_sE a h E n Q S) (hc : c < 1331000000000) (hlim : e_lim E) (hQ : Q.length < 20) : k_ctr (tX8_keyFor G l) [vR (some (a + 1)), vJ (lN c)] h (fun h' v => ∃ k S', v = some k ∧ c_sE a h' E n (Q ++ [(c, k)]) S' ∧ S ≤ S' ∧ k_mo a [6, 7, 11] (c_A5 a) (S' - S) h h') := by
  obtain ⟨KS, L, WS, z, st, r, q, e⟩ := hs
  obtain ⟨b1, b2, b3, b4⟩ := sE_lim st r q.2 hlim (e_le_refl E)
  obtain ⟨h', v, t, k, rfl, st', hm, mv⟩ := c_S_keyFor ok st hc (by omega)
  have hl := c_ins_le c k KS
  obtain ⟨r1, ⟨r2, r3⟩, r4⟩ := r
  refine ⟨h', _, t, k, _, rfl, ⟨_, L, WS, z, st', ⟨r1, ⟨fun y hy => ?_, ?_⟩, r4⟩, ⟨fun y hy => ?_, ?_⟩, rfl⟩, by omega, mv_mono mv (fun _ h => by cases h) (fun p h => Or.inl h) (by omega)⟩
  · obtain ⟨k2, hk2⟩ := r2 y hy
    exact ⟨k2, c_ins_mem hk2⟩
  · rw [List.length_append, List.length_singleton]; omega
  · rcases List.mem_append.mp hy with hy | hy
    · exact c_ins_mem (q.1 y hy)
    · rw [List.mem_singleton.mp hy]; exact hm
  · rw [List.length_append, List.length_singleton]; omega
theorem c_E_alter (ok : k_ok G l) {a : Nat} {h : k_H} {E : e_S} {n c S : Nat} {Q : List k_K2} {kd g : Int32} (hs : c_sE a h E n Q S) (hc : c < 1331000000000) (hlim : e_lim (e_put n c (s_apO kd g (nI n) (r_val c n E.2.1)) E)) :
    k_ctv (tX8_alter G l) [vR (some (a + 1)), vI kd, vJ (lN c), vI g] h (fun h' => ∃ S', c_sE a h' (e_put n c (s_apO kd g (nI n) (r_val c n E.2.1)) E) n Q S' ∧ S ≤ S' ∧ k_mo a [6, 7, 11] (c_A5 a) (S' - S) h h') := by
  obtain ⟨KS, L, WS, z, st, r, q, e⟩ := hs
  obtain ⟨b1, b2, b3, b4⟩ := sE_lim st r q.2 hlim (e_le_put _ _ _ _)
  obtain ⟨h', t, k, L', z', st', w, mv⟩ := c_S_alter ok (kd := kd) (g := g) st hc (by omega) (by omega)
  have hl := c_ins_le c k KS
  rw [r.1.1] at w
  have hw := w.2.2.1
  exact ⟨h', t, _, ⟨_, L', WS, z', st', rE_put r b4 w, ⟨fun y hy => c_ins_mem (q.1 y hy), q.2⟩, rfl⟩, by omega, mv_mono mv (fun _ h => h) (fun p h => by rcases h with h | h; exact Or.inl h; exact Or.inr (Or.inr (Or.inr h))) (by omega)⟩
theorem c_E_wipe (ok : k_ok G l) {a : Nat} {h : k_H} {E : e_S} {n lo hi S : Nat} {Q : List k_K2} (hs : c_sE a h E n Q S) (hlo : lo < hi) (hhi : hi ≤ 1331000000000) (hlim : e_lim (e_clr n lo hi E)) :
    k_ctv (tX8_wipe G l) [vR (some (a + 1)), vJ (lN lo), vJ (lN hi)] h (fun h' => ∃ S', c_sE a h' (e_clr n lo hi E) n Q S' ∧ S ≤ S' ∧ k_mo a [6, 7, 11] (c_A5 a) (S' - S) h h') := by
  obtain ⟨KS, L, WS, z, st, r, q, e⟩ := hs
  obtain ⟨b1, b2, b3, b4⟩ := sE_lim st r q.2 hlim (e_le_clr _ _ _ _)
  obtain ⟨h', t, L', p, z', st', w, mv⟩ := c_S_wipe ok st hlo hhi (by omega) (by omega) b3
  have hw := w.2.2.1
  refine ⟨h', t, _, ⟨KS, L', _, z', st', rE_clr r b4 w, q, rfl⟩, by rw [List.length_append, List.length_singleton]; omega, mv_mono mv (fun _ h => h) (fun p h => Or.inr h) (by rw [List.length_append, List.length_singleton]; omega)⟩
theorem c_E_valueNow (ok : k_ok G l) {a : Nat} {h : k_H} {E : e_S} {n c S : Nat} {Q : List k_K2} (hs : c_sE a h E n Q S) (hc : c < 2 ^ 62) : k_cti (tX8_valueNow G l) [vR (some (a + 1)), vJ (lN c)] h (fun h' v => c_sE a h' E n Q S ∧ v = o_told (r_val c n E.2.1) ∧ k_mo a [6, 7, 11] (c_A5 a) 0 h h') := by
  obtain ⟨KS, L, WS, z, st, r, q, e⟩ := hs
  obtain ⟨cK, cW, cH, xs, ka, ⟨s1, s2, s3, s4, s5⟩, ⟨t1, t2, t3, t4⟩, ⟨l1, l2, l3⟩, tW, tn, ta, tw⟩ := id st
  obtain ⟨h', v, t, e1, rfl⟩ := c_X8_valueNow ok s1 s5 s2 t1 t2 t3 (fun x hx => by have := l1 x hx; omega) hc (by omega)
  obtain ⟨st', mv⟩ := st_setcell_h st (r_val c n L, false) e1
  exact ⟨h', _, t, ⟨KS, L, WS, _, st', r, q, e⟩, by rw [r.1.1], mv_mono mv (fun _ h => by cases h) (fun p h => Or.inr (Or.inr (Or.inr h))) (Nat.le_refl _)⟩
theorem c_E_entryIn (ok : k_ok G l) {a : Nat} {h : k_H} {E : e_S} {n c m S : Nat} {Q : List k_K2} (hs : c_sE a h E n Q S) (hc : c < 2 ^ 62) (hm : m < 2 ^ 31) : k_ctr (tX8_entryIn G l) [vR (some (a + 1)), vJ (lN c), vI (nI m)] h (fun h' v => h' = h ∧ ((v = none ∧ r_val c m E.2.1 = none) ∨ (∃ a k w b e, v = some a ∧ h.1 a = some (o_ent k w b e (r_val c m E.2.1))))) := by
  obtain ⟨KS, L, WS, z, st, r, q, e⟩ := hs
  obtain ⟨cK, cW, cH, xs, ka, ⟨s1, s2, s3, s4, s5⟩, ⟨t1, t2, t3, t4⟩, ⟨l1, l2, l3⟩, tW, tn, ta, tw⟩ := id st
  obtain ⟨h', v, t, rfl, rfl⟩ := c_X8_entryIn ok s1 s2 t1 t2 t3 (fun x hx => by have := l1 x hx; omega) hc hm
  refine ⟨_, _, t, rfl, ?_⟩
  rw [← r.1.1]
  exact look_ok t3 c m
theorem c_E_listHeld (ok : k_ok G l) {a : Nat} {h : k_H} {E : e_S} {n lo hi S : Nat} {Q : List k_K2} (hs : c_sE a h E n Q S) (hlo : lo < 2 ^ 62) (hhi : hi < 2 ^ 62) (hlim : e_lim E) : k_ctr (tX8_listHeld G l) [vR (some (a + 1)), vJ (lN lo), vJ (lN hi)] h (fun h' v => v = some (a + 4) ∧ c_sE a h' E n Q S ∧ (∃ (X : List k_K2) (cap : Nat), h'.1 (a + 4) = some (k_l (X.map (fun x => x.2)) cap) ∧ X.map (fun x => x.1) = (c_hl lo hi n E.1 E.2.1).map (fun x => x.1) ∧ ∀ y ∈ X, y.1 < 1331000000000 ∧ ∃ f, h'.1 y.2 = some (k_o 7 [vJ (lN y.1), f])) ∧ k_mo a [6, 7, 11] (c_A5 a) 0 h h') := by
  obtain ⟨KS, L, WS, z, st, r, q, e⟩ := hs
  obtain ⟨b1, b2, b3, b4⟩ := sE_lim st r q.2 hlim (e_le_refl E)
  obtain ⟨h', v, t, rfl, st', ⟨cap, e4⟩, mv⟩ := c_S_listHeld ok st hlo hhi (by omega)
  refine ⟨h', _, t, rfl, ⟨KS, L, WS, z, st', r, q, e⟩, ⟨_, cap, e4, rE_hl r b4 lo hi n, fun y hy => ?_⟩, mv_mono mv (fun _ h => by cases h) (fun p h => Or.inr (Or.inr (Or.inl h))) (Nat.le_refl _)⟩
  obtain ⟨cK, cW, cH, xs, ka, -, ⟨t1, -⟩, -⟩ := id st'
  have h2 := t1.1 y (r_flt_of hy).1
  exact ⟨h2.1, _, h2.2⟩
theorem c_E_countDiffering (ok : k_ok G l) {a : Nat} {h : k_H} {E : e_S} {n v S : Nat} {Q : List k_K2} (hs : c_sE a h E n Q S) (hv : v < 2 ^ 31) : k_cti (tX8_countDiffering G l) [vR (some (a + 1)), vI (nI v)] h (fun h' w => h' = h ∧ w = nI (E.1.filter (fun y => bb_oth E.2.1 n v y.1)).length) := by
  obtain ⟨KS, L, WS, z, st, r, q, e⟩ := hs
  obtain ⟨cK, cW, cH, xs, ka, ⟨s1, s2, s3, s4, s5⟩, ⟨t1, t2, t3, t4⟩, ⟨l1, l2, l3⟩, tW, tn, ta, tw⟩ := id st
  obtain ⟨h', w, t, rfl, rfl⟩ := c_X8_countDiffering ok s1 s2 t1 t3 (fun x hx => by have := l1 x hx; omega) hv
  refine ⟨_, _, t, rfl, ?_⟩
  have h1 := congrArg List.length (rE_oth r t1.2.1 n v)
  rw [List.length_map, List.length_map] at h1
  rw [← h1, List.countP_eq_length_filter]
  congr 2
  refine List.filter_congr fun y _ => ?_
  unfold r_dif bb_oth
  rw [bb_dif_eq, r_now_val l1]
  by_cases c : r_val y.1 n L = r_val y.1 v L
  · rw [decide_eq_true c, decide_eq_true c.symm]
  · rw [decide_eq_false c, decide_eq_false (fun z => c z.symm)]
theorem ap_set (g s : Int32) (o : Option Int32) : s_apO 0 g s o = some g := by
  unfold s_apO
  rw [if_neg (by decide)]
  rfl
theorem c_E_applyInOrder (ok : k_ok G l) {a : Nat} {h : k_H} {E : e_S} {n S : Nat} {Q : List k_K2} {x : k_CH} (hs : c_sE a h E n Q S) (hx : h.1 x.1 = some (o_chg x)) (hlo : x.2.2.1 < x.2.2.2.1) (hhi : x.2.2.2.1 ≤ 1331000000000) (h1 : ¬ 1 < x.2.2.2.1 - x.2.2.1 ∨ x.2.1 = 1) (hlim : e_lim (e_do n E x)) :
    k_ctv (tX8_applyInOrder G l) [vR (some (a + 1)), vR (some x.1)] h (fun h' => ∃ S', c_sE a h' (e_do n E x) n Q S' ∧ S ≤ S' ∧ k_mo a [6, 7, 11] (c_A5 a) (S' - S) h h') := by
  refine k_ctv_of (eX8_applyInOrder ok.2 (bX8_applyInOrder_0 (k_is_o hx) (c_X1_isInOrder ok hx) ?_))
  rintro _ _ ⟨hh, rfl⟩
  rw [hh]
  have ed : e_do n E x = if s_ord x.2.1 = true then (if 1 < x.2.2.2.1 - x.2.2.1 then e_clr n x.2.2.1 x.2.2.2.1 E else e_put n x.2.2.1 (s_apO x.2.1 x.2.2.2.2.1 (nI n) (r_val x.2.2.1 n E.2.1)) E) else E := rfl
  refine bX8_applyInOrder_4 (fun c1 => ?_) (fun c1 => ?_)
  · rw [kB_n0] at c1
    rw [if_pos c1] at ed
    obtain ⟨KS, L, WS, z, st, -⟩ := id hs
    refine bX8_applyInOrder_8 (k_is_o hx) (c_X1_isRange ok hx) ?_
    rintro _ _ ⟨hh, rfl⟩
    rw [hh, lX_sub1 hlo (by omega)]
    refine bX8_applyInOrder_12 (fun c2 => ?_) (fun c2 => ?_)
    · rw [kB_0, Bool.not_eq_false', decide_eq_true_eq] at c2
      rw [if_neg c2] at ed
      rw [ed] at hlim ⊢
      refine bX8_applyInOrder_30 hx rfl rfl rfl (k_is_o (st_obj st)) (c_E_alter ok hs (by omega) hlim) ?_
      rintro h2 P
      exact bX8_applyInOrder_46 ⟨rfl, P⟩
    · rw [kB_n0, Bool.not_eq_true', decide_eq_false_iff_not, Classical.not_not] at c2
      rw [if_pos c2] at ed
      rw [ed] at hlim ⊢
      refine bX8_applyInOrder_15 hx rfl rfl (k_is_o (st_obj st)) (c_E_wipe ok hs hlo hhi hlim) ?_
      rintro h2 P
      exact bX8_applyInOrder_27 (bX8_applyInOrder_46 ⟨rfl, P⟩)
  · rw [kB_0] at c1
    rw [if_neg (by rw [c1]; decide)] at ed
    rw [ed]
    exact bX8_applyInOrder_7 ⟨rfl, S, hs, Nat.le_refl _, by rw [Nat.sub_self]; exact mv_refl _ _ _ _⟩
theorem c_E_applyStamped (ok : k_ok G l) {a : Nat} {h : k_H} {E : e_S} {n S : Nat} {Q : List k_K2} {x : k_CH} (hs : c_sE a h E n Q S) (hx : h.1 x.1 = some (o_chg x)) (hlo : x.2.2.1 < 1331000000000) (hn : n < 9000) (hp : x.2.1 = 6 → s_pl x.2.2.2.2.2 = s_stp (m_ck x) x.2.2.1) (hlim : e_lim (e_st n E x)) :
    k_ctv (tX8_applyStamped G l) [vR (some (a + 1)), vR (some x.1)] h (fun h' => ∃ S', c_sE a h' (e_st n E x) n Q S' ∧ S ≤ S' ∧ k_mo a [6, 7, 11] (c_A5 a) (S' - S) h h') := by
  have ed : e_st n E x = if x.2.1 = 6 then e_put n (e_sc x n) (some x.2.2.2.2.1) E else E := rfl
  obtain ⟨KS, L, WS, z, st, -⟩ := id hs
  refine k_ctv_of (eX8_applyStamped ok.2 (bX8_applyStamped_0 hx rfl (fun c1 => ?_) (fun c1 => ?_)))
  · rw [if_neg c1] at ed
    rw [ed]
    exact bX8_applyStamped_33 ⟨rfl, S, hs, Nat.le_refl _, by rw [Nat.sub_self]; exact mv_refl _ _ _ _⟩
  · rw [if_pos c1] at ed
    rw [ed] at hlim ⊢
    have nn : s_na (nI n) := e_n_na hn
    refine bX8_applyStamped_9 hx rfl rfl (st_obj st) rfl (c_X11_withNumber ok hlo nn) ?_
    rintro _ _ ⟨hh, rfl⟩
    rw [hh]
    have ec : s_with x.2.2.1 (s_pl x.2.2.2.2.2) (nI n) = e_sc x n := by rw [hp c1]; rfl
    rw [ec]
    have hcl : e_sc x n < 1331000000000 := by
      unfold e_sc s_with
      exact s_cd_lt (by split; exact nn; exact s_no_na _ _) (by split; exact nn; exact s_no_na _ _) (by split; exact nn; exact s_no_na _ _)
    have hA := c_E_alter ok (kd := 0) (g := x.2.2.2.2.1) hs hcl (by rw [ap_set]; exact hlim)
    rw [ap_set] at hA
    refine bX8_applyStamped_26 hx rfl (k_is_o (st_obj st)) hA ?_
    rintro h2 P
    exact bX8_applyStamped_33 ⟨rfl, P⟩
end CSO
