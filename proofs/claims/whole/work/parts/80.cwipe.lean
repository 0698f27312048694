/-! THE CLASS'S STORE LISTS WHAT IS HELD, AND WIPES -/
def w_ls (X : List Nat) (n : Nat) (f : Nat → Option Int32) (L L' : List k_E4) : Prop := (∀ d m, r_val d m L' = if d ∈ X ∧ n ≤ m then f d else r_val d m L) ∧ (∀ d v, r_has d v L' ↔ (r_has d v L ∨ (d ∈ X ∧ v = n))) ∧ L.length ≤ L'.length ∧ L'.length ≤ L.length + X.length
theorem w_ls_nil (n : Nat) (f : Nat → Option Int32) (L : List k_E4) : w_ls [] n f L L := ⟨fun d m => by simp, fun d v => by simp, Nat.le_refl _, Nat.le_refl _⟩
theorem w_ls_snoc {X : List Nat} {n c : Nat} {f : Nat → Option Int32} {L L1 L2 : List k_E4} (h1 : w_ls X n f L L1) (h2 : w_lg c n (f c) L1 L2) : w_ls (X ++ [c]) n f L L2 := by
  refine ⟨fun d m => ?_, fun d v => ?_, Nat.le_trans h1.2.2.1 h2.2.2.1, by have := h1.2.2.2; have := h2.2.2.2; rw [List.length_append, List.length_singleton]; omega⟩
  · rw [h2.1, h1.1]
    by_cases e : d = c ∧ n ≤ m
    · rw [if_pos e, if_pos ⟨by simp [e.1], e.2⟩, e.1]
    · rw [if_neg e]
      by_cases e2 : d ∈ X ∧ n ≤ m
      · rw [if_pos e2, if_pos ⟨by simp [e2.1], e2.2⟩]
      · rw [if_neg e2, if_neg]
        rintro ⟨h, hm⟩
        rcases List.mem_append.mp h with h | h
        · exact e2 ⟨h, hm⟩
        · exact e ⟨List.mem_singleton.mp h, hm⟩
  · rw [h2.2.1, h1.2.1]
    constructor
    · rintro ((h | ⟨h, hv⟩) | ⟨h, hv⟩)
      · exact Or.inl h
      · exact Or.inr ⟨by simp [h], hv⟩
      · exact Or.inr ⟨by simp [h], hv⟩
    · rintro (h | ⟨h, hv⟩)
      · exact Or.inl (Or.inl h)
      · rcases List.mem_append.mp h with h | h
        · exact Or.inl (Or.inr ⟨h, hv⟩)
        · exact Or.inr ⟨List.mem_singleton.mp h, hv⟩
/-- the held keys of a row of keys -/
def c_hl (lo hi n : Nat) (KS : List k_K2) (L : List k_E4) : List k_K2 := r_flt lo hi (fun c => (r_val c n L).isSome) KS
theorem held_flt {lo hi n : Nat} {KS : List k_K2} {L : List k_E4} (s : KS.Pairwise (fun x y => x.1 < y.1)) (hv : ∀ x ∈ L, x.2.2.1 ≤ n) : r_held lo hi KS L = (c_hl lo hi n KS L).map (fun x => x.2) := by
  unfold r_held r_hd c_hl
  rw [← rs_start s]
  unfold r_rem
  congr 1
  refine List.filter_congr fun x _ => ?_
  rw [r_now_val hv]
theorem st_sethl {a : Nat} {h : k_H} {KS : List k_K2} {L : List k_E4} {WS : List k_SP} {n : Nat} {z : Option Int32 × Bool} (hs : c_st a h KS L WS n z) (ys : List Nat) (cap' k m cH : Nat) (xs0 : List Nat) (s4 : h.1 (a + 4) = some (k_l xs0 cH)) (g : k_gw KS.length k cH cap' m) (hb : KS.length ≤ 12600) :
    c_st a (k_sk (k_up h (a + 4) (k_l ys cap')) k m) KS L WS n z ∧ k_mo a [] (fun q => q = a + 4) 0 h (k_sk (k_up h (a + 4) (k_l ys cap')) k m) := by
  obtain ⟨cK, cW, cH2, xs, ka, ⟨s1, s2, s3, -, s5⟩, ⟨t1, t2, t3, t4⟩, tL, tW, tn, ta, tw⟩ := hs
  have mv : k_mo a [] (fun q => q = a + 4) 0 h (k_sk (k_up h (a + 4) (k_l ys cap')) k m) := mv_l s4 (by decide) rfl g (by show KS.length + KS.length / 2 + 10 ≤ 20000; omega)
  have n1 : ∀ p c, h.1 p = some c → p ≠ a + 4 → (k_sk (k_up h (a + 4) (k_l ys cap')) k m).1 p = some c := fun p c hp hne => mv.1 p c hp hne (fun _ _ _ => List.not_mem_nil)
  have kp : k_kp h (k_sk (k_up h (a + 4) (k_l ys cap')) k m) := kp_mo mv (fun q e ci fs z => by rw [e, s4] at z; cases z)
  exact ⟨⟨cK, cW, cap', ys, ka, ⟨n1 _ _ s1 (by omega), n1 _ _ s2 (by omega), n1 _ _ s3 (by omega), k_up_self _ _ _, n1 _ _ s5 (by omega)⟩, ⟨r_ks_keep kp t1, t2, r_log_keep kp t3, t4⟩, tL, fun x hx => ⟨kp _ _ _ (tW x hx).1, (tW x hx).2⟩, tn, Nat.le_trans ta mv.2.2.1, mv.2.1 tw⟩, mv⟩
section CWP
variable {G : k_G} {l : Launch}
theorem c_S_listHeld (ok : k_ok G l) {a : Nat} {h : k_H} {KS : List k_K2} {L : List k_E4} {WS : List k_SP} {n lo hi : Nat} {z : Option Int32 × Bool} (hs : c_st a h KS L WS n z) (hlo : lo < 2 ^ 62) (hhi : hi < 2 ^ 62) (hb : KS.length ≤ 12600) :
    k_ctr (tX8_listHeld G l) [vR (some (a + 1)), vJ (lN lo), vJ (lN hi)] h (fun h' v => v = some (a + 4) ∧ c_st a h' KS L WS n z ∧ (∃ cap, h'.1 (a + 4) = some (k_l ((c_hl lo hi n KS L).map (fun x => x.2)) cap)) ∧ k_mo a [] (fun q => q = a + 4) 0 h h') := by
  obtain ⟨cK, cW, cH, xs, ka, ⟨s1, s2, s3, s4, s5⟩, ⟨t1, t2, t3, t4⟩, ⟨l1, l2, l3⟩, tW, tn, ta, tw⟩ := id hs
  obtain ⟨h', v, t, rfl, cap', k, m, rfl, g⟩ := c_X8_listHeld ok tw s1 s2 s4 (by omega) t1 t3 hlo hhi
  obtain ⟨q1, q2⟩ := st_sethl hs (r_held lo hi KS L) cap' k m cH xs s4 g hb
  refine ⟨_, _, t, rfl, q1, ⟨cap', ?_⟩, q2⟩
  rw [← held_flt t1.2.1 l1]
  exact k_up_self _ _ _
theorem c_S_wipe (ok : k_ok G l) {a : Nat} {h : k_H} {KS : List k_K2} {L : List k_E4} {WS : List k_SP} {n lo hi : Nat} {z : Option Int32 × Bool} (hs : c_st a h KS L WS n z) (hlo : lo < hi) (hhi : hi ≤ 1331000000000) (hb : KS.length ≤ 12600) (hL : L.length + KS.length < 1048576) (hW : WS.length ≤ 8192) :
    k_ctv (tX8_wipe G l) [vR (some (a + 1)), vJ (lN lo), vJ (lN hi)] h (fun h' => ∃ L' q z', c_st a h' KS L' (WS ++ [(q, lo, hi, n)]) n z' ∧ w_ls ((c_hl lo hi n KS L).map (fun x => x.1)) n (fun _ => none) L L' ∧ k_mo a [6, 7, 11] (fun q => q = a + 3 ∨ q = a + 4 ∨ q = a + 5) (L'.length + 1 - L.length) h h') := by
  refine k_ctv_of (eX8_wipe ok.2 (bX8_wipe_0 (k_is_o (st_obj hs)) (c_S_listHeld ok hs (by omega) (by omega) hb) ?_))
  rintro h1 _ ⟨rfl, hs1, ⟨cap, e4⟩, m1⟩
  have hXl : (c_hl lo hi n KS L).length ≤ KS.length := List.length_filter_le _ _
  have hXm : ∀ x ∈ c_hl lo hi n KS L, x ∈ KS := fun x hx => (r_flt_of hx).1
  generalize hX : c_hl lo hi n KS L = X at e4 hXl hXm
  have M1 : k_mo a [6, 7, 11] (fun q => q = a + 3 ∨ q = a + 4 ∨ q = a + 5) 0 h h1 := mv_mono m1 (fun _ h => by cases h) (fun q h => Or.inr (Or.inl h)) (Nat.le_refl _)
  -- the span is added
  have fin : ∀ (h2 : k_H) (L2 : List k_E4) (z2 : Option Int32 × Bool), c_st a h2 KS L2 WS n z2 → w_ls (X.map (fun x => x.1)) n (fun _ => none) L L2 → k_mo a [6, 7, 11] (fun q => q = a + 3 ∨ q = a + 4 ∨ q = a + 5) (L2.length - L.length) h h2 →
      k_X (jX8_wipe G l h) h2 53 [(0, vR (some (a + 1))), (1, vJ (lN lo)), (3, vJ (lN hi))] [] (q_v (fun h' => ∃ L' q z', c_st a h' KS L' (WS ++ [(q, lo, hi, n)]) n z' ∧ w_ls (X.map (fun x => x.1)) n (fun _ => none) L L' ∧ k_mo a [6, 7, 11] (fun q => q = a + 3 ∨ q = a + 4 ∨ q = a + 5) (L'.length + 1 - L.length) h h')) := by
    intro h2 L2 z2 hs2 hw2 M2
    obtain ⟨cK, cW, cH, xs, ka, ⟨s1, s2, s3, s4, s5⟩, ⟨t1, t2, t3, t4⟩, tL, tW, tn, ta, tw⟩ := id hs2
    refine bX8_wipe_53 s1 rfl (Or.inr ⟨rfl, _, _, s3⟩) (c_size ok s3) ?_
    rintro _ _ ⟨hh, rfl⟩
    rw [hh, List.length_map]
    refine bX8_wipe_60 (fun z => absurd z (nI_ge (b := 16384) (by omega) (by omega))) (fun _ => bX8_wipe_66 s1 rfl ?_)
    have w3 : k_wf (k_nw h2 3 (k_o 10 [vJ 0, vJ 0, vI 0])) := wf_nw tw
    have s1' : (k_nw h2 3 (k_o 10 [vJ 0, vJ 0, vI 0])).1 (a + 1) = some (k_o 11 [vR (some (a + 2)), vR (some (a + 3)), vR (some (a + 4)), vR (some (a + 5)), vI (nI L2.length), vR (L2.head?.map (fun y => y.1)), vI (nI n)]) := nw_old tw s1
    refine bX8_wipe_73 s1' rfl (c_X7_init ok (k_nw_self _ _ _)) ?_
    rintro h3 e3
    rw [up_nw] at e3
    have esp : h3.1 h2.2.1 = some (o_spn (h2.2.1, lo, hi, n)) := by rw [e3]; exact k_nw_self _ _ _
    have m3 : k_mo a [6, 7, 11] (fun q => q = a + 3 ∨ q = a + 4 ∨ q = a + 5) 1 h2 h3 := by rw [e3]; exact mv_nw tw ta (by omega)
    have old : ∀ p c, h2.1 p = some c → h3.1 p = some c := fun p c hp => by rw [e3]; exact nw_old tw hp
    have w3' : k_wf h3 := m3.2.1 tw
    have el : ∀ x ∈ WS.map (fun x => x.1), k_el h3 x := fun x hx => by
      obtain ⟨y, hy, rfl⟩ := List.mem_map.mp hx
      exact el_spn (old _ _ (tW y hy).1)
    refine bX8_wipe_83 (Or.inr ⟨rfl, _, _, old _ _ s3⟩) (c_add ok w3' (old _ _ s3) (by rw [List.length_map]; omega) el (el_spn esp)) ?_
    rintro h4 _ ⟨e4, rfl⟩
    rw [List.length_map] at e4
    have m4 : k_mo a [6, 7, 11] (fun q => q = a + 3 ∨ q = a + 4 ∨ q = a + 5) 0 h3 h4 := by rw [e4]; exact mv_gr (old _ _ s3) (by decide) (Or.inl rfl) (by show WS.length + WS.length / 2 + 10 ≤ 13000; omega)
    obtain ⟨cW', es3⟩ := gr_at h3 (a + 3) (WS.map (fun x => x.1) ++ [h2.2.1]) WS.length cW
    have ne3 : ∀ p c, h3.1 p = some c → p ≠ a + 3 → h4.1 p = some c := fun p c hp hne => by rw [e4, gr_ne _ _ _ _ hne]; exact hp
    rw [← e4] at es3
    have kp : k_kp h2 h4 := fun q ci fs hq => ne3 _ _ (old _ _ hq) (fun z => by rw [z, s3] at hq; cases hq)
    refine bX8_wipe_86 (bX8_wipe_87 ⟨rfl, L2, h2.2.1, z2, ⟨cK, cW', cH, xs, ka, ⟨ne3 _ _ (old _ _ s1) (by omega), ne3 _ _ (old _ _ s2) (by omega), by rw [es3, List.map_append]; rfl, ne3 _ _ (old _ _ s4) (by omega), ne3 _ _ (old _ _ s5) (by omega)⟩, ⟨r_ks_keep kp t1, t2, r_log_keep kp t3, t4⟩, tL, fun x hx => ?_, tn, by have := m3.2.2.1; have := m4.2.2.1; omega, m4.2.1 w3'⟩, hw2, ?_⟩)
    · rcases List.mem_append.mp hx with hx | hx
      · exact ⟨kp _ _ _ (tW x hx).1, (tW x hx).2⟩
      · rw [List.mem_singleton] at hx
        subst hx
        exact ⟨ne3 _ _ esp (by omega), hlo, hhi, Nat.le_refl _⟩
    · have := hw2.2.2.1
      exact mv_mono (mv_trans (mv_trans M2 m3) m4) (fun _ h => h) (fun _ h => h) (by omega)
  -- the loop
  have loop : ∀ (d i : Nat) (h2 : k_H) (L2 : List k_E4) (z2 : Option Int32 × Bool), X.length - i = d → i ≤ X.length → c_st a h2 KS L2 WS n z2 → w_ls ((X.take i).map (fun x => x.1)) n (fun _ => none) L L2 → k_mo a [6, 7, 11] (fun q => q = a + 3 ∨ q = a + 4 ∨ q = a + 5) (L2.length - L.length) h h2 → h2.1 (a + 4) = some (k_l (X.map (fun x => x.2)) cap) →
      k_X (jX8_wipe G l h) h2 11 [(0, vR (some (a + 1))), (1, vJ (lN lo)), (3, vJ (lN hi)), (5, vR (some (a + 4))), (6, vI (nI i))] [] (q_v (fun h' => ∃ L' q z', c_st a h' KS L' (WS ++ [(q, lo, hi, n)]) n z' ∧ w_ls (X.map (fun x => x.1)) n (fun _ => none) L L' ∧ k_mo a [6, 7, 11] (fun q => q = a + 3 ∨ q = a + 4 ∨ q = a + 5) (L'.length + 1 - L.length) h h')) := by
    intro d
    induction d with
    | zero =>
      intro i h2 L2 z2 hd hi hs2 hw2 M2 e4
      rw [List.take_of_length_le (by omega)] at hw2
      refine bX8_wipe_11 (Or.inr ⟨rfl, _, _, e4⟩) (c_size ok e4) ?_
      rintro _ _ ⟨hh, rfl⟩
      rw [hh, List.length_map]
      exact bX8_wipe_18 (fun _ => fin h2 L2 z2 hs2 hw2 M2) (fun z => absurd (nI_le (by omega) (by omega)) z)
    | succ d ih =>
      intro i h2 L2 z2 hd hi hs2 hw2 M2 e4
      have hlt : i < X.length := by omega
      obtain ⟨y, hy⟩ : ∃ y, X[i]? = some y := ⟨_, List.getElem?_eq_getElem hlt⟩
      have hyK := hXm y (List.mem_of_getElem? hy)
      have hle2 := hw2.2.2.2
      rw [List.length_map, List.length_take] at hle2
      refine bX8_wipe_11 (Or.inr ⟨rfl, _, _, e4⟩) (c_size ok e4) ?_
      rintro _ _ ⟨hh, rfl⟩
      rw [hh, List.length_map]
      refine bX8_wipe_18 (fun z => absurd z (nI_ge hlt (by omega))) (fun _ => bX8_wipe_21 (st_obj hs2) rfl (k_is_o (st_cell hs2)) (c_X0_load ok (st_cell hs2) (o := none) (Or.inl ⟨rfl, rfl⟩)) ?_)
      rintro h3 e3
      obtain ⟨hs3, m3⟩ := st_setcell_h hs2 (none, false) e3
      have e43 : h3.1 (a + 4) = some (k_l (X.map (fun x => x.2)) cap) := m3.1 _ _ e4 (by omega) (fun _ _ _ => List.not_mem_nil)
      refine bX8_wipe_29 (Or.inr ⟨rfl, _, _, e43⟩) (c_get ok e43 (by rw [List.getElem?_map, hy]; rfl)) ?_
      rintro _ _ ⟨hh, rfl⟩
      rw [hh]
      have hkc : h3.1 y.2 = some (o_key y.1 L2) := by
        obtain ⟨cK, cW, cH, xs, ka, -, ⟨t1, -⟩, -⟩ := id hs3
        exact (t1.1 y hyK).2
      refine bX8_wipe_37 hkc (st_obj hs3) rfl (k_is_o (st_obj hs3)) (c_S_write ok hs3 (c := y.1) (k := y.2) hyK (by omega)) ?_
      rintro h4 ⟨L4, hs4, hw4, m4⟩
      refine bX8_wipe_47 ?_
      rw [nI_1]
      have e44 : h4.1 (a + 4) = some (k_l (X.map (fun x => x.2)) cap) := m4.1 _ _ e43 (fun z => z) (fun ci fs e => by cases e)
      have m34 := mv_trans (mv_mono m3 (K' := [6, 7, 11]) (A' := fun q => q = a + 3 ∨ q = a + 4 ∨ q = a + 5) (fun _ h => by cases h) (fun q h => Or.inr (Or.inr h)) (Nat.le_refl _)) (mv_mono m4 (fun _ h => h) (fun q h => h.elim) (Nat.le_refl _))
      have l1 := hw2.2.2.1
      have l2 := hw4.2.2.1
      refine ih (i + 1) h4 L4 (none, false) (by omega) (by omega) hs4 ?_ (mv_mono (mv_trans M2 m34) (fun _ h => h) (fun _ h => h) (by omega)) e44
      rw [List.take_succ, hy, List.map_append]
      exact w_ls_snoc hw2 hw4
  exact bX8_wipe_6 (loop _ 0 h1 L z rfl (Nat.zero_le _) hs1 (w_ls_nil _ _ _) (mv_mono M1 (fun _ h => h) (fun _ h => h) (Nat.zero_le _)) e4)
end CWP
