/-! THE CLASS'S STORE BRINGS BACK -/
def bb_F (E : e_S) (n v : Nat) : e_S := (E.1.filter (fun y => bb_oth E.2.1 n v y.1)).foldl (fun E0 y => e_put n y.1 (r_val y.1 v E.2.1) E0) E
section CRS
variable {G : k_G} {l : Launch}
theorem c_S_restore (ok : k_ok G l) {a : Nat} {h : k_H} {KS : List k_K2} {L : List k_E4} {WS : List k_SP} {n v : Nat} {z : Option Int32 × Bool} (hs : c_st a h KS L WS n z) (hv : v < n) (hb : KS.length ≤ 12600) (hL : L.length + KS.length < 1048576) :
    k_ctv (tX8_restore G l) [vR (some (a + 1)), vI (nI v)] h (fun h' => ∃ L' z', c_st a h' KS L' WS n z' ∧ w_ls ((KS.filter (fun y => bb_oth L n v y.1)).map (fun y => y.1)) n (fun c => r_val c v L) L L' ∧ k_mo a [6, 7, 11] (fun q => q = a + 5) (L'.length - L.length) h h') := by
  have hsrt : KS.Pairwise (fun x y => x.1 < y.1) := by
    obtain ⟨cK, cW, cH, xs, ka, -, ⟨t1, -⟩, -⟩ := id hs
    exact t1.2.1
  have hn9 : n ≤ 9000 := by
    obtain ⟨cK, cW, cH, xs, ka, -, -, -, -, tn, -⟩ := id hs
    exact tn
  refine k_ctv_of (eX8_restore ok.2 (bX8_restore_0 ?_))
  have loop : ∀ (d i : Nat) (h2 : k_H) (L2 : List k_E4) (z2 : Option Int32 × Bool), KS.length - i = d → i ≤ KS.length → c_st a h2 KS L2 WS n z2 → w_ls (((KS.take i).filter (fun y => bb_oth L n v y.1)).map (fun y => y.1)) n (fun c => r_val c v L) L L2 → k_mo a [6, 7, 11] (fun q => q = a + 5) (L2.length - L.length) h h2 →
      k_X (jX8_restore G l h) h2 2 [(0, vR (some (a + 1))), (1, vI (nI v)), (2, vI (nI i))] [] (q_v (fun h' => ∃ L' z', c_st a h' KS L' WS n z' ∧ w_ls ((KS.filter (fun y => bb_oth L n v y.1)).map (fun y => y.1)) n (fun c => r_val c v L) L L' ∧ k_mo a [6, 7, 11] (fun q => q = a + 5) (L'.length - L.length) h h')) := by
    intro d
    induction d with
    | zero =>
      intro i h2 L2 z2 hd hi hs2 hw M
      obtain ⟨cK, cW, cH, xs, ka, ⟨s1, s2, s3, s4, s5⟩, -⟩ := id hs2
      rw [List.take_of_length_le (by omega)] at hw
      refine bX8_restore_2 s1 rfl (Or.inr ⟨rfl, _, _, s2⟩) (c_size ok s2) ?_
      rintro _ _ ⟨hh, rfl⟩
      rw [hh, List.length_map]
      exact bX8_restore_10 (fun _ => bX8_restore_68 ⟨rfl, L2, z2, hs2, hw, M⟩) (fun z => absurd (nI_le (by omega) (by omega)) z)
    | succ d ih =>
      intro i h2 L2 z2 hd hi hs2 hw M
      obtain ⟨cK, cW, cH, xs, ka, ⟨s1, s2, s3, s4, s5⟩, ⟨t1, t2, t3, t4⟩, ⟨l1, l2, l3⟩, tW, tn, ta, tw⟩ := id hs2
      have hlt : i < KS.length := by omega
      obtain ⟨y, hy⟩ : ∃ y, KS[i]? = some y := ⟨_, List.getElem?_eq_getElem hlt⟩
      have hyK := List.mem_of_getElem? hy
      have hkc := (t1.1 y hyK).2
      have hnot : y.1 ∉ ((KS.take i).filter (fun y => bb_oth L n v y.1)).map (fun y => y.1) := fun hin => by
        obtain ⟨u, hu, e⟩ := List.mem_map.mp hin
        obtain ⟨j, hj⟩ := List.getElem?_of_mem (List.mem_filter.mp hu).1
        rw [List.getElem?_take] at hj
        by_cases c : j < i
        · rw [if_pos c] at hj
          have := r_srt hsrt c hj hy
          omega
        · rw [if_neg c] at hj; cases hj
      have en : r_val y.1 n L2 = r_val y.1 n L := by rw [hw.1, if_neg (fun z => hnot z.1)]
      have ev : r_val y.1 v L2 = r_val y.1 v L := by rw [hw.1, if_neg (fun z => hnot z.1)]
      have hle := hw.2.2.2
      rw [List.length_map] at hle
      have hle2 : ((KS.take i).filter (fun y => bb_oth L n v y.1)).length ≤ i := by
        refine Nat.le_trans (List.length_filter_le _ _) ?_
        rw [List.length_take]; omega
      refine bX8_restore_2 s1 rfl (Or.inr ⟨rfl, _, _, s2⟩) (c_size ok s2) ?_
      rintro _ _ ⟨hh, rfl⟩
      rw [hh, List.length_map]
      refine bX8_restore_10 (fun z => absurd z (nI_ge hlt (by omega))) (fun _ => bX8_restore_13 s1 rfl (Or.inr ⟨rfl, _, _, s2⟩) (c_get ok s2 (by rw [List.getElem?_map, hy]; rfl)) ?_)
      rintro _ _ ⟨hh, rfl⟩
      rw [hh]
      refine bX8_restore_21 hkc (c_X4_entryIn ok hkc t3 (fun x hx => by have := l1 x hx; omega) (by omega)) ?_
      rintro _ _ ⟨hh, rfl⟩
      rw [hh]
      refine bX8_restore_30 hkc rfl (c_X3_alike ok (r_fst_ok t3 y.1) (look_ok t3 y.1 v)) ?_
      rintro _ _ ⟨hh, rfl⟩
      rw [hh, r_now_val l1, en, ev]
      have eo : bb_oth L n v y.1 = !(decide (r_val y.1 n L = r_val y.1 v L)) := by
        unfold bb_oth
        rw [bb_dif_eq]
        by_cases c : r_val y.1 n L = r_val y.1 v L
        · rw [decide_eq_true c, decide_eq_true c.symm]
        · rw [decide_eq_false c, decide_eq_false (fun z => c z.symm)]
      have etk : ((KS.take (i + 1)).filter (fun y => bb_oth L n v y.1)).map (fun y => y.1) = ((KS.take i).filter (fun y => bb_oth L n v y.1)).map (fun y => y.1) ++ (if bb_oth L n v y.1 = true then [y.1] else []) := by
        rw [List.take_succ, hy, List.filter_append, List.map_append]
        congr 1
        show List.map _ ([y].filter _) = _
        cases e : bb_oth L n v y.1 with
        | true => simp [e]
        | false => simp [e]
      refine bX8_restore_41 (fun c1 => ?_) (fun c1 => ?_)
      · rw [kB_n0] at c1
        rw [c1] at eo
        rw [eo, if_neg (by decide), List.append_nil] at etk
        refine bX8_restore_62 ?_
        rw [nI_1]
        exact ih (i + 1) h2 L2 z2 (by omega) (by omega) hs2 (by rw [etk]; exact hw) M
      · rw [kB_0] at c1
        rw [c1] at eo
        rw [eo, if_pos (by decide)] at etk
        refine bX8_restore_44 s1 rfl (k_is_o s5) (c_X0_load ok s5 (look_ok t3 y.1 v)) ?_
        rintro h3 e3
        obtain ⟨hs3, m3⟩ := st_setcell_h hs2 (r_val y.1 v L2, false) e3
        refine bX8_restore_53 (st_obj hs3) rfl (c_S_write ok hs3 (c := y.1) (k := y.2) hyK (by omega)) ?_
        rintro h4 ⟨L4, hs4, hw4, m4⟩
        refine bX8_restore_62 ?_
        rw [nI_1]
        have l5 := hw.2.2.1
        have l6 := hw4.2.2.1
        have m34 := mv_trans (mv_mono m3 (K' := [6, 7, 11]) (A' := fun q => q = a + 5) (fun _ h => by cases h) (fun q h => h) (Nat.le_refl _)) (mv_mono m4 (fun _ h => h) (fun q h => h.elim) (Nat.le_refl _))
        refine ih (i + 1) h4 L4 _ (by omega) (by omega) hs4 ?_ (mv_mono (mv_trans M m34) (fun _ h => h) (fun _ h => h) (by omega))
        rw [etk]
        refine w_ls_snoc hw ?_
        rw [← ev]
        exact hw4
  exact loop _ 0 h L z rfl (Nat.zero_le _) hs (w_ls_nil _ _ _) (by rw [Nat.sub_self]; exact mv_refl _ _ _ _)
theorem c_E_restore (ok : k_ok G l) {a : Nat} {h : k_H} {E : e_S} {n v S : Nat} {Q : List k_K2} (hs : c_sE a h E n Q S) (hv : v < n) (hlim : e_lim (bb_F E n v)) :
    k_ctv (tX8_restore G l) [vR (some (a + 1)), vI (nI v)] h (fun h' => ∃ S', c_sE a h' (bb_F E n v) n Q S' ∧ S ≤ S' ∧ k_mo a [6, 7, 11] (c_A5 a) (S' - S) h h') := by
  obtain ⟨KS, L, WS, z, st, r, q, e⟩ := hs
  obtain ⟨b1, b2, b3, b4⟩ := sE_lim st r q.2 hlim (bb_E_le n (fun c => r_val c v E.2.1) _ E)
  obtain ⟨h', t, L', z', st', w, mv⟩ := c_S_restore ok st hv (by omega) (by omega)
  have hw := w.2.2
  rw [rE_oth r b4] at w
  have r5 := r.2.2.2.2
  have hfe : w_ls ((E.1.filter (fun y => bb_oth E.2.1 n v y.1)).map (fun y => y.1)) n (fun c => r_val c v E.2.1) L L' := by
    have ef : (fun c => r_val c v L) = (fun c => r_val c v E.2.1) := funext fun c => r.1.1 c v
    rw [ef] at w
    exact w
  obtain ⟨i1, i2, i3, i4⟩ := bb_ls n (fun c => r_val c v E.2.1) (E.1.filter (fun y => bb_oth E.2.1 n v y.1)) E r5 (fun x hx => (List.mem_filter.mp hx).1)
  obtain ⟨⟨a1, a2, a3⟩, ⟨c1, c2⟩, c3, c4, c5⟩ := r
  obtain ⟨q1, q2⟩ := ls_eq ⟨a1, a2⟩ hfe i1
  have hlen : L'.length ≤ (bb_F E n v).2.1.length := by
    have := hfe.2.2.2
    rw [List.length_map] at this
    show L'.length ≤ ((E.1.filter (fun y => bb_oth E.2.1 n v y.1)).foldl (fun E0 y => e_put n y.1 (r_val y.1 v E.2.1) E0) E).2.1.length
    rw [i4]
    omega
  refine ⟨h', t, _, ⟨KS, L', WS, z', st', ⟨⟨q1, q2, hlen⟩, ⟨fun y hy => ?_, ?_⟩, ?_, fun y hy => ?_, ?_⟩, q, rfl⟩, by omega, mv_mono mv (fun _ h => h) (fun p h => Or.inr (Or.inr (Or.inr h))) (by omega)⟩
  · have hy2 : y ∈ E.1 := i2 ▸ hy
    exact c1 y hy2
  · show KS.length ≤ (List.foldl _ E _).1.length + Q.length
    rw [i2]; exact c2
  · show WS.map (fun w => w.2) = (List.foldl _ E _).2.2
    rw [i3]; exact c3
  · show ∃ a, (y.2.1, a) ∈ (List.foldl _ E _).1
    rw [i2]
    have hh : r_has y.2.1 y.2.2.1 (bb_F E n v).2.1 := ⟨y, hy, rfl, rfl⟩
    rcases (i1.2.1 _ _).mp hh with ⟨u, hu, h1, -⟩ | ⟨h1, -⟩
    · obtain ⟨k, hk⟩ := c4 u hu
      rw [h1] at hk
      exact ⟨k, hk⟩
    · obtain ⟨u, hu, h2⟩ := List.mem_map.mp h1
      exact ⟨u.2, by rw [← h2]; exact (List.mem_filter.mp hu).1⟩
  · show (List.foldl _ E _).1.Pairwise _
    rw [i2]; exact c5
end CRS
