/-! THE CLASS'S TRANSACTIONS BEGIN, KEEP CHANGES AND PUT DOWN READINGS -/
def c_At (a t : Nat) : Nat → Prop := fun q => q = a + c_T t ∨ q = a + (c_T t + 1) ∨ q = a + (c_T t + 2)
def X_up (X : Nat → s_X) (t : Nat) (x : s_X) : Nat → s_X := fun q => if q = t then x else X q
theorem tb_ser {a : Nat} {h : k_H} {t : Nat} {CX : List k_CX} {x : s_X} {ser ser' w w' : Nat} (b : c_tb a h t CX x ser w) (hs : ser ≤ ser') (hw : w ≤ w') : c_tb a h t CX x ser' w' := by
  obtain ⟨RS, cap, capR, kept, o, c, d⟩ := b
  refine ⟨RS, cap, capR, kept, o, c, fun e => ?_⟩
  obtain ⟨d1, ⟨d2, d3⟩, ⟨d4, d5, d6⟩, d7⟩ := d e
  exact ⟨d1, ⟨d2, fun y hy => ⟨Nat.le_trans (d3 y hy).1 hs, (d3 y hy).2⟩⟩, ⟨d4, d5, fun r hr => Nat.le_trans (d6 r hr) hs⟩, Nat.le_trans d7 hw⟩
theorem TX_one {a o t : Nat} {h h' : k_H} {X : Nat → s_X} {ser ser' w w' : Nat} {CXf : Nat → List k_CX} {CX' : List k_CX} {x' : s_X} (b1 : ∀ t, t < 4 → c_tb a h t (CXf t) (X t) ser w) (b2 : ∀ t u, t < 4 → u < 4 → t ≠ u → ∀ y ∈ CXf t, ∀ z ∈ CXf u, y.1.1 ≠ z.1.1) (b3 : a + 31 ≤ h.2.1) (b4 : k_wf h)
    (ht : t < 4) (m : k_mo a [] (c_At a t) o h h') (hb : c_tb a h' t CX' x' ser' w') (hs : ser ≤ ser') (hw : w ≤ w') (hd : ∀ y ∈ CX', (∃ z ∈ CXf t, z.1.1 = y.1.1) ∨ h.2.1 ≤ y.1.1) : c_TX a h' (X_up X t x') ser' w' := by
  obtain ⟨RS, cap, capR, kept, o1, ⟨c1, c2, c3⟩, -⟩ := b1 t ht
  have old : ∀ u, u < 4 → ∀ z ∈ CXf u, z.1.1 < h.2.1 := fun u hu z hz => by
    obtain ⟨RS, cap, capR, kept, o1, ⟨c1, c2, c3⟩, -⟩ := b1 u hu
    exact b4 _ _ (c1.2.1 z.1 (List.mem_map.mpr ⟨z, hz, rfl⟩)).1
  have dis : ∀ u, u < 4 → u ≠ t → ∀ y ∈ CX', ∀ z ∈ CXf u, y.1.1 ≠ z.1.1 := fun u hu hne y hy z hz => by
    rcases hd y hy with ⟨w, hw, e⟩ | e
    · rw [← e]; exact b2 t u ht hu (Ne.symm hne) w hw z hz
    · have := old u hu z hz; omega
  refine ⟨fun q => if q = t then CX' else CXf q, fun u hu => ?_, fun u v hu hv huv y hy z hz => ?_, Nat.le_trans b3 m.2.2.1, m.2.1 b4⟩
  · show c_tb a h' u (if u = t then CX' else CXf u) (if u = t then x' else X u) ser' w'
    by_cases e : u = t
    · rw [if_pos e, if_pos e, e]; exact hb
    · rw [if_neg e, if_neg e]
      have hne := c_T_ne (Ne.symm e)
      have hne2 := c_T_ne e
      refine tb_ser (tb_fr (b1 u hu) m.1 (by simp) (fun q ci fs hq hc hA => ?_) ⟨fun z => ?_, fun z => ?_, fun z => ?_⟩) hs hw
      · rcases hA with hA | hA | hA
        · rw [hA, o1] at hq
          cases hq
          rcases hc with hc | hc <;> cases hc
        · rw [hA, c1.1] at hq; cases hq
        · rw [hA, c2.1] at hq; cases hq
      · rcases z with z | z | z <;> omega
      · rcases z with z | z | z <;> omega
      · rcases z with z | z | z <;> omega
  · have hy2 : y ∈ (if u = t then CX' else CXf u) := hy
    have hz2 : z ∈ (if v = t then CX' else CXf v) := hz
    by_cases eu : u = t
    · rw [if_pos eu] at hy2
      rw [if_neg (fun ev => huv (eu.trans ev.symm))] at hz2
      exact dis v hv (fun ev => huv (eu.trans ev.symm)) y hy2 z hz2
    · rw [if_neg eu] at hy2
      by_cases ev : v = t
      · rw [if_pos ev] at hz2
        exact (dis u hu eu z hz2 y hy2).symm
      · rw [if_neg ev] at hz2
        exact b2 u v hu hv huv y hy2 z hz2
section CKP
variable {G : k_G} {l : Launch}
theorem c_X_start (ok : k_ok G l) {a t v g ser w : Nat} {h : k_H} {X : Nat → s_X} {once : Bool} (hX : c_TX a h X ser w) (ht : t < 4) :
    k_ctv (tX9_start G l) [vR (some (a + c_T t)), vI (nI v), vI (nI g), vI (kB once)] h (fun h' => c_TX a h' (X_up X t ((true, once, v, g, 0), [], [])) ser w ∧ k_mo a [] (c_At a t) 0 h h') := by
  obtain ⟨CXf, b1, b2, b3, b4⟩ := hX
  obtain ⟨RS, cap, capR, kept, o1, ⟨c1, c2, c3⟩, -⟩ := id (b1 t ht)
  have hT := c_T_lt ht
  obtain ⟨h', tr, e⟩ := c_X9_start ok (v := nI v) (g := nI g) o1 c1.1 c2.1 (by omega) (kB_bl once)
  have m1 : k_mo a [] (c_At a t) 0 h (k_up h (a + (c_T t + 1)) (k_l [] cap)) := mv_lu c1.1 (by omega) (Or.inr (Or.inl rfl))
  have c21 : (k_up h (a + (c_T t + 1)) (k_l [] cap)).1 (a + (c_T t + 2)) = some (k_l (RS.map (fun x => x.1)) capR) := by rw [k_up_ne _ _ (by omega)]; exact c2.1
  have m2 : k_mo a [] (c_At a t) 0 (k_up h (a + (c_T t + 1)) (k_l [] cap)) (k_up (k_up h (a + (c_T t + 1)) (k_l [] cap)) (a + (c_T t + 2)) (k_l [] capR)) := mv_lu c21 (by omega) (Or.inr (Or.inr rfl))
  have o12 := o1
  rw [← k_up_ne h (b := a + c_T t) (a := a + (c_T t + 1)) (k_l [] cap) (by omega), ← k_up_ne (k_up h (a + (c_T t + 1)) (k_l [] cap)) (b := a + c_T t) (a := a + (c_T t + 2)) (k_l [] capR) (by omega)] at o12
  have m3 := mv_o (a := a) (K := []) (A := c_At a t) (fs' := [vR (some (a + (c_T t + 1))), vR (some (a + (c_T t + 2))), vI 1, vI (kB once), vI (nI v), vI (nI g), vI (-2147483648), vI 0]) o12 (Or.inr (Or.inl rfl))
  have m := mv_trans (mv_trans m1 m2) m3
  rw [← e] at m
  refine ⟨h', tr, TX_one b1 b2 b3 b4 ht m (CX' := []) ⟨[], cap, capR, 0, ?_, ⟨⟨?_, fun y hy => (by cases hy), by decide⟩, ⟨?_, fun y hy => (by cases hy), by decide⟩, List.Pairwise.nil⟩, fun _ => ⟨⟨rfl, rfl⟩, ⟨List.Pairwise.nil, fun y hy => (by cases hy)⟩, ⟨rfl, fun i sp r hi => (by simp at hi), fun r hr => (by cases hr)⟩, Nat.zero_le _⟩⟩ (Nat.le_refl _) (Nat.le_refl _) (fun y hy => (by cases hy)), m⟩
  · rw [e, k_up_self]
    rfl
  · rw [e, k_up_ne _ _ (by omega), k_up_ne _ _ (by omega), k_up_self]
    rfl
  · rw [e, k_up_ne _ _ (by omega), k_up_self]
    rfl
/-- a change is kept -/
theorem keep_TX {a t ser w : Nat} {h h' : k_H} {X : Nat → s_X} {CXf : Nat → List k_CX} {RS : List k_SP} {cap capR kept : Nat} {y : k_CH} (b1 : ∀ t, t < 4 → c_tb a h t (CXf t) (X t) ser w) (b2 : ∀ t u, t < 4 → u < 4 → t ≠ u → ∀ y ∈ CXf t, ∀ z ∈ CXf u, y.1.1 ≠ z.1.1) (b3 : a + 31 ≤ h.2.1) (b4 : k_wf h) (ht : t < 4) (hb : (X t).1.1 = true)
    (o1 : h.1 (a + c_T t) = some (k_o 12 [vR (some (a + (c_T t + 1))), vR (some (a + (c_T t + 2))), vI (kB (X t).1.1), vI (kB (X t).1.2.1), vI (nI (X t).1.2.2.1), vI (nI (X t).1.2.2.2.1), vI (c_dn (X t).1.2.2.2.2), vI (nI kept)]))
    (c1 : r_cs h (a + (c_T t + 1)) cap ((CXf t).map (fun y => y.1))) (c2 : r_rs h (a + (c_T t + 2)) capR RS) (c3 : (CXf t).Pairwise (fun x y => x.1.1 ≠ y.1.1)) (c4 : c_tr (CXf t) RS (X t) ser w kept) (hy1 : y.1 = h.2.1) (hy7 : ¬ y.2.1 = 7) (hyw : c_wc y) (hl : (CXf t).length ≤ 13300)
    (e : h' = k_up (k_gr (k_nw h 5 (o_chg y)) (a + (c_T t + 1)) (((CXf t).map (fun y => y.1)).map (fun x => x.1) ++ [h.2.1]) ((CXf t).map (fun y => y.1)).length cap) (a + c_T t) (k_o 12 [vR (some (a + (c_T t + 1))), vR (some (a + (c_T t + 2))), vI (kB (X t).1.1), vI (kB (X t).1.2.1), vI (nI (X t).1.2.2.1), vI (nI (X t).1.2.2.2.1), vI (c_dn (X t).1.2.2.2.2), vI (nI kept + 1)])) :
    c_TX a h' (X_up X t ((X t).1, (X t).2.1 ++ [(ser + 1, y.2)], (X t).2.2)) (ser + 1) w ∧ k_mo a [] (c_At a t) 1 h h' := by
  have hT := c_T_lt ht
  have hbd : 20000 ≤ k_bd (c_T t + 1) := by
    have : t = 0 ∨ t = 1 ∨ t = 2 ∨ t = 3 := by omega
    rcases this with rfl | rfl | rfl | rfl <;> decide
  obtain ⟨cap', hcs⟩ := cs_kept (t := a + c_T t) (fs := [vR (some (a + (c_T t + 1))), vR (some (a + (c_T t + 2))), vI (kB (X t).1.1), vI (kB (X t).1.2.1), vI (nI (X t).1.2.2.1), vI (nI (X t).1.2.2.2.1), vI (c_dn (X t).1.2.2.2.2), vI (nI kept + 1)]) b4 o1 c1 hy1 (by have := hyw.1; have := hyw.2.1; exact ⟨by omega, by omega⟩) (by rw [List.length_map]; omega) rfl
  rw [← e] at hcs
  have m1 : k_mo a [] (c_At a t) 1 h (k_nw h 5 (o_chg y)) := mv_nw b4 b3 (by omega)
  have old : ∀ p c, h.1 p = some c → (k_nw h 5 (o_chg y)).1 p = some c := fun p c hp => nw_old b4 hp
  have m2 : k_mo a [] (c_At a t) 0 (k_nw h 5 (o_chg y)) (k_gr (k_nw h 5 (o_chg y)) (a + (c_T t + 1)) (((CXf t).map (fun y => y.1)).map (fun x => x.1) ++ [h.2.1]) ((CXf t).map (fun y => y.1)).length cap) := mv_gr (old _ _ c1.1) (by omega) (Or.inr (Or.inl rfl)) (by rw [List.length_map]; omega)
  have o13 : (k_gr (k_nw h 5 (o_chg y)) (a + (c_T t + 1)) (((CXf t).map (fun y => y.1)).map (fun x => x.1) ++ [h.2.1]) ((CXf t).map (fun y => y.1)).length cap).1 (a + c_T t) = some (k_o 12 [vR (some (a + (c_T t + 1))), vR (some (a + (c_T t + 2))), vI (kB (X t).1.1), vI (kB (X t).1.2.1), vI (nI (X t).1.2.2.1), vI (nI (X t).1.2.2.2.1), vI (c_dn (X t).1.2.2.2.2), vI (nI kept)]) := by
    rw [gr_ne _ _ _ _ (by omega)]; exact old _ _ o1
  have m3 := mv_o (a := a) (K := []) (A := c_At a t) (fs' := [vR (some (a + (c_T t + 1))), vR (some (a + (c_T t + 2))), vI (kB (X t).1.1), vI (kB (X t).1.2.1), vI (nI (X t).1.2.2.1), vI (nI (X t).1.2.2.2.1), vI (c_dn (X t).1.2.2.2.2), vI (nI kept + 1)]) o13 (Or.inr (Or.inl rfl))
  have m := mv_trans (mv_trans m1 m2) m3
  rw [← e] at m
  obtain ⟨⟨d0, d1⟩, ⟨d2, d3⟩, ⟨d4, d5, d6⟩, d7⟩ := c4
  have hmap : ((CXf t) ++ [((y, ser + 1) : k_CX)]).map (fun y => y.1) = (CXf t).map (fun y => y.1) ++ [y] := by rw [List.map_append]; rfl
  refine ⟨TX_one b1 b2 b3 b4 ht m (CX' := CXf t ++ [(y, ser + 1)]) ⟨RS, cap', capR, kept + 1, ?_, ⟨by rw [hmap]; exact hcs, ⟨?_, fun z hz => ⟨?_, (c2.2.1 z hz).2⟩, c2.2.2⟩, ?_⟩, fun _ => ⟨⟨?_, ?_⟩, ⟨?_, fun z hz => ?_⟩, ⟨d4, fun i sp r hi hr => ?_, fun r hr => ?_⟩, ?_⟩⟩ (Nat.le_succ _) (Nat.le_refl _) (fun z hz => ?_), m⟩
  · rw [e, k_up_self, nI_1]
  · exact m.1 _ _ c2.1 |> fun _ => (by rw [e, k_up_ne _ _ (by omega), gr_ne _ _ _ _ (by omega)]; exact old _ _ c2.1)
  · have hz1 := (c2.2.1 z hz).1
    exact m.1 _ _ hz1 (fun hA => by
      rcases hA with hA | hA | hA
      · rw [hA, o1] at hz1; cases hz1
      · rw [hA, c1.1] at hz1; cases hz1
      · rw [hA, c2.1] at hz1; cases hz1) (fun _ _ _ => List.not_mem_nil)
  · rw [List.pairwise_append]
    refine ⟨c3, List.pairwise_singleton _ _, fun z hz w hw => ?_⟩
    rw [List.mem_singleton] at hw
    subst hw
    have := b4 _ _ (c1.2.1 z.1 (List.mem_map.mpr ⟨z, hz, rfl⟩)).1
    show z.1.1 ≠ y.1
    omega
  · show (X t).2.1 ++ [(ser + 1, y.2)] = _
    rw [mc_app _ _ hy7, d0]
  · show kept + 1 = ((X t).2.1 ++ [(ser + 1, y.2)]).length
    rw [List.length_append, d1]
    rfl
  · rw [List.map_append, List.pairwise_append]
    refine ⟨d2, List.pairwise_singleton _ _, fun z hz w hw => ?_⟩
    have hw2 : w = ser + 1 := by simpa using hw
    obtain ⟨u, hu, rfl⟩ := List.mem_map.mp hz
    have := (d3 u hu).1
    omega
  · rcases List.mem_append.mp hz with hz | hz
    · exact ⟨Nat.le_succ_of_le (d3 z hz).1, (d3 z hz).2⟩
    · rw [List.mem_singleton.mp hz]
      exact ⟨Nat.le_refl _, hyw⟩
  · obtain ⟨r1, r2, r3, r4⟩ := d5 i sp r hi hr
    refine ⟨r1, r2, fun j z hj => ?_, by rw [List.length_append]; omega⟩
    by_cases c : j < (CXf t).length
    · rw [List.getElem?_append_left c] at hj
      exact r3 j z hj
    · have ej : j = (CXf t).length := by
        have := (List.getElem?_eq_some_iff.mp hj).1
        simp at this; omega
      rw [ej] at hj ⊢
      simp at hj
      subst hj
      have hr2 := d6 r (List.mem_of_getElem? hr)
      show (CXf t).length < sp.2.2.2 ↔ ser + 1 ≤ r.2.2
      omega
  · exact Nat.le_succ_of_le (d6 r hr)
  · rw [List.filter_append, List.filter_cons_of_neg (by simpa using hy7), List.filter_nil, List.append_nil]
    exact d7
  · rcases List.mem_append.mp hz with hz | hz
    · exact Or.inl ⟨z, hz, rfl⟩
    · rw [List.mem_singleton.mp hz]
      exact Or.inr (Nat.le_of_eq hy1.symm)
end CKP
