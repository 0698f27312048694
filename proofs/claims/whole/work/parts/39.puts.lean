/-! READINGS ARE PUT DOWN: (address, low, high, how many changes were kept) -/
abbrev k_SP : Type := Nat × Nat × Nat × Nat
abbrev o_spn (x : k_SP) : k_C := k_o 10 [vJ (lN x.2.1), vJ (lN x.2.2.1), vI (nI x.2.2.2)]
def r_rs (h : k_H) (aR cap : Nat) (RS : List k_SP) : Prop := h.1 aR = some (k_l (RS.map (fun x => x.1)) cap) ∧ (∀ x ∈ RS, h.1 x.1 = some (o_spn x) ∧ x.2.1 < 2 ^ 62 ∧ x.2.2.1 < 2 ^ 62 ∧ x.2.2.2 < 2 ^ 30) ∧ RS.length < 16384
section PD
variable {G : k_G} {l : Launch}
theorem c_X9_putDown (ok : k_ok G l) {h : k_H} {t aL aR cap capR lo hi : Nat} {f2 f3 f4 f5 f6 f7 : k_V} {CS : List k_CH} {RS : List k_SP} (wh : k_wf h) (ht : h.1 t = some (k_o 12 [vR (some aL), vR (some aR), f2, f3, f4, f5, f6, f7])) (hcs : r_cs h aL cap CS) (hrs : r_rs h aR capR RS) :
    k_ctv (tX9_putDown G l) [vR (some t), vJ (lN lo), vJ (lN hi)] h (fun h' => h' = k_gr (k_nw h 3 (o_spn (h.2.1, lo, hi, CS.length))) aR (RS.map (fun x => x.1) ++ [h.2.1]) RS.length capR) := by
  obtain ⟨k1, k2, k3⟩ := hcs
  obtain ⟨r1, r2, r3⟩ := hrs
  refine k_ctv_of (eX9_putDown ok.2 (bX9_putDown_0 ht rfl (Or.inr ⟨rfl, _, _, r1⟩) (c_size ok r1) ?_))
  rintro h1 v ⟨hh, rfl⟩
  rw [hh, List.length_map]
  refine bX9_putDown_7 (fun c1 => absurd c1 (nI_ge (b := 16384) r3 (by decide))) (fun _ => ?_)
  refine bX9_putDown_13 ht rfl ?_
  refine bX9_putDown_20 (nw_old wh ht) rfl (Or.inr ⟨rfl, _, _, nw_old wh k1⟩) (c_size ok (nw_old wh k1)) ?_
  rintro h1 v ⟨hh, rfl⟩
  rw [hh, List.length_map]
  refine bX9_putDown_30 (c_X7_init ok (k_nw_self _ _ _)) ?_
  rintro h1 hh
  rw [hh, up_nw]
  have hr2 := nw_old (n := 3) (c := o_spn (h.2.1, lo, hi, CS.length)) wh r1
  refine bX9_putDown_33 (Or.inr ⟨rfl, _, _, hr2⟩) (c_add ok (k_wf_nw wh) hr2 (by rw [List.length_map]; omega) (fun z hz => ?_) (el_spn (k_nw_self _ _ _))) ?_
  · obtain ⟨y, hy, rfl⟩ := List.mem_map.mp hz
    exact el_spn (nw_old wh (r2 y hy).1)
  · rintro h1 v ⟨hh, rfl⟩
    rw [hh, List.length_map]
    exact bX9_putDown_36 (bX9_putDown_37 ⟨rfl, rfl⟩)
/-- a key is put down, if it isn't owned -/
theorem c_X9_putDownKey (ok : k_ok G l) {h : k_H} {t aL aR cap capR c : Nat} {f2 f3 f4 f5 f6 f7 : k_V} {CS : List k_CH} {RS : List k_SP} (wh : k_wf h) (ht : h.1 t = some (k_o 12 [vR (some aL), vR (some aR), f2, f3, f4, f5, f6, f7])) (hcs : r_cs h aL cap CS) (hrs : r_rs h aR capR RS) (hc : c < 2 ^ 60) :
    k_ctv (tX9_putDownKey G l) [vR (some t), vJ (lN c)] h (fun h' => h' = if s_own CS c (c + 1) = true then h else k_gr (k_nw h 3 (o_spn (h.2.1, c, c + 1, CS.length))) aR (RS.map (fun x => x.1) ++ [h.2.1]) RS.length capR) := by
  obtain ⟨k1, k2, k3⟩ := id hcs
  have e1 : lN c + 1 = lN (c + 1) := lN_1 c
  refine k_ctv_of (eX9_putDownKey ok.2 (bX9_putDownKey_0 ht rfl (Or.inr ⟨rfl, _, _, k1⟩) (c_size ok k1) ?_))
  rintro h1 v ⟨hh, rfl⟩
  rw [hh, List.length_map, e1]
  refine bX9_putDownKey_12 (k_is_o ht) (c_X9_owns ok ht hcs (by omega) (by omega) (by omega)) ?_
  rintro h1 v ⟨hh, rfl⟩
  rw [hh, List.take_length]
  refine bX9_putDownKey_15 (fun c1 => ?_) (fun c1 => ?_)
  · rw [kB_n0] at c1
    exact bX9_putDownKey_26 ⟨rfl, (if_pos c1).symm⟩
  · rw [kB_0] at c1
    refine bX9_putDownKey_18 (k_is_o ht) (by rw [e1]; exact c_X9_putDown ok wh ht hcs hrs) ?_
    rintro h1 hh
    rw [hh]
    exact bX9_putDownKey_26 ⟨rfl, (if_neg (by rw [c1]; decide)).symm⟩
end PD
