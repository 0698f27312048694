/-! THE LAW'S LOOP: its head, its switch -/
theorem rr_begin (M : s_M) (x1 : Int32) (z1 : Bool) : (F_begin M x1 z1).2.1 ≤ 1 := by
  unfold F_begin
  repeat' split
  all_goals exact Nat.le_of_ble_eq_true rfl
theorem rr_get (M : s_M) (x1 x2 x3 x4 : Int32) (z1 : Bool) : (F_get M x1 x2 x3 x4 z1).2.1 ≤ 3 := by
  unfold F_get
  repeat' split
  all_goals exact Nat.le_of_ble_eq_true rfl
theorem rr_range (M : s_M) (x1 x2 x3 : Int32) (z1 : Bool) : (F_range M x1 x2 x3 z1).2.1 ≤ 3 := by
  unfold F_range
  repeat' split
  all_goals exact Nat.le_of_ble_eq_true rfl
theorem rr_rangeAt (M : s_M) (x1 x2 x3 x4 x5 : Int32) : (F_rangeAt M x1 x2 x3 x4 x5).2.1 ≤ 3 := by
  unfold F_rangeAt
  repeat' split
  all_goals exact Nat.le_of_ble_eq_true rfl
theorem rr_change (M : s_M) (x1 x2 x3 x4 x5 x6 : Int32) : (F_change M x1 x2 x3 x4 x5 x6).2.1 ≤ 3 := by
  unfold F_change
  repeat' split
  all_goals exact Nat.le_of_ble_eq_true rfl
theorem rr_clear (M : s_M) (x1 x2 x3 : Int32) : (F_clear M x1 x2 x3).2.1 ≤ 3 := by
  unfold F_clear
  repeat' split
  all_goals exact Nat.le_of_ble_eq_true rfl
theorem rr_commit (M : s_M) (x1 : Int32) : (F_commit M x1).2.1 ≤ 2 := by
  unfold F_commit
  repeat' split
  all_goals exact Nat.le_of_ble_eq_true rfl
theorem rr_pass (M : s_M) (x1 : Int32) : (F_pass M x1).2.1 ≤ 1 := by
  unfold F_pass
  repeat' split
  all_goals exact Nat.le_of_ble_eq_true rfl
theorem rr_value (M : s_M) (x1 x2 x3 x4 : Int32) : (F_value M x1 x2 x3 x4).2.1 ≤ 1 := by
  unfold F_value
  repeat' split
  all_goals exact Nat.le_of_ble_eq_true rfl
theorem rr_packed (M : s_M) (x1 x2 x3 x4 : Int32) : (F_packed M x1 x2 x3 x4).2.1 ≤ 2 := by
  unfold F_packed
  repeat' split
  all_goals exact Nat.le_of_ble_eq_true rfl
theorem rr_directory (M : s_M) (x1 x2 : Int32) : (F_directory M x1 x2).2.1 ≤ 3 := by
  unfold F_directory
  repeat' split
  all_goals exact Nat.le_of_ble_eq_true rfl
theorem rr_move (M : s_M) (x1 x2 x3 : Int32) : (F_move M x1 x2 x3).2.1 ≤ 3 := by
  unfold F_move
  repeat' split
  all_goals exact Nat.le_of_ble_eq_true rfl
theorem rr_remove (M : s_M) (x1 : Int32) : (F_remove M x1).2.1 ≤ 2 := by
  unfold F_remove
  repeat' split
  all_goals exact Nat.le_of_ble_eq_true rfl
theorem rr_shortName (M : s_M) (x1 : Int32) : (F_shortName M x1).2.1 ≤ 1 := by
  unfold F_shortName
  repeat' split
  all_goals exact Nat.le_of_ble_eq_true rfl
theorem rr_named (M : s_M) (x1 x2 : Int32) : (F_named M x1 x2).2.1 ≤ 2 := by
  unfold F_named
  repeat' split
  all_goals exact Nat.le_of_ble_eq_true rfl
theorem rr_save (M : s_M) (x1 x2 x3 : Int32) : (F_save M x1 x2 x3).2.1 ≤ 3 := by
  unfold F_save F_saved
  repeat' split
  all_goals exact Nat.le_of_ble_eq_true rfl
theorem rr_erase (M : s_M) (x1 x2 : Int32) : (F_erase M x1 x2).2.1 ≤ 3 := by
  unfold F_erase F_saved
  repeat' split
  all_goals exact Nat.le_of_ble_eq_true rfl
theorem rr_build (M : s_M) (x1 x2 : Int32) : (F_build M x1 x2).2.1 ≤ 3 := by
  unfold F_build
  repeat' split
  all_goals exact Nat.le_of_ble_eq_true rfl
theorem rr_off (M : s_M) (x1 : Int32) : (F_off M x1).2.1 ≤ 1 := by
  unfold F_off
  repeat' split
  all_goals exact Nat.le_of_ble_eq_true rfl
theorem rr_rank (M : s_M) (x1 : Int32) : (F_rank M x1).2.1 ≤ 1 := by
  unfold F_rank F_ranked
  repeat' split
  all_goals exact Nat.le_of_ble_eq_true rfl
theorem rr_rankAnew (M : s_M) (x1 : Int32) : (F_rankAnew M x1).2.1 ≤ 1 := by
  unfold F_rankAnew F_ranked
  repeat' split
  all_goals exact Nat.le_of_ble_eq_true rfl
theorem rr_watch (M : s_M) (x1 x2 x3 : Int32) : (F_watch M x1 x2 x3).2.1 ≤ 2 := by
  unfold F_watch
  repeat' split
  all_goals exact Nat.le_of_ble_eq_true rfl
theorem rr_fired (M : s_M) (x1 : Int32) : (F_fired M x1).2.1 ≤ 1 := by
  unfold F_fired
  repeat' split
  all_goals exact Nat.le_of_ble_eq_true rfl
theorem rr_offer (M : s_M) (x1 x2 : Int32) : (F_offer M x1 x2).2.1 ≤ 3 := by
  unfold F_offer
  repeat' split
  all_goals exact Nat.le_of_ble_eq_true rfl
theorem rr_take (M : s_M) (x1 : Int32) : (F_take M x1).2.1 ≤ 1 := by
  unfold F_take
  repeat' split
  all_goals exact Nat.le_of_ble_eq_true rfl
theorem rr_finish (M : s_M) (x1 : Int32) : (F_finish M x1).2.1 ≤ 1 := by
  unfold F_finish
  repeat' split
  all_goals exact Nat.le_of_ble_eq_true rfl
theorem rr_part (M : s_M) (x1 x2 : Int32) : (F_part M x1 x2).2.1 ≤ 2 := by
  unfold F_part
  repeat' split
  all_goals exact Nat.le_of_ble_eq_true rfl
theorem rr_mark (M : s_M)  : (F_mark M).2.1 ≤ 1 := by
  unfold F_mark
  repeat' split
  all_goals exact Nat.le_of_ble_eq_true rfl
theorem rr_bringBack (M : s_M) (x1 : Int32) : (F_bringBack M x1).2.1 ≤ 1 := by
  unfold F_bringBack
  repeat' split
  all_goals exact Nat.le_of_ble_eq_true rfl
theorem and63 (x : Int32) : ∃ k : Nat, k < 64 ∧ x &&& 63 = nI k := by
  refine ⟨(x &&& 63).toBitVec.toNat, ?_, ?_⟩
  · rw [Int32.toBitVec_and, BitVec.toNat_and]
    exact Nat.lt_of_le_of_lt Nat.and_le_right (by decide)
  · apply Int32.toBitVec_inj.mp
    unfold nI
    simp
theorem nI_s7 {L i : Nat} (hL : L < 2 ^ 20) (hi : i < 2 ^ 20) : nI L - 7 < nI i ↔ L < i + 7 := by
  by_cases h : 7 ≤ L
  · rw [show nI L - 7 = nI (L - 7) from nI_sub h, nI_ltI (by omega) (by omega)]
    omega
  · have e : nI L - 7 < 0 := by
      have hc : L = 0 ∨ L = 1 ∨ L = 2 ∨ L = 3 ∨ L = 4 ∨ L = 5 ∨ L = 6 := by omega
      rcases hc with rfl | rfl | rfl | rfl | rfl | rfl | rfl <;> decide
    have e2 := nI_pos (n := i) (by omega)
    refine ⟨fun _ => by omega, fun _ => ?_⟩
    rw [Int32.lt_iff_toInt_lt] at e e2 ⊢
    omega
def l_offs : Array Int := #[152, 236, 356, 464, 568, 686, 766, 822, 835, 874, 887, 943, 1035, 1127, 1140, 1208, 1268, 1324, 1380, 1448, 1528, 1596, 1664, 1720, 1776, 1832, 1912, 1968, 2036, 2092, 2148, 2161, 2229, 2273]
def l_pc (k : Nat) : Nat := 40 + (l_offs[k]?.getD 0).toNat
section KLH
variable {G : k_G} {l : Launch} {nm : String} {h0 h h' : k_H} {r : k_R} {a b i : Nat}
theorem x_next (K : jW G l nm h0 h 23 (lvW G a b (i + 7)) [] h' r) : jW G l nm h0 h 2369 (lvW G a b i) [] h' r :=
  j_iinc (lv9 := lvW G a b (i + 7)) dL_law_2369 rfl (by decide) (nI_add i 7) rfl (j_goto (tgt := 23) dL_law_2372 (by decide) K)
theorem x_end (hL : k_sL G < 2 ^ 20) (hi : i < 2 ^ 20) (he : k_sL G < i + 7) : jW G l nm h0 h 23 (lvW G a b i) [] h (.inl (some (vI 1))) :=
  j_iload dL_law_23 rfl (j_aload_n dL_law_25 rfl rfl (j_slen dL_law_26 (j_bipush (v := 7) dL_law_27 rfl (j_isub dL_law_29 (j_icmp_gt_t (tgt := 2375) dL_law_30 (by decide) ((nI_s7 hL hi).mpr he) (j_iconst (v := 1) dL_law_2375 rfl (j_zret dL_law_2376 rfl (Or.inr rfl))))))))
theorem x_head (hL : k_sL G < 2 ^ 20) (hi : i < 2 ^ 20) (he : i + 7 ≤ k_sL G) (K : jW G l nm h0 h 40 (lvW G a b i) [vI (k_sx G i &&& 63)] h' r) : jW G l nm h0 h 23 (lvW G a b i) [] h' r := by
  refine j_iload dL_law_23 rfl (j_aload_n dL_law_25 rfl rfl (j_slen dL_law_26 (j_bipush (v := 7) dL_law_27 rfl (j_isub dL_law_29 (j_icmp_gt_f dL_law_30 2375 (by decide) (fun z => by have := (nI_s7 hL hi).mp z; omega) (j_aload_n dL_law_33 rfl rfl (j_iload dL_law_34 rfl ?_)))))))
  refine j_sld dL_law_36 (vp_nI (by omega) (by omega)) (j_bipush (v := 63) dL_law_37 rfl (j_iand dL_law_39 ?_))
  rw [nI_clamp (by omega)]
  exact K
theorem x_case {k : Nat} (hk : k < 34) (he : k_sx G i &&& 63 = nI k) (K : jW G l nm h0 h (l_pc k) (lvW G a b i) [] h' r) : jW G l nm h0 h 40 (lvW G a b i) [vI (k_sx G i &&& 63)] h' r := by
  rw [he]
  have hs : l_offs.size = 34 := rfl
  have ho : l_offs[k]? = some (l_offs[k]'(by omega)) := Array.getElem?_eq_getElem (by omega)
  have hpos : ∀ j, j < 34 → ∃ n : Nat, l_offs[j]? = some (n : Int) := by
    intro j hj
    have : ∀ j : Fin 34, ∃ n : Nat, l_offs[j.val]? = some (n : Int) := by
      intro j
      refine ⟨(l_offs[j.val]?.getD 0).toNat, ?_⟩
      revert j
      decide +kernel
    exact this ⟨j, hj⟩
  obtain ⟨n, hn⟩ := hpos k hk
  have e1 := nI_toInt (n := k) (by omega)
  refine j_tableIn (off := (n : Int)) (tgt := l_pc k) dL_law_40 (by rw [e1]; omega) (by rw [e1]; omega) ?_ ?_ K
  · rw [e1]
    show l_offs[((k : Int) - 0).toNat]? = _
    rw [show ((k : Int) - 0).toNat = k by omega]
    exact hn
  · unfold l_pc
    rw [hn]
    show ((40 : Nat) : Int) + (n : Int) = ((40 + ((n : Int)).toNat : Nat) : Int)
    omega
theorem x_dflt {k : Nat} (h1 : 34 ≤ k) (h2 : k < 64) (he : k_sx G i &&& 63 = nI k) (K : jW G l nm h0 h 2369 (lvW G a b i) [] h' r) : jW G l nm h0 h 40 (lvW G a b i) [vI (k_sx G i &&& 63)] h' r := by
  rw [he]
  have e1 := nI_toInt (n := k) (by omega)
  exact j_tableOut (tgt := 2369) dL_law_40 (by rw [e1]; omega) (by decide) K
/-- the loop's one turn -/
theorem x_turn {Q : k_H → k_R → Prop} (hL : k_sL G < 2 ^ 20) (hi : i < 2 ^ 20) (he : i + 7 ≤ k_sL G) (Kc : ∀ k, k < 34 → k_sx G i &&& 63 = nI k → k_X (jW G l nm h0) h (l_pc k) (lvW G a b i) [] Q) (Kd : k_X (jW G l nm h0) h 2369 (lvW G a b i) [] Q) : k_X (jW G l nm h0) h 23 (lvW G a b i) [] Q := by
  obtain ⟨k, hk, ek⟩ := and63 (k_sx G i)
  by_cases z : k < 34
  · obtain ⟨h9, r9, j9, q9⟩ := Kc k z ek
    exact ⟨h9, r9, x_head hL hi he (x_case z ek j9), q9⟩
  · obtain ⟨h9, r9, j9, q9⟩ := Kd
    exact ⟨h9, r9, x_head hL hi he (x_dflt (by omega) hk ek j9), q9⟩
end KLH
