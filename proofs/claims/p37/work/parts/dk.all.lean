/-! WAS AND ALL -/
/-- the code that a key of the history has -/
def h_c (y : Nat) : Nat := if y < 100 then wR y else s_cd (nI (y - 100)) 10000 10000
def al_v (M : s_M) (x y : Int32) : Int32 := o_told (g_U M (g_n M) (s_cd x y 10000))
def al_8 (M : s_M) : Nat → Int64
  | 0 => ((nI (g_n M)).toInt64 + 31 * (nI (g_PT M).length).toInt64) + 7 * (g_why M).toInt64
  | k + 1 => (((1000003 * al_8 M k + (al_v M (nI k) 10000).toInt64) + 31 * (al_v M (-1) (nI k)).toInt64) + 7 * (al_v M (-3) (nI k)).toInt64) + 3 * (F_named M 0 (nI k)).2.2.toInt64
def al_p (M : s_M) (j : Nat) (y : Int32) : Int32 := match (g_PT M)[j]? with
  | some p => if y = 0 then p.2 else if y = 1 then nI (p_end (g_V M) ((g_PT M).drop (j + 1)) - p_lt p.1 (g_V M)) else if nI j = 0 then -2147483648 else s_no p.1 (s_pl (y - 2))
  | none => 0
def al_P (M : s_M) : Nat → Int64
  | 0 => al_8 M 8
  | k + 1 => (31 * al_P M k + (al_p M k 1).toInt64) + 7 * (al_p M k 2).toInt64
section WAS
variable {G : k_G} {l : Launch} {a i q : Nat} {A : lp_A} {M : s_M} {H : k_H}
theorem key_p {x y : Int32} (hx : s_nm x) (hy : s_nm y) : s_keyB x y 10000 = true := by
  unfold s_keyB
  rw [s_nmB_iff.mpr hx, s_nmB_iff.mpr hy]
  simp
theorem key_s {x : Int32} (hx : s_nm x) : s_keyB x 10000 10000 = true := by
  unfold s_keyB
  rw [s_nmB_iff.mpr hx]
  simp
theorem X_was (ok : k_ok G l) (g0 : k_fh G = 0) (W : lp_X a A i q M H) (hi : i < 512) {v : Nat} (hv : v ≤ g_n M) {y : Nat} (hy : y < 1000) : k_cti (tL_was G l) [vR (some a), vI (nI v), vI (nI y)] H (fun H' u => lp_X a A i (q + 1) M H' ∧ u = o_told (g_U M v (h_c y))) := by
  refine k_cti_of (eL_was ok.2 (bL_was_0 (fun c => ?_) (fun c => ?_)))
  · have hy1 : 100 ≤ y := (nI_leI (a := 100) (by omega) (by omega)).mp c
    have e1 : nI y - 100 = nI (y - 100) := by
      obtain ⟨z, rfl⟩ : ∃ z, y = z + 100 := ⟨y - 100, by omega⟩
      rw [← nI_add, Nat.add_sub_cancel]
      exact Int32.add_sub_cancel _ _
    refine bL_was_19 (X_is W) (by rw [e1]; exact X_val ok g0 W hi hv (key_s (s_nm_nI (by omega))) rfl) ?_
    rintro H1 _ ⟨W1, rfl⟩
    refine bL_was_34 ⟨_, rfl, W1, ?_⟩
    unfold h_c
    rw [if_neg (by omega)]
  · have hy1 : y < 100 := by
      refine Classical.byContradiction fun z => c ((nI_leI (a := 100) (by omega) (by omega)).mpr (by omega))
    refine bL_was_6 (X_is W) (X_val ok g0 W hi hv (key_1 (by omega)).1 (key_1 (by omega)).2) ?_
    rintro H1 _ ⟨W1, rfl⟩
    refine bL_was_16 (bL_was_34 ⟨_, rfl, W1, ?_⟩)
    unfold h_c
    rw [if_pos hy1]
theorem X_all (ok : k_ok G l) (g0 : k_fh G = 0) (W : lp_X a A i q M H) (hi : i < 512) {r : Option Nat} : k_ctj (tL_all G l) [vR (some a), vR r] H (fun H' u => lp_X a A i (q + 40) M H' ∧ u = al_P M (g_PT M).length) := by
  have h := X_pt W hi
  have hl := h.2.2.1
  have dr := dj_root (X_d W hi).1
  have parts : ∀ (d s : Nat) (H1 : k_H), s + d = (g_PT M).length → lp_X a A i (q + 40) M H1 → k_X (jL_all G l H) H1 116 [(0, vR (some a)), (3, vJ (al_P M s)), (5, vI (nI s))] [] (q_j (fun H' u => lp_X a A i (q + 40) M H' ∧ u = al_P M (g_PT M).length)) := by
    intro d
    induction d with
    | zero =>
      intro s H1 hs W1
      have es : s = (g_PT M).length := by omega
      subst es
      refine bL_all_116 (X_is W1) (X_parts ok g0 W1) ?_
      rintro H2 _ ⟨W2, rfl⟩
      exact bL_all_122 (fun _ => bL_all_159 ⟨_, rfl, W2, rfl⟩) (fun c => absurd ((nI_leI (by omega) (by omega)).mpr (Nat.le_refl _)) c)
    | succ d ih =>
      intro s H1 hs W1
      obtain ⟨p, hp⟩ : ∃ p, (g_PT M)[s]? = some p := ⟨_, List.getElem?_eq_getElem (by omega)⟩
      have ep : ∀ y, (if y = 0 then p.2 else if y = 1 then nI (p_end (g_V M) ((g_PT M).drop (s + 1)) - p_lt p.1 (g_V M)) else if nI s = 0 then -2147483648 else s_no p.1 (s_pl (y - 2))) = al_p M s y := fun y => by
        unfold al_p
        rw [hp]
      refine bL_all_116 (X_is W1) (X_parts ok g0 W1) ?_
      rintro H2 _ ⟨W2, rfl⟩
      refine bL_all_122 (fun c => absurd ((nI_leI (by omega) (by omega)).mp c) (by omega)) (fun _ => bL_all_125 (X_is W2) (X_part ok g0 W2 h hp (by decide) (ep 1)) ?_)
      rintro H3 _ ⟨W3, rfl⟩
      refine bL_all_137 (X_is W3) (X_part ok g0 W3 h hp (by decide) (ep 2)) ?_
      rintro H4 _ ⟨W4, rfl⟩
      refine bL_all_149 ?_
      rw [show nI s + 1 = nI (s + 1) from nI_add s 1]
      exact ih (s + 1) H4 (by omega) W4
  have eight : ∀ (d s : Nat) (H1 : k_H), s + d = 8 → lp_X a A i (q + 2 + 4 * s) M H1 → k_X (jL_all G l H) H1 31 [(0, vR (some a)), (2, vI (nI (g_n M))), (3, vJ (al_8 M s)), (5, vI (nI s))] [] (q_j (fun H' u => lp_X a A i (q + 40) M H' ∧ u = al_P M (g_PT M).length)) := by
    intro d
    induction d with
    | zero =>
      intro s H1 hs W1
      have es : s = 8 := by omega
      subst es
      exact bL_all_31 (fun _ => bL_all_113 (parts _ 0 H1 (Nat.zero_add _) (lp_Xm W1 (Nat.le_refl _) (by omega)))) (fun c => absurd (by decide) c)
    | succ d ih =>
      intro s H1 hs W1
      refine bL_all_31 (fun c => absurd ((nI_leI (a := 8) (by omega) (by omega)).mp c) (by omega)) (fun _ => bL_all_38 (X_is W1) (X_val ok g0 W1 hi (Nat.le_refl _) (key_s (s_nm_nI (by omega))) rfl) ?_)
      rintro H2 _ ⟨W2, rfl⟩
      refine bL_all_56 (X_is W2) (X_val ok g0 W2 hi (Nat.le_refl _) (key_p (s_nmB_iff.mp (by decide)) (s_nm_nI (by omega))) rfl) ?_
      rintro H3 _ ⟨W3, rfl⟩
      refine bL_all_72 (X_is W3) (X_val ok g0 W3 hi (Nat.le_refl _) (key_p (s_nmB_iff.mp (by decide)) (s_nm_nI (by omega))) rfl) ?_
      rintro H4 _ ⟨W4, rfl⟩
      have in9 : s_inB (nI s) 0 9 = true := by
        unfold s_inB
        rw [decide_eq_true (nI_pos (by omega)), decide_eq_true (show ¬ (9 : Int32) < nI s from fun z => by have := (nI_ltI (a := 9) (by omega) (by omega)).mp z; omega)]
        rfl
      refine bL_all_90 (X_is W4) (X_named ok g0 W4 hi (by unfold F_named; rw [if_neg (by rw [dr]; decide), if_neg (by rw [in9]; decide)])) ?_
      rintro H5 _ ⟨W5, rfl⟩
      refine bL_all_103 ?_
      rw [show nI s + 1 = nI (s + 1) from nI_add s 1]
      exact ih (s + 1) H5 (by omega) (lp_Xm W5 (Nat.le_refl _) (by omega))
  refine k_ctj_of (eL_all ok.2 (bL_all_0 (X_is W) (X_version ok g0 W hi) ?_))
  rintro H1 _ ⟨W1, rfl⟩
  refine bL_all_4 (X_is W1) (X_parts ok g0 W1) ?_
  rintro H2 _ ⟨W2, rfl⟩
  refine bL_all_14 (X_is W2) (X_why ok g0 W2 hi) ?_
  rintro H3 _ ⟨W3, rfl⟩
  exact bL_all_24 (eight 8 0 H3 rfl W3)
end WAS
