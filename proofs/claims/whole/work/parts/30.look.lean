/-! LOOKING INTO THE STORE -/
def r_at (c : Nat) (KS : List k_K2) : Option Nat := match KS[r_pl c KS]? with
  | some x => if x.1 = c then some x.2 else none
  | none => none
theorem r_at_mem {c a : Nat} {KS : List k_K2} (s : KS.Pairwise (fun x y => x.1 < y.1)) (hm : (c, a) ∈ KS) : r_at c KS = some a := by
  obtain ⟨i, hi⟩ := List.getElem?_of_mem hm
  have h1 : ¬ i < r_pl c KS := fun z => by have := r_pl_lt z hi; exact absurd this (Nat.lt_irrefl _)
  have h2 : ¬ r_pl c KS < i := fun z => by
    have hl : r_pl c KS < KS.length := by have := (List.getElem?_eq_some_iff.mp hi).1; omega
    obtain ⟨y, hy⟩ : ∃ y, KS[r_pl c KS]? = some y := ⟨_, List.getElem?_eq_getElem hl⟩
    exact r_pl_ge s (Nat.le_refl _) hy (r_srt s z hy hi)
  have e : r_pl c KS = i := by omega
  unfold r_at
  rw [e, hi]
  exact if_pos rfl
theorem r_at_some {c a : Nat} {KS : List k_K2} (h : r_at c KS = some a) : (c, a) ∈ KS := by
  unfold r_at at h
  cases e : KS[r_pl c KS]? with
  | none => rw [e] at h; cases h
  | some x =>
    rw [e] at h
    by_cases z : x.1 = c
    · simp only [if_pos z] at h
      cases h
      have := List.mem_of_getElem? e
      rw [← z]
      exact this
    · simp only [if_neg z] at h
      cases h
section LK
variable {G : k_G} {l : Launch}
theorem c_X0_load (ok : k_ok G l) {h : k_H} {a : Nat} {p q v : Int32} {x : Option Nat} {o : Option Int32} (ho : h.1 a = some (k_o 3 [vI p, vI q, vI v])) (hx : (x = none ∧ o = none) ∨ (∃ a k v b e, x = some a ∧ h.1 a = some (o_ent k v b e o))) : k_ctv (tX0_load G l) [vR (some a), vR x] h (fun h' => h' = k_up h a (k_o 3 [vI (kB o.isSome), vI 0, vI (o.getD 0)])) := by
  rcases hx with ⟨rfl, rfl⟩ | ⟨e, k, w, b, e2, rfl, he⟩
  · exact c_X0_loadN ok ho
  · exact c_X0_loadS ok ho he
theorem c_X8_find (ok : k_ok G l) {h : k_H} {s aK cap c : Nat} {f1 f2 f3 f4 f5 f6 : k_V} {KS : List k_K2} {L : List k_E4} (hs : h.1 s = some (k_o 11 [vR (some aK), f1, f2, f3, f4, f5, f6])) (hk : h.1 aK = some (k_l (KS.map (fun x => x.2)) cap)) (hks : r_ks h KS L) (hc : c < 2 ^ 62) : k_ctr (tX8_find G l) [vR (some s), vJ (lN c)] h (fun h' v => h' = h ∧ v = r_at c KS) := by
  obtain ⟨k1, k2, k3⟩ := id hks
  have isl : k_is h aK 2 := Or.inr ⟨rfl, _, _, hk⟩
  have hle := r_pl_le c KS
  refine k_ctr_of (eX8_find ok.2 (bX8_find_0 (k_is_o hs) (c_X8_placeFrom ok hs hk hks hc) ?_))
  rintro h1 v ⟨hh, rfl⟩
  rw [hh]
  refine bX8_find_5 hs rfl isl (c_size ok hk) ?_
  rintro h1 v ⟨hh, rfl⟩
  rw [hh, List.length_map]
  refine bX8_find_14 (fun c1 => ?_) (fun c1 => ?_)
  · have c2 := (nI_ltI (by omega) (by omega)).mp c1
    obtain ⟨x, hx⟩ : ∃ x, KS[r_pl c KS]? = some x := ⟨_, List.getElem?_eq_getElem c2⟩
    have hx2 : (KS.map (fun x => x.2))[r_pl c KS]? = some x.2 := by rw [List.getElem?_map, hx]; rfl
    have hmem := k1 x (List.mem_of_getElem? hx)
    refine bX8_find_19 hs rfl isl (c_get ok hk hx2) ?_
    rintro h1 v ⟨hh, rfl⟩
    rw [hh]
    refine bX8_find_27 hmem.2 rfl (fun c3 => ?_) (fun c3 => ?_)
    · refine bX8_find_47 (bX8_find_48 ⟨_, rfl, rfl, ?_⟩)
      unfold r_at
      rw [hx]
      exact (if_neg (fun z => c3 (by rw [z]))).symm
    · refine bX8_find_42 (bX8_find_48 ⟨_, rfl, rfl, ?_⟩)
      unfold r_at
      rw [hx]
      exact (if_pos ((lX_eq (by omega) hc).mp c3)).symm
  · have c2 : ¬ r_pl c KS < KS.length := fun z => c1 ((nI_ltI (by omega) (by omega)).mpr z)
    refine bX8_find_17 ⟨_, rfl, rfl, ?_⟩
    unfold r_at
    rw [List.getElem?_eq_none (by omega)]
/-- every entry's key is there -/
def r_in (KS : List k_K2) (L : List k_E4) : Prop := ∀ x ∈ L, ∃ a, (x.2.1, a) ∈ KS
theorem r_look_none {c n : Nat} {KS : List k_K2} {L : List k_E4} (s : KS.Pairwise (fun x y => x.1 < y.1)) (hin : r_in KS L) (h : r_at c KS = none) : r_look c n L = none := by
  unfold r_look r_get
  cases e : L.find? (fun x => x.2.1 == c && decide (x.2.2.1 ≤ n)) with
  | none => rfl
  | some x =>
    have h1 := List.find?_some e
    have h2 := List.mem_of_find?_eq_some e
    simp only [Bool.and_eq_true, beq_iff_eq, decide_eq_true_eq] at h1
    obtain ⟨a, ha⟩ := hin x h2
    rw [h1.1] at ha
    rw [r_at_mem s ha] at h
    cases h
theorem c_X8_entryIn (ok : k_ok G l) {h : k_H} {s aK cap c n : Nat} {f1 f2 f3 f4 f5 f6 : k_V} {KS : List k_K2} {L : List k_E4} {ka : Nat → Nat} (hs : h.1 s = some (k_o 11 [vR (some aK), f1, f2, f3, f4, f5, f6])) (hk : h.1 aK = some (k_l (KS.map (fun x => x.2)) cap)) (hks : r_ks h KS L) (hin : r_in KS L) (hL : r_log h ka L) (hv : ∀ x ∈ L, x.2.2.1 < 2 ^ 31) (hc : c < 2 ^ 62) (hn : n < 2 ^ 31) : k_ctr (tX8_entryIn G l) [vR (some s), vJ (lN c), vI (nI n)] h (fun h' v => h' = h ∧ v = r_look c n L) := by
  refine k_ctr_of (eX8_entryIn ok.2 (bX8_entryIn_0 (k_is_o hs) (c_X8_find ok hs hk hks hc) ?_))
  rintro h1 v ⟨hh, rfl⟩
  rw [hh]
  cases e : r_at c KS with
  | none =>
    refine bX8_entryIn_5 (fun _ => ?_) (fun b hb => by cases hb)
    refine bX8_entryIn_12 (bX8_entryIn_22 ⟨_, rfl, rfl, (r_look_none hks.2.1 hin e).symm⟩)
  | some a =>
    refine bX8_entryIn_5 (fun c => by cases c) (fun b hb => ?_)
    cases hb
    have ha := (hks.1 _ (r_at_some e)).2
    refine bX8_entryIn_16 (k_is_o ha) (c_X4_entryIn ok ha hL hv hn) ?_
    rintro h1 v ⟨hh, rfl⟩
    rw [hh]
    exact bX8_entryIn_22 ⟨_, rfl, rfl, rfl⟩
/-- the number that tells a value -/
def o_told (o : Option Int32) : Int32 := o.getD (-2147483648)
theorem o_told_eq (o : Option Int32) : (if kB o.isSome = 0 then (-2147483648 : Int32) else o.getD 0) = o_told o := by
  cases o with
  | none => rfl
  | some w => exact if_neg (kB_n0.mpr rfl)
theorem c_X8_valueNow (ok : k_ok G l) {h : k_H} {s aK aC cap c n : Nat} {p q v : Int32} {f1 f2 f4 f5 : k_V} {KS : List k_K2} {L : List k_E4} {ka : Nat → Nat} (hs : h.1 s = some (k_o 11 [vR (some aK), f1, f2, vR (some aC), f4, f5, vI (nI n)])) (hC : h.1 aC = some (k_o 3 [vI p, vI q, vI v])) (hk : h.1 aK = some (k_l (KS.map (fun x => x.2)) cap)) (hks : r_ks h KS L) (hin : r_in KS L) (hL : r_log h ka L) (hv : ∀ x ∈ L, x.2.2.1 < 2 ^ 31) (hc : c < 2 ^ 62) (hn : n < 2 ^ 31) : k_cti (tX8_valueNow G l) [vR (some s), vJ (lN c)] h (fun h' w => h' = k_up h aC (k_o 3 [vI (kB (r_val c n L).isSome), vI 0, vI ((r_val c n L).getD 0)]) ∧ w = o_told (r_val c n L)) := by
  have hne : s ≠ aC := fun z => by subst z; rw [hs] at hC; cases hC
  refine k_cti_of (eX8_valueNow ok.2 (bX8_valueNow_0 hs rfl rfl (c_X8_entryIn ok hs hk hks hin hL hv hc hn) ?_))
  rintro h1 w ⟨hh, rfl⟩
  rw [hh]
  refine bX8_valueNow_13 (k_is_o hC) (c_X0_load ok hC (look_ok hL c n)) ?_
  rintro h1 rfl
  refine bX8_valueNow_16 (by rw [k_up_ne _ _ hne]; exact hs) rfl (k_is_o (k_up_self _ _ _)) (c_X0_told ok (k_up_self _ _ _)) ?_
  rintro h1 w ⟨hh, rfl⟩
  rw [hh, o_told_eq]
  exact bX8_valueNow_23 ⟨_, rfl, rfl, rfl⟩
end LK
