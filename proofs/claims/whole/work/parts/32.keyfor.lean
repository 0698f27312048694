/-! A KEY IS FOUND, OR MADE -/
theorem up_nw (h : k_H) (n : Nat) (c0 c : k_C) : k_up (k_nw h n c0) h.2.1 c = k_nw h n c := by
  unfold k_up k_nw
  refine Prod.ext (funext fun q => ?_) rfl
  by_cases e : q = h.2.1 <;> simp [e]
/-- new cells touch no old ones -/
theorem nw_old {h : k_H} {n q : Nat} {c c0 : k_C} (wh : k_wf h) (hq : h.1 q = some c0) : (k_nw h n c).1 q = some c0 := by
  rw [k_nw_ne _ _ _ (by have := wh _ _ hq; omega)]
  exact hq
theorem keep_nw {h : k_H} {n : Nat} {c : k_C} (wh : k_wf h) : k_kp h (k_nw h n c) := fun q ci fs hq => nw_old wh hq
section KF
variable {G : k_G} {l : Launch}
theorem c_X4_init (ok : k_ok G l) {h : k_H} {a : Nat} {x : Int64} {u w : k_V} (ho : h.1 a = some (k_o 7 [u, w])) : k_ctv (tX4_init G l) [vR (some a), vJ x] h (fun h' => h' = k_up h a (k_o 7 [vJ x, vR none])) := by
  refine k_ctv_of (eX4_init ok.2 (bX4_init_0 ho rfl (bX4_init_9 (k_up_self _ _ _) rfl (bX4_init_14 ⟨rfl, ?_⟩))))
  rw [k_uu]
  rfl
theorem c_X8_keyForA (ok : k_ok G l) {h : k_H} {s aK cap c a : Nat} {f1 f2 f3 f4 f5 f6 : k_V} {KS : List k_K2} {L : List k_E4} (hs : h.1 s = some (k_o 11 [vR (some aK), f1, f2, f3, f4, f5, f6])) (hk : h.1 aK = some (k_l (KS.map (fun x => x.2)) cap)) (hks : r_ks h KS L) (hc : c < 2 ^ 62) (hm : (c, a) ∈ KS) : k_ctr (tX8_keyFor G l) [vR (some s), vJ (lN c)] h (fun h' v => h' = h ∧ v = some a) := by
  obtain ⟨k1, k2, k3⟩ := id hks
  have isl : k_is h aK 2 := Or.inr ⟨rfl, _, _, hk⟩
  have hat := r_at_mem k2 hm
  unfold r_at at hat
  have hle := r_pl_le c KS
  refine k_ctr_of (eX8_keyFor ok.2 (bX8_keyFor_0 (k_is_o hs) (c_X8_placeFrom ok hs hk hks hc) ?_))
  rintro h1 v ⟨hh, rfl⟩
  rw [hh]
  refine bX8_keyFor_5 hs rfl isl (c_size ok hk) ?_
  rintro h1 v ⟨hh, rfl⟩
  rw [hh, List.length_map]
  cases hx : KS[r_pl c KS]? with
  | none => rw [hx] at hat; cases hat
  | some x =>
    rw [hx] at hat
    have hlt : r_pl c KS < KS.length := (List.getElem?_eq_some_iff.mp hx).1
    have hx2 : (KS.map (fun x => x.2))[r_pl c KS]? = some x.2 := by rw [List.getElem?_map, hx]; rfl
    have hmem := k1 x (List.mem_of_getElem? hx)
    have he : x.1 = c := by
      by_cases z : x.1 = c
      · exact z
      · simp only [if_neg z] at hat; cases hat
    simp only [if_pos he] at hat
    cases hat
    refine bX8_keyFor_14 (fun c1 => absurd c1 (nI_ge hlt (by omega))) (fun _ => ?_)
    refine bX8_keyFor_17 hs rfl isl (c_get ok hk hx2) ?_
    rintro h1 v ⟨hh, rfl⟩
    rw [hh]
    refine bX8_keyFor_25 hmem.2 (bX8_keyFor_32 (fun c => by cases c) (fun b hb => ?_))
    cases hb
    exact bX8_keyFor_39 hmem.2 rfl (fun c1 => absurd (congrArg lN he) c1) (fun _ => bX8_keyFor_49 ⟨_, rfl, rfl, rfl⟩)
theorem c_X8_keyForN (ok : k_ok G l) {h : k_H} {s aK cap c : Nat} {f1 f2 f3 f4 f5 f6 : k_V} {KS : List k_K2} {L : List k_E4} (wh : k_wf h) (hs : h.1 s = some (k_o 11 [vR (some aK), f1, f2, f3, f4, f5, f6])) (hk : h.1 aK = some (k_l (KS.map (fun x => x.2)) cap)) (hks : r_ks h KS L) (hc : c < 2 ^ 62) (hn : r_at c KS = none) (hb : KS.length < 65536) : k_ctr (tX8_keyFor G l) [vR (some s), vJ (lN c)] h (fun h' v => h' = k_gr (k_nw h 2 (k_o 7 [vJ (lN c), vR none])) aK ((KS.map (fun x => x.2)).insertIdx (r_pl c KS) h.2.1) KS.length cap ∧ v = some h.2.1) := by
  obtain ⟨k1, k2, k3⟩ := id hks
  have isl : k_is h aK 2 := Or.inr ⟨rfl, _, _, hk⟩
  have hle := r_pl_le c KS
  refine k_ctr_of (eX8_keyFor ok.2 (bX8_keyFor_0 (k_is_o hs) (c_X8_placeFrom ok hs hk hks hc) ?_))
  rintro h1 v ⟨hh, rfl⟩
  rw [hh]
  refine bX8_keyFor_5 hs rfl isl (c_size ok hk) ?_
  rintro h1 v ⟨hh, rfl⟩
  rw [hh, List.length_map]
  have key : k_X (jX8_keyFor G l h) h 52 [(0, vR (some s)), (1, vJ (lN c)), (3, vI (nI (r_pl c KS)))] [] (q_r (fun h' v => h' = k_gr (k_nw h 2 (k_o 7 [vJ (lN c), vR none])) aK ((KS.map (fun x => x.2)).insertIdx (r_pl c KS) h.2.1) KS.length cap ∧ v = some h.2.1)) := by
    refine bX8_keyFor_52 hs rfl isl (c_size ok hk) ?_
    rintro h1 v ⟨hh, rfl⟩
    rw [hh, List.length_map]
    refine bX8_keyFor_59 (fun _ => ?_) (fun c1 => absurd (nI_lt (b := 65536) hb (by decide)) c1)
    refine bX8_keyFor_66 (bX8_keyFor_69 (c_X4_init ok (k_nw_self _ _ _)) ?_)
    rintro h1 hh
    rw [hh, up_nw]
    have hk2 := nw_old (n := 2) (c := k_o 7 [vJ (lN c), vR none]) wh hk
    refine bX8_keyFor_74 (nw_old wh hs) rfl (Or.inr ⟨rfl, _, _, hk2⟩) (c_addAt ok (k_wf_nw wh) hk2 (by rw [List.length_map]; omega) (by rw [List.length_map]; exact hle) (fun z hz => ?_) ⟨7, k_is_o (k_nw_self _ _ _), k_to (C := "Keyterrace$Key") rfl (by simp [k_casts])⟩) ?_
    · obtain ⟨y, hy, rfl⟩ := List.mem_map.mp hz
      exact el_key (nw_old wh (k1 y hy).2)
    · rintro h1 hh
      rw [hh, List.length_map]
      exact bX8_keyFor_86 ⟨_, rfl, rfl, rfl⟩
  unfold r_at at hn
  cases hx : KS[r_pl c KS]? with
  | none =>
    have hge : KS.length ≤ r_pl c KS := List.getElem?_eq_none_iff.mp hx
    exact bX8_keyFor_14 (fun _ => bX8_keyFor_31 (bX8_keyFor_32 (fun _ => key) (fun b hb => by cases hb))) (fun c1 => absurd (nI_le hge (by omega)) c1)
  | some x =>
    rw [hx] at hn
    have hlt : r_pl c KS < KS.length := (List.getElem?_eq_some_iff.mp hx).1
    have hx2 : (KS.map (fun x => x.2))[r_pl c KS]? = some x.2 := by rw [List.getElem?_map, hx]; rfl
    have hmem := k1 x (List.mem_of_getElem? hx)
    have he : ¬ x.1 = c := fun z => by simp only [if_pos z] at hn; cases hn
    refine bX8_keyFor_14 (fun c1 => absurd c1 (nI_ge hlt (by omega))) (fun _ => ?_)
    refine bX8_keyFor_17 hs rfl isl (c_get ok hk hx2) ?_
    rintro h1 v ⟨hh, rfl⟩
    rw [hh]
    refine bX8_keyFor_25 hmem.2 (bX8_keyFor_32 (fun c => by cases c) (fun b hb => ?_))
    cases hb
    exact bX8_keyFor_39 hmem.2 rfl (fun _ => key) (fun c1 => absurd ((lX_eq (by omega) hc).mp c1) he)
end KF
