/-! HOW MANY KEYS DIFFER FROM A VERSION -/
theorem now_ok {h : k_H} {ka : Nat → Nat} {L : List k_E4} (hL : r_log h ka L) (c : Nat) : (r_fst c L = none ∧ r_now c L = none) ∨ (∃ a k v b e, r_fst c L = some a ∧ h.1 a = some (o_ent k v b e (r_now c L))) := by
  unfold r_fst r_now
  rcases r_find_log hL (p := fun x => x.2.1 == c) with e | ⟨x, e, b, e2, he⟩
  · rw [e]; exact Or.inl ⟨rfl, rfl⟩
  · rw [e]; exact Or.inr ⟨x.1, _, _, b, e2, rfl, he⟩
def r_dif (n : Nat) (L : List k_E4) (x : k_K2) : Bool := !(decide (r_now x.1 L = r_val x.1 n L))
section DF
variable {G : k_G} {l : Launch}
theorem c_X8_countDiffering (ok : k_ok G l) {h : k_H} {s aK cap n : Nat} {f1 f2 f3 f4 f5 f6 : k_V} {KS : List k_K2} {L : List k_E4} {ka : Nat → Nat} (hs : h.1 s = some (k_o 11 [vR (some aK), f1, f2, f3, f4, f5, f6])) (hk : h.1 aK = some (k_l (KS.map (fun x => x.2)) cap)) (hks : r_ks h KS L) (hL : r_log h ka L) (hv : ∀ x ∈ L, x.2.2.1 < 2 ^ 31) (hn : n < 2 ^ 31) :
    k_cti (tX8_countDiffering G l) [vR (some s), vI (nI n)] h (fun h' v => h' = h ∧ v = nI (KS.countP (r_dif n L))) := by
  obtain ⟨k1, k2, k3⟩ := hks
  have isl : k_is h aK 2 := Or.inr ⟨rfl, _, _, hk⟩
  refine k_cti_of (eX8_countDiffering ok.2 (bX8_countDiffering_0 ?_))
  have key : ∀ (d i m : Nat), KS.length - i = d → i ≤ KS.length → KS.countP (r_dif n L) = m + (KS.drop i).countP (r_dif n L) →
      k_X (jX8_countDiffering G l h) h 4 [(0, vR (some s)), (1, vI (nI n)), (2, vI (nI m)), (3, vI (nI i))] [] (q_i (fun h' v => h' = h ∧ v = nI (KS.countP (r_dif n L)))) := by
    intro d
    induction d with
    | zero =>
      intro i m hd hi hm
      refine bX8_countDiffering_4 hs rfl isl (c_size ok hk) ?_
      rintro h1 v ⟨hh, rfl⟩
      rw [hh, List.length_map]
      refine bX8_countDiffering_12 (fun _ => bX8_countDiffering_54 ⟨_, rfl, rfl, ?_⟩) (fun c1 => absurd (nI_le (by omega) (by omega)) c1)
      rw [hm, List.drop_eq_nil_of_le (by omega)]
      rfl
    | succ d ih =>
      intro i m hd hi hm
      have hlt : i < KS.length := by omega
      obtain ⟨x, hx⟩ : ∃ x, KS[i]? = some x := ⟨_, List.getElem?_eq_getElem hlt⟩
      have hx2 : (KS.map (fun x => x.2))[i]? = some x.2 := by rw [List.getElem?_map, hx]; rfl
      have hmem := k1 x (List.mem_of_getElem? hx)
      have hdrop : KS.drop i = x :: KS.drop (i + 1) := by
        rw [List.drop_eq_getElem_cons hlt]
        congr 1
        exact (List.getElem?_eq_some_iff.mp hx).2
      rw [hdrop] at hm
      refine bX8_countDiffering_4 hs rfl isl (c_size ok hk) ?_
      rintro h1 v ⟨hh, rfl⟩
      rw [hh, List.length_map]
      refine bX8_countDiffering_12 (fun c1 => absurd c1 (nI_ge hlt (by omega))) (fun _ => ?_)
      refine bX8_countDiffering_15 hs rfl isl (c_get ok hk hx2) ?_
      rintro h1 v ⟨hh, rfl⟩
      rw [hh]
      refine bX8_countDiffering_23 hmem.2 rfl (c_X4_entryIn ok hmem.2 hL hv hn) ?_
      rintro h1 v ⟨hh, rfl⟩
      rw [hh]
      refine bX8_countDiffering_39 (c_X3_alike ok (now_ok hL x.1) (look_ok hL x.1 n)) ?_
      rintro h1 v ⟨hh, rfl⟩
      rw [hh]
      refine bX8_countDiffering_42 (fun c1 => ?_) (fun c1 => ?_)
      · rw [kB_n0] at c1
        refine bX8_countDiffering_48 ?_
        rw [nI_1]
        refine ih (i + 1) m (by omega) (by omega) ?_
        rw [hm, List.countP_cons_of_neg (by unfold r_dif; rw [c1]; decide)]
      · rw [kB_0] at c1
        refine bX8_countDiffering_45 (bX8_countDiffering_48 ?_)
        rw [nI_1, nI_1]
        refine ih (i + 1) (m + 1) (by omega) (by omega) ?_
        rw [hm, List.countP_cons_of_pos (by unfold r_dif; rw [c1]; rfl)]
        omega
  exact key _ 0 0 rfl (Nat.zero_le _) (by simp)
end DF
