/-! BUILDING AN INDEX -/
theorem jA_go {U U' : j_U} (A : j_A U) (h : ∀ c, jl c → (∀ y, y < 3 → ¬ c = wS y) → U' c = U c) (g : ∀ y k, y < 3 → k < 12 → (U (wR k)).isSome = true → j_g U' y k = j_g U y k) : j_A U' := by
  obtain ⟨a, b, d⟩ := A
  have hs : ∀ c, 120516000000 ≤ c → c < 121000000000 → U' c = U c := fun c h1 h2 => h c (Or.inr ⟨h1, h2⟩) (fun y hy => by unfold wS; omega)
  refine ⟨fun c v h1 h2 e => a c v h1 h2 (by rw [← hs c (by omega) h2]; exact e), fun c h1 h2 v => ?_, fun j hj => ?_⟩
  · rw [hs c (by omega) (by omega), b c h1 h2 v]
    constructor
    · rintro ⟨hv, k, j, h3, h4, h5, h6, h7⟩
      exact ⟨hv, k, j, h3, h4, h5, by rw [hs _ (by unfold wR; omega) (by unfold wR; omega)]; exact h6, by rw [g 0 k (by omega) h3 (by rw [h6]; rfl)]; exact h7⟩
    · rintro ⟨hv, k, j, h3, h4, h5, h6, h7⟩
      rw [hs _ (by unfold wR; omega) (by unfold wR; omega)] at h6
      rw [g 0 k (by omega) h3 (by rw [h6]; rfl)] at h7
      exact ⟨hv, k, j, h3, h4, h5, h6, h7⟩
  · rw [hs _ (by unfold wN; omega) (by unfold wN; omega), d j hj]
    congr 1
    unfold j_c
    refine List.countP_congr fun k hk => ?_
    have := List.mem_range.mp hk
    rw [hs _ (by unfold wR; omega) (by unfold wR; omega)]
    by_cases e : U (wR k) = some (nI j)
    · rw [g 1 k (by omega) (by omega) (by rw [e]; rfl)]
    · rw [decide_eq_false e, Bool.false_and, Bool.false_and]
theorem jW_go {m : Nat} {U U' : j_U} (W : j_W m U) (h : ∀ c, jl c → (∀ y, y < 3 → ¬ c = wS y) → U' c = U c) (g : ∀ y k, y < 3 → k < 12 → (U (wR k)).isSome = true → j_g U' y k = j_g U y k) : j_W m U' := by
  obtain ⟨w1, w2, w3⟩ := W
  have hs : ∀ c, 120516000000 ≤ c → c < 121000000000 → U' c = U c := fun c h1 h2 => h c (Or.inr ⟨h1, h2⟩) (fun y hy => by unfold wS; omega)
  have hw : ∀ u k, u < 9000 → k < 12 → U' (wW u k) = U (wW u k) := fun u k _ _ => hs _ (by unfold wW; omega) (by unfold wW; omega)
  have hr : ∀ k, k < 12 → U' (wR k) = U (wR k) := fun k _ => hs _ (by unfold wR; omega) (by unfold wR; omega)
  refine ⟨fun c v h1 h2 e => ?_, fun k v hk e gg => ?_, fun k u u' hk hu hu' a b => ?_⟩
  · rw [hs c h1 (by omega)] at e
    obtain ⟨u, k, b1, b2, b3, b4, b5, b6⟩ := w1 c v h1 h2 e
    exact ⟨u, k, b1, b2, b3, b4, by rw [hr k b3]; exact b5, by rw [g 2 k (by omega) b3 (by rw [b5]; rfl)]; exact b6⟩
  · rw [hr k hk] at e
    rw [g 2 k (by omega) hk (by rw [e]; rfl)] at gg
    obtain ⟨u, hu, a⟩ := w2 k v hk e gg
    exact ⟨u, hu, by rw [hw u k hu hk]; exact a⟩
  · rw [hw u k hu hk] at a
    rw [hw u' k hu' hk] at b
    exact w3 k u u' hk hu hu' a b
section PUT
variable {m x k f : Nat} {U U' : j_U}
def j_put (m x k f : Nat) (U U' : j_U) : Prop := x < 3 ∧ k < 12 ∧ f < 100 ∧ U (wR k) = some (nI f) ∧ j_g U x k = false ∧ j_g U' x k = true ∧ (∀ y, y < 3 → ¬ y = x → U' (wS y) = U (wS y)) ∧ (∀ k', k' < 12 → ¬ k' = k → (U (wR k')).isSome = true → j_g U' x k' = j_g U x k') ∧
  ∀ c, 120516000000 ≤ c → c < 121000000000 → U' c = if x = 0 ∧ c = wF f k then some 0 else if x = 1 ∧ c = wN f then some ((U c).getD 0 + 1) else if x = 2 ∧ c = wW m k then some (nI f) else U c
theorem put_g (h : j_put m x k f U U') {y k' : Nat} (hy : y < 3) (hk : k' < 12) (hs : (U (wR k')).isSome = true) (hne : ¬ (y = x ∧ k' = k)) : j_g U' y k' = j_g U y k' := by
  obtain ⟨h1, h2, h3, h4, h5, h6, h7, h8, h9⟩ := h
  by_cases e : y = x
  · rw [e]; exact h8 k' hk (fun z => hne ⟨e, z⟩) hs
  · unfold j_g; rw [h7 y hy e]
theorem put_ot (h : j_put m x k f U U') (hm : m < 9000) {c : Nat} (h1 : 120516000000 ≤ c) (h2 : c < 121000000000) (n0 : ¬ (x = 0 ∧ c = wF f k)) (n1 : ¬ (x = 1 ∧ c = wN f)) (n2 : ¬ (x = 2 ∧ c = wW m k)) : U' c = U c := by
  rw [h.2.2.2.2.2.2.2.2 c h1 h2, if_neg n0, if_neg n1, if_neg n2]
theorem put_R (h : j_put m x k f U U') (hm : m < 9000) {c : Nat} (h1 : 120879000000 ≤ c) (h2 : c < 121000000000) : U' c = U c := by
  have := h.2.1
  have := h.2.2.1
  refine put_ot h hm (by omega) h2 ?_ ?_ ?_
  · rintro ⟨-, e⟩; rw [e] at h1; unfold wF at h1; omega
  · rintro ⟨-, e⟩; rw [e] at h1; unfold wN at h1; omega
  · rintro ⟨-, e⟩; rw [e] at h1; unfold wW at h1; omega
theorem jA_put (h : j_put m x k f U U') (hm : m < 9000) (A : j_A U) : j_A U' := by
  obtain ⟨a, b, d⟩ := A
  obtain ⟨hx, hk, hf, hr, g0, g1, hS, go, hv⟩ := id h
  have rR : ∀ q, q < 12 → U' (wR q) = U (wR q) := fun q hq => put_R h hm (by unfold wR; omega) (by unfold wR; omega)
  refine ⟨fun c v h1 h2 e => a c v h1 h2 (by rw [← put_R h hm h1 h2]; exact e), fun c h1 h2 v => ?_, fun j hj => ?_⟩
  · by_cases e0 : x = 0 ∧ c = wF f k
    · rw [hv c (by omega) (by omega), if_pos e0]
      constructor
      · intro q
        exact ⟨(Option.some.inj q).symm, k, f, hk, hf, e0.2, by rw [rR k hk]; exact hr, by rw [← e0.1]; exact g1⟩
      · rintro ⟨q, -⟩; rw [q]
    · have ec : U' c = U c := put_ot h hm (by omega) (by omega) e0 (fun q => by rw [q.2] at h1; unfold wN at h1; omega) (fun q => by rw [q.2] at h1; unfold wW at h1; omega)
      rw [ec, b c h1 h2 v]
      constructor
      · rintro ⟨q, k', j', q1, q2, q3, q4, q5⟩
        refine ⟨q, k', j', q1, q2, q3, by rw [rR k' q1]; exact q4, ?_⟩
        rw [put_g h (by omega) q1 (by rw [q4]; rfl)]
        · exact q5
        · rintro ⟨z1, z2⟩
          rw [z2, z1, g0] at q5
          cases q5
      · rintro ⟨q, k', j', q1, q2, q3, q4, q5⟩
        rw [rR k' q1] at q4
        refine ⟨q, k', j', q1, q2, q3, q4, ?_⟩
        rw [← put_g h (by omega) q1 (by rw [q4]; rfl)]
        · exact q5
        · rintro ⟨z1, z2⟩
          subst z2
          rw [hr] at q4
          have := (som_nI (by omega) (by omega)).mp q4
          exact e0 ⟨z1.symm, by rw [q3, this]⟩
  · have cu : j_c U' j + 0 = j_c U j + (if x = 1 ∧ f = j then 1 else 0) := by
      have l : ∀ p : Nat → Bool, (List.range 12).countP p = (List.range 12).countP (fun q => if q < 12 then p q else false) := fun p => List.countP_congr fun q hq => by rw [if_pos (List.mem_range.mp hq)]
      unfold j_c
      rw [l (fun q => decide (U' (wR q) = some (nI j)) && j_g U' 1 q), l (fun q => decide (U (wR q) = some (nI j)) && j_g U 1 q)]
      have := cnt_upd (p := fun q => if q < 12 then decide (U (wR q) = some (nI j)) && j_g U 1 q else false) (q := fun q => if q < 12 then decide (U' (wR q) = some (nI j)) && j_g U' 1 q else false) (n := k) 12 hk (fun q hq => by
        by_cases h12 : q < 12
        · rw [if_pos h12, if_pos h12, rR q h12]
          by_cases e : U (wR q) = some (nI j)
          · rw [put_g h (by omega) h12 (by rw [e]; rfl) (fun z => hq z.2)]
          · rw [decide_eq_false e, Bool.false_and, Bool.false_and]
        · rw [if_neg h12, if_neg h12])
      simp only [if_pos hk] at this
      by_cases e1 : x = 1
      · subst e1
        rw [g0, Bool.and_false] at this
        rw [rR k hk, hr, g1, Bool.and_true] at this
        by_cases ej : f = j
        · rw [if_pos (show 1 = 1 ∧ f = j from ⟨rfl, ej⟩)]
          rw [decide_eq_true (by rw [ej])] at this
          simpa using this
        · rw [if_neg (fun z => ej z.2)]
          rw [decide_eq_false (fun z => ej ((som_nI (by omega) (by omega)).mp z))] at this
          simpa using this
      · rw [if_neg (fun z => e1 z.1)]
        have e : (decide (U' (wR k) = some (nI j)) && j_g U' 1 k) = (decide (U (wR k) = some (nI j)) && j_g U 1 k) := by
          rw [rR k hk, put_g h (by omega) hk (by rw [hr]; rfl) (fun z => e1 z.1.symm)]
        rw [e] at this
        omega
    by_cases e1 : x = 1 ∧ f = j
    · rw [if_pos e1] at cu
      rw [hv _ (by unfold wN; omega) (by unfold wN; omega), if_neg (fun z => by omega), if_pos ⟨e1.1, by rw [e1.2]⟩]
      show (U (wN j)).getD 0 + 1 = _
      rw [d j hj, show (1 : Int32) = nI 1 from rfl, nI_add]
      congr 1
      omega
    · rw [if_neg e1] at cu
      rw [put_ot h hm (by unfold wN; omega) (by unfold wN; omega) (fun z => by have := z.2; unfold wN wF at this; omega) (fun z => by have := z.2; unfold wN at this; exact e1 ⟨z.1, by omega⟩) (fun z => by have := z.2; unfold wN wW at this; omega), d j hj]
      congr 1
      omega
theorem jW_put (h : j_put m x k f U U') (hm0 : 0 < m) (hm : m < 9000) (W : j_W m U) : j_W m U' := by
  obtain ⟨hx, hk, hf, hr, g0, g1, hS, go, hv⟩ := id h
  have rR : ∀ q, q < 12 → U' (wR q) = U (wR q) := fun q hq => put_R h hm (by unfold wR; omega) (by unfold wR; omega)
  obtain ⟨w1, w2, w3⟩ := W
  have lw : ∀ u q, u < 9000 → q < 12 → 120516000000 ≤ wW u q ∧ wW u q < 120637000000 := fun u q _ _ => by unfold wW; omega
  have ot : ∀ c, 120516000000 ≤ c → c < 120637000000 → ¬ (x = 2 ∧ c = wW m k) → U' c = U c := fun c h1 h2 z => put_ot h hm h1 (by omega) (fun q => by rw [q.2] at h2; unfold wF at h2; omega) (fun q => by rw [q.2] at h2; unfold wN at h2; omega) z
  have no : x = 2 → ∀ u, u < 9000 → U (wW u k) = none := fun e u hu => by
    cases z : U (wW u k) with
    | none => rfl
    | some v =>
      obtain ⟨u', k', -, -, b3, b4, b5, b6⟩ := w1 _ v (lw u k hu hk).1 (lw u k hu hk).2 z
      have : k' = k := by unfold wW at b4; omega
      subst this
      rw [e] at g0
      rw [g0] at b6
      cases b6
  refine ⟨fun c v h1 h2 e => ?_, fun q v hq e gg => ?_, fun q u u' hq hu hu' a b => ?_⟩
  · by_cases z : x = 2 ∧ c = wW m k
    · rw [hv c h1 (by omega), if_neg (fun q => by omega), if_neg (fun q => by omega), if_pos z] at e
      have e := Option.some.inj e
      exact ⟨m, k, hm0, Nat.le_refl _, hk, z.2, by rw [rR k hk, hr, e], by rw [← z.1]; exact g1⟩
    · rw [ot c h1 h2 z] at e
      obtain ⟨u, q, b1, b2, b3, b4, b5, b6⟩ := w1 c v h1 h2 e
      refine ⟨u, q, b1, b2, b3, b4, by rw [rR q b3]; exact b5, ?_⟩
      rw [put_g h (by omega) b3 (by rw [b5]; rfl)]
      · exact b6
      · rintro ⟨z1, z2⟩
        rw [z2, z1, g0] at b6
        cases b6
  · rw [rR q hq] at e
    by_cases z : x = 2 ∧ q = k
    · refine ⟨m, hm, ?_⟩
      rw [z.2, hv _ (lw m k hm hk).1 (by have := (lw m k hm hk).2; omega), if_neg (fun q => by omega), if_neg (fun q => by omega), if_pos ⟨z.1, rfl⟩]
      rfl
    · rw [put_g h (by omega) hq (by rw [e]; rfl) (fun p => z ⟨p.1.symm, p.2⟩)] at gg
      obtain ⟨u, hu, a⟩ := w2 q v hq e gg
      refine ⟨u, hu, ?_⟩
      rw [ot _ (lw u q hu hq).1 (lw u q hu hq).2]
      · exact a
      · rintro ⟨z1, z2⟩
        have : q = k := by unfold wW at z2; omega
        exact z ⟨z1, this⟩
  · by_cases z : x = 2 ∧ q = k
    · obtain ⟨z1, z2⟩ := z
      subst z2
      have key : ∀ u, u < 9000 → (U' (wW u q)).isSome = true → u = m := fun u hu s => by
        refine Classical.byContradiction fun hne => ?_
        rw [ot _ (lw u q hu hq).1 (lw u q hu hq).2 (fun p => by have := p.2; unfold wW at this; omega), no z1 u hu] at s
        cases s
      rw [key u hu a, key u' hu' b]
    · have e1 : ∀ u, u < 9000 → U' (wW u q) = U (wW u q) := fun u hu => ot _ (lw u q hu hq).1 (lw u q hu hq).2 (fun p => z ⟨p.1, by have := p.2; unfold wW at this; omega⟩)
      rw [e1 u hu] at a
      rw [e1 u' hu'] at b
      exact w3 q u u' hq hu hu' a b
end PUT
