/-! THE INDEXES, said of what has a value: codes as sums; what must hold; what a save makes of it -/
def wR (k : Nat) : Nat := 120890000000 + 11000 * k
def wF (j k : Nat) : Nat := 120769001000 + 11000 * j + k
def wN (j : Nat) : Nat := 120648000000 + 11000 * j
def wW (u k : Nat) : Nat := 120527001000 + 11000 * u + k
def wS (x : Nat) : Nat := 120285000000 + 11000 * x
theorem wR_eq {k : Nat} (h : k < 9000) : sv_re (nI k) = wR k := by
  unfold sv_re s_cd wR
  rw [dg_nI h, show s_dg (-1) = 999 from by decide, show s_dg 10000 = 0 from by decide]
  omega
theorem wF_eq {j k : Nat} (hj : j < 9000) (h : k < 9000) : s_cd (-2) (nI j) (nI k) = wF j k := by
  unfold s_cd wF
  rw [dg_nI h, dg_nI hj, show s_dg (-2) = 998 from by decide]
  omega
theorem wN_eq {j : Nat} (hj : j < 9000) : s_cd (-3) (nI j) 10000 = wN j := by
  unfold s_cd wN
  rw [dg_nI hj, show s_dg (-3) = 997 from by decide, show s_dg 10000 = 0 from by decide]
  omega
theorem wW_eq {u k : Nat} (hu : u < 9000) (h : k < 9000) : s_cd (-4) (nI u) (nI k) = wW u k := by
  unfold s_cd wW
  rw [dg_nI h, dg_nI hu, show s_dg (-4) = 996 from by decide]
  omega
theorem wS_eq {x : Nat} (h : x < 9000) : sv_co (nI x) = wS x := by
  unfold sv_co s_cd wS
  rw [dg_nI h, show s_dg (-6) = 994 from by decide, show s_dg 10000 = 0 from by decide]
  omega
abbrev j_U : Type := Nat → Option Int32
/-- whether the index x goes for the record k -/
def j_g (U : j_U) (x k : Nat) : Bool := s_goes (o_told (U (wS x))) (nI k)
def j_R (U : j_U) : Prop := ∀ c v, 120879000000 ≤ c → c < 121000000000 → U c = some v → ∃ k j, k < 12 ∧ j < 100 ∧ c = wR k ∧ v = nI j
def j_F (U : j_U) : Prop := ∀ c, 120758000000 ≤ c → c < 120879000000 → ∀ v, U c = some v ↔ v = 0 ∧ ∃ k j, k < 12 ∧ j < 100 ∧ c = wF j k ∧ U (wR k) = some (nI j) ∧ j_g U 0 k = true
def j_c (U : j_U) (j : Nat) : Nat := (List.range 12).countP (fun k => decide (U (wR k) = some (nI j)) && j_g U 1 k)
def j_N (U : j_U) : Prop := ∀ j, j < 100 → (U (wN j)).getD 0 = nI (j_c U j)
def j_A (U : j_U) : Prop := j_R U ∧ j_F U ∧ j_N U
def j_W (n : Nat) (U : j_U) : Prop := (∀ c v, 120516000000 ≤ c → c < 120637000000 → U c = some v → ∃ u k, 0 < u ∧ u ≤ n ∧ k < 12 ∧ c = wW u k ∧ U (wR k) = some v ∧ j_g U 2 k = true) ∧
  (∀ k v, k < 12 → U (wR k) = some v → j_g U 2 k = true → ∃ u, u < 9000 ∧ (U (wW u k)).isSome = true) ∧ ∀ k u u', k < 12 → u < 9000 → u' < 9000 → (U (wW u k)).isSome = true → (U (wW u' k)).isSome = true → u = u'
theorem cnt_upd {p q : Nat → Bool} {n : Nat} : ∀ m, n < m → (∀ k, ¬ k = n → q k = p k) → (List.range m).countP q + (if p n = true then 1 else 0) = (List.range m).countP p + (if q n = true then 1 else 0) := by
  have low : ∀ m, m ≤ n → (∀ k, ¬ k = n → q k = p k) → (List.range m).countP q = (List.range m).countP p := by
    intro m hm h
    refine List.countP_congr fun k hk => ?_
    rw [h k (by have := List.mem_range.mp hk; omega)]
  intro m
  induction m with
  | zero => intro h; omega
  | succ m ih =>
    intro hm h
    rw [List.range_succ, List.countP_append, List.countP_append, List.countP_singleton, List.countP_singleton]
    by_cases e : m = n
    · rw [low m (by omega) h, e]; omega
    · have := ih (by omega) h
      rw [h m e]
      omega
theorem nI_j {i j : Nat} (hi : i < 9000) (hj : j < 9000) (h : nI i = nI j) : i = j := (nI_eq (by omega) (by omega)).mp h
theorem som_nI {i j : Nat} (hi : i < 9000) (hj : j < 9000) : (some (nI i) : Option Int32) = some (nI j) ↔ i = j := ⟨fun h => nI_j hi hj (Option.some.inj h), fun h => by rw [h]⟩
theorem jA_save {U U' : j_U} {n j : Nat} (hn : n < 12) (hj : j < 100) (saves : Bool) (A : j_A U) (ro : Option Nat) (hro : U (wR n) = ro.map nI) (hr9 : ∀ o, ro = some o → o < 100)
    (hS : ∀ x, x < 3 → U' (wS x) = U (wS x)) (hR : ∀ c, 120879000000 ≤ c → c < 121000000000 → U' c = if c = wR n then (if saves = true then some (nI j) else none) else U c)
    (hF1 : ∀ c, 120758000000 ≤ c → c < 120879000000 → (∀ i, i < 100 → ¬ c = wF i n) → U' c = U c)
    (hF2 : ∀ i, i < 100 → U' (wF i n) = if j_g U 0 n = true ∧ saves = true ∧ i = j then some 0 else if j_g U 0 n = true ∧ ro = some i then none else U (wF i n))
    (hN : ∀ i, i < 100 → (U' (wN i)).getD 0 = (U (wN i)).getD 0 + (if j_g U 1 n = true ∧ ro = some i then -1 else 0) + (if j_g U 1 n = true ∧ saves = true ∧ i = j then 1 else 0)) : j_A U' := by
  obtain ⟨aR, aF, aN⟩ := A
  have g : ∀ x k, x < 3 → j_g U' x k = j_g U x k := fun x k hx => by unfold j_g; rw [hS x hx]
  have hRn : U' (wR n) = if saves = true then some (nI j) else none := by rw [hR _ (by unfold wR; omega) (by unfold wR; omega), if_pos rfl]
  have hRk : ∀ k, k < 12 → ¬ k = n → U' (wR k) = U (wR k) := fun k hk e => by rw [hR _ (by unfold wR; omega) (by unfold wR; omega), if_neg (by unfold wR; omega)]
  refine ⟨fun c v h1 h2 hc => ?_, fun c h1 h2 v => ?_, fun i hi => ?_⟩
  · rw [hR c h1 h2] at hc
    by_cases e : c = wR n
    · rw [if_pos e] at hc
      cases saves with
      | true => rw [if_pos rfl] at hc; exact ⟨n, j, hn, hj, e, (Option.some.inj hc).symm⟩
      | false => cases hc
    · rw [if_neg e] at hc
      exact aR c v h1 h2 hc
  · by_cases e : ∃ i, i < 100 ∧ c = wF i n
    · obtain ⟨i, hi, rfl⟩ := e
      have key : (∃ k j', k < 12 ∧ j' < 100 ∧ wF i n = wF j' k ∧ U' (wR k) = some (nI j') ∧ j_g U' 0 k = true) ↔ j_g U 0 n = true ∧ saves = true ∧ i = j := by
        constructor
        · rintro ⟨k, j', hk, hj', e, hU, hg⟩
          unfold wF at e
          have e1 : k = n := by omega
          have e2 : j' = i := by omega
          subst e1; subst e2
          rw [g 0 k (by omega)] at hg
          rw [hRn] at hU
          cases saves with
          | true =>
            rw [if_pos rfl] at hU
            exact ⟨hg, rfl, ((som_nI (by omega) (by omega)).mp hU).symm⟩
          | false => cases hU
        · rintro ⟨hg, hs, e⟩
          exact ⟨n, i, hn, hi, rfl, by rw [hRn, if_pos hs, e], by rw [g 0 n (by omega)]; exact hg⟩
      rw [key, hF2 i hi]
      by_cases c1 : j_g U 0 n = true ∧ saves = true ∧ i = j
      · rw [if_pos c1]
        exact ⟨fun h => ⟨(Option.some.inj h).symm, c1⟩, fun h => by rw [h.1]⟩
      · rw [if_neg c1]
        refine ⟨fun h => ?_, fun h => absurd h.2 c1⟩
        exfalso
        by_cases c2 : j_g U 0 n = true ∧ ro = some i
        · rw [if_pos c2] at h; cases h
        · rw [if_neg c2] at h
          obtain ⟨-, k, j', hk, hj', e, hU, hg⟩ := (aF _ h1 h2 v).mp h
          unfold wF at e
          have e1 : k = n := by omega
          have e2 : j' = i := by omega
          subst e1; subst e2
          rw [hro] at hU
          cases hq : ro with
          | none => rw [hq] at hU; cases hU
          | some o =>
            rw [hq] at hU
            have := (som_nI (by have := hr9 o hq; omega) (by omega)).mp hU
            exact c2 ⟨hg, by rw [hq, this]⟩
    · have hne : ∀ i, i < 100 → ¬ c = wF i n := fun i hi q => e ⟨i, hi, q⟩
      rw [hF1 c h1 h2 hne, aF c h1 h2 v]
      constructor
      · rintro ⟨hv, k, j', hk, hj', e, hU, hg⟩
        have : ¬ k = n := fun q => hne j' hj' (by rw [e, q])
        exact ⟨hv, k, j', hk, hj', e, by rw [hRk k hk this]; exact hU, by rw [g 0 k (by omega)]; exact hg⟩
      · rintro ⟨hv, k, j', hk, hj', e, hU, hg⟩
        have : ¬ k = n := fun q => hne j' hj' (by rw [e, q])
        rw [hRk k hk this] at hU
        rw [g 0 k (by omega)] at hg
        exact ⟨hv, k, j', hk, hj', e, hU, hg⟩
  · rw [hN i hi, aN i hi]
    have h := cnt_upd (p := fun k => decide (U (wR k) = some (nI i)) && j_g U 1 k) (q := fun k => decide (U (wR k) = some (nI i)) && j_g U 1 k) (n := n) 12 hn (fun _ _ => rfl)
    have cu : (List.range 12).countP (fun k => decide (U' (wR k) = some (nI i)) && j_g U' 1 k) + (if (decide (U (wR n) = some (nI i)) && j_g U 1 n) = true then 1 else 0) = (List.range 12).countP (fun k => decide (U (wR k) = some (nI i)) && j_g U 1 k) + (if (decide (U' (wR n) = some (nI i)) && j_g U' 1 n) = true then 1 else 0) := by
      have l : ∀ f : Nat → Bool, (List.range 12).countP f = (List.range 12).countP (fun k => if k < 12 then f k else false) := fun f => List.countP_congr fun k hk => by rw [if_pos (List.mem_range.mp hk)]
      rw [l (fun k => decide (U' (wR k) = some (nI i)) && j_g U' 1 k), l (fun k => decide (U (wR k) = some (nI i)) && j_g U 1 k)]
      have := cnt_upd (p := fun k => if k < 12 then decide (U (wR k) = some (nI i)) && j_g U 1 k else false) (q := fun k => if k < 12 then decide (U' (wR k) = some (nI i)) && j_g U' 1 k else false) (n := n) 12 hn (fun k hk => by
        by_cases h12 : k < 12
        · rw [if_pos h12, if_pos h12, hRk k h12 hk, g 1 k (by omega)]
        · rw [if_neg h12, if_neg h12])
      simp only [if_pos hn] at this
      exact this
    have e1 : ((decide (U (wR n) = some (nI i)) && j_g U 1 n) = true) ↔ (j_g U 1 n = true ∧ ro = some i) := by
      rw [Bool.and_eq_true, decide_eq_true_eq, hro]
      constructor
      · rintro ⟨a, b⟩
        refine ⟨b, ?_⟩
        cases hq : ro with
        | none => rw [hq] at a; cases a
        | some o => rw [hq] at a; rw [(som_nI (by have := hr9 o hq; omega) (by omega)).mp a]
      · rintro ⟨a, b⟩
        exact ⟨by rw [b]; rfl, a⟩
    have e2 : ((decide (U' (wR n) = some (nI i)) && j_g U' 1 n) = true) ↔ (j_g U 1 n = true ∧ saves = true ∧ i = j) := by
      rw [Bool.and_eq_true, decide_eq_true_eq, hRn, g 1 n (by omega)]
      constructor
      · rintro ⟨a, b⟩
        cases saves with
        | true => rw [if_pos rfl] at a; exact ⟨b, rfl, ((som_nI (by omega) (by omega)).mp a).symm⟩
        | false => cases a
      · rintro ⟨a, b, c⟩
        exact ⟨by rw [if_pos b, c], a⟩
    have cu1 : j_c U' i + (if j_g U 1 n = true ∧ ro = some i then 1 else 0) = j_c U i + (if j_g U 1 n = true ∧ saves = true ∧ i = j then 1 else 0) := by
      have a1 : (if (decide (U (wR n) = some (nI i)) && j_g U 1 n) = true then 1 else 0 : Nat) = if j_g U 1 n = true ∧ ro = some i then 1 else 0 := by
        by_cases z : j_g U 1 n = true ∧ ro = some i
        · rw [if_pos z, if_pos (e1.mpr z)]
        · rw [if_neg z, if_neg (fun q => z (e1.mp q))]
      have a2 : (if (decide (U' (wR n) = some (nI i)) && j_g U' 1 n) = true then 1 else 0 : Nat) = if j_g U 1 n = true ∧ saves = true ∧ i = j then 1 else 0 := by
        by_cases z : j_g U 1 n = true ∧ saves = true ∧ i = j
        · rw [if_pos z, if_pos (e2.mpr z)]
        · rw [if_neg z, if_neg (fun q => z (e2.mp q))]
      rw [a1, a2] at cu
      exact cu
    by_cases c1 : j_g U 1 n = true ∧ ro = some i
    · rw [if_pos c1] at cu1 ⊢
      by_cases c2 : j_g U 1 n = true ∧ saves = true ∧ i = j
      · rw [if_pos c2] at cu1 ⊢
        have : j_c U i = j_c U' i := by omega
        rw [this, Int32.add_assoc, show (-1 : Int32) + 1 = 0 from by decide, Int32.add_zero]
      · rw [if_neg c2] at cu1 ⊢
        rw [Int32.add_zero, nI_m1 (by omega)]
        congr 1
        omega
    · rw [if_neg c1] at cu1 ⊢
      rw [Int32.add_zero]
      by_cases c2 : j_g U 1 n = true ∧ saves = true ∧ i = j
      · rw [if_pos c2] at cu1 ⊢
        rw [show (1 : Int32) = nI 1 from rfl, nI_add]
        congr 1
        omega
      · rw [if_neg c2] at cu1 ⊢
        rw [Int32.add_zero]
        congr 1
        omega
theorem jW_save {m : Nat} {U U' : j_U} {n j : Nat} (hn : n < 12) (hm : 0 < m) (hm9 : m < 9000) (saves : Bool) (W : j_W m U) (hS : ∀ x, x < 3 → U' (wS x) = U (wS x))
    (hR : ∀ k, k < 12 → U' (wR k) = if k = n then (if saves = true then some (nI j) else none) else U (wR k))
    (hW1 : ∀ c, 120516000000 ≤ c → c < 120637000000 → (∀ u, u < 9000 → ¬ c = wW u n) → U' c = U c)
    (hW2 : ∀ u, u < 9000 → U' (wW u n) = if j_g U 2 n = true ∧ saves = true ∧ u = m then some (nI j) else if j_g U 2 n = true ∧ (U (wR n)).isSome = true then none else U (wW u n)) : j_W m U' := by
  obtain ⟨w1, w2, w3⟩ := W
  have g : ∀ k, j_g U' 2 k = j_g U 2 k := fun k => by unfold j_g; rw [hS 2 (by omega)]
  have hl : ∀ u k, u < 9000 → k < 12 → 120516000000 ≤ wW u k ∧ wW u k < 120637000000 := fun u k _ _ => by unfold wW; omega
  -- what is there of n is the new one
  have hnew : ∀ u v, u < 9000 → U' (wW u n) = some v → j_g U 2 n = true ∧ saves = true ∧ u = m ∧ v = nI j := by
    intro u v hu h
    rw [hW2 u hu] at h
    by_cases c1 : j_g U 2 n = true ∧ saves = true ∧ u = m
    · rw [if_pos c1] at h
      exact ⟨c1.1, c1.2.1, c1.2.2, (Option.some.inj h).symm⟩
    · rw [if_neg c1] at h
      by_cases c2 : j_g U 2 n = true ∧ (U (wR n)).isSome = true
      · rw [if_pos c2] at h; cases h
      · rw [if_neg c2] at h
        obtain ⟨u', k, h1, h2, h3, e, h4, h5⟩ := w1 _ v (hl u n hu hn).1 (hl u n hu hn).2 h
        unfold wW at e
        have : k = n := by omega
        subst this
        exact absurd ⟨h5, by rw [h4]; rfl⟩ c2
  have hoth : ∀ u k, u < 9000 → k < 12 → ¬ k = n → U' (wW u k) = U (wW u k) := fun u k hu hk e => hW1 _ (hl u k hu hk).1 (hl u k hu hk).2 (fun u' hu' q => by unfold wW at q; omega)
  refine ⟨fun c v h1 h2 hc => ?_, fun k v hk hv hg => ?_, fun k u u' hk hu hu' a b => ?_⟩
  · by_cases e : ∃ u, u < 9000 ∧ c = wW u n
    · obtain ⟨u, hu, rfl⟩ := e
      obtain ⟨a1, a2, a3, a4⟩ := hnew u v hu hc
      exact ⟨u, n, by omega, by omega, hn, rfl, by rw [hR n hn, if_pos rfl, if_pos a2, a4], by rw [g]; exact a1⟩
    · have hne : ∀ u, u < 9000 → ¬ c = wW u n := fun u hu q => e ⟨u, hu, q⟩
      rw [hW1 c h1 h2 hne] at hc
      obtain ⟨u, k, b1, b2, b3, b4, b5, b6⟩ := w1 c v h1 h2 hc
      have : ¬ k = n := fun q => hne u (by omega) (by rw [b4, q])
      exact ⟨u, k, b1, b2, b3, b4, by rw [hR k b3, if_neg this]; exact b5, by rw [g]; exact b6⟩
  · rw [g] at hg
    by_cases e : k = n
    · subst e
      rw [hR k hk, if_pos rfl] at hv
      cases saves with
      | true => exact ⟨m, hm9, by rw [hW2 m hm9, if_pos ⟨hg, rfl, rfl⟩]; rfl⟩
      | false => cases hv
    · rw [hR k hk, if_neg e] at hv
      obtain ⟨u, hu, a⟩ := w2 k v hk hv hg
      exact ⟨u, hu, by rw [hoth u k hu hk e]; exact a⟩
  · by_cases e : k = n
    · subst e
      obtain ⟨v, hv⟩ := Option.isSome_iff_exists.mp a
      obtain ⟨v', hv'⟩ := Option.isSome_iff_exists.mp b
      have p := (hnew u v hu hv).2.2.1
      have q := (hnew u' v' hu' hv').2.2.1
      omega
    · rw [hoth u k hu hk e] at a
      rw [hoth u' k hu' hk e] at b
      exact w3 k u u' hk hu hu' a b
