section
/-! MOVES OF THE CLASS'S HEAP: what stays, and what they cost -/
def k_fr (K : List Nat) (A : Nat → Prop) (h h' : k_H) : Prop := ∀ (q : Nat) (c : k_C), h.1 q = some c → ¬ A q → (∀ ci fs, c = k_o ci fs → ci ∉ K) → h'.1 q = some c
def kg1 (cap : Nat) : Nat := if cap < 200 then cap else 200 + (cap - 200) / 100
def kg2 (cap : Nat) : Nat := 5 * cap
def kcp : Option k_C → Nat
  | some (.inr (.inr (.inr (.inr (.inl (_, cap)))))) => cap
  | _ => 0
theorem kcp_l (xs : List Nat) (cap : Nat) : kcp (some (k_l xs cap)) = cap := rfl
theorem kcp_o (ci : Nat) (fs : List k_V) : kcp (some (k_o ci fs)) = 0 := rfl
def kT (g : Nat → Nat) (a : Nat) (h : k_H) : Nat := ((List.range 31).map (fun i => g (kcp (h.1 (a + i))))).sum
def k_bd : Nat → Nat := fun i => match i with
  | 2 => 20000
  | 3 => 13000
  | 4 => 20000
  | 7 => 6500
  | 11 => 15
  | 12 => 20000
  | 13 => 30
  | 14 => 40
  | 17 => 20000
  | 18 => 3200
  | 21 => 20000
  | 22 => 3200
  | 24 => 20000
  | 25 => 3200
  | 27 => 20000
  | 28 => 3200
  | _ => 0
def k_mo (a : Nat) (K : List Nat) (A : Nat → Prop) (o : Nat) (h h' : k_H) : Prop :=
  k_fr K A h h' ∧ (k_wf h → k_wf h') ∧ h.2.1 ≤ h'.2.1 ∧ h'.2.1 + kT kg1 a h ≤ h.2.1 + kT kg1 a h' + o ∧ h'.2.2 + kT kg2 a h ≤ h.2.2 + kT kg2 a h' + 6 * o ∧ ∀ i, i < 31 → kcp (h.1 (a + i)) ≤ k_bd i → kcp (h'.1 (a + i)) ≤ k_bd i
theorem mv_refl (a : Nat) (K : List Nat) (A : Nat → Prop) (h : k_H) : k_mo a K A 0 h h := ⟨fun _ _ h _ _ => h, fun w => w, Nat.le_refl _, by omega, by omega, fun _ _ h => h⟩
theorem mv_trans {a : Nat} {K : List Nat} {A : Nat → Prop} {o p : Nat} {h h1 h2 : k_H} (x : k_mo a K A o h h1) (y : k_mo a K A p h1 h2) : k_mo a K A (o + p) h h2 := by
  obtain ⟨x1, x2, x3, x4, x5, x6⟩ := x
  obtain ⟨y1, y2, y3, y4, y5, y6⟩ := y
  exact ⟨fun q c hq hA hK => y1 q c (x1 q c hq hA hK) hA hK, fun w => y2 (x2 w), by omega, by omega, by omega, fun i hi hb => y6 i hi (x6 i hi hb)⟩
theorem mv_mono {a : Nat} {K K' : List Nat} {A A' : Nat → Prop} {o o' : Nat} {h h' : k_H} (x : k_mo a K A o h h') (hK : ∀ k ∈ K, k ∈ K') (hA : ∀ q, A q → A' q) (ho : o ≤ o') : k_mo a K' A' o' h h' := by
  obtain ⟨x1, x2, x3, x4, x5, x6⟩ := x
  exact ⟨fun q c hq h1 h2 => x1 q c hq (fun z => h1 (hA q z)) (fun ci fs e z => h2 ci fs e (hK _ z)), x2, x3, by omega, by omega, x6⟩
theorem kT_eq {g : Nat → Nat} {a : Nat} {h h' : k_H} (e : ∀ i, i < 31 → kcp (h'.1 (a + i)) = kcp (h.1 (a + i))) : kT g a h' = kT g a h := by
  unfold kT
  congr 1
  refine List.map_congr_left fun i hi => ?_
  rw [e i (List.mem_range.mp hi)]
theorem sum_one {f f' : Nat → Nat} {j : Nat} : ∀ {n : Nat}, j < n → (∀ i, i < n → i ≠ j → f' i = f i) → ((List.range n).map f').sum + f j = ((List.range n).map f).sum + f' j := by
  intro n
  induction n with
  | zero => intro h; omega
  | succ n ih =>
    intro hj he
    rw [List.range_succ, List.map_append, List.map_append, List.sum_append, List.sum_append]
    simp only [List.map_cons, List.map_nil, List.sum_cons, List.sum_nil]
    by_cases e : j = n
    · subst e
      have : (List.range j).map f' = (List.range j).map f := List.map_congr_left fun i hi => he i (by have := List.mem_range.mp hi; omega) (by have := List.mem_range.mp hi; omega)
      rw [this]
      omega
    · have := ih (by omega) (fun i hi hne => he i (by omega) hne)
      have h2 := he n (by omega) (by omega)
      omega
theorem kT_one {g : Nat → Nat} {a j : Nat} {h h' : k_H} (hj : j < 31) (e : ∀ i, i < 31 → i ≠ j → kcp (h'.1 (a + i)) = kcp (h.1 (a + i))) : kT g a h' + g (kcp (h.1 (a + j))) = kT g a h + g (kcp (h'.1 (a + j))) := by
  unfold kT
  exact sum_one (f := fun i => g (kcp (h.1 (a + i)))) (f' := fun i => g (kcp (h'.1 (a + i)))) hj (fun i hi hne => by rw [e i hi hne])
theorem kg1_nc (c : Nat) : kg1 c + 1 ≤ kg1 (k_nc c) := by
  unfold kg1 k_nc
  by_cases e : c = 0
  · subst e; decide
  · rw [if_neg e]
    split <;> split <;> omega
theorem kg2_nc (c : Nat) : kg2 c + k_nc c ≤ kg2 (k_nc c) := by
  unfold kg2 k_nc
  split <;> omega
theorem gw_g1 {m : Nat} : ∀ {k c c' n : Nat}, k_gw m k c c' n → k + kg1 c ≤ kg1 c' ∧ n + kg2 c ≤ kg2 c' ∧ c' ≤ max c (m + m / 2 + 10) := by
  intro k
  induction k with
  | zero =>
    rintro c c' n ⟨rfl, rfl⟩
    exact ⟨by omega, by omega, by omega⟩
  | succ k ih =>
    rintro c c' n ⟨h1, n1, h2, rfl⟩
    obtain ⟨i1, i2, i3⟩ := ih h2
    have a1 := kg1_nc c
    have a2 := kg2_nc c
    have a3 : k_nc c ≤ m + m / 2 + 10 := by
      unfold k_nc
      split <;> omega
    exact ⟨by omega, by omega, by omega⟩
theorem wf_up {h : k_H} {q : Nat} {c c0 : k_C} (w : k_wf h) (hq : h.1 q = some c0) : k_wf (k_up h q c) := by
  intro p d hp
  by_cases e : p = q
  · rw [e]; exact w q c0 hq
  · rw [k_up_ne _ _ e] at hp; exact w p d hp
theorem wf_nw {h : k_H} {n : Nat} {c : k_C} (w : k_wf h) : k_wf (k_nw h n c) := by
  intro p d hp
  show p < h.2.1 + 1
  by_cases e : p = h.2.1
  · omega
  · rw [k_nw_ne _ _ _ e] at hp
    have := w p d hp
    omega
theorem mv_o {a : Nat} {K : List Nat} {A : Nat → Prop} {h : k_H} {q ci : Nat} {fs fs' : List k_V} (ho : h.1 q = some (k_o ci fs)) (hq : ci ∈ K ∨ A q) : k_mo a K A 0 h (k_up h q (k_o ci fs')) := by
  have ek : ∀ p, kcp ((k_up h q (k_o ci fs')).1 p) = kcp (h.1 p) := by
    intro p
    by_cases e : p = q
    · rw [e, k_up_self, ho]; rfl
    · rw [k_up_ne _ _ e]
  have e1 : kT kg1 a (k_up h q (k_o ci fs')) = kT kg1 a h := kT_eq (fun i _ => ek _)
  have e2 : kT kg2 a (k_up h q (k_o ci fs')) = kT kg2 a h := kT_eq (fun i _ => ek _)
  refine ⟨fun p c hp hA hK => ?_, fun w => wf_up w ho, Nat.le_refl _, ?_, ?_, fun i hi hb => ?_⟩
  · have hne : p ≠ q := fun z => by
      rw [z, ho] at hp
      rcases hq with k | k
      · exact hK ci fs (Option.some.inj hp).symm k
      · exact hA (z ▸ k)
    rw [k_up_ne _ _ hne]
    exact hp
  · rw [e1]
    show h.2.1 + kT kg1 a h ≤ h.2.1 + kT kg1 a h + 0
    omega
  · rw [e2]
    show h.2.2 + kT kg2 a h ≤ h.2.2 + kT kg2 a h + 6 * 0
    omega
  · rw [ek]; exact hb
theorem mv_nw {a : Nat} {K : List Nat} {A : Nat → Prop} {h : k_H} {n : Nat} {c : k_C} (w : k_wf h) (ha : a + 31 ≤ h.2.1) (hn : n ≤ 6) : k_mo a K A 1 h (k_nw h n c) := by
  have ek : ∀ i, i < 31 → kcp ((k_nw h n c).1 (a + i)) = kcp (h.1 (a + i)) := fun i hi => by rw [k_nw_ne _ _ _ (by omega)]
  have e1 : kT kg1 a (k_nw h n c) = kT kg1 a h := kT_eq ek
  have e2 : kT kg2 a (k_nw h n c) = kT kg2 a h := kT_eq ek
  refine ⟨fun p d hp _ _ => nw_old w hp, fun w => wf_nw w, Nat.le_succ _, ?_, ?_, fun i hi hb => by rw [ek i hi]; exact hb⟩
  · rw [e1]
    show h.2.1 + 1 + _ ≤ _
    omega
  · rw [e2]
    show h.2.2 + n + _ ≤ _
    omega
theorem mv_l {a : Nat} {K : List Nat} {A : Nat → Prop} {h : k_H} {i m k n cap cap' : Nat} {xs ys : List Nat} (ho : h.1 (a + i) = some (k_l xs cap)) (hi : i < 31) (hA : A (a + i)) (g : k_gw m k cap cap' n) (hm : m + m / 2 + 10 ≤ k_bd i) : k_mo a K A 0 h (k_sk (k_up h (a + i) (k_l ys cap')) k n) := by
  obtain ⟨g1, g2, g3⟩ := gw_g1 g
  have es : (k_up h (a + i) (k_l ys cap')).1 (a + i) = some (k_l ys cap') := k_up_self _ _ _
  have ek : ∀ j, j < 31 → j ≠ i → kcp ((k_up h (a + i) (k_l ys cap')).1 (a + j)) = kcp (h.1 (a + j)) := fun j hj hne => by rw [k_up_ne _ _ (by omega)]
  have t1 := kT_one (g := kg1) (a := a) hi ek
  have t2 := kT_one (g := kg2) (a := a) hi ek
  rw [es, ho, kcp_l, kcp_l] at t1 t2
  have f1 : kT kg1 a (k_sk (k_up h (a + i) (k_l ys cap')) k n) = kT kg1 a (k_up h (a + i) (k_l ys cap')) := rfl
  have f2 : kT kg2 a (k_sk (k_up h (a + i) (k_l ys cap')) k n) = kT kg2 a (k_up h (a + i) (k_l ys cap')) := rfl
  refine ⟨fun p c hp hA' _ => ?_, fun w => k_wf_sk (wf_up w ho), ?_, ?_, ?_, fun j hj hb => ?_⟩
  · show (k_up h (a + i) (k_l ys cap')).1 p = _
    rw [k_up_ne _ _ (show p ≠ a + i from fun z => hA' (z ▸ hA))]
    exact hp
  · show h.2.1 ≤ h.2.1 + k
    omega
  · rw [f1]
    show h.2.1 + k + _ ≤ _
    omega
  · rw [f2]
    show h.2.2 + n + _ ≤ _
    omega
  · show kcp ((k_up h (a + i) (k_l ys cap')).1 (a + j)) ≤ _
    by_cases e : j = i
    · subst e
      rw [es, kcp_l]
      rw [ho, kcp_l] at hb
      omega
    · rw [ek j hj e]
      exact hb
theorem k_sk0 (h : k_H) : k_sk h 0 0 = h := rfl
theorem mv_lu {a : Nat} {K : List Nat} {A : Nat → Prop} {h : k_H} {i cap : Nat} {xs ys : List Nat} (ho : h.1 (a + i) = some (k_l xs cap)) (hi : i < 31) (hA : A (a + i)) : k_mo a K A 0 h (k_up h (a + i) (k_l ys cap)) := by
  have ek : ∀ p, kcp ((k_up h (a + i) (k_l ys cap)).1 p) = kcp (h.1 p) := by
    intro p
    by_cases e : p = a + i
    · rw [e, k_up_self, ho]; rfl
    · rw [k_up_ne _ _ e]
  have e1 : kT kg1 a (k_up h (a + i) (k_l ys cap)) = kT kg1 a h := kT_eq (fun i _ => ek _)
  have e2 : kT kg2 a (k_up h (a + i) (k_l ys cap)) = kT kg2 a h := kT_eq (fun i _ => ek _)
  refine ⟨fun p c hp hA' _ => ?_, fun w => wf_up w ho, Nat.le_refl _, ?_, ?_, fun j hj hb => ?_⟩
  · rw [k_up_ne _ _ (show p ≠ a + i from fun z => hA' (z ▸ hA))]
    exact hp
  · rw [e1]
    show h.2.1 + kT kg1 a h ≤ h.2.1 + kT kg1 a h + 0
    omega
  · rw [e2]
    show h.2.2 + kT kg2 a h ≤ h.2.2 + kT kg2 a h + 6 * 0
    omega
  · rw [ek]; exact hb
theorem gr_gw (h : k_H) (q : Nat) (ys : List Nat) (n cap : Nat) : ∃ cap' k' n', k_gr h q ys n cap = k_sk (k_up h q (k_l ys cap')) k' n' ∧ k_gw n k' cap cap' n' := by
  unfold k_gr
  by_cases e : n < cap
  · rw [if_pos e]
    exact ⟨cap, 0, 0, rfl, rfl, rfl⟩
  · rw [if_neg e]
    exact ⟨k_nc cap, 1, k_nc cap, rfl, by omega, 0, ⟨rfl, rfl⟩, rfl⟩
theorem mv_gr {a : Nat} {K : List Nat} {A : Nat → Prop} {h : k_H} {i n cap : Nat} {xs ys : List Nat} (ho : h.1 (a + i) = some (k_l xs cap)) (hi : i < 31) (hA : A (a + i)) (hm : n + n / 2 + 10 ≤ k_bd i) : k_mo a K A 0 h (k_gr h (a + i) ys n cap) := by
  obtain ⟨cap', k', n', e, g⟩ := gr_gw h (a + i) ys n cap
  rw [e]
  exact mv_l ho hi hA g hm
theorem mv_sk {a : Nat} {K : List Nat} {A : Nat → Prop} {h : k_H} : k_mo a K A 1 h (k_sk h 1 6) := by
  refine ⟨fun _ _ h _ _ => h, k_wf_sk, Nat.le_succ _, ?_, ?_, fun _ _ h => h⟩
  · show h.2.1 + 1 + kT kg1 a h ≤ h.2.1 + kT kg1 a h + 1
    omega
  · show h.2.2 + 6 + kT kg2 a h ≤ h.2.2 + kT kg2 a h + 6 * 1
    omega
theorem gr_at (h : k_H) (q : Nat) (ys : List Nat) (n cap : Nat) : ∃ cap', (k_gr h q ys n cap).1 q = some (k_l ys cap') := by
  obtain ⟨cap', k', n', e, g⟩ := gr_gw h q ys n cap
  rw [e]
  exact ⟨cap', k_up_self _ _ _⟩
theorem gr_ne (h : k_H) {q p : Nat} (ys : List Nat) (n cap : Nat) (hne : p ≠ q) : (k_gr h q ys n cap).1 p = h.1 p := by
  obtain ⟨cap', k', n', e, g⟩ := gr_gw h q ys n cap
  rw [e]
  exact k_up_ne _ _ hne
end
section
/-! THE CLASS'S STORE, AS ONE PREDICATE -/
def c_st (a : Nat) (h : k_H) (KS : List k_K2) (L : List k_E4) (WS : List k_SP) (n : Nat) (z : Option Int32 × Bool) : Prop := ∃ (cK cW cH : Nat) (xs : List Nat) (ka : Nat → Nat),
  (h.1 (a + 1) = some (k_o 11 [vR (some (a + 2)), vR (some (a + 3)), vR (some (a + 4)), vR (some (a + 5)), vI (nI L.length), vR (L.head?.map (fun y => y.1)), vI (nI n)]) ∧ h.1 (a + 2) = some (k_l (KS.map (fun x => x.2)) cK) ∧ h.1 (a + 3) = some (k_l (WS.map (fun x => x.1)) cW) ∧ h.1 (a + 4) = some (k_l xs cH) ∧ h.1 (a + 5) = some (o_cel z.1 z.2)) ∧
  (r_ks h KS L ∧ r_in KS L ∧ r_log h ka L ∧ ∀ x ∈ KS, ka x.1 = x.2) ∧
  ((∀ x ∈ L, x.2.2.1 ≤ n) ∧ L.Pairwise (fun x y => y.2.2.1 ≤ x.2.2.1) ∧ L.Pairwise (fun x y => x.1 ≠ y.1)) ∧
  (∀ x ∈ WS, h.1 x.1 = some (o_spn x) ∧ x.2.1 < x.2.2.1 ∧ x.2.2.1 ≤ 1331000000000 ∧ x.2.2.2 ≤ n) ∧ (n ≤ 9000 ∧ a + 31 ≤ h.2.1 ∧ k_wf h)
def r_has (d v : Nat) (L : List k_E4) : Prop := ∃ x ∈ L, x.2.1 = d ∧ x.2.2.1 = v
/-- what a write makes of the log -/
def w_lg (c n : Nat) (o : Option Int32) (L L' : List k_E4) : Prop := (∀ d m, r_val d m L' = if d = c ∧ n ≤ m then o else r_val d m L) ∧ (∀ d v, r_has d v L' ↔ (r_has d v L ∨ (d = c ∧ v = n))) ∧ L.length ≤ L'.length ∧ L'.length ≤ L.length + 1
def c_ins (c k : Nat) (KS : List k_K2) : List k_K2 := if (r_at c KS).isSome = true then KS else KS.insertIdx (r_pl c KS) (c, k)
theorem c_ins_le (c k : Nat) (KS : List k_K2) : KS.length ≤ (c_ins c k KS).length ∧ (c_ins c k KS).length ≤ KS.length + 1 := by
  unfold c_ins
  split
  · omega
  · rw [List.length_insertIdx]; split <;> omega
theorem ins_srt {c k : Nat} {KM : List k_K2} (s : KM.Pairwise (fun x y => x.1 < y.1)) (hn : r_at c KM = none) : (KM.insertIdx (r_pl c KM) (c, k)).Pairwise (fun x y => x.1 < y.1) := by
  have hle := r_pl_le c KM
  rw [List.pairwise_iff_getElem]
  intro i j hi hj hij
  have ei := List.getElem?_eq_getElem hi
  have ej := List.getElem?_eq_getElem hj
  generalize (KM.insertIdx (r_pl c KM) (c, k))[i] = x at ei
  generalize (KM.insertIdx (r_pl c KM) (c, k))[j] = y at ej
  rw [List.getElem?_insertIdx] at ei ej
  by_cases i1 : i < r_pl c KM
  · rw [if_pos i1] at ei
    have hx := r_pl_lt i1 ei
    by_cases j1 : j < r_pl c KM
    · rw [if_pos j1] at ej
      exact r_srt s hij ei ej
    · rw [if_neg j1] at ej
      by_cases j2 : j = r_pl c KM
      · rw [if_pos j2, if_pos (by omega)] at ej
        cases ej
        exact hx
      · rw [if_neg j2] at ej
        exact r_srt s (by omega) ei ej
  · rw [if_neg i1] at ei
    rw [if_neg (by omega), if_neg (by omega)] at ej
    by_cases i2 : i = r_pl c KM
    · rw [if_pos i2, if_pos (by omega)] at ei
      cases ei
      have h1 := r_pl_ge (c := c) s (by omega) ej
      by_cases e : y.1 = c
      · exfalso
        have hy := List.mem_of_getElem? ej
        have h2 := r_at_mem (c := c) (a := y.2) s (by rw [← e]; exact hy)
        rw [h2] at hn
        cases hn
      · show c < y.1
        omega
    · rw [if_neg i2] at ei
      exact r_srt s (by omega) ei ej
theorem c_ins_mem {c k : Nat} {KS : List k_K2} {x : k_K2} (hx : x ∈ KS) : x ∈ c_ins c k KS := by
  unfold c_ins
  split
  · exact hx
  · rw [List.mem_insertIdx (r_pl_le c KS)]; exact Or.inr hx
theorem map_ins {c k : Nat} (i : Nat) (l : List k_K2) : (l.map (fun x => x.2)).insertIdx i k = (l.insertIdx i (c, k)).map (fun x => x.2) := by
  induction l generalizing i with
  | nil => cases i <;> rfl
  | cons x t ih =>
    cases i with
    | zero => rfl
    | succ i =>
      show x.2 :: (t.map (fun x => x.2)).insertIdx i k = x.2 :: (t.insertIdx i (c, k)).map (fun x => x.2)
      rw [ih]
theorem r_log_ka {h : k_H} {ka kb : Nat → Nat} : ∀ {L : List k_E4}, (∀ x ∈ L, kb x.2.1 = ka x.2.1) → r_log h ka L → r_log h kb L := by
  intro L
  induction L with
  | nil => exact fun _ _ => trivial
  | cons x t ih =>
    intro e r
    refine ⟨?_, ih (fun y hy => e y (List.mem_cons_of_mem _ hy)) r.2⟩
    rw [e x (List.mem_cons_self ..)]
    exact r.1
theorem kp_mo {a : Nat} {A : Nat → Prop} {o : Nat} {h h' : k_H} (m : k_mo a [] A o h h') (hA : ∀ q, A q → ∀ ci fs, h.1 q ≠ some (k_o ci fs)) : k_kp h h' := fun q ci fs hq => m.1 q _ hq (fun z => hA q z _ _ hq) (fun _ _ _ => List.not_mem_nil)
theorem addr_eq {L : List k_E4} (s : L.Pairwise (fun x y => x.1 ≠ y.1)) {x y : k_E4} (hx : x ∈ L) (hy : y ∈ L) (e : x.1 = y.1) : x = y := by
  induction L with
  | nil => cases hx
  | cons z t ih =>
    rw [List.pairwise_cons] at s
    rcases List.mem_cons.mp hx with e1 | h1
    · rcases List.mem_cons.mp hy with e2 | h2
      · rw [e1, e2]
      · exact absurd e (by rw [e1]; exact s.1 _ h2)
    · rcases List.mem_cons.mp hy with e2 | h2
      · exact absurd e.symm (by rw [e2]; exact s.1 _ h1)
      · exact ih s.2 h1 h2
theorem r_set_find {p : k_E4 → Bool} (a : Nat) (o : Option Int32) (hp : ∀ y, p (r_st1 a o y) = p y) : ∀ L : List k_E4, (r_set a o L).find? p = (L.find? p).map (r_st1 a o) := by
  intro L
  induction L with
  | nil => rfl
  | cons x t ih =>
    show ((r_st1 a o x) :: r_set a o t).find? p = _
    rw [List.find?_cons, List.find?_cons, hp, ih]
    cases p x <;> rfl
theorem w_lg_new {L : List k_E4} {q c n : Nat} {o : Option Int32} : w_lg c n o L ((q, c, n, o) :: L) := by
  refine ⟨fun d m => ?_, fun d v => ?_, Nat.le_succ _, Nat.le_refl _⟩
  · rw [r_val_cons]
    show (if c = d ∧ n ≤ m then o else _) = _
    by_cases e : c = d ∧ n ≤ m
    · rw [if_pos e, if_pos ⟨e.1.symm, e.2⟩]
    · rw [if_neg e, if_neg (fun z => e ⟨z.1.symm, z.2⟩)]
  · unfold r_has
    constructor
    · rintro ⟨x, hx, h1, h2⟩
      rcases List.mem_cons.mp hx with rfl | hx
      · exact Or.inr ⟨h1.symm, h2.symm⟩
      · exact Or.inl ⟨x, hx, h1, h2⟩
    · rintro (⟨x, hx, h1, h2⟩ | ⟨rfl, rfl⟩)
      · exact ⟨x, List.mem_cons_of_mem _ hx, h1, h2⟩
      · exact ⟨_, List.mem_cons_self .., rfl, rfl⟩
theorem w_lg_set {L : List k_E4} {c n : Nat} {o : Option Int32} {x : k_E4} (s : L.Pairwise (fun x y => x.1 ≠ y.1)) (hx : L.find? (fun x => x.2.1 == c) = some x) (hv : x.2.2.1 = n) : w_lg c n o L (r_set x.1 o L) := by
  have hxm := List.mem_of_find?_eq_some hx
  have hxc : x.2.1 = c := by have := List.find?_some hx; simpa using this
  have hg : ∀ d m, r_get d m (r_set x.1 o L) = (r_get d m L).map (r_st1 x.1 o) := fun d m => r_set_find x.1 o (fun y => by rw [r_st1_c, r_st1_v]) L
  refine ⟨fun d m => ?_, fun d v => ?_, ?_, ?_⟩
  · unfold r_val
    rw [hg]
    by_cases e : d = c ∧ n ≤ m
    · obtain ⟨rfl, hnm⟩ := e
      rw [if_pos ⟨rfl, hnm⟩]
      have : r_get d m L = some x := by
        unfold r_get
        clear s hg hxm
        induction L with
        | nil => cases hx
        | cons y t ih =>
          rw [List.find?_cons] at hx ⊢
          cases ey : (y.2.1 == d) with
          | true =>
            rw [ey] at hx
            cases hx
            rw [decide_eq_true (show x.2.2.1 ≤ m by omega)]
            rfl
          | false =>
            rw [ey] at hx
            exact ih hx
      rw [this]
      show (r_st1 x.1 o x).2.2.2 = o
      unfold r_st1
      rw [if_pos rfl]
    · rw [if_neg e]
      cases hy : r_get d m L with
      | none => rfl
      | some y =>
        show (r_st1 x.1 o y).2.2.2 = y.2.2.2
        unfold r_st1
        rw [if_neg]
        intro z
        have hym : y ∈ L := by unfold r_get at hy; exact List.mem_of_find?_eq_some hy
        have := addr_eq s hym hxm z
        subst this
        have h2 : (y.2.1 == d && decide (y.2.2.1 ≤ m)) = true := by unfold r_get at hy; exact List.find?_some (p := fun (x : k_E4) => x.2.1 == d && decide (x.2.2.1 ≤ m)) hy
        simp only [Bool.and_eq_true, beq_iff_eq, decide_eq_true_eq] at h2
        exact e ⟨h2.1.symm.trans hxc, by omega⟩
  · unfold r_has r_set
    constructor
    · rintro ⟨y, hy, h1, h2⟩
      obtain ⟨w, hw, rfl⟩ := List.mem_map.mp hy
      rw [r_st1_c] at h1
      rw [r_st1_v] at h2
      exact Or.inl ⟨w, hw, h1, h2⟩
    · rintro (⟨y, hy, h1, h2⟩ | ⟨rfl, rfl⟩)
      · exact ⟨_, List.mem_map.mpr ⟨y, hy, rfl⟩, by rw [r_st1_c]; exact h1, by rw [r_st1_v]; exact h2⟩
      · exact ⟨_, List.mem_map.mpr ⟨x, hxm, rfl⟩, by rw [r_st1_c]; exact hxc, by rw [r_st1_v]; exact hv⟩
  · unfold r_set; rw [List.length_map]; omega
  · unfold r_set; rw [List.length_map]; omega
theorem r_now_val {L : List k_E4} {c n : Nat} (h : ∀ x ∈ L, x.2.2.1 ≤ n) : r_now c L = r_val c n L := by
  unfold r_now r_val r_get
  congr 1
  induction L with
  | nil => rfl
  | cons x t ih =>
    rw [List.find?_cons, List.find?_cons, decide_eq_true (h x (List.mem_cons_self ..)), Bool.and_true, ih (fun y hy => h y (List.mem_cons_of_mem _ hy))]
section CST
variable {G : k_G} {l : Launch}
theorem c_S_keyFor (ok : k_ok G l) {a : Nat} {h : k_H} {KS : List k_K2} {L : List k_E4} {WS : List k_SP} {n c : Nat} {z : Option Int32 × Bool} (hs : c_st a h KS L WS n z) (hc : c < 1331000000000) (hb : KS.length ≤ 12600) :
    k_ctr (tX8_keyFor G l) [vR (some (a + 1)), vJ (lN c)] h (fun h' v => ∃ k, v = some k ∧ c_st a h' (c_ins c k KS) L WS n z ∧ (c, k) ∈ c_ins c k KS ∧ k_mo a [] (fun q => q = a + 2) ((c_ins c k KS).length - KS.length) h h') := by
  obtain ⟨cK, cW, cH, xs, ka, ⟨s1, s2, s3, s4, s5⟩, ⟨t1, t2, t3, t4⟩, tL, tW, tn, ta, tw⟩ := id hs
  cases e : r_at c KS with
  | some k =>
    have hm := r_at_some e
    obtain ⟨h', v, t, rfl, rfl⟩ := c_X8_keyForA ok s1 s2 t1 (by omega) hm
    have ei : c_ins c k KS = KS := by unfold c_ins; rw [e]; rfl
    refine ⟨_, _, t, k, rfl, ?_, ?_, ?_⟩
    · rw [ei]; exact hs
    · rw [ei]; exact hm
    · rw [ei, Nat.sub_self]; exact mv_refl _ _ _ _
  | none =>
    obtain ⟨h', v, t, rfl, rfl⟩ := c_X8_keyForN ok tw s1 s2 t1 (by omega) e (by omega)
    have ei : c_ins c h.2.1 KS = KS.insertIdx (r_pl c KS) (c, h.2.1) := by unfold c_ins; rw [e]; rfl
    have emap : (KS.map (fun x => x.2)).insertIdx (r_pl c KS) h.2.1 = (c_ins c h.2.1 KS).map (fun x => x.2) := by rw [ei]; exact map_ins _ _
    have elen : (c_ins c h.2.1 KS).length = KS.length + 1 := by rw [ei, List.length_insertIdx, if_pos (r_pl_le c KS)]
    rw [emap] at t
    have w1 : k_wf (k_nw h 2 (k_o 7 [vJ (lN c), vR none])) := wf_nw tw
    have m1 : k_mo a [] (fun q => q = a + 2) 1 h (k_nw h 2 (k_o 7 [vJ (lN c), vR none])) := mv_nw tw ta (by omega)
    have s2' : (k_nw h 2 (k_o 7 [vJ (lN c), vR none])).1 (a + 2) = some (k_l (KS.map (fun x => x.2)) cK) := nw_old tw s2
    have m2 : k_mo a [] (fun q => q = a + 2) 0 (k_nw h 2 (k_o 7 [vJ (lN c), vR none])) (k_gr (k_nw h 2 (k_o 7 [vJ (lN c), vR none])) (a + 2) ((c_ins c h.2.1 KS).map (fun x => x.2)) KS.length cK) := mv_gr s2' (by decide) rfl (by show KS.length + KS.length / 2 + 10 ≤ 20000; omega)
    have m := mv_trans m1 m2
    have knew : (k_gr (k_nw h 2 (k_o 7 [vJ (lN c), vR none])) (a + 2) ((c_ins c h.2.1 KS).map (fun x => x.2)) KS.length cK).1 h.2.1 = some (k_o 7 [vJ (lN c), vR none]) := by
      rw [gr_ne _ _ _ _ (by omega), k_nw_self]
    obtain ⟨cK', es2⟩ := gr_at (k_nw h 2 (k_o 7 [vJ (lN c), vR none])) (a + 2) ((c_ins c h.2.1 KS).map (fun x => x.2)) KS.length cK
    generalize k_gr (k_nw h 2 (k_o 7 [vJ (lN c), vR none])) (a + 2) ((c_ins c h.2.1 KS).map (fun x => x.2)) KS.length cK = h1 at t m knew es2
    have kp : k_kp h h1 := kp_mo m (fun q e ci fs z => by rw [e, s2] at z; cases z)
    have hne : ∀ q c, h.1 q = some c → q ≠ a + 2 → h1.1 q = some c := fun q c hq hne => m.1 q c hq hne (fun _ _ _ => List.not_mem_nil)
    have hcL : ∀ x ∈ L, ¬ x.2.1 = c := fun x hx z => by
      obtain ⟨k, hk⟩ := t2 x hx
      rw [z] at hk
      rw [r_at_mem t1.2.1 hk] at e
      cases e
    have hfc : r_fst c L = none := by
      unfold r_fst
      rw [List.find?_eq_none.mpr (fun x hx => by simpa using hcL x hx)]
      rfl
    have hmem : ∀ x, x ∈ c_ins c h.2.1 KS → x = (c, h.2.1) ∨ x ∈ KS := fun x hx => by
      rw [ei, List.mem_insertIdx (r_pl_le c KS)] at hx
      exact hx
    refine ⟨_, _, t, h.2.1, rfl, ⟨cK', cW, cH, xs, fun d => if d = c then h.2.1 else ka d, ⟨hne _ _ s1 (by omega), es2, hne _ _ s3 (by omega), hne _ _ s4 (by omega), hne _ _ s5 (by omega)⟩, ⟨⟨fun x hx => ?_, ?_, ?_⟩, fun x hx => ?_, ?_, fun x hx => ?_⟩, tL, fun x hx => ⟨kp _ _ _ (tW x hx).1, (tW x hx).2⟩, tn, Nat.le_trans ta m.2.2.1, m.2.1 tw⟩, ?_, ?_⟩
    · rcases hmem x hx with rfl | hx
      · refine ⟨hc, ?_⟩
        rw [knew]
        unfold o_key
        rw [hfc]
      · exact ⟨(t1.1 x hx).1, kp _ _ _ (t1.1 x hx).2⟩
    · rw [ei]; exact ins_srt t1.2.1 e
    · rw [elen]; omega
    · obtain ⟨k, hk⟩ := t2 x hx
      exact ⟨k, c_ins_mem hk⟩
    · exact r_log_ka (fun x hx => (if_neg (hcL x hx) : (if x.2.1 = c then h.2.1 else ka x.2.1) = ka x.2.1)) (r_log_keep kp t3)
    · show (if x.1 = c then h.2.1 else ka x.1) = x.2
      rcases hmem x hx with rfl | hx
      · rw [if_pos rfl]
      · rw [if_neg (fun z => by
          have h9 := r_at_mem t1.2.1 (show (c, x.2) ∈ KS by rw [← z]; exact hx)
          rw [e] at h9
          cases h9)]
        exact t4 x hx
    · rw [ei, List.mem_insertIdx (r_pl_le c KS)]
      exact Or.inl rfl
    · rw [elen, show KS.length + 1 - KS.length = 1 + 0 by omega]
      exact m
end CST
end
section
/-! THE CLASS'S STORE WRITES AND ALTERS -/
theorem k_up_cell {h : k_H} {q ci : Nat} {fs : List k_V} {p : Nat} {c : k_C} (ho : h.1 q = some (k_o ci fs)) (hp : h.1 p = some c) (hne : ∀ gs, c ≠ k_o ci gs) (d : k_C) : (k_up h q d).1 p = some c := by
  rw [k_up_ne _ _ (fun z => by subst z; rw [ho] at hp; exact hne fs (Option.some.inj hp).symm)]
  exact hp
theorem st_cell {a : Nat} {h : k_H} {KS : List k_K2} {L : List k_E4} {WS : List k_SP} {n : Nat} {z : Option Int32 × Bool} (hs : c_st a h KS L WS n z) : h.1 (a + 5) = some (o_cel z.1 z.2) := by
  obtain ⟨cK, cW, cH, xs, ka, ⟨s1, s2, s3, s4, s5⟩, -⟩ := hs
  exact s5
theorem st_obj {a : Nat} {h : k_H} {KS : List k_K2} {L : List k_E4} {WS : List k_SP} {n : Nat} {z : Option Int32 × Bool} (hs : c_st a h KS L WS n z) : h.1 (a + 1) = some (k_o 11 [vR (some (a + 2)), vR (some (a + 3)), vR (some (a + 4)), vR (some (a + 5)), vI (nI L.length), vR (L.head?.map (fun y => y.1)), vI (nI n)]) := by
  obtain ⟨cK, cW, cH, xs, ka, ⟨s1, s2, s3, s4, s5⟩, -⟩ := hs
  exact s1
/-- the store's cell changes -/
theorem st_setcell {a : Nat} {h : k_H} {KS : List k_K2} {L : List k_E4} {WS : List k_SP} {n : Nat} {z : Option Int32 × Bool} (hs : c_st a h KS L WS n z) (y : Option Int32 × Bool) : c_st a (k_up h (a + 5) (o_cel y.1 y.2)) KS L WS n y ∧ k_mo a [] (fun q => q = a + 5) 0 h (k_up h (a + 5) (o_cel y.1 y.2)) := by
  obtain ⟨cK, cW, cH, xs, ka, ⟨s1, s2, s3, s4, s5⟩, ⟨t1, t2, t3, t4⟩, tL, tW, tn, ta, tw⟩ := hs
  have m : k_mo a [] (fun q => q = a + 5) 0 h (k_up h (a + 5) (o_cel y.1 y.2)) := mv_o s5 (Or.inr rfl)
  have n1 : ∀ p c, h.1 p = some c → (∀ gs, c ≠ k_o 3 gs) → (k_up h (a + 5) (o_cel y.1 y.2)).1 p = some c := fun p c hp hne => k_up_cell s5 hp hne _
  refine ⟨⟨cK, cW, cH, xs, ka, ⟨n1 _ _ s1 (fun gs e => by cases e), n1 _ _ s2 (fun gs e => by cases e), n1 _ _ s3 (fun gs e => by cases e), n1 _ _ s4 (fun gs e => by cases e), k_up_self _ _ _⟩, ⟨⟨fun x hx => ⟨(t1.1 x hx).1, n1 _ _ (t1.1 x hx).2 (fun gs e => by cases e)⟩, t1.2⟩, t2, r_log_keep6 (fun q fs hq => n1 _ _ hq (fun gs e => by cases e)) t3, t4⟩, tL, fun x hx => ⟨n1 _ _ (tW x hx).1 (fun gs e => by cases e), (tW x hx).2⟩, tn, ta, wf_up tw s5⟩, m⟩
theorem st_setcell_h {a : Nat} {h h' : k_H} {KS : List k_K2} {L : List k_E4} {WS : List k_SP} {n : Nat} {z : Option Int32 × Bool} (hs : c_st a h KS L WS n z) (y : Option Int32 × Bool) (e : h' = k_up h (a + 5) (o_cel y.1 y.2)) : c_st a h' KS L WS n y ∧ k_mo a [] (fun q => q = a + 5) 0 h h' := by
  subst e
  exact st_setcell hs y
section CAL
variable {G : k_G} {l : Launch}
theorem c_S_write (ok : k_ok G l) {a : Nat} {h : k_H} {KS : List k_K2} {L : List k_E4} {WS : List k_SP} {n c k : Nat} {z : Option Int32 × Bool} (hs : c_st a h KS L WS n z) (hk : (c, k) ∈ KS) (hL : L.length < 1048576) :
    k_ctv (tX8_write G l) [vR (some (a + 1)), vR (some k), vR (some (a + 5))] h (fun h' => ∃ L', c_st a h' KS L' WS n z ∧ w_lg c n z.1 L L' ∧ k_mo a [6, 7, 11] (fun _ => False) (L'.length - L.length) h h') := by
  obtain ⟨cK, cW, cH, xs, ka, ⟨s1, s2, s3, s4, s5⟩, ⟨t1, t2, t3, t4⟩, ⟨l1, l2, l3⟩, tW, tn, ta, tw⟩ := id hs
  have hkc := (t1.1 _ hk).2
  have hka : ka c = k := t4 _ hk
  by_cases hcase : ∃ x, L.find? (fun x => x.2.1 == c) = some x ∧ x.2.2.1 = n
  · obtain ⟨x, hx, hv⟩ := hcase
    have hxm := List.mem_of_find?_eq_some hx
    have hxc : x.2.1 = c := by have := List.find?_some hx; simpa using this
    obtain ⟨h', t, b, e, he, rfl⟩ := c_X8_writeS ok s1 s5 hkc t3 hx hv
    have n1 : ∀ p d, h.1 p = some d → (∀ gs, d ≠ k_o 6 gs) → (k_up h x.1 (o_ent (ka x.2.1) x.2.2.1 b e z.1)).1 p = some d := fun p d hp hne => k_up_cell he hp hne _
    have elen : (r_set x.1 z.1 L).length = L.length := List.length_map _
    have ehd := r_set_head x.1 z.1 L
    refine ⟨_, t, r_set x.1 z.1 L, ⟨cK, cW, cH, xs, ka, ⟨?_, n1 _ _ s2 (fun gs e => by cases e), n1 _ _ s3 (fun gs e => by cases e), n1 _ _ s4 (fun gs e => by cases e), n1 _ _ s5 (fun gs e => by cases e)⟩, ⟨ks_set he t1, fun y hy => ?_, log_set he t3, t4⟩, ⟨fun y hy => ?_, ?_, ?_⟩, fun y hy => ⟨n1 _ _ (tW y hy).1 (fun gs e => by cases e), (tW y hy).2⟩, tn, ta, wf_up tw he⟩, w_lg_set l3 hx hv, ?_⟩
    · rw [elen, ehd]
      exact n1 _ _ s1 (fun gs e => by cases e)
    · obtain ⟨w, hw, rfl⟩ := List.mem_map.mp hy
      rw [r_st1_c]
      exact t2 w hw
    · obtain ⟨w, hw, rfl⟩ := List.mem_map.mp hy
      rw [r_st1_v]
      exact l1 w hw
    · unfold r_set
      rw [List.pairwise_map]
      exact l2.imp (fun h => by rw [r_st1_v, r_st1_v]; exact h)
    · unfold r_set
      rw [List.pairwise_map]
      exact l3.imp (fun h => by rw [r_st1_a, r_st1_a]; exact h)
    · rw [elen, Nat.sub_self]
      exact mv_o he (Or.inl (by simp))
  · have hx : ∀ x, L.find? (fun x => x.2.1 == c) = some x → x.2.2.1 ≠ n ∧ x.2.2.1 < 2 ^ 31 := fun x hx => ⟨fun e => hcase ⟨x, hx, e⟩, by have := l1 x (List.mem_of_find?_eq_some hx); omega⟩
    obtain ⟨h', t, e⟩ := c_X8_writeN ok tw s1 s5 hkc t3 hx (by omega) hL
    have eN : h' = h_new h (a + 1) k c n L.length (r_fst c L) (L.head?.map (fun y => y.1)) z.1 (vR (some (a + 2))) (vR (some (a + 3))) (vR (some (a + 4))) (vR (some (a + 5))) := e
    have hknew : k ≠ h.2.1 := fun e9 => by have := tw _ _ hkc; omega
    have hk1 : k ≠ a + 1 := fun e9 => by rw [e9, s1] at hkc; cases hkc
    have n1 : ∀ p d, h.1 p = some d → (∀ gs, d ≠ k_o 7 gs) → (∀ gs, d ≠ k_o 11 gs) → h'.1 p = some d := fun p d hp h7 h11 => by
      rw [eN, h_new_ne (fun e9 => by rw [e9, s1] at hp; exact h11 _ (Option.some.inj hp).symm) (fun e9 => by rw [e9, hkc] at hp; exact h7 _ (Option.some.inj hp).symm) (fun e9 => by have := tw _ _ hp; omega)]
      exact hp
    have hlog := log_new (s := a + 1) (n := n) (en := L.length) (o := z.1) (f0 := vR (some (a + 2))) (f1 := vR (some (a + 3))) (f2 := vR (some (a + 4))) (f3 := vR (some (a + 5))) tw s1 hkc hka t3
    have hks := ks_new (s := a + 1) (n := n) (en := L.length) (p := r_fst c L) (nw := L.head?.map (fun y => y.1)) (o := z.1) (f0 := vR (some (a + 2))) (f1 := vR (some (a + 3))) (f2 := vR (some (a + 4))) (f3 := vR (some (a + 5))) tw s1 hk t1
    rw [← eN] at hlog hks
    have hs1 : h'.1 (a + 1) = some (k_o 11 [vR (some (a + 2)), vR (some (a + 3)), vR (some (a + 4)), vR (some (a + 5)), vI (nI (L.length + 1)), vR (some h.2.1), vI (nI n)]) := by
      rw [e, k_up_ne _ _ (by omega), k_up_self]
    have mv : k_mo a [6, 7, 11] (fun _ => False) 1 h h' := by
      rw [e]
      have w1 : k_wf (k_nw h 6 (k_o 6 [vR (some k), vI (nI n), vR (r_fst c L), vR (L.head?.map (fun y => y.1)), vI 0, vI 0])) := wf_nw tw
      have m1 : k_mo a [6, 7, 11] (fun _ => False) 1 h (k_nw h 6 (k_o 6 [vR (some k), vI (nI n), vR (r_fst c L), vR (L.head?.map (fun y => y.1)), vI 0, vI 0])) := mv_nw tw ta (Nat.le_refl _)
      have hk9 : (k_nw h 6 (k_o 6 [vR (some k), vI (nI n), vR (r_fst c L), vR (L.head?.map (fun y => y.1)), vI 0, vI 0])).1 k = some (o_key c L) := nw_old tw hkc
      have m2 := mv_o (a := a) (K := [6, 7, 11]) (A := fun _ => False) (fs' := [vJ (lN c), vR (some h.2.1)]) hk9 (Or.inl (by simp))
      have hs9 : (k_up (k_nw h 6 (k_o 6 [vR (some k), vI (nI n), vR (r_fst c L), vR (L.head?.map (fun y => y.1)), vI 0, vI 0])) k (k_o 7 [vJ (lN c), vR (some h.2.1)])).1 (a + 1) = some (k_o 11 [vR (some (a + 2)), vR (some (a + 3)), vR (some (a + 4)), vR (some (a + 5)), vI (nI L.length), vR (L.head?.map (fun y => y.1)), vI (nI n)]) := by
        rw [k_up_ne _ _ (Ne.symm hk1)]
        exact nw_old tw s1
      have m3 := mv_o (a := a) (K := [6, 7, 11]) (A := fun _ => False) (fs' := [vR (some (a + 2)), vR (some (a + 3)), vR (some (a + 4)), vR (some (a + 5)), vI (nI (L.length + 1)), vR (some h.2.1), vI (nI n)]) hs9 (Or.inl (by simp))
      have he9 : (k_up (k_up (k_nw h 6 (k_o 6 [vR (some k), vI (nI n), vR (r_fst c L), vR (L.head?.map (fun y => y.1)), vI 0, vI 0])) k (k_o 7 [vJ (lN c), vR (some h.2.1)])) (a + 1) (k_o 11 [vR (some (a + 2)), vR (some (a + 3)), vR (some (a + 4)), vR (some (a + 5)), vI (nI (L.length + 1)), vR (some h.2.1), vI (nI n)])).1 h.2.1 = some (k_o 6 [vR (some k), vI (nI n), vR (r_fst c L), vR (L.head?.map (fun y => y.1)), vI 0, vI 0]) := by
        rw [k_up_ne _ _ (by omega), k_up_ne _ _ (Ne.symm hknew), k_nw_self]
      have m4 := mv_o (a := a) (K := [6, 7, 11]) (A := fun _ => False) (fs' := [vR (some k), vI (nI n), vR (r_fst c L), vR (L.head?.map (fun y => y.1)), vI (kB z.1.isSome), vI (z.1.getD 0)]) he9 (Or.inl (by simp))
      exact mv_mono (mv_trans (mv_trans (mv_trans m1 m2) m3) m4) (fun _ h => h) (fun _ h => h) (by omega)
    refine ⟨_, t, (h.2.1, c, n, z.1) :: L, ⟨cK, cW, cH, xs, ka, ⟨hs1, n1 _ _ s2 (fun gs e => by cases e) (fun gs e => by cases e), n1 _ _ s3 (fun gs e => by cases e) (fun gs e => by cases e), n1 _ _ s4 (fun gs e => by cases e) (fun gs e => by cases e), n1 _ _ s5 (fun gs e => by cases e) (fun gs e => by cases e)⟩, ⟨hks, fun y hy => ?_, hlog, t4⟩, ⟨fun y hy => ?_, List.pairwise_cons.mpr ⟨fun y hy => l1 y hy, l2⟩, List.pairwise_cons.mpr ⟨fun y hy e9 => ?_, l3⟩⟩, fun y hy => ⟨n1 _ _ (tW y hy).1 (fun gs e => by cases e) (fun gs e => by cases e), (tW y hy).2⟩, tn, Nat.le_trans ta mv.2.2.1, mv.2.1 tw⟩, w_lg_new, ?_⟩
    · rcases List.mem_cons.mp hy with rfl | hy
      · exact ⟨k, hk⟩
      · exact t2 y hy
    · rcases List.mem_cons.mp hy with rfl | hy
      · exact Nat.le_refl _
      · exact l1 y hy
    · obtain ⟨b, e8, he8⟩ := r_log_mem t3 hy
      have := tw _ _ he8
      have e7 : h.2.1 = y.1 := e9
      omega
    · rw [List.length_cons, Nat.add_sub_cancel_left]
      exact mv
theorem r_fst_ok {h : k_H} {ka : Nat → Nat} {L : List k_E4} (hL : r_log h ka L) (c : Nat) : (r_fst c L = none ∧ r_now c L = none) ∨ (∃ a k v b e, r_fst c L = some a ∧ h.1 a = some (o_ent k v b e (r_now c L))) := now_ok hL c
theorem c_S_alter (ok : k_ok G l) {a : Nat} {h : k_H} {KS : List k_K2} {L : List k_E4} {WS : List k_SP} {n c : Nat} {z : Option Int32 × Bool} {kd g : Int32} (hs : c_st a h KS L WS n z) (hc : c < 1331000000000) (hb : KS.length ≤ 12600) (hL : L.length < 1048576) :
    k_ctv (tX8_alter G l) [vR (some (a + 1)), vI kd, vJ (lN c), vI g] h (fun h' => ∃ k L' z', c_st a h' (c_ins c k KS) L' WS n z' ∧ w_lg c n (s_apO kd g (nI n) (r_val c n L)) L L' ∧ k_mo a [6, 7, 11] (fun q => q = a + 2 ∨ q = a + 5) ((c_ins c k KS).length + L'.length - (KS.length + L.length)) h h') := by
  refine k_ctv_of (eX8_alter ok.2 (bX8_alter_0 (k_is_o (st_obj hs)) (c_S_keyFor ok hs hc hb) ?_))
  rintro h1 _ ⟨k, rfl, hs1, hk, m1⟩
  obtain ⟨cK, cW, cH, xs, ka, ⟨s1, s2, s3, s4, s5⟩, ⟨t1, t2, t3, t4⟩, ⟨l1, l2, l3⟩, tW, tn, ta, tw⟩ := id hs1
  have hkc := (t1.1 _ hk).2
  refine bX8_alter_5 (fun e => by cases e) (fun x e => ?_)
  cases e
  refine bX8_alter_12 s1 rfl hkc rfl (k_is_o s5) (c_X0_load ok s5 (o := r_now c L) (r_fst_ok t3 c)) ?_
  rintro h2 e2
  obtain ⟨hs2, m2⟩ := st_setcell_h hs1 (r_now c L, false) e2
  refine bX8_alter_24 (st_obj hs2) rfl rfl (k_is_o (st_cell hs2)) (c_X0_apply ok (st_cell hs2)) ?_
  rintro h3 e3
  rw [o_cel_ap] at e3
  obtain ⟨hs3, m3⟩ := st_setcell_h hs2 (s_apO kd g (nI n) (r_now c L), s_apS kd false) e3
  refine bX8_alter_38 (st_obj hs3) rfl (c_S_write ok hs3 hk hL) ?_
  rintro h4 ⟨L', hs4, hw, m4⟩
  have en : r_now c L = r_val c n L := r_now_val l1
  rw [en] at hw
  have lk := c_ins_le c k KS
  have ll := hw.2.2
  refine bX8_alter_48 ⟨rfl, k, L', _, hs4, hw, ?_⟩
  have m12 := mv_trans (mv_mono m1 (K' := [6, 7, 11]) (A' := fun q => q = a + 2 ∨ q = a + 5) (fun _ h => by cases h) (fun q h => Or.inl h) (Nat.le_refl _)) (mv_mono m2 (fun _ h => by cases h) (fun q h => Or.inr h) (Nat.le_refl _))
  have m123 := mv_trans m12 (mv_mono m3 (fun _ h => by cases h) (fun q h => Or.inr h) (Nat.le_refl _))
  have m1234 := mv_trans m123 (mv_mono m4 (fun _ h => h) (fun q h => h.elim) (Nat.le_refl _))
  exact mv_mono m1234 (fun _ h => h) (fun _ h => h) (by omega)
end CAL
end
section
/-! THE CLASS'S STORE LISTS WHAT IS HELD, AND WIPES -/
def w_ls (X : List Nat) (n : Nat) (f : Nat → Option Int32) (L L' : List k_E4) : Prop := (∀ d m, r_val d m L' = if d ∈ X ∧ n ≤ m then f d else r_val d m L) ∧ (∀ d v, r_has d v L' ↔ (r_has d v L ∨ (d ∈ X ∧ v = n))) ∧ L.length ≤ L'.length ∧ L'.length ≤ L.length + X.length
theorem w_ls_nil (n : Nat) (f : Nat → Option Int32) (L : List k_E4) : w_ls [] n f L L := ⟨fun d m => by simp, fun d v => by simp, Nat.le_refl _, Nat.le_refl _⟩
theorem w_ls_snoc {X : List Nat} {n c : Nat} {f : Nat → Option Int32} {L L1 L2 : List k_E4} (h1 : w_ls X n f L L1) (h2 : w_lg c n (f c) L1 L2) : w_ls (X ++ [c]) n f L L2 := by
  refine ⟨fun d m => ?_, fun d v => ?_, Nat.le_trans h1.2.2.1 h2.2.2.1, by have := h1.2.2.2; have := h2.2.2.2; rw [List.length_append, List.length_singleton]; omega⟩
  · rw [h2.1, h1.1]
    by_cases e : d = c ∧ n ≤ m
    · rw [if_pos e, if_pos ⟨by simp [e.1], e.2⟩, e.1]
    · rw [if_neg e]
      by_cases e2 : d ∈ X ∧ n ≤ m
      · rw [if_pos e2, if_pos ⟨by simp [e2.1], e2.2⟩]
      · rw [if_neg e2, if_neg]
        rintro ⟨h, hm⟩
        rcases List.mem_append.mp h with h | h
        · exact e2 ⟨h, hm⟩
        · exact e ⟨List.mem_singleton.mp h, hm⟩
  · rw [h2.2.1, h1.2.1]
    constructor
    · rintro ((h | ⟨h, hv⟩) | ⟨h, hv⟩)
      · exact Or.inl h
      · exact Or.inr ⟨by simp [h], hv⟩
      · exact Or.inr ⟨by simp [h], hv⟩
    · rintro (h | ⟨h, hv⟩)
      · exact Or.inl (Or.inl h)
      · rcases List.mem_append.mp h with h | h
        · exact Or.inl (Or.inr ⟨h, hv⟩)
        · exact Or.inr ⟨List.mem_singleton.mp h, hv⟩
/-- the held keys of a row of keys -/
def c_hl (lo hi n : Nat) (KS : List k_K2) (L : List k_E4) : List k_K2 := r_flt lo hi (fun c => (r_val c n L).isSome) KS
theorem held_flt {lo hi n : Nat} {KS : List k_K2} {L : List k_E4} (s : KS.Pairwise (fun x y => x.1 < y.1)) (hv : ∀ x ∈ L, x.2.2.1 ≤ n) : r_held lo hi KS L = (c_hl lo hi n KS L).map (fun x => x.2) := by
  unfold r_held r_hd c_hl
  rw [← rs_start s]
  unfold r_rem
  congr 1
  refine List.filter_congr fun x _ => ?_
  rw [r_now_val hv]
theorem st_sethl {a : Nat} {h : k_H} {KS : List k_K2} {L : List k_E4} {WS : List k_SP} {n : Nat} {z : Option Int32 × Bool} (hs : c_st a h KS L WS n z) (ys : List Nat) (cap' k m cH : Nat) (xs0 : List Nat) (s4 : h.1 (a + 4) = some (k_l xs0 cH)) (g : k_gw KS.length k cH cap' m) (hb : KS.length ≤ 12600) :
    c_st a (k_sk (k_up h (a + 4) (k_l ys cap')) k m) KS L WS n z ∧ k_mo a [] (fun q => q = a + 4) 0 h (k_sk (k_up h (a + 4) (k_l ys cap')) k m) := by
  obtain ⟨cK, cW, cH2, xs, ka, ⟨s1, s2, s3, -, s5⟩, ⟨t1, t2, t3, t4⟩, tL, tW, tn, ta, tw⟩ := hs
  have mv : k_mo a [] (fun q => q = a + 4) 0 h (k_sk (k_up h (a + 4) (k_l ys cap')) k m) := mv_l s4 (by decide) rfl g (by show KS.length + KS.length / 2 + 10 ≤ 20000; omega)
  have n1 : ∀ p c, h.1 p = some c → p ≠ a + 4 → (k_sk (k_up h (a + 4) (k_l ys cap')) k m).1 p = some c := fun p c hp hne => mv.1 p c hp hne (fun _ _ _ => List.not_mem_nil)
  have kp : k_kp h (k_sk (k_up h (a + 4) (k_l ys cap')) k m) := kp_mo mv (fun q e ci fs z => by rw [e, s4] at z; cases z)
  exact ⟨⟨cK, cW, cap', ys, ka, ⟨n1 _ _ s1 (by omega), n1 _ _ s2 (by omega), n1 _ _ s3 (by omega), k_up_self _ _ _, n1 _ _ s5 (by omega)⟩, ⟨r_ks_keep kp t1, t2, r_log_keep kp t3, t4⟩, tL, fun x hx => ⟨kp _ _ _ (tW x hx).1, (tW x hx).2⟩, tn, Nat.le_trans ta mv.2.2.1, mv.2.1 tw⟩, mv⟩
section CWP
variable {G : k_G} {l : Launch}
theorem c_S_listHeld (ok : k_ok G l) {a : Nat} {h : k_H} {KS : List k_K2} {L : List k_E4} {WS : List k_SP} {n lo hi : Nat} {z : Option Int32 × Bool} (hs : c_st a h KS L WS n z) (hlo : lo < 2 ^ 62) (hhi : hi < 2 ^ 62) (hb : KS.length ≤ 12600) :
    k_ctr (tX8_listHeld G l) [vR (some (a + 1)), vJ (lN lo), vJ (lN hi)] h (fun h' v => v = some (a + 4) ∧ c_st a h' KS L WS n z ∧ (∃ cap, h'.1 (a + 4) = some (k_l ((c_hl lo hi n KS L).map (fun x => x.2)) cap)) ∧ k_mo a [] (fun q => q = a + 4) 0 h h') := by
  obtain ⟨cK, cW, cH, xs, ka, ⟨s1, s2, s3, s4, s5⟩, ⟨t1, t2, t3, t4⟩, ⟨l1, l2, l3⟩, tW, tn, ta, tw⟩ := id hs
  obtain ⟨h', v, t, rfl, cap', k, m, rfl, g⟩ := c_X8_listHeld ok tw s1 s2 s4 (by omega) t1 t3 hlo hhi
  obtain ⟨q1, q2⟩ := st_sethl hs (r_held lo hi KS L) cap' k m cH xs s4 g hb
  refine ⟨_, _, t, rfl, q1, ⟨cap', ?_⟩, q2⟩
  rw [← held_flt t1.2.1 l1]
  exact k_up_self _ _ _
theorem c_S_wipe (ok : k_ok G l) {a : Nat} {h : k_H} {KS : List k_K2} {L : List k_E4} {WS : List k_SP} {n lo hi : Nat} {z : Option Int32 × Bool} (hs : c_st a h KS L WS n z) (hlo : lo < hi) (hhi : hi ≤ 1331000000000) (hb : KS.length ≤ 12600) (hL : L.length + KS.length < 1048576) (hW : WS.length ≤ 8192) :
    k_ctv (tX8_wipe G l) [vR (some (a + 1)), vJ (lN lo), vJ (lN hi)] h (fun h' => ∃ L' q z', c_st a h' KS L' (WS ++ [(q, lo, hi, n)]) n z' ∧ w_ls ((c_hl lo hi n KS L).map (fun x => x.1)) n (fun _ => none) L L' ∧ k_mo a [6, 7, 11] (fun q => q = a + 3 ∨ q = a + 4 ∨ q = a + 5) (L'.length + 1 - L.length) h h') := by
  refine k_ctv_of (eX8_wipe ok.2 (bX8_wipe_0 (k_is_o (st_obj hs)) (c_S_listHeld ok hs (by omega) (by omega) hb) ?_))
  rintro h1 _ ⟨rfl, hs1, ⟨cap, e4⟩, m1⟩
  have hXl : (c_hl lo hi n KS L).length ≤ KS.length := List.length_filter_le _ _
  have hXm : ∀ x ∈ c_hl lo hi n KS L, x ∈ KS := fun x hx => (r_flt_of hx).1
  generalize hX : c_hl lo hi n KS L = X at e4 hXl hXm
  have M1 : k_mo a [6, 7, 11] (fun q => q = a + 3 ∨ q = a + 4 ∨ q = a + 5) 0 h h1 := mv_mono m1 (fun _ h => by cases h) (fun q h => Or.inr (Or.inl h)) (Nat.le_refl _)
  -- the span is added
  have fin : ∀ (h2 : k_H) (L2 : List k_E4) (z2 : Option Int32 × Bool), c_st a h2 KS L2 WS n z2 → w_ls (X.map (fun x => x.1)) n (fun _ => none) L L2 → k_mo a [6, 7, 11] (fun q => q = a + 3 ∨ q = a + 4 ∨ q = a + 5) (L2.length - L.length) h h2 →
      k_X (jX8_wipe G l h) h2 53 [(0, vR (some (a + 1))), (1, vJ (lN lo)), (3, vJ (lN hi))] [] (q_v (fun h' => ∃ L' q z', c_st a h' KS L' (WS ++ [(q, lo, hi, n)]) n z' ∧ w_ls (X.map (fun x => x.1)) n (fun _ => none) L L' ∧ k_mo a [6, 7, 11] (fun q => q = a + 3 ∨ q = a + 4 ∨ q = a + 5) (L'.length + 1 - L.length) h h')) := by
    intro h2 L2 z2 hs2 hw2 M2
    obtain ⟨cK, cW, cH, xs, ka, ⟨s1, s2, s3, s4, s5⟩, ⟨t1, t2, t3, t4⟩, tL, tW, tn, ta, tw⟩ := id hs2
    refine bX8_wipe_53 s1 rfl (Or.inr ⟨rfl, _, _, s3⟩) (c_size ok s3) ?_
    rintro _ _ ⟨hh, rfl⟩
    rw [hh, List.length_map]
    refine bX8_wipe_60 (fun z => absurd z (nI_ge (b := 16384) (by omega) (by omega))) (fun _ => bX8_wipe_66 s1 rfl ?_)
    have w3 : k_wf (k_nw h2 3 (k_o 10 [vJ 0, vJ 0, vI 0])) := wf_nw tw
    have s1' : (k_nw h2 3 (k_o 10 [vJ 0, vJ 0, vI 0])).1 (a + 1) = some (k_o 11 [vR (some (a + 2)), vR (some (a + 3)), vR (some (a + 4)), vR (some (a + 5)), vI (nI L2.length), vR (L2.head?.map (fun y => y.1)), vI (nI n)]) := nw_old tw s1
    refine bX8_wipe_73 s1' rfl (c_X7_init ok (k_nw_self _ _ _)) ?_
    rintro h3 e3
    rw [up_nw] at e3
    have esp : h3.1 h2.2.1 = some (o_spn (h2.2.1, lo, hi, n)) := by rw [e3]; exact k_nw_self _ _ _
    have m3 : k_mo a [6, 7, 11] (fun q => q = a + 3 ∨ q = a + 4 ∨ q = a + 5) 1 h2 h3 := by rw [e3]; exact mv_nw tw ta (by omega)
    have old : ∀ p c, h2.1 p = some c → h3.1 p = some c := fun p c hp => by rw [e3]; exact nw_old tw hp
    have w3' : k_wf h3 := m3.2.1 tw
    have el : ∀ x ∈ WS.map (fun x => x.1), k_el h3 x := fun x hx => by
      obtain ⟨y, hy, rfl⟩ := List.mem_map.mp hx
      exact el_spn (old _ _ (tW y hy).1)
    refine bX8_wipe_83 (Or.inr ⟨rfl, _, _, old _ _ s3⟩) (c_add ok w3' (old _ _ s3) (by rw [List.length_map]; omega) el (el_spn esp)) ?_
    rintro h4 _ ⟨e4, rfl⟩
    rw [List.length_map] at e4
    have m4 : k_mo a [6, 7, 11] (fun q => q = a + 3 ∨ q = a + 4 ∨ q = a + 5) 0 h3 h4 := by rw [e4]; exact mv_gr (old _ _ s3) (by decide) (Or.inl rfl) (by show WS.length + WS.length / 2 + 10 ≤ 13000; omega)
    obtain ⟨cW', es3⟩ := gr_at h3 (a + 3) (WS.map (fun x => x.1) ++ [h2.2.1]) WS.length cW
    have ne3 : ∀ p c, h3.1 p = some c → p ≠ a + 3 → h4.1 p = some c := fun p c hp hne => by rw [e4, gr_ne _ _ _ _ hne]; exact hp
    rw [← e4] at es3
    have kp : k_kp h2 h4 := fun q ci fs hq => ne3 _ _ (old _ _ hq) (fun z => by rw [z, s3] at hq; cases hq)
    refine bX8_wipe_86 (bX8_wipe_87 ⟨rfl, L2, h2.2.1, z2, ⟨cK, cW', cH, xs, ka, ⟨ne3 _ _ (old _ _ s1) (by omega), ne3 _ _ (old _ _ s2) (by omega), by rw [es3, List.map_append]; rfl, ne3 _ _ (old _ _ s4) (by omega), ne3 _ _ (old _ _ s5) (by omega)⟩, ⟨r_ks_keep kp t1, t2, r_log_keep kp t3, t4⟩, tL, fun x hx => ?_, tn, by have := m3.2.2.1; have := m4.2.2.1; omega, m4.2.1 w3'⟩, hw2, ?_⟩)
    · rcases List.mem_append.mp hx with hx | hx
      · exact ⟨kp _ _ _ (tW x hx).1, (tW x hx).2⟩
      · rw [List.mem_singleton] at hx
        subst hx
        exact ⟨ne3 _ _ esp (by omega), hlo, hhi, Nat.le_refl _⟩
    · have := hw2.2.2.1
      exact mv_mono (mv_trans (mv_trans M2 m3) m4) (fun _ h => h) (fun _ h => h) (by omega)
  -- the loop
  have loop : ∀ (d i : Nat) (h2 : k_H) (L2 : List k_E4) (z2 : Option Int32 × Bool), X.length - i = d → i ≤ X.length → c_st a h2 KS L2 WS n z2 → w_ls ((X.take i).map (fun x => x.1)) n (fun _ => none) L L2 → k_mo a [6, 7, 11] (fun q => q = a + 3 ∨ q = a + 4 ∨ q = a + 5) (L2.length - L.length) h h2 → h2.1 (a + 4) = some (k_l (X.map (fun x => x.2)) cap) →
      k_X (jX8_wipe G l h) h2 11 [(0, vR (some (a + 1))), (1, vJ (lN lo)), (3, vJ (lN hi)), (5, vR (some (a + 4))), (6, vI (nI i))] [] (q_v (fun h' => ∃ L' q z', c_st a h' KS L' (WS ++ [(q, lo, hi, n)]) n z' ∧ w_ls (X.map (fun x => x.1)) n (fun _ => none) L L' ∧ k_mo a [6, 7, 11] (fun q => q = a + 3 ∨ q = a + 4 ∨ q = a + 5) (L'.length + 1 - L.length) h h')) := by
    intro d
    induction d with
    | zero =>
      intro i h2 L2 z2 hd hi hs2 hw2 M2 e4
      rw [List.take_of_length_le (by omega)] at hw2
      refine bX8_wipe_11 (Or.inr ⟨rfl, _, _, e4⟩) (c_size ok e4) ?_
      rintro _ _ ⟨hh, rfl⟩
      rw [hh, List.length_map]
      exact bX8_wipe_18 (fun _ => fin h2 L2 z2 hs2 hw2 M2) (fun z => absurd (nI_le (by omega) (by omega)) z)
    | succ d ih =>
      intro i h2 L2 z2 hd hi hs2 hw2 M2 e4
      have hlt : i < X.length := by omega
      obtain ⟨y, hy⟩ : ∃ y, X[i]? = some y := ⟨_, List.getElem?_eq_getElem hlt⟩
      have hyK := hXm y (List.mem_of_getElem? hy)
      have hle2 := hw2.2.2.2
      rw [List.length_map, List.length_take] at hle2
      refine bX8_wipe_11 (Or.inr ⟨rfl, _, _, e4⟩) (c_size ok e4) ?_
      rintro _ _ ⟨hh, rfl⟩
      rw [hh, List.length_map]
      refine bX8_wipe_18 (fun z => absurd z (nI_ge hlt (by omega))) (fun _ => bX8_wipe_21 (st_obj hs2) rfl (k_is_o (st_cell hs2)) (c_X0_load ok (st_cell hs2) (o := none) (Or.inl ⟨rfl, rfl⟩)) ?_)
      rintro h3 e3
      obtain ⟨hs3, m3⟩ := st_setcell_h hs2 (none, false) e3
      have e43 : h3.1 (a + 4) = some (k_l (X.map (fun x => x.2)) cap) := m3.1 _ _ e4 (by omega) (fun _ _ _ => List.not_mem_nil)
      refine bX8_wipe_29 (Or.inr ⟨rfl, _, _, e43⟩) (c_get ok e43 (by rw [List.getElem?_map, hy]; rfl)) ?_
      rintro _ _ ⟨hh, rfl⟩
      rw [hh]
      have hkc : h3.1 y.2 = some (o_key y.1 L2) := by
        obtain ⟨cK, cW, cH, xs, ka, -, ⟨t1, -⟩, -⟩ := id hs3
        exact (t1.1 y hyK).2
      refine bX8_wipe_37 hkc (st_obj hs3) rfl (k_is_o (st_obj hs3)) (c_S_write ok hs3 (c := y.1) (k := y.2) hyK (by omega)) ?_
      rintro h4 ⟨L4, hs4, hw4, m4⟩
      refine bX8_wipe_47 ?_
      rw [nI_1]
      have e44 : h4.1 (a + 4) = some (k_l (X.map (fun x => x.2)) cap) := m4.1 _ _ e43 (fun z => z) (fun ci fs e => by cases e)
      have m34 := mv_trans (mv_mono m3 (K' := [6, 7, 11]) (A' := fun q => q = a + 3 ∨ q = a + 4 ∨ q = a + 5) (fun _ h => by cases h) (fun q h => Or.inr (Or.inr h)) (Nat.le_refl _)) (mv_mono m4 (fun _ h => h) (fun q h => h.elim) (Nat.le_refl _))
      have l1 := hw2.2.2.1
      have l2 := hw4.2.2.1
      refine ih (i + 1) h4 L4 (none, false) (by omega) (by omega) hs4 ?_ (mv_mono (mv_trans M2 m34) (fun _ h => h) (fun _ h => h) (by omega)) e44
      rw [List.take_succ, hy, List.map_append]
      exact w_ls_snoc hw2 hw4
  exact bX8_wipe_6 (loop _ 0 h1 L z rfl (Nat.zero_le _) hs1 (w_ls_nil _ _ _) (mv_mono M1 (fun _ h => h) (fun _ h => h) (Nat.zero_le _)) e4)
end CWP
end
section
/-! THE CLASS'S STORE AND THE REFERENCE'S: keys, log and wipes say the same -/
def c_rE (KS : List k_K2) (L : List k_E4) (WS : List k_SP) (E : e_S) (x : Nat) : Prop :=
  ((∀ d m, r_val d m L = r_val d m E.2.1) ∧ (∀ d v, r_has d v L ↔ r_has d v E.2.1) ∧ L.length ≤ E.2.1.length) ∧ ((∀ y ∈ E.1, ∃ k, (y.1, k) ∈ KS) ∧ KS.length ≤ E.1.length + x) ∧ WS.map (fun w => w.2) = E.2.2 ∧ r_in E.1 E.2.1 ∧ E.1.Pairwise (fun x y => x.1 < y.1)
theorem srt_ext : ∀ {A B : List Nat}, A.Pairwise (fun x y => x < y) → B.Pairwise (fun x y => x < y) → (∀ x, x ∈ A ↔ x ∈ B) → A = B := by
  intro A
  induction A with
  | nil =>
    intro B _ _ h
    cases B with
    | nil => rfl
    | cons b B => exact absurd ((h b).mpr (List.mem_cons_self ..)) (by simp)
  | cons a A ih =>
    intro B hA hB h
    cases B with
    | nil => exact absurd ((h a).mp (List.mem_cons_self ..)) (by simp)
    | cons b B =>
      rw [List.pairwise_cons] at hA hB
      have e : a = b := by
        rcases List.mem_cons.mp ((h a).mp (List.mem_cons_self ..)) with e | e
        · exact e
        · rcases List.mem_cons.mp ((h b).mpr (List.mem_cons_self ..)) with e2 | e2
          · exact e2.symm
          · have := hB.1 _ e
            have := hA.1 _ e2
            omega
      subst e
      congr 1
      refine ih hA.2 hB.2 fun x => ⟨fun hx => ?_, fun hx => ?_⟩
      · rcases List.mem_cons.mp ((h x).mp (List.mem_cons_of_mem _ hx)) with e | e
        · have := hA.1 _ hx; omega
        · exact e
      · rcases List.mem_cons.mp ((h x).mpr (List.mem_cons_of_mem _ hx)) with e | e
        · have := hB.1 _ hx; omega
        · exact e
theorem val_has {c m : Nat} {L : List k_E4} (h : (r_val c m L).isSome = true) : ∃ v, r_has c v L := by
  unfold r_val at h
  cases e : r_get c m L with
  | none => rw [e] at h; cases h
  | some y =>
    have hy : y ∈ L := by unfold r_get at e; exact List.mem_of_find?_eq_some e
    have h2 : (y.2.1 == c && decide (y.2.2.1 ≤ m)) = true := by unfold r_get at e; exact List.find?_some (p := fun (x : k_E4) => x.2.1 == c && decide (x.2.2.1 ≤ m)) e
    simp only [Bool.and_eq_true, beq_iff_eq, decide_eq_true_eq] at h2
    exact ⟨y.2.2.1, y, hy, h2.1, rfl⟩
theorem rE_flt {KS : List k_K2} {L : List k_E4} {WS : List k_SP} {E : e_S} {x : Nat} (r : c_rE KS L WS E x) (s : KS.Pairwise (fun x y => x.1 < y.1)) {p : Nat → Bool} (hp : ∀ c, p c = true → ∃ v, r_has c v L) : (KS.filter (fun y => p y.1)).map (fun y => y.1) = (E.1.filter (fun y => p y.1)).map (fun y => y.1) := by
  obtain ⟨⟨a1, a2, a3⟩, ⟨b1, b2⟩, b3, b4, b5⟩ := r
  refine srt_ext (List.pairwise_map.mpr (s.sublist List.filter_sublist)) (List.pairwise_map.mpr (b5.sublist List.filter_sublist)) fun c => ?_
  rw [List.mem_map, List.mem_map]
  constructor
  · rintro ⟨y, hy, rfl⟩
    obtain ⟨hy1, hy2⟩ := List.mem_filter.mp hy
    obtain ⟨v, hv⟩ := hp _ hy2
    obtain ⟨w, hw, h1, h2⟩ := (a2 _ _).mp hv
    obtain ⟨k, hk⟩ := b4 w hw
    rw [h1] at hk
    exact ⟨_, List.mem_filter.mpr ⟨hk, hy2⟩, rfl⟩
  · rintro ⟨y, hy, rfl⟩
    obtain ⟨hy1, hy2⟩ := List.mem_filter.mp hy
    obtain ⟨k, hk⟩ := b1 y hy1
    exact ⟨_, List.mem_filter.mpr ⟨hk, hy2⟩, rfl⟩
theorem rE_hl {KS : List k_K2} {L : List k_E4} {WS : List k_SP} {E : e_S} {x : Nat} (r : c_rE KS L WS E x) (s : KS.Pairwise (fun x y => x.1 < y.1)) (lo hi n : Nat) : (c_hl lo hi n KS L).map (fun y => y.1) = (c_hl lo hi n E.1 E.2.1).map (fun y => y.1) := by
  have h := rE_flt r s (p := fun c => decide (lo ≤ c) && decide (c < hi) && (r_val c n L).isSome) (fun c hc => val_has (m := n) (by simp only [Bool.and_eq_true] at hc; exact hc.2))
  unfold c_hl r_flt
  rw [h]
  congr 1
  refine List.filter_congr fun y _ => ?_
  rw [r.1.1]
theorem bb_dif_eq (o p : Option Int32) : bb_dif o p = !(decide (o = p)) := by
  cases o with
  | none => cases p with
    | none => rfl
    | some q => rfl
  | some w => cases p with
    | none => rfl
    | some q =>
      unfold bb_dif
      show (!(decide (true = true)) || !(decide (w = q))) = !(decide (some w = some q))
      by_cases e : w = q
      · rw [e, decide_eq_true rfl, decide_eq_true rfl, decide_eq_true rfl]; rfl
      · rw [decide_eq_true rfl, decide_eq_false e, decide_eq_false (fun z => e (Option.some.inj z))]; rfl
theorem rE_oth {KS : List k_K2} {L : List k_E4} {WS : List k_SP} {E : e_S} {x : Nat} (r : c_rE KS L WS E x) (s : KS.Pairwise (fun x y => x.1 < y.1)) (n v : Nat) : (KS.filter (fun y => bb_oth L n v y.1)).map (fun y => y.1) = (E.1.filter (fun y => bb_oth E.2.1 n v y.1)).map (fun y => y.1) := by
  have h := rE_flt r s (p := fun c => bb_oth L n v c) (fun c hc => by
    unfold bb_oth at hc
    rw [bb_dif_eq] at hc
    cases e1 : r_val c n L with
    | some w => exact val_has (m := n) (by rw [e1]; rfl)
    | none =>
      cases e2 : r_val c v L with
      | some w => exact val_has (m := v) (by rw [e2]; rfl)
      | none => rw [e1, e2] at hc; simp at hc)
  rw [h]
  congr 1
  refine List.filter_congr fun y _ => ?_
  unfold bb_oth
  rw [r.1.1, r.1.1]
theorem rE_ins {KS : List k_K2} {L : List k_E4} {WS : List k_SP} {E : e_S} {x c k : Nat} (r : c_rE KS L WS E x) (s : KS.Pairwise (fun x y => x.1 < y.1)) : c_rE (c_ins c k KS) L WS (m_ins c E.1, E.2) x := by
  obtain ⟨a, ⟨b1, b2⟩, b3, b4, b5⟩ := r
  refine ⟨a, ⟨fun y hy => ?_, ?_⟩, b3, fun y hy => ?_, m_ins_srt b5⟩
  · rcases m_ins_of hy with e | hy
    · rw [e]
      unfold c_ins
      cases e2 : r_at c KS with
      | some q => exact ⟨q, by rw [if_pos (show (some q).isSome = true from rfl)]; exact r_at_some e2⟩
      | none => exact ⟨k, by rw [if_neg (by simp), List.mem_insertIdx (r_pl_le c KS)]; exact Or.inl rfl⟩
    · obtain ⟨q, hq⟩ := b1 y hy
      exact ⟨q, c_ins_mem hq⟩
  · show (c_ins c k KS).length ≤ (m_ins c E.1).length + x
    unfold c_ins
    have h2 := m_ins_le c E.1
    cases e2 : r_at c KS with
    | some q => rw [if_pos (show (some q).isSome = true from rfl)]; omega
    | none =>
      rw [if_neg (by simp), List.length_insertIdx, if_pos (r_pl_le c KS)]
      have e3 : r_at c E.1 = none := by
        cases e4 : r_at c E.1 with
        | none => rfl
        | some q =>
          obtain ⟨k2, hk2⟩ := b1 _ (r_at_some e4)
          rw [r_at_mem s hk2] at e2
          cases e2
      have : (m_ins c E.1).length = E.1.length + 1 := by
        unfold m_ins
        rw [e3, if_neg (by simp), List.length_insertIdx, if_pos (r_pl_le c E.1)]
      omega
  · obtain ⟨q, hq⟩ := b4 y hy
    exact ⟨q, m_ins_mem hq⟩
theorem m_ins_has (c : Nat) {KM : List k_K2} : ∃ q, (c, q) ∈ m_ins c KM := by
  obtain ⟨q, hq⟩ := m_ins_at (c := c) (KM := KM)
  exact ⟨q, List.mem_of_getElem? hq⟩
theorem lg_eq {c n : Nat} {o : Option Int32} {L L' P P' : List k_E4} (a : (∀ d m, r_val d m L = r_val d m P) ∧ (∀ d v, r_has d v L ↔ r_has d v P)) (h : w_lg c n o L L') (k : w_lg c n o P P') : (∀ d m, r_val d m L' = r_val d m P') ∧ (∀ d v, r_has d v L' ↔ r_has d v P') :=
  ⟨fun d m => by rw [h.1, k.1, a.1], fun d v => by rw [h.2.1, k.2.1, a.2]⟩
theorem ls_eq {X : List Nat} {n : Nat} {f : Nat → Option Int32} {L L' P P' : List k_E4} (a : (∀ d m, r_val d m L = r_val d m P) ∧ (∀ d v, r_has d v L ↔ r_has d v P)) (h : w_ls X n f L L') (k : w_ls X n f P P') : (∀ d m, r_val d m L' = r_val d m P') ∧ (∀ d v, r_has d v L' ↔ r_has d v P') :=
  ⟨fun d m => by rw [h.1, k.1, a.1], fun d v => by rw [h.2.1, k.2.1, a.2]⟩
theorem rE_put {KS : List k_K2} {L L' : List k_E4} {WS : List k_SP} {E : e_S} {x c k n : Nat} {o : Option Int32} (r : c_rE KS L WS E x) (s : KS.Pairwise (fun x y => x.1 < y.1)) (w : w_lg c n o L L') : c_rE (c_ins c k KS) L' WS (e_put n c o E) x := by
  obtain ⟨⟨a1, a2, a3⟩, b, b3, b4, b5⟩ := rE_ins (c := c) (k := k) r s
  obtain ⟨q1, q2⟩ := lg_eq ⟨a1, a2⟩ w (w_lg_new (q := E.2.1.length) (L := E.2.1))
  refine ⟨⟨q1, q2, ?_⟩, b, b3, fun y hy => ?_, b5⟩
  · have := w.2.2.2
    show L'.length ≤ E.2.1.length + 1
    have : L.length ≤ E.2.1.length := a3
    omega
  · rcases List.mem_cons.mp hy with rfl | hy
    · exact m_ins_has c
    · exact b4 y hy
theorem w_ls_cons {X : List Nat} {n c : Nat} {f : Nat → Option Int32} {L L1 L2 : List k_E4} (h1 : w_lg c n (f c) L L1) (h2 : w_ls X n f L1 L2) : w_ls (c :: X) n f L L2 := by
  refine ⟨fun d m => ?_, fun d v => ?_, Nat.le_trans h1.2.2.1 h2.2.2.1, by have := h1.2.2.2; have := h2.2.2.2; rw [List.length_cons]; omega⟩
  · rw [h2.1, h1.1]
    by_cases e2 : d ∈ X ∧ n ≤ m
    · rw [if_pos e2, if_pos ⟨List.mem_cons_of_mem _ e2.1, e2.2⟩]
    · rw [if_neg e2]
      by_cases e : d = c ∧ n ≤ m
      · rw [if_pos e, if_pos ⟨by simp [e.1], e.2⟩, e.1]
      · rw [if_neg e, if_neg]
        rintro ⟨h, hm⟩
        rcases List.mem_cons.mp h with h | h
        · exact e ⟨h, hm⟩
        · exact e2 ⟨h, hm⟩
  · rw [h2.2.1, h1.2.1]
    constructor
    · rintro ((h | ⟨h, hv⟩) | ⟨h, hv⟩)
      · exact Or.inl h
      · exact Or.inr ⟨by simp [h], hv⟩
      · exact Or.inr ⟨List.mem_cons_of_mem _ h, hv⟩
    · rintro (h | ⟨h, hv⟩)
      · exact Or.inl (Or.inl h)
      · rcases List.mem_cons.mp h with h | h
        · exact Or.inl (Or.inr ⟨h, hv⟩)
        · exact Or.inr ⟨h, hv⟩
theorem pus_ls (n : Nat) : ∀ (X : List Nat) (L : List k_E4), w_ls X n (fun _ => none) L (r_pus n (X.map (fun c => (c, none))) L) := by
  intro X
  induction X with
  | nil => exact fun L => w_ls_nil _ _ _
  | cons c t ih => exact fun L => w_ls_cons (L1 := r_pu n L (c, none)) w_lg_new (ih _)
theorem rE_clr {KS : List k_K2} {L L' : List k_E4} {WS : List k_SP} {E : e_S} {x lo hi n q : Nat} (r : c_rE KS L WS E x) (s : KS.Pairwise (fun x y => x.1 < y.1)) (w : w_ls ((c_hl lo hi n KS L).map (fun x => x.1)) n (fun _ => none) L L') : c_rE KS L' (WS ++ [(q, lo, hi, n)]) (e_clr n lo hi E) x := by
  rw [rE_hl r s] at w
  obtain ⟨⟨a1, a2, a3⟩, b, b3, b4, b5⟩ := r
  have hX : (c_hl lo hi n E.1 E.2.1).map (fun x => (x.1, (none : Option Int32))) = ((c_hl lo hi n E.1 E.2.1).map (fun x => x.1)).map (fun c => (c, none)) := by rw [List.map_map]; rfl
  have hin : ∀ c ∈ (c_hl lo hi n E.1 E.2.1).map (fun x => x.1), ∃ k, (c, k) ∈ E.1 := fun c hc => by
    obtain ⟨y, hy, rfl⟩ := List.mem_map.mp hc
    exact ⟨y.2, (r_flt_of hy).1⟩
  have eE : e_clr n lo hi E = (E.1, r_pus n ((c_hl lo hi n E.1 E.2.1).map (fun x => (x.1, none))) E.2.1, E.2.2 ++ [(lo, hi, n)]) := rfl
  rw [eE, hX]
  generalize (c_hl lo hi n E.1 E.2.1).map (fun x => x.1) = X at w hin
  have k := pus_ls n X E.2.1
  obtain ⟨q1, q2⟩ := ls_eq ⟨a1, a2⟩ w k
  refine ⟨⟨q1, q2, ?_⟩, b, ?_, fun y hy => ?_, b5⟩
  · have h1 := w.2.2.2
    show L'.length ≤ (r_pus n (X.map (fun c => (c, none))) E.2.1).length
    rw [r_pus_len, List.length_map]
    omega
  · show (WS ++ [(q, lo, hi, n)]).map (fun w => w.2) = E.2.2 ++ [(lo, hi, n)]
    rw [List.map_append, b3]
    rfl
  · have hh : r_has y.2.1 y.2.2.1 (r_pus n (X.map (fun c => (c, none))) E.2.1) := ⟨y, hy, rfl, rfl⟩
    rcases (k.2.1 _ _).mp hh with ⟨u, hu, h1, -⟩ | ⟨h1, -⟩
    · obtain ⟨a, ha⟩ := b4 u hu
      rw [h1] at ha
      exact ⟨a, ha⟩
    · exact hin _ h1
end
section
/-! THE CLASS'S STORE AGAINST THE REFERENCE'S: contracts -/
def c_A5 (a : Nat) : Nat → Prop := fun q => q = a + 2 ∨ q = a + 3 ∨ q = a + 4 ∨ q = a + 5
def c_sE (a : Nat) (h : k_H) (E : e_S) (n : Nat) (Q : List k_K2) (S : Nat) : Prop := ∃ (KS : List k_K2) (L : List k_E4) (WS : List k_SP) (z : Option Int32 × Bool), c_st a h KS L WS n z ∧ c_rE KS L WS E Q.length ∧ ((∀ q ∈ Q, q ∈ KS) ∧ Q.length ≤ 20) ∧ S = KS.length + L.length + WS.length
theorem c_st_adv {a : Nat} {h : k_H} {KS : List k_K2} {L : List k_E4} {WS : List k_SP} {n m : Nat} {z : Option Int32 × Bool} (hs : c_st a h KS L WS n z) (hn : n + m ≤ 9000) : c_st a (k_up h (a + 1) (k_o 11 [vR (some (a + 2)), vR (some (a + 3)), vR (some (a + 4)), vR (some (a + 5)), vI (nI L.length), vR (L.head?.map (fun y => y.1)), vI (nI (n + m))])) KS L WS (n + m) z := by
  obtain ⟨cK, cW, cH, xs, ka, ⟨s1, s2, s3, s4, s5⟩, ⟨t1, t2, t3, t4⟩, ⟨l1, l2, l3⟩, tW, tn, ta, tw⟩ := hs
  have n1 : ∀ p d, h.1 p = some d → (∀ gs, d ≠ k_o 11 gs) → (k_up h (a + 1) (k_o 11 [vR (some (a + 2)), vR (some (a + 3)), vR (some (a + 4)), vR (some (a + 5)), vI (nI L.length), vR (L.head?.map (fun y => y.1)), vI (nI (n + m))])).1 p = some d := fun p d hp hne => k_up_cell s1 hp hne _
  exact ⟨cK, cW, cH, xs, ka, ⟨k_up_self _ _ _, n1 _ _ s2 (fun gs e => by cases e), n1 _ _ s3 (fun gs e => by cases e), n1 _ _ s4 (fun gs e => by cases e), n1 _ _ s5 (fun gs e => by cases e)⟩, ⟨⟨fun x hx => ⟨(t1.1 x hx).1, n1 _ _ (t1.1 x hx).2 (fun gs e => by cases e)⟩, t1.2⟩, t2, r_log_keep6 (fun q fs hq => n1 _ _ hq (fun gs e => by cases e)) t3, t4⟩, ⟨fun x hx => Nat.le_trans (l1 x hx) (Nat.le_add_right _ _), l2, l3⟩, fun x hx => ⟨n1 _ _ (tW x hx).1 (fun gs e => by cases e), (tW x hx).2.1, (tW x hx).2.2.1, Nat.le_trans (tW x hx).2.2.2 (Nat.le_add_right _ _)⟩, hn, ta, wf_up tw s1⟩
theorem sE_lim {a : Nat} {h : k_H} {KS : List k_K2} {L : List k_E4} {WS : List k_SP} {E E' : e_S} {n : Nat} {z : Option Int32 × Bool} {Q : List k_K2} (hs : c_st a h KS L WS n z) (r : c_rE KS L WS E Q.length) (hQ : Q.length ≤ 20) (hlim : e_lim E') (hle : e_le E E') : KS.length ≤ 12020 ∧ L.length ≤ 420000 ∧ WS.length ≤ 8192 ∧ KS.Pairwise (fun x y => x.1 < y.1) := by
  obtain ⟨cK, cW, cH, xs, ka, -, ⟨t1, -⟩, -⟩ := hs
  have h1 := r.1.2.2
  have h2 := r.2.1.2
  have h3 : WS.length = E.2.2.length := by rw [← r.2.2.1, List.length_map]
  have := hlim.1; have := hlim.2.1; have := hlim.2.2
  have := hle.1; have := hle.2.1; have := hle.2.2
  exact ⟨by omega, by omega, by omega, t1.2.1⟩
theorem bb_ls (n : Nat) (f : Nat → Option Int32) : ∀ (X : List k_K2) (E : e_S), E.1.Pairwise (fun x y => x.1 < y.1) → (∀ x ∈ X, x ∈ E.1) → w_ls (X.map (fun x => x.1)) n f E.2.1 (X.foldl (fun E y => e_put n y.1 (f y.1) E) E).2.1 ∧ (X.foldl (fun E y => e_put n y.1 (f y.1) E) E).1 = E.1 ∧ (X.foldl (fun E y => e_put n y.1 (f y.1) E) E).2.2 = E.2.2 ∧ (X.foldl (fun E y => e_put n y.1 (f y.1) E) E).2.1.length = E.2.1.length + X.length := by
  intro X
  induction X with
  | nil => exact fun E _ _ => ⟨w_ls_nil _ _ _, rfl, rfl, rfl⟩
  | cons x t ih =>
    intro E s hX
    have e1 : (e_put n x.1 (f x.1) E).1 = E.1 := m_ins_in s (a := x.2) (hX x (List.mem_cons_self ..))
    obtain ⟨i1, i2, i3, i4⟩ := ih (e_put n x.1 (f x.1) E) (by rw [e1]; exact s) (fun y hy => by rw [e1]; exact hX y (List.mem_cons_of_mem _ hy))
    refine ⟨w_ls_cons (L1 := (e_put n x.1 (f x.1) E).2.1) w_lg_new i1, i2.trans e1, i3, ?_⟩
    rw [List.foldl_cons, i4, List.length_cons]
    show E.2.1.length + 1 + t.length = _
    omega
theorem lX_sub1 {lo hi : Nat} (h : lo < hi) (hh : hi < 2 ^ 61) : decide (lN hi - lN lo ≤ 1) = decide (¬ 1 < hi - lo) := by
  have e : lN hi - lN lo = lN (hi - lo) := lN_sub (Nat.le_of_lt h)
  rw [e]
  have h1 : lN (hi - lo) ≤ 1 ↔ hi - lo ≤ 1 := lX_le (b := 1) (by omega) (by omega)
  by_cases c : hi - lo ≤ 1
  · rw [decide_eq_true (h1.mpr c), decide_eq_true (by omega)]
  · rw [decide_eq_false (fun z => c (h1.mp z)), decide_eq_false (by omega)]
section CSO
variable {G : k_G} {l : Launch}
theorem c_E_advance (ok : k_ok G l) {a : Nat} {h : k_H} {E : e_S} {n m S : Nat} {Q : List k_K2} (hs : c_sE a h E n Q S) (hn : n + m ≤ 9000) : k_ctv (tX8_advance G l) [vR (some (a + 1)), vI (nI m)] h (fun h' => c_sE a h' E (n + m) Q S ∧ k_mo a [6, 7, 11] (c_A5 a) 0 h h') := by
  obtain ⟨KS, L, WS, z, st, r, q, e⟩ := hs
  obtain ⟨h', t, rfl⟩ := c_X8_advance ok (st_obj st) hn
  exact ⟨_, t, ⟨KS, L, WS, z, c_st_adv st hn, r, q, e⟩, mv_o (st_obj st) (Or.inl (by simp))⟩
theorem c_E_keyFor (ok : k_ok G l) {a : Nat} {h : k_H} {E : e_S} {n c S : Nat} {Q : List k_K2} (hs : c_sE a h E n Q S) (hc : c < 1331000000000) (hlim : e_lim E) : k_ctr (tX8_keyFor G l) [vR (some (a + 1)), vJ (lN c)] h (fun h' v => ∃ k S', v = some k ∧ c_sE a h' (m_ins c E.1, E.2) n Q S' ∧ S ≤ S' ∧ k_mo a [6, 7, 11] (c_A5 a) (S' - S) h h') := by
  obtain ⟨KS, L, WS, z, st, r, q, e⟩ := hs
  obtain ⟨b1, b2, b3, b4⟩ := sE_lim st r q.2 hlim (e_le_refl E)
  obtain ⟨h', v, t, k, rfl, st', hm, mv⟩ := c_S_keyFor ok st hc (by omega)
  have hl := c_ins_le c k KS
  exact ⟨h', _, t, k, _, rfl, ⟨_, L, WS, z, st', rE_ins r b4, ⟨fun y hy => c_ins_mem (q.1 y hy), q.2⟩, rfl⟩, by omega, mv_mono mv (fun _ h => by cases h) (fun p h => Or.inl h) (by omega)⟩
theorem c_E_keyForW (ok : k_ok G l) {a : Nat} {h : k_H} {E : e_S} {n c S : Nat} {Q : List k_K2} (hs : c_sE a h E n Q S) (hc : c < 1331000000000) (hlim : e_lim E) (hQ : Q.length < 20) : k_ctr (tX8_keyFor G l) [vR (some (a + 1)), vJ (lN c)] h (fun h' v => ∃ k S', v = some k ∧ c_sE a h' E n (Q ++ [(c, k)]) S' ∧ S ≤ S' ∧ k_mo a [6, 7, 11] (c_A5 a) (S' - S) h h') := by
  obtain ⟨KS, L, WS, z, st, r, q, e⟩ := hs
  obtain ⟨b1, b2, b3, b4⟩ := sE_lim st r q.2 hlim (e_le_refl E)
  obtain ⟨h', v, t, k, rfl, st', hm, mv⟩ := c_S_keyFor ok st hc (by omega)
  have hl := c_ins_le c k KS
  obtain ⟨r1, ⟨r2, r3⟩, r4⟩ := r
  refine ⟨h', _, t, k, _, rfl, ⟨_, L, WS, z, st', ⟨r1, ⟨fun y hy => ?_, ?_⟩, r4⟩, ⟨fun y hy => ?_, ?_⟩, rfl⟩, by omega, mv_mono mv (fun _ h => by cases h) (fun p h => Or.inl h) (by omega)⟩
  · obtain ⟨k2, hk2⟩ := r2 y hy
    exact ⟨k2, c_ins_mem hk2⟩
  · rw [List.length_append, List.length_singleton]; omega
  · rcases List.mem_append.mp hy with hy | hy
    · exact c_ins_mem (q.1 y hy)
    · rw [List.mem_singleton.mp hy]; exact hm
  · rw [List.length_append, List.length_singleton]; omega
theorem c_E_alter (ok : k_ok G l) {a : Nat} {h : k_H} {E : e_S} {n c S : Nat} {Q : List k_K2} {kd g : Int32} (hs : c_sE a h E n Q S) (hc : c < 1331000000000) (hlim : e_lim (e_put n c (s_apO kd g (nI n) (r_val c n E.2.1)) E)) :
    k_ctv (tX8_alter G l) [vR (some (a + 1)), vI kd, vJ (lN c), vI g] h (fun h' => ∃ S', c_sE a h' (e_put n c (s_apO kd g (nI n) (r_val c n E.2.1)) E) n Q S' ∧ S ≤ S' ∧ k_mo a [6, 7, 11] (c_A5 a) (S' - S) h h') := by
  obtain ⟨KS, L, WS, z, st, r, q, e⟩ := hs
  obtain ⟨b1, b2, b3, b4⟩ := sE_lim st r q.2 hlim (e_le_put _ _ _ _)
  obtain ⟨h', t, k, L', z', st', w, mv⟩ := c_S_alter ok (kd := kd) (g := g) st hc (by omega) (by omega)
  have hl := c_ins_le c k KS
  rw [r.1.1] at w
  have hw := w.2.2.1
  exact ⟨h', t, _, ⟨_, L', WS, z', st', rE_put r b4 w, ⟨fun y hy => c_ins_mem (q.1 y hy), q.2⟩, rfl⟩, by omega, mv_mono mv (fun _ h => h) (fun p h => by rcases h with h | h; exact Or.inl h; exact Or.inr (Or.inr (Or.inr h))) (by omega)⟩
theorem c_E_wipe (ok : k_ok G l) {a : Nat} {h : k_H} {E : e_S} {n lo hi S : Nat} {Q : List k_K2} (hs : c_sE a h E n Q S) (hlo : lo < hi) (hhi : hi ≤ 1331000000000) (hlim : e_lim (e_clr n lo hi E)) :
    k_ctv (tX8_wipe G l) [vR (some (a + 1)), vJ (lN lo), vJ (lN hi)] h (fun h' => ∃ S', c_sE a h' (e_clr n lo hi E) n Q S' ∧ S ≤ S' ∧ k_mo a [6, 7, 11] (c_A5 a) (S' - S) h h') := by
  obtain ⟨KS, L, WS, z, st, r, q, e⟩ := hs
  obtain ⟨b1, b2, b3, b4⟩ := sE_lim st r q.2 hlim (e_le_clr _ _ _ _)
  obtain ⟨h', t, L', p, z', st', w, mv⟩ := c_S_wipe ok st hlo hhi (by omega) (by omega) b3
  have hw := w.2.2.1
  refine ⟨h', t, _, ⟨KS, L', _, z', st', rE_clr r b4 w, q, rfl⟩, by rw [List.length_append, List.length_singleton]; omega, mv_mono mv (fun _ h => h) (fun p h => Or.inr h) (by rw [List.length_append, List.length_singleton]; omega)⟩
theorem c_E_valueNow (ok : k_ok G l) {a : Nat} {h : k_H} {E : e_S} {n c S : Nat} {Q : List k_K2} (hs : c_sE a h E n Q S) (hc : c < 2 ^ 62) : k_cti (tX8_valueNow G l) [vR (some (a + 1)), vJ (lN c)] h (fun h' v => c_sE a h' E n Q S ∧ v = o_told (r_val c n E.2.1) ∧ k_mo a [6, 7, 11] (c_A5 a) 0 h h') := by
  obtain ⟨KS, L, WS, z, st, r, q, e⟩ := hs
  obtain ⟨cK, cW, cH, xs, ka, ⟨s1, s2, s3, s4, s5⟩, ⟨t1, t2, t3, t4⟩, ⟨l1, l2, l3⟩, tW, tn, ta, tw⟩ := id st
  obtain ⟨h', v, t, e1, rfl⟩ := c_X8_valueNow ok s1 s5 s2 t1 t2 t3 (fun x hx => by have := l1 x hx; omega) hc (by omega)
  obtain ⟨st', mv⟩ := st_setcell_h st (r_val c n L, false) e1
  exact ⟨h', _, t, ⟨KS, L, WS, _, st', r, q, e⟩, by rw [r.1.1], mv_mono mv (fun _ h => by cases h) (fun p h => Or.inr (Or.inr (Or.inr h))) (Nat.le_refl _)⟩
theorem c_E_entryIn (ok : k_ok G l) {a : Nat} {h : k_H} {E : e_S} {n c m S : Nat} {Q : List k_K2} (hs : c_sE a h E n Q S) (hc : c < 2 ^ 62) (hm : m < 2 ^ 31) : k_ctr (tX8_entryIn G l) [vR (some (a + 1)), vJ (lN c), vI (nI m)] h (fun h' v => h' = h ∧ ((v = none ∧ r_val c m E.2.1 = none) ∨ (∃ a k w b e, v = some a ∧ h.1 a = some (o_ent k w b e (r_val c m E.2.1))))) := by
  obtain ⟨KS, L, WS, z, st, r, q, e⟩ := hs
  obtain ⟨cK, cW, cH, xs, ka, ⟨s1, s2, s3, s4, s5⟩, ⟨t1, t2, t3, t4⟩, ⟨l1, l2, l3⟩, tW, tn, ta, tw⟩ := id st
  obtain ⟨h', v, t, rfl, rfl⟩ := c_X8_entryIn ok s1 s2 t1 t2 t3 (fun x hx => by have := l1 x hx; omega) hc hm
  refine ⟨_, _, t, rfl, ?_⟩
  rw [← r.1.1]
  exact look_ok t3 c m
theorem c_E_listHeld (ok : k_ok G l) {a : Nat} {h : k_H} {E : e_S} {n lo hi S : Nat} {Q : List k_K2} (hs : c_sE a h E n Q S) (hlo : lo < 2 ^ 62) (hhi : hi < 2 ^ 62) (hlim : e_lim E) : k_ctr (tX8_listHeld G l) [vR (some (a + 1)), vJ (lN lo), vJ (lN hi)] h (fun h' v => v = some (a + 4) ∧ c_sE a h' E n Q S ∧ (∃ (X : List k_K2) (cap : Nat), h'.1 (a + 4) = some (k_l (X.map (fun x => x.2)) cap) ∧ X.map (fun x => x.1) = (c_hl lo hi n E.1 E.2.1).map (fun x => x.1) ∧ ∀ y ∈ X, y.1 < 1331000000000 ∧ ∃ f, h'.1 y.2 = some (k_o 7 [vJ (lN y.1), f])) ∧ k_mo a [6, 7, 11] (c_A5 a) 0 h h') := by
  obtain ⟨KS, L, WS, z, st, r, q, e⟩ := hs
  obtain ⟨b1, b2, b3, b4⟩ := sE_lim st r q.2 hlim (e_le_refl E)
  obtain ⟨h', v, t, rfl, st', ⟨cap, e4⟩, mv⟩ := c_S_listHeld ok st hlo hhi (by omega)
  refine ⟨h', _, t, rfl, ⟨KS, L, WS, z, st', r, q, e⟩, ⟨_, cap, e4, rE_hl r b4 lo hi n, fun y hy => ?_⟩, mv_mono mv (fun _ h => by cases h) (fun p h => Or.inr (Or.inr (Or.inl h))) (Nat.le_refl _)⟩
  obtain ⟨cK, cW, cH, xs, ka, -, ⟨t1, -⟩, -⟩ := id st'
  have h2 := t1.1 y (r_flt_of hy).1
  exact ⟨h2.1, _, h2.2⟩
theorem c_E_countDiffering (ok : k_ok G l) {a : Nat} {h : k_H} {E : e_S} {n v S : Nat} {Q : List k_K2} (hs : c_sE a h E n Q S) (hv : v < 2 ^ 31) : k_cti (tX8_countDiffering G l) [vR (some (a + 1)), vI (nI v)] h (fun h' w => h' = h ∧ w = nI (E.1.filter (fun y => bb_oth E.2.1 n v y.1)).length) := by
  obtain ⟨KS, L, WS, z, st, r, q, e⟩ := hs
  obtain ⟨cK, cW, cH, xs, ka, ⟨s1, s2, s3, s4, s5⟩, ⟨t1, t2, t3, t4⟩, ⟨l1, l2, l3⟩, tW, tn, ta, tw⟩ := id st
  obtain ⟨h', w, t, rfl, rfl⟩ := c_X8_countDiffering ok s1 s2 t1 t3 (fun x hx => by have := l1 x hx; omega) hv
  refine ⟨_, _, t, rfl, ?_⟩
  have h1 := congrArg List.length (rE_oth r t1.2.1 n v)
  rw [List.length_map, List.length_map] at h1
  rw [← h1, List.countP_eq_length_filter]
  congr 2
  refine List.filter_congr fun y _ => ?_
  unfold r_dif bb_oth
  rw [bb_dif_eq, r_now_val l1]
  by_cases c : r_val y.1 n L = r_val y.1 v L
  · rw [decide_eq_true c, decide_eq_true c.symm]
  · rw [decide_eq_false c, decide_eq_false (fun z => c z.symm)]
theorem ap_set (g s : Int32) (o : Option Int32) : s_apO 0 g s o = some g := by
  unfold s_apO
  rw [if_neg (by decide)]
  rfl
theorem c_E_applyInOrder (ok : k_ok G l) {a : Nat} {h : k_H} {E : e_S} {n S : Nat} {Q : List k_K2} {x : k_CH} (hs : c_sE a h E n Q S) (hx : h.1 x.1 = some (o_chg x)) (hlo : x.2.2.1 < x.2.2.2.1) (hhi : x.2.2.2.1 ≤ 1331000000000) (h1 : ¬ 1 < x.2.2.2.1 - x.2.2.1 ∨ x.2.1 = 1) (hlim : e_lim (e_do n E x)) :
    k_ctv (tX8_applyInOrder G l) [vR (some (a + 1)), vR (some x.1)] h (fun h' => ∃ S', c_sE a h' (e_do n E x) n Q S' ∧ S ≤ S' ∧ k_mo a [6, 7, 11] (c_A5 a) (S' - S) h h') := by
  refine k_ctv_of (eX8_applyInOrder ok.2 (bX8_applyInOrder_0 (k_is_o hx) (c_X1_isInOrder ok hx) ?_))
  rintro _ _ ⟨hh, rfl⟩
  rw [hh]
  have ed : e_do n E x = if s_ord x.2.1 = true then (if 1 < x.2.2.2.1 - x.2.2.1 then e_clr n x.2.2.1 x.2.2.2.1 E else e_put n x.2.2.1 (s_apO x.2.1 x.2.2.2.2.1 (nI n) (r_val x.2.2.1 n E.2.1)) E) else E := rfl
  refine bX8_applyInOrder_4 (fun c1 => ?_) (fun c1 => ?_)
  · rw [kB_n0] at c1
    rw [if_pos c1] at ed
    obtain ⟨KS, L, WS, z, st, -⟩ := id hs
    refine bX8_applyInOrder_8 (k_is_o hx) (c_X1_isRange ok hx) ?_
    rintro _ _ ⟨hh, rfl⟩
    rw [hh, lX_sub1 hlo (by omega)]
    refine bX8_applyInOrder_12 (fun c2 => ?_) (fun c2 => ?_)
    · rw [kB_0, Bool.not_eq_false', decide_eq_true_eq] at c2
      rw [if_neg c2] at ed
      rw [ed] at hlim ⊢
      refine bX8_applyInOrder_30 hx rfl rfl rfl (k_is_o (st_obj st)) (c_E_alter ok hs (by omega) hlim) ?_
      rintro h2 P
      exact bX8_applyInOrder_46 ⟨rfl, P⟩
    · rw [kB_n0, Bool.not_eq_true', decide_eq_false_iff_not, Classical.not_not] at c2
      rw [if_pos c2] at ed
      rw [ed] at hlim ⊢
      refine bX8_applyInOrder_15 hx rfl rfl (k_is_o (st_obj st)) (c_E_wipe ok hs hlo hhi hlim) ?_
      rintro h2 P
      exact bX8_applyInOrder_27 (bX8_applyInOrder_46 ⟨rfl, P⟩)
  · rw [kB_0] at c1
    rw [if_neg (by rw [c1]; decide)] at ed
    rw [ed]
    exact bX8_applyInOrder_7 ⟨rfl, S, hs, Nat.le_refl _, by rw [Nat.sub_self]; exact mv_refl _ _ _ _⟩
theorem c_E_applyStamped (ok : k_ok G l) {a : Nat} {h : k_H} {E : e_S} {n S : Nat} {Q : List k_K2} {x : k_CH} (hs : c_sE a h E n Q S) (hx : h.1 x.1 = some (o_chg x)) (hlo : x.2.2.1 < 1331000000000) (hn : n < 9000) (hp : x.2.1 = 6 → s_pl x.2.2.2.2.2 = s_stp (m_ck x) x.2.2.1) (hlim : e_lim (e_st n E x)) :
    k_ctv (tX8_applyStamped G l) [vR (some (a + 1)), vR (some x.1)] h (fun h' => ∃ S', c_sE a h' (e_st n E x) n Q S' ∧ S ≤ S' ∧ k_mo a [6, 7, 11] (c_A5 a) (S' - S) h h') := by
  have ed : e_st n E x = if x.2.1 = 6 then e_put n (e_sc x n) (some x.2.2.2.2.1) E else E := rfl
  obtain ⟨KS, L, WS, z, st, -⟩ := id hs
  refine k_ctv_of (eX8_applyStamped ok.2 (bX8_applyStamped_0 hx rfl (fun c1 => ?_) (fun c1 => ?_)))
  · rw [if_neg c1] at ed
    rw [ed]
    exact bX8_applyStamped_33 ⟨rfl, S, hs, Nat.le_refl _, by rw [Nat.sub_self]; exact mv_refl _ _ _ _⟩
  · rw [if_pos c1] at ed
    rw [ed] at hlim ⊢
    have nn : s_na (nI n) := e_n_na hn
    refine bX8_applyStamped_9 hx rfl rfl (st_obj st) rfl (c_X11_withNumber ok hlo nn) ?_
    rintro _ _ ⟨hh, rfl⟩
    rw [hh]
    have ec : s_with x.2.2.1 (s_pl x.2.2.2.2.2) (nI n) = e_sc x n := by rw [hp c1]; rfl
    rw [ec]
    have hcl : e_sc x n < 1331000000000 := by
      unfold e_sc s_with
      exact s_cd_lt (by split; exact nn; exact s_no_na _ _) (by split; exact nn; exact s_no_na _ _) (by split; exact nn; exact s_no_na _ _)
    have hA := c_E_alter ok (kd := 0) (g := x.2.2.2.2.1) hs hcl (by rw [ap_set]; exact hlim)
    rw [ap_set] at hA
    refine bX8_applyStamped_26 hx rfl (k_is_o (st_obj st)) hA ?_
    rintro h2 P
    exact bX8_applyStamped_33 ⟨rfl, P⟩
end CSO
end
section
/-! THE CLASS'S STORE BRINGS BACK -/
def bb_F (E : e_S) (n v : Nat) : e_S := (E.1.filter (fun y => bb_oth E.2.1 n v y.1)).foldl (fun E0 y => e_put n y.1 (r_val y.1 v E.2.1) E0) E
section CRS
variable {G : k_G} {l : Launch}
theorem c_S_restore (ok : k_ok G l) {a : Nat} {h : k_H} {KS : List k_K2} {L : List k_E4} {WS : List k_SP} {n v : Nat} {z : Option Int32 × Bool} (hs : c_st a h KS L WS n z) (hv : v < n) (hb : KS.length ≤ 12600) (hL : L.length + KS.length < 1048576) :
    k_ctv (tX8_restore G l) [vR (some (a + 1)), vI (nI v)] h (fun h' => ∃ L' z', c_st a h' KS L' WS n z' ∧ w_ls ((KS.filter (fun y => bb_oth L n v y.1)).map (fun y => y.1)) n (fun c => r_val c v L) L L' ∧ k_mo a [6, 7, 11] (fun q => q = a + 5) (L'.length - L.length) h h') := by
  have hsrt : KS.Pairwise (fun x y => x.1 < y.1) := by
    obtain ⟨cK, cW, cH, xs, ka, -, ⟨t1, -⟩, -⟩ := id hs
    exact t1.2.1
  have hn9 : n ≤ 9000 := by
    obtain ⟨cK, cW, cH, xs, ka, -, -, -, -, tn, -⟩ := id hs
    exact tn
  refine k_ctv_of (eX8_restore ok.2 (bX8_restore_0 ?_))
  have loop : ∀ (d i : Nat) (h2 : k_H) (L2 : List k_E4) (z2 : Option Int32 × Bool), KS.length - i = d → i ≤ KS.length → c_st a h2 KS L2 WS n z2 → w_ls (((KS.take i).filter (fun y => bb_oth L n v y.1)).map (fun y => y.1)) n (fun c => r_val c v L) L L2 → k_mo a [6, 7, 11] (fun q => q = a + 5) (L2.length - L.length) h h2 →
      k_X (jX8_restore G l h) h2 2 [(0, vR (some (a + 1))), (1, vI (nI v)), (2, vI (nI i))] [] (q_v (fun h' => ∃ L' z', c_st a h' KS L' WS n z' ∧ w_ls ((KS.filter (fun y => bb_oth L n v y.1)).map (fun y => y.1)) n (fun c => r_val c v L) L L' ∧ k_mo a [6, 7, 11] (fun q => q = a + 5) (L'.length - L.length) h h')) := by
    intro d
    induction d with
    | zero =>
      intro i h2 L2 z2 hd hi hs2 hw M
      obtain ⟨cK, cW, cH, xs, ka, ⟨s1, s2, s3, s4, s5⟩, -⟩ := id hs2
      rw [List.take_of_length_le (by omega)] at hw
      refine bX8_restore_2 s1 rfl (Or.inr ⟨rfl, _, _, s2⟩) (c_size ok s2) ?_
      rintro _ _ ⟨hh, rfl⟩
      rw [hh, List.length_map]
      exact bX8_restore_10 (fun _ => bX8_restore_68 ⟨rfl, L2, z2, hs2, hw, M⟩) (fun z => absurd (nI_le (by omega) (by omega)) z)
    | succ d ih =>
      intro i h2 L2 z2 hd hi hs2 hw M
      obtain ⟨cK, cW, cH, xs, ka, ⟨s1, s2, s3, s4, s5⟩, ⟨t1, t2, t3, t4⟩, ⟨l1, l2, l3⟩, tW, tn, ta, tw⟩ := id hs2
      have hlt : i < KS.length := by omega
      obtain ⟨y, hy⟩ : ∃ y, KS[i]? = some y := ⟨_, List.getElem?_eq_getElem hlt⟩
      have hyK := List.mem_of_getElem? hy
      have hkc := (t1.1 y hyK).2
      have hnot : y.1 ∉ ((KS.take i).filter (fun y => bb_oth L n v y.1)).map (fun y => y.1) := fun hin => by
        obtain ⟨u, hu, e⟩ := List.mem_map.mp hin
        obtain ⟨j, hj⟩ := List.getElem?_of_mem (List.mem_filter.mp hu).1
        rw [List.getElem?_take] at hj
        by_cases c : j < i
        · rw [if_pos c] at hj
          have := r_srt hsrt c hj hy
          omega
        · rw [if_neg c] at hj; cases hj
      have en : r_val y.1 n L2 = r_val y.1 n L := by rw [hw.1, if_neg (fun z => hnot z.1)]
      have ev : r_val y.1 v L2 = r_val y.1 v L := by rw [hw.1, if_neg (fun z => hnot z.1)]
      have hle := hw.2.2.2
      rw [List.length_map] at hle
      have hle2 : ((KS.take i).filter (fun y => bb_oth L n v y.1)).length ≤ i := by
        refine Nat.le_trans (List.length_filter_le _ _) ?_
        rw [List.length_take]; omega
      refine bX8_restore_2 s1 rfl (Or.inr ⟨rfl, _, _, s2⟩) (c_size ok s2) ?_
      rintro _ _ ⟨hh, rfl⟩
      rw [hh, List.length_map]
      refine bX8_restore_10 (fun z => absurd z (nI_ge hlt (by omega))) (fun _ => bX8_restore_13 s1 rfl (Or.inr ⟨rfl, _, _, s2⟩) (c_get ok s2 (by rw [List.getElem?_map, hy]; rfl)) ?_)
      rintro _ _ ⟨hh, rfl⟩
      rw [hh]
      refine bX8_restore_21 hkc (c_X4_entryIn ok hkc t3 (fun x hx => by have := l1 x hx; omega) (by omega)) ?_
      rintro _ _ ⟨hh, rfl⟩
      rw [hh]
      refine bX8_restore_30 hkc rfl (c_X3_alike ok (r_fst_ok t3 y.1) (look_ok t3 y.1 v)) ?_
      rintro _ _ ⟨hh, rfl⟩
      rw [hh, r_now_val l1, en, ev]
      have eo : bb_oth L n v y.1 = !(decide (r_val y.1 n L = r_val y.1 v L)) := by
        unfold bb_oth
        rw [bb_dif_eq]
        by_cases c : r_val y.1 n L = r_val y.1 v L
        · rw [decide_eq_true c, decide_eq_true c.symm]
        · rw [decide_eq_false c, decide_eq_false (fun z => c z.symm)]
      have etk : ((KS.take (i + 1)).filter (fun y => bb_oth L n v y.1)).map (fun y => y.1) = ((KS.take i).filter (fun y => bb_oth L n v y.1)).map (fun y => y.1) ++ (if bb_oth L n v y.1 = true then [y.1] else []) := by
        rw [List.take_succ, hy, List.filter_append, List.map_append]
        congr 1
        show List.map _ ([y].filter _) = _
        cases e : bb_oth L n v y.1 with
        | true => simp [e]
        | false => simp [e]
      refine bX8_restore_41 (fun c1 => ?_) (fun c1 => ?_)
      · rw [kB_n0] at c1
        rw [c1] at eo
        rw [eo, if_neg (by decide), List.append_nil] at etk
        refine bX8_restore_62 ?_
        rw [nI_1]
        exact ih (i + 1) h2 L2 z2 (by omega) (by omega) hs2 (by rw [etk]; exact hw) M
      · rw [kB_0] at c1
        rw [c1] at eo
        rw [eo, if_pos (by decide)] at etk
        refine bX8_restore_44 s1 rfl (k_is_o s5) (c_X0_load ok s5 (look_ok t3 y.1 v)) ?_
        rintro h3 e3
        obtain ⟨hs3, m3⟩ := st_setcell_h hs2 (r_val y.1 v L2, false) e3
        refine bX8_restore_53 (st_obj hs3) rfl (c_S_write ok hs3 (c := y.1) (k := y.2) hyK (by omega)) ?_
        rintro h4 ⟨L4, hs4, hw4, m4⟩
        refine bX8_restore_62 ?_
        rw [nI_1]
        have l5 := hw.2.2.1
        have l6 := hw4.2.2.1
        have m34 := mv_trans (mv_mono m3 (K' := [6, 7, 11]) (A' := fun q => q = a + 5) (fun _ h => by cases h) (fun q h => h) (Nat.le_refl _)) (mv_mono m4 (fun _ h => h) (fun q h => h.elim) (Nat.le_refl _))
        refine ih (i + 1) h4 L4 _ (by omega) (by omega) hs4 ?_ (mv_mono (mv_trans M m34) (fun _ h => h) (fun _ h => h) (by omega))
        rw [etk]
        refine w_ls_snoc hw ?_
        rw [← ev]
        exact hw4
  exact loop _ 0 h L z rfl (Nat.zero_le _) hs (w_ls_nil _ _ _) (by rw [Nat.sub_self]; exact mv_refl _ _ _ _)
theorem c_E_restore (ok : k_ok G l) {a : Nat} {h : k_H} {E : e_S} {n v S : Nat} {Q : List k_K2} (hs : c_sE a h E n Q S) (hv : v < n) (hlim : e_lim (bb_F E n v)) :
    k_ctv (tX8_restore G l) [vR (some (a + 1)), vI (nI v)] h (fun h' => ∃ S', c_sE a h' (bb_F E n v) n Q S' ∧ S ≤ S' ∧ k_mo a [6, 7, 11] (c_A5 a) (S' - S) h h') := by
  obtain ⟨KS, L, WS, z, st, r, q, e⟩ := hs
  obtain ⟨b1, b2, b3, b4⟩ := sE_lim st r q.2 hlim (bb_E_le n (fun c => r_val c v E.2.1) _ E)
  obtain ⟨h', t, L', z', st', w, mv⟩ := c_S_restore ok st hv (by omega) (by omega)
  have hw := w.2.2
  rw [rE_oth r b4] at w
  have r5 := r.2.2.2.2
  have hfe : w_ls ((E.1.filter (fun y => bb_oth E.2.1 n v y.1)).map (fun y => y.1)) n (fun c => r_val c v E.2.1) L L' := by
    have ef : (fun c => r_val c v L) = (fun c => r_val c v E.2.1) := funext fun c => r.1.1 c v
    rw [ef] at w
    exact w
  obtain ⟨i1, i2, i3, i4⟩ := bb_ls n (fun c => r_val c v E.2.1) (E.1.filter (fun y => bb_oth E.2.1 n v y.1)) E r5 (fun x hx => (List.mem_filter.mp hx).1)
  obtain ⟨⟨a1, a2, a3⟩, ⟨c1, c2⟩, c3, c4, c5⟩ := r
  obtain ⟨q1, q2⟩ := ls_eq ⟨a1, a2⟩ hfe i1
  have hlen : L'.length ≤ (bb_F E n v).2.1.length := by
    have := hfe.2.2.2
    rw [List.length_map] at this
    show L'.length ≤ ((E.1.filter (fun y => bb_oth E.2.1 n v y.1)).foldl (fun E0 y => e_put n y.1 (r_val y.1 v E.2.1) E0) E).2.1.length
    rw [i4]
    omega
  refine ⟨h', t, _, ⟨KS, L', WS, z', st', ⟨⟨q1, q2, hlen⟩, ⟨fun y hy => ?_, ?_⟩, ?_, fun y hy => ?_, ?_⟩, q, rfl⟩, by omega, mv_mono mv (fun _ h => h) (fun p h => Or.inr (Or.inr (Or.inr h))) (by omega)⟩
  · have hy2 : y ∈ E.1 := i2 ▸ hy
    exact c1 y hy2
  · show KS.length ≤ (List.foldl _ E _).1.length + Q.length
    rw [i2]; exact c2
  · show WS.map (fun w => w.2) = (List.foldl _ E _).2.2
    rw [i3]; exact c3
  · show ∃ a, (y.2.1, a) ∈ (List.foldl _ E _).1
    rw [i2]
    have hh : r_has y.2.1 y.2.2.1 (bb_F E n v).2.1 := ⟨y, hy, rfl, rfl⟩
    rcases (i1.2.1 _ _).mp hh with ⟨u, hu, h1, -⟩ | ⟨h1, -⟩
    · obtain ⟨k, hk⟩ := c4 u hu
      rw [h1] at hk
      exact ⟨k, hk⟩
    · obtain ⟨u, hu, h2⟩ := List.mem_map.mp h1
      exact ⟨u.2, by rw [← h2]; exact (List.mem_filter.mp hu).1⟩
  · show (List.foldl _ E _).1.Pairwise _
    rw [i2]; exact c5
end CRS
end
