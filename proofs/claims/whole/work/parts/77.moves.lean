/-! MOVES OF THE CLASS'S HEAP: what stays, and what they cost -/
def k_fr (K : List Nat) (A : Nat → Prop) (h h' : k_H) : Prop := ∀ (q : Nat) (c : k_C), h.1 q = some c → ¬ A q → (∀ ci fs, c = k_o ci fs → ci ∉ K) → h'.1 q = some c
def kg1 (cap : Nat) : Nat := if cap < 200 then cap else 200 + (cap - 200) / 100
def kg2 (cap : Nat) : Nat := 5 * cap
def kcp : Option k_C → Nat
  | some (.inr (.inr (.inr (.inr (.inl (_, cap)))))) => cap
  | _ => 0
theorem kcp_l (xs : List Nat) (cap : Nat) : kcp (some (k_l xs cap)) = cap := rfl
theorem kcp_o (ci : Nat) (fs : List k_V) : kcp (some (k_o ci fs)) = 0 := rfl
def kT (g : Nat → Nat) (a : Nat) (h : k_H) : Nat := ((List.range 31).map (fun i => g (kcp (h.1 (a + i))))).sum
def k_bd : Nat → Nat := fun i => match i with
  | 2 => 20000
  | 3 => 13000
  | 4 => 20000
  | 7 => 6500
  | 11 => 15
  | 12 => 20000
  | 13 => 30
  | 14 => 40
  | 17 => 20000
  | 18 => 3200
  | 21 => 20000
  | 22 => 3200
  | 24 => 20000
  | 25 => 3200
  | 27 => 20000
  | 28 => 3200
  | _ => 0
def k_mo (a : Nat) (K : List Nat) (A : Nat → Prop) (o : Nat) (h h' : k_H) : Prop :=
  k_fr K A h h' ∧ (k_wf h → k_wf h') ∧ h.2.1 ≤ h'.2.1 ∧ h'.2.1 + kT kg1 a h ≤ h.2.1 + kT kg1 a h' + o ∧ h'.2.2 + kT kg2 a h ≤ h.2.2 + kT kg2 a h' + 6 * o ∧ ∀ i, i < 31 → kcp (h.1 (a + i)) ≤ k_bd i → kcp (h'.1 (a + i)) ≤ k_bd i
theorem mv_refl (a : Nat) (K : List Nat) (A : Nat → Prop) (h : k_H) : k_mo a K A 0 h h := ⟨fun _ _ h _ _ => h, fun w => w, Nat.le_refl _, by omega, by omega, fun _ _ h => h⟩
theorem mv_trans {a : Nat} {K : List Nat} {A : Nat → Prop} {o p : Nat} {h h1 h2 : k_H} (x : k_mo a K A o h h1) (y : k_mo a K A p h1 h2) : k_mo a K A (o + p) h h2 := by
  obtain ⟨x1, x2, x3, x4, x5, x6⟩ := x
  obtain ⟨y1, y2, y3, y4, y5, y6⟩ := y
  exact ⟨fun q c hq hA hK => y1 q c (x1 q c hq hA hK) hA hK, fun w => y2 (x2 w), by omega, by omega, by omega, fun i hi hb => y6 i hi (x6 i hi hb)⟩
theorem mv_mono {a : Nat} {K K' : List Nat} {A A' : Nat → Prop} {o o' : Nat} {h h' : k_H} (x : k_mo a K A o h h') (hK : ∀ k ∈ K, k ∈ K') (hA : ∀ q, A q → A' q) (ho : o ≤ o') : k_mo a K' A' o' h h' := by
  obtain ⟨x1, x2, x3, x4, x5, x6⟩ := x
  exact ⟨fun q c hq h1 h2 => x1 q c hq (fun z => h1 (hA q z)) (fun ci fs e z => h2 ci fs e (hK _ z)), x2, x3, by omega, by omega, x6⟩
theorem kT_eq {g : Nat → Nat} {a : Nat} {h h' : k_H} (e : ∀ i, i < 31 → kcp (h'.1 (a + i)) = kcp (h.1 (a + i))) : kT g a h' = kT g a h := by
  unfold kT
  congr 1
  refine List.map_congr_left fun i hi => ?_
  rw [e i (List.mem_range.mp hi)]
theorem sum_one {f f' : Nat → Nat} {j : Nat} : ∀ {n : Nat}, j < n → (∀ i, i < n → i ≠ j → f' i = f i) → ((List.range n).map f').sum + f j = ((List.range n).map f).sum + f' j := by
  intro n
  induction n with
  | zero => intro h; omega
  | succ n ih =>
    intro hj he
    rw [List.range_succ, List.map_append, List.map_append, List.sum_append, List.sum_append]
    simp only [List.map_cons, List.map_nil, List.sum_cons, List.sum_nil]
    by_cases e : j = n
    · subst e
      have : (List.range j).map f' = (List.range j).map f := List.map_congr_left fun i hi => he i (by have := List.mem_range.mp hi; omega) (by have := List.mem_range.mp hi; omega)
      rw [this]
      omega
    · have := ih (by omega) (fun i hi hne => he i (by omega) hne)
      have h2 := he n (by omega) (by omega)
      omega
theorem kT_one {g : Nat → Nat} {a j : Nat} {h h' : k_H} (hj : j < 31) (e : ∀ i, i < 31 → i ≠ j → kcp (h'.1 (a + i)) = kcp (h.1 (a + i))) : kT g a h' + g (kcp (h.1 (a + j))) = kT g a h + g (kcp (h'.1 (a + j))) := by
  unfold kT
  exact sum_one (f := fun i => g (kcp (h.1 (a + i)))) (f' := fun i => g (kcp (h'.1 (a + i)))) hj (fun i hi hne => by rw [e i hi hne])
theorem kg1_nc (c : Nat) : kg1 c + 1 ≤ kg1 (k_nc c) := by
  unfold kg1 k_nc
  by_cases e : c = 0
  · subst e; decide
  · rw [if_neg e]
    split <;> split <;> omega
theorem kg2_nc (c : Nat) : kg2 c + k_nc c ≤ kg2 (k_nc c) := by
  unfold kg2 k_nc
  split <;> omega
theorem gw_g1 {m : Nat} : ∀ {k c c' n : Nat}, k_gw m k c c' n → k + kg1 c ≤ kg1 c' ∧ n + kg2 c ≤ kg2 c' ∧ c' ≤ max c (m + m / 2 + 10) := by
  intro k
  induction k with
  | zero =>
    rintro c c' n ⟨rfl, rfl⟩
    exact ⟨by omega, by omega, by omega⟩
  | succ k ih =>
    rintro c c' n ⟨h1, n1, h2, rfl⟩
    obtain ⟨i1, i2, i3⟩ := ih h2
    have a1 := kg1_nc c
    have a2 := kg2_nc c
    have a3 : k_nc c ≤ m + m / 2 + 10 := by
      unfold k_nc
      split <;> omega
    exact ⟨by omega, by omega, by omega⟩
theorem wf_up {h : k_H} {q : Nat} {c c0 : k_C} (w : k_wf h) (hq : h.1 q = some c0) : k_wf (k_up h q c) := by
  intro p d hp
  by_cases e : p = q
  · rw [e]; exact w q c0 hq
  · rw [k_up_ne _ _ e] at hp; exact w p d hp
theorem wf_nw {h : k_H} {n : Nat} {c : k_C} (w : k_wf h) : k_wf (k_nw h n c) := by
  intro p d hp
  show p < h.2.1 + 1
  by_cases e : p = h.2.1
  · omega
  · rw [k_nw_ne _ _ _ e] at hp
    have := w p d hp
    omega
theorem mv_o {a : Nat} {K : List Nat} {A : Nat → Prop} {h : k_H} {q ci : Nat} {fs fs' : List k_V} (ho : h.1 q = some (k_o ci fs)) (hq : ci ∈ K ∨ A q) : k_mo a K A 0 h (k_up h q (k_o ci fs')) := by
  have ek : ∀ p, kcp ((k_up h q (k_o ci fs')).1 p) = kcp (h.1 p) := by
    intro p
    by_cases e : p = q
    · rw [e, k_up_self, ho]; rfl
    · rw [k_up_ne _ _ e]
  have e1 : kT kg1 a (k_up h q (k_o ci fs')) = kT kg1 a h := kT_eq (fun i _ => ek _)
  have e2 : kT kg2 a (k_up h q (k_o ci fs')) = kT kg2 a h := kT_eq (fun i _ => ek _)
  refine ⟨fun p c hp hA hK => ?_, fun w => wf_up w ho, Nat.le_refl _, ?_, ?_, fun i hi hb => ?_⟩
  · have hne : p ≠ q := fun z => by
      rw [z, ho] at hp
      rcases hq with k | k
      · exact hK ci fs (Option.some.inj hp).symm k
      · exact hA (z ▸ k)
    rw [k_up_ne _ _ hne]
    exact hp
  · rw [e1]
    show h.2.1 + kT kg1 a h ≤ h.2.1 + kT kg1 a h + 0
    omega
  · rw [e2]
    show h.2.2 + kT kg2 a h ≤ h.2.2 + kT kg2 a h + 6 * 0
    omega
  · rw [ek]; exact hb
theorem mv_nw {a : Nat} {K : List Nat} {A : Nat → Prop} {h : k_H} {n : Nat} {c : k_C} (w : k_wf h) (ha : a + 31 ≤ h.2.1) (hn : n ≤ 6) : k_mo a K A 1 h (k_nw h n c) := by
  have ek : ∀ i, i < 31 → kcp ((k_nw h n c).1 (a + i)) = kcp (h.1 (a + i)) := fun i hi => by rw [k_nw_ne _ _ _ (by omega)]
  have e1 : kT kg1 a (k_nw h n c) = kT kg1 a h := kT_eq ek
  have e2 : kT kg2 a (k_nw h n c) = kT kg2 a h := kT_eq ek
  refine ⟨fun p d hp _ _ => nw_old w hp, fun w => wf_nw w, Nat.le_succ _, ?_, ?_, fun i hi hb => by rw [ek i hi]; exact hb⟩
  · rw [e1]
    show h.2.1 + 1 + _ ≤ _
    omega
  · rw [e2]
    show h.2.2 + n + _ ≤ _
    omega
theorem mv_l {a : Nat} {K : List Nat} {A : Nat → Prop} {h : k_H} {i m k n cap cap' : Nat} {xs ys : List Nat} (ho : h.1 (a + i) = some (k_l xs cap)) (hi : i < 31) (hA : A (a + i)) (g : k_gw m k cap cap' n) (hm : m + m / 2 + 10 ≤ k_bd i) : k_mo a K A 0 h (k_sk (k_up h (a + i) (k_l ys cap')) k n) := by
  obtain ⟨g1, g2, g3⟩ := gw_g1 g
  have es : (k_up h (a + i) (k_l ys cap')).1 (a + i) = some (k_l ys cap') := k_up_self _ _ _
  have ek : ∀ j, j < 31 → j ≠ i → kcp ((k_up h (a + i) (k_l ys cap')).1 (a + j)) = kcp (h.1 (a + j)) := fun j hj hne => by rw [k_up_ne _ _ (by omega)]
  have t1 := kT_one (g := kg1) (a := a) hi ek
  have t2 := kT_one (g := kg2) (a := a) hi ek
  rw [es, ho, kcp_l, kcp_l] at t1 t2
  have f1 : kT kg1 a (k_sk (k_up h (a + i) (k_l ys cap')) k n) = kT kg1 a (k_up h (a + i) (k_l ys cap')) := rfl
  have f2 : kT kg2 a (k_sk (k_up h (a + i) (k_l ys cap')) k n) = kT kg2 a (k_up h (a + i) (k_l ys cap')) := rfl
  refine ⟨fun p c hp hA' _ => ?_, fun w => k_wf_sk (wf_up w ho), ?_, ?_, ?_, fun j hj hb => ?_⟩
  · show (k_up h (a + i) (k_l ys cap')).1 p = _
    rw [k_up_ne _ _ (show p ≠ a + i from fun z => hA' (z ▸ hA))]
    exact hp
  · show h.2.1 ≤ h.2.1 + k
    omega
  · rw [f1]
    show h.2.1 + k + _ ≤ _
    omega
  · rw [f2]
    show h.2.2 + n + _ ≤ _
    omega
  · show kcp ((k_up h (a + i) (k_l ys cap')).1 (a + j)) ≤ _
    by_cases e : j = i
    · subst e
      rw [es, kcp_l]
      rw [ho, kcp_l] at hb
      omega
    · rw [ek j hj e]
      exact hb
theorem k_sk0 (h : k_H) : k_sk h 0 0 = h := rfl
theorem mv_lu {a : Nat} {K : List Nat} {A : Nat → Prop} {h : k_H} {i cap : Nat} {xs ys : List Nat} (ho : h.1 (a + i) = some (k_l xs cap)) (hi : i < 31) (hA : A (a + i)) : k_mo a K A 0 h (k_up h (a + i) (k_l ys cap)) := by
  have ek : ∀ p, kcp ((k_up h (a + i) (k_l ys cap)).1 p) = kcp (h.1 p) := by
    intro p
    by_cases e : p = a + i
    · rw [e, k_up_self, ho]; rfl
    · rw [k_up_ne _ _ e]
  have e1 : kT kg1 a (k_up h (a + i) (k_l ys cap)) = kT kg1 a h := kT_eq (fun i _ => ek _)
  have e2 : kT kg2 a (k_up h (a + i) (k_l ys cap)) = kT kg2 a h := kT_eq (fun i _ => ek _)
  refine ⟨fun p c hp hA' _ => ?_, fun w => wf_up w ho, Nat.le_refl _, ?_, ?_, fun j hj hb => ?_⟩
  · rw [k_up_ne _ _ (show p ≠ a + i from fun z => hA' (z ▸ hA))]
    exact hp
  · rw [e1]
    show h.2.1 + kT kg1 a h ≤ h.2.1 + kT kg1 a h + 0
    omega
  · rw [e2]
    show h.2.2 + kT kg2 a h ≤ h.2.2 + kT kg2 a h + 6 * 0
    omega
  · rw [ek]; exact hb
theorem gr_gw (h : k_H) (q : Nat) (ys : List Nat) (n cap : Nat) : ∃ cap' k' n', k_gr h q ys n cap = k_sk (k_up h q (k_l ys cap')) k' n' ∧ k_gw n k' cap cap' n' := by
  unfold k_gr
  by_cases e : n < cap
  · rw [if_pos e]
    exact ⟨cap, 0, 0, rfl, rfl, rfl⟩
  · rw [if_neg e]
    exact ⟨k_nc cap, 1, k_nc cap, rfl, by omega, 0, ⟨rfl, rfl⟩, rfl⟩
theorem mv_gr {a : Nat} {K : List Nat} {A : Nat → Prop} {h : k_H} {i n cap : Nat} {xs ys : List Nat} (ho : h.1 (a + i) = some (k_l xs cap)) (hi : i < 31) (hA : A (a + i)) (hm : n + n / 2 + 10 ≤ k_bd i) : k_mo a K A 0 h (k_gr h (a + i) ys n cap) := by
  obtain ⟨cap', k', n', e, g⟩ := gr_gw h (a + i) ys n cap
  rw [e]
  exact mv_l ho hi hA g hm
theorem mv_sk {a : Nat} {K : List Nat} {A : Nat → Prop} {h : k_H} : k_mo a K A 1 h (k_sk h 1 6) := by
  refine ⟨fun _ _ h _ _ => h, k_wf_sk, Nat.le_succ _, ?_, ?_, fun _ _ h => h⟩
  · show h.2.1 + 1 + kT kg1 a h ≤ h.2.1 + kT kg1 a h + 1
    omega
  · show h.2.2 + 6 + kT kg2 a h ≤ h.2.2 + kT kg2 a h + 6 * 1
    omega
theorem gr_at (h : k_H) (q : Nat) (ys : List Nat) (n cap : Nat) : ∃ cap', (k_gr h q ys n cap).1 q = some (k_l ys cap') := by
  obtain ⟨cap', k', n', e, g⟩ := gr_gw h q ys n cap
  rw [e]
  exact ⟨cap', k_up_self _ _ _⟩
theorem gr_ne (h : k_H) {q p : Nat} (ys : List Nat) (n cap : Nat) (hne : p ≠ q) : (k_gr h q ys n cap).1 p = h.1 p := by
  obtain ⟨cap', k', n', e, g⟩ := gr_gw h q ys n cap
  rw [e]
  exact k_up_ne _ _ hne
