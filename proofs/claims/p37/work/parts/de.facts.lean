/-! WHAT THE LAW ASKS OF THE INDEXES, out of what they have -/
section FCT
variable {U : j_U}
def i_has (U : j_U) (k : Nat) : Bool := (U (wR k)).isSome
/-- keys of a layer, counted by records -/
theorem len_cnt {K : List k_K2} (s : K.Pairwise (fun x y => x.1 < y.1)) {lo hi : Nat} (inK : ∀ c, (U c).isSome = true → ∃ q, (c, q) ∈ K) (f : Nat → Nat) (P : Nat → Bool) (h1 : ∀ c, lo ≤ c → c < hi → (U c).isSome = true → f c < 12 ∧ P (f c) = true)
    (inj : ∀ c c', lo ≤ c → c < hi → (U c).isSome = true → lo ≤ c' → c' < hi → (U c').isSome = true → f c = f c' → c = c') (sur : ∀ k, k < 12 → P k = true → ∃ c, lo ≤ c ∧ c < hi ∧ (U c).isSome = true ∧ f c = k) : (r_flt lo hi (fun c => (U c).isSome) K).length = (List.range 12).countP P := by
  have mem : ∀ x, x ∈ r_flt lo hi (fun c => (U c).isSome) K ↔ x ∈ K ∧ lo ≤ x.1 ∧ x.1 < hi ∧ (U x.1).isSome = true := fun x => by
    unfold r_flt
    rw [List.mem_filter, Bool.and_eq_true, Bool.and_eq_true, decide_eq_true_eq, decide_eq_true_eq, and_assoc]
  rw [List.countP_eq_length_filter]
  have e : (r_flt lo hi (fun c => (U c).isSome) K).length = ((r_flt lo hi (fun c => (U c).isSome) K).map (fun x => f x.1)).length := (List.length_map _).symm
  rw [e]
  have srt : (r_flt lo hi (fun c => (U c).isSome) K).Pairwise (fun x y => x.1 < y.1) := s.filter _
  refine Nat.le_antisymm (nd_len ?_ ?_) (nd_len ?_ ?_)
  · rw [List.pairwise_map]
    refine srt.imp_of_mem fun {x y} hx hy lt q => ?_
    obtain ⟨-, a1, a2, a3⟩ := (mem x).mp hx
    obtain ⟨-, b1, b2, b3⟩ := (mem y).mp hy
    have := inj _ _ a1 a2 a3 b1 b2 b3 q
    omega
  · intro k hk
    obtain ⟨x, hx, rfl⟩ := List.mem_map.mp hk
    obtain ⟨-, a1, a2, a3⟩ := (mem x).mp hx
    obtain ⟨b1, b2⟩ := h1 _ a1 a2 a3
    exact List.mem_filter.mpr ⟨List.mem_range.mpr b1, b2⟩
  · exact (List.nodup_range (n := 12)).filter _
  · intro k hk
    obtain ⟨k1, k2⟩ := List.mem_filter.mp hk
    obtain ⟨c, c1, c2, c3, c4⟩ := sur k (List.mem_range.mp k1) k2
    obtain ⟨q, hq⟩ := inK c c3
    exact List.mem_map.mpr ⟨(c, q), (mem _).mpr ⟨hq, c1, c2, c3⟩, c4⟩
variable {K : List k_K2}
theorem cnt_R (A : j_A U) (s : K.Pairwise (fun x y => x.1 < y.1)) (inK : ∀ c, (U c).isSome = true → ∃ q, (c, q) ∈ K) : (r_flt 120879000000 121000000000 (fun c => (U c).isSome) K).length = (List.range 12).countP (i_has U) := by
  have at_ : ∀ c, 120879000000 ≤ c → c < 121000000000 → (U c).isSome = true → ∃ k, k < 12 ∧ c = wR k := fun c h1 h2 h => by
    obtain ⟨v, hv⟩ := Option.isSome_iff_exists.mp h
    obtain ⟨k, j, a, -, b, -⟩ := A.1 c v h1 h2 hv
    exact ⟨k, a, b⟩
  refine len_cnt s inK (fun c => (c - 120890000000) / 11000) _ (fun c h1 h2 h => ?_) (fun c c' h1 h2 h h1' h2' h' e => ?_) (fun k hk h => ?_)
  · obtain ⟨k, a, rfl⟩ := at_ c h1 h2 h
    have : (wR k - 120890000000) / 11000 = k := by unfold wR; omega
    show (wR k - 120890000000) / 11000 < 12 ∧ _
    rw [this]; exact ⟨a, h⟩
  · obtain ⟨k, a, rfl⟩ := at_ c h1 h2 h
    obtain ⟨k', a', rfl⟩ := at_ c' h1' h2' h'
    have e : (wR k - 120890000000) / 11000 = (wR k' - 120890000000) / 11000 := e
    unfold wR at e ⊢; omega
  · exact ⟨wR k, by unfold wR; omega, by unfold wR; omega, h, by show (wR k - 120890000000) / 11000 = k; unfold wR; omega⟩
theorem cnt_F (A : j_A U) (s : K.Pairwise (fun x y => x.1 < y.1)) (inK : ∀ c, (U c).isSome = true → ∃ q, (c, q) ∈ K) : (r_flt 120758000000 120879000000 (fun c => (U c).isSome) K).length = (List.range 12).countP (fun k => i_has U k && j_g U 0 k) := by
  have at_ : ∀ c, 120758000000 ≤ c → c < 120879000000 → (U c).isSome = true → ∃ k j, k < 12 ∧ j < 100 ∧ c = wF j k ∧ U (wR k) = some (nI j) ∧ j_g U 0 k = true := fun c h1 h2 h => by
    obtain ⟨v, hv⟩ := Option.isSome_iff_exists.mp h
    exact ((A.2.1 c h1 h2 v).mp hv).2
  refine len_cnt s inK (fun c => (c - 120769001000) % 11000) _ (fun c h1 h2 h => ?_) (fun c c' h1 h2 h h1' h2' h' e => ?_) (fun k hk h => ?_)
  · obtain ⟨k, j, a1, a2, rfl, a4, a5⟩ := at_ c h1 h2 h
    have : (wF j k - 120769001000) % 11000 = k := by unfold wF; omega
    show (wF j k - 120769001000) % 11000 < 12 ∧ _
    rw [this]
    refine ⟨a1, ?_⟩
    unfold i_has
    rw [a4, a5]; rfl
  · obtain ⟨k, j, a1, a2, rfl, a4, a5⟩ := at_ c h1 h2 h
    obtain ⟨k', j', b1, b2, rfl, b4, b5⟩ := at_ c' h1' h2' h'
    have e : (wF j k - 120769001000) % 11000 = (wF j' k' - 120769001000) % 11000 := e
    have ek : k = k' := by unfold wF at e; omega
    subst ek
    rw [a4] at b4
    rw [(som_nI (by omega) (by omega)).mp b4]
  · rw [Bool.and_eq_true] at h
    obtain ⟨v, hv⟩ := Option.isSome_iff_exists.mp h.1
    obtain ⟨k', j, a1, a2, a3, a4⟩ := A.1 _ v (by unfold wR; omega) (by unfold wR; omega) hv
    have ek : k' = k := by unfold wR at a3; omega
    subst ek
    have := (A.2.1 (wF j k') (by unfold wF; omega) (by unfold wF; omega) 0).mpr ⟨rfl, k', j, hk, a2, rfl, by rw [hv, a4], h.2⟩
    exact ⟨wF j k', by unfold wF; omega, by unfold wF; omega, by rw [this]; rfl, by show (wF j k' - 120769001000) % 11000 = k'; unfold wF; omega⟩
theorem cnt_W {n : Nat} (hn : n < 9000) (W : j_W n U) (s : K.Pairwise (fun x y => x.1 < y.1)) (inK : ∀ c, (U c).isSome = true → ∃ q, (c, q) ∈ K) : (r_flt 120516000000 120637000000 (fun c => (U c).isSome) K).length = (List.range 12).countP (fun k => i_has U k && j_g U 2 k) := by
  have at_ : ∀ c, 120516000000 ≤ c → c < 120637000000 → (U c).isSome = true → ∃ u k, u ≤ n ∧ k < 12 ∧ c = wW u k ∧ (U (wR k)).isSome = true ∧ j_g U 2 k = true := fun c h1 h2 h => by
    obtain ⟨v, hv⟩ := Option.isSome_iff_exists.mp h
    obtain ⟨u, k, b1, b2, b3, b4, b5, b6⟩ := W.1 c v h1 h2 hv
    exact ⟨u, k, b2, b3, b4, by rw [b5]; rfl, b6⟩
  refine len_cnt s inK (fun c => (c - 120527001000) % 11000) _ (fun c h1 h2 h => ?_) (fun c c' h1 h2 h h1' h2' h' e => ?_) (fun k hk h => ?_)
  · obtain ⟨u, k, a1, a2, rfl, a4, a5⟩ := at_ c h1 h2 h
    have : (wW u k - 120527001000) % 11000 = k := by unfold wW; omega
    show (wW u k - 120527001000) % 11000 < 12 ∧ _
    rw [this]
    refine ⟨a2, ?_⟩
    unfold i_has
    rw [a4, a5]; rfl
  · obtain ⟨u, k, a1, a2, rfl, a4, a5⟩ := at_ c h1 h2 h
    obtain ⟨u', k', b1, b2, rfl, b4, b5⟩ := at_ c' h1' h2' h'
    have e : (wW u k - 120527001000) % 11000 = (wW u' k' - 120527001000) % 11000 := e
    have ek : k = k' := by unfold wW at e; omega
    subst ek
    rw [W.2.2 k u u' a2 (by omega) (by omega) h h']
  · rw [Bool.and_eq_true] at h
    obtain ⟨v, hv⟩ := Option.isSome_iff_exists.mp h.1
    obtain ⟨u, hu, a⟩ := W.2.1 k v hk hv h.2
    exact ⟨wW u k, by unfold wW; omega, by unfold wW; omega, a, by show (wW u k - 120527001000) % 11000 = k; unfold wW; omega⟩
/-! .. the ranks -/
def x_sum (f : Nat → Nat) : Nat → Nat
  | 0 => 0
  | n + 1 => x_sum f n + f n
theorem xs_0 {f : Nat → Nat} : ∀ n, (∀ k, k < n → f k = 0) → x_sum f n = 0 := by
  intro n
  induction n with
  | zero => intro _; rfl
  | succ n ih => intro h; show x_sum f n + f n = 0; rw [ih (fun k hk => h k (by omega)), h n (by omega)]
theorem xs_cg {f g : Nat → Nat} : ∀ n, (∀ k, k < n → f k = g k) → x_sum f n = x_sum g n := by
  intro n
  induction n with
  | zero => intro _; rfl
  | succ n ih => intro h; show x_sum f n + f n = x_sum g n + g n; rw [ih (fun k hk => h k (by omega)), h n (by omega)]
theorem xs_add (f g : Nat → Nat) : ∀ n, x_sum (fun k => f k + g k) n = x_sum f n + x_sum g n := by
  intro n
  induction n with
  | zero => rfl
  | succ n ih => show x_sum (fun k => f k + g k) n + (f n + g n) = x_sum f n + f n + (x_sum g n + g n); omega
theorem xs_swap (f : Nat → Nat → Nat) (m : Nat) : ∀ n, x_sum (fun j => x_sum (fun k => f j k) m) n = x_sum (fun k => x_sum (fun j => f j k) n) m := by
  intro n
  induction n with
  | zero => exact (xs_0 m (fun _ _ => rfl)).symm
  | succ n ih =>
    show x_sum (fun j => x_sum (fun k => f j k) m) n + x_sum (fun k => f n k) m = x_sum (fun k => x_sum (fun j => f j k) n + f n k) m
    rw [ih, xs_add]
theorem xs_one {i n : Nat} : x_sum (fun j => if j = i then 1 else 0) n = if i < n then 1 else 0 := by
  induction n with
  | zero => rfl
  | succ n ih =>
    show x_sum _ n + (if n = i then 1 else 0) = _
    rw [ih]
    by_cases a : i < n
    · rw [if_pos a, if_neg (by omega), if_pos (by omega)]
    · by_cases b : n = i
      · rw [if_neg a, if_pos b, if_pos (by omega)]
      · rw [if_neg a, if_neg b, if_neg (by omega)]
theorem xs_fold {g : Nat → Int32} {f : Nat → Nat} : ∀ (len s : Nat) (a : Nat), (∀ k, s ≤ k → k < s + len → g k = nI (f k)) → (List.range' s len).foldl (fun a k => a + g k) (nI a) = nI (a + x_sum (fun k => f (s + k)) len) := by
  intro len
  induction len with
  | zero => intro s a _; rfl
  | succ len ih =>
    intro s a h
    rw [List.range'_succ, List.foldl_cons, h s (Nat.le_refl _) (by omega), nI_add, ih (s + 1) (a + f s) (fun k h1 h2 => h k (by omega) (by omega))]
    congr 1
    have key : ∀ n, x_sum (fun k => f (s + k)) (n + 1) = f s + x_sum (fun k => f (s + 1 + k)) n := by
      intro n
      induction n with
      | zero => show 0 + f (s + 0) = f s + 0; rw [Nat.add_zero]; omega
      | succ n ih2 =>
        show x_sum (fun k => f (s + k)) (n + 1) + f (s + (n + 1)) = f s + (x_sum (fun k => f (s + 1 + k)) n + f (s + 1 + n))
        rw [ih2, show s + (n + 1) = s + 1 + n from by omega]
        omega
    rw [key]
    omega
theorem cnt_xs (P : Nat → Bool) : ∀ n, (List.range n).countP P = x_sum (fun k => if P k = true then 1 else 0) n := by
  intro n
  induction n with
  | zero => rfl
  | succ n ih =>
    rw [List.range_succ, List.countP_append, List.countP_singleton, ih]
    rfl
end FCT
theorem rank_eq {M : s_M} (A : j_A (g_U M (g_n M))) {f : Nat} (hf : f < 100) (hon : ∀ k, k < 12 → j_g (g_U M (g_n M)) 1 k = true) : rk_sum M (nI f) false = rk_sum M (nI f) true := by
  have v : ∀ c, rk_v M c = g_U M (g_n M) c := fun _ => rfl
  have ltf : ∀ k, k < 200 → (¬ nI f ≤ nI k ↔ k < f) := fun k hk => by rw [nI_leI (by omega) (by omega)]; omega
  have f0 : ∀ k, 0 ≤ k → k < 0 + 100 → rk_1 M (nI f) false k = nI (if k < f then j_c (g_U M (g_n M)) k else 0) := fun k _ hk => by
    unfold rk_1
    rw [if_neg (by decide), wN_eq (by omega), v]
    have hN := A.2.2 k (by omega)
    by_cases c : k < f
    · rw [if_pos c, decide_eq_true ((ltf k (by omega)).mpr c), Bool.and_true]
      cases e : g_U M (g_n M) (wN k) with
      | none =>
        rw [e] at hN
        rw [if_neg (by decide)]
        exact hN
      | some x =>
        rw [e] at hN
        rw [if_pos (by rfl)]
        exact hN
    · rw [if_neg c, decide_eq_false (fun z => c ((ltf k (by omega)).mp z)), Bool.and_false, if_neg (by decide)]
      rfl
  have f1 : ∀ k, 0 ≤ k → k < 0 + 100 → rk_1 M (nI f) true k = nI (x_sum (fun j => if j < f ∧ k < 12 ∧ g_U M (g_n M) (wR k) = some (nI j) then 1 else 0) 100) := fun k _ hk => by
    unfold rk_1
    rw [if_pos rfl, wR_eq (by omega), v]
    cases e : g_U M (g_n M) (wR k) with
    | none =>
      rw [if_neg (by rw [Option.isSome_none, Bool.false_and]; decide), xs_0]
      · rfl
      · intro j _; rw [if_neg (fun z => by cases z.2.2)]
    | some x =>
      obtain ⟨k', i, a1, a2, a3, a4⟩ := A.1 _ x (by unfold wR; omega) (by unfold wR; omega) e
      have ek : k' = k := by unfold wR at a3; omega
      subst ek
      rw [a4]
      have hs : x_sum (fun j => if j < f ∧ k' < 12 ∧ (some (nI i) : Option Int32) = some (nI j) then 1 else 0) 100 = if i < f then 1 else 0 := by
        have : x_sum (fun j => if j < f ∧ k' < 12 ∧ (some (nI i) : Option Int32) = some (nI j) then 1 else 0) 100 = x_sum (fun j => if j = i then (if i < f then 1 else 0) else 0) 100 := by
          refine xs_cg 100 fun j hj => ?_
          by_cases q : j = i
          · subst q
            rw [if_pos rfl]
            by_cases p : j < f
            · rw [if_pos ⟨p, a1, rfl⟩, if_pos p]
            · rw [if_neg (fun z => p z.1), if_neg p]
          · rw [if_neg q, if_neg (fun z => q ((som_nI (by omega) (by omega)).mp z.2.2).symm)]
        rw [this]
        by_cases p : i < f
        · simp only [if_pos p]
          rw [xs_one, if_pos a2]
        · simp only [if_neg p]
          refine xs_0 100 fun j _ => ?_
          split <;> rfl
      rw [hs]
      show (if (true && decide (¬ nI f ≤ nI i)) = true then (1 : Int32) else 0) = _
      rw [Bool.true_and]
      by_cases p : i < f
      · rw [if_pos p, if_pos (decide_eq_true ((ltf i (by omega)).mpr p))]; rfl
      · rw [if_neg p, if_neg (fun z => p ((ltf i (by omega)).mp (of_decide_eq_true z)))]; rfl
  unfold rk_sum
  rw [show (0 : Int32) = nI 0 from rfl, xs_fold 100 0 0 f0, xs_fold 100 0 0 f1]
  refine congrArg nI (congrArg (fun z => 0 + z) ?_)
  have e : ∀ k, k < 100 → (if 0 + k < f then j_c (g_U M (g_n M)) (0 + k) else 0) = x_sum (fun q => if 0 + k < f ∧ q < 12 ∧ g_U M (g_n M) (wR q) = some (nI (0 + k)) then 1 else 0) 100 := fun k hk => by
    rw [Nat.zero_add]
    by_cases c : k < f
    · rw [if_pos c]
      unfold j_c
      rw [cnt_xs]
      have ext : x_sum (fun q => if k < f ∧ q < 12 ∧ g_U M (g_n M) (wR q) = some (nI k) then 1 else 0) 100 = x_sum (fun q => if k < f ∧ q < 12 ∧ g_U M (g_n M) (wR q) = some (nI k) then 1 else 0) 12 := by
        have : ∀ d, x_sum (fun q => if k < f ∧ q < 12 ∧ g_U M (g_n M) (wR q) = some (nI k) then 1 else 0) (12 + d) = x_sum (fun q => if k < f ∧ q < 12 ∧ g_U M (g_n M) (wR q) = some (nI k) then 1 else 0) 12 := by
          intro d
          induction d with
          | zero => rfl
          | succ d ih =>
            show x_sum _ (12 + d) + (if k < f ∧ 12 + d < 12 ∧ _ then 1 else 0) = _
            rw [ih, if_neg (fun z => by omega), Nat.add_zero]
        exact this 88
      rw [ext]
      refine xs_cg 12 fun q hq => ?_
      rw [hon q hq, Bool.and_true]
      by_cases p : g_U M (g_n M) (wR q) = some (nI k)
      · rw [if_pos (decide_eq_true p), if_pos ⟨c, hq, p⟩]
      · rw [if_neg (fun z => p (of_decide_eq_true z)), if_neg (fun z => p z.2.2)]
    · rw [if_neg c]
      exact (xs_0 100 (fun q _ => if_neg (fun z => c z.1))).symm
  rw [xs_cg 100 e, xs_swap (fun k q => if 0 + k < f ∧ q < 12 ∧ g_U M (g_n M) (wR q) = some (nI (0 + k)) then 1 else 0)]
  refine xs_cg 100 fun q _ => ?_
  simp only [Nat.zero_add]
