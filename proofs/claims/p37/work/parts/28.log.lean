section
/-! THE STORE'S LOG: what commits made of keys, newest first: (address, code, version, value) -/
abbrev k_E4 : Type := Nat × Nat × Nat × Option Int32
/-- the newest one of a code; the one that tells of a version -/
def r_fst (c : Nat) (t : List k_E4) : Option Nat := (t.find? (fun x => x.2.1 == c)).map (fun x => x.1)
def r_get (c n : Nat) (t : List k_E4) : Option k_E4 := t.find? (fun x => x.2.1 == c && decide (x.2.2.1 ≤ n))
def r_look (c n : Nat) (t : List k_E4) : Option Nat := (r_get c n t).map (fun x => x.1)
abbrev o_ent (k v : Nat) (b e : Option Nat) (o : Option Int32) : k_C := k_o 6 [vR (some k), vI (nI v), vR b, vR e, vI (kB o.isSome), vI (o.getD 0)]
def r_log (h : k_H) (ka : Nat → Nat) : List k_E4 → Prop
  | [] => True
  | x :: t => h.1 x.1 = some (o_ent (ka x.2.1) x.2.2.1 (r_fst x.2.1 t) (t.head?.map (fun y => y.1)) x.2.2.2) ∧ r_log h ka t
theorem r_fst_eq {c : Nat} {x : k_E4} {t : List k_E4} (e : x.2.1 = c) : r_fst c (x :: t) = some x.1 := by
  unfold r_fst
  rw [List.find?_cons_of_pos (by simp [e])]
  rfl
theorem r_fst_ne {c : Nat} {x : k_E4} {t : List k_E4} (e : ¬ x.2.1 = c) : r_fst c (x :: t) = r_fst c t := by
  unfold r_fst
  rw [List.find?_cons_of_neg (by simp [e])]
theorem r_get_eq {c n : Nat} {x : k_E4} {t : List k_E4} (e : x.2.1 = c) (h : x.2.2.1 ≤ n) : r_get c n (x :: t) = some x := by
  unfold r_get
  rw [List.find?_cons_of_pos (by simp [e, h])]
theorem r_get_ne {c n : Nat} {x : k_E4} {t : List k_E4} (h : ¬ (x.2.1 = c ∧ x.2.2.1 ≤ n)) : r_get c n (x :: t) = r_get c n t := by
  unfold r_get
  rw [List.find?_cons_of_neg]
  simp only [Bool.and_eq_true, beq_iff_eq, decide_eq_true_eq]
  exact h
theorem r_log_mem {h : k_H} {ka : Nat → Nat} {t : List k_E4} (hl : r_log h ka t) {x : k_E4} (hx : x ∈ t) : ∃ b e, h.1 x.1 = some (o_ent (ka x.2.1) x.2.2.1 b e x.2.2.2) := by
  induction t with
  | nil => cases hx
  | cons y t ih =>
    rcases List.mem_cons.mp hx with rfl | hx
    · exact ⟨_, _, hl.1⟩
    · exact ih hl.2 hx
section LG
variable {G : k_G} {l : Launch}
theorem c_X4_entryIn (ok : k_ok G l) {h : k_H} {a c n : Nat} {f0 : k_V} {ka : Nat → Nat} {L : List k_E4} (ho : h.1 a = some (k_o 7 [f0, vR (r_fst c L)])) (hL : r_log h ka L) (hv : ∀ x ∈ L, x.2.2.1 < 2 ^ 31) (hn : n < 2 ^ 31) : k_ctr (tX4_entryIn G l) [vR (some a), vI (nI n)] h (fun h' v => h' = h ∧ v = r_look c n L) := by
  refine k_ctr_of (eX4_entryIn ok.2 (bX4_entryIn_0 ho rfl ?_))
  have key : ∀ t : List k_E4, r_log h ka t → (∀ x ∈ t, x.2.2.1 < 2 ^ 31) → k_X (jX4_entryIn G l h) h 5 [(1, vI (nI n)), (2, vR (r_fst c t))] [] (q_r (fun h' v => h' = h ∧ v = r_look c n t)) := by
    intro t
    induction t with
    | nil => exact fun _ _ => bX4_entryIn_5 (fun _ => bX4_entryIn_25 ⟨_, rfl, rfl, rfl⟩) (fun b hb => by cases hb)
    | cons x t ih =>
      intro hl hx
      by_cases e : x.2.1 = c
      · rw [r_fst_eq e]
        refine bX4_entryIn_5 (fun c => by cases c) (fun b hb => ?_)
        cases hb
        refine bX4_entryIn_9 hl.1 rfl (fun c1 => ?_) (fun c1 => ?_)
        · have c2 := (nI_leI (hx x (List.mem_cons_self ..)) hn).mp c1
          refine bX4_entryIn_25 ⟨_, rfl, rfl, ?_⟩
          unfold r_look
          rw [r_get_eq e c2]
          rfl
        · have c2 : ¬ x.2.2.1 ≤ n := fun z => c1 ((nI_leI (hx x (List.mem_cons_self ..)) hn).mpr z)
          refine bX4_entryIn_17 hl.1 rfl ?_
          have := ih hl.2 (fun y hy => hx y (List.mem_cons_of_mem _ hy))
          rw [e]
          unfold r_look at this ⊢
          rw [r_get_ne (fun z => c2 z.2)]
          exact this
      · rw [r_fst_ne e]
        have := ih hl.2 (fun y hy => hx y (List.mem_cons_of_mem _ hy))
        unfold r_look at this ⊢
        rw [r_get_ne (fun z => e z.1)]
        exact this
  exact key L hL hv
/-- two entries, or none, alike -/
theorem c_X3_alike (ok : k_ok G l) {h : k_H} {x y : Option Nat} {o q : Option Int32} (hx : (x = none ∧ o = none) ∨ (∃ a k v b e, x = some a ∧ h.1 a = some (o_ent k v b e o))) (hy : (y = none ∧ q = none) ∨ (∃ a k v b e, y = some a ∧ h.1 a = some (o_ent k v b e q))) : k_cti (tX3_alike G l) [vR x, vR y] h (fun h' v => h' = h ∧ v = kB (decide (o = q))) := by
  refine k_cti_of (eX3_alike ok.2 ?_)
  have ky : q.isSome = false → k_X (jX3_alike G l h) h 11 [(1, vR y)] [] (q_i (fun h' v => h' = h ∧ v = 1)) := fun hq => by
    refine bX3_alike_11 (fun _ => bX3_alike_22 (bX3_alike_27 (Or.inr rfl) ⟨_, rfl, rfl, rfl⟩)) (fun b hb => ?_)
    rcases hy with ⟨rfl, rfl⟩ | ⟨a, k, v, bb, e, rfl, h9⟩
    · cases hb
    · cases hb
      exact bX3_alike_15 h9 rfl (fun c => absurd (by rw [hq]; rfl) c) (fun _ => bX3_alike_22 (bX3_alike_27 (Or.inr rfl) ⟨_, rfl, rfl, rfl⟩))
  have kn : ∀ w, q = some w → k_X (jX3_alike G l h) h 11 [(1, vR y)] [] (q_i (fun h' v => h' = h ∧ v = 0)) := fun w hq => by
    subst hq
    rcases hy with ⟨-, z⟩ | ⟨a, k, v, bb, e, rfl, h9⟩
    · cases z
    · refine bX3_alike_11 (fun c => by cases c) (fun b hb => ?_)
      cases hb
      exact bX3_alike_15 h9 rfl (fun _ => bX3_alike_26 (bX3_alike_27 (Or.inl rfl) ⟨_, rfl, rfl, rfl⟩)) (fun c => absurd c (kB_n0.mpr rfl))
  have none_case : o = none → k_X (jX3_alike G l h) h 11 [(1, vR y)] [] (q_i (fun h' v => h' = h ∧ v = kB (decide (o = q)))) := fun ho => by
    subst ho
    cases q with
    | none => exact ky rfl
    | some w => exact kn w rfl
  rcases hx with ⟨rfl, rfl⟩ | ⟨a, k, v, bb, e, rfl, h9⟩
  · exact bX3_alike_0 (fun _ => none_case rfl) (fun b hb => by cases hb)
  · refine bX3_alike_0 (fun c => by cases c) (fun b hb => ?_)
    cases hb
    cases o with
    | none => exact bX3_alike_4 h9 rfl (fun c => absurd rfl c) (fun _ => none_case rfl)
    | some w =>
      refine bX3_alike_4 h9 rfl (fun _ => ?_) (fun c => absurd c (kB_n0.mpr rfl))
      rcases hy with ⟨rfl, rfl⟩ | ⟨a2, k2, v2, b2, e2, rfl, h8⟩
      · exact bX3_alike_28 (fun _ => bX3_alike_54 (bX3_alike_55 (Or.inl rfl) ⟨_, rfl, rfl, rfl⟩)) (fun b hb => by cases hb)
      · refine bX3_alike_28 (fun c => by cases c) (fun b hb => ?_)
        cases hb
        cases q with
        | none => exact bX3_alike_32 h8 rfl (fun _ => bX3_alike_54 (bX3_alike_55 (Or.inl rfl) ⟨_, rfl, rfl, rfl⟩)) (fun c => absurd rfl c)
        | some w2 =>
          refine bX3_alike_32 h8 rfl (fun c => absurd c (kB_n0.mpr rfl)) (fun _ => ?_)
          refine bX3_alike_39 h9 rfl h8 rfl (fun c => ?_) (fun c => ?_)
          · refine bX3_alike_54 (bX3_alike_55 (Or.inl rfl) ⟨_, rfl, rfl, ?_⟩)
            have : ¬ (some w = some w2) := fun z => c (by cases z; rfl)
            rw [decide_eq_false this]; rfl
          · refine bX3_alike_50 (bX3_alike_55 (Or.inr rfl) ⟨_, rfl, rfl, ?_⟩)
            have : some w = some w2 := congrArg some c
            rw [decide_eq_true this]; rfl
end LG
/-- what a key has now -/
def r_now (c : Nat) (t : List k_E4) : Option Int32 := (t.find? (fun x => x.2.1 == c)).bind (fun x => x.2.2.2)
def r_val (c n : Nat) (t : List k_E4) : Option Int32 := (r_get c n t).bind (fun x => x.2.2.2)
theorem r_find_log {h : k_H} {ka : Nat → Nat} {t : List k_E4} (hl : r_log h ka t) {p : k_E4 → Bool} : (t.find? p = none) ∨ ∃ x, t.find? p = some x ∧ ∃ b e, h.1 x.1 = some (o_ent (ka x.2.1) x.2.2.1 b e x.2.2.2) := by
  cases e : t.find? p with
  | none => exact Or.inl rfl
  | some x => exact Or.inr ⟨x, rfl, r_log_mem hl (List.mem_of_find?_eq_some e)⟩
section LG2
variable {G : k_G} {l : Launch}
theorem c_X4_isHeld (ok : k_ok G l) {h : k_H} {a c : Nat} {f0 : k_V} {ka : Nat → Nat} {L : List k_E4} (ho : h.1 a = some (k_o 7 [f0, vR (r_fst c L)])) (hL : r_log h ka L) : k_cti (tX4_isHeld G l) [vR (some a)] h (fun h' v => h' = h ∧ v = kB (r_now c L).isSome) := by
  refine k_cti_of (eX4_isHeld ok.2 ?_)
  unfold r_now
  unfold r_fst at ho
  rcases r_find_log hL (p := fun x => x.2.1 == c) with e | ⟨x, e, b, e2, he⟩
  · rw [e] at ho ⊢
    exact bX4_isHeld_0 ho rfl (fun _ => bX4_isHeld_21 (bX4_isHeld_22 (Or.inl rfl) ⟨_, rfl, rfl, rfl⟩)) (fun b hb => by cases hb)
  · rw [e] at ho ⊢
    refine bX4_isHeld_0 ho rfl (fun c => by cases c) (fun b hb => ?_)
    show k_X _ _ _ _ _ (q_i (fun h' v => h' = h ∧ v = kB x.2.2.2.isSome))
    cases o : x.2.2.2 with
    | none =>
      rw [o] at he
      exact bX4_isHeld_7 ho rfl he rfl (fun _ => bX4_isHeld_21 (bX4_isHeld_22 (Or.inl rfl) ⟨_, rfl, rfl, rfl⟩)) (fun c => absurd rfl c)
    | some w =>
      rw [o] at he
      exact bX4_isHeld_7 ho rfl he rfl (fun c => absurd c (kB_n0.mpr rfl)) (fun _ => bX4_isHeld_17 (bX4_isHeld_22 (Or.inr rfl) ⟨_, rfl, rfl, rfl⟩))
/-- the pointer that a look-up tells, and what it has -/
theorem look_ok {h : k_H} {ka : Nat → Nat} {L : List k_E4} (hL : r_log h ka L) (c n : Nat) : (r_look c n L = none ∧ r_val c n L = none) ∨ (∃ a k v b e, r_look c n L = some a ∧ h.1 a = some (o_ent k v b e (r_val c n L))) := by
  unfold r_look r_val r_get
  rcases r_find_log hL (p := fun x => x.2.1 == c && decide (x.2.2.1 ≤ n)) with e | ⟨x, e, b, e2, he⟩
  · rw [e]; exact Or.inl ⟨rfl, rfl⟩
  · rw [e]; exact Or.inr ⟨x.1, _, _, b, e2, rfl, he⟩
theorem c_X4_turnedIn (ok : k_ok G l) {h : k_H} {a c n : Nat} {f0 : k_V} {ka : Nat → Nat} {L : List k_E4} (ho : h.1 a = some (k_o 7 [f0, vR (r_fst c L)])) (hL : r_log h ka L) (hv : ∀ x ∈ L, x.2.2.1 < 2 ^ 31) (hn : n < 2 ^ 31) (h0 : 0 < n) : k_cti (tX4_turnedIn G l) [vR (some a), vI (nI n)] h (fun h' v => h' = h ∧ v = kB (!(decide (r_val c n L = r_val c (n - 1) L)))) := by
  refine k_cti_of (eX4_turnedIn ok.2 ?_)
  refine bX4_turnedIn_0 (k_is_o ho) (c_X4_entryIn ok ho hL hv hn) ?_
  rintro _ _ ⟨rfl, rfl⟩
  have e1 : nI n - 1 = nI (n - 1) := nI_sub (b := 1) h0
  refine bX4_turnedIn_5 (k_is_o ho) (by rw [e1]; exact c_X4_entryIn ok ho hL hv (by omega)) ?_
  rintro _ _ ⟨rfl, rfl⟩
  refine bX4_turnedIn_12 (c_X3_alike ok (look_ok hL c n) (look_ok hL c (n - 1))) ?_
  rintro _ _ ⟨rfl, rfl⟩
  refine bX4_turnedIn_15 (fun c1 => ?_) (fun c1 => ?_)
  · rw [kB_n0] at c1
    exact bX4_turnedIn_22 (bX4_turnedIn_23 (Or.inl rfl) ⟨_, rfl, rfl, by rw [c1]; rfl⟩)
  · rw [kB_0] at c1
    exact bX4_turnedIn_18 (bX4_turnedIn_23 (Or.inr rfl) ⟨_, rfl, rfl, by rw [c1]; rfl⟩)
end LG2
end
section
/-! THE KEYS OF THE STORE: (code, address), by their codes; found by halving -/
theorem k_ushr {n : Nat} (h : n < 2 ^ 31) : ((Int32.toUInt32 (nI n)) >>> ((Int32.toUInt32 1) &&& Int32.toUInt32 31)).toInt32 = nI (n / 2) := by
  have e3 : ((Int32.toUInt32 1) &&& Int32.toUInt32 31) = 1 := by decide
  rw [e3]
  apply Int32.toBitVec_inj.mp
  apply BitVec.eq_of_toNat_eq
  have e1 : ((nI n).toUInt32 >>> 1).toInt32.toBitVec.toNat = ((nI n).toUInt32 >>> 1).toNat := rfl
  rw [e1, UInt32.toNat_shiftRight]
  have e2 : (nI n).toUInt32.toNat = (BitVec.ofNat 32 n).toNat := rfl
  have e4 : (nI (n / 2)).toBitVec.toNat = (BitVec.ofNat 32 (n / 2)).toNat := rfl
  have e5 : (1 : UInt32).toNat % 32 = 1 := by decide
  rw [e2, e4, e5, BitVec.toNat_ofNat, BitVec.toNat_ofNat, Nat.shiftRight_eq_div_pow]
  omega
abbrev k_K2 : Type := Nat × Nat
def r_pl (c : Nat) (KS : List k_K2) : Nat := (KS.takeWhile (fun x => decide (x.1 < c))).length
theorem r_pl_of {c : Nat} {KS : List k_K2} : ∀ {low : Nat}, (∀ (i : Nat) (x : k_K2), i < low → KS[i]? = some x → x.1 < c) → low ≤ KS.length → (∀ x : k_K2, KS[low]? = some x → ¬ x.1 < c) → low = r_pl c KS := by
  induction KS with
  | nil => intro low _ h2 _; simp at h2; subst h2; rfl
  | cons y t ih =>
    intro low h1 h2 h3
    cases low with
    | zero =>
      have := h3 y (by simp)
      unfold r_pl
      rw [List.takeWhile_cons_of_neg (by simpa using this)]
      rfl
    | succ k =>
      have h4 := h1 0 y (by omega) (by simp)
      unfold r_pl
      rw [List.takeWhile_cons_of_pos (by simpa using h4)]
      have := ih (low := k) (fun i x hi hx => h1 (i + 1) x (by omega) (by simpa using hx)) (by simp at h2; omega) (fun x hx => h3 x (by simpa using hx))
      rw [this]
      rfl
theorem r_srt {KS : List k_K2} (s : KS.Pairwise (fun x y => x.1 < y.1)) {i j : Nat} {x y : k_K2} (hij : i < j) (hi : KS[i]? = some x) (hj : KS[j]? = some y) : x.1 < y.1 := by
  obtain ⟨a1, rfl⟩ := List.getElem?_eq_some_iff.mp hi
  obtain ⟨a2, rfl⟩ := List.getElem?_eq_some_iff.mp hj
  exact List.pairwise_iff_getElem.mp s i j a1 a2 hij
abbrev o_key (c : Nat) (L : List k_E4) : k_C := k_o 7 [vJ (lN c), vR (r_fst c L)]
/-- the keys stand in the heap -/
def r_ks (h : k_H) (KS : List k_K2) (L : List k_E4) : Prop := (∀ x ∈ KS, x.1 < 1331000000000 ∧ h.1 x.2 = some (o_key x.1 L)) ∧ KS.Pairwise (fun x y => x.1 < y.1) ∧ KS.length < 2 ^ 18
theorem r_pl_le (c : Nat) (KS : List k_K2) : r_pl c KS ≤ KS.length := (List.takeWhile_prefix _).length_le
theorem r_pl_lt {c : Nat} {KS : List k_K2} : ∀ {i : Nat} {x : k_K2}, i < r_pl c KS → KS[i]? = some x → x.1 < c := by
  induction KS with
  | nil => intro i x hi hx; simp at hx
  | cons y t ih =>
    intro i x hi hx
    unfold r_pl at hi
    by_cases hy : y.1 < c
    · rw [List.takeWhile_cons_of_pos (by simpa using hy)] at hi
      cases i with
      | zero => simp at hx; rw [← hx]; exact hy
      | succ k => exact ih (i := k) (by simp at hi; exact hi) (by simpa using hx)
    · rw [List.takeWhile_cons_of_neg (by simpa using hy)] at hi
      simp at hi
theorem r_pl_ge {c : Nat} {KS : List k_K2} (s : KS.Pairwise (fun x y => x.1 < y.1)) : ∀ {i : Nat} {x : k_K2}, r_pl c KS ≤ i → KS[i]? = some x → ¬ x.1 < c := by
  induction KS with
  | nil => intro i x hi hx; simp at hx
  | cons y t ih =>
    intro i x hi hx
    by_cases hy : y.1 < c
    · unfold r_pl at hi
      rw [List.takeWhile_cons_of_pos (by simpa using hy)] at hi
      cases i with
      | zero => simp at hi
      | succ k => exact ih (List.Pairwise.of_cons s) (i := k) (by simp at hi; exact hi) (by simpa using hx)
    · cases i with
      | zero => simp at hx; rw [← hx]; exact hy
      | succ k =>
        have := r_srt s (i := 0) (j := k + 1) (x := y) (by omega) (by simp) hx
        omega
section KY
variable {G : k_G} {l : Launch}
theorem c_X8_placeFrom (ok : k_ok G l) {h : k_H} {s aK cap c : Nat} {f1 f2 f3 f4 f5 f6 : k_V} {KS : List k_K2} {L : List k_E4} (hs : h.1 s = some (k_o 11 [vR (some aK), f1, f2, f3, f4, f5, f6])) (hk : h.1 aK = some (k_l (KS.map (fun x => x.2)) cap)) (hks : r_ks h KS L) (hc : c < 2 ^ 62) : k_cti (tX8_placeFrom G l) [vR (some s), vJ (lN c)] h (fun h' v => h' = h ∧ v = nI (r_pl c KS)) := by
  obtain ⟨k1, k2, k3⟩ := hks
  have isl : k_is h aK 2 := Or.inr ⟨rfl, _, _, hk⟩
  refine k_cti_of (eX8_placeFrom ok.2 (bX8_placeFrom_0 hs rfl isl (c_size ok hk) ?_))
  rintro h1 v ⟨hh, rfl⟩
  rw [hh, List.length_map]
  refine bX8_placeFrom_9 ?_
  have key : ∀ (d lo hi : Nat), hi - lo = d → lo ≤ hi → hi ≤ KS.length → (∀ (i : Nat) (x : k_K2), i < lo → KS[i]? = some x → x.1 < c) → (∀ (i : Nat) (x : k_K2), hi ≤ i → KS[i]? = some x → ¬ x.1 < c) →
      k_X (jX8_placeFrom G l h) h 11 [(0, vR (some s)), (1, vJ (lN c)), (3, vI (nI lo)), (4, vI (nI hi))] [] (q_i (fun h' v => h' = h ∧ v = nI (r_pl c KS))) := by
    intro d
    induction d using Nat.strongRecOn with
    | ind d ih =>
      intro lo hi hd hle hlen i1 i2
      refine bX8_placeFrom_11 (fun c1 => ?_) (fun c1 => ?_)
      · have c2 := (nI_leI (by omega) (by omega)).mp c1
        have e : lo = hi := by omega
        refine bX8_placeFrom_60 ⟨_, rfl, rfl, ?_⟩
        rw [r_pl_of i1 (by omega) (fun x hx => i2 lo x (by omega) hx)]
      · have c2 : ¬ hi ≤ lo := fun z => c1 ((nI_leI (by omega) (by omega)).mpr z)
        have em : ((Int32.toUInt32 (nI lo + nI hi)) >>> ((Int32.toUInt32 1) &&& Int32.toUInt32 31)).toInt32 = nI ((lo + hi) / 2) := by rw [nI_add, k_ushr (by omega)]
        have hm : (lo + hi) / 2 < KS.length := by omega
        obtain ⟨x, hx⟩ : ∃ x, KS[(lo + hi) / 2]? = some x := ⟨_, List.getElem?_eq_getElem hm⟩
        have hx2 : (KS.map (fun x => x.2))[(lo + hi) / 2]? = some x.2 := by rw [List.getElem?_map, hx]; rfl
        have hmem := k1 x (List.mem_of_getElem? hx)
        refine bX8_placeFrom_17 hs rfl isl (by rw [em]; exact c_get ok hk hx2) ?_
        rintro h1 v ⟨hh, rfl⟩
        rw [hh, em]
        refine bX8_placeFrom_34 hmem.2 rfl (fun c3 => ?_) (fun c3 => ?_)
        · have c4 := (lX_le hc (by omega)).mp c3
          refine bX8_placeFrom_53 (bX8_placeFrom_57 (ih ((lo + hi) / 2 - lo) (by omega) lo ((lo + hi) / 2) rfl (by omega) (by omega) i1 (fun i y hi9 hy => ?_)))
          by_cases e : i = (lo + hi) / 2
          · subst e; rw [hx] at hy; cases hy; omega
          · have := r_srt k2 (i := (lo + hi) / 2) (j := i) (by omega) hx hy
            omega
        · have c4 : ¬ c ≤ x.1 := fun z => c3 ((lX_le hc (by omega)).mpr z)
          refine bX8_placeFrom_45 (bX8_placeFrom_57 ?_)
          rw [nI_1]
          refine ih (hi - ((lo + hi) / 2 + 1)) (by omega) _ _ rfl (by omega) hlen (fun i y hi9 hy => ?_) i2
          by_cases e : i = (lo + hi) / 2
          · subst e; rw [hx] at hy; cases hy; omega
          · have := r_srt k2 (i := i) (j := (lo + hi) / 2) (by omega) hy hx
            omega
  exact key _ 0 KS.length rfl (Nat.zero_le _) (Nat.le_refl _) (fun i x hi => by omega) (fun i x hi hx => by rw [List.getElem?_eq_none hi] at hx; cases hx)
end KY
end
section
/-! LOOKING INTO THE STORE -/
def r_at (c : Nat) (KS : List k_K2) : Option Nat := match KS[r_pl c KS]? with
  | some x => if x.1 = c then some x.2 else none
  | none => none
theorem r_at_mem {c a : Nat} {KS : List k_K2} (s : KS.Pairwise (fun x y => x.1 < y.1)) (hm : (c, a) ∈ KS) : r_at c KS = some a := by
  obtain ⟨i, hi⟩ := List.getElem?_of_mem hm
  have h1 : ¬ i < r_pl c KS := fun z => by have := r_pl_lt z hi; exact absurd this (Nat.lt_irrefl _)
  have h2 : ¬ r_pl c KS < i := fun z => by
    have hl : r_pl c KS < KS.length := by have := (List.getElem?_eq_some_iff.mp hi).1; omega
    obtain ⟨y, hy⟩ : ∃ y, KS[r_pl c KS]? = some y := ⟨_, List.getElem?_eq_getElem hl⟩
    exact r_pl_ge s (Nat.le_refl _) hy (r_srt s z hy hi)
  have e : r_pl c KS = i := by omega
  unfold r_at
  rw [e, hi]
  exact if_pos rfl
theorem r_at_some {c a : Nat} {KS : List k_K2} (h : r_at c KS = some a) : (c, a) ∈ KS := by
  unfold r_at at h
  cases e : KS[r_pl c KS]? with
  | none => rw [e] at h; cases h
  | some x =>
    rw [e] at h
    by_cases z : x.1 = c
    · simp only [if_pos z] at h
      cases h
      have := List.mem_of_getElem? e
      rw [← z]
      exact this
    · simp only [if_neg z] at h
      cases h
section LK
variable {G : k_G} {l : Launch}
theorem c_X0_load (ok : k_ok G l) {h : k_H} {a : Nat} {p q v : Int32} {x : Option Nat} {o : Option Int32} (ho : h.1 a = some (k_o 3 [vI p, vI q, vI v])) (hx : (x = none ∧ o = none) ∨ (∃ a k v b e, x = some a ∧ h.1 a = some (o_ent k v b e o))) : k_ctv (tX0_load G l) [vR (some a), vR x] h (fun h' => h' = k_up h a (k_o 3 [vI (kB o.isSome), vI 0, vI (o.getD 0)])) := by
  rcases hx with ⟨rfl, rfl⟩ | ⟨e, k, w, b, e2, rfl, he⟩
  · exact c_X0_loadN ok ho
  · exact c_X0_loadS ok ho he
theorem c_X8_find (ok : k_ok G l) {h : k_H} {s aK cap c : Nat} {f1 f2 f3 f4 f5 f6 : k_V} {KS : List k_K2} {L : List k_E4} (hs : h.1 s = some (k_o 11 [vR (some aK), f1, f2, f3, f4, f5, f6])) (hk : h.1 aK = some (k_l (KS.map (fun x => x.2)) cap)) (hks : r_ks h KS L) (hc : c < 2 ^ 62) : k_ctr (tX8_find G l) [vR (some s), vJ (lN c)] h (fun h' v => h' = h ∧ v = r_at c KS) := by
  obtain ⟨k1, k2, k3⟩ := id hks
  have isl : k_is h aK 2 := Or.inr ⟨rfl, _, _, hk⟩
  have hle := r_pl_le c KS
  refine k_ctr_of (eX8_find ok.2 (bX8_find_0 (k_is_o hs) (c_X8_placeFrom ok hs hk hks hc) ?_))
  rintro h1 v ⟨hh, rfl⟩
  rw [hh]
  refine bX8_find_5 hs rfl isl (c_size ok hk) ?_
  rintro h1 v ⟨hh, rfl⟩
  rw [hh, List.length_map]
  refine bX8_find_14 (fun c1 => ?_) (fun c1 => ?_)
  · have c2 := (nI_ltI (by omega) (by omega)).mp c1
    obtain ⟨x, hx⟩ : ∃ x, KS[r_pl c KS]? = some x := ⟨_, List.getElem?_eq_getElem c2⟩
    have hx2 : (KS.map (fun x => x.2))[r_pl c KS]? = some x.2 := by rw [List.getElem?_map, hx]; rfl
    have hmem := k1 x (List.mem_of_getElem? hx)
    refine bX8_find_19 hs rfl isl (c_get ok hk hx2) ?_
    rintro h1 v ⟨hh, rfl⟩
    rw [hh]
    refine bX8_find_27 hmem.2 rfl (fun c3 => ?_) (fun c3 => ?_)
    · refine bX8_find_47 (bX8_find_48 ⟨_, rfl, rfl, ?_⟩)
      unfold r_at
      rw [hx]
      exact (if_neg (fun z => c3 (by rw [z]))).symm
    · refine bX8_find_42 (bX8_find_48 ⟨_, rfl, rfl, ?_⟩)
      unfold r_at
      rw [hx]
      exact (if_pos ((lX_eq (by omega) hc).mp c3)).symm
  · have c2 : ¬ r_pl c KS < KS.length := fun z => c1 ((nI_ltI (by omega) (by omega)).mpr z)
    refine bX8_find_17 ⟨_, rfl, rfl, ?_⟩
    unfold r_at
    rw [List.getElem?_eq_none (by omega)]
/-- every entry's key is there -/
def r_in (KS : List k_K2) (L : List k_E4) : Prop := ∀ x ∈ L, ∃ a, (x.2.1, a) ∈ KS
theorem r_look_none {c n : Nat} {KS : List k_K2} {L : List k_E4} (s : KS.Pairwise (fun x y => x.1 < y.1)) (hin : r_in KS L) (h : r_at c KS = none) : r_look c n L = none := by
  unfold r_look r_get
  cases e : L.find? (fun x => x.2.1 == c && decide (x.2.2.1 ≤ n)) with
  | none => rfl
  | some x =>
    have h1 := List.find?_some e
    have h2 := List.mem_of_find?_eq_some e
    simp only [Bool.and_eq_true, beq_iff_eq, decide_eq_true_eq] at h1
    obtain ⟨a, ha⟩ := hin x h2
    rw [h1.1] at ha
    rw [r_at_mem s ha] at h
    cases h
theorem c_X8_entryIn (ok : k_ok G l) {h : k_H} {s aK cap c n : Nat} {f1 f2 f3 f4 f5 f6 : k_V} {KS : List k_K2} {L : List k_E4} {ka : Nat → Nat} (hs : h.1 s = some (k_o 11 [vR (some aK), f1, f2, f3, f4, f5, f6])) (hk : h.1 aK = some (k_l (KS.map (fun x => x.2)) cap)) (hks : r_ks h KS L) (hin : r_in KS L) (hL : r_log h ka L) (hv : ∀ x ∈ L, x.2.2.1 < 2 ^ 31) (hc : c < 2 ^ 62) (hn : n < 2 ^ 31) : k_ctr (tX8_entryIn G l) [vR (some s), vJ (lN c), vI (nI n)] h (fun h' v => h' = h ∧ v = r_look c n L) := by
  refine k_ctr_of (eX8_entryIn ok.2 (bX8_entryIn_0 (k_is_o hs) (c_X8_find ok hs hk hks hc) ?_))
  rintro h1 v ⟨hh, rfl⟩
  rw [hh]
  cases e : r_at c KS with
  | none =>
    refine bX8_entryIn_5 (fun _ => ?_) (fun b hb => by cases hb)
    refine bX8_entryIn_12 (bX8_entryIn_22 ⟨_, rfl, rfl, (r_look_none hks.2.1 hin e).symm⟩)
  | some a =>
    refine bX8_entryIn_5 (fun c => by cases c) (fun b hb => ?_)
    cases hb
    have ha := (hks.1 _ (r_at_some e)).2
    refine bX8_entryIn_16 (k_is_o ha) (c_X4_entryIn ok ha hL hv hn) ?_
    rintro h1 v ⟨hh, rfl⟩
    rw [hh]
    exact bX8_entryIn_22 ⟨_, rfl, rfl, rfl⟩
/-- the number that tells a value -/
def o_told (o : Option Int32) : Int32 := o.getD (-2147483648)
theorem o_told_eq (o : Option Int32) : (if kB o.isSome = 0 then (-2147483648 : Int32) else o.getD 0) = o_told o := by
  cases o with
  | none => rfl
  | some w => exact if_neg (kB_n0.mpr rfl)
theorem c_X8_valueNow (ok : k_ok G l) {h : k_H} {s aK aC cap c n : Nat} {p q v : Int32} {f1 f2 f4 f5 : k_V} {KS : List k_K2} {L : List k_E4} {ka : Nat → Nat} (hs : h.1 s = some (k_o 11 [vR (some aK), f1, f2, vR (some aC), f4, f5, vI (nI n)])) (hC : h.1 aC = some (k_o 3 [vI p, vI q, vI v])) (hk : h.1 aK = some (k_l (KS.map (fun x => x.2)) cap)) (hks : r_ks h KS L) (hin : r_in KS L) (hL : r_log h ka L) (hv : ∀ x ∈ L, x.2.2.1 < 2 ^ 31) (hc : c < 2 ^ 62) (hn : n < 2 ^ 31) : k_cti (tX8_valueNow G l) [vR (some s), vJ (lN c)] h (fun h' w => h' = k_up h aC (k_o 3 [vI (kB (r_val c n L).isSome), vI 0, vI ((r_val c n L).getD 0)]) ∧ w = o_told (r_val c n L)) := by
  have hne : s ≠ aC := fun z => by subst z; rw [hs] at hC; cases hC
  refine k_cti_of (eX8_valueNow ok.2 (bX8_valueNow_0 hs rfl rfl (c_X8_entryIn ok hs hk hks hin hL hv hc hn) ?_))
  rintro h1 w ⟨hh, rfl⟩
  rw [hh]
  refine bX8_valueNow_13 (k_is_o hC) (c_X0_load ok hC (look_ok hL c n)) ?_
  rintro h1 rfl
  refine bX8_valueNow_16 (by rw [k_up_ne _ _ hne]; exact hs) rfl (k_is_o (k_up_self _ _ _)) (c_X0_told ok (k_up_self _ _ _)) ?_
  rintro h1 w ⟨hh, rfl⟩
  rw [hh, o_told_eq]
  exact bX8_valueNow_23 ⟨_, rfl, rfl, rfl⟩
end LK
end
section
/-! THE KEYS WITH A VALUE, LISTED; how lists grow -/
def k_gw (m : Nat) : Nat → Nat → Nat → Nat → Prop
  | 0, c, c', n => c' = c ∧ n = 0
  | k + 1, c, c', n => c ≤ m ∧ ∃ n1, k_gw m k (k_nc c) c' n1 ∧ n = k_nc c + n1
theorem k_gw_trans {m : Nat} : ∀ {k1 c c' n1 k2 c2 n2 : Nat}, k_gw m k1 c c' n1 → k_gw m k2 c' c2 n2 → k_gw m (k1 + k2) c c2 (n1 + n2) := by
  intro k1
  induction k1 with
  | zero =>
    rintro c c' n1 k2 c2 n2 ⟨rfl, rfl⟩ h
    rw [Nat.zero_add, Nat.zero_add]
    exact h
  | succ k ih =>
    rintro c c' n1 k2 c2 n2 ⟨h1, n3, h3, rfl⟩ h
    rw [Nat.succ_add, Nat.add_assoc]
    exact ⟨h1, _, ih h3 h, rfl⟩
theorem k_gw_mono {m m' : Nat} (hm : m ≤ m') : ∀ {k c c' n : Nat}, k_gw m k c c' n → k_gw m' k c c' n := by
  intro k
  induction k with
  | zero => exact fun h => h
  | succ k ih =>
    rintro c c' n ⟨h1, n3, h3, h4⟩
    exact ⟨by omega, n3, ih h3, h4⟩
/-- objects stay as they are -/
def k_kp (h h' : k_H) : Prop := ∀ (q ci : Nat) (fs : List k_V), h.1 q = some (k_o ci fs) → h'.1 q = some (k_o ci fs)
theorem keep_l {h : k_H} {a c c' k n : Nat} {xs ys : List Nat} (ho : h.1 a = some (k_l xs c)) : k_kp h (k_sk (k_up h a (k_l ys c')) k n) := fun q ci fs hq => by
  have hne : q ≠ a := fun z => by subst z; rw [ho] at hq; cases hq
  show (k_up h a (k_l ys c')).1 q = _
  rw [k_up_ne _ _ hne]
  exact hq
theorem r_ks_keep {h h' : k_H} {KS : List k_K2} {L : List k_E4} (k : k_kp h h') (r : r_ks h KS L) : r_ks h' KS L := ⟨fun x hx => ⟨(r.1 x hx).1, k _ _ _ (r.1 x hx).2⟩, r.2⟩
theorem r_log_keep {h h' : k_H} {ka : Nat → Nat} (k : k_kp h h') : ∀ {L : List k_E4}, r_log h ka L → r_log h' ka L := by
  intro L
  induction L with
  | nil => exact fun _ => trivial
  | cons x t ih => exact fun r => ⟨k _ _ _ r.1, ih r.2⟩
theorem k_wf_sk {h : k_H} {k n : Nat} (w : k_wf h) : k_wf (k_sk h k n) := fun q c hq => by
  have := w q c hq
  show q < h.2.1 + k
  omega
theorem sk_sk (h : k_H) (k n k' n' : Nat) : k_sk (k_sk h k n) k' n' = k_sk h (k + k') (n + n') := by
  unfold k_sk
  simp only [Nat.add_assoc]
theorem add_norm {h : k_H} {a cap k n : Nat} {ys zs : List Nat} {c0 : k_C} : ∃ cap' k' n', k_gr (k_sk (k_up h a c0) k n) a zs ys.length cap = k_sk (k_up h a (k_l zs cap')) (k + k') (n + n') ∧ k_gw ys.length k' cap cap' n' := by
  have e : ∀ c : k_C, k_up (k_sk (k_up h a c0) k n) a c = k_sk (k_up h a c) k n := fun c => by
    unfold k_sk k_up
    refine Prod.ext (funext fun q => ?_) rfl
    by_cases e : q = a <;> simp [e]
  unfold k_gr
  by_cases hl : ys.length < cap
  · rw [if_pos hl, e]
    exact ⟨cap, 0, 0, rfl, rfl, rfl⟩
  · rw [if_neg hl, e]
    exact ⟨k_nc cap, 1, k_nc cap, sk_sk _ _ _ _ _, by omega, 0, ⟨rfl, rfl⟩, rfl⟩
theorem el_key {h : k_H} {c a : Nat} {L : List k_E4} (ho : h.1 a = some (o_key c L)) : k_el h a := ⟨7, k_is_o ho, k_to (C := "Keyterrace$Key") rfl (by simp [k_casts])⟩
/-- the addresses of the keys with a value ahead of a code, out of a row of keys -/
def r_hd (hi : Nat) (L : List k_E4) (t : List k_K2) : List Nat := (t.filter (fun x => decide (x.1 < hi) && (r_now x.1 L).isSome)).map (fun x => x.2)
def r_held (lo hi : Nat) (KS : List k_K2) (L : List k_E4) : List Nat := r_hd hi L (KS.drop (r_pl lo KS))
section HD
variable {G : k_G} {l : Launch}
theorem c_X8_listHeld (ok : k_ok G l) {h : k_H} {s aK aH cap capH lo hi : Nat} {xs : List Nat} {f1 f3 f4 f5 f6 : k_V} {KS : List k_K2} {L : List k_E4} {ka : Nat → Nat} (wh : k_wf h) (hs : h.1 s = some (k_o 11 [vR (some aK), f1, vR (some aH), f3, f4, f5, f6])) (hk : h.1 aK = some (k_l (KS.map (fun x => x.2)) cap)) (hH : h.1 aH = some (k_l xs capH)) (hne : aK ≠ aH) (hks : r_ks h KS L) (hL : r_log h ka L) (hlo : lo < 2 ^ 62) (hhi : hi < 2 ^ 62) :
    k_ctr (tX8_listHeld G l) [vR (some s), vJ (lN lo), vJ (lN hi)] h (fun h' v => v = some aH ∧ ∃ cap' k n, h' = k_sk (k_up h aH (k_l (r_held lo hi KS L) cap')) k n ∧ k_gw KS.length k capH cap' n) := by
  obtain ⟨k1, k2, k3⟩ := id hks
  have sne : s ≠ aH := fun z => by subst z; rw [hs] at hH; cases hH
  refine k_ctr_of (eX8_listHeld ok.2 (bX8_listHeld_0 hs rfl (Or.inr ⟨rfl, _, _, hH⟩) (c_clear ok hH) ?_))
  rintro h1 rfl
  have hat : ∀ (ys : List Nat) (c k n q : Nat), q ≠ aH → (k_sk (k_up h aH (k_l ys c)) k n).1 q = h.1 q := fun ys c k n q hq => by
    show (k_up h aH (k_l ys c)).1 q = _
    rw [k_up_ne _ _ hq]
  have kp0 : k_kp h (k_up h aH (k_l [] capH)) := keep_l (k := 0) (n := 0) hH
  refine bX8_listHeld_7 (k_is_o (by rw [k_up_ne _ _ sne]; exact hs)) (c_X8_placeFrom ok (by rw [k_up_ne _ _ sne]; exact hs) (by rw [k_up_ne _ _ hne]; exact hk) (r_ks_keep kp0 hks) hlo) ?_
  rintro h1 v ⟨hh, rfl⟩
  rw [hh]
  refine bX8_listHeld_12 ?_
  have key : ∀ (d i : Nat) (ys : List Nat) (c k n : Nat), KS.length - i = d → i ≤ KS.length → ys.length ≤ i → (∀ z ∈ ys, ∃ x ∈ KS, z = x.2) → r_held lo hi KS L = ys ++ r_hd hi L (KS.drop i) → k_gw KS.length k capH c n →
      k_X (jX8_listHeld G l h) (k_sk (k_up h aH (k_l ys c)) k n) 14 [(0, vR (some s)), (3, vJ (lN hi)), (5, vI (nI i))] [] (q_r (fun h' v => v = some aH ∧ ∃ cap' k n, h' = k_sk (k_up h aH (k_l (r_held lo hi KS L) cap')) k n ∧ k_gw KS.length k capH cap' n)) := by
    intro d
    induction d with
    | zero =>
      intro i ys c k n hd hi9 hy hys hr hg
      have e : i = KS.length := by omega
      refine bX8_listHeld_14 ((hat _ _ _ _ _ sne).trans hs) rfl (Or.inr ⟨rfl, _, _, (hat _ _ _ _ _ hne).trans hk⟩) (c_size ok ((hat _ _ _ _ _ hne).trans hk)) ?_
      rintro h1 v ⟨hh, rfl⟩
      rw [hh, List.length_map]
      refine bX8_listHeld_23 (fun _ => ?_) (fun c1 => absurd (nI_le (by omega) (by omega)) c1)
      refine bX8_listHeld_79 ((hat _ _ _ _ _ sne).trans hs) rfl ⟨_, rfl, rfl, c, k, n, ?_, hg⟩
      rw [hr, e, List.drop_length]
      simp [r_hd]
    | succ d ih =>
      intro i ys c k n hd hi9 hy hys hr hg
      have hlt : i < KS.length := by omega
      obtain ⟨x, hx⟩ : ∃ x, KS[i]? = some x := ⟨_, List.getElem?_eq_getElem hlt⟩
      have hx2 : (KS.map (fun x => x.2))[i]? = some x.2 := by rw [List.getElem?_map, hx]; rfl
      have hxm := List.mem_of_getElem? hx
      have hmem := k1 x hxm
      have kp : k_kp h (k_sk (k_up h aH (k_l ys c)) k n) := keep_l hH
      have hdrop : KS.drop i = x :: KS.drop (i + 1) := by
        rw [List.drop_eq_getElem_cons hlt]
        congr 1
        exact (List.getElem?_eq_some_iff.mp hx).2
      refine bX8_listHeld_14 ((hat _ _ _ _ _ sne).trans hs) rfl (Or.inr ⟨rfl, _, _, (hat _ _ _ _ _ hne).trans hk⟩) (c_size ok ((hat _ _ _ _ _ hne).trans hk)) ?_
      rintro h1 v ⟨hh, rfl⟩
      rw [hh, List.length_map]
      refine bX8_listHeld_23 (fun c1 => absurd c1 (nI_ge hlt (by omega))) (fun _ => ?_)
      refine bX8_listHeld_26 ((hat _ _ _ _ _ sne).trans hs) rfl (Or.inr ⟨rfl, _, _, (hat _ _ _ _ _ hne).trans hk⟩) (c_get ok ((hat _ _ _ _ _ hne).trans hk) hx2) ?_
      rintro h1 v ⟨hh, rfl⟩
      rw [hh]
      refine bX8_listHeld_35 (kp _ _ _ hmem.2) rfl (fun c1 => ?_) (fun c1 => ?_)
      · have c2 := (lX_lt (by omega) hhi).mp c1
        refine bX8_listHeld_55 (k_is_o (kp _ _ _ hmem.2)) (c_X4_isHeld ok (kp _ _ _ hmem.2) (r_log_keep kp hL)) ?_
        rintro h1 v ⟨hh, rfl⟩
        rw [hh]
        refine bX8_listHeld_60 (fun c3 => ?_) (fun c3 => ?_)
        · rw [kB_0] at c3
          refine bX8_listHeld_73 ?_
          rw [nI_1]
          refine ih (i + 1) ys c k n (by omega) (by omega) (by omega) hys ?_ hg
          rw [hr, hdrop]
          unfold r_hd
          rw [List.filter_cons_of_neg (by simp [c3])]
        · rw [kB_n0] at c3
          refine bX8_listHeld_63 ((hat _ _ _ _ _ sne).trans hs) rfl (Or.inr ⟨rfl, _, _, k_up_self _ _ _⟩) (c_add ok (k_wf_sk (k_wf_up wh hH)) (k_up_self _ _ _) (by omega) (fun z hz => ?_) (el_key (kp _ _ _ hmem.2))) ?_
          · obtain ⟨y, hy1, rfl⟩ := hys z hz
            exact el_key (kp _ _ _ (k1 y hy1).2)
          rintro h1 v ⟨hh, rfl⟩
          obtain ⟨c', k', n', e1, e2⟩ := add_norm (h := h) (a := aH) (cap := c) (k := k) (n := n) (ys := ys) (zs := ys ++ [x.2]) (c0 := k_l ys c)
          rw [hh, e1]
          refine bX8_listHeld_72 (bX8_listHeld_73 ?_)
          rw [nI_1]
          refine ih (i + 1) (ys ++ [x.2]) c' (k + k') (n + n') (by omega) (by omega) (by simp; omega) (fun z hz => ?_) ?_ (k_gw_trans hg (k_gw_mono (by omega) e2))
          · rcases List.mem_append.mp hz with hz | hz
            · exact hys z hz
            · exact ⟨x, hxm, by simpa using hz⟩
          · rw [hr, hdrop]
            unfold r_hd
            rw [List.filter_cons_of_pos (by simp [c2, c3])]
            simp
      · have c2 : ¬ x.1 < hi := fun z => c1 ((lX_lt (by omega) hhi).mpr z)
        refine bX8_listHeld_50 ((hat _ _ _ _ _ sne).trans hs) rfl ⟨_, rfl, rfl, c, k, n, ?_, hg⟩
        have hnil : r_hd hi L (KS.drop i) = [] := by
          unfold r_hd
          rw [List.map_eq_nil_iff, List.filter_eq_nil_iff]
          intro y hy
          obtain ⟨j, hj⟩ := List.getElem?_of_mem hy
          rw [List.getElem?_drop] at hj
          by_cases e : j = 0
          · subst e
            rw [Nat.add_zero, hx] at hj
            cases hj
            simp [c2]
          · have := r_srt k2 (i := i) (j := i + j) (by omega) hx hj
            have : ¬ y.1 < hi := by omega
            simp [this]
        rw [hr, hnil, List.append_nil]
  exact key _ (r_pl lo KS) [] capH 0 0 rfl (r_pl_le _ _) (by simp) (fun z hz => by cases hz) (by simp [r_held]) ⟨rfl, rfl⟩
end HD
end
section
/-! A KEY IS FOUND, OR MADE -/
theorem up_nw (h : k_H) (n : Nat) (c0 c : k_C) : k_up (k_nw h n c0) h.2.1 c = k_nw h n c := by
  unfold k_up k_nw
  refine Prod.ext (funext fun q => ?_) rfl
  by_cases e : q = h.2.1 <;> simp [e]
/-- new cells touch no old ones -/
theorem nw_old {h : k_H} {n q : Nat} {c c0 : k_C} (wh : k_wf h) (hq : h.1 q = some c0) : (k_nw h n c).1 q = some c0 := by
  rw [k_nw_ne _ _ _ (by have := wh _ _ hq; omega)]
  exact hq
theorem keep_nw {h : k_H} {n : Nat} {c : k_C} (wh : k_wf h) : k_kp h (k_nw h n c) := fun q ci fs hq => nw_old wh hq
section KF
variable {G : k_G} {l : Launch}
theorem c_X4_init (ok : k_ok G l) {h : k_H} {a : Nat} {x : Int64} {u w : k_V} (ho : h.1 a = some (k_o 7 [u, w])) : k_ctv (tX4_init G l) [vR (some a), vJ x] h (fun h' => h' = k_up h a (k_o 7 [vJ x, vR none])) := by
  refine k_ctv_of (eX4_init ok.2 (bX4_init_0 ho rfl (bX4_init_9 (k_up_self _ _ _) rfl (bX4_init_14 ⟨rfl, ?_⟩))))
  rw [k_uu]
  rfl
theorem c_X8_keyForA (ok : k_ok G l) {h : k_H} {s aK cap c a : Nat} {f1 f2 f3 f4 f5 f6 : k_V} {KS : List k_K2} {L : List k_E4} (hs : h.1 s = some (k_o 11 [vR (some aK), f1, f2, f3, f4, f5, f6])) (hk : h.1 aK = some (k_l (KS.map (fun x => x.2)) cap)) (hks : r_ks h KS L) (hc : c < 2 ^ 62) (hm : (c, a) ∈ KS) : k_ctr (tX8_keyFor G l) [vR (some s), vJ (lN c)] h (fun h' v => h' = h ∧ v = some a) := by
  obtain ⟨k1, k2, k3⟩ := id hks
  have isl : k_is h aK 2 := Or.inr ⟨rfl, _, _, hk⟩
  have hat := r_at_mem k2 hm
  unfold r_at at hat
  have hle := r_pl_le c KS
  refine k_ctr_of (eX8_keyFor ok.2 (bX8_keyFor_0 (k_is_o hs) (c_X8_placeFrom ok hs hk hks hc) ?_))
  rintro h1 v ⟨hh, rfl⟩
  rw [hh]
  refine bX8_keyFor_5 hs rfl isl (c_size ok hk) ?_
  rintro h1 v ⟨hh, rfl⟩
  rw [hh, List.length_map]
  cases hx : KS[r_pl c KS]? with
  | none => rw [hx] at hat; cases hat
  | some x =>
    rw [hx] at hat
    have hlt : r_pl c KS < KS.length := (List.getElem?_eq_some_iff.mp hx).1
    have hx2 : (KS.map (fun x => x.2))[r_pl c KS]? = some x.2 := by rw [List.getElem?_map, hx]; rfl
    have hmem := k1 x (List.mem_of_getElem? hx)
    have he : x.1 = c := by
      by_cases z : x.1 = c
      · exact z
      · simp only [if_neg z] at hat; cases hat
    simp only [if_pos he] at hat
    cases hat
    refine bX8_keyFor_14 (fun c1 => absurd c1 (nI_ge hlt (by omega))) (fun _ => ?_)
    refine bX8_keyFor_17 hs rfl isl (c_get ok hk hx2) ?_
    rintro h1 v ⟨hh, rfl⟩
    rw [hh]
    refine bX8_keyFor_25 hmem.2 (bX8_keyFor_32 (fun c => by cases c) (fun b hb => ?_))
    cases hb
    exact bX8_keyFor_39 hmem.2 rfl (fun c1 => absurd (congrArg lN he) c1) (fun _ => bX8_keyFor_49 ⟨_, rfl, rfl, rfl⟩)
theorem c_X8_keyForN (ok : k_ok G l) {h : k_H} {s aK cap c : Nat} {f1 f2 f3 f4 f5 f6 : k_V} {KS : List k_K2} {L : List k_E4} (wh : k_wf h) (hs : h.1 s = some (k_o 11 [vR (some aK), f1, f2, f3, f4, f5, f6])) (hk : h.1 aK = some (k_l (KS.map (fun x => x.2)) cap)) (hks : r_ks h KS L) (hc : c < 2 ^ 62) (hn : r_at c KS = none) (hb : KS.length < 65536) : k_ctr (tX8_keyFor G l) [vR (some s), vJ (lN c)] h (fun h' v => h' = k_gr (k_nw h 2 (k_o 7 [vJ (lN c), vR none])) aK ((KS.map (fun x => x.2)).insertIdx (r_pl c KS) h.2.1) KS.length cap ∧ v = some h.2.1) := by
  obtain ⟨k1, k2, k3⟩ := id hks
  have isl : k_is h aK 2 := Or.inr ⟨rfl, _, _, hk⟩
  have hle := r_pl_le c KS
  refine k_ctr_of (eX8_keyFor ok.2 (bX8_keyFor_0 (k_is_o hs) (c_X8_placeFrom ok hs hk hks hc) ?_))
  rintro h1 v ⟨hh, rfl⟩
  rw [hh]
  refine bX8_keyFor_5 hs rfl isl (c_size ok hk) ?_
  rintro h1 v ⟨hh, rfl⟩
  rw [hh, List.length_map]
  have key : k_X (jX8_keyFor G l h) h 52 [(0, vR (some s)), (1, vJ (lN c)), (3, vI (nI (r_pl c KS)))] [] (q_r (fun h' v => h' = k_gr (k_nw h 2 (k_o 7 [vJ (lN c), vR none])) aK ((KS.map (fun x => x.2)).insertIdx (r_pl c KS) h.2.1) KS.length cap ∧ v = some h.2.1)) := by
    refine bX8_keyFor_52 hs rfl isl (c_size ok hk) ?_
    rintro h1 v ⟨hh, rfl⟩
    rw [hh, List.length_map]
    refine bX8_keyFor_59 (fun _ => ?_) (fun c1 => absurd (nI_lt (b := 65536) hb (by decide)) c1)
    refine bX8_keyFor_66 (bX8_keyFor_69 (c_X4_init ok (k_nw_self _ _ _)) ?_)
    rintro h1 hh
    rw [hh, up_nw]
    have hk2 := nw_old (n := 2) (c := k_o 7 [vJ (lN c), vR none]) wh hk
    refine bX8_keyFor_74 (nw_old wh hs) rfl (Or.inr ⟨rfl, _, _, hk2⟩) (c_addAt ok (k_wf_nw wh) hk2 (by rw [List.length_map]; omega) (by rw [List.length_map]; exact hle) (fun z hz => ?_) ⟨7, k_is_o (k_nw_self _ _ _), k_to (C := "Keyterrace$Key") rfl (by simp [k_casts])⟩) ?_
    · obtain ⟨y, hy, rfl⟩ := List.mem_map.mp hz
      exact el_key (nw_old wh (k1 y hy).2)
    · rintro h1 hh
      rw [hh, List.length_map]
      exact bX8_keyFor_86 ⟨_, rfl, rfl, rfl⟩
  unfold r_at at hn
  cases hx : KS[r_pl c KS]? with
  | none =>
    have hge : KS.length ≤ r_pl c KS := List.getElem?_eq_none_iff.mp hx
    exact bX8_keyFor_14 (fun _ => bX8_keyFor_31 (bX8_keyFor_32 (fun _ => key) (fun b hb => by cases hb))) (fun c1 => absurd (nI_le hge (by omega)) c1)
  | some x =>
    rw [hx] at hn
    have hlt : r_pl c KS < KS.length := (List.getElem?_eq_some_iff.mp hx).1
    have hx2 : (KS.map (fun x => x.2))[r_pl c KS]? = some x.2 := by rw [List.getElem?_map, hx]; rfl
    have hmem := k1 x (List.mem_of_getElem? hx)
    have he : ¬ x.1 = c := fun z => by simp only [if_pos z] at hn; cases hn
    refine bX8_keyFor_14 (fun c1 => absurd c1 (nI_ge hlt (by omega))) (fun _ => ?_)
    refine bX8_keyFor_17 hs rfl isl (c_get ok hk hx2) ?_
    rintro h1 v ⟨hh, rfl⟩
    rw [hh]
    refine bX8_keyFor_25 hmem.2 (bX8_keyFor_32 (fun c => by cases c) (fun b hb => ?_))
    cases hb
    exact bX8_keyFor_39 hmem.2 rfl (fun _ => key) (fun c1 => absurd ((lX_eq (by omega) hc).mp c1) he)
end KF
end
section
/-! CHANGES OF A TRANSACTION: (address, kind, low, high, value, place) -/
abbrev k_CH : Type := Nat × Int32 × Nat × Nat × Int32 × Int32
abbrev o_chg (x : k_CH) : k_C := k_o 4 [vI x.2.1, vJ (lN x.2.2.1), vJ (lN x.2.2.2.1), vI x.2.2.2.2.1, vI x.2.2.2.2.2]
abbrev o_cel (o : Option Int32) (st : Bool) : k_C := k_o 3 [vI (kB o.isSome), vI (kB st), vI (o.getD 0)]
def s_apO (k g s : Int32) (o : Option Int32) : Option Int32 := if k = 1 then none else some (ap_v k g s (kB o.isSome) (o.getD 0))
def s_apS (k : Int32) (st : Bool) : Bool := decide (k = 5) || st && decide (¬ k = 0) && decide (¬ k = 1)
theorem o_cel_ap (k g s : Int32) (o : Option Int32) (st : Bool) : k_o 3 [vI (ap_p k), vI (ap_s k (kB st)), vI (ap_v k g s (kB o.isSome) (o.getD 0))] = o_cel (s_apO k g s o) (s_apS k st) := by
  have e1 : ap_p k = kB (s_apO k g s o).isSome := by
    unfold ap_p s_apO
    by_cases c : k = 1
    · rw [if_pos c, if_pos c]; rfl
    · rw [if_neg c, if_neg c]; rfl
  have e2 : ap_v k g s (kB o.isSome) (o.getD 0) = (s_apO k g s o).getD 0 := by
    unfold s_apO
    by_cases c : k = 1
    · rw [if_pos c]
      unfold ap_v
      rw [if_pos c]
      rfl
    · rw [if_neg c]; rfl
  have e3 : ap_s k (kB st) = kB (s_apS k st) := by
    unfold ap_s s_apS
    by_cases c5 : k = 5
    · rw [if_pos c5]; simp [c5, kB]
    · rw [if_neg c5]
      cases st with
      | false => simp [kB, c5]
      | true =>
        rw [if_neg (kB_n0.mpr rfl)]
        by_cases c0 : k = 0
        · rw [if_pos c0]; simp [c0, kB]
        · rw [if_neg c0]
          by_cases c1 : k = 1
          · rw [if_pos c1]; simp [c1, kB]
          · rw [if_neg c1]; simp [c5, c0, c1, kB]
  rw [e1, e2, e3]
def s_cov (x : k_CH) (c : Nat) : Bool := s_ord x.2.1 && decide (x.2.2.1 ≤ c) && decide (c < x.2.2.2.1)
def s_see (c : Nat) (CS : List k_CH) (z : Option Int32 × Bool) : Option Int32 × Bool := CS.foldl (fun z x => if s_cov x c = true then (s_apO x.2.1 x.2.2.2.2.1 0 z.1, s_apS x.2.1 z.2) else z) z
/-- the changes stand in the heap -/
def r_cs (h : k_H) (aL cap : Nat) (CS : List k_CH) : Prop := h.1 aL = some (k_l (CS.map (fun x => x.1)) cap) ∧ (∀ x ∈ CS, h.1 x.1 = some (o_chg x) ∧ x.2.2.1 < 2 ^ 62 ∧ x.2.2.2.1 < 2 ^ 62) ∧ CS.length < 2 ^ 18
/-- whether one of the first changes alone says what a range has -/
def s_own (CS : List k_CH) (lo hi : Nat) : Bool := CS.any (fun x => s_all x.2.1 && decide (x.2.2.1 ≤ lo) && decide (hi ≤ x.2.2.2.1))
section CH
variable {G : k_G} {l : Launch}
theorem c_X1_covers (ok : k_ok G l) {h : k_H} {x : k_CH} {c : Nat} (ho : h.1 x.1 = some (o_chg x)) (h1 : x.2.2.1 < 2 ^ 62) (h2 : x.2.2.2.1 < 2 ^ 62) (hc : c < 2 ^ 62) : k_cti (tX1_covers G l) [vR (some x.1), vJ (lN c)] h (fun h' v => h' = h ∧ v = kB (s_cov x c)) := by
  refine k_cti_of (eX1_covers ok.2 (bX1_covers_0 (k_is_o ho) (c_X1_isInOrder ok ho) ?_))
  rintro h9 v ⟨hh, rfl⟩
  rw [hh]
  refine bX1_covers_4 (fun c1 => ?_) (fun c1 => ?_)
  · rw [kB_0] at c1
    refine bX1_covers_29 (bX1_covers_30 (Or.inl rfl) ⟨_, rfl, rfl, ?_⟩)
    unfold s_cov
    rw [c1]; rfl
  · rw [kB_n0] at c1
    refine bX1_covers_7 ho rfl (fun c2 => ?_) (fun c2 => ?_)
    · have c3 := (lX_lt hc h1).mp c2
      refine bX1_covers_29 (bX1_covers_30 (Or.inl rfl) ⟨_, rfl, rfl, ?_⟩)
      unfold s_cov
      rw [c1, decide_eq_false (show ¬ x.2.2.1 ≤ c by omega)]; rfl
    · have c3 : ¬ c < x.2.2.1 := fun z => c2 ((lX_lt hc h1).mpr z)
      refine bX1_covers_16 ho rfl (fun c4 => ?_) (fun c4 => ?_)
      · have c5 := (lX_le h2 hc).mp c4
        refine bX1_covers_29 (bX1_covers_30 (Or.inl rfl) ⟨_, rfl, rfl, ?_⟩)
        unfold s_cov
        rw [decide_eq_false (show ¬ c < x.2.2.2.1 by omega), Bool.and_false]; rfl
      · have c5 : ¬ x.2.2.2.1 ≤ c := fun z => c4 ((lX_le h2 hc).mpr z)
        refine bX1_covers_25 (bX1_covers_30 (Or.inr rfl) ⟨_, rfl, rfl, ?_⟩)
        unfold s_cov
        rw [c1, decide_eq_true (show x.2.2.1 ≤ c by omega), decide_eq_true (show c < x.2.2.2.1 by omega)]; rfl
theorem c_X9_look (ok : k_ok G l) {h : k_H} {t aL aC cap c : Nat} {p q v : Int32} {f1 f2 f3 f4 f5 f6 f7 : k_V} {CS : List k_CH} {x : Option Nat} {o : Option Int32} (ht : h.1 t = some (k_o 12 [vR (some aL), f1, f2, f3, f4, f5, f6, f7])) (hC : h.1 aC = some (k_o 3 [vI p, vI q, vI v])) (hcs : r_cs h aL cap CS) (hc : c < 2 ^ 62) (hx : (x = none ∧ o = none) ∨ (∃ a k v b e, x = some a ∧ h.1 a = some (o_ent k v b e o))) :
    k_ctv (tX9_look G l) [vR (some t), vR (some aC), vJ (lN c), vR x] h (fun h' => h' = k_up h aC (o_cel (s_see c CS (o, false)).1 (s_see c CS (o, false)).2)) := by
  obtain ⟨k1, k2, k3⟩ := hcs
  have tne : t ≠ aC := fun z => by subst z; rw [ht] at hC; cases hC
  have lne : aL ≠ aC := fun z => by subst z; rw [k1] at hC; cases hC
  refine k_ctv_of (eX9_look ok.2 (bX9_look_0 (k_is_o hC) (c_X0_load ok hC hx) ?_))
  rintro h1 rfl
  refine bX9_look_6 ?_
  have key : ∀ (d i : Nat) (z : Option Int32 × Bool), CS.length - i = d → i ≤ CS.length → s_see c (CS.drop i) z = s_see c CS (o, false) →
      k_X (jX9_look G l h) (k_up h aC (o_cel z.1 z.2)) 9 [(0, vR (some t)), (1, vR (some aC)), (2, vJ (lN c)), (5, vI (nI i))] [] (q_v (fun h' => h' = k_up h aC (o_cel (s_see c CS (o, false)).1 (s_see c CS (o, false)).2))) := by
    intro d
    induction d with
    | zero =>
      intro i z hd hi hz
      refine bX9_look_9 (by rw [k_up_ne _ _ tne]; exact ht) rfl (Or.inr ⟨rfl, _, _, by rw [k_up_ne _ _ lne]; exact k1⟩) (c_size ok (by rw [k_up_ne _ _ lne]; exact k1)) ?_
      rintro h1 v ⟨hh, rfl⟩
      rw [hh, List.length_map]
      refine bX9_look_18 (fun _ => bX9_look_65 ⟨rfl, ?_⟩) (fun c1 => absurd (nI_le (by omega) (by omega)) c1)
      have e : i = CS.length := by omega
      rw [e, List.drop_length] at hz
      rw [← hz]
      rfl
    | succ d ih =>
      intro i z hd hi hz
      have hlt : i < CS.length := by omega
      obtain ⟨y, hy⟩ : ∃ y, CS[i]? = some y := ⟨_, List.getElem?_eq_getElem hlt⟩
      have hy2 : (CS.map (fun x => x.1))[i]? = some y.1 := by rw [List.getElem?_map, hy]; rfl
      obtain ⟨m1, m2, m3⟩ := k2 y (List.mem_of_getElem? hy)
      have yne : y.1 ≠ aC := fun z => by rw [z, hC] at m1; cases m1
      have hdrop : CS.drop i = y :: CS.drop (i + 1) := by
        rw [List.drop_eq_getElem_cons hlt]
        congr 1
        exact (List.getElem?_eq_some_iff.mp hy).2
      have m4 : (k_up h aC (o_cel z.1 z.2)).1 y.1 = some (o_chg y) := by rw [k_up_ne _ _ yne]; exact m1
      refine bX9_look_9 (by rw [k_up_ne _ _ tne]; exact ht) rfl (Or.inr ⟨rfl, _, _, by rw [k_up_ne _ _ lne]; exact k1⟩) (c_size ok (by rw [k_up_ne _ _ lne]; exact k1)) ?_
      rintro h1 v ⟨hh, rfl⟩
      rw [hh, List.length_map]
      refine bX9_look_18 (fun c1 => absurd c1 (nI_ge hlt (by omega))) (fun _ => ?_)
      refine bX9_look_21 (by rw [k_up_ne _ _ tne]; exact ht) rfl (Or.inr ⟨rfl, _, _, by rw [k_up_ne _ _ lne]; exact k1⟩) (c_get ok (by rw [k_up_ne _ _ lne]; exact k1) hy2) ?_
      rintro h1 v ⟨hh, rfl⟩
      rw [hh]
      refine bX9_look_30 m4 (c_X1_covers ok m4 m2 m3 hc) ?_
      rintro h1 v ⟨hh, rfl⟩
      rw [hh]
      rw [hdrop] at hz
      refine bX9_look_41 (fun c3 => ?_) (fun c3 => ?_)
      · rw [kB_0] at c3
        refine bX9_look_59 ?_
        rw [nI_1]
        refine ih (i + 1) z (by omega) (by omega) ?_
        rw [← hz]
        unfold s_see
        rw [List.foldl_cons, if_neg (by rw [c3]; decide)]
      · rw [kB_n0] at c3
        refine bX9_look_44 m4 rfl rfl (k_is_o (k_up_self _ _ _)) (c_X0_apply ok (k_up_self _ _ _)) ?_
        rintro h1 hh
        rw [hh, k_uu, o_cel_ap]
        refine bX9_look_59 ?_
        rw [nI_1]
        refine ih (i + 1) (s_apO y.2.1 y.2.2.2.2.1 0 z.1, s_apS y.2.1 z.2) (by omega) (by omega) ?_
        rw [← hz]
        unfold s_see
        rw [List.foldl_cons, if_pos c3]
  exact key _ 0 (o, false) rfl (Nat.zero_le _) rfl
end CH
end
section
/-! WHAT A TRANSACTION OWNS; changes and spans are made -/
section OW
variable {G : k_G} {l : Launch}
theorem c_X9_owns (ok : k_ok G l) {h : k_H} {t aL cap lo hi n : Nat} {f1 f2 f3 f4 f5 f6 f7 : k_V} {CS : List k_CH} (ht : h.1 t = some (k_o 12 [vR (some aL), f1, f2, f3, f4, f5, f6, f7])) (hcs : r_cs h aL cap CS) (hlo : lo < 2 ^ 62) (hhi : hi < 2 ^ 62) (hn : n < 2 ^ 30) :
    k_cti (tX9_owns G l) [vR (some t), vJ (lN lo), vJ (lN hi), vI (nI n)] h (fun h' v => h' = h ∧ v = kB (s_own (CS.take n) lo hi)) := by
  obtain ⟨k1, k2, k3⟩ := hcs
  refine k_cti_of (eX9_owns ok.2 (bX9_owns_0 ?_))
  have key : ∀ (d i : Nat), CS.length - i = d → i ≤ CS.length → s_own (CS.take n) lo hi = s_own ((CS.take n).drop i) lo hi →
      k_X (jX9_owns G l h) h 3 [(0, vR (some t)), (1, vJ (lN lo)), (3, vJ (lN hi)), (5, vI (nI n)), (6, vI (nI i))] [] (q_i (fun h' v => h' = h ∧ v = kB (s_own (CS.take n) lo hi))) := by
    intro d
    induction d with
    | zero =>
      intro i hd hi9 hz
      refine bX9_owns_3 ht rfl (Or.inr ⟨rfl, _, _, k1⟩) (c_size ok k1) ?_
      rintro h1 v ⟨hh, rfl⟩
      rw [hh, List.length_map]
      refine bX9_owns_12 (fun _ => bX9_owns_72 ⟨_, rfl, rfl, ?_⟩) (fun c1 => absurd (nI_le (by omega) (by omega)) c1)
      rw [hz, List.drop_eq_nil_of_le (by rw [List.length_take]; omega)]
      rfl
    | succ d ih =>
      intro i hd hi9 hz
      have hlt : i < CS.length := by omega
      obtain ⟨y, hy⟩ : ∃ y, CS[i]? = some y := ⟨_, List.getElem?_eq_getElem hlt⟩
      have hy2 : (CS.map (fun x => x.1))[i]? = some y.1 := by rw [List.getElem?_map, hy]; rfl
      obtain ⟨m1, m2, m3⟩ := k2 y (List.mem_of_getElem? hy)
      refine bX9_owns_3 ht rfl (Or.inr ⟨rfl, _, _, k1⟩) (c_size ok k1) ?_
      rintro h1 v ⟨hh, rfl⟩
      rw [hh, List.length_map]
      refine bX9_owns_12 (fun c1 => absurd c1 (nI_ge hlt (by omega))) (fun _ => ?_)
      refine bX9_owns_15 (fun c1 => ?_) (fun c1 => ?_)
      · have c2 := (nI_leI (by omega) (by omega)).mp c1
        refine bX9_owns_72 ⟨_, rfl, rfl, ?_⟩
        rw [hz, List.drop_eq_nil_of_le (by rw [List.length_take]; omega)]
        rfl
      · have c2 : ¬ n ≤ i := fun z => c1 ((nI_leI (by omega) (by omega)).mpr z)
        have hlt2 : i < (CS.take n).length := by rw [List.length_take]; omega
        have hdrop : (CS.take n).drop i = y :: (CS.take n).drop (i + 1) := by
          rw [List.drop_eq_getElem_cons hlt2]
          congr 1
          rw [List.getElem_take]
          exact (List.getElem?_eq_some_iff.mp hy).2
        refine bX9_owns_22 ht rfl (Or.inr ⟨rfl, _, _, k1⟩) (c_get ok k1 hy2) ?_
        rintro h1 v ⟨hh, rfl⟩
        rw [hh]
        refine bX9_owns_31 m1 (c_X1_saysAll ok m1) ?_
        rintro h1 v ⟨hh, rfl⟩
        rw [hh]
        have next : (s_all y.2.1 && decide (y.2.2.1 ≤ lo) && decide (hi ≤ y.2.2.2.1)) = false → k_X (jX9_owns G l h) h 66 [(0, vR (some t)), (1, vJ (lN lo)), (3, vJ (lN hi)), (5, vI (nI n)), (6, vI (nI i))] [] (q_i (fun h' v => h' = h ∧ v = kB (s_own (CS.take n) lo hi))) := fun hf => by
          refine bX9_owns_66 ?_
          rw [nI_1]
          refine ih (i + 1) (by omega) (by omega) ?_
          rw [hz, hdrop]
          unfold s_own
          rw [List.any_cons, hf, Bool.false_or]
        refine bX9_owns_41 (fun c3 => ?_) (fun c3 => ?_)
        · rw [kB_0] at c3
          exact next (by rw [c3]; rfl)
        · rw [kB_n0] at c3
          refine bX9_owns_44 m1 rfl (fun c4 => ?_) (fun c4 => ?_)
          · have c5 := (lX_lt hlo m2).mp c4
            exact next (by rw [decide_eq_false (show ¬ y.2.2.1 ≤ lo by omega), Bool.and_false, Bool.false_and])
          · have c5 : ¬ lo < y.2.2.1 := fun z => c4 ((lX_lt hlo m2).mpr z)
            refine bX9_owns_54 m1 rfl (fun c6 => ?_) (fun c6 => ?_)
            · have c7 := (lX_lt m3 hhi).mp c6
              exact next (by rw [decide_eq_false (show ¬ hi ≤ y.2.2.2.1 by omega), Bool.and_false])
            · have c7 : ¬ y.2.2.2.1 < hi := fun z => c6 ((lX_lt m3 hhi).mpr z)
              refine bX9_owns_64 ⟨_, rfl, rfl, ?_⟩
              rw [hz, hdrop]
              unfold s_own
              rw [List.any_cons, c3, decide_eq_true (show y.2.2.1 ≤ lo by omega), decide_eq_true (show hi ≤ y.2.2.2.1 by omega)]
              rfl
  exact key _ 0 rfl (Nat.zero_le _) rfl
theorem c_X1_init (ok : k_ok G l) {h : k_H} {a : Nat} {k v p : Int32} {lo hi : Int64} {u0 u1 u2 u3 u4 : k_V} (ho : h.1 a = some (k_o 4 [u0, u1, u2, u3, u4])) : k_ctv (tX1_init G l) [vR (some a), vI k, vJ lo, vJ hi, vI v, vI p] h (fun h' => h' = k_up h a (k_o 4 [vI k, vJ lo, vJ hi, vI v, vI p])) := by
  refine k_ctv_of (eX1_init ok.2 (bX1_init_0 ho rfl (bX1_init_9 (k_up_self _ _ _) rfl (bX1_init_14 (k_up_self _ _ _) rfl (bX1_init_20 (k_up_self _ _ _) rfl (bX1_init_26 (k_up_self _ _ _) rfl (bX1_init_32 ⟨rfl, ?_⟩)))))))
  rw [k_uu, k_uu, k_uu, k_uu]
  rfl
theorem c_X7_init (ok : k_ok G l) {h : k_H} {a : Nat} {p : Int32} {lo hi : Int64} {u0 u1 u2 : k_V} (ho : h.1 a = some (k_o 10 [u0, u1, u2])) : k_ctv (tX7_init G l) [vR (some a), vJ lo, vJ hi, vI p] h (fun h' => h' = k_up h a (k_o 10 [vJ lo, vJ hi, vI p])) := by
  refine k_ctv_of (eX7_init ok.2 (bX7_init_0 ho rfl (bX7_init_9 (k_up_self _ _ _) rfl (bX7_init_14 (k_up_self _ _ _) rfl (bX7_init_20 ⟨rfl, ?_⟩)))))
  rw [k_uu, k_uu]
  rfl
theorem el_chg {h : k_H} {a : Nat} {fs : List k_V} (ho : h.1 a = some (k_o 4 fs)) : k_el h a := ⟨4, k_is_o ho, k_to (C := "Keyterrace$Change") rfl (by simp [k_casts])⟩
theorem el_spn {h : k_H} {a : Nat} {fs : List k_V} (ho : h.1 a = some (k_o 10 fs)) : k_el h a := ⟨10, k_is_o ho, k_to (C := "Keyterrace$Span") rfl (by simp [k_casts])⟩
/-- a change of one key is kept -/
theorem c_X9_keepKey (ok : k_ok G l) {h : k_H} {t aL cap c : Nat} {k v kept : Int32} {f1 f2 f3 f4 f5 f6 : k_V} {CS : List k_CH} (wh : k_wf h) (ht : h.1 t = some (k_o 12 [vR (some aL), f1, f2, f3, f4, f5, f6, vI kept])) (hcs : r_cs h aL cap CS) :
    k_ctv (tX9_keepKey G l) [vR (some t), vI k, vJ (lN c), vI v] h (fun h' => h' = k_up (k_gr (k_nw h 5 (o_chg (h.2.1, k, c, c + 1, v, 0))) aL (CS.map (fun x => x.1) ++ [h.2.1]) CS.length cap) t (k_o 12 [vR (some aL), f1, f2, f3, f4, f5, f6, vI (kept + 1)])) := by
  obtain ⟨k1, k2, k3⟩ := hcs
  have tl : t ≠ aL := fun z => by subst z; rw [k1] at ht; cases ht
  refine k_ctv_of (eX9_keepKey ok.2 (bX9_keepKey_0 ht rfl (bX9_keepKey_7 (c_X1_init ok (k_nw_self _ _ _)) ?_)))
  rintro h1 hh
  rw [hh, up_nw]
  have e1 : lN c + 1 = lN (c + 1) := lN_1 c
  rw [e1]
  have hk2 := nw_old (n := 5) (c := o_chg (h.2.1, k, c, c + 1, v, 0)) wh k1
  refine bX9_keepKey_19 (Or.inr ⟨rfl, _, _, hk2⟩) (c_add ok (k_wf_nw wh) hk2 (by rw [List.length_map]; exact k3) (fun z hz => ?_) (el_chg (k_nw_self _ _ _))) ?_
  · obtain ⟨y, hy, rfl⟩ := List.mem_map.mp hz
    exact el_chg (nw_old wh (k2 y hy).1)
  · rintro h1 v ⟨hh, rfl⟩
    rw [hh, List.length_map]
    have hg : ∀ ys n, (k_gr (k_nw h 5 (o_chg (h.2.1, k, c, c + 1, v, 0))) aL ys n cap).1 t = (k_nw h 5 (o_chg (h.2.1, k, c, c + 1, v, 0))).1 t := fun ys n => by
      unfold k_gr
      split
      · exact k_up_ne _ _ tl
      · exact k_up_ne (k_nw h 5 (o_chg (h.2.1, k, c, c + 1, v, 0))) _ tl
    refine bX9_keepKey_22 ((hg _ _).trans (nw_old wh ht)) rfl rfl (bX9_keepKey_33 ⟨rfl, rfl⟩)
end OW
end
section
/-! AN ENTRY IS WRITTEN -/
section WR
variable {G : k_G} {l : Launch}
theorem c_X3_init (ok : k_ok G l) {h : k_H} {a : Nat} {k p w : Option Nat} {v : Int32} {u0 u1 u2 u3 u4 u5 : k_V} (ho : h.1 a = some (k_o 6 [u0, u1, u2, u3, u4, u5])) : k_ctv (tX3_init G l) [vR (some a), vR k, vI v, vR p, vR w] h (fun h' => h' = k_up h a (k_o 6 [vR k, vI v, vR p, vR w, u4, u5])) := by
  refine k_ctv_of (eX3_init ok.2 (bX3_init_0 ho rfl (bX3_init_9 (k_up_self _ _ _) rfl (bX3_init_14 (k_up_self _ _ _) rfl (bX3_init_19 (k_up_self _ _ _) rfl (bX3_init_25 ⟨rfl, ?_⟩))))))
  rw [k_uu, k_uu, k_uu]
  rfl
theorem w_tail {h0 h : k_H} {aC e : Nat} {o : Option Int32} {st : Bool} {u0 u1 u2 u3 u4 u5 : k_V} (hC : h.1 aC = some (o_cel o st)) (he : h.1 e = some (k_o 6 [u0, u1, u2, u3, u4, u5])) : k_X (jX8_write G l h0) h 71 [(2, vR (some aC)), (3, vR (some e))] [] (q_v (fun h' => h' = k_up h e (k_o 6 [u0, u1, u2, u3, vI (kB o.isSome), vI (o.getD 0)]))) := by
  have hne : aC ≠ e := fun z => by subst z; rw [hC] at he; cases he
  refine bX8_write_71 hC rfl he (kB_bl _) rfl (bX8_write_79 (by rw [k_up_ne _ _ hne]; exact hC) rfl (k_up_self _ _ _) rfl (bX8_write_87 ⟨rfl, ?_⟩))
  rw [k_uu]
  rfl
/-- a second one in the same version -/
theorem c_X8_writeS (ok : k_ok G l) {h : k_H} {s k aC n c : Nat} {o : Option Int32} {st : Bool} {f0 f1 f2 f3 f4 f5 : k_V} {L : List k_E4} {ka : Nat → Nat} {x : k_E4} (hs : h.1 s = some (k_o 11 [f0, f1, f2, f3, f4, f5, vI (nI n)])) (hC : h.1 aC = some (o_cel o st)) (hk : h.1 k = some (o_key c L)) (hL : r_log h ka L) (hx : L.find? (fun x => x.2.1 == c) = some x) (hv : x.2.2.1 = n) :
    k_ctv (tX8_write G l) [vR (some s), vR (some k), vR (some aC)] h (fun h' => ∃ b e, h.1 x.1 = some (o_ent (ka x.2.1) x.2.2.1 b e x.2.2.2) ∧ h' = k_up h x.1 (o_ent (ka x.2.1) x.2.2.1 b e o)) := by
  obtain ⟨b, e, he⟩ := r_log_mem hL (List.mem_of_find?_eq_some hx)
  have hf : r_fst c L = some x.1 := by unfold r_fst; rw [hx]; rfl
  unfold o_key at hk
  rw [hf] at hk
  refine k_ctv_of (eX8_write ok.2 (bX8_write_0 hk rfl (fun c => by cases c) (fun b9 hb => ?_)))
  cases hb
  refine bX8_write_9 he rfl hs rfl (fun _ => ?_) (fun c1 => absurd (by rw [hv]) c1)
  obtain ⟨h', r, K, rfl, hh⟩ := w_tail (G := G) (l := l) (h0 := h) hC he
  exact ⟨h', _, K, rfl, b, e, he, hh⟩
/-- the first one of a version -/
theorem c_X8_writeN (ok : k_ok G l) {h : k_H} {s k aC n c en : Nat} {nw : Option Nat} {o : Option Int32} {st : Bool} {f0 f1 f2 f3 : k_V} {L : List k_E4} {ka : Nat → Nat} (wh : k_wf h) (hs : h.1 s = some (k_o 11 [f0, f1, f2, f3, vI (nI en), vR nw, vI (nI n)])) (hC : h.1 aC = some (o_cel o st)) (hk : h.1 k = some (o_key c L)) (hL : r_log h ka L) (hx : ∀ x, L.find? (fun x => x.2.1 == c) = some x → x.2.2.1 ≠ n ∧ x.2.2.1 < 2 ^ 31) (hn : n < 2 ^ 31) (hen : en < 1048576) :
    k_ctv (tX8_write G l) [vR (some s), vR (some k), vR (some aC)] h (fun h' => h' = k_up (k_up (k_up (k_nw h 6 (k_o 6 [vR (some k), vI (nI n), vR (r_fst c L), vR nw, vI 0, vI 0])) k (k_o 7 [vJ (lN c), vR (some h.2.1)])) s (k_o 11 [f0, f1, f2, f3, vI (nI (en + 1)), vR (some h.2.1), vI (nI n)])) h.2.1 (o_ent k n (r_fst c L) nw o)) := by
  have sk : s ≠ k := fun z => by subst z; rw [hs] at hk; cases hk
  have ck : aC ≠ k := fun z => by subst z; rw [hC] at hk; cases hk
  have cs : aC ≠ s := fun z => by subst z; rw [hC] at hs; cases hs
  have bs : h.2.1 ≠ s := fun z => by have := wh _ _ hs; omega
  have bk : h.2.1 ≠ k := fun z => by have := wh _ _ hk; omega
  have key : k_X (jX8_write G l h) h 20 [(0, vR (some s)), (1, vR (some k)), (2, vR (some aC))] [] (q_v (fun h' => h' = k_up (k_up (k_up (k_nw h 6 (k_o 6 [vR (some k), vI (nI n), vR (r_fst c L), vR nw, vI 0, vI 0])) k (k_o 7 [vJ (lN c), vR (some h.2.1)])) s (k_o 11 [f0, f1, f2, f3, vI (nI (en + 1)), vR (some h.2.1), vI (nI n)])) h.2.1 (o_ent k n (r_fst c L) nw o))) := by
    refine bX8_write_20 hs rfl (fun _ => ?_) (fun c1 => absurd (nI_lt (b := 1048576) hen (by decide)) c1)
    refine bX8_write_30 (bX8_write_33 (nw_old wh hs) rfl (nw_old wh hk) rfl rfl (c_X3_init ok (k_nw_self _ _ _)) ?_)
    rintro h1 hh
    rw [hh, up_nw]
    refine bX8_write_50 (nw_old wh hk) rfl ?_
    refine bX8_write_56 (by rw [k_up_ne _ _ sk]; exact nw_old wh hs) rfl ?_
    refine bX8_write_61 (k_up_self _ _ _) rfl rfl ?_
    rw [k_uu]
    obtain ⟨h', r, K, rfl, hh⟩ := w_tail (G := G) (l := l) (h0 := h) (h := k_up (k_up (k_nw h 6 (k_o 6 [vR (some k), vI (nI n), vR (r_fst c L), vR nw, vI 0, vI 0])) k (k_o 7 [vJ (lN c), vR (some h.2.1)])) s (k_o 11 [f0, f1, f2, f3, vI (nI en + 1), vR (some h.2.1), vI (nI n)])) (aC := aC) (e := h.2.1) (o := o) (st := st) (by rw [k_up_ne _ _ cs, k_up_ne _ _ ck]; exact nw_old wh hC) (by rw [k_up_ne _ _ bs, k_up_ne _ _ bk]; exact k_nw_self _ _ _)
    rw [nI_1] at K hh
    exact ⟨h', _, by rw [nI_1]; exact K, rfl, hh⟩
  refine k_ctv_of (eX8_write ok.2 ?_)
  cases e : L.find? (fun x => x.2.1 == c) with
  | none =>
    have hf : r_fst c L = none := by unfold r_fst; rw [e]; rfl
    exact bX8_write_0 hk rfl (fun _ => key) (fun b hb => by rw [hf] at hb; cases hb)
  | some x =>
    obtain ⟨b, e2, he⟩ := r_log_mem hL (List.mem_of_find?_eq_some e)
    have hf : r_fst c L = some x.1 := by unfold r_fst; rw [e]; rfl
    refine bX8_write_0 hk rfl (fun c1 => by rw [hf] at c1; cases c1) (fun b hb => ?_)
    rw [hf] at hb ⊢
    cases hb
    exact bX8_write_9 he rfl hs rfl (fun c1 => absurd ((nI_eq (hx x e).2 hn).mp c1) (hx x e).1) (fun _ => by rw [hf] at key; exact key)
end WR
end
section
/-! THE LOG AND THE KEYS BEHIND A WRITE -/
theorem r_log_keep6 {h h' : k_H} {ka : Nat → Nat} (k : ∀ (q : Nat) (fs : List k_V), h.1 q = some (k_o 6 fs) → h'.1 q = some (k_o 6 fs)) : ∀ {L : List k_E4}, r_log h ka L → r_log h' ka L := by
  intro L
  induction L with
  | nil => exact fun _ => trivial
  | cons x t ih => exact fun r => ⟨k _ _ r.1, ih r.2⟩
/-- the heap behind the first write of a version -/
def h_new (h : k_H) (s k c n en : Nat) (p nw : Option Nat) (o : Option Int32) (f0 f1 f2 f3 : k_V) : k_H := k_up (k_up (k_up (k_nw h 6 (k_o 6 [vR (some k), vI (nI n), vR p, vR nw, vI 0, vI 0])) k (k_o 7 [vJ (lN c), vR (some h.2.1)])) s (k_o 11 [f0, f1, f2, f3, vI (nI (en + 1)), vR (some h.2.1), vI (nI n)])) h.2.1 (o_ent k n p nw o)
theorem h_new_ne {h : k_H} {s k c n en q : Nat} {p nw : Option Nat} {o : Option Int32} {f0 f1 f2 f3 : k_V} (h1 : q ≠ s) (h2 : q ≠ k) (h3 : q ≠ h.2.1) : (h_new h s k c n en p nw o f0 f1 f2 f3).1 q = h.1 q := by
  unfold h_new
  rw [k_up_ne _ _ h3, k_up_ne _ _ h1, k_up_ne _ _ h2, k_nw_ne _ _ _ h3]
theorem log_new {h : k_H} {s k c n en : Nat} {o : Option Int32} {f0 f1 f2 f3 : k_V} {gs : List k_V} {L : List k_E4} {ka : Nat → Nat} (wh : k_wf h) (hs : h.1 s = some (k_o 11 gs)) (hk : h.1 k = some (o_key c L)) (hka : ka c = k) (hL : r_log h ka L) :
    r_log (h_new h s k c n en (r_fst c L) (L.head?.map (fun y => y.1)) o f0 f1 f2 f3) ka ((h.2.1, c, n, o) :: L) := by
  refine ⟨?_, r_log_keep6 (fun q fs hq => ?_) hL⟩
  · show (h_new h s k c n en (r_fst c L) (L.head?.map (fun y => y.1)) o f0 f1 f2 f3).1 h.2.1 = some (o_ent (ka c) n (r_fst c L) (L.head?.map (fun y => y.1)) o)
    unfold h_new
    rw [hka]
    exact k_up_self _ _ _
  · rw [h_new_ne (fun z => by subst z; rw [hs] at hq; cases hq) (fun z => by subst z; rw [hk] at hq; cases hq) (fun z => by have := wh _ _ hq; omega)]
    exact hq
theorem ks_new {h : k_H} {s k c n en : Nat} {p nw : Option Nat} {o : Option Int32} {f0 f1 f2 f3 : k_V} {gs : List k_V} {L : List k_E4} {KS : List k_K2} (wh : k_wf h) (hs : h.1 s = some (k_o 11 gs)) (hm : (c, k) ∈ KS) (hks : r_ks h KS L) :
    r_ks (h_new h s k c n en p nw o f0 f1 f2 f3) KS ((h.2.1, c, n, o) :: L) := by
  obtain ⟨k1, k2, k3⟩ := hks
  refine ⟨fun x hx => ⟨(k1 x hx).1, ?_⟩, k2, k3⟩
  have hkc := (k1 _ hm).2
  have hkl := wh _ _ hkc
  by_cases e : x.1 = c
  · have e2 : x.2 = k := by
      have h1 := r_at_mem k2 (show (c, x.2) ∈ KS by rw [← e]; exact hx)
      have h2 := r_at_mem k2 hm
      rw [h1] at h2
      exact Option.some.inj h2
    have ks9 : k ≠ s := fun z => by subst z; rw [hs] at hkc; cases hkc
    rw [e2, e]
    unfold h_new
    rw [k_up_ne _ _ (show k ≠ h.2.1 from fun z => by have h9 := hkl; simp only at h9; omega), k_up_ne _ _ ks9, k_up_self]
    unfold o_key
    rw [r_fst_eq (c := c) (x := (h.2.1, c, n, o)) rfl]
  · have hxc := (k1 x hx).2
    have e3 : x.2 ≠ k := fun z => by
      rw [z, hkc] at hxc
      have a1 : o_key c L = o_key x.1 L := Option.some.inj hxc
      have a2 : [vJ (lN c), vR (r_fst c L)] = [vJ (lN x.1), vR (r_fst x.1 L)] := (Prod.mk.inj (Sum.inl.inj a1)).2
      have h2 : lN c = lN x.1 := Sum.inl.inj (Sum.inr.inj (List.cons.inj a2).1)
      exact e ((lX_eq (by have := (k1 _ hm).1; simp only at this; omega) (by have := (k1 x hx).1; omega)).mp h2).symm
    rw [h_new_ne (fun z => by rw [z, hs] at hxc; cases hxc) e3 (fun z => by have := wh _ _ hxc; omega), hxc]
    unfold o_key
    rw [r_fst_ne (x := (h.2.1, c, n, o)) (fun z => e z.symm)]
end
section
/-! THE LOG BEHIND A SECOND WRITE OF A VERSION -/
def r_st1 (a : Nat) (o : Option Int32) (y : k_E4) : k_E4 := if y.1 = a then (y.1, y.2.1, y.2.2.1, o) else y
def r_set (a : Nat) (o : Option Int32) (L : List k_E4) : List k_E4 := L.map (r_st1 a o)
theorem r_st1_a (a : Nat) (o : Option Int32) (y : k_E4) : (r_st1 a o y).1 = y.1 := by unfold r_st1; split <;> rfl
theorem r_st1_c (a : Nat) (o : Option Int32) (y : k_E4) : (r_st1 a o y).2.1 = y.2.1 := by unfold r_st1; split <;> rfl
theorem r_st1_v (a : Nat) (o : Option Int32) (y : k_E4) : (r_st1 a o y).2.2.1 = y.2.2.1 := by unfold r_st1; split <;> rfl
theorem r_set_fst (a : Nat) (o : Option Int32) (c : Nat) : ∀ L : List k_E4, r_fst c (r_set a o L) = r_fst c L := by
  intro L
  induction L with
  | nil => rfl
  | cons y t ih =>
    show r_fst c (r_st1 a o y :: r_set a o t) = _
    by_cases e : y.2.1 = c
    · rw [r_fst_eq e, r_fst_eq ((r_st1_c a o y).trans e), r_st1_a]
    · rw [r_fst_ne e, r_fst_ne (fun z => e ((r_st1_c a o y).symm.trans z)), ih]
theorem r_set_head (a : Nat) (o : Option Int32) : ∀ L : List k_E4, (r_set a o L).head?.map (fun y => y.1) = L.head?.map (fun y => y.1) := by
  intro L
  cases L with
  | nil => rfl
  | cons y t =>
    show some (r_st1 a o y).1 = some y.1
    rw [r_st1_a]
theorem log_set {h : k_H} {ka : Nat → Nat} {x : k_E4} {b e : Option Nat} {o : Option Int32} (hx : h.1 x.1 = some (o_ent (ka x.2.1) x.2.2.1 b e x.2.2.2)) : ∀ {L : List k_E4}, r_log h ka L → r_log (k_up h x.1 (o_ent (ka x.2.1) x.2.2.1 b e o)) ka (r_set x.1 o L) := by
  intro L
  induction L with
  | nil => exact fun _ => trivial
  | cons y t ih =>
    intro r
    refine ⟨?_, ih r.2⟩
    show (k_up h x.1 (o_ent (ka x.2.1) x.2.2.1 b e o)).1 (r_st1 x.1 o y).1 = some (o_ent (ka (r_st1 x.1 o y).2.1) (r_st1 x.1 o y).2.2.1 (r_fst (r_st1 x.1 o y).2.1 (r_set x.1 o t)) ((r_set x.1 o t).head?.map (fun y => y.1)) (r_st1 x.1 o y).2.2.2)
    rw [r_set_fst, r_set_head, r_st1_a, r_st1_c, r_st1_v]
    by_cases c : y.1 = x.1
    · have e2 : (r_st1 x.1 o y).2.2.2 = o := by unfold r_st1; rw [if_pos c]
      have e3 := r.1
      rw [c, hx] at e3
      have a2 := (Prod.mk.inj (Sum.inl.inj (Option.some.inj e3))).2
      obtain ⟨b0, a3⟩ := List.cons.inj a2
      obtain ⟨b1, a4⟩ := List.cons.inj a3
      obtain ⟨b2, a5⟩ := List.cons.inj a4
      obtain ⟨b3, -⟩ := List.cons.inj a5
      rw [e2, c, k_up_self]
      unfold o_ent
      rw [b0, b1, b2, b3]
    · have e2 : (r_st1 x.1 o y).2.2.2 = y.2.2.2 := by unfold r_st1; rw [if_neg c]
      rw [e2, k_up_ne _ _ c]
      exact r.1
theorem ks_set {h : k_H} {x : Nat} {fs fs2 : List k_V} {a : Nat} {o : Option Int32} {L : List k_E4} {KS : List k_K2} (hx : h.1 x = some (k_o 6 fs)) (hks : r_ks h KS L) : r_ks (k_up h x (k_o 6 fs2)) KS (r_set a o L) := by
  obtain ⟨k1, k2, k3⟩ := hks
  refine ⟨fun y hy => ⟨(k1 y hy).1, ?_⟩, k2, k3⟩
  have h1 := (k1 y hy).2
  rw [k_up_ne _ _ (fun z => by rw [z, hx] at h1; cases h1), h1]
  unfold o_key
  rw [r_set_fst]
end
section
/-! RANGES AND STAMPED KEYS ARE KEPT -/
section KE
variable {G : k_G} {l : Launch}
/-- a range is cleared -/
theorem c_X9_keepRange (ok : k_ok G l) {h : k_H} {t aL cap c e : Nat} {kept : Int32} {f1 f2 f3 f4 f5 f6 : k_V} {CS : List k_CH} (wh : k_wf h) (ht : h.1 t = some (k_o 12 [vR (some aL), f1, f2, f3, f4, f5, f6, vI kept])) (hcs : r_cs h aL cap CS) :
    k_ctv (tX9_keepRange G l) [vR (some t), vJ (lN c), vJ (lN e)] h (fun h' => h' = k_up (k_gr (k_nw h 5 (o_chg (h.2.1, 1, c, e, 0, 0))) aL (CS.map (fun x => x.1) ++ [h.2.1]) CS.length cap) t (k_o 12 [vR (some aL), f1, f2, f3, f4, f5, f6, vI (kept + 1)])) := by
  obtain ⟨k1, k2, k3⟩ := hcs
  have tl : t ≠ aL := fun z => by subst z; rw [k1] at ht; cases ht
  refine k_ctv_of (eX9_keepRange ok.2 (bX9_keepRange_0 ht rfl (bX9_keepRange_7 (c_X1_init ok (k_nw_self _ _ _)) ?_)))
  rintro h1 hh
  rw [hh, up_nw]
  have hk2 := nw_old (n := 5) (c := o_chg (h.2.1, 1, c, e, 0, 0)) wh k1
  refine bX9_keepRange_16 (Or.inr ⟨rfl, _, _, hk2⟩) (c_add ok (k_wf_nw wh) hk2 (by rw [List.length_map]; exact k3) (fun z hz => ?_) (el_chg (k_nw_self _ _ _))) ?_
  · obtain ⟨y, hy, rfl⟩ := List.mem_map.mp hz
    exact el_chg (nw_old wh (k2 y hy).1)
  · rintro h1 v ⟨hh, rfl⟩
    rw [hh, List.length_map]
    have hg : ∀ ys n, (k_gr (k_nw h 5 (o_chg (h.2.1, 1, c, e, 0, 0))) aL ys n cap).1 t = (k_nw h 5 (o_chg (h.2.1, 1, c, e, 0, 0))).1 t := fun ys n => by
      unfold k_gr
      split
      · exact k_up_ne _ _ tl
      · exact k_up_ne (k_nw h 5 (o_chg (h.2.1, 1, c, e, 0, 0))) _ tl
    refine bX9_keepRange_19 ((hg _ _).trans (nw_old wh ht)) rfl rfl (bX9_keepRange_30 ⟨rfl, rfl⟩)
/-- a stamped key is kept -/
theorem c_X9_keepStamped (ok : k_ok G l) {h : k_H} {t aL cap c : Nat} {p v kept : Int32} {f1 f2 f3 f4 f5 f6 : k_V} {CS : List k_CH} (wh : k_wf h) (ht : h.1 t = some (k_o 12 [vR (some aL), f1, f2, f3, f4, f5, f6, vI kept])) (hcs : r_cs h aL cap CS) :
    k_ctv (tX9_keepStamped G l) [vR (some t), vJ (lN c), vI p, vI v] h (fun h' => h' = k_up (k_gr (k_nw h 5 (o_chg (h.2.1, 6, c, c + 1, v, p))) aL (CS.map (fun x => x.1) ++ [h.2.1]) CS.length cap) t (k_o 12 [vR (some aL), f1, f2, f3, f4, f5, f6, vI (kept + 1)])) := by
  obtain ⟨k1, k2, k3⟩ := hcs
  have tl : t ≠ aL := fun z => by subst z; rw [k1] at ht; cases ht
  refine k_ctv_of (eX9_keepStamped ok.2 (bX9_keepStamped_0 ht rfl (bX9_keepStamped_7 (c_X1_init ok (k_nw_self _ _ _)) ?_)))
  rintro h1 hh
  rw [hh, up_nw]
  have e1 : lN c + 1 = lN (c + 1) := lN_1 c
  rw [e1]
  have hk2 := nw_old (n := 5) (c := o_chg (h.2.1, 6, c, c + 1, v, p)) wh k1
  refine bX9_keepStamped_20 (Or.inr ⟨rfl, _, _, hk2⟩) (c_add ok (k_wf_nw wh) hk2 (by rw [List.length_map]; exact k3) (fun z hz => ?_) (el_chg (k_nw_self _ _ _))) ?_
  · obtain ⟨y, hy, rfl⟩ := List.mem_map.mp hz
    exact el_chg (nw_old wh (k2 y hy).1)
  · rintro h1 v ⟨hh, rfl⟩
    rw [hh, List.length_map]
    have hg : ∀ ys n, (k_gr (k_nw h 5 (o_chg (h.2.1, 6, c, c + 1, v, p))) aL ys n cap).1 t = (k_nw h 5 (o_chg (h.2.1, 6, c, c + 1, v, p))).1 t := fun ys n => by
      unfold k_gr
      split
      · exact k_up_ne _ _ tl
      · exact k_up_ne (k_nw h 5 (o_chg (h.2.1, 6, c, c + 1, v, p))) _ tl
    refine bX9_keepStamped_23 ((hg _ _).trans (nw_old wh ht)) rfl rfl (bX9_keepStamped_34 ⟨rfl, rfl⟩)
end KE
/-- the changes behind a keeping -/
theorem cs_kept {h : k_H} {t aL cap n : Nat} {x : k_CH} {gs fs : List k_V} {CS : List k_CH} (wh : k_wf h) (ht : h.1 t = some (k_o 12 gs)) (hcs : r_cs h aL cap CS) (hx : x.1 = h.2.1) (hb : x.2.2.1 < 2 ^ 62 ∧ x.2.2.2.1 < 2 ^ 62) (hl : CS.length + 1 < 2 ^ 18) (hn : n = CS.length) :
    ∃ cap', r_cs (k_up (k_gr (k_nw h 5 (o_chg x)) aL (CS.map (fun x => x.1) ++ [h.2.1]) n cap) t (k_o 12 fs)) aL cap' (CS ++ [x]) := by
  obtain ⟨k1, k2, k3⟩ := hcs
  have tl : t ≠ aL := fun z => by subst z; rw [k1] at ht; cases ht
  have la : aL < h.2.1 := wh _ _ k1
  have hg : ∀ q, q ≠ aL → (k_gr (k_nw h 5 (o_chg x)) aL (CS.map (fun x => x.1) ++ [h.2.1]) n cap).1 q = (k_nw h 5 (o_chg x)).1 q := fun q hq => by
    unfold k_gr
    split
    · exact k_up_ne _ _ hq
    · exact k_up_ne (k_nw h 5 (o_chg x)) _ hq
  have hs : ∃ cap', (k_gr (k_nw h 5 (o_chg x)) aL (CS.map (fun x => x.1) ++ [h.2.1]) n cap).1 aL = some (k_l (CS.map (fun x => x.1) ++ [h.2.1]) cap') := by
    unfold k_gr
    split
    · exact ⟨cap, k_up_self _ _ _⟩
    · exact ⟨k_nc cap, k_up_self (k_nw h 5 (o_chg x)) aL _⟩
  obtain ⟨cap', e1⟩ := hs
  refine ⟨cap', ?_, fun y hy => ?_, by simp; omega⟩
  · rw [k_up_ne _ _ (Ne.symm tl), e1, List.map_append, ← hx]
    rfl
  · rcases List.mem_append.mp hy with hy | hy
    · obtain ⟨m1, m2, m3⟩ := k2 y hy
      have hlt := wh _ _ m1
      refine ⟨?_, m2, m3⟩
      rw [k_up_ne _ _ (fun z => by rw [z, ht] at m1; cases m1), hg _ (fun z => by rw [z, k1] at m1; cases m1)]
      exact nw_old wh m1
    · have : y = x := by simpa using hy
      subst this
      have htt := wh _ _ ht
      refine ⟨?_, hb⟩
      rw [hx, k_up_ne _ _ (by omega), hg _ (by omega), k_nw_self]
end
section
/-! READINGS ARE PUT DOWN: (address, low, high, how many changes were kept) -/
abbrev k_SP : Type := Nat × Nat × Nat × Nat
abbrev o_spn (x : k_SP) : k_C := k_o 10 [vJ (lN x.2.1), vJ (lN x.2.2.1), vI (nI x.2.2.2)]
def r_rs (h : k_H) (aR cap : Nat) (RS : List k_SP) : Prop := h.1 aR = some (k_l (RS.map (fun x => x.1)) cap) ∧ (∀ x ∈ RS, h.1 x.1 = some (o_spn x) ∧ x.2.1 < 2 ^ 62 ∧ x.2.2.1 < 2 ^ 62 ∧ x.2.2.2 < 2 ^ 30) ∧ RS.length < 16384
section PD
variable {G : k_G} {l : Launch}
theorem c_X9_putDown (ok : k_ok G l) {h : k_H} {t aL aR cap capR lo hi : Nat} {f2 f3 f4 f5 f6 f7 : k_V} {CS : List k_CH} {RS : List k_SP} (wh : k_wf h) (ht : h.1 t = some (k_o 12 [vR (some aL), vR (some aR), f2, f3, f4, f5, f6, f7])) (hcs : r_cs h aL cap CS) (hrs : r_rs h aR capR RS) :
    k_ctv (tX9_putDown G l) [vR (some t), vJ (lN lo), vJ (lN hi)] h (fun h' => h' = k_gr (k_nw h 3 (o_spn (h.2.1, lo, hi, CS.length))) aR (RS.map (fun x => x.1) ++ [h.2.1]) RS.length capR) := by
  obtain ⟨k1, k2, k3⟩ := hcs
  obtain ⟨r1, r2, r3⟩ := hrs
  refine k_ctv_of (eX9_putDown ok.2 (bX9_putDown_0 ht rfl (Or.inr ⟨rfl, _, _, r1⟩) (c_size ok r1) ?_))
  rintro h1 v ⟨hh, rfl⟩
  rw [hh, List.length_map]
  refine bX9_putDown_7 (fun c1 => absurd c1 (nI_ge (b := 16384) r3 (by decide))) (fun _ => ?_)
  refine bX9_putDown_13 ht rfl ?_
  refine bX9_putDown_20 (nw_old wh ht) rfl (Or.inr ⟨rfl, _, _, nw_old wh k1⟩) (c_size ok (nw_old wh k1)) ?_
  rintro h1 v ⟨hh, rfl⟩
  rw [hh, List.length_map]
  refine bX9_putDown_30 (c_X7_init ok (k_nw_self _ _ _)) ?_
  rintro h1 hh
  rw [hh, up_nw]
  have hr2 := nw_old (n := 3) (c := o_spn (h.2.1, lo, hi, CS.length)) wh r1
  refine bX9_putDown_33 (Or.inr ⟨rfl, _, _, hr2⟩) (c_add ok (k_wf_nw wh) hr2 (by rw [List.length_map]; omega) (fun z hz => ?_) (el_spn (k_nw_self _ _ _))) ?_
  · obtain ⟨y, hy, rfl⟩ := List.mem_map.mp hz
    exact el_spn (nw_old wh (r2 y hy).1)
  · rintro h1 v ⟨hh, rfl⟩
    rw [hh, List.length_map]
    exact bX9_putDown_36 (bX9_putDown_37 ⟨rfl, rfl⟩)
/-- a key is put down, if it isn't owned -/
theorem c_X9_putDownKey (ok : k_ok G l) {h : k_H} {t aL aR cap capR c : Nat} {f2 f3 f4 f5 f6 f7 : k_V} {CS : List k_CH} {RS : List k_SP} (wh : k_wf h) (ht : h.1 t = some (k_o 12 [vR (some aL), vR (some aR), f2, f3, f4, f5, f6, f7])) (hcs : r_cs h aL cap CS) (hrs : r_rs h aR capR RS) (hc : c < 2 ^ 60) :
    k_ctv (tX9_putDownKey G l) [vR (some t), vJ (lN c)] h (fun h' => h' = if s_own CS c (c + 1) = true then h else k_gr (k_nw h 3 (o_spn (h.2.1, c, c + 1, CS.length))) aR (RS.map (fun x => x.1) ++ [h.2.1]) RS.length capR) := by
  obtain ⟨k1, k2, k3⟩ := id hcs
  have e1 : lN c + 1 = lN (c + 1) := lN_1 c
  refine k_ctv_of (eX9_putDownKey ok.2 (bX9_putDownKey_0 ht rfl (Or.inr ⟨rfl, _, _, k1⟩) (c_size ok k1) ?_))
  rintro h1 v ⟨hh, rfl⟩
  rw [hh, List.length_map, e1]
  refine bX9_putDownKey_12 (k_is_o ht) (c_X9_owns ok ht hcs (by omega) (by omega) (by omega)) ?_
  rintro h1 v ⟨hh, rfl⟩
  rw [hh, List.take_length]
  refine bX9_putDownKey_15 (fun c1 => ?_) (fun c1 => ?_)
  · rw [kB_n0] at c1
    exact bX9_putDownKey_26 ⟨rfl, (if_pos c1).symm⟩
  · rw [kB_0] at c1
    refine bX9_putDownKey_18 (k_is_o ht) (by rw [e1]; exact c_X9_putDown ok wh ht hcs hrs) ?_
    rintro h1 hh
    rw [hh]
    exact bX9_putDownKey_26 ⟨rfl, (if_neg (by rw [c1]; decide)).symm⟩
end PD
end
section
/-! A TRANSACTION BEGINS; small makers -/
section SB
variable {G : k_G} {l : Launch}
theorem c_X9_start (ok : k_ok G l) {h : k_H} {t aL aR cap capR : Nat} {v g w : Int32} {f2 f3 f4 f5 f6 f7 : k_V} {xs ys : List Nat} (ht : h.1 t = some (k_o 12 [vR (some aL), vR (some aR), f2, f3, f4, f5, f6, f7])) (hl : h.1 aL = some (k_l xs cap)) (hr : h.1 aR = some (k_l ys capR)) (hne : aR ≠ aL) (hw : k_bl w) :
    k_ctv (tX9_start G l) [vR (some t), vI v, vI g, vI w] h (fun h' => h' = k_up (k_up (k_up h aL (k_l [] cap)) aR (k_l [] capR)) t (k_o 12 [vR (some aL), vR (some aR), vI 1, vI w, vI v, vI g, vI (-2147483648), vI 0])) := by
  have tl : t ≠ aL := fun z => by subst z; rw [hl] at ht; cases ht
  have tr : t ≠ aR := fun z => by subst z; rw [hr] at ht; cases ht
  have ht1 : (k_up h aL (k_l [] cap)).1 t = some (k_o 12 [vR (some aL), vR (some aR), f2, f3, f4, f5, f6, f7]) := by rw [k_up_ne _ _ tl]; exact ht
  have hr1 : (k_up h aL (k_l [] cap)).1 aR = some (k_l ys capR) := by rw [k_up_ne _ _ hne]; exact hr
  have ht2 : (k_up (k_up h aL (k_l [] cap)) aR (k_l [] capR)).1 t = some (k_o 12 [vR (some aL), vR (some aR), f2, f3, f4, f5, f6, f7]) := by rw [k_up_ne _ _ tr]; exact ht1
  refine k_ctv_of (eX9_start ok.2 (bX9_start_0 ht rfl (Or.inr ⟨rfl, _, _, hl⟩) (c_clear ok hl) ?_))
  rintro h1 hh
  rw [hh]
  refine bX9_start_7 ht1 rfl (Or.inr ⟨rfl, _, _, hr1⟩) (c_clear ok hr1) ?_
  rintro h1 hh
  rw [hh]
  refine bX9_start_14 ht2 rfl (bX9_start_19 (k_up_self _ _ _) hw rfl (bX9_start_24 (k_up_self _ _ _) rfl (bX9_start_29 (k_up_self _ _ _) rfl (bX9_start_34 (k_up_self _ _ _) rfl (bX9_start_40 (k_up_self _ _ _) rfl (bX9_start_45 ⟨rfl, ?_⟩))))))
  rw [k_uu, k_uu, k_uu, k_uu, k_uu]
  rfl
theorem c_X5_init (ok : k_ok G l) {h : k_H} {a : Nat} {lo : Int64} {sv : Int32} {u0 u1 u2 : k_V} (ho : h.1 a = some (k_o 8 [u0, u1, u2])) : k_ctv (tX5_init G l) [vR (some a), vJ lo, vI sv] h (fun h' => h' = k_up h a (k_o 8 [vJ lo, vI sv, vI 0])) := by
  refine k_ctv_of (eX5_init ok.2 (bX5_init_0 ho rfl (bX5_init_9 (k_up_self _ _ _) rfl (bX5_init_14 (k_up_self _ _ _) rfl (bX5_init_19 ⟨rfl, ?_⟩)))))
  rw [k_uu, k_uu]
  rfl
theorem c_X10_init (ok : k_ok G l) {h : k_H} {a : Nat} {k : Option Nat} {u0 u1 : k_V} (ho : h.1 a = some (k_o 13 [u0, u1])) : k_ctv (tX10_init G l) [vR (some a), vR k] h (fun h' => h' = k_up h a (k_o 13 [vR k, vI (-2147483648)])) := by
  refine k_ctv_of (eX10_init ok.2 (bX10_init_0 ho rfl (bX10_init_10 (k_up_self _ _ _) rfl (bX10_init_15 ⟨rfl, ?_⟩))))
  rw [k_uu]
  rfl
theorem c_X2_init (ok : k_ok G l) {h : k_H} {a : Nat} {n nm sh : Int32} {p : Option Nat} {u0 u1 u2 u3 : k_V} (ho : h.1 a = some (k_o 5 [u0, u1, u2, u3])) : k_ctv (tX2_init G l) [vR (some a), vI n, vR p, vI nm, vI sh] h (fun h' => h' = k_up h a (k_o 5 [vI n, vI sh, vR p, vI nm])) := by
  refine k_ctv_of (eX2_init ok.2 (bX2_init_0 ho rfl (bX2_init_9 (k_up_self _ _ _) rfl (bX2_init_14 (k_up_self _ _ _) rfl (bX2_init_19 (k_up_self _ _ _) rfl (bX2_init_25 ⟨rfl, ?_⟩))))))
  rw [k_uu, k_uu, k_uu]
  rfl
end SB
end
section
/-! LEASES -/
section LE
variable {G : k_G} {l : Launch}
/-- who holds a lease -/
def s_hold (lease now : Int32) : Int32 := if lease = -2147483648 then -2147483648 else if now < lease - lease / 10000 * 10000 then lease / 10000 else -2147483648
theorem c_X11_holderOf (ok : k_ok G l) {h : k_H} {a s : Nat} {x now : Int32} {gs : List k_V} {f0 f1 f2 f3 f4 f5 : k_V} (ha : h.1 a = some (k_o 14 (vR (some s) :: gs))) (hs : h.1 s = some (k_o 11 [f0, f1, f2, f3, f4, f5, vI now])) : k_cti (tX11_holderOf G l) [vR (some a), vI x] h (fun h' v => h' = h ∧ v = s_hold x now) := by
  refine k_cti_of (eX11_holderOf ok.2 (bX11_holderOf_0 (fun c1 => ?_) (fun c1 => ?_)))
  · refine bX11_holderOf_21 ⟨_, rfl, rfl, ?_⟩
    unfold s_hold
    rw [if_pos c1]
  · refine bX11_holderOf_6 ha rfl hs rfl (fun c2 => ?_) (fun c2 => ?_)
    · refine bX11_holderOf_24 ⟨_, rfl, rfl, ?_⟩
      unfold s_hold
      rw [if_neg c1, if_pos c2]
    · refine bX11_holderOf_21 ⟨_, rfl, rfl, ?_⟩
      unfold s_hold
      rw [if_neg c1, if_neg c2]
theorem c_X11_leaseOf (ok : k_ok G l) {h : k_H} {a c : Nat} {f1 : k_V} (ha : h.1 a = some (k_o 7 [vJ (lN c), f1])) (hc : c < 1331000000000) : k_ctj (tX11_leaseOf G l) [vR (some a)] h (fun h' v => h' = h ∧ v = lN (s_cd (-7) (s_no c 1) 10000)) := by
  refine k_ctj_of (eX11_leaseOf ok.2 (bX11_leaseOf_0 ha rfl (c_X11_numberOf ok hc) ?_))
  rintro h1 v ⟨hh, rfl⟩
  rw [hh]
  refine bX11_leaseOf_10 (c_X11_codeOf_ ok (s_naB (by decide)) (s_no_na _ _)) ?_
  rintro h1 v ⟨hh, rfl⟩
  rw [hh]
  exact bX11_leaseOf_13 ⟨_, rfl, rfl, rfl⟩
end LE
end
section
/-! THE VERSION GOES ON; a stamped key is forgotten -/
section AD
variable {G : k_G} {l : Launch}
theorem c_X8_advance (ok : k_ok G l) {h : k_H} {s n m : Nat} {f0 f1 f2 f3 f4 f5 : k_V} (hs : h.1 s = some (k_o 11 [f0, f1, f2, f3, f4, f5, vI (nI n)])) (hn : n + m ≤ 9000) : k_ctv (tX8_advance G l) [vR (some s), vI (nI m)] h (fun h' => h' = k_up h s (k_o 11 [f0, f1, f2, f3, f4, f5, vI (nI (n + m))])) := by
  have e : (if 9000 < (nI n + nI m) then 9000 else (nI n + nI m)) = nI (n + m) := by
    rw [nI_add]
    exact if_neg (nI_nlt (b := n + m) (a := 9000) hn (by decide))
  refine k_ctv_of (eX8_advance ok.2 (bX8_advance_0 hs rfl rfl (bX8_advance_16 ⟨rfl, ?_⟩)))
  rw [e]
  rfl
end AD
end
section
/-! HOW MANY KEYS DIFFER FROM A VERSION -/
theorem now_ok {h : k_H} {ka : Nat → Nat} {L : List k_E4} (hL : r_log h ka L) (c : Nat) : (r_fst c L = none ∧ r_now c L = none) ∨ (∃ a k v b e, r_fst c L = some a ∧ h.1 a = some (o_ent k v b e (r_now c L))) := by
  unfold r_fst r_now
  rcases r_find_log hL (p := fun x => x.2.1 == c) with e | ⟨x, e, b, e2, he⟩
  · rw [e]; exact Or.inl ⟨rfl, rfl⟩
  · rw [e]; exact Or.inr ⟨x.1, _, _, b, e2, rfl, he⟩
def r_dif (n : Nat) (L : List k_E4) (x : k_K2) : Bool := !(decide (r_now x.1 L = r_val x.1 n L))
section DF
variable {G : k_G} {l : Launch}
theorem c_X8_countDiffering (ok : k_ok G l) {h : k_H} {s aK cap n : Nat} {f1 f2 f3 f4 f5 f6 : k_V} {KS : List k_K2} {L : List k_E4} {ka : Nat → Nat} (hs : h.1 s = some (k_o 11 [vR (some aK), f1, f2, f3, f4, f5, f6])) (hk : h.1 aK = some (k_l (KS.map (fun x => x.2)) cap)) (hks : r_ks h KS L) (hL : r_log h ka L) (hv : ∀ x ∈ L, x.2.2.1 < 2 ^ 31) (hn : n < 2 ^ 31) :
    k_cti (tX8_countDiffering G l) [vR (some s), vI (nI n)] h (fun h' v => h' = h ∧ v = nI (KS.countP (r_dif n L))) := by
  obtain ⟨k1, k2, k3⟩ := hks
  have isl : k_is h aK 2 := Or.inr ⟨rfl, _, _, hk⟩
  refine k_cti_of (eX8_countDiffering ok.2 (bX8_countDiffering_0 ?_))
  have key : ∀ (d i m : Nat), KS.length - i = d → i ≤ KS.length → KS.countP (r_dif n L) = m + (KS.drop i).countP (r_dif n L) →
      k_X (jX8_countDiffering G l h) h 4 [(0, vR (some s)), (1, vI (nI n)), (2, vI (nI m)), (3, vI (nI i))] [] (q_i (fun h' v => h' = h ∧ v = nI (KS.countP (r_dif n L)))) := by
    intro d
    induction d with
    | zero =>
      intro i m hd hi hm
      refine bX8_countDiffering_4 hs rfl isl (c_size ok hk) ?_
      rintro h1 v ⟨hh, rfl⟩
      rw [hh, List.length_map]
      refine bX8_countDiffering_12 (fun _ => bX8_countDiffering_54 ⟨_, rfl, rfl, ?_⟩) (fun c1 => absurd (nI_le (by omega) (by omega)) c1)
      rw [hm, List.drop_eq_nil_of_le (by omega)]
      rfl
    | succ d ih =>
      intro i m hd hi hm
      have hlt : i < KS.length := by omega
      obtain ⟨x, hx⟩ : ∃ x, KS[i]? = some x := ⟨_, List.getElem?_eq_getElem hlt⟩
      have hx2 : (KS.map (fun x => x.2))[i]? = some x.2 := by rw [List.getElem?_map, hx]; rfl
      have hmem := k1 x (List.mem_of_getElem? hx)
      have hdrop : KS.drop i = x :: KS.drop (i + 1) := by
        rw [List.drop_eq_getElem_cons hlt]
        congr 1
        exact (List.getElem?_eq_some_iff.mp hx).2
      rw [hdrop] at hm
      refine bX8_countDiffering_4 hs rfl isl (c_size ok hk) ?_
      rintro h1 v ⟨hh, rfl⟩
      rw [hh, List.length_map]
      refine bX8_countDiffering_12 (fun c1 => absurd c1 (nI_ge hlt (by omega))) (fun _ => ?_)
      refine bX8_countDiffering_15 hs rfl isl (c_get ok hk hx2) ?_
      rintro h1 v ⟨hh, rfl⟩
      rw [hh]
      refine bX8_countDiffering_23 hmem.2 rfl (c_X4_entryIn ok hmem.2 hL hv hn) ?_
      rintro h1 v ⟨hh, rfl⟩
      rw [hh]
      refine bX8_countDiffering_39 (c_X3_alike ok (now_ok hL x.1) (look_ok hL x.1 n)) ?_
      rintro h1 v ⟨hh, rfl⟩
      rw [hh]
      refine bX8_countDiffering_42 (fun c1 => ?_) (fun c1 => ?_)
      · rw [kB_n0] at c1
        refine bX8_countDiffering_48 ?_
        rw [nI_1]
        refine ih (i + 1) m (by omega) (by omega) ?_
        rw [hm, List.countP_cons_of_neg (by unfold r_dif; rw [c1]; decide)]
      · rw [kB_0] at c1
        refine bX8_countDiffering_45 (bX8_countDiffering_48 ?_)
        rw [nI_1, nI_1]
        refine ih (i + 1) (m + 1) (by omega) (by omega) ?_
        rw [hm, List.countP_cons_of_pos (by unfold r_dif; rw [c1]; rfl)]
        omega
  exact key _ 0 0 rfl (Nat.zero_le _) (by simp)
end DF
end
section
/-! PARTS: (address, low, server, held) -/
abbrev k_PT : Type := Nat × Nat × Int32 × Nat
abbrev o_prt (x : k_PT) : k_C := k_o 8 [vJ (lN x.2.1), vI x.2.2.1, vI (nI x.2.2.2)]
def r_ps (h : k_H) (aP cap : Nat) (PS : List k_PT) : Prop := h.1 aP = some (k_l (PS.map (fun x => x.1)) cap) ∧ (∀ x ∈ PS, h.1 x.1 = some (o_prt x) ∧ x.2.1 < 2 ^ 62 ∧ x.2.2.2 < 2 ^ 30) ∧ PS.length < 2 ^ 18
def s_cnt (sv : Int32) (PS : List k_PT) : Nat := PS.countP (fun x => decide (x.2.2.1 = sv))
section PT
variable {G : k_G} {l : Launch}
theorem c_X6_countOf (ok : k_ok G l) {h : k_H} {p aP cap : Nat} {sv : Int32} {PS : List k_PT} (hp : h.1 p = some (k_o 9 [vR (some aP)])) (hps : r_ps h aP cap PS) : k_cti (tX6_countOf G l) [vR (some p), vI sv] h (fun h' v => h' = h ∧ v = nI (s_cnt sv PS)) := by
  obtain ⟨k1, k2, k3⟩ := hps
  have isl : k_is h aP 2 := Or.inr ⟨rfl, _, _, k1⟩
  refine k_cti_of (eX6_countOf ok.2 (bX6_countOf_0 ?_))
  have key : ∀ (d i m : Nat), PS.length - i = d → i ≤ PS.length → s_cnt sv PS = m + s_cnt sv (PS.drop i) →
      k_X (jX6_countOf G l h) h 4 [(0, vR (some p)), (1, vI sv), (2, vI (nI m)), (3, vI (nI i))] [] (q_i (fun h' v => h' = h ∧ v = nI (s_cnt sv PS))) := by
    intro d
    induction d with
    | zero =>
      intro i m hd hi hm
      refine bX6_countOf_4 hp rfl isl (c_size ok k1) ?_
      rintro h1 v ⟨hh, rfl⟩
      rw [hh, List.length_map]
      refine bX6_countOf_12 (fun _ => bX6_countOf_42 ⟨_, rfl, rfl, ?_⟩) (fun c1 => absurd (nI_le (by omega) (by omega)) c1)
      rw [hm, List.drop_eq_nil_of_le (by omega)]
      rfl
    | succ d ih =>
      intro i m hd hi hm
      have hlt : i < PS.length := by omega
      obtain ⟨x, hx⟩ : ∃ x, PS[i]? = some x := ⟨_, List.getElem?_eq_getElem hlt⟩
      have hx2 : (PS.map (fun x => x.1))[i]? = some x.1 := by rw [List.getElem?_map, hx]; rfl
      have hmem := k2 x (List.mem_of_getElem? hx)
      have hdrop : PS.drop i = x :: PS.drop (i + 1) := by
        rw [List.drop_eq_getElem_cons hlt]
        congr 1
        exact (List.getElem?_eq_some_iff.mp hx).2
      rw [hdrop] at hm
      refine bX6_countOf_4 hp rfl isl (c_size ok k1) ?_
      rintro h1 v ⟨hh, rfl⟩
      rw [hh, List.length_map]
      refine bX6_countOf_12 (fun c1 => absurd c1 (nI_ge hlt (by omega))) (fun _ => ?_)
      refine bX6_countOf_15 hp rfl isl (c_get ok k1 hx2) ?_
      rintro h1 v ⟨hh, rfl⟩
      rw [hh]
      refine bX6_countOf_23 hmem.1 rfl (fun c1 => ?_) (fun c1 => ?_)
      · refine bX6_countOf_36 ?_
        rw [nI_1]
        refine ih (i + 1) m (by omega) (by omega) ?_
        rw [hm]
        unfold s_cnt
        rw [List.countP_cons_of_neg (by simpa using c1)]
      · refine bX6_countOf_33 (bX6_countOf_36 ?_)
        rw [nI_1, nI_1]
        refine ih (i + 1) (m + 1) (by omega) (by omega) ?_
        rw [hm]
        unfold s_cnt
        rw [List.countP_cons_of_pos (by simpa using c1)]
        omega
  exact key _ 0 0 rfl (Nat.zero_le _) (by simp)
end PT
end
