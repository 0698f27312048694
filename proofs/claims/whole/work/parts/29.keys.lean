/-! THE KEYS OF THE STORE: (code, address), by their codes; found by halving -/
theorem k_ushr {n : Nat} (h : n < 2 ^ 31) : ((Int32.toUInt32 (nI n)) >>> ((Int32.toUInt32 1) &&& Int32.toUInt32 31)).toInt32 = nI (n / 2) := by
  have e3 : ((Int32.toUInt32 1) &&& Int32.toUInt32 31) = 1 := by decide
  rw [e3]
  apply Int32.toBitVec_inj.mp
  apply BitVec.eq_of_toNat_eq
  have e1 : ((nI n).toUInt32 >>> 1).toInt32.toBitVec.toNat = ((nI n).toUInt32 >>> 1).toNat := rfl
  rw [e1, UInt32.toNat_shiftRight]
  have e2 : (nI n).toUInt32.toNat = (BitVec.ofNat 32 n).toNat := rfl
  have e4 : (nI (n / 2)).toBitVec.toNat = (BitVec.ofNat 32 (n / 2)).toNat := rfl
  have e5 : (1 : UInt32).toNat % 32 = 1 := by decide
  rw [e2, e4, e5, BitVec.toNat_ofNat, BitVec.toNat_ofNat, Nat.shiftRight_eq_div_pow]
  omega
abbrev k_K2 : Type := Nat × Nat
def r_pl (c : Nat) (KS : List k_K2) : Nat := (KS.takeWhile (fun x => decide (x.1 < c))).length
theorem r_pl_of {c : Nat} {KS : List k_K2} : ∀ {low : Nat}, (∀ (i : Nat) (x : k_K2), i < low → KS[i]? = some x → x.1 < c) → low ≤ KS.length → (∀ x : k_K2, KS[low]? = some x → ¬ x.1 < c) → low = r_pl c KS := by
  induction KS with
  | nil => intro low _ h2 _; simp at h2; subst h2; rfl
  | cons y t ih =>
    intro low h1 h2 h3
    cases low with
    | zero =>
      have := h3 y (by simp)
      unfold r_pl
      rw [List.takeWhile_cons_of_neg (by simpa using this)]
      rfl
    | succ k =>
      have h4 := h1 0 y (by omega) (by simp)
      unfold r_pl
      rw [List.takeWhile_cons_of_pos (by simpa using h4)]
      have := ih (low := k) (fun i x hi hx => h1 (i + 1) x (by omega) (by simpa using hx)) (by simp at h2; omega) (fun x hx => h3 x (by simpa using hx))
      rw [this]
      rfl
theorem r_srt {KS : List k_K2} (s : KS.Pairwise (fun x y => x.1 < y.1)) {i j : Nat} {x y : k_K2} (hij : i < j) (hi : KS[i]? = some x) (hj : KS[j]? = some y) : x.1 < y.1 := by
  obtain ⟨a1, rfl⟩ := List.getElem?_eq_some_iff.mp hi
  obtain ⟨a2, rfl⟩ := List.getElem?_eq_some_iff.mp hj
  exact List.pairwise_iff_getElem.mp s i j a1 a2 hij
abbrev o_key (c : Nat) (L : List k_E4) : k_C := k_o 7 [vJ (lN c), vR (r_fst c L)]
/-- the keys stand in the heap -/
def r_ks (h : k_H) (KS : List k_K2) (L : List k_E4) : Prop := (∀ x ∈ KS, x.1 < 1331000000000 ∧ h.1 x.2 = some (o_key x.1 L)) ∧ KS.Pairwise (fun x y => x.1 < y.1) ∧ KS.length < 2 ^ 18
theorem r_pl_le (c : Nat) (KS : List k_K2) : r_pl c KS ≤ KS.length := (List.takeWhile_prefix _).length_le
theorem r_pl_lt {c : Nat} {KS : List k_K2} : ∀ {i : Nat} {x : k_K2}, i < r_pl c KS → KS[i]? = some x → x.1 < c := by
  induction KS with
  | nil => intro i x hi hx; simp at hx
  | cons y t ih =>
    intro i x hi hx
    unfold r_pl at hi
    by_cases hy : y.1 < c
    · rw [List.takeWhile_cons_of_pos (by simpa using hy)] at hi
      cases i with
      | zero => simp at hx; rw [← hx]; exact hy
      | succ k => exact ih (i := k) (by simp at hi; exact hi) (by simpa using hx)
    · rw [List.takeWhile_cons_of_neg (by simpa using hy)] at hi
      simp at hi
theorem r_pl_ge {c : Nat} {KS : List k_K2} (s : KS.Pairwise (fun x y => x.1 < y.1)) : ∀ {i : Nat} {x : k_K2}, r_pl c KS ≤ i → KS[i]? = some x → ¬ x.1 < c := by
  induction KS with
  | nil => intro i x hi hx; simp at hx
  | cons y t ih =>
    intro i x hi hx
    by_cases hy : y.1 < c
    · unfold r_pl at hi
      rw [List.takeWhile_cons_of_pos (by simpa using hy)] at hi
      cases i with
      | zero => simp at hi
      | succ k => exact ih (List.Pairwise.of_cons s) (i := k) (by simp at hi; exact hi) (by simpa using hx)
    · cases i with
      | zero => simp at hx; rw [← hx]; exact hy
      | succ k =>
        have := r_srt s (i := 0) (j := k + 1) (x := y) (by omega) (by simp) hx
        omega
section KY
variable {G : k_G} {l : Launch}
theorem c_X8_placeFrom (ok : k_ok G l) {h : k_H} {s aK cap c : Nat} {f1 f2 f3 f4 f5 f6 : k_V} {KS : List k_K2} {L : List k_E4} (hs : h.1 s = some (k_o 11 [vR (some aK), f1, f2, f3, f4, f5, f6])) (hk : h.1 aK = some (k_l (KS.map (fun x => x.2)) cap)) (hks : r_ks h KS L) (hc : c < 2 ^ 62) : k_cti (tX8_placeFrom G l) [vR (some s), vJ (lN c)] h (fun h' v => h' = h ∧ v = nI (r_pl c KS)) := by
  obtain ⟨k1, k2, k3⟩ := hks
  have isl : k_is h aK 2 := Or.inr ⟨rfl, _, _, hk⟩
  refine k_cti_of (eX8_placeFrom ok.2 (bX8_placeFrom_0 hs rfl isl (c_size ok hk) ?_))
  rintro h1 v ⟨hh, rfl⟩
  rw [hh, List.length_map]
  refine bX8_placeFrom_9 ?_
  have key : ∀ (d lo hi : Nat), hi - lo = d → lo ≤ hi → hi ≤ KS.length → (∀ (i : Nat) (x : k_K2), i < lo → KS[i]? = some x → x.1 < c) → (∀ (i : Nat) (x : k_K2), hi ≤ i → KS[i]? = some x → ¬ x.1 < c) →
      k_X (jX8_placeFrom G l h) h 11 [(0, vR (some s)), (1, vJ (lN c)), (3, vI (nI lo)), (4, vI (nI hi))] [] (q_i (fun h' v => h' = h ∧ v = nI (r_pl c KS))) := by
    intro d
    induction d using Nat.strongRecOn with
    | ind d ih =>
      intro lo hi hd hle hlen i1 i2
      refine bX8_placeFrom_11 (fun c1 => ?_) (fun c1 => ?_)
      · have c2 := (nI_leI (by omega) (by omega)).mp c1
        have e : lo = hi := by omega
        refine bX8_placeFrom_60 ⟨_, rfl, rfl, ?_⟩
        rw [r_pl_of i1 (by omega) (fun x hx => i2 lo x (by omega) hx)]
      · have c2 : ¬ hi ≤ lo := fun z => c1 ((nI_leI (by omega) (by omega)).mpr z)
        have em : ((Int32.toUInt32 (nI lo + nI hi)) >>> ((Int32.toUInt32 1) &&& Int32.toUInt32 31)).toInt32 = nI ((lo + hi) / 2) := by rw [nI_add, k_ushr (by omega)]
        have hm : (lo + hi) / 2 < KS.length := by omega
        obtain ⟨x, hx⟩ : ∃ x, KS[(lo + hi) / 2]? = some x := ⟨_, List.getElem?_eq_getElem hm⟩
        have hx2 : (KS.map (fun x => x.2))[(lo + hi) / 2]? = some x.2 := by rw [List.getElem?_map, hx]; rfl
        have hmem := k1 x (List.mem_of_getElem? hx)
        refine bX8_placeFrom_17 hs rfl isl (by rw [em]; exact c_get ok hk hx2) ?_
        rintro h1 v ⟨hh, rfl⟩
        rw [hh, em]
        refine bX8_placeFrom_34 hmem.2 rfl (fun c3 => ?_) (fun c3 => ?_)
        · have c4 := (lX_le hc (by omega)).mp c3
          refine bX8_placeFrom_53 (bX8_placeFrom_57 (ih ((lo + hi) / 2 - lo) (by omega) lo ((lo + hi) / 2) rfl (by omega) (by omega) i1 (fun i y hi9 hy => ?_)))
          by_cases e : i = (lo + hi) / 2
          · subst e; rw [hx] at hy; cases hy; omega
          · have := r_srt k2 (i := (lo + hi) / 2) (j := i) (by omega) hx hy
            omega
        · have c4 : ¬ c ≤ x.1 := fun z => c3 ((lX_le hc (by omega)).mpr z)
          refine bX8_placeFrom_45 (bX8_placeFrom_57 ?_)
          rw [nI_1]
          refine ih (hi - ((lo + hi) / 2 + 1)) (by omega) _ _ rfl (by omega) hlen (fun i y hi9 hy => ?_) i2
          by_cases e : i = (lo + hi) / 2
          · subst e; rw [hx] at hy; cases hy; omega
          · have := r_srt k2 (i := i) (j := (lo + hi) / 2) (by omega) hy hx
            omega
  exact key _ 0 KS.length rfl (Nat.zero_le _) (Nat.le_refl _) (fun i x hi => by omega) (fun i x hi hx => by rw [List.getElem?_eq_none hi] at hx; cases hx)
end KY
