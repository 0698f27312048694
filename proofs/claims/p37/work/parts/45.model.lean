section
/-! THE RAW WORLD OF THE REFERENCE: its object at b, its rows at b + 1 .. b + 36; numbers by field, rows by place -/
def m_kn : Nat → Nat × Nat := fun i => match i with
  | 1 => (1, 12000)
  | 2 => (0, 12000)
  | 3 => (0, 420000)
  | 4 => (0, 420000)
  | 5 => (2, 420000)
  | 6 => (0, 420000)
  | 7 => (0, 8192)
  | 8 => (1, 8192)
  | 9 => (1, 8192)
  | 10 => (2, 4)
  | 11 => (2, 4)
  | 12 => (0, 4)
  | 13 => (0, 4)
  | 14 => (0, 4)
  | 15 => (0, 4)
  | 16 => (0, 16384)
  | 17 => (1, 16384)
  | 18 => (1, 16384)
  | 19 => (0, 16384)
  | 20 => (0, 16384)
  | 21 => (0, 4)
  | 22 => (1, 8192)
  | 23 => (1, 8192)
  | 24 => (0, 8192)
  | 25 => (0, 1024)
  | 26 => (0, 1024)
  | 27 => (0, 1024)
  | 28 => (2, 1024)
  | 29 => (2, 1024)
  | 30 => (1, 20)
  | 31 => (0, 20)
  | 32 => (2, 20)
  | 33 => (0, 20)
  | 34 => (0, 10)
  | 35 => (1, 4096)
  | 36 => (0, 4096)
  | _ => (3, 0)
end
section
/-! THE REFERENCE'S KEYS AND ENTRIES: a log whose addresses are the entries' places; looked up -/
theorem nI_div {a b : Nat} (ha : a < 2 ^ 31) (hb : b < 2 ^ 31) : nI a / nI b = nI (a / b) := by
  have h1 : a / b ≤ a := Nat.div_le_self _ _
  apply Int32.toInt_inj.mp
  rw [nI_toInt (by omega), Int32.toInt_div, nI_toInt ha, nI_toInt hb]
  rw [Int.tdiv_eq_ediv_of_nonneg (by omega)]
  have : ((a : Int) / (b : Int)) = ((a / b : Nat) : Int) := rfl
  rw [this]
  generalize a / b = q at h1
  rw [Int.bmod_eq_of_le (by omega) (by omega)]
section MQ
variable {G : k_G} {l : Launch}
theorem r_val_none {c n : Nat} {KM : List k_K2} {L : List k_E4} (s : KM.Pairwise (fun x y => x.1 < y.1)) (hin : r_in KM L) (h : r_at c KM = none) : r_val c n L = none := by
  have := r_look_none (n := n) s hin h
  unfold r_look at this
  unfold r_val
  rw [Option.map_eq_none_iff.mp this]
  rfl
theorem r_at_get {c a : Nat} {KM : List k_K2} (h : r_at c KM = some a) : KM[r_pl c KM]? = some (c, a) := by
  unfold r_at at h
  cases e : KM[r_pl c KM]? with
  | none => rw [e] at h; cases h
  | some x =>
    rw [e] at h
    by_cases z : x.1 = c
    · simp only [if_pos z] at h
      cases h
      rw [← z]
    · simp only [if_neg z] at h
      cases h
end MQ
end
section
/-! THE REFERENCE NAMES A KEY, AND PUTS AN ENTRY -/
theorem nI_m1 {k : Nat} (h : 0 < k) : nI k + (-1) = nI (k - 1) := by
  have := nI_sub (a := k) (b := 1) h
  rw [← this, Int32.sub_eq_add_neg]
  rfl
def m_ins (c : Nat) (KM : List k_K2) : List k_K2 := if (r_at c KM).isSome = true then KM else KM.insertIdx (r_pl c KM) (c, 0)
theorem m_ins_len (c : Nat) (KM : List k_K2) : (m_ins c KM).length ≤ KM.length + 1 := by
  unfold m_ins
  split
  · omega
  · rw [List.length_insertIdx]; split <;> omega
theorem m_ins_srt {c : Nat} {KM : List k_K2} (s : KM.Pairwise (fun x y => x.1 < y.1)) : (m_ins c KM).Pairwise (fun x y => x.1 < y.1) := by
  unfold m_ins
  split
  · exact s
  · rename_i hn
    have hle := r_pl_le c KM
    rw [List.pairwise_iff_getElem]
    intro i j hi hj hij
    have ei := List.getElem?_eq_getElem hi
    have ej := List.getElem?_eq_getElem hj
    generalize (KM.insertIdx (r_pl c KM) (c, 0))[i] = x at ei
    generalize (KM.insertIdx (r_pl c KM) (c, 0))[j] = y at ej
    rw [List.getElem?_insertIdx] at ei ej
    by_cases i1 : i < r_pl c KM
    · rw [if_pos i1] at ei
      have hx := r_pl_lt i1 ei
      by_cases j1 : j < r_pl c KM
      · rw [if_pos j1] at ej
        exact r_srt s hij ei ej
      · rw [if_neg j1] at ej
        by_cases j2 : j = r_pl c KM
        · rw [if_pos j2, if_pos (by omega)] at ej
          cases ej
          exact hx
        · rw [if_neg j2] at ej
          exact r_srt s (by omega) ei ej
    · rw [if_neg i1] at ei
      rw [if_neg (by omega), if_neg (by omega)] at ej
      by_cases i2 : i = r_pl c KM
      · rw [if_pos i2, if_pos (by omega)] at ei
        cases ei
        have h1 := r_pl_ge (c := c) s (by omega) ej
        by_cases e : y.1 = c
        · exfalso
          have hy := List.mem_of_getElem? ej
          have h2 := r_at_mem (c := c) (a := y.2) s (by rw [← e]; exact hy)
          rw [h2] at hn
          exact hn rfl
        · show c < y.1
          omega
      · rw [if_neg i2] at ei
        exact r_srt s (by omega) ei ej
theorem m_ins_at {c : Nat} {KM : List k_K2} : ∃ a, (m_ins c KM)[r_pl c KM]? = some (c, a) := by
  have hle := r_pl_le c KM
  unfold m_ins
  split
  · rename_i h
    cases e : r_at c KM with
    | none => rw [e] at h; cases h
    | some a => exact ⟨a, r_at_get e⟩
  · refine ⟨0, ?_⟩
    rw [List.getElem?_insertIdx, if_neg (by omega), if_pos rfl, if_pos hle]
theorem m_ins_mem {c : Nat} {KM : List k_K2} {x : k_K2} (h : x ∈ KM) : x ∈ m_ins c KM := by
  unfold m_ins
  split
  · exact h
  · rw [List.mem_insertIdx (r_pl_le c KM)]
    exact Or.inr h
theorem m_ins_of {c : Nat} {KM : List k_K2} {x : k_K2} (h : x ∈ m_ins c KM) : x.1 = c ∨ x ∈ KM := by
  unfold m_ins at h
  split at h
  · exact Or.inr h
  · rw [List.mem_insertIdx (r_pl_le c KM)] at h
    rcases h with rfl | h
    · exact Or.inl rfl
    · exact Or.inr h
section MN
variable {G : k_G} {l : Launch}
end MN
section MP2
variable {G : k_G} {l : Launch}
end MP2
end
section
/-! RANGES OF KEYS, RUN THROUGH; entries pushed -/
def r_flt (lo hi : Nat) (p : Nat → Bool) (K : List k_K2) : List k_K2 := K.filter (fun x => decide (lo ≤ x.1) && decide (x.1 < hi) && p x.1)
def r_rem (hi : Nat) (p : Nat → Bool) (K : List k_K2) (i : Nat) : List k_K2 := (K.drop i).filter (fun x => decide (x.1 < hi) && p x.1)
theorem rs_drop {K : List k_K2} {i : Nat} {x : k_K2} (hx : K[i]? = some x) : K.drop i = x :: K.drop (i + 1) := by
  have hlt := (List.getElem?_eq_some_iff.mp hx).1
  rw [List.drop_eq_getElem_cons hlt]
  congr 1
  exact (List.getElem?_eq_some_iff.mp hx).2
theorem rs_end {hi : Nat} {p : Nat → Bool} {K : List k_K2} {i : Nat} (h : K.length ≤ i) : r_rem hi p K i = [] := by
  unfold r_rem
  rw [List.drop_eq_nil_of_le h]
  rfl
theorem rs_stop {hi : Nat} {p : Nat → Bool} {K : List k_K2} {i : Nat} {x : k_K2} (s : K.Pairwise (fun x y => x.1 < y.1)) (hx : K[i]? = some x) (h : hi ≤ x.1) : r_rem hi p K i = [] := by
  unfold r_rem
  rw [List.filter_eq_nil_iff]
  intro y hy
  obtain ⟨j, hj⟩ := List.getElem?_of_mem hy
  rw [List.getElem?_drop] at hj
  by_cases e : j = 0
  · subst e
    rw [Nat.add_zero, hx] at hj
    cases hj
    simp [show ¬ x.1 < hi by omega]
  · have := r_srt s (i := i) (j := i + j) (by omega) hx hj
    simp [show ¬ y.1 < hi by omega]
theorem rs_skip {hi : Nat} {p : Nat → Bool} {K : List k_K2} {i : Nat} {x : k_K2} (hx : K[i]? = some x) (h : p x.1 = false) : r_rem hi p K i = r_rem hi p K (i + 1) := by
  unfold r_rem
  rw [rs_drop hx, List.filter_cons_of_neg (by simp [h])]
theorem rs_take {hi : Nat} {p : Nat → Bool} {K : List k_K2} {i : Nat} {x : k_K2} (hx : K[i]? = some x) (h1 : x.1 < hi) (h : p x.1 = true) : r_rem hi p K i = x :: r_rem hi p K (i + 1) := by
  unfold r_rem
  rw [rs_drop hx, List.filter_cons_of_pos (by simp [h, h1])]
theorem rs_start {lo hi : Nat} {p : Nat → Bool} {K : List k_K2} (s : K.Pairwise (fun x y => x.1 < y.1)) : r_rem hi p K (r_pl lo K) = r_flt lo hi p K := by
  unfold r_rem r_flt
  conv => rhs; rw [← List.take_append_drop (r_pl lo K) K]
  rw [List.filter_append]
  have h1 : (K.take (r_pl lo K)).filter (fun x => decide (lo ≤ x.1) && decide (x.1 < hi) && p x.1) = [] := by
    rw [List.filter_eq_nil_iff]
    intro y hy
    obtain ⟨j, hj⟩ := List.getElem?_of_mem hy
    rw [List.getElem?_take] at hj
    by_cases e : j < r_pl lo K
    · rw [if_pos e] at hj
      have := r_pl_lt e hj
      simp [show ¬ lo ≤ y.1 by omega]
    · rw [if_neg e] at hj; cases hj
  rw [h1, List.nil_append]
  refine List.filter_congr fun y hy => ?_
  obtain ⟨j, hj⟩ := List.getElem?_of_mem hy
  rw [List.getElem?_drop] at hj
  have := r_pl_ge (c := lo) s (by omega) hj
  rw [decide_eq_true (show lo ≤ y.1 by omega), Bool.true_and]
theorem r_flt_of {lo hi : Nat} {p : Nat → Bool} {K : List k_K2} {x : k_K2} (h : x ∈ r_flt lo hi p K) : x ∈ K ∧ lo ≤ x.1 ∧ x.1 < hi ∧ p x.1 = true := by
  unfold r_flt at h
  rw [List.mem_filter] at h
  simp only [Bool.and_eq_true, decide_eq_true_eq] at h
  exact ⟨h.1, h.2.1.1, h.2.1.2, h.2.2⟩
/-- entries are pushed -/
def r_pu (n : Nat) (L : List k_E4) (x : Nat × Option Int32) : List k_E4 := (L.length, x.1, n, x.2) :: L
def r_pus (n : Nat) (xs : List (Nat × Option Int32)) (L : List k_E4) : List k_E4 := xs.foldl (r_pu n) L
theorem r_pus_len (n : Nat) : ∀ (xs : List (Nat × Option Int32)) (L : List k_E4), (r_pus n xs L).length = L.length + xs.length := by
  intro xs
  induction xs with
  | nil => intro L; rfl
  | cons x t ih =>
    intro L
    show (r_pus n t (r_pu n L x)).length = _
    rw [ih]
    show (L.length + 1) + t.length = L.length + (t.length + 1)
    omega
theorem r_val_cons (c n : Nat) (x : k_E4) (L : List k_E4) : r_val c n (x :: L) = if x.2.1 = c ∧ x.2.2.1 ≤ n then x.2.2.2 else r_val c n L := by
  unfold r_val
  by_cases h : x.2.1 = c ∧ x.2.2.1 ≤ n
  · rw [r_get_eq h.1 h.2, if_pos h]; rfl
  · rw [r_get_ne h, if_neg h]
theorem r_val_pu_ne {c n m : Nat} {L : List k_E4} {x : Nat × Option Int32} (h : ¬ x.1 = c) : r_val c m (r_pu n L x) = r_val c m L := by
  unfold r_pu
  rw [r_val_cons, if_neg (fun z => h z.1)]
theorem m_ins_in {c : Nat} {KM : List k_K2} {a : Nat} (s : KM.Pairwise (fun x y => x.1 < y.1)) (h : (c, a) ∈ KM) : m_ins c KM = KM := by
  unfold m_ins
  rw [r_at_mem s h]
  rfl
section MR
variable {G : k_G} {l : Launch}
end MR
end
section
/-! PARTS, as mathematics: V the codes with a value, rising; parts (low, server) -/
abbrev p_T : Type := Nat × Int32
def p_lt (c : Nat) (V : List Nat) : Nat := (V.filter (fun x => decide (x < c))).length
def p_end (V : List Nat) : List p_T → Nat
  | [] => V.length
  | q :: _ => p_lt q.1 V
def p_cn (PT : List p_T) (v : Int32) : Nat := PT.countP (fun p => decide (p.2 = v))
def p_idle (PT : List p_T) : Int32 := if p_cn PT 1 < p_cn PT 0 then (if p_cn PT 2 < p_cn PT 1 then 2 else 1) else if p_cn PT 2 < p_cn PT 0 then 2 else 0
def p_split (V : List Nat) : Nat → List p_T → List p_T → List p_T
  | 0, pre, post => pre ++ post
  | _ + 1, pre, [] => pre
  | k + 1, pre, p :: rest => if 8 < p_end V rest - p_lt p.1 V then p_split V k (pre ++ [p]) ((V.getD (p_lt p.1 V + 4) 0, p_idle (pre ++ p :: rest)) :: rest) else p_split V k (pre ++ [p]) rest
def p_join (V : List Nat) : p_T → List p_T → List p_T
  | p, [] => [p]
  | p, q :: r => if p_end V r - p_lt p.1 V < 4 then p_join V p r else p :: p_join V q r
def p_arr (V : List Nat) (PT : List p_T) : List p_T := match p_split V (PT.length + V.length) [] PT with
  | [] => []
  | p :: r => p_join V p r
theorem p_lt_le (c : Nat) (V : List Nat) : p_lt c V ≤ V.length := List.length_filter_le _ _
theorem p_lt_mono {a c : Nat} (h : a ≤ c) : ∀ V : List Nat, p_lt a V ≤ p_lt c V := by
  intro V
  induction V with
  | nil => exact Nat.le_refl _
  | cons x t ih =>
    unfold p_lt at ih ⊢
    by_cases h1 : x < a
    · rw [List.filter_cons_of_pos (by simpa using h1), List.filter_cons_of_pos (by simp; omega)]
      simp; exact ih
    · rw [List.filter_cons_of_neg (by simpa using h1)]
      by_cases h2 : x < c
      · rw [List.filter_cons_of_pos (by simpa using h2)]; simp; omega
      · rw [List.filter_cons_of_neg (by simpa using h2)]; exact ih
/-- rising: the n-th one has n ahead of it -/
theorem p_lt_at {V : List Nat} (s : V.Pairwise (fun x y => x < y)) : ∀ {i : Nat} {x : Nat}, V[i]? = some x → p_lt x V = i := by
  induction V with
  | nil => intro i x h; simp at h
  | cons y t ih =>
    intro i x h
    cases i with
    | zero =>
      simp at h
      subst h
      unfold p_lt
      rw [List.filter_eq_nil_iff.mpr]
      · rfl
      · intro z hz
        rcases List.mem_cons.mp hz with rfl | hz
        · simp
        · have := (List.pairwise_cons.mp s).1 z hz
          simp; omega
    | succ i =>
      have hx : t[i]? = some x := by simpa using h
      have h1 := ih (List.Pairwise.of_cons s) hx
      have h2 := (List.pairwise_cons.mp s).1 x (List.mem_of_getElem? hx)
      unfold p_lt at h1 ⊢
      rw [List.filter_cons_of_pos (by simpa using h2), List.length_cons, h1]
theorem p_lt_iff {V : List Nat} (s : V.Pairwise (fun x y => x < y)) {i x c : Nat} (h : V[i]? = some x) : x < c ↔ i < p_lt c V := by
  constructor
  · intro hc
    have h1 := p_lt_at s h
    have h2 : p_lt x V < p_lt c V := by
      have hm := List.mem_of_getElem? h
      clear h h1 s i
      induction V with
      | nil => cases hm
      | cons y t ih =>
        have hmono := p_lt_mono (Nat.le_of_lt hc) t
        unfold p_lt at ih hmono ⊢
        rcases List.mem_cons.mp hm with rfl | hm
        · rw [List.filter_cons_of_neg (by simp), List.filter_cons_of_pos (by simpa using hc)]; simp; omega
        · have := ih hm
          by_cases h3 : y < x
          · rw [List.filter_cons_of_pos (by simpa using h3), List.filter_cons_of_pos (by simp; omega)]; simp; omega
          · rw [List.filter_cons_of_neg (by simpa using h3)]
            by_cases h4 : y < c
            · rw [List.filter_cons_of_pos (by simpa using h4)]; simp; omega
            · rw [List.filter_cons_of_neg (by simpa using h4)]; omega
    omega
  · intro hi
    by_cases hc : x < c
    · exact hc
    · have h1 := p_lt_at s h
      have h2 := p_lt_mono (show c ≤ x by omega) V
      omega
theorem p_srt {p : Nat → Bool} {K : List k_K2} (s : K.Pairwise (fun x y => x.1 < y.1)) : ((K.filter (fun x => p x.1)).map (fun x => x.1)).Pairwise (fun x y => x < y) := by
  rw [List.pairwise_map]
  exact List.Pairwise.filter _ s
/-- the codes with a value -/
def m_V (KM : List k_K2) (n : Nat) (L : List k_E4) : List Nat := (KM.filter (fun x => (r_val x.1 n L).isSome)).map (fun x => x.1)
section MPT
variable {G : k_G} {l : Launch}
end MPT
end
section
/-! THE REFERENCE ARRANGES ITS PARTS -/
theorem p_end_le (V : List Nat) (r : List p_T) : p_end V r ≤ V.length := by
  cases r with
  | nil => exact Nat.le_refl _
  | cons q t => exact p_lt_le _ _
def p_ms (V : List Nat) : List p_T → Nat
  | [] => 0
  | p :: r => r.length + 1 + (V.length - p_lt p.1 V)
def p_sz (V : List Nat) : List p_T → Nat
  | [] => 0
  | p :: r => r.length + 1 + (V.length - p_lt p.1 V) / 4
section MA
variable {G : k_G} {l : Launch}
end MA
end
section
/-! PARTS ARE JOINED; commits open and close -/
section MJ
variable {G : k_G} {l : Launch}
theorem p_split_ne (V : List Nat) : ∀ (k : Nat) (pre todo : List p_T), pre ≠ [] ∨ todo ≠ [] → p_split V k pre todo ≠ [] := by
  intro k
  induction k with
  | zero =>
    intro pre todo h
    show pre ++ todo ≠ []
    rcases h with h | h <;> simp [h]
  | succ k ih =>
    intro pre todo h
    cases todo with
    | nil =>
      show pre ≠ []
      rcases h with h | h
      · exact h
      · exact absurd rfl h
    | cons p rest =>
      show (if _ then _ else _) ≠ []
      split
      · exact ih _ _ (Or.inl (by simp))
      · exact ih _ _ (Or.inl (by simp))
end MJ
end
section
/-! COMMITS OPEN AND CLOSE -/
def m_fire (n m : Nat) (L0 L1 : List k_E4) (w : Nat × Int32) : Nat × Int32 := (w.1, if w.2 = -2147483648 ∧ ¬ r_val w.1 m L1 = r_val w.1 n L0 then nI m else w.2)
section MO
variable {G : k_G} {l : Launch}
end MO
end
section
/-! CHANGES IN THE REFERENCE: their serial stands for the address -/
def m_ck (x : k_CH) : Int32 := if x.2.1 = 1 ∧ 1 < x.2.2.2.1 - x.2.2.1 then 7 else if x.2.1 = 6 ∧ x.2.2.1 / 121000000 = 996 then 8 else x.2.1
def s_ownS (MC : List k_CH) (ser lo hi : Nat) : Bool := MC.any (fun x => s_all x.2.1 && decide (x.1 ≤ ser) && decide (x.2.2.1 ≤ lo) && decide (hi ≤ x.2.2.2.1))
section MC
variable {G : k_G} {l : Launch}
end MC
end
section
/-! TRANSACTIONS OF THE REFERENCE: (begun, once, version, generation, done), changes, readings (low, high, serial) -/
abbrev s_X : Type := (Bool × Bool × Nat × Nat × Nat) × List k_CH × List (Nat × Nat × Nat)
section MX
variable {G : k_G} {l : Launch}
/-- the readings behind a reading of a key -/
def s_rdk (counts : Bool) (MC : List k_CH) (MR : List (Nat × Nat × Nat)) (c ser : Nat) : List (Nat × Nat × Nat) := if counts = true ∧ s_ownS MC ser c (c + 1) = false then MR ++ [(c, c + 1, ser)] else MR
def s_vis (z : Option Int32 × Bool) : Bool := z.1.isSome && !z.2
end MX
end
section
/-! WHAT A READING MET, in the reference -/
def s_met1 (MC : List k_CH) (ser lo hi ra : Nat) (L : List k_E4) : Bool := L.any (fun x => decide (ra < x.2.2.1) && decide (lo ≤ x.2.1) && decide (x.2.1 < hi) && !s_ownS MC ser x.2.1 (x.2.1 + 1))
def s_met2 (MC : List k_CH) (ser lo hi ra : Nat) (WS : List (Nat × Nat × Nat)) : Bool := WS.any (fun w => decide (ra < w.2.2) && decide (max lo w.1 < min hi w.2.1) && !s_ownS MC ser (max lo w.1) (min hi w.2.1))
def s_met (MC : List k_CH) (ra : Nat) (L : List k_E4) (WS : List (Nat × Nat × Nat)) (r : Nat × Nat × Nat) : Bool := s_met1 MC r.2.2 r.1 r.2.1 ra L || s_met2 MC r.2.2 r.1 r.2.1 ra WS
def s_told (o : Option Nat) : Int32 := match o with
  | some k => nI k
  | none => -2147483648
section MM
variable {G : k_G} {l : Launch}
end MM
end
section
/-! WHAT COMMITS DO: keys, log, cleared ranges edited -/
abbrev e_S : Type := List k_K2 × List k_E4 × List (Nat × Nat × Nat)
def e_put (n c : Nat) (o : Option Int32) (E : e_S) : e_S := (m_ins c E.1, (E.2.1.length, c, n, o) :: E.2.1, E.2.2)
def e_clr (n lo hi : Nat) (E : e_S) : e_S := (E.1, r_pus n ((r_flt lo hi (fun c => (r_val c n E.2.1).isSome) E.1).map (fun x => (x.1, none))) E.2.1, E.2.2 ++ [(lo, hi, n)])
def e_do (n : Nat) (E : e_S) (x : k_CH) : e_S := if s_ord x.2.1 = true then (if 1 < x.2.2.2.1 - x.2.2.1 then e_clr n x.2.2.1 x.2.2.2.1 E else e_put n x.2.2.1 (s_apO x.2.1 x.2.2.2.2.1 (nI n) (r_val x.2.2.1 n E.2.1)) E) else E
def e_sc (x : k_CH) (n : Nat) : Nat := s_with x.2.2.1 (s_stp (m_ck x) x.2.2.1) (nI n)
def e_st (n : Nat) (E : e_S) (x : k_CH) : e_S := if x.2.1 = 6 then e_put n (e_sc x n) (some x.2.2.2.2.1) E else E
def e_all (n : Nat) (MC : List k_CH) (E : e_S) : e_S := MC.foldl (e_st n) (MC.foldl (e_do n) E)
def e_lim (E : e_S) : Prop := E.1.length ≤ 12000 ∧ E.2.1.length ≤ 420000 ∧ E.2.2.length ≤ 8192
def e_le (E F : e_S) : Prop := E.1.length ≤ F.1.length ∧ E.2.1.length ≤ F.2.1.length ∧ E.2.2.length ≤ F.2.2.length
theorem e_le_refl (E : e_S) : e_le E E := ⟨Nat.le_refl _, Nat.le_refl _, Nat.le_refl _⟩
theorem e_le_trans {E F K : e_S} (a : e_le E F) (b : e_le F K) : e_le E K := ⟨Nat.le_trans a.1 b.1, Nat.le_trans a.2.1 b.2.1, Nat.le_trans a.2.2 b.2.2⟩
theorem e_lim_le {E F : e_S} (l : e_lim F) (a : e_le E F) : e_lim E := ⟨Nat.le_trans a.1 l.1, Nat.le_trans a.2.1 l.2.1, Nat.le_trans a.2.2 l.2.2⟩
theorem m_ins_le (c : Nat) (K : List k_K2) : K.length ≤ (m_ins c K).length := by
  unfold m_ins
  split
  · exact Nat.le_refl _
  · rw [List.length_insertIdx]; split <;> omega
theorem e_le_put (n c : Nat) (o : Option Int32) (E : e_S) : e_le E (e_put n c o E) := ⟨m_ins_le _ _, Nat.le_succ _, Nat.le_refl _⟩
theorem e_le_clr (n lo hi : Nat) (E : e_S) : e_le E (e_clr n lo hi E) := ⟨Nat.le_refl _, by show _ ≤ (r_pus _ _ _).length; rw [r_pus_len]; omega, by show _ ≤ (E.2.2 ++ [_]).length; simp⟩
theorem e_le_do (n : Nat) (E : e_S) (x : k_CH) : e_le E (e_do n E x) := by
  unfold e_do
  split
  · split
    · exact e_le_clr _ _ _ _
    · exact e_le_put _ _ _ _
  · exact e_le_refl _
theorem e_le_st (n : Nat) (E : e_S) (x : k_CH) : e_le E (e_st n E x) := by
  unfold e_st
  split
  · exact e_le_put _ _ _ _
  · exact e_le_refl _
theorem e_le_dos (n : Nat) : ∀ (MC : List k_CH) (E : e_S), e_le E (MC.foldl (e_do n) E) := by
  intro MC
  induction MC with
  | nil => exact fun E => e_le_refl E
  | cons x t ih => exact fun E => e_le_trans (e_le_do n E x) (ih _)
theorem e_le_sts (n : Nat) : ∀ (MC : List k_CH) (E : e_S), e_le E (MC.foldl (e_st n) E) := by
  intro MC
  induction MC with
  | nil => exact fun E => e_le_refl E
  | cons x t ih => exact fun E => e_le_trans (e_le_st n E x) (ih _)
theorem e_n_na {n : Nat} (h : n < 9000) : s_na (nI n) := Or.inr (s_nm_of (by rw [nI_toInt (by omega)]; omega) (by rw [nI_toInt (by omega)]; omega))
section MD
variable {G : k_G} {l : Launch}
end MD
end
section
/-! THE WHOLE STATE, and commits of the reference -/
abbrev s_D : Type := Nat × Option Nat × Nat × Nat
abbrev s_M : Type := (Nat × Nat × Nat × Int32 × Nat) × e_S × (Nat → s_X) × List (Nat × Int32) × List Nat × List p_T × (List s_D × Nat)
abbrev g_n (M : s_M) : Nat := M.1.1
abbrev g_gen (M : s_M) : Nat := M.1.2.1
abbrev g_los (M : s_M) : Nat := M.1.2.2.1
abbrev g_why (M : s_M) : Int32 := M.1.2.2.2.1
abbrev g_ser (M : s_M) : Nat := M.1.2.2.2.2
abbrev g_E (M : s_M) : e_S := M.2.1
abbrev g_X (M : s_M) : Nat → s_X := M.2.2.1
abbrev g_WT (M : s_M) : List (Nat × Int32) := M.2.2.2.1
abbrev g_MK (M : s_M) : List Nat := M.2.2.2.2.1
abbrev g_PT (M : s_M) : List p_T := M.2.2.2.2.2.1
abbrev g_DS (M : s_M) : List s_D × Nat := M.2.2.2.2.2.2
def m_par (p : Option Nat) : Int32 := match p with
  | some q => nI q
  | none => -2147483648
def g_tx (M : s_M) (t : Nat) (x : s_X) : s_M := (M.1, M.2.1, (fun q => if q = t then x else M.2.2.1 q), M.2.2.2)
/-- the state behind a commit that did E -/
def g_cm (M : s_M) (E : e_S) : s_M := ((g_n M + 1, M.1.2), E, g_X M, (g_WT M).map (m_fire (g_n M) (g_n M + 1) (g_E M).2.1 E.2.1), g_MK M, p_arr (m_V E.1 (g_n M + 1) E.2.1) (g_PT M), g_DS M)
def g_sl (M : s_M) (los : Nat) : s_M := ((g_n M, g_gen M, los, g_why M, g_ser M), M.2)
def g_sw (M : s_M) (w : Int32) : s_M := ((g_n M, g_gen M, g_los M, w, g_ser M), M.2)
def g_ov (x : s_X) : s_X := ((false, x.1.2), [], [])
def g_dn (x : s_X) (n : Nat) : s_X := ((x.1.1, x.1.2.1, x.1.2.2.1, x.1.2.2.2.1, n), x.2)
/-- what parts need for a commit -/
def g_pk (M : s_M) : Prop := (g_PT M).Pairwise (fun x y => x.1 < y.1) ∧ g_PT M ≠ []
def g_ps (M : s_M) (E : e_S) : Prop := (g_PT M).length + (m_V E.1 (g_n M + 1) E.2.1).length / 4 ≤ 4096
def g_wk (M : s_M) : Prop := (g_E M).2.1.Pairwise (fun x y => y.2.2.1 ≤ x.2.2.1) ∧ ∀ w ∈ (g_E M).2.2, w.1 < w.2.1 ∧ w.2.1 < 2 ^ 60 ∧ w.2.2 < 2 ^ 20
section MAP
variable {G : k_G} {l : Launch}
end MAP
end
section
/-! THE REFERENCE'S COMMIT -/
def g_goes (M : s_M) (t : Nat) : Bool := !(decide ((g_X M t).2.1.length = 0)) && !(decide (30 < g_n M - (g_X M t).1.2.2.1)) && decide ((g_X M t).1.2.2.2.1 = g_gen M) && decide ((g_X M t).2.2.findIdx? (s_met (g_X M t).2.1 (g_X M t).1.2.2.1 (g_E M).2.1 (g_E M).2.2) = none)
/-- what a commit tells, and the state; the transaction isn't over yet -/
def f_cmd (M : s_M) (t : Nat) : s_M × Int32 :=
  if (g_X M t).2.1.length = 0 then (M, nI (g_X M t).1.2.2.1)
  else if 30 < g_n M - (g_X M t).1.2.2.1 ∨ ¬ (g_X M t).1.2.2.2.1 = g_gen M then (M, -2)
  else match (g_X M t).2.2.findIdx? (s_met (g_X M t).2.1 (g_X M t).1.2.2.1 (g_E M).2.1 (g_E M).2.2) with
    | some k => (g_sw M (nI k), -1)
    | none => if g_los M = 2 then (g_sl M 0, -3) else (g_tx (g_cm (g_sl M 0) (e_all (g_n M + 1) (g_X M t).2.1 (g_E M))) t (g_dn (g_X M t) (g_n M + 1)), if g_los M = 1 then -3 else nI (g_n M + 1))
def f_commit (M : s_M) (t : Nat) : s_M × Int32 :=
  if (g_X M t).1.2.1 = true ∧ 0 < (g_X M t).1.2.2.2.2 then (g_tx M t (g_ov (g_X M t)), nI (g_X M t).1.2.2.2.2)
  else if (f_cmd M t).2 = -3 then f_cmd M t else (g_tx (f_cmd M t).1 t (g_ov (g_X (f_cmd M t).1 t)), (f_cmd M t).2)
section MCM
variable {G : k_G} {l : Launch}
theorem s_in4 {x : Int32} (h : s_inB x 0 3 = true) : ∃ t, t < 4 ∧ x = nI t ∧ x.toInt.toNat = t := by
  unfold s_inB at h
  simp only [Bool.and_eq_true, decide_eq_true_eq] at h
  have e1 := Int32.le_iff_toInt_le.mp (Int32.not_lt.mp h.1)
  have e2 := Int32.le_iff_toInt_le.mp (Int32.not_lt.mp h.2)
  have r1 : (0 : Int32).toInt = 0 := by decide
  have r2 : (3 : Int32).toInt = 3 := by decide
  refine ⟨x.toInt.toNat, by omega, ?_, rfl⟩
  apply Int32.toInt_inj.mp
  rw [nI_toInt (by omega)]
  omega
/-- the transaction that a number names -/
def t_of (x : Int32) : Nat := x.toInt.toNat
def F_commit (M : s_M) (x : Int32) : s_M × Nat × Int32 := if s_inB x 0 3 = false then (M, 1, 0) else if (g_X M (t_of x)).1.1 = false then (M, 2, 0) else ((f_commit M (t_of x)).1, 0, (f_commit M (t_of x)).2)
end MCM
end
section
/-! SMALL CALLS OF THE REFERENCE -/
def F_begin (M : s_M) (x : Int32) (once : Bool) : s_M × Nat × Int32 := if s_inB x 0 3 = false then (M, 1, 0) else (g_tx M (t_of x) ((true, once, g_n M, g_gen M, 0), [], []), 0, nI (g_n M))
def F_why (M : s_M) : s_M × Nat × Int32 := (M, 0, g_why M)
def F_lose (M : s_M) (d : Bool) : s_M × Nat × Int32 := (g_sl M (if d = true then 1 else 2), 0, 0)
def g_adv (M : s_M) (k gen : Nat) : s_M := ((g_n M + k, gen, g_los M, g_why M, g_ser M), M.2)
def F_recover (M : s_M) : s_M × Nat × Int32 := (g_adv M 10 (g_gen M + 1), 0, nI (g_n M + 10))
def F_pass (M : s_M) (x : Int32) : s_M × Nat × Int32 := if s_inB x 1 10 = false then (M, 1, 0) else (g_adv M x.toInt.toNat (g_gen M), 0, nI (g_n M + x.toInt.toNat))
def F_version (M : s_M) : s_M × Nat × Int32 := (M, 0, nI (g_n M))
def F_value (M : s_M) (v a b c : Int32) : s_M × Nat × Int32 := if (s_inB v 0 (nI (g_n M)) && s_keyB a b c) = false then (M, 1, 0) else (M, 0, o_told (r_val (s_cd a b c) v.toInt.toNat (g_E M).2.1))
def f_pk (a b c p : Int32) : Int32 :=
  let z := if p / 3 = 0 then a else if p / 3 = 1 then b else if p / 3 = 2 then c else 10000
  if z = 10000 then -2147483648 else if p - p / 3 * 3 = 0 then (if 0 ≤ z then 2 else 1) else if p - p / 3 * 3 = 1 then (if 0 ≤ z then z else z + 1000) / 100 else (if 0 ≤ z then z else z + 1000) - (if 0 ≤ z then z else z + 1000) / 100 * 100
def F_packed (M : s_M) (a b c p : Int32) : s_M × Nat × Int32 := if p < 0 then (M, 1, 0) else if s_keyB a b c = false then (M, 2, 0) else (M, 0, f_pk a b c p)
theorem s_keyB_na {a b c : Int32} (h : s_keyB a b c = true) : s_na a ∧ s_na b ∧ s_na c := by
  unfold s_keyB at h
  simp only [Bool.and_eq_true, Bool.or_eq_true, decide_eq_true_eq, s_nmB_iff] at h
  obtain ⟨h1, h2⟩ := h
  rcases h2 with ⟨h3, h4⟩ | ⟨h3, h4⟩
  · exact ⟨Or.inr h1, Or.inl h3, Or.inl h4⟩
  · rcases h4 with h4 | h4
    · exact ⟨Or.inr h1, Or.inr h3, Or.inl h4⟩
    · exact ⟨Or.inr h1, Or.inr h3, Or.inr h4⟩
theorem s_rngB_na {a b : Int32} (h : s_rngB a b = true) : s_na a ∧ s_na b := by
  unfold s_rngB at h
  simp only [Bool.and_eq_true, Bool.or_eq_true, decide_eq_true_eq, s_nmB_iff] at h
  rcases h with ⟨h3, h4⟩ | ⟨h3, h4⟩
  · exact ⟨Or.inl h3, Or.inl h4⟩
  · rcases h4 with h4 | h4
    · exact ⟨Or.inr h3, Or.inl h4⟩
    · exact ⟨Or.inr h3, Or.inr h4⟩
theorem s_inN {x : Int32} {m : Nat} (hm : m < 2 ^ 31) (h : s_inB x 0 (nI m) = true) : x = nI x.toInt.toNat ∧ x.toInt.toNat ≤ m := by
  unfold s_inB at h
  simp only [Bool.and_eq_true, decide_eq_true_eq] at h
  have e1 := Int32.le_iff_toInt_le.mp (Int32.not_lt.mp h.1)
  have e2 := Int32.le_iff_toInt_le.mp (Int32.not_lt.mp h.2)
  have r1 : (0 : Int32).toInt = 0 := by decide
  rw [nI_toInt hm] at e2
  refine ⟨?_, by omega⟩
  apply Int32.toInt_inj.mp
  rw [nI_toInt (by omega)]
  omega
theorem s_inA {x : Int32} {a m : Nat} (hm : m < 2 ^ 31) (ha : a ≤ m) (h : s_inB x (nI a) (nI m) = true) : x = nI x.toInt.toNat ∧ a ≤ x.toInt.toNat ∧ x.toInt.toNat ≤ m := by
  unfold s_inB at h
  simp only [Bool.and_eq_true, decide_eq_true_eq] at h
  have e1 := Int32.le_iff_toInt_le.mp (Int32.not_lt.mp h.1)
  have e2 := Int32.le_iff_toInt_le.mp (Int32.not_lt.mp h.2)
  rw [nI_toInt hm] at e2
  rw [nI_toInt (by omega)] at e1
  refine ⟨?_, by omega, by omega⟩
  apply Int32.toInt_inj.mp
  rw [nI_toInt (by omega)]
  omega
section MSM
variable {G : k_G} {l : Launch}
end MSM
end
section
/-! THE REFERENCE READS KEYS AND RANGES -/
def g_see (M : s_M) (t c : Nat) : Option Int32 × Bool := s_see c (g_X M t).2.1 (r_val c (g_X M t).1.2.2.1 (g_E M).2.1, false)
def g_rdg (M : s_M) (t : Nat) (r : List (Nat × Nat × Nat)) : s_M := g_tx M t ((g_X M t).1, (g_X M t).2.1, r)
def g_rng (M : s_M) (t lo hi : Nat) : List k_K2 := r_flt lo hi (fun c => s_vis (g_see M t c)) (g_E M).1
def F_get (M : s_M) (x a b c : Int32) (counts : Bool) : s_M × Nat × Int32 :=
  if s_inB x 0 3 = false then (M, 1, 0) else if s_keyB a b c = false then (M, 2, 0) else if (g_X M (t_of x)).1.1 = false then (M, 3, 0)
  else if (g_see M (t_of x) (s_cd a b c)).2 = true then (M, 3, 0)
  else (g_rdg M (t_of x) (s_rdk counts (g_X M (t_of x)).2.1 (g_X M (t_of x)).2.2 (s_cd a b c) (g_ser M)), 0, o_told (g_see M (t_of x) (s_cd a b c)).1)
def F_range (M : s_M) (x a b : Int32) (counts : Bool) : s_M × Nat × Int32 :=
  if s_inB x 0 3 = false then (M, 1, 0) else if s_rngB a b = false then (M, 2, 0) else if (g_X M (t_of x)).1.1 = false then (M, 3, 0)
  else (if counts = true then g_rdg M (t_of x) ((g_X M (t_of x)).2.2 ++ [(s_lo a b, s_la a b + 1, g_ser M)]) else M, 0, nI (g_rng M (t_of x) (s_lo a b) (s_la a b + 1)).length)
def F_rangeAt (M : s_M) (x a b p w : Int32) : s_M × Nat × Int32 :=
  if (s_inB x 0 3 && decide (¬ p < 0)) = false then (M, 1, 0) else if (s_rngB a b && s_inB w 0 2) = false then (M, 2, 0) else if (g_X M (t_of x)).1.1 = false then (M, 3, 0)
  else (g_rdg M (t_of x) ((g_X M (t_of x)).2.2 ++ [(s_lo a b, s_la a b + 1, g_ser M)]), 0, match (g_rng M (t_of x) (s_lo a b) (s_la a b + 1))[p.toInt.toNat]? with | some y => s_no y.1 (s_pl w) | none => -2147483648)
section MG
variable {G : k_G} {l : Launch}
end MG
end
section
/-! THE REFERENCE KEEPS CHANGES; the rest of reading ranges -/
def g_kp (M : s_M) (t : Nat) (y : k_CH) : s_M := ((g_n M, g_gen M, g_los M, g_why M, g_ser M + 1), (if m_ck y < 6 then m_ins y.2.2.1 (g_E M).1 else (g_E M).1, (g_E M).2), (fun q => if q = t then ((g_X M t).1, (g_X M t).2.1 ++ [y], (g_X M t).2.2) else g_X M q), M.2.2.2)
def g_shut (M : s_M) (t : Nat) : Bool := !(g_X M t).1.1 || decide (12 ≤ (g_X M t).2.1.length)
def F_change (M : s_M) (x k a b c v : Int32) : s_M × Nat × Int32 :=
  if s_inB x 0 3 = false then (M, 1, 0)
  else if (s_inB k 0 6 && (decide (k = 1) || decide (k = 5) || s_inB v (-1000000) 1000000) && s_keyB a b c && !s_inB a (-7) (-1)) = false then (M, 2, 0)
  else if g_shut M (t_of x) = true then (M, 3, 0)
  else (g_kp M (t_of x) (g_ser M + 1, k, s_cd a b c, s_cd a b c + 1, v, if k = 6 then s_last b c else 0), 0, nI ((g_X M (t_of x)).2.1.length + 1))
def F_clear (M : s_M) (x a b : Int32) : s_M × Nat × Int32 :=
  if s_inB x 0 3 = false then (M, 1, 0)
  else if (s_rngB a b && !(decide (a = 10000)) && !s_inB a (-7) (-1)) = false then (M, 2, 0)
  else if g_shut M (t_of x) = true then (M, 3, 0)
  else (g_kp M (t_of x) (g_ser M + 1, 1, s_lo a b, s_la a b + 1, 0, 0), 0, nI ((g_X M (t_of x)).2.1.length + 1))
def F_offer (M : s_M) (x v : Int32) : s_M × Nat × Int32 :=
  if s_inB x 0 3 = false then (M, 1, 0)
  else if s_inB v 0 1000000 = false then (M, 2, 0)
  else if g_shut M (t_of x) = true then (M, 3, 0)
  else (g_kp M (t_of x) (g_ser M + 1, 6, s_cd (-5) 0 10000, s_cd (-5) 0 10000 + 1, v, 1), 0, nI ((g_X M (t_of x)).2.1.length + 1))
theorem s_cd_div {a b c : Int32} (hb : s_na b) (hc : s_na c) : s_cd a b c / 121000000 = s_dg a := by
  have h2 := s_dg_lt hb; have h3 := s_dg_lt hc
  unfold s_cd
  omega
theorem s_lay {a b c : Int32} (ha : s_na a) (hb : s_na b) (hc : s_na c) (h : s_inB a (-7) (-1) = false) : ¬ s_cd a b c / 121000000 = 996 := by
  rw [s_cd_div hb hc]
  intro e
  have h1 := s_un_dg ha
  rw [e] at h1
  have h2 : s_un 996 = -4 := by decide
  rw [h2] at h1
  rw [← h1] at h
  exact absurd h (by decide)
section MKP
variable {G : k_G} {l : Launch}
end MKP
end
section
/-! THE REFERENCE'S CHANGE, AND RANGES BY PLACES -/
section MKQ
variable {G : k_G} {l : Launch}
theorem s_in6 {k : Int32} (h : s_inB k 0 6 = true) : k = 0 ∨ k = 1 ∨ k = 2 ∨ k = 3 ∨ k = 4 ∨ k = 5 ∨ k = 6 := by
  obtain ⟨e, hle⟩ := s_inN (m := 6) (by decide) h
  rw [e]
  generalize k.toInt.toNat = n at hle
  have : n = 0 ∨ n = 1 ∨ n = 2 ∨ n = 3 ∨ n = 4 ∨ n = 5 ∨ n = 6 := by omega
  rcases this with rfl | rfl | rfl | rfl | rfl | rfl | rfl <;> simp [show nI 0 = 0 from rfl, show nI 1 = 1 from rfl, show nI 2 = 2 from rfl, show nI 3 = 3 from rfl, show nI 4 = 4 from rfl, show nI 5 = 5 from rfl, show nI 6 = 6 from rfl]
end MKQ
end
section
/-! DIRECTORIES OF THE REFERENCE -/
def d_pa (D : List s_D) (a : Nat) : Option Nat := (D.find? (fun d => decide (d.1 = a))).bind (fun d => d.2.1)
def d_up (D : List s_D) : Nat → Nat → Option Nat
  | 0, a => some a
  | n + 1, a => match d_pa D a with
    | none => none
    | some p => d_up D n p
noncomputable def d_bel (D : List s_D) (a o : Nat) : Bool := @decide (∃ n, d_up D n a = some o) (Classical.propDecidable _)
theorem d_bel_iff {D : List s_D} {a o : Nat} : d_bel D a o = true ↔ ∃ n, d_up D n a = some o := by
  unfold d_bel
  exact @decide_eq_true_iff _ (Classical.propDecidable _)
theorem d_bel_self (D : List s_D) (o : Nat) : d_bel D o o = true := d_bel_iff.mpr ⟨0, rfl⟩
theorem d_bel_none {D : List s_D} {a o : Nat} (h : ¬ a = o) (hp : d_pa D a = none) : d_bel D a o = false := by
  rw [Bool.eq_false_iff]
  intro z
  obtain ⟨n, hn⟩ := d_bel_iff.mp z
  cases n with
  | zero => exact h (Option.some.inj hn)
  | succ n =>
    have : d_up D (n + 1) a = none := by unfold d_up; rw [hp]
    rw [this] at hn
    cases hn
theorem d_bel_some {D : List s_D} {a o p : Nat} (h : ¬ a = o) (hp : d_pa D a = some p) : d_bel D a o = d_bel D p o := by
  rw [Bool.eq_iff_iff, d_bel_iff, d_bel_iff]
  constructor
  · rintro ⟨n, hn⟩
    cases n with
    | zero => exact absurd (Option.some.inj hn) h
    | succ n =>
      unfold d_up at hn
      rw [hp] at hn
      exact ⟨n, hn⟩
  · rintro ⟨n, hn⟩
    refine ⟨n + 1, ?_⟩
    unfold d_up
    rw [hp]
    exact hn
def d_wf (D : List s_D × Nat) : Prop := D.1.Pairwise (fun x y => x.1 < y.1) ∧ (0, none, 0, 0) ∈ D.1 ∧ (∀ d ∈ D.1, ¬ d.1 = 0 → ∃ p, d.2.1 = some p ∧ ∃ e ∈ D.1, e.1 = p) ∧ (∃ rk : Nat → Nat, ∀ d ∈ D.1, ∀ p, d.2.1 = some p → rk p < rk d.1) ∧ ∀ d ∈ D.1, d.2.2.1 ≤ 9 ∧ d.2.2.2 ≤ 9
theorem d_uniq {D : List s_D} (s : D.Pairwise (fun x y => x.1 < y.1)) {d e : s_D} (hd : d ∈ D) (he : e ∈ D) (h : d.1 = e.1) : d = e := by
  induction D with
  | nil => cases hd
  | cons x t ih =>
    have h1 := List.pairwise_cons.mp s
    rcases List.mem_cons.mp hd with e1 | hd1 <;> rcases List.mem_cons.mp he with e2 | he1
    · rw [e1, e2]
    · have := h1.1 e he1; rw [e1] at h; omega
    · have := h1.1 d hd1; rw [e2] at h; omega
    · exact ih h1.2 hd1 he1
theorem d_pa_of {D : List s_D} (s : D.Pairwise (fun x y => x.1 < y.1)) {d : s_D} (hd : d ∈ D) : d_pa D d.1 = d.2.1 := by
  unfold d_pa
  cases e : D.find? (fun x => decide (x.1 = d.1)) with
  | none =>
    have := List.find?_eq_none.mp e d hd
    simp at this
  | some x =>
    have h1 := List.find?_some e
    have h2 := List.mem_of_find?_eq_some e
    rw [d_uniq s h2 hd (by simpa using h1)]
    rfl
theorem d_root {D : List s_D × Nat} (w : d_wf D) {d : s_D} (hd : d ∈ D.1) (h0 : d.1 = 0) : d = (0, none, 0, 0) := d_uniq w.1 hd w.2.1 h0
def d_is (D : List s_D × Nat) (x : Int32) : Bool := D.1.any (fun d => decide (nI d.1 = x))
def d_nm (D : List s_D) (p nm : Int32) : Int32 := match D.find? (fun d => !(decide (d.1 = 0)) && decide (m_par d.2.1 = p) && decide (nI d.2.2.1 = nm)) with
  | some d => nI d.1
  | none => -2147483648
def d_many (D : List s_D) : Nat := D.countP (fun d => !(decide (d.1 = 0)))
def d_used (D : List s_D) (n : Nat) : Bool := D.any (fun d => !(decide (d.1 = 0)) && decide (d.2.2.2 = n))
def d_free (D : List s_D) : Nat → Nat → Nat
  | 0, n => n
  | k + 1, n => if d_used D n = true then d_free D k (n + 1) else n
/-- some number up to ten is free -/
def d_fok (D : List s_D) : Prop := d_used D (d_free D 12 1) = false
section MDR
variable {G : k_G} {l : Launch}
/-- those from a number on -/
def d_ge (D : List s_D) (k : Nat) : List s_D := D.filter (fun d => decide (k ≤ d.1))
theorem d_ge_take {D : List s_D} {d : s_D} (s : D.Pairwise (fun x y => x.1 < y.1)) (hd : d ∈ D) : d_ge D d.1 = d :: d_ge D (d.1 + 1) := by
  unfold d_ge
  induction D with
  | nil => cases hd
  | cons x t ih =>
    have h1 := List.pairwise_cons.mp s
    rcases List.mem_cons.mp hd with rfl | hd
    · rw [List.filter_cons_of_pos (by simp), List.filter_cons_of_neg (by simp)]
      congr 1
      refine List.filter_congr fun y hy => ?_
      have := h1.1 y hy
      rw [decide_eq_true (show d.1 ≤ y.1 by omega), decide_eq_true (show d.1 + 1 ≤ y.1 by omega)]
    · have := h1.1 d hd
      rw [List.filter_cons_of_neg (by simp; omega), List.filter_cons_of_neg (by simp; omega)]
      exact ih h1.2 hd
theorem d_ge_1 {D : List s_D × Nat} (w : d_wf D) : d_ge D.1 1 = D.1.filter (fun d => !(decide (d.1 = 0))) := by
  unfold d_ge
  refine List.filter_congr fun d _ => ?_
  by_cases e : d.1 = 0
  · rw [decide_eq_true e, decide_eq_false (by omega)]; rfl
  · rw [decide_eq_false e, decide_eq_true (by omega)]; rfl
end MDR
end
section
/-! DIRECTORIES ARE MADE, MOVED, NAMED, in the reference -/
def g_dset (M : s_M) (D : List s_D × Nat) : s_M := (M.1, M.2.1, M.2.2.1, M.2.2.2.1, M.2.2.2.2.1, M.2.2.2.2.2.1, D)
def F_directory (M : s_M) (p nm : Int32) : s_M × Nat × Int32 :=
  if d_is (g_DS M) p = false then (M, 1, 0) else if s_inB nm 0 9 = false then (M, 2, 0)
  else if ¬ d_nm (g_DS M).1 p nm = -2147483648 ∨ d_many (g_DS M).1 = 9 then (M, 3, 0)
  else (g_dset M ((g_DS M).1 ++ [((g_DS M).2, some (t_of p), t_of nm, d_free (g_DS M).1 12 1)], (g_DS M).2 + 1), 0, nI (g_DS M).2)
noncomputable def mv_can (D : List s_D × Nat) (d p nm : Int32) : Bool := d_is D d && d_is D p && s_inB nm 0 9 && decide (¬ d ≤ 0) && !(d_bel D.1 (t_of p) (t_of d))
def d_mv (D : List s_D) (d p nm : Nat) : List s_D := D.map (fun x => if x.1 = d then (x.1, some p, nm, x.2.2.2) else x)
noncomputable def F_move (M : s_M) (d p nm : Int32) : s_M × Nat × Int32 :=
  if (d_is (g_DS M) d && d_is (g_DS M) p) = false then (M, 1, 0) else if s_inB nm 0 9 = false then (M, 2, 0)
  else if (mv_can (g_DS M) d p nm && (decide (d_nm (g_DS M).1 p nm = -2147483648) || decide (d_nm (g_DS M).1 p nm = d))) = true then (g_dset M (d_mv (g_DS M).1 (t_of d) (t_of p) (t_of nm), (g_DS M).2), 0, 0)
  else (M, 3, 0)
def d_sh (D : List s_D) (x : Int32) : Int32 := match D.find? (fun d => decide (nI d.1 = x)) with
  | some d => nI d.2.2.2
  | none => 0
def F_shortName (M : s_M) (x : Int32) : s_M × Nat × Int32 := if d_is (g_DS M) x = false then (M, 1, 0) else (M, 0, d_sh (g_DS M).1 x)
def F_named (M : s_M) (p nm : Int32) : s_M × Nat × Int32 := if d_is (g_DS M) p = false then (M, 1, 0) else if s_inB nm 0 9 = false then (M, 2, 0) else (M, 0, d_nm (g_DS M).1 p nm)
section MDS
variable {G : k_G} {l : Launch}
end MDS
end
section
/-! THE REFERENCE REMOVES DIRECTORIES; commits of its own -/
def rm_lo (x : s_D) : Nat := s_lo (nI x.2.2.2) 10000
def rm_hi (x : s_D) : Nat := s_la (nI x.2.2.2) 10000
def rm_cnt (M : s_M) (x : s_D) : Nat := (r_flt (rm_lo x) (rm_hi x + 1) (fun c => (r_val c (g_n M) (g_E M).2.1).isSome) (g_E M).1).length
noncomputable def rm_gone (M : s_M) (d : Nat) : List s_D := (g_DS M).1.filter (fun x => d_bel (g_DS M).1 x.1 d)
noncomputable def rm_many (M : s_M) (d : Nat) : Nat := ((rm_gone M d).map (rm_cnt M)).sum
noncomputable def rm_E (M : s_M) (d : Nat) : e_S := (rm_gone M d).foldl (fun E x => e_clr (g_n M + 1) (rm_lo x) (rm_hi x + 1) E) (g_E M)
noncomputable def rm_D (M : s_M) (d : Nat) : List s_D × Nat := ((g_DS M).1.filter (fun x => !(d_bel (g_DS M).1 x.1 d)), (g_DS M).2)
noncomputable def F_remove (M : s_M) (x : Int32) : s_M × Nat × Int32 :=
  if d_is (g_DS M) x = false then (M, 1, 0) else if x = 0 then (M, 2, 0)
  else (g_dset (if 0 < rm_many M (t_of x) then g_cm M (rm_E M (t_of x)) else M) (rm_D M (t_of x)), 0, nI (rm_many M (t_of x)))
theorem d_root_bel {D : List s_D × Nat} (w : d_wf D) {d : Nat} (h : ¬ d = 0) : d_bel D.1 0 d = false :=
  d_bel_none (fun z => h z.symm) (d_pa_of w.1 w.2.1)
section MRM
variable {G : k_G} {l : Launch}
theorem e_le_rm (M : s_M) : ∀ (X : List s_D) (E : e_S), e_le E (X.foldl (fun E x => e_clr (g_n M + 1) (rm_lo x) (rm_hi x + 1) E) E) := by
  intro X
  induction X with
  | nil => exact fun E => e_le_refl E
  | cons x t ih => exact fun E => e_le_trans (e_le_clr _ _ _ _) (ih _)
end MRM
end
section
/-! THE REFERENCE SAVES AND ERASES RECORDS: its stamps -/
def g_kc (M : s_M) (t : Nat) (kind : Int32) (code : Nat) (value place : Int32) : s_M := g_kp M t (g_ser M + 1, kind, code, code + 1, value, place)
def sv_is (number : Int32) (x : k_CH) : Bool := decide (m_ck x = 8) && decide (s_no x.2.2.1 2 = number)
def sv_drop (number : Int32) (MC : List k_CH) : List k_CH := MC.filter (fun x => !sv_is number x)
def g_sdr (M : s_M) (t : Nat) (number : Int32) : s_M := g_tx M t ((g_X M t).1, sv_drop number (g_X M t).2.1, (g_X M t).2.2)
def sv_seen (M : s_M) (t : Nat) (number : Int32) : List k_K2 := (g_rng M t (s_lo (-4) 10000) (s_la (-4) 10000 + 1)).filter (fun x => decide (s_no x.1 2 = number))
def g_cls (t : Nat) (X : List k_K2) (M : s_M) : s_M := X.foldl (fun M x => g_kc M t 1 x.1 0 0) M
def sv_take (M : s_M) (t : Nat) (number : Int32) : s_M := g_cls t (sv_seen (g_sdr M t number) t number) (g_sdr M t number)
theorem g_kc_X (M : s_M) (t : Nat) (k : Int32) (c : Nat) (v p : Int32) : g_X (g_kc M t k c v p) t = ((g_X M t).1, (g_X M t).2.1 ++ [(g_ser M + 1, k, c, c + 1, v, p)], (g_X M t).2.2) := by
  show (if t = t then _ else g_X M t) = _
  rw [if_pos rfl]
theorem m_ck_kc (q : Nat) {k : Int32} {c : Nat} {v p : Int32} (h : ¬ (k = 6 ∧ c / 121000000 = 996)) : m_ck (q, k, c, c + 1, v, p) = k := by
  unfold m_ck
  rw [if_neg (fun z => absurd z.2 (by show ¬ 1 < c + 1 - c; omega)), if_neg h]
theorem m_ck_k8 (q : Nat) {c : Nat} {v p : Int32} (h : c / 121000000 = 996) : m_ck (q, 6, c, c + 1, v, p) = 8 := by
  unfold m_ck
  rw [if_neg (fun z => absurd z.1 (show ¬ (6 : Int32) = 1 by decide)), if_pos ⟨rfl, h⟩]
theorem g_cls_ser (t : Nat) : ∀ (X : List k_K2) (M : s_M), g_ser (g_cls t X M) = g_ser M + X.length := by
  intro X
  induction X with
  | nil => exact fun M => rfl
  | cons x u ih =>
    intro M
    show g_ser (g_cls t u (g_kc M t 1 x.1 0 0)) = _
    rw [ih]
    show g_ser M + 1 + u.length = g_ser M + (u.length + 1)
    omega
theorem g_cls_len (t : Nat) : ∀ (X : List k_K2) (M : s_M), (g_X (g_cls t X M) t).2.1.length = (g_X M t).2.1.length + X.length := by
  intro X
  induction X with
  | nil => exact fun M => rfl
  | cons x u ih =>
    intro M
    show (g_X (g_cls t u (g_kc M t 1 x.1 0 0)) t).2.1.length = _
    rw [ih, g_kc_X, List.length_cons (a := x)]
    show ((g_X M t).2.1 ++ [_]).length + u.length = _
    rw [List.length_append, List.length_singleton]
    omega
theorem g_kc_E {M : s_M} {t : Nat} {k : Int32} {c a : Nat} {v p : Int32} (s : (g_E M).1.Pairwise (fun x y => x.1 < y.1)) (h : (c, a) ∈ (g_E M).1) : g_E (g_kc M t k c v p) = g_E M := by
  show ((if m_ck (g_ser M + 1, k, c, c + 1, v, p) < 6 then m_ins c (g_E M).1 else (g_E M).1), (g_E M).2) = _
  rw [m_ins_in s h]; split <;> rfl
theorem g_cls_E (t : Nat) : ∀ (X : List k_K2) (M : s_M), (g_E M).1.Pairwise (fun x y => x.1 < y.1) → (∀ x ∈ X, x ∈ (g_E M).1) → g_E (g_cls t X M) = g_E M := by
  intro X
  induction X with
  | nil => exact fun M _ _ => rfl
  | cons x u ih =>
    intro M hs hX
    have e : g_E (g_kc M t 1 x.1 0 0) = g_E M := g_kc_E hs (a := x.2) (hX x (List.mem_cons_self ..))
    show g_E (g_cls t u (g_kc M t 1 x.1 0 0)) = _
    rw [ih _ (by rw [e]; exact hs) (by rw [e]; exact fun y hy => hX y (List.mem_cons_of_mem _ hy)), e]
theorem s_na_m4 : s_na (-4) := Or.inr (s_nmB_iff.mp (by decide))
section MSV
variable {G : k_G} {l : Launch}
end MSV
end
section
/-! THE REFERENCE SAVES AND ERASES RECORDS -/
def g_rk (M : s_M) (t c : Nat) : s_M := g_rdg M t (s_rdk true (g_X M t).2.1 (g_X M t).2.2 c (g_ser M))
def sv_co (i : Int32) : Nat := s_cd (-6) i 10000
def sv_re (n : Int32) : Nat := s_cd (-1) n 10000
def sv_go (M : s_M) (t : Nat) (i n : Int32) : Bool := s_goes (o_told (g_see M t (sv_co i)).1) n
def sv_r4 (M : s_M) (t : Nat) (n : Int32) : s_M := g_rk (g_rk (g_rk (g_rk M t (sv_co 0)) t (sv_co 1)) t (sv_co 2)) t (sv_re n)
def sv_1 (c : Bool) (t : Nat) (k : Int32) (code : Nat) (v p : Int32) (M : s_M) : s_M := if c = true then g_kc M t k code v p else M
def sv_p (g0 g1 had saves : Bool) (t : Nat) (n old field : Int32) (M : s_M) : s_M :=
  sv_1 (g1 && saves) t 2 (s_cd (-3) field 10000) 1 0 (sv_1 (g1 && had) t 2 (s_cd (-3) old 10000) (-1) 0 (sv_1 (g0 && saves) t 0 (s_cd (-2) field n) 0 0 (sv_1 (g0 && had) t 1 (s_cd (-2) old n) 0 0 M)))
def sv_q (c : Bool) (t : Nat) (n : Int32) (M : s_M) : s_M := if c = true then sv_take M t n else M
def sv_f (g2 saves : Bool) (t : Nat) (n field : Int32) (M : s_M) : s_M := g_kc (sv_1 (g2 && saves) t 6 (s_cd (-4) 0 n) field 1 M) t (if saves = true then 0 else 1) (sv_re n) (if saves = true then field else -2147483648) 0
def sv_all (M : s_M) (t : Nat) (n : Int32) (saves : Bool) (field : Int32) : s_M :=
  sv_f (sv_go M t 2 n) saves t n field (sv_q (sv_go M t 2 n && (g_see M t (sv_re n)).1.isSome) t n (sv_p (sv_go M t 0 n) (sv_go M t 1 n) (g_see M t (sv_re n)).1.isSome saves t n (o_told (g_see M t (sv_re n)).1) field (sv_r4 M t n)))
def sv_w (M : s_M) (t : Nat) (n : Int32) (saves : Bool) (field : Int32) : s_M × Int32 :=
  if saves = false ∧ (g_see M t (sv_re n)).1 = none then (sv_r4 M t n, -2147483648) else (sv_all M t n saves field, o_told (g_see M t (sv_re n)).1)
def sv_st (M : s_M) (t : Nat) (n : Int32) : Bool := (g_see M t (sv_co 0)).2 || (g_see M t (sv_co 1)).2 || (g_see M t (sv_co 2)).2 || (g_see M t (sv_re n)).2
def F_saved (M : s_M) (x n : Int32) (saves : Bool) (field : Int32) : s_M × Nat × Int32 :=
  if s_inB x 0 3 = false then (M, 1, 0) else if (s_inB n 0 99 && (!saves || s_inB field 0 99)) = false then (M, 2, 0)
  else if (g_shut M (t_of x) || sv_st M (t_of x) n) = true then (M, 3, 0) else ((sv_w M (t_of x) n saves field).1, 0, (sv_w M (t_of x) n saves field).2)
def F_save (M : s_M) (x n f : Int32) : s_M × Nat × Int32 := F_saved M x n true f
def F_erase (M : s_M) (x n : Int32) : s_M × Nat × Int32 := F_saved M x n false 0
def sv_B (M : s_M) (t a b c : Nat) : Prop := (g_X M t).2.1.length ≤ a ∧ (g_E M).1.length ≤ b ∧ g_ser M ≤ c
theorem sv_B_kc {M : s_M} {t a b c : Nat} (h : sv_B M t a b c) (k : Int32) (cd : Nat) (v p : Int32) : sv_B (g_kc M t k cd v p) t (a + 1) (b + 1) (c + 1) := by
  obtain ⟨h1, h2, h3⟩ := h
  refine ⟨?_, ?_, Nat.succ_le_succ h3⟩
  · rw [g_kc_X]
    show ((g_X M t).2.1 ++ [_]).length ≤ _
    rw [List.length_append, List.length_singleton]; omega
  · show (if m_ck (g_ser M + 1, k, cd, cd + 1, v, p) < 6 then m_ins cd (g_E M).1 else (g_E M).1).length ≤ _
    have := m_ins_len cd (g_E M).1
    split <;> omega
theorem sv_B_1 {M : s_M} {t a b c : Nat} (h : sv_B M t a b c) (z : Bool) (k : Int32) (cd : Nat) (v p : Int32) : sv_B (sv_1 z t k cd v p M) t (a + 1) (b + 1) (c + 1) := by
  unfold sv_1
  by_cases e : z = true
  · rw [if_pos e]; exact sv_B_kc h k cd v p
  · rw [if_neg e]; exact ⟨by have := h.1; omega, by have := h.2.1; omega, by have := h.2.2; omega⟩
theorem sv_1_f {z : Bool} (h : z = false) {t : Nat} {k : Int32} {cd : Nat} {v p : Int32} {M : s_M} : sv_1 z t k cd v p M = M := by
  unfold sv_1
  rw [h, if_neg (by decide)]
theorem sv_1_t {z : Bool} (h : z = true) {t : Nat} {k : Int32} {cd : Nat} {v p : Int32} {M : s_M} : sv_1 z t k cd v p M = g_kc M t k cd v p := by
  unfold sv_1
  rw [h, if_pos rfl]
theorem sv_B_rk {M : s_M} {t a b c : Nat} (h : sv_B M t a b c) (d : Nat) : sv_B (g_rk M t d) t a b c := by
  refine ⟨?_, h.2.1, h.2.2⟩
  show ((if t = t then _ else g_X M t) : s_X).2.1.length ≤ a
  rw [if_pos rfl]
  exact h.1
theorem g_sdr_X (M : s_M) (t : Nat) (n : Int32) : g_X (g_sdr M t n) t = ((g_X M t).1, sv_drop n (g_X M t).2.1, (g_X M t).2.2) := by
  show (if t = t then _ else g_X M t) = _
  rw [if_pos rfl]
theorem sv_seen_in {M : s_M} {t : Nat} {n : Int32} {x : k_K2} (h : x ∈ sv_seen M t n) : x ∈ (g_E M).1 := by
  unfold sv_seen at h
  exact (r_flt_of (List.mem_filter.mp h).1).1
theorem sv_take_E {M : s_M} {t : Nat} {n : Int32} (hs : (g_E M).1.Pairwise (fun x y => x.1 < y.1)) : g_E (sv_take M t n) = g_E M :=
  g_cls_E t _ _ hs (fun _ hx => sv_seen_in hx)
theorem sv_B_take {M : s_M} {t a b c : Nat} {n : Int32} (h : sv_B M t a b c) (hs : (g_E M).1.Pairwise (fun x y => x.1 < y.1)) (hl : (g_X M t).2.1.length + (sv_seen (g_sdr M t n) t n).length ≤ a) (ha : a ≤ 4096) : sv_B (sv_take M t n) t a b (c + 4096) := by
  refine ⟨?_, by rw [sv_take_E hs]; exact h.2.1, ?_⟩
  · unfold sv_take
    rw [g_cls_len, g_sdr_X]
    have : (sv_drop n (g_X M t).2.1).length ≤ (g_X M t).2.1.length := List.length_filter_le _ _
    show (sv_drop n (g_X M t).2.1).length + _ ≤ a
    omega
  · unfold sv_take
    rw [g_cls_ser]
    have : g_ser (g_sdr M t n) = g_ser M := rfl
    have := h.2.2
    omega
theorem g_rk_see (M : s_M) (t c d : Nat) : g_see (g_rk M t c) t d = g_see M t d := by
  unfold g_see g_rk g_rdg
  show s_see d ((if t = t then _ else g_X M t) : s_X).2.1 (r_val d ((if t = t then _ else g_X M t) : s_X).1.2.2.1 (g_E M).2.1, false) = _
  rw [if_pos rfl]
theorem g_rk_len (M : s_M) (t c : Nat) : (g_X (g_rk M t c) t).2.2.length ≤ (g_X M t).2.2.length + 1 := by
  show ((if t = t then _ else g_X M t) : s_X).2.2.length ≤ _
  rw [if_pos rfl]
  show (s_rdk true _ _ c _).length ≤ _
  unfold s_rdk
  split
  · rw [List.length_append, List.length_singleton]; omega
  · omega
section MSW
variable {G : k_G} {l : Launch}
end MSW
end
section
/-! THE REFERENCE'S SAVE AND ERASE -/
def sv_mid (M : s_M) (t : Nat) (n : Int32) (saves : Bool) (field : Int32) : s_M := sv_p (sv_go M t 0 n) (sv_go M t 1 n) (g_see M t (sv_re n)).1.isSome saves t n (o_told (g_see M t (sv_re n)).1) field (sv_r4 M t n)
def sv_L (M : s_M) (t : Nat) (n : Int32) (saves : Bool) (field : Int32) : Prop :=
  (∀ v, (g_see M t (sv_re n)).1 = some v → s_na v) ∧ sv_B M t 4090 11990 (2 ^ 29) ∧ (g_X M t).2.2.length + 4 ≤ 2048 ∧
  ((sv_go M t 2 n && (g_see M t (sv_re n)).1.isSome) = true → (g_X (sv_mid M t n saves field) t).2.1.length + (sv_seen (g_sdr (sv_mid M t n saves field) t n) t n).length ≤ 4094)
section MSX
variable {G : k_G} {l : Launch}
end MSX
end
section
/-! THE REFERENCE BUILDS INDEXES AND PUTS THEM OFF -/
def bl_one (n : Nat) (x : Int32) (k : Nat) (f : Int32) (E : e_S) : e_S :=
  if x = 1 then e_put n (s_cd (-3) f 10000) (some ((r_val (s_cd (-3) f 10000) n E.2.1).getD 0 + 1)) E
  else if x = 0 then e_put n (s_cd (-2) f (nI k)) (some 0) E else e_put n (s_cd (-4) (nI n) (nI k)) (some f) E
abbrev b_S := e_S × Nat × Int32 × Nat
def bl_step (n : Nat) (x st most : Int32) (A : b_S) (k : Nat) : b_S :=
  if (decide (¬ nI k ≤ st) && (r_val (sv_re (nI k)) n A.1.2.1).isSome) = true then
    if most ≤ nI A.2.1 then (A.1, A.2.1, A.2.2.1, A.2.2.2 + 1) else (bl_one n x k (o_told (r_val (sv_re (nI k)) n A.1.2.1)) A.1, A.2.1 + 1, nI k, A.2.2.2)
  else A
def bl_st (M : s_M) (x : Int32) : Int32 := o_told (r_val (sv_co x) (g_n M) (g_E M).2.1)
def bl_run (M : s_M) (x most : Int32) : b_S := (List.range' 0 100).foldl (bl_step (g_n M + 1) x (bl_st M x) most) (g_E M, 0, bl_st M x, 0)
def bl_E (M : s_M) (x most : Int32) : e_S := e_put (g_n M + 1) (sv_co x) (some (if 0 < (bl_run M x most).2.2.2 then (bl_run M x most).2.2.1 else 1000)) (bl_run M x most).1
def F_build (M : s_M) (x most : Int32) : s_M × Nat × Int32 :=
  if s_inB x 0 2 = false then (M, 1, 0) else if s_inB most 1 20 = false then (M, 2, 0)
  else if bl_st M x = -2147483648 ∨ bl_st M x = 1000 then (M, 3, 0) else (g_cm M (bl_E M x most), 0, nI (bl_run M x most).2.1)
def of_lo (x : Int32) : Nat := s_lo (-2 - x) 10000
def of_hi (x : Int32) : Nat := s_la (-2 - x) 10000
def of_E (M : s_M) (x : Int32) : e_S := e_put (g_n M + 1) (sv_co x) (some (-1000)) (e_clr (g_n M + 1) (of_lo x) (of_hi x + 1) (g_E M))
def F_off (M : s_M) (x : Int32) : s_M × Nat × Int32 :=
  if s_inB x 0 2 = false then (M, 1, 0) else (g_cm M (of_E M x), 0, nI (r_flt (of_lo x) (of_hi x + 1) (fun c => (r_val c (g_n M) (g_E M).2.1).isSome) (g_E M).1).length)
theorem s_in3 {x : Int32} (h : s_inB x 0 2 = true) : x = 0 ∨ x = 1 ∨ x = 2 := by
  obtain ⟨e, hle⟩ := s_inN (m := 2) (by decide) h
  rw [e]
  generalize x.toInt.toNat = n at hle
  have : n = 0 ∨ n = 1 ∨ n = 2 := by omega
  rcases this with rfl | rfl | rfl
  · exact Or.inl rfl
  · exact Or.inr (Or.inl rfl)
  · exact Or.inr (Or.inr rfl)
theorem bl_one_le (n : Nat) (x : Int32) (k : Nat) (f : Int32) (E : e_S) : e_le E (bl_one n x k f E) := by
  unfold bl_one
  split
  · exact e_le_put _ _ _ _
  · split <;> exact e_le_put _ _ _ _
theorem bl_step_le (n : Nat) (x st most : Int32) (A : b_S) (k : Nat) : e_le A.1 (bl_step n x st most A k).1 := by
  unfold bl_step
  split
  · split
    · exact e_le_refl _
    · exact bl_one_le _ _ _ _ _
  · exact e_le_refl _
theorem bl_run_le (n : Nat) (x st most : Int32) : ∀ (K : List Nat) (A : b_S), e_le A.1 (K.foldl (bl_step n x st most) A).1 := by
  intro K
  induction K with
  | nil => exact fun A => e_le_refl _
  | cons k t ih => exact fun A => e_le_trans (bl_step_le _ _ _ _ _ _) (ih _)
theorem bl_code_ne {a b c : Int32} (hb : s_na b) (hc : s_na c) (n : Int32) (hn : s_na n) (ha : ¬ s_dg a = 999) : ¬ s_cd a b c = sv_re n := by
  intro e
  have h1 := s_cd_div (a := a) hb hc
  rw [e] at h1
  unfold sv_re at h1
  rw [s_cd_div hn (Or.inl rfl)] at h1
  have : s_dg (-1) = 999 := by decide
  omega
theorem r_val_put_ne {c d n m : Nat} {o : Option Int32} {E : e_S} (h : ¬ d = c) : r_val c m (e_put n d o E).2.1 = r_val c m E.2.1 := by
  show r_val c m ((_, d, n, o) :: E.2.1) = _
  rw [r_val_cons, if_neg (fun z => h z.1)]
theorem bl_one_rec {n : Nat} {x : Int32} {k : Nat} {f : Int32} {E : e_S} (hf : s_na f) (hk : k < 100) (hn : n < 9000) (j : Nat) (hj : j < 100) (m : Nat) : r_val (sv_re (nI j)) m (bl_one n x k f E).2.1 = r_val (sv_re (nI j)) m E.2.1 := by
  have jn : s_na (nI j) := e_n_na (by omega)
  have kn : s_na (nI k) := e_n_na (by omega)
  unfold bl_one
  split
  · exact r_val_put_ne (bl_code_ne hf (Or.inl rfl) _ jn (by decide))
  · split
    · exact r_val_put_ne (bl_code_ne hf kn _ jn (by decide))
    · exact r_val_put_ne (bl_code_ne (e_n_na hn) kn _ jn (by decide))
section MBL
variable {G : k_G} {l : Launch}
end MBL
end
section
/-! THE REFERENCE'S RANKS, WATCHES AND MARKS -/
def rk_v (M : s_M) (c : Nat) : Option Int32 := r_val c (g_n M) (g_E M).2.1
def rk_1 (M : s_M) (field : Int32) (anew : Bool) (k : Nat) : Int32 :=
  if anew = true then (if (rk_v M (sv_re (nI k))).isSome && decide (¬ field ≤ o_told (rk_v M (sv_re (nI k)))) then 1 else 0)
  else if (rk_v M (s_cd (-3) (nI k) 10000)).isSome && decide (¬ field ≤ nI k) then o_told (rk_v M (s_cd (-3) (nI k) 10000)) else 0
def rk_sum (M : s_M) (field : Int32) (anew : Bool) : Int32 := (List.range' 0 100).foldl (fun a k => a + rk_1 M field anew k) 0
def F_ranked (M : s_M) (field : Int32) (anew : Bool) : s_M × Nat × Int32 := if s_inB field 0 99 = false then (M, 1, 0) else (M, 0, rk_sum M field anew)
def F_rank (M : s_M) (field : Int32) : s_M × Nat × Int32 := F_ranked M field false
def F_rankAnew (M : s_M) (field : Int32) : s_M × Nat × Int32 := F_ranked M field true
def g_wts (M : s_M) (WT : List (Nat × Int32)) : s_M := (M.1, M.2.1, M.2.2.1, WT, M.2.2.2.2)
def g_mks (M : s_M) (MK : List Nat) : s_M := (M.1, M.2.1, M.2.2.1, M.2.2.2.1, MK, M.2.2.2.2.2)
def F_watch (M : s_M) (a b c : Int32) : s_M × Nat × Int32 := if s_keyB a b c = false then (M, 1, 0) else if (g_WT M).length = 20 then (M, 2, 0) else (g_wts M (g_WT M ++ [(s_cd a b c, -2147483648)]), 0, nI (g_WT M).length)
def F_fired (M : s_M) (x : Int32) : s_M × Nat × Int32 := if s_inB x 0 (nI (g_WT M).length - 1) = false then (M, 1, 0) else (M, 0, match (g_WT M)[t_of x]? with | some w => w.2 | none => 0)
def F_mark (M : s_M) : s_M × Nat × Int32 := if (g_MK M).length = 10 then (M, 1, 0) else (g_mks M (g_MK M ++ [g_n M]), 0, nI (g_MK M).length)
def F_parts (M : s_M) : s_M × Nat × Int32 := (M, 0, nI (g_PT M).length)
theorem s_in_ {x : Int32} {k : Nat} (hk : k < 2 ^ 20) (h : s_inB x 0 (nI k - 1) = true) : ∃ j, j < k ∧ x = nI j ∧ t_of x = j := by
  by_cases e : k = 0
  · subst e
    exfalso
    unfold s_inB at h
    simp only [Bool.and_eq_true, decide_eq_true_eq] at h
    obtain ⟨h1, h2⟩ := h
    have h3 : ¬ x.toInt < (0 : Int32).toInt := fun z => h1 (Int32.lt_iff_toInt_lt.mpr z)
    have h4 : ¬ (nI 0 - 1).toInt < x.toInt := fun z => h2 (Int32.lt_iff_toInt_lt.mpr z)
    have e1 : (nI 0 - 1).toInt = -1 := by decide
    have e2 : (0 : Int32).toInt = 0 := by decide
    omega
  · obtain ⟨m, rfl⟩ : ∃ m, k = m + 1 := ⟨k - 1, by omega⟩
    have e1 : nI (m + 1) - 1 = nI m := by rw [← nI_1]; exact Int32.add_sub_cancel (nI m) 1
    rw [e1] at h
    obtain ⟨a, c⟩ := s_inN (by omega) h
    exact ⟨_, by omega, a, rfl⟩
section MRK
variable {G : k_G} {l : Launch}
end MRK
end
section
/-! THE REFERENCE'S PARTS AND WORK -/
def F_part (M : s_M) (x w : Int32) : s_M × Nat × Int32 :=
  if s_inB x 0 (nI (g_PT M).length - 1) = false then (M, 1, 0) else if s_inB w 0 4 = false then (M, 2, 0)
  else (M, 0, match (g_PT M)[t_of x]? with
    | some p => if w = 0 then p.2 else if w = 1 then nI (p_end (m_V (g_E M).1 (g_n M) (g_E M).2.1) ((g_PT M).drop (t_of x + 1)) - p_lt p.1 (m_V (g_E M).1 (g_n M) (g_E M).2.1)) else if x = 0 then -2147483648 else s_no p.1 (s_pl (w - 2))
    | none => 0)
def wk_hold (M : s_M) (c : Nat) : Int32 := s_hold (o_told (rk_v M (s_cd (-7) (s_no c 1) 10000))) (nI (g_n M))
def wk_list (M : s_M) (w : Int32) : List k_K2 := r_flt (s_lo (-5) 10000) (s_la (-5) 10000 + 1) (fun c => (rk_v M c).isSome && decide (wk_hold M c = w)) (g_E M).1
def wk_tE (M : s_M) (w : Int32) (c : Nat) : e_S := e_put (g_n M + 1) (s_cd (-7) (s_no c 1) 10000) (some (10000 * w + nI (g_n M + 1) + 10)) (g_E M)
def wk_fE (M : s_M) (c : Nat) : e_S := e_put (g_n M + 1) (s_cd (-7) (s_no c 1) 10000) none (e_put (g_n M + 1) (s_cd (-5) (s_no c 1) 10000) none (g_E M))
def F_take (M : s_M) (w : Int32) : s_M × Nat × Int32 := if s_inB w 0 2 = false then (M, 1, 0) else match (wk_list M (-2147483648)).head? with
  | none => (M, 0, -2147483648)
  | some y => (g_cm M (wk_tE M w y.1), 0, o_told (rk_v M y.1))
def F_finish (M : s_M) (w : Int32) : s_M × Nat × Int32 := if s_inB w 0 2 = false then (M, 1, 0) else match (wk_list M w).head? with
  | none => (M, 0, -2147483648)
  | some y => (g_cm M (wk_fE M y.1), 0, o_told (rk_v M y.1))
theorem wk_ne {i : Nat} (h : i < 2 ^ 31) : ¬ nI i = -2147483648 := by
  intro z
  have e := congrArg Int32.toInt z
  rw [nI_toInt h] at e
  have : (-2147483648 : Int32).toInt = -2147483648 := by decide
  omega
section MWK
variable {G : k_G} {l : Launch}
end MWK
end
section
/-! THE REFERENCE BRINGS BACK -/
def bb_dif (o p : Option Int32) : Bool := !(decide (o.isSome = p.isSome)) || !(decide (o_told o = o_told p))
def bb_oth (L : List k_E4) (n v c : Nat) : Bool := bb_dif (r_val c v L) (r_val c n L)
def bb_list (M : s_M) (v : Nat) : List k_K2 := (g_E M).1.filter (fun y => bb_oth (g_E M).2.1 (g_n M) v y.1)
def bb_E (M : s_M) (v : Nat) : e_S := (bb_list M v).foldl (fun E y => e_put (g_n M + 1) y.1 (r_val y.1 v (g_E M).2.1) E) (g_E M)
def F_bringBack (M : s_M) (x : Int32) : s_M × Nat × Int32 := if s_inB x 0 (nI (g_MK M).length - 1) = false then (M, 1, 0) else
  (if 0 < (bb_list M ((g_MK M).getD (t_of x) 0)).length then g_cm M (bb_E M ((g_MK M).getD (t_of x) 0)) else M, 0, nI (bb_list M ((g_MK M).getD (t_of x) 0)).length)
theorem bb_E_le (n : Nat) (f : Nat → Option Int32) : ∀ (X : List k_K2) (E : e_S), e_le E (X.foldl (fun E y => e_put n y.1 (f y.1) E) E) := by
  intro X
  induction X with
  | nil => exact fun E => e_le_refl E
  | cons x t ih => exact fun E => e_le_trans (e_le_put _ _ _ _) (ih _)
theorem r_val_adv {L : List k_E4} {n m c : Nat} (h : ∀ x ∈ L, x.2.2.1 ≤ n) (hnm : n ≤ m) : r_val c m L = r_val c n L := by
  unfold r_val r_get
  congr 1
  induction L with
  | nil => rfl
  | cons x t ih =>
    have h1 := h x (List.mem_cons_self ..)
    rw [List.find?_cons, List.find?_cons, decide_eq_true (show x.2.2.1 ≤ m by omega), decide_eq_true h1, ih (fun y hy => h y (List.mem_cons_of_mem _ hy))]
section MBB
variable {G : k_G} {l : Launch}
end MBB
end
section
/-! THE REFERENCE IS MADE -/
def m_sl : Nat → Nat
  | 0 => 0
  | k + 1 => m_sl k + (m_kn (k + 1)).2
def g_0 : s_M := ((0, 0, 0, -2147483648, 0), ([], [], []), (fun _ => ((false, false, 0, 0, 0), [], [])), [], [], [(0, 0)], ([(0, none, 0, 0)], 1))
theorem x_eq {j : k_H → Nat → k_L → List k_V → k_H → k_R → Prop} {h1 h2 : k_H} {pc : Nat} {lv : k_L} {st : List k_V} (st2 : List k_V) {Q : k_H → k_R → Prop} (e : h1 = h2) (es : st = st2) (K : k_X j h2 pc lv st2 Q) : k_X j h1 pc lv st Q := by
  subst e es
  exact K
section MIN
variable {G : k_G} {l : Launch}
end MIN
end
