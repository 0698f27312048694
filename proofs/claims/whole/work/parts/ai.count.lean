/-! COUNTS OF KEYS: how a put and a clear change them -/
def z_b (b : Bool) : Nat := if b = true then 1 else 0
def z_n (P : Nat → Bool) (K : List k_K2) : Nat := K.countP (fun x => P x.1)
theorem cp_ins {α : Type} (p : α → Bool) (x : α) : ∀ (i : Nat) (l : List α), i ≤ l.length → (l.insertIdx i x).countP p = l.countP p + (if p x = true then 1 else 0) := by
  intro i
  induction i with
  | zero => intro l _; rw [List.insertIdx_zero, List.countP_cons]
  | succ i ih =>
    intro l h
    cases l with
    | nil => exact absurd h (Nat.not_succ_le_zero _)
    | cons y l =>
      rw [List.insertIdx_succ_cons, List.countP_cons, List.countP_cons, ih l (Nat.le_of_succ_le_succ h)]
      omega
theorem zn_ins (P : Nat → Bool) {c : Nat} {K : List k_K2} (h : r_at c K = none) : z_n P (m_ins c K) = z_n P K + z_b (P c) := by
  unfold z_n m_ins
  rw [if_neg (by rw [h]; decide), cp_ins _ _ _ _ (r_pl_le c K)]
  rfl
theorem zn_out {P Q : Nat → Bool} {d : Nat} (hq : ∀ c, ¬ c = d → P c = Q c) : ∀ {K : List k_K2}, (∀ x ∈ K, ¬ x.1 = d) → z_n Q K = z_n P K := by
  intro K
  unfold z_n
  induction K with
  | nil => intro _; rfl
  | cons x K ih =>
    intro h
    rw [List.countP_cons, List.countP_cons, ih (fun y hy => h y (List.mem_cons_of_mem _ hy)), hq x.1 (h x List.mem_cons_self)]
theorem zn_in {P Q : Nat → Bool} {d : Nat} (hq : ∀ c, ¬ c = d → P c = Q c) : ∀ {K : List k_K2}, K.Pairwise (fun x y => x.1 < y.1) → (∃ k, (d, k) ∈ K) → z_n Q K + z_b (P d) = z_n P K + z_b (Q d) := by
  intro K
  induction K with
  | nil => rintro - ⟨k, hk⟩; cases hk
  | cons x K ih =>
    intro s h
    obtain ⟨s1, s2⟩ := List.pairwise_cons.mp s
    have e : ∀ R : Nat → Bool, z_n R (x :: K) = z_n R K + z_b (R x.1) := fun R => by unfold z_n z_b; rw [List.countP_cons]
    rw [e, e]
    by_cases hx : x.1 = d
    · have := zn_out hq (K := K) (fun y hy z => by have := s1 y hy; omega)
      rw [this, hx]
      omega
    · obtain ⟨k, hk⟩ := h
      have : ∃ k, (d, k) ∈ K := by
        rcases List.mem_cons.mp hk with z | z
        · exact absurd (by rw [← z]) hx
        · exact ⟨k, z⟩
      have := ih s2 this
      rw [hq x.1 hx]
      omega
/-- a put of d: the keys of which P holds, and those of which it holds behind it -/
theorem zn_put {P Q : Nat → Bool} {d : Nat} {K : List k_K2} (s : K.Pairwise (fun x y => x.1 < y.1)) (hq : ∀ c, ¬ c = d → P c = Q c) (hd : P d = true → ∃ k, (d, k) ∈ K) : z_n Q (m_ins d K) + z_b (P d) = z_n P K + z_b (Q d) := by
  cases e : r_at d K with
  | some k =>
    have hm := r_at_some e
    rw [m_ins_in s hm]
    exact zn_in hq s ⟨k, hm⟩
  | none =>
    have hno : ∀ x ∈ K, ¬ x.1 = d := by
      intro x hx z
      have := r_at_mem s (c := d) (a := x.2) (by rw [← z]; exact hx)
      rw [e] at this
      cases this
    have hp : P d = false := by
      cases h : P d with
      | false => rfl
      | true => obtain ⟨k, hk⟩ := hd h; exact absurd rfl (hno _ hk)
    rw [zn_ins Q e, zn_out hq hno, hp]
    rfl
def z_l (n : Nat) (E : e_S) (c : Nat) : Bool := (r_val c n E.2.1).isSome
theorem V_len (K : List k_K2) (n : Nat) (L : List k_E4) : (m_V K n L).length = z_n (fun c => (r_val c n L).isSome) K := by
  unfold m_V z_n
  rw [List.length_map, List.countP_eq_length_filter]
theorem V_lt (e : Nat) (K : List k_K2) (n : Nat) (L : List k_E4) : p_lt e (m_V K n L) = z_n (fun c => decide (c < e) && (r_val c n L).isSome) K := by
  unfold m_V z_n p_lt
  rw [List.filter_map, List.length_map, List.filter_filter, List.countP_eq_length_filter]
  rfl
theorem put_val (n c m d : Nat) (o : Option Int32) (E : e_S) : r_val c m (e_put n d o E).2.1 = if d = c ∧ n ≤ m then o else r_val c m E.2.1 := r_val_cons c m _ _
/-- what holds of a store's keys -/
def i_K (E : e_S) : Prop := E.1.Pairwise (fun x y => x.1 < y.1) ∧ r_in E.1 E.2.1 ∧ ∀ x ∈ E.1, x.1 < 1331000000000
theorem val_in {E : e_S} (I : r_in E.1 E.2.1) {c n : Nat} (h : (r_val c n E.2.1).isSome = true) : ∃ k, (c, k) ∈ E.1 := by
  unfold r_val at h
  cases e : r_get c n E.2.1 with
  | none => rw [e] at h; cases h
  | some x =>
    have h1 := List.mem_of_find?_eq_some e
    have h2 := List.find?_some e
    rw [Bool.and_eq_true] at h2
    obtain ⟨k, hk⟩ := I x h1
    have e2 : x.2.1 = c := by simpa using h2.1
    exact ⟨k, by rw [← e2]; exact hk⟩
theorem val_mem {L : List k_E4} {c n : Nat} {v : Int32} (h : r_val c n L = some v) : ∃ x ∈ L, x.2.1 = c ∧ x.2.2.1 ≤ n ∧ x.2.2.2 = some v := by
  unfold r_val at h
  cases e : r_get c n L with
  | none => rw [e] at h; cases h
  | some x =>
    rw [e] at h
    have h1 := List.mem_of_find?_eq_some e
    have h2 := List.find?_some e
    rw [Bool.and_eq_true] at h2
    exact ⟨x, h1, by simpa using h2.1, by simpa using h2.2, h⟩
theorem iK_put {n c : Nat} {o : Option Int32} {E : e_S} (I : i_K E) (hc : c < 1331000000000) : i_K (e_put n c o E) := by
  obtain ⟨s, hin, hb⟩ := I
  refine ⟨m_ins_srt s, fun x hx => ?_, fun x hx => ?_⟩
  · rcases List.mem_cons.mp hx with rfl | hx
    · exact m_ins_has c
    · obtain ⟨k, hk⟩ := hin x hx
      exact ⟨k, m_ins_mem hk⟩
  · rcases m_ins_of hx with e | h
    · rw [e]; exact hc
    · exact hb x h
/-- how many entries, and keys with a value -/
def z_T (n : Nat) (E : e_S) : Nat := E.2.1.length + (m_V E.1 n E.2.1).length
theorem V_put {n c : Nat} {o : Option Int32} {E : e_S} (I : i_K E) : (m_V (e_put n c o E).1 n (e_put n c o E).2.1).length + z_b (z_l n E c) = (m_V E.1 n E.2.1).length + z_b o.isSome := by
  rw [V_len, V_len]
  have h := zn_put (P := z_l n E) (Q := fun d => (r_val d n (e_put n c o E).2.1).isSome) (d := c) I.1 (fun d hd => by rw [put_val, if_neg (fun z => hd z.1.symm)]; rfl) (fun h => val_in I.2.1 h)
  rw [show r_val c n (e_put n c o E).2.1 = o by rw [put_val, if_pos ⟨rfl, Nat.le_refl _⟩]] at h
  exact h
theorem Vlt_put {n c : Nat} {o : Option Int32} {E : e_S} (I : i_K E) (e : Nat) : p_lt e (m_V (e_put n c o E).1 n (e_put n c o E).2.1) + z_b (decide (c < e) && z_l n E c) = p_lt e (m_V E.1 n E.2.1) + z_b (decide (c < e) && o.isSome) := by
  rw [V_lt, V_lt]
  have h := zn_put (P := fun d => decide (d < e) && z_l n E d) (Q := fun d => decide (d < e) && (r_val d n (e_put n c o E).2.1).isSome) (d := c) I.1 (fun d hd => by rw [put_val, if_neg (fun z => hd z.1.symm)]; rfl) (fun h => val_in I.2.1 (by rw [Bool.and_eq_true] at h; exact h.2))
  rw [show r_val c n (e_put n c o E).2.1 = o by rw [put_val, if_pos ⟨rfl, Nat.le_refl _⟩]] at h
  exact h
