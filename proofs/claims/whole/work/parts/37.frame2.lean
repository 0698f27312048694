/-! THE LOG BEHIND A SECOND WRITE OF A VERSION -/
def r_st1 (a : Nat) (o : Option Int32) (y : k_E4) : k_E4 := if y.1 = a then (y.1, y.2.1, y.2.2.1, o) else y
def r_set (a : Nat) (o : Option Int32) (L : List k_E4) : List k_E4 := L.map (r_st1 a o)
theorem r_st1_a (a : Nat) (o : Option Int32) (y : k_E4) : (r_st1 a o y).1 = y.1 := by unfold r_st1; split <;> rfl
theorem r_st1_c (a : Nat) (o : Option Int32) (y : k_E4) : (r_st1 a o y).2.1 = y.2.1 := by unfold r_st1; split <;> rfl
theorem r_st1_v (a : Nat) (o : Option Int32) (y : k_E4) : (r_st1 a o y).2.2.1 = y.2.2.1 := by unfold r_st1; split <;> rfl
theorem r_set_fst (a : Nat) (o : Option Int32) (c : Nat) : ∀ L : List k_E4, r_fst c (r_set a o L) = r_fst c L := by
  intro L
  induction L with
  | nil => rfl
  | cons y t ih =>
    show r_fst c (r_st1 a o y :: r_set a o t) = _
    by_cases e : y.2.1 = c
    · rw [r_fst_eq e, r_fst_eq ((r_st1_c a o y).trans e), r_st1_a]
    · rw [r_fst_ne e, r_fst_ne (fun z => e ((r_st1_c a o y).symm.trans z)), ih]
theorem r_set_head (a : Nat) (o : Option Int32) : ∀ L : List k_E4, (r_set a o L).head?.map (fun y => y.1) = L.head?.map (fun y => y.1) := by
  intro L
  cases L with
  | nil => rfl
  | cons y t =>
    show some (r_st1 a o y).1 = some y.1
    rw [r_st1_a]
theorem log_set {h : k_H} {ka : Nat → Nat} {x : k_E4} {b e : Option Nat} {o : Option Int32} (hx : h.1 x.1 = some (o_ent (ka x.2.1) x.2.2.1 b e x.2.2.2)) : ∀ {L : List k_E4}, r_log h ka L → r_log (k_up h x.1 (o_ent (ka x.2.1) x.2.2.1 b e o)) ka (r_set x.1 o L) := by
  intro L
  induction L with
  | nil => exact fun _ => trivial
  | cons y t ih =>
    intro r
    refine ⟨?_, ih r.2⟩
    show (k_up h x.1 (o_ent (ka x.2.1) x.2.2.1 b e o)).1 (r_st1 x.1 o y).1 = some (o_ent (ka (r_st1 x.1 o y).2.1) (r_st1 x.1 o y).2.2.1 (r_fst (r_st1 x.1 o y).2.1 (r_set x.1 o t)) ((r_set x.1 o t).head?.map (fun y => y.1)) (r_st1 x.1 o y).2.2.2)
    rw [r_set_fst, r_set_head, r_st1_a, r_st1_c, r_st1_v]
    by_cases c : y.1 = x.1
    · have e2 : (r_st1 x.1 o y).2.2.2 = o := by unfold r_st1; rw [if_pos c]
      have e3 := r.1
      rw [c, hx] at e3
      have a2 := (Prod.mk.inj (Sum.inl.inj (Option.some.inj e3))).2
      obtain ⟨b0, a3⟩ := List.cons.inj a2
      obtain ⟨b1, a4⟩ := List.cons.inj a3
      obtain ⟨b2, a5⟩ := List.cons.inj a4
      obtain ⟨b3, -⟩ := List.cons.inj a5
      rw [e2, c, k_up_self]
      unfold o_ent
      rw [b0, b1, b2, b3]
    · have e2 : (r_st1 x.1 o y).2.2.2 = y.2.2.2 := by unfold r_st1; rw [if_neg c]
      rw [e2, k_up_ne _ _ c]
      exact r.1
theorem ks_set {h : k_H} {x : Nat} {fs fs2 : List k_V} {a : Nat} {o : Option Int32} {L : List k_E4} {KS : List k_K2} (hx : h.1 x = some (k_o 6 fs)) (hks : r_ks h KS L) : r_ks (k_up h x (k_o 6 fs2)) KS (r_set a o L) := by
  obtain ⟨k1, k2, k3⟩ := hks
  refine ⟨fun y hy => ⟨(k1 y hy).1, ?_⟩, k2, k3⟩
  have h1 := (k1 y hy).2
  rw [k_up_ne _ _ (fun z => by rw [z, hx] at h1; cases h1), h1]
  unfold o_key
  rw [r_set_fst]
