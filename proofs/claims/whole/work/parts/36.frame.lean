/-! THE LOG AND THE KEYS BEHIND A WRITE -/
theorem r_log_keep6 {h h' : k_H} {ka : Nat → Nat} (k : ∀ (q : Nat) (fs : List k_V), h.1 q = some (k_o 6 fs) → h'.1 q = some (k_o 6 fs)) : ∀ {L : List k_E4}, r_log h ka L → r_log h' ka L := by
  intro L
  induction L with
  | nil => exact fun _ => trivial
  | cons x t ih => exact fun r => ⟨k _ _ r.1, ih r.2⟩
/-- the heap behind the first write of a version -/
def h_new (h : k_H) (s k c n en : Nat) (p nw : Option Nat) (o : Option Int32) (f0 f1 f2 f3 : k_V) : k_H := k_up (k_up (k_up (k_nw h 6 (k_o 6 [vR (some k), vI (nI n), vR p, vR nw, vI 0, vI 0])) k (k_o 7 [vJ (lN c), vR (some h.2.1)])) s (k_o 11 [f0, f1, f2, f3, vI (nI (en + 1)), vR (some h.2.1), vI (nI n)])) h.2.1 (o_ent k n p nw o)
theorem h_new_ne {h : k_H} {s k c n en q : Nat} {p nw : Option Nat} {o : Option Int32} {f0 f1 f2 f3 : k_V} (h1 : q ≠ s) (h2 : q ≠ k) (h3 : q ≠ h.2.1) : (h_new h s k c n en p nw o f0 f1 f2 f3).1 q = h.1 q := by
  unfold h_new
  rw [k_up_ne _ _ h3, k_up_ne _ _ h1, k_up_ne _ _ h2, k_nw_ne _ _ _ h3]
theorem log_new {h : k_H} {s k c n en : Nat} {o : Option Int32} {f0 f1 f2 f3 : k_V} {gs : List k_V} {L : List k_E4} {ka : Nat → Nat} (wh : k_wf h) (hs : h.1 s = some (k_o 11 gs)) (hk : h.1 k = some (o_key c L)) (hka : ka c = k) (hL : r_log h ka L) :
    r_log (h_new h s k c n en (r_fst c L) (L.head?.map (fun y => y.1)) o f0 f1 f2 f3) ka ((h.2.1, c, n, o) :: L) := by
  refine ⟨?_, r_log_keep6 (fun q fs hq => ?_) hL⟩
  · show (h_new h s k c n en (r_fst c L) (L.head?.map (fun y => y.1)) o f0 f1 f2 f3).1 h.2.1 = some (o_ent (ka c) n (r_fst c L) (L.head?.map (fun y => y.1)) o)
    unfold h_new
    rw [hka]
    exact k_up_self _ _ _
  · rw [h_new_ne (fun z => by subst z; rw [hs] at hq; cases hq) (fun z => by subst z; rw [hk] at hq; cases hq) (fun z => by have := wh _ _ hq; omega)]
    exact hq
theorem ks_new {h : k_H} {s k c n en : Nat} {p nw : Option Nat} {o : Option Int32} {f0 f1 f2 f3 : k_V} {gs : List k_V} {L : List k_E4} {KS : List k_K2} (wh : k_wf h) (hs : h.1 s = some (k_o 11 gs)) (hm : (c, k) ∈ KS) (hks : r_ks h KS L) :
    r_ks (h_new h s k c n en p nw o f0 f1 f2 f3) KS ((h.2.1, c, n, o) :: L) := by
  obtain ⟨k1, k2, k3⟩ := hks
  refine ⟨fun x hx => ⟨(k1 x hx).1, ?_⟩, k2, k3⟩
  have hkc := (k1 _ hm).2
  have hkl := wh _ _ hkc
  by_cases e : x.1 = c
  · have e2 : x.2 = k := by
      have h1 := r_at_mem k2 (show (c, x.2) ∈ KS by rw [← e]; exact hx)
      have h2 := r_at_mem k2 hm
      rw [h1] at h2
      exact Option.some.inj h2
    have ks9 : k ≠ s := fun z => by subst z; rw [hs] at hkc; cases hkc
    rw [e2, e]
    unfold h_new
    rw [k_up_ne _ _ (show k ≠ h.2.1 from fun z => by have h9 := hkl; simp only at h9; omega), k_up_ne _ _ ks9, k_up_self]
    unfold o_key
    rw [r_fst_eq (c := c) (x := (h.2.1, c, n, o)) rfl]
  · have hxc := (k1 x hx).2
    have e3 : x.2 ≠ k := fun z => by
      rw [z, hkc] at hxc
      have a1 : o_key c L = o_key x.1 L := Option.some.inj hxc
      have a2 : [vJ (lN c), vR (r_fst c L)] = [vJ (lN x.1), vR (r_fst x.1 L)] := (Prod.mk.inj (Sum.inl.inj a1)).2
      have h2 : lN c = lN x.1 := Sum.inl.inj (Sum.inr.inj (List.cons.inj a2).1)
      exact e ((lX_eq (by have := (k1 _ hm).1; simp only at this; omega) (by have := (k1 x hx).1; omega)).mp h2).symm
    rw [h_new_ne (fun z => by rw [z, hs] at hxc; cases hxc) e3 (fun z => by have := wh _ _ hxc; omega), hxc]
    unfold o_key
    rw [r_fst_ne (x := (h.2.1, c, n, o)) (fun z => e z.symm)]
