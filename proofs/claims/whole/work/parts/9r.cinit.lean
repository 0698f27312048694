/-! THE CLASS IS MADE -/
def c_in (a : Nat) (cs : List (Option k_C)) (sl : Nat) (h : k_H) : k_H := (fun q => if a ≤ q ∧ q < a + cs.length then cs.getD (q - a) none else h.1 q, a + cs.length, h.2.2 + sl)
theorem ci_at {a i sl : Nat} {cs : List (Option k_C)} {h : k_H} {c : k_C} (e : cs[i]? = some (some c)) : (c_in a cs sl h).1 (a + i) = some c := by
  have hi := (List.getElem?_eq_some_iff.mp e).1
  show (if a ≤ a + i ∧ a + i < a + cs.length then cs.getD (a + i - a) none else h.1 (a + i)) = _
  rw [if_pos (by omega), Nat.add_sub_cancel_left, List.getD_eq_getElem?_getD, e]
  rfl
theorem ci_nw {a n sl : Nat} {cs : List (Option k_C)} {h : k_H} {c : k_C} : k_nw (c_in a cs sl h) n c = c_in a (cs ++ [some c]) (sl + n) h := by
  unfold k_nw c_in
  refine Prod.ext (funext fun q => ?_) (Prod.ext ?_ ?_)
  · show (if q = a + cs.length then some c else if a ≤ q ∧ q < a + cs.length then cs.getD (q - a) none else h.1 q) = if a ≤ q ∧ q < a + (cs ++ [some c]).length then (cs ++ [some c]).getD (q - a) none else h.1 q
    rw [List.length_append, List.length_singleton, List.getD_eq_getElem?_getD, List.getD_eq_getElem?_getD]
    by_cases e : q = a + cs.length
    · rw [if_pos e, if_pos (by omega), e, Nat.add_sub_cancel_left, List.getElem?_append_right (Nat.le_refl _), Nat.sub_self]
      rfl
    · rw [if_neg e]
      by_cases e2 : a ≤ q ∧ q < a + cs.length
      · rw [if_pos e2, if_pos (by omega), List.getElem?_append_left (by omega)]
      · rw [if_neg e2, if_neg (by omega)]
  · show a + cs.length + 1 = a + (cs ++ [some c]).length
    rw [List.length_append, List.length_singleton]; rfl
  · show h.2.2 + sl + n = h.2.2 + (sl + n)
    omega
theorem ci_sk {a n sl : Nat} {cs : List (Option k_C)} {h : k_H} (hw : h.1 (a + cs.length) = none) : k_sk (c_in a cs sl h) 1 n = c_in a (cs ++ [none]) (sl + n) h := by
  unfold k_sk c_in
  refine Prod.ext (funext fun q => ?_) (Prod.ext ?_ ?_)
  · show (if a ≤ q ∧ q < a + cs.length then cs.getD (q - a) none else h.1 q) = if a ≤ q ∧ q < a + (cs ++ [none]).length then (cs ++ [none]).getD (q - a) none else h.1 q
    rw [List.length_append, List.length_singleton, List.getD_eq_getElem?_getD, List.getD_eq_getElem?_getD]
    by_cases e : q = a + cs.length
    · rw [if_neg (by omega), if_pos (by omega), e, Nat.add_sub_cancel_left, List.getElem?_append_right (Nat.le_refl _), Nat.sub_self, hw]
      rfl
    · by_cases e2 : a ≤ q ∧ q < a + cs.length
      · rw [if_pos e2, if_pos (by omega), List.getElem?_append_left (by omega)]
      · rw [if_neg e2, if_neg (by omega)]
  · show a + cs.length + 1 = a + (cs ++ [none]).length
    rw [List.length_append, List.length_singleton]; rfl
  · show h.2.2 + sl + n = h.2.2 + (sl + n)
    omega
theorem ci_up {a i sl : Nat} {cs : List (Option k_C)} {h : k_H} {c : k_C} (hi : i < cs.length) : k_up (c_in a cs sl h) (a + i) c = c_in a (cs.set i (some c)) sl h := by
  unfold k_up c_in
  refine Prod.ext (funext fun q => ?_) (Prod.ext ?_ rfl)
  · show (if q = a + i then some c else if a ≤ q ∧ q < a + cs.length then cs.getD (q - a) none else h.1 q) = if a ≤ q ∧ q < a + (cs.set i (some c)).length then (cs.set i (some c)).getD (q - a) none else h.1 q
    rw [List.length_set, List.getD_eq_getElem?_getD, List.getD_eq_getElem?_getD]
    by_cases e : q = a + i
    · rw [if_pos e, if_pos (by omega), e, Nat.add_sub_cancel_left, List.getElem?_set_self hi]
      rfl
    · rw [if_neg e]
      by_cases e2 : a ≤ q ∧ q < a + cs.length
      · rw [if_pos e2, if_pos e2, List.getElem?_set_ne (by omega)]
      · rw [if_neg e2, if_neg e2]
  · show a + cs.length = a + (cs.set i (some c)).length
    rw [List.length_set]
theorem ci_wf {a sl : Nat} {cs : List (Option k_C)} {h : k_H} (w : k_wf h) (hn : h.2.1 ≤ a + cs.length) : k_wf (c_in a cs sl h) := by
  intro q c hq
  have hq : (if a ≤ q ∧ q < a + cs.length then cs.getD (q - a) none else h.1 q) = some c := hq
  show q < a + cs.length
  by_cases e : a ≤ q ∧ q < a + cs.length
  · exact e.2
  · rw [if_neg e] at hq
    have := w q c hq
    omega
theorem ci_0 {a : Nat} {h : k_H} {c : k_C} (e : h.1 a = some c) (hn : h.2.1 = a + 1) : h = c_in a [some c] 0 h := by
  unfold c_in
  refine Prod.ext (funext fun q => ?_) (Prod.ext hn rfl)
  show h.1 q = if a ≤ q ∧ q < a + 1 then [some c].getD (q - a) none else h.1 q
  by_cases e2 : a ≤ q ∧ q < a + 1
  · have : q = a := by omega
    subst this
    rw [if_pos e2, Nat.sub_self, e]
    rfl
  · rw [if_neg e2]
theorem set_mid {A : Type} (pre xs : List A) (i : Nat) (y : A) : (pre ++ xs).set (pre.length + i) y = pre ++ xs.set i y := by
  rw [List.set_append_right _ _ (Nat.le_add_right _ _), Nat.add_sub_cancel_left]
def c_o0 : List k_V := [vR none, vR none, vR none, vR none, vR none, vR none, vR none, vR none, vI 0, vI 0, vI 0, vI 0, vI 0]
section CIN
variable {G : k_G} {l : Launch}
theorem c_X0_init (ok : k_ok G l) {h : k_H} {q : Nat} (o : h.1 q = some (k_o 3 [vI 0, vI 0, vI 0])) : k_ctv (tX0_init G l) [vR (some q)] h (fun h' => h' = h) := by
  have e : ∀ i : Nat, k_up h q (k_o 3 (([vI 0, vI 0, vI 0] : List k_V).set 0 (vI 0))) = h := fun _ => up_same o
  refine k_ctv_of (eX0_init ok.2 (bX0_init_0 o rfl ?_))
  rw [show (([vI 0, vI 0, vI 0] : List k_V).set 0 (vI 0)) = [vI 0, vI 0, vI 0] from rfl, up_same o]
  refine bX0_init_9 o rfl ?_
  rw [show (([vI 0, vI 0, vI 0] : List k_V).set 1 (vI 0)) = [vI 0, vI 0, vI 0] from rfl, up_same o]
  refine bX0_init_14 o rfl ?_
  rw [show (([vI 0, vI 0, vI 0] : List k_V).set 2 (vI 0)) = [vI 0, vI 0, vI 0] from rfl, up_same o]
  exact bX0_init_19 ⟨rfl, rfl⟩
theorem c_X9_init (ok : k_ok G l) {a sl : Nat} {pre : List (Option k_C)} {h : k_H} (wh : k_wf h) (hn : h.2.1 ≤ a + 1) (hz : k_z0 G < a) (hp : 0 < pre.length) : k_ctv (tX9_init G l) [vR (some (a + pre.length))] (c_in a (pre ++ [some (k_o 12 [vR none, vR none, vI 0, vI 0, vI 0, vI 0, vI 0, vI 0])]) sl h)
    (fun h' => h' = c_in a (pre ++ [some (k_o 12 [vR (some (a + (pre.length + 1))), vR (some (a + (pre.length + 2))), vI 0, vI 0, vI 0, vI 0, vI (-2147483648), vI 0]), some (k_l [] 0), some (k_l [] 0)]) (sl + 6) h) := by
  have at0 : ∀ (xs : List (Option k_C)) (sl i : Nat) (c : k_C), xs[i]? = some (some c) → (c_in a (pre ++ xs) sl h).1 (a + (pre.length + i)) = some c := fun xs sl i c e => ci_at (by rw [List.getElem?_append_right (Nat.le_add_right _ _), Nat.add_sub_cancel_left]; exact e)
  have up0 : ∀ (xs : List (Option k_C)) (sl i : Nat) (c : k_C), i < xs.length → k_up (c_in a (pre ++ xs) sl h) (a + (pre.length + i)) c = c_in a (pre ++ xs.set i (some c)) sl h := fun xs sl i c hi => by
    rw [ci_up (by rw [List.length_append]; omega), set_mid]
  have nw0 : ∀ (xs : List (Option k_C)) (sl n : Nat) (c : k_C), k_nw (c_in a (pre ++ xs) sl h) n c = c_in a (pre ++ (xs ++ [some c])) (sl + n) h := fun xs sl n c => by rw [ci_nw, List.append_assoc]
  have ad0 : ∀ (xs : List (Option k_C)) (sl : Nat), (c_in a (pre ++ xs) sl h).2.1 = a + (pre.length + xs.length) := fun xs sl => by
    show a + (pre ++ xs).length = _
    rw [List.length_append]
  have wf0 : ∀ (xs : List (Option k_C)) (sl : Nat), k_wf (c_in a (pre ++ xs) sl h) := fun xs sl => ci_wf wh (by rw [List.length_append]; omega)
  refine k_ctv_of (eX9_init ok.2 (bX9_init_0 ?_))
  rw [ad0, nw0]
  refine bX9_init_8 (c_init ok (wf0 _ _) (by simp; omega) (at0 _ _ 1 _ rfl)) ?_
  rintro h1 hh
  rw [hh]
  have u1 := up0 [some (k_o 12 [vR none, vR none, vI 0, vI 0, vI 0, vI 0, vI 0, vI 0]), some (k_o 2 [vI 0, vR none, vI 0])] (sl + 3) 1 (k_l [] 0) (by simp)
  refine x_eq _ (show _ = c_in a (pre ++ [some (k_o 12 [vR none, vR none, vI 0, vI 0, vI 0, vI 0, vI 0, vI 0]), some (k_l [] 0)]) (sl + 3) h from u1) rfl ?_
  refine bX9_init_12 (at0 _ _ 0 _ rfl) rfl ?_
  have u2 := up0 [some (k_o 12 [vR none, vR none, vI 0, vI 0, vI 0, vI 0, vI 0, vI 0]), some (k_l [] 0)] (sl + 3) 0 (k_o 12 [vR (some (a + (pre.length + 1))), vR none, vI 0, vI 0, vI 0, vI 0, vI 0, vI 0]) (by simp)
  refine x_eq _ (show _ = c_in a (pre ++ [some (k_o 12 [vR (some (a + (pre.length + 1))), vR none, vI 0, vI 0, vI 0, vI 0, vI 0, vI 0]), some (k_l [] 0)]) (sl + 3) h from u2) rfl ?_
  refine bX9_init_15 ?_
  rw [ad0, nw0]
  refine bX9_init_19 (c_init ok (wf0 _ _) (by simp; omega) (at0 _ _ 2 _ rfl)) ?_
  rintro h2 hh
  rw [hh]
  have u3 := up0 [some (k_o 12 [vR (some (a + (pre.length + 1))), vR none, vI 0, vI 0, vI 0, vI 0, vI 0, vI 0]), some (k_l [] 0), some (k_o 2 [vI 0, vR none, vI 0])] (sl + 3 + 3) 2 (k_l [] 0) (by simp)
  refine x_eq _ (show _ = c_in a (pre ++ [some (k_o 12 [vR (some (a + (pre.length + 1))), vR none, vI 0, vI 0, vI 0, vI 0, vI 0, vI 0]), some (k_l [] 0), some (k_l [] 0)]) (sl + 3 + 3) h from u3) rfl ?_
  have st : ∀ (fs gs : List k_V) (sl : Nat), k_up (c_in a (pre ++ [some (k_o 12 fs), some (k_l [] 0), some (k_l [] 0)]) sl h) (a + pre.length) (k_o 12 gs) = c_in a (pre ++ [some (k_o 12 gs), some (k_l [] 0), some (k_l [] 0)]) sl h := fun fs gs sl => up0 [some (k_o 12 fs), some (k_l [] 0), some (k_l [] 0)] sl 0 (k_o 12 gs) (by simp)
  have at1 : ∀ (fs : List k_V) (sl : Nat), (c_in a (pre ++ [some (k_o 12 fs), some (k_l [] 0), some (k_l [] 0)]) sl h).1 (a + pre.length) = some (k_o 12 fs) := fun fs sl => at0 [some (k_o 12 fs), some (k_l [] 0), some (k_l [] 0)] sl 0 _ rfl
  refine bX9_init_23 (at1 _ _) rfl (x_eq _ (st _ _ _) rfl ?_)
  refine bX9_init_26 (at1 _ _) rfl (x_eq _ (st _ _ _) rfl ?_)
  refine bX9_init_31 (at1 _ _) rfl (x_eq _ (st _ _ _) rfl ?_)
  refine bX9_init_36 (at1 _ _) rfl (x_eq _ (st _ _ _) rfl ?_)
  refine bX9_init_41 (at1 _ _) rfl (x_eq _ (st _ _ _) rfl ?_)
  refine bX9_init_46 (at1 _ _) rfl (x_eq _ (st _ _ _) rfl ?_)
  refine bX9_init_52 (at1 _ _) rfl (x_eq _ (st _ _ _) rfl ?_)
  exact bX9_init_57 ⟨rfl, rfl⟩
end CIN
