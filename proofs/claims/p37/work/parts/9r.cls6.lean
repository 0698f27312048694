section
/-! THE CLASS IS MADE -/
def c_in (a : Nat) (cs : List (Option k_C)) (sl : Nat) (h : k_H) : k_H := (fun q => if a ≤ q ∧ q < a + cs.length then cs.getD (q - a) none else h.1 q, a + cs.length, h.2.2 + sl)
theorem ci_at {a i sl : Nat} {cs : List (Option k_C)} {h : k_H} {c : k_C} (e : cs[i]? = some (some c)) : (c_in a cs sl h).1 (a + i) = some c := by
  have hi := (List.getElem?_eq_some_iff.mp e).1
  show (if a ≤ a + i ∧ a + i < a + cs.length then cs.getD (a + i - a) none else h.1 (a + i)) = _
  rw [if_pos (by omega), Nat.add_sub_cancel_left, List.getD_eq_getElem?_getD, e]
  rfl
theorem ci_nw {a n sl : Nat} {cs : List (Option k_C)} {h : k_H} {c : k_C} : k_nw (c_in a cs sl h) n c = c_in a (cs ++ [some c]) (sl + n) h := by
  unfold k_nw c_in
  refine Prod.ext (funext fun q => ?_) (Prod.ext ?_ ?_)
  · show (if q = a + cs.length then some c else if a ≤ q ∧ q < a + cs.length then cs.getD (q - a) none else h.1 q) = if a ≤ q ∧ q < a + (cs ++ [some c]).length then (cs ++ [some c]).getD (q - a) none else h.1 q
    rw [List.length_append, List.length_singleton, List.getD_eq_getElem?_getD, List.getD_eq_getElem?_getD]
    by_cases e : q = a + cs.length
    · rw [if_pos e, if_pos (by omega), e, Nat.add_sub_cancel_left, List.getElem?_append_right (Nat.le_refl _), Nat.sub_self]
      rfl
    · rw [if_neg e]
      by_cases e2 : a ≤ q ∧ q < a + cs.length
      · rw [if_pos e2, if_pos (by omega), List.getElem?_append_left (by omega)]
      · rw [if_neg e2, if_neg (by omega)]
  · show a + cs.length + 1 = a + (cs ++ [some c]).length
    rw [List.length_append, List.length_singleton]; rfl
  · show h.2.2 + sl + n = h.2.2 + (sl + n)
    omega
theorem ci_sk {a n sl : Nat} {cs : List (Option k_C)} {h : k_H} (hw : h.1 (a + cs.length) = none) : k_sk (c_in a cs sl h) 1 n = c_in a (cs ++ [none]) (sl + n) h := by
  unfold k_sk c_in
  refine Prod.ext (funext fun q => ?_) (Prod.ext ?_ ?_)
  · show (if a ≤ q ∧ q < a + cs.length then cs.getD (q - a) none else h.1 q) = if a ≤ q ∧ q < a + (cs ++ [none]).length then (cs ++ [none]).getD (q - a) none else h.1 q
    rw [List.length_append, List.length_singleton, List.getD_eq_getElem?_getD, List.getD_eq_getElem?_getD]
    by_cases e : q = a + cs.length
    · rw [if_neg (by omega), if_pos (by omega), e, Nat.add_sub_cancel_left, List.getElem?_append_right (Nat.le_refl _), Nat.sub_self, hw]
      rfl
    · by_cases e2 : a ≤ q ∧ q < a + cs.length
      · rw [if_pos e2, if_pos (by omega), List.getElem?_append_left (by omega)]
      · rw [if_neg e2, if_neg (by omega)]
  · show a + cs.length + 1 = a + (cs ++ [none]).length
    rw [List.length_append, List.length_singleton]; rfl
  · show h.2.2 + sl + n = h.2.2 + (sl + n)
    omega
theorem ci_up {a i sl : Nat} {cs : List (Option k_C)} {h : k_H} {c : k_C} (hi : i < cs.length) : k_up (c_in a cs sl h) (a + i) c = c_in a (cs.set i (some c)) sl h := by
  unfold k_up c_in
  refine Prod.ext (funext fun q => ?_) (Prod.ext ?_ rfl)
  · show (if q = a + i then some c else if a ≤ q ∧ q < a + cs.length then cs.getD (q - a) none else h.1 q) = if a ≤ q ∧ q < a + (cs.set i (some c)).length then (cs.set i (some c)).getD (q - a) none else h.1 q
    rw [List.length_set, List.getD_eq_getElem?_getD, List.getD_eq_getElem?_getD]
    by_cases e : q = a + i
    · rw [if_pos e, if_pos (by omega), e, Nat.add_sub_cancel_left, List.getElem?_set_self hi]
      rfl
    · rw [if_neg e]
      by_cases e2 : a ≤ q ∧ q < a + cs.length
      · rw [if_pos e2, if_pos e2, List.getElem?_set_ne (by omega)]
      · rw [if_neg e2, if_neg e2]
  · show a + cs.length = a + (cs.set i (some c)).length
    rw [List.length_set]
theorem ci_wf {a sl : Nat} {cs : List (Option k_C)} {h : k_H} (w : k_wf h) (hn : h.2.1 ≤ a + cs.length) : k_wf (c_in a cs sl h) := by
  intro q c hq
  have hq : (if a ≤ q ∧ q < a + cs.length then cs.getD (q - a) none else h.1 q) = some c := hq
  show q < a + cs.length
  by_cases e : a ≤ q ∧ q < a + cs.length
  · exact e.2
  · rw [if_neg e] at hq
    have := w q c hq
    omega
theorem ci_0 {a : Nat} {h : k_H} {c : k_C} (e : h.1 a = some c) (hn : h.2.1 = a + 1) : h = c_in a [some c] 0 h := by
  unfold c_in
  refine Prod.ext (funext fun q => ?_) (Prod.ext hn rfl)
  show h.1 q = if a ≤ q ∧ q < a + 1 then [some c].getD (q - a) none else h.1 q
  by_cases e2 : a ≤ q ∧ q < a + 1
  · have : q = a := by omega
    subst this
    rw [if_pos e2, Nat.sub_self, e]
    rfl
  · rw [if_neg e2]
theorem set_mid {A : Type} (pre xs : List A) (i : Nat) (y : A) : (pre ++ xs).set (pre.length + i) y = pre ++ xs.set i y := by
  rw [List.set_append_right _ _ (Nat.le_add_right _ _), Nat.add_sub_cancel_left]
def c_o0 : List k_V := [vR none, vR none, vR none, vR none, vR none, vR none, vR none, vR none, vI 0, vI 0, vI 0, vI 0, vI 0]
section CIN
variable {G : k_G} {l : Launch}
theorem c_X0_init (ok : k_ok G l) {h : k_H} {q : Nat} (o : h.1 q = some (k_o 3 [vI 0, vI 0, vI 0])) : k_ctv (tX0_init G l) [vR (some q)] h (fun h' => h' = h) := by
  have e : ∀ i : Nat, k_up h q (k_o 3 (([vI 0, vI 0, vI 0] : List k_V).set 0 (vI 0))) = h := fun _ => up_same o
  refine k_ctv_of (eX0_init ok.2 (bX0_init_0 o rfl ?_))
  rw [show (([vI 0, vI 0, vI 0] : List k_V).set 0 (vI 0)) = [vI 0, vI 0, vI 0] from rfl, up_same o]
  refine bX0_init_9 o rfl ?_
  rw [show (([vI 0, vI 0, vI 0] : List k_V).set 1 (vI 0)) = [vI 0, vI 0, vI 0] from rfl, up_same o]
  refine bX0_init_14 o rfl ?_
  rw [show (([vI 0, vI 0, vI 0] : List k_V).set 2 (vI 0)) = [vI 0, vI 0, vI 0] from rfl, up_same o]
  exact bX0_init_19 ⟨rfl, rfl⟩
theorem c_X9_init (ok : k_ok G l) {a sl : Nat} {pre : List (Option k_C)} {h : k_H} (wh : k_wf h) (hn : h.2.1 ≤ a + 1) (hz : k_z0 G < a) (hp : 0 < pre.length) : k_ctv (tX9_init G l) [vR (some (a + pre.length))] (c_in a (pre ++ [some (k_o 12 [vR none, vR none, vI 0, vI 0, vI 0, vI 0, vI 0, vI 0])]) sl h)
    (fun h' => h' = c_in a (pre ++ [some (k_o 12 [vR (some (a + (pre.length + 1))), vR (some (a + (pre.length + 2))), vI 0, vI 0, vI 0, vI 0, vI (-2147483648), vI 0]), some (k_l [] 0), some (k_l [] 0)]) (sl + 6) h) := by
  have at0 : ∀ (xs : List (Option k_C)) (sl i : Nat) (c : k_C), xs[i]? = some (some c) → (c_in a (pre ++ xs) sl h).1 (a + (pre.length + i)) = some c := fun xs sl i c e => ci_at (by rw [List.getElem?_append_right (Nat.le_add_right _ _), Nat.add_sub_cancel_left]; exact e)
  have up0 : ∀ (xs : List (Option k_C)) (sl i : Nat) (c : k_C), i < xs.length → k_up (c_in a (pre ++ xs) sl h) (a + (pre.length + i)) c = c_in a (pre ++ xs.set i (some c)) sl h := fun xs sl i c hi => by
    rw [ci_up (by rw [List.length_append]; omega), set_mid]
  have nw0 : ∀ (xs : List (Option k_C)) (sl n : Nat) (c : k_C), k_nw (c_in a (pre ++ xs) sl h) n c = c_in a (pre ++ (xs ++ [some c])) (sl + n) h := fun xs sl n c => by rw [ci_nw, List.append_assoc]
  have ad0 : ∀ (xs : List (Option k_C)) (sl : Nat), (c_in a (pre ++ xs) sl h).2.1 = a + (pre.length + xs.length) := fun xs sl => by
    show a + (pre ++ xs).length = _
    rw [List.length_append]
  have wf0 : ∀ (xs : List (Option k_C)) (sl : Nat), k_wf (c_in a (pre ++ xs) sl h) := fun xs sl => ci_wf wh (by rw [List.length_append]; omega)
  refine k_ctv_of (eX9_init ok.2 (bX9_init_0 ?_))
  rw [ad0, nw0]
  refine bX9_init_8 (c_init ok (wf0 _ _) (by simp; omega) (at0 _ _ 1 _ rfl)) ?_
  rintro h1 hh
  rw [hh]
  have u1 := up0 [some (k_o 12 [vR none, vR none, vI 0, vI 0, vI 0, vI 0, vI 0, vI 0]), some (k_o 2 [vI 0, vR none, vI 0])] (sl + 3) 1 (k_l [] 0) (by simp)
  refine x_eq _ (show _ = c_in a (pre ++ [some (k_o 12 [vR none, vR none, vI 0, vI 0, vI 0, vI 0, vI 0, vI 0]), some (k_l [] 0)]) (sl + 3) h from u1) rfl ?_
  refine bX9_init_12 (at0 _ _ 0 _ rfl) rfl ?_
  have u2 := up0 [some (k_o 12 [vR none, vR none, vI 0, vI 0, vI 0, vI 0, vI 0, vI 0]), some (k_l [] 0)] (sl + 3) 0 (k_o 12 [vR (some (a + (pre.length + 1))), vR none, vI 0, vI 0, vI 0, vI 0, vI 0, vI 0]) (by simp)
  refine x_eq _ (show _ = c_in a (pre ++ [some (k_o 12 [vR (some (a + (pre.length + 1))), vR none, vI 0, vI 0, vI 0, vI 0, vI 0, vI 0]), some (k_l [] 0)]) (sl + 3) h from u2) rfl ?_
  refine bX9_init_15 ?_
  rw [ad0, nw0]
  refine bX9_init_19 (c_init ok (wf0 _ _) (by simp; omega) (at0 _ _ 2 _ rfl)) ?_
  rintro h2 hh
  rw [hh]
  have u3 := up0 [some (k_o 12 [vR (some (a + (pre.length + 1))), vR none, vI 0, vI 0, vI 0, vI 0, vI 0, vI 0]), some (k_l [] 0), some (k_o 2 [vI 0, vR none, vI 0])] (sl + 3 + 3) 2 (k_l [] 0) (by simp)
  refine x_eq _ (show _ = c_in a (pre ++ [some (k_o 12 [vR (some (a + (pre.length + 1))), vR none, vI 0, vI 0, vI 0, vI 0, vI 0, vI 0]), some (k_l [] 0), some (k_l [] 0)]) (sl + 3 + 3) h from u3) rfl ?_
  have st : ∀ (fs gs : List k_V) (sl : Nat), k_up (c_in a (pre ++ [some (k_o 12 fs), some (k_l [] 0), some (k_l [] 0)]) sl h) (a + pre.length) (k_o 12 gs) = c_in a (pre ++ [some (k_o 12 gs), some (k_l [] 0), some (k_l [] 0)]) sl h := fun fs gs sl => up0 [some (k_o 12 fs), some (k_l [] 0), some (k_l [] 0)] sl 0 (k_o 12 gs) (by simp)
  have at1 : ∀ (fs : List k_V) (sl : Nat), (c_in a (pre ++ [some (k_o 12 fs), some (k_l [] 0), some (k_l [] 0)]) sl h).1 (a + pre.length) = some (k_o 12 fs) := fun fs sl => at0 [some (k_o 12 fs), some (k_l [] 0), some (k_l [] 0)] sl 0 _ rfl
  refine bX9_init_23 (at1 _ _) rfl (x_eq _ (st _ _ _) rfl ?_)
  refine bX9_init_26 (at1 _ _) rfl (x_eq _ (st _ _ _) rfl ?_)
  refine bX9_init_31 (at1 _ _) rfl (x_eq _ (st _ _ _) rfl ?_)
  refine bX9_init_36 (at1 _ _) rfl (x_eq _ (st _ _ _) rfl ?_)
  refine bX9_init_41 (at1 _ _) rfl (x_eq _ (st _ _ _) rfl ?_)
  refine bX9_init_46 (at1 _ _) rfl (x_eq _ (st _ _ _) rfl ?_)
  refine bX9_init_52 (at1 _ _) rfl (x_eq _ (st _ _ _) rfl ?_)
  exact bX9_init_57 ⟨rfl, rfl⟩
end CIN
end
section
/-! THE CLASS IS MADE: the store, the parts, the whole -/
section CI2
variable {G : k_G} {l : Launch}
theorem c_X8_init (ok : k_ok G l) {a sl : Nat} {A : k_C} {h : k_H} (wh : k_wf h) (hn : h.2.1 ≤ a + 1) (hz : k_z0 G < a) : k_ctv (tX8_init G l) [vR (some (a + 1))] (c_in a [some A, some (k_o 11 [vR none, vR none, vR none, vR none, vI 0, vR none, vI 0])] sl h)
    (fun h' => h' = c_in a [some A, some (k_o 11 [vR (some (a + 2)), vR (some (a + 3)), vR (some (a + 4)), vR (some (a + 5)), vI 0, vR none, vI 0]), some (k_l [] 0), some (k_l [] 0), some (k_l [] 0), some (k_o 3 [vI 0, vI 0, vI 0])] (sl + 12) h) := by
  have wf0 : ∀ (xs : List (Option k_C)) (sl : Nat), 0 < xs.length → k_wf (c_in a xs sl h) := fun xs sl hx => ci_wf wh (by omega)
  have ad0 : ∀ (xs : List (Option k_C)) (sl : Nat), (c_in a xs sl h).2.1 = a + xs.length := fun xs sl => rfl
  refine k_ctv_of (eX8_init ok.2 (bX8_init_0 ?_))
  rw [ad0, ci_nw]
  refine bX8_init_8 (c_init ok (wf0 _ _ (by simp)) (by simp; omega) (ci_at (i := 2) rfl)) ?_
  rintro h1 hh
  rw [hh]
  refine x_eq _ (show _ = c_in a [some A, some (k_o 11 [vR none, vR none, vR none, vR none, vI 0, vR none, vI 0]), some (k_l [] 0)] (sl + 3) h from ci_up (i := 2) (by simp)) rfl ?_
  refine bX8_init_12 (ci_at (i := 1) rfl) rfl (x_eq _ (show _ = c_in a [some A, some (k_o 11 [vR (some (a + 2)), vR none, vR none, vR none, vI 0, vR none, vI 0]), some (k_l [] 0)] (sl + 3) h from ci_up (i := 1) (by simp)) rfl ?_)
  refine bX8_init_15 ?_
  rw [ad0, ci_nw]
  refine bX8_init_19 (c_init ok (wf0 _ _ (by simp)) (by simp; omega) (ci_at (i := 3) rfl)) ?_
  rintro h1 hh
  rw [hh]
  refine x_eq _ (show _ = c_in a [some A, some (k_o 11 [vR (some (a + 2)), vR none, vR none, vR none, vI 0, vR none, vI 0]), some (k_l [] 0), some (k_l [] 0)] (sl + 3 + 3) h from ci_up (i := 3) (by simp)) rfl ?_
  refine bX8_init_23 (ci_at (i := 1) rfl) rfl (x_eq _ (show _ = c_in a [some A, some (k_o 11 [vR (some (a + 2)), vR (some (a + 3)), vR none, vR none, vI 0, vR none, vI 0]), some (k_l [] 0), some (k_l [] 0)] (sl + 3 + 3) h from ci_up (i := 1) (by simp)) rfl ?_)
  refine bX8_init_26 ?_
  rw [ad0, ci_nw]
  refine bX8_init_30 (c_init ok (wf0 _ _ (by simp)) (by simp; omega) (ci_at (i := 4) rfl)) ?_
  rintro h1 hh
  rw [hh]
  refine x_eq _ (show _ = c_in a [some A, some (k_o 11 [vR (some (a + 2)), vR (some (a + 3)), vR none, vR none, vI 0, vR none, vI 0]), some (k_l [] 0), some (k_l [] 0), some (k_l [] 0)] (sl + 3 + 3 + 3) h from ci_up (i := 4) (by simp)) rfl ?_
  refine bX8_init_34 (ci_at (i := 1) rfl) rfl (x_eq _ (show _ = c_in a [some A, some (k_o 11 [vR (some (a + 2)), vR (some (a + 3)), vR (some (a + 4)), vR none, vI 0, vR none, vI 0]), some (k_l [] 0), some (k_l [] 0), some (k_l [] 0)] (sl + 3 + 3 + 3) h from ci_up (i := 1) (by simp)) rfl ?_)
  refine bX8_init_37 ?_
  rw [ad0, ci_nw]
  refine bX8_init_41 (c_X0_init ok (ci_at (i := 5) rfl)) ?_
  rintro h1 hh
  rw [hh]
  have fin : ∀ fs gs : List k_V, k_up (c_in a [some A, some (k_o 11 fs), some (k_l [] 0), some (k_l [] 0), some (k_l [] 0), some (k_o 3 [vI 0, vI 0, vI 0])] (sl + 3 + 3 + 3 + 3) h) (a + 1) (k_o 11 gs) = c_in a [some A, some (k_o 11 gs), some (k_l [] 0), some (k_l [] 0), some (k_l [] 0), some (k_o 3 [vI 0, vI 0, vI 0])] (sl + 3 + 3 + 3 + 3) h := fun fs gs => ci_up (i := 1) (by simp)
  refine bX8_init_45 (ci_at (i := 1) rfl) rfl (x_eq _ (fin _ _) rfl ?_)
  refine bX8_init_48 (ci_at (i := 1) rfl) rfl (x_eq _ (fin _ _) rfl ?_)
  refine bX8_init_53 (ci_at (i := 1) rfl) rfl (x_eq _ (fin _ _) rfl ?_)
  refine bX8_init_58 (ci_at (i := 1) rfl) rfl (x_eq _ (fin _ _) rfl ?_)
  exact bX8_init_63 ⟨rfl, rfl⟩
/-- the parts' own -/
theorem c_X6_init (ok : k_ok G l) {a sl : Nat} {p0 p1 p2 p3 p4 p5 : Option k_C} {h : k_H} (wh : k_wf h) (hn : h.2.1 ≤ a + 1) (hz : k_z0 G < a) : k_ctv (tX6_init G l) [vR (some (a + 6))] (c_in a [p0, p1, p2, p3, p4, p5, some (k_o 9 [vR none])] sl h)
    (fun h' => h' = c_in a [p0, p1, p2, p3, p4, p5, some (k_o 9 [vR (some (a + 7))]), some (k_l [a + 8] 10), some (k_o 8 [vJ 0, vI 0, vI 0]), none] (sl + 16) h) := by
  have wf0 : ∀ (xs : List (Option k_C)) (sl : Nat), 0 < xs.length → k_wf (c_in a xs sl h) := fun xs sl hx => ci_wf wh (by omega)
  have ad0 : ∀ (xs : List (Option k_C)) (sl : Nat), (c_in a xs sl h).2.1 = a + xs.length := fun xs sl => rfl
  have nh : ∀ i, h.1 (a + (i + 1)) = none := fun i => wh.none (by omega)
  refine k_ctv_of (eX6_init ok.2 (bX6_init_0 ?_))
  rw [ad0, ci_nw]
  refine bX6_init_8 (c_init ok (wf0 _ _ (by simp)) (by simp; omega) (ci_at (i := 7) rfl)) ?_
  rintro h1 hh
  rw [hh]
  refine x_eq _ (show _ = c_in a [p0, p1, p2, p3, p4, p5, some (k_o 9 [vR none]), some (k_l [] 0)] (sl + 3) h from ci_up (i := 7) (by simp)) rfl ?_
  refine bX6_init_12 (ci_at (i := 6) rfl) rfl (x_eq _ (show _ = c_in a [p0, p1, p2, p3, p4, p5, some (k_o 9 [vR (some (a + 7))]), some (k_l [] 0)] (sl + 3) h from ci_up (i := 6) (by simp)) rfl ?_)
  refine bX6_init_15 (ci_at (i := 6) rfl) rfl ?_
  rw [ad0, ci_nw]
  have o8 : (c_in a [p0, p1, p2, p3, p4, p5, some (k_o 9 [vR (some (a + 7))]), some (k_l [] 0), some (k_o 8 [vJ 0, vI 0, vI 0])] (sl + 3 + 3) h).1 (a + 8) = some (k_o 8 [vJ 0, vI 0, vI 0]) := ci_at (i := 8) rfl
  refine bX6_init_22 (c_X5_init ok o8) ?_
  rintro h1 hh
  rw [hh]
  refine x_eq _ (show _ = c_in a [p0, p1, p2, p3, p4, p5, some (k_o 9 [vR (some (a + 7))]), some (k_l [] 0), some (k_o 8 [vJ 0, vI 0, vI 0])] (sl + 3 + 3) h from up_same o8) rfl ?_
  have o7 : (c_in a [p0, p1, p2, p3, p4, p5, some (k_o 9 [vR (some (a + 7))]), some (k_l [] 0), some (k_o 8 [vJ 0, vI 0, vI 0])] (sl + 3 + 3) h).1 (a + 7) = some (k_l [] 0) := ci_at (i := 7) rfl
  refine bX6_init_28 (Or.inr ⟨rfl, _, _, o7⟩) (c_add ok (wf0 _ _ (by simp)) o7 (by simp) (fun z hz => by cases hz) (el_prt o8)) ?_
  rintro h1 _ ⟨hh, -⟩
  refine bX6_init_31 ⟨rfl, ?_⟩
  rw [hh]
  have e1 : k_up (c_in a [p0, p1, p2, p3, p4, p5, some (k_o 9 [vR (some (a + 7))]), some (k_l [] 0), some (k_o 8 [vJ 0, vI 0, vI 0])] (sl + 3 + 3) h) (a + 7) (k_l ([] ++ [a + 8]) (k_nc 0)) = c_in a [p0, p1, p2, p3, p4, p5, some (k_o 9 [vR (some (a + 7))]), some (k_l [a + 8] 10), some (k_o 8 [vJ 0, vI 0, vI 0])] (sl + 3 + 3) h := ci_up (i := 7) (by simp)
  show (if ([] : List Nat).length < 0 then _ else k_sk (k_up (c_in a [p0, p1, p2, p3, p4, p5, some (k_o 9 [vR (some (a + 7))]), some (k_l [] 0), some (k_o 8 [vJ 0, vI 0, vI 0])] (sl + 3 + 3) h) (a + 7) (k_l ([] ++ [a + 8]) (k_nc 0))) 1 (k_nc 0)) = _
  rw [if_neg (by simp), e1]
  exact ci_sk (nh 8)
end CI2
end
section
/-! THE CLASS IS MADE: its own constructor -/
theorem el_tra {h : k_H} {a : Nat} {fs : List k_V} (ho : h.1 a = some (k_o 12 fs)) : k_el h a := ⟨12, k_is_o ho, k_to rfl (by decide)⟩
section CI3
variable {G : k_G} {l : Launch}
theorem c_X11_init (ok : k_ok G l) {a : Nat} {h : k_H} (wh : k_wf h) (hn : h.2.1 = a + 1) (hz : k_z0 G < a) (ho : h.1 a = some (k_o 14 c_o0)) : k_ctv (tX11_init G l) [vR (some a)] h
    (fun h' => h' = c_in a [some (k_o 14 [vR (some (a + 1)), vR (some (a + 6)), vR (some (a + 10)), vR (some (a + 11)), vR (some (a + 12)), vR (some (a + 13)), vR (some (a + 14)), vR (some (a + 15)), vI 0, vI 0, vI 0, vI (-2147483648), vI 0]), some (k_o 11 [vR (some (a + 2)), vR (some (a + 3)), vR (some (a + 4)), vR (some (a + 5)), vI 0, vR none, vI 0]), some (k_l [] 0), some (k_l [] 0), some (k_l [] 0), some (k_o 3 [vI 0, vI 0, vI 0]), some (k_o 9 [vR (some (a + 7))]), some (k_l [a + 8] 10), some (k_o 8 [vJ 0, vI 0, vI 0]), none, some (k_o 3 [vI 0, vI 0, vI 0]), some (k_l [a + 16, a + 20, a + 23, a + 26] 10), some (k_l [] 0), some (k_l [a + 29] 10), some (k_l [] 0), some (k_i 10 (fun _ => 0)), some (k_o 12 [vR (some (a + 17)), vR (some (a + 18)), vI 0, vI 0, vI 0, vI 0, vI (-2147483648), vI 0]), some (k_l [] 0), some (k_l [] 0), none, some (k_o 12 [vR (some (a + 21)), vR (some (a + 22)), vI 0, vI 0, vI 0, vI 0, vI (-2147483648), vI 0]), some (k_l [] 0), some (k_l [] 0), some (k_o 12 [vR (some (a + 24)), vR (some (a + 25)), vI 0, vI 0, vI 0, vI 0, vI (-2147483648), vI 0]), some (k_l [] 0), some (k_l [] 0), some (k_o 12 [vR (some (a + 27)), vR (some (a + 28)), vI 0, vI 0, vI 0, vI 0, vI (-2147483648), vI 0]), some (k_l [] 0), some (k_l [] 0), some (k_o 5 [vI 0, vI 0, vR none, vI 0]), none] 141 h) := by
  have nh : ∀ i, h.1 (a + (i + 1)) = none := fun i => wh.none (by omega)
  have wf0 : ∀ (xs : List (Option k_C)) (sl : Nat), 0 < xs.length → k_wf (c_in a xs sl h) := fun xs sl hx => ci_wf wh (by omega)
  have ad0 : ∀ (xs : List (Option k_C)) (sl : Nat), (c_in a xs sl h).2.1 = a + xs.length := fun xs sl => rfl
  refine k_ctv_of (eX11_init ok.2 (x_eq _ (ci_0 ho hn) rfl ?_))
  refine bX11_init_0 ?_
  rw [ad0, ci_nw]
  refine bX11_init_8 (c_X8_init (A := k_o 14 c_o0) ok wh (by omega) hz) ?_
  rintro h1 hh
  rw [hh]
  refine bX11_init_12 (ci_at (i := 0) rfl) rfl (x_eq _ (show _ = c_in a [some (k_o 14 [vR (some (a + 1)), vR none, vR none, vR none, vR none, vR none, vR none, vR none, vI 0, vI 0, vI 0, vI 0, vI 0]), some (k_o 11 [vR (some (a + 2)), vR (some (a + 3)), vR (some (a + 4)), vR (some (a + 5)), vI 0, vR none, vI 0]), some (k_l [] 0), some (k_l [] 0), some (k_l [] 0), some (k_o 3 [vI 0, vI 0, vI 0])] (0 + 7 + 12) h from ci_up (i := 0) (by simp)) rfl ?_)
  refine bX11_init_15 ?_
  rw [ad0, ci_nw]
  refine bX11_init_19 (c_X6_init ok wh (by omega) hz) ?_
  rintro h1 hh
  rw [hh]
  refine bX11_init_23 (ci_at (i := 0) rfl) rfl (x_eq _ (show _ = c_in a [some (k_o 14 [vR (some (a + 1)), vR (some (a + 6)), vR none, vR none, vR none, vR none, vR none, vR none, vI 0, vI 0, vI 0, vI 0, vI 0]), some (k_o 11 [vR (some (a + 2)), vR (some (a + 3)), vR (some (a + 4)), vR (some (a + 5)), vI 0, vR none, vI 0]), some (k_l [] 0), some (k_l [] 0), some (k_l [] 0), some (k_o 3 [vI 0, vI 0, vI 0]), some (k_o 9 [vR (some (a + 7))]), some (k_l [a + 8] 10), some (k_o 8 [vJ 0, vI 0, vI 0]), none] (0 + 7 + 12 + 1 + 16) h from ci_up (i := 0) (by simp)) rfl ?_)
  refine bX11_init_26 ?_
  rw [ad0, ci_nw]
  refine bX11_init_30 (c_X0_init ok (ci_at (i := 10) rfl)) ?_
  rintro h1 hh
  rw [hh]
  refine bX11_init_34 (ci_at (i := 0) rfl) rfl (x_eq _ (show _ = c_in a [some (k_o 14 [vR (some (a + 1)), vR (some (a + 6)), vR (some (a + 10)), vR none, vR none, vR none, vR none, vR none, vI 0, vI 0, vI 0, vI 0, vI 0]), some (k_o 11 [vR (some (a + 2)), vR (some (a + 3)), vR (some (a + 4)), vR (some (a + 5)), vI 0, vR none, vI 0]), some (k_l [] 0), some (k_l [] 0), some (k_l [] 0), some (k_o 3 [vI 0, vI 0, vI 0]), some (k_o 9 [vR (some (a + 7))]), some (k_l [a + 8] 10), some (k_o 8 [vJ 0, vI 0, vI 0]), none, some (k_o 3 [vI 0, vI 0, vI 0])] (0 + 7 + 12 + 1 + 16 + 3) h from ci_up (i := 0) (by simp)) rfl ?_)
  refine bX11_init_37 ?_
  rw [ad0, ci_nw]
  refine bX11_init_41 (c_init ok (wf0 _ _ (by simp)) (by simp; omega) (ci_at (i := 11) rfl)) ?_
  rintro h1 hh
  rw [hh]
  refine x_eq _ (show _ = c_in a [some (k_o 14 [vR (some (a + 1)), vR (some (a + 6)), vR (some (a + 10)), vR none, vR none, vR none, vR none, vR none, vI 0, vI 0, vI 0, vI 0, vI 0]), some (k_o 11 [vR (some (a + 2)), vR (some (a + 3)), vR (some (a + 4)), vR (some (a + 5)), vI 0, vR none, vI 0]), some (k_l [] 0), some (k_l [] 0), some (k_l [] 0), some (k_o 3 [vI 0, vI 0, vI 0]), some (k_o 9 [vR (some (a + 7))]), some (k_l [a + 8] 10), some (k_o 8 [vJ 0, vI 0, vI 0]), none, some (k_o 3 [vI 0, vI 0, vI 0]), some (k_l [] 0)] (0 + 7 + 12 + 1 + 16 + 3 + 3) h from ci_up (i := 11) (by simp)) rfl ?_
  refine bX11_init_45 (ci_at (i := 0) rfl) rfl (x_eq _ (show _ = c_in a [some (k_o 14 [vR (some (a + 1)), vR (some (a + 6)), vR (some (a + 10)), vR (some (a + 11)), vR none, vR none, vR none, vR none, vI 0, vI 0, vI 0, vI 0, vI 0]), some (k_o 11 [vR (some (a + 2)), vR (some (a + 3)), vR (some (a + 4)), vR (some (a + 5)), vI 0, vR none, vI 0]), some (k_l [] 0), some (k_l [] 0), some (k_l [] 0), some (k_o 3 [vI 0, vI 0, vI 0]), some (k_o 9 [vR (some (a + 7))]), some (k_l [a + 8] 10), some (k_o 8 [vJ 0, vI 0, vI 0]), none, some (k_o 3 [vI 0, vI 0, vI 0]), some (k_l [] 0)] (0 + 7 + 12 + 1 + 16 + 3 + 3) h from ci_up (i := 0) (by simp)) rfl ?_)
  refine bX11_init_48 ?_
  rw [ad0, ci_nw]
  refine bX11_init_52 (c_init ok (wf0 _ _ (by simp)) (by simp; omega) (ci_at (i := 12) rfl)) ?_
  rintro h1 hh
  rw [hh]
  refine x_eq _ (show _ = c_in a [some (k_o 14 [vR (some (a + 1)), vR (some (a + 6)), vR (some (a + 10)), vR (some (a + 11)), vR none, vR none, vR none, vR none, vI 0, vI 0, vI 0, vI 0, vI 0]), some (k_o 11 [vR (some (a + 2)), vR (some (a + 3)), vR (some (a + 4)), vR (some (a + 5)), vI 0, vR none, vI 0]), some (k_l [] 0), some (k_l [] 0), some (k_l [] 0), some (k_o 3 [vI 0, vI 0, vI 0]), some (k_o 9 [vR (some (a + 7))]), some (k_l [a + 8] 10), some (k_o 8 [vJ 0, vI 0, vI 0]), none, some (k_o 3 [vI 0, vI 0, vI 0]), some (k_l [] 0), some (k_l [] 0)] (0 + 7 + 12 + 1 + 16 + 3 + 3 + 3) h from ci_up (i := 12) (by simp)) rfl ?_
  refine bX11_init_56 (ci_at (i := 0) rfl) rfl (x_eq _ (show _ = c_in a [some (k_o 14 [vR (some (a + 1)), vR (some (a + 6)), vR (some (a + 10)), vR (some (a + 11)), vR (some (a + 12)), vR none, vR none, vR none, vI 0, vI 0, vI 0, vI 0, vI 0]), some (k_o 11 [vR (some (a + 2)), vR (some (a + 3)), vR (some (a + 4)), vR (some (a + 5)), vI 0, vR none, vI 0]), some (k_l [] 0), some (k_l [] 0), some (k_l [] 0), some (k_o 3 [vI 0, vI 0, vI 0]), some (k_o 9 [vR (some (a + 7))]), some (k_l [a + 8] 10), some (k_o 8 [vJ 0, vI 0, vI 0]), none, some (k_o 3 [vI 0, vI 0, vI 0]), some (k_l [] 0), some (k_l [] 0)] (0 + 7 + 12 + 1 + 16 + 3 + 3 + 3) h from ci_up (i := 0) (by simp)) rfl ?_)
  refine bX11_init_59 ?_
  rw [ad0, ci_nw]
  refine bX11_init_63 (c_init ok (wf0 _ _ (by simp)) (by simp; omega) (ci_at (i := 13) rfl)) ?_
  rintro h1 hh
  rw [hh]
  refine x_eq _ (show _ = c_in a [some (k_o 14 [vR (some (a + 1)), vR (some (a + 6)), vR (some (a + 10)), vR (some (a + 11)), vR (some (a + 12)), vR none, vR none, vR none, vI 0, vI 0, vI 0, vI 0, vI 0]), some (k_o 11 [vR (some (a + 2)), vR (some (a + 3)), vR (some (a + 4)), vR (some (a + 5)), vI 0, vR none, vI 0]), some (k_l [] 0), some (k_l [] 0), some (k_l [] 0), some (k_o 3 [vI 0, vI 0, vI 0]), some (k_o 9 [vR (some (a + 7))]), some (k_l [a + 8] 10), some (k_o 8 [vJ 0, vI 0, vI 0]), none, some (k_o 3 [vI 0, vI 0, vI 0]), some (k_l [] 0), some (k_l [] 0), some (k_l [] 0)] (0 + 7 + 12 + 1 + 16 + 3 + 3 + 3 + 3) h from ci_up (i := 13) (by simp)) rfl ?_
  refine bX11_init_67 (ci_at (i := 0) rfl) rfl (x_eq _ (show _ = c_in a [some (k_o 14 [vR (some (a + 1)), vR (some (a + 6)), vR (some (a + 10)), vR (some (a + 11)), vR (some (a + 12)), vR (some (a + 13)), vR none, vR none, vI 0, vI 0, vI 0, vI 0, vI 0]), some (k_o 11 [vR (some (a + 2)), vR (some (a + 3)), vR (some (a + 4)), vR (some (a + 5)), vI 0, vR none, vI 0]), some (k_l [] 0), some (k_l [] 0), some (k_l [] 0), some (k_o 3 [vI 0, vI 0, vI 0]), some (k_o 9 [vR (some (a + 7))]), some (k_l [a + 8] 10), some (k_o 8 [vJ 0, vI 0, vI 0]), none, some (k_o 3 [vI 0, vI 0, vI 0]), some (k_l [] 0), some (k_l [] 0), some (k_l [] 0)] (0 + 7 + 12 + 1 + 16 + 3 + 3 + 3 + 3) h from ci_up (i := 0) (by simp)) rfl ?_)
  refine bX11_init_70 ?_
  rw [ad0, ci_nw]
  refine bX11_init_74 (c_init ok (wf0 _ _ (by simp)) (by simp; omega) (ci_at (i := 14) rfl)) ?_
  rintro h1 hh
  rw [hh]
  refine x_eq _ (show _ = c_in a [some (k_o 14 [vR (some (a + 1)), vR (some (a + 6)), vR (some (a + 10)), vR (some (a + 11)), vR (some (a + 12)), vR (some (a + 13)), vR none, vR none, vI 0, vI 0, vI 0, vI 0, vI 0]), some (k_o 11 [vR (some (a + 2)), vR (some (a + 3)), vR (some (a + 4)), vR (some (a + 5)), vI 0, vR none, vI 0]), some (k_l [] 0), some (k_l [] 0), some (k_l [] 0), some (k_o 3 [vI 0, vI 0, vI 0]), some (k_o 9 [vR (some (a + 7))]), some (k_l [a + 8] 10), some (k_o 8 [vJ 0, vI 0, vI 0]), none, some (k_o 3 [vI 0, vI 0, vI 0]), some (k_l [] 0), some (k_l [] 0), some (k_l [] 0), some (k_l [] 0)] (0 + 7 + 12 + 1 + 16 + 3 + 3 + 3 + 3 + 3) h from ci_up (i := 14) (by simp)) rfl ?_
  refine bX11_init_78 (ci_at (i := 0) rfl) rfl (x_eq _ (show _ = c_in a [some (k_o 14 [vR (some (a + 1)), vR (some (a + 6)), vR (some (a + 10)), vR (some (a + 11)), vR (some (a + 12)), vR (some (a + 13)), vR (some (a + 14)), vR none, vI 0, vI 0, vI 0, vI 0, vI 0]), some (k_o 11 [vR (some (a + 2)), vR (some (a + 3)), vR (some (a + 4)), vR (some (a + 5)), vI 0, vR none, vI 0]), some (k_l [] 0), some (k_l [] 0), some (k_l [] 0), some (k_o 3 [vI 0, vI 0, vI 0]), some (k_o 9 [vR (some (a + 7))]), some (k_l [a + 8] 10), some (k_o 8 [vJ 0, vI 0, vI 0]), none, some (k_o 3 [vI 0, vI 0, vI 0]), some (k_l [] 0), some (k_l [] 0), some (k_l [] 0), some (k_l [] 0)] (0 + 7 + 12 + 1 + 16 + 3 + 3 + 3 + 3 + 3) h from ci_up (i := 0) (by simp)) rfl ?_)
  refine bX11_init_81 ?_
  rw [ad0, ci_nw]
  refine bX11_init_86 (ci_at (i := 0) rfl) rfl (x_eq _ (show _ = c_in a [some (k_o 14 [vR (some (a + 1)), vR (some (a + 6)), vR (some (a + 10)), vR (some (a + 11)), vR (some (a + 12)), vR (some (a + 13)), vR (some (a + 14)), vR (some (a + 15)), vI 0, vI 0, vI 0, vI 0, vI 0]), some (k_o 11 [vR (some (a + 2)), vR (some (a + 3)), vR (some (a + 4)), vR (some (a + 5)), vI 0, vR none, vI 0]), some (k_l [] 0), some (k_l [] 0), some (k_l [] 0), some (k_o 3 [vI 0, vI 0, vI 0]), some (k_o 9 [vR (some (a + 7))]), some (k_l [a + 8] 10), some (k_o 8 [vJ 0, vI 0, vI 0]), none, some (k_o 3 [vI 0, vI 0, vI 0]), some (k_l [] 0), some (k_l [] 0), some (k_l [] 0), some (k_l [] 0), some (k_i 10 (fun _ => 0))] (0 + 7 + 12 + 1 + 16 + 3 + 3 + 3 + 3 + 3 + 10) h from ci_up (i := 0) (by simp)) rfl ?_)
  refine bX11_init_89 (ci_at (i := 0) rfl) rfl (x_eq _ (show _ = c_in a [some (k_o 14 [vR (some (a + 1)), vR (some (a + 6)), vR (some (a + 10)), vR (some (a + 11)), vR (some (a + 12)), vR (some (a + 13)), vR (some (a + 14)), vR (some (a + 15)), vI 0, vI 0, vI 0, vI 0, vI 0]), some (k_o 11 [vR (some (a + 2)), vR (some (a + 3)), vR (some (a + 4)), vR (some (a + 5)), vI 0, vR none, vI 0]), some (k_l [] 0), some (k_l [] 0), some (k_l [] 0), some (k_o 3 [vI 0, vI 0, vI 0]), some (k_o 9 [vR (some (a + 7))]), some (k_l [a + 8] 10), some (k_o 8 [vJ 0, vI 0, vI 0]), none, some (k_o 3 [vI 0, vI 0, vI 0]), some (k_l [] 0), some (k_l [] 0), some (k_l [] 0), some (k_l [] 0), some (k_i 10 (fun _ => 0))] (0 + 7 + 12 + 1 + 16 + 3 + 3 + 3 + 3 + 3 + 10) h from ci_up (i := 0) (by simp)) rfl ?_)
  refine bX11_init_94 (ci_at (i := 0) rfl) rfl (x_eq _ (show _ = c_in a [some (k_o 14 [vR (some (a + 1)), vR (some (a + 6)), vR (some (a + 10)), vR (some (a + 11)), vR (some (a + 12)), vR (some (a + 13)), vR (some (a + 14)), vR (some (a + 15)), vI 0, vI 0, vI 0, vI 0, vI 0]), some (k_o 11 [vR (some (a + 2)), vR (some (a + 3)), vR (some (a + 4)), vR (some (a + 5)), vI 0, vR none, vI 0]), some (k_l [] 0), some (k_l [] 0), some (k_l [] 0), some (k_o 3 [vI 0, vI 0, vI 0]), some (k_o 9 [vR (some (a + 7))]), some (k_l [a + 8] 10), some (k_o 8 [vJ 0, vI 0, vI 0]), none, some (k_o 3 [vI 0, vI 0, vI 0]), some (k_l [] 0), some (k_l [] 0), some (k_l [] 0), some (k_l [] 0), some (k_i 10 (fun _ => 0))] (0 + 7 + 12 + 1 + 16 + 3 + 3 + 3 + 3 + 3 + 10) h from ci_up (i := 0) (by simp)) rfl ?_)
  refine bX11_init_99 (ci_at (i := 0) rfl) rfl (x_eq _ (show _ = c_in a [some (k_o 14 [vR (some (a + 1)), vR (some (a + 6)), vR (some (a + 10)), vR (some (a + 11)), vR (some (a + 12)), vR (some (a + 13)), vR (some (a + 14)), vR (some (a + 15)), vI 0, vI 0, vI 0, vI 0, vI 0]), some (k_o 11 [vR (some (a + 2)), vR (some (a + 3)), vR (some (a + 4)), vR (some (a + 5)), vI 0, vR none, vI 0]), some (k_l [] 0), some (k_l [] 0), some (k_l [] 0), some (k_o 3 [vI 0, vI 0, vI 0]), some (k_o 9 [vR (some (a + 7))]), some (k_l [a + 8] 10), some (k_o 8 [vJ 0, vI 0, vI 0]), none, some (k_o 3 [vI 0, vI 0, vI 0]), some (k_l [] 0), some (k_l [] 0), some (k_l [] 0), some (k_l [] 0), some (k_i 10 (fun _ => 0))] (0 + 7 + 12 + 1 + 16 + 3 + 3 + 3 + 3 + 3 + 10) h from ci_up (i := 0) (by simp)) rfl ?_)
  refine bX11_init_104 (ci_at (i := 0) rfl) rfl (x_eq _ (show _ = c_in a [some (k_o 14 [vR (some (a + 1)), vR (some (a + 6)), vR (some (a + 10)), vR (some (a + 11)), vR (some (a + 12)), vR (some (a + 13)), vR (some (a + 14)), vR (some (a + 15)), vI 0, vI 0, vI 0, vI (-2147483648), vI 0]), some (k_o 11 [vR (some (a + 2)), vR (some (a + 3)), vR (some (a + 4)), vR (some (a + 5)), vI 0, vR none, vI 0]), some (k_l [] 0), some (k_l [] 0), some (k_l [] 0), some (k_o 3 [vI 0, vI 0, vI 0]), some (k_o 9 [vR (some (a + 7))]), some (k_l [a + 8] 10), some (k_o 8 [vJ 0, vI 0, vI 0]), none, some (k_o 3 [vI 0, vI 0, vI 0]), some (k_l [] 0), some (k_l [] 0), some (k_l [] 0), some (k_l [] 0), some (k_i 10 (fun _ => 0))] (0 + 7 + 12 + 1 + 16 + 3 + 3 + 3 + 3 + 3 + 10) h from ci_up (i := 0) (by simp)) rfl ?_)
  refine bX11_init_110 (ci_at (i := 0) rfl) rfl (x_eq _ (show _ = c_in a [some (k_o 14 [vR (some (a + 1)), vR (some (a + 6)), vR (some (a + 10)), vR (some (a + 11)), vR (some (a + 12)), vR (some (a + 13)), vR (some (a + 14)), vR (some (a + 15)), vI 0, vI 0, vI 0, vI (-2147483648), vI 0]), some (k_o 11 [vR (some (a + 2)), vR (some (a + 3)), vR (some (a + 4)), vR (some (a + 5)), vI 0, vR none, vI 0]), some (k_l [] 0), some (k_l [] 0), some (k_l [] 0), some (k_o 3 [vI 0, vI 0, vI 0]), some (k_o 9 [vR (some (a + 7))]), some (k_l [a + 8] 10), some (k_o 8 [vJ 0, vI 0, vI 0]), none, some (k_o 3 [vI 0, vI 0, vI 0]), some (k_l [] 0), some (k_l [] 0), some (k_l [] 0), some (k_l [] 0), some (k_i 10 (fun _ => 0))] (0 + 7 + 12 + 1 + 16 + 3 + 3 + 3 + 3 + 3 + 10) h from ci_up (i := 0) (by simp)) rfl ?_)
  refine bX11_init_115 ?_
  refine bX11_init_117 (fun c => absurd c (by decide)) (fun _ => bX11_init_122 (ci_at (i := 0) rfl) rfl ?_)
  rw [ad0, ci_nw]
  refine bX11_init_129 (c_X9_init (pre := [some (k_o 14 [vR (some (a + 1)), vR (some (a + 6)), vR (some (a + 10)), vR (some (a + 11)), vR (some (a + 12)), vR (some (a + 13)), vR (some (a + 14)), vR (some (a + 15)), vI 0, vI 0, vI 0, vI (-2147483648), vI 0]), some (k_o 11 [vR (some (a + 2)), vR (some (a + 3)), vR (some (a + 4)), vR (some (a + 5)), vI 0, vR none, vI 0]), some (k_l [] 0), some (k_l [] 0), some (k_l [] 0), some (k_o 3 [vI 0, vI 0, vI 0]), some (k_o 9 [vR (some (a + 7))]), some (k_l [a + 8] 10), some (k_o 8 [vJ 0, vI 0, vI 0]), none, some (k_o 3 [vI 0, vI 0, vI 0]), some (k_l [] 0), some (k_l [] 0), some (k_l [] 0), some (k_l [] 0), some (k_i 10 (fun _ => 0))]) ok wh (by omega) hz (by simp)) ?_
  rintro h1 hh
  rw [hh]
  refine x_eq _ (show _ = c_in a [some (k_o 14 [vR (some (a + 1)), vR (some (a + 6)), vR (some (a + 10)), vR (some (a + 11)), vR (some (a + 12)), vR (some (a + 13)), vR (some (a + 14)), vR (some (a + 15)), vI 0, vI 0, vI 0, vI (-2147483648), vI 0]), some (k_o 11 [vR (some (a + 2)), vR (some (a + 3)), vR (some (a + 4)), vR (some (a + 5)), vI 0, vR none, vI 0]), some (k_l [] 0), some (k_l [] 0), some (k_l [] 0), some (k_o 3 [vI 0, vI 0, vI 0]), some (k_o 9 [vR (some (a + 7))]), some (k_l [a + 8] 10), some (k_o 8 [vJ 0, vI 0, vI 0]), none, some (k_o 3 [vI 0, vI 0, vI 0]), some (k_l [] 0), some (k_l [] 0), some (k_l [] 0), some (k_l [] 0), some (k_i 10 (fun _ => 0)), some (k_o 12 [vR (some (a + 17)), vR (some (a + 18)), vI 0, vI 0, vI 0, vI 0, vI (-2147483648), vI 0]), some (k_l [] 0), some (k_l [] 0)] (0 + 7 + 12 + 1 + 16 + 3 + 3 + 3 + 3 + 3 + 10 + 8 + 6) h from rfl) rfl ?_
  have o11_0 : (c_in a [some (k_o 14 [vR (some (a + 1)), vR (some (a + 6)), vR (some (a + 10)), vR (some (a + 11)), vR (some (a + 12)), vR (some (a + 13)), vR (some (a + 14)), vR (some (a + 15)), vI 0, vI 0, vI 0, vI (-2147483648), vI 0]), some (k_o 11 [vR (some (a + 2)), vR (some (a + 3)), vR (some (a + 4)), vR (some (a + 5)), vI 0, vR none, vI 0]), some (k_l [] 0), some (k_l [] 0), some (k_l [] 0), some (k_o 3 [vI 0, vI 0, vI 0]), some (k_o 9 [vR (some (a + 7))]), some (k_l [a + 8] 10), some (k_o 8 [vJ 0, vI 0, vI 0]), none, some (k_o 3 [vI 0, vI 0, vI 0]), some (k_l [] 0), some (k_l [] 0), some (k_l [] 0), some (k_l [] 0), some (k_i 10 (fun _ => 0)), some (k_o 12 [vR (some (a + 17)), vR (some (a + 18)), vI 0, vI 0, vI 0, vI 0, vI (-2147483648), vI 0]), some (k_l [] 0), some (k_l [] 0)] (0 + 7 + 12 + 1 + 16 + 3 + 3 + 3 + 3 + 3 + 10 + 8 + 6) h).1 (a + 11) = some (k_l [] 0) := ci_at (i := 11) rfl
  have el_0 : ∀ z ∈ [a + 16], k_el (c_in a [some (k_o 14 [vR (some (a + 1)), vR (some (a + 6)), vR (some (a + 10)), vR (some (a + 11)), vR (some (a + 12)), vR (some (a + 13)), vR (some (a + 14)), vR (some (a + 15)), vI 0, vI 0, vI 0, vI (-2147483648), vI 0]), some (k_o 11 [vR (some (a + 2)), vR (some (a + 3)), vR (some (a + 4)), vR (some (a + 5)), vI 0, vR none, vI 0]), some (k_l [] 0), some (k_l [] 0), some (k_l [] 0), some (k_o 3 [vI 0, vI 0, vI 0]), some (k_o 9 [vR (some (a + 7))]), some (k_l [a + 8] 10), some (k_o 8 [vJ 0, vI 0, vI 0]), none, some (k_o 3 [vI 0, vI 0, vI 0]), some (k_l [] 0), some (k_l [] 0), some (k_l [] 0), some (k_l [] 0), some (k_i 10 (fun _ => 0)), some (k_o 12 [vR (some (a + 17)), vR (some (a + 18)), vI 0, vI 0, vI 0, vI 0, vI (-2147483648), vI 0]), some (k_l [] 0), some (k_l [] 0)] (0 + 7 + 12 + 1 + 16 + 3 + 3 + 3 + 3 + 3 + 10 + 8 + 6) h) z := fun z hz => by
    simp only [List.mem_cons, List.not_mem_nil, or_false] at hz
    rcases hz with rfl
    exact el_tra (ci_at (i := 16) rfl)
  refine bX11_init_133 (Or.inr ⟨rfl, _, _, o11_0⟩) (c_add ok (wf0 _ _ (by simp)) o11_0 (by simp) (fun z hz => el_0 z (by simp at hz ⊢; done)) (el_0 _ (by simp))) ?_
  rintro h1 _ ⟨hh, -⟩
  rw [hh]
  have g_0 : k_gr (c_in a [some (k_o 14 [vR (some (a + 1)), vR (some (a + 6)), vR (some (a + 10)), vR (some (a + 11)), vR (some (a + 12)), vR (some (a + 13)), vR (some (a + 14)), vR (some (a + 15)), vI 0, vI 0, vI 0, vI (-2147483648), vI 0]), some (k_o 11 [vR (some (a + 2)), vR (some (a + 3)), vR (some (a + 4)), vR (some (a + 5)), vI 0, vR none, vI 0]), some (k_l [] 0), some (k_l [] 0), some (k_l [] 0), some (k_o 3 [vI 0, vI 0, vI 0]), some (k_o 9 [vR (some (a + 7))]), some (k_l [a + 8] 10), some (k_o 8 [vJ 0, vI 0, vI 0]), none, some (k_o 3 [vI 0, vI 0, vI 0]), some (k_l [] 0), some (k_l [] 0), some (k_l [] 0), some (k_l [] 0), some (k_i 10 (fun _ => 0)), some (k_o 12 [vR (some (a + 17)), vR (some (a + 18)), vI 0, vI 0, vI 0, vI 0, vI (-2147483648), vI 0]), some (k_l [] 0), some (k_l [] 0)] (0 + 7 + 12 + 1 + 16 + 3 + 3 + 3 + 3 + 3 + 10 + 8 + 6) h) (a + 11) ([] ++ [a + 16]) ([] : List Nat).length 0 = c_in a [some (k_o 14 [vR (some (a + 1)), vR (some (a + 6)), vR (some (a + 10)), vR (some (a + 11)), vR (some (a + 12)), vR (some (a + 13)), vR (some (a + 14)), vR (some (a + 15)), vI 0, vI 0, vI 0, vI (-2147483648), vI 0]), some (k_o 11 [vR (some (a + 2)), vR (some (a + 3)), vR (some (a + 4)), vR (some (a + 5)), vI 0, vR none, vI 0]), some (k_l [] 0), some (k_l [] 0), some (k_l [] 0), some (k_o 3 [vI 0, vI 0, vI 0]), some (k_o 9 [vR (some (a + 7))]), some (k_l [a + 8] 10), some (k_o 8 [vJ 0, vI 0, vI 0]), none, some (k_o 3 [vI 0, vI 0, vI 0]), some (k_l [a + 16] 10), some (k_l [] 0), some (k_l [] 0), some (k_l [] 0), some (k_i 10 (fun _ => 0)), some (k_o 12 [vR (some (a + 17)), vR (some (a + 18)), vI 0, vI 0, vI 0, vI 0, vI (-2147483648), vI 0]), some (k_l [] 0), some (k_l [] 0), none] (0 + 7 + 12 + 1 + 16 + 3 + 3 + 3 + 3 + 3 + 10 + 8 + 6 + 10) h := by
    have e1 : k_up (c_in a [some (k_o 14 [vR (some (a + 1)), vR (some (a + 6)), vR (some (a + 10)), vR (some (a + 11)), vR (some (a + 12)), vR (some (a + 13)), vR (some (a + 14)), vR (some (a + 15)), vI 0, vI 0, vI 0, vI (-2147483648), vI 0]), some (k_o 11 [vR (some (a + 2)), vR (some (a + 3)), vR (some (a + 4)), vR (some (a + 5)), vI 0, vR none, vI 0]), some (k_l [] 0), some (k_l [] 0), some (k_l [] 0), some (k_o 3 [vI 0, vI 0, vI 0]), some (k_o 9 [vR (some (a + 7))]), some (k_l [a + 8] 10), some (k_o 8 [vJ 0, vI 0, vI 0]), none, some (k_o 3 [vI 0, vI 0, vI 0]), some (k_l [] 0), some (k_l [] 0), some (k_l [] 0), some (k_l [] 0), some (k_i 10 (fun _ => 0)), some (k_o 12 [vR (some (a + 17)), vR (some (a + 18)), vI 0, vI 0, vI 0, vI 0, vI (-2147483648), vI 0]), some (k_l [] 0), some (k_l [] 0)] (0 + 7 + 12 + 1 + 16 + 3 + 3 + 3 + 3 + 3 + 10 + 8 + 6) h) (a + 11) (k_l ([] ++ [a + 16]) (k_nc 0)) = c_in a [some (k_o 14 [vR (some (a + 1)), vR (some (a + 6)), vR (some (a + 10)), vR (some (a + 11)), vR (some (a + 12)), vR (some (a + 13)), vR (some (a + 14)), vR (some (a + 15)), vI 0, vI 0, vI 0, vI (-2147483648), vI 0]), some (k_o 11 [vR (some (a + 2)), vR (some (a + 3)), vR (some (a + 4)), vR (some (a + 5)), vI 0, vR none, vI 0]), some (k_l [] 0), some (k_l [] 0), some (k_l [] 0), some (k_o 3 [vI 0, vI 0, vI 0]), some (k_o 9 [vR (some (a + 7))]), some (k_l [a + 8] 10), some (k_o 8 [vJ 0, vI 0, vI 0]), none, some (k_o 3 [vI 0, vI 0, vI 0]), some (k_l [a + 16] 10), some (k_l [] 0), some (k_l [] 0), some (k_l [] 0), some (k_i 10 (fun _ => 0)), some (k_o 12 [vR (some (a + 17)), vR (some (a + 18)), vI 0, vI 0, vI 0, vI 0, vI (-2147483648), vI 0]), some (k_l [] 0), some (k_l [] 0)] (0 + 7 + 12 + 1 + 16 + 3 + 3 + 3 + 3 + 3 + 10 + 8 + 6) h := ci_up (i := 11) (by simp)
    unfold k_gr
    rw [if_neg (by simp), e1]
    exact ci_sk (nh 18)
  refine x_eq _ g_0 rfl (bX11_init_136 ?_)
  rw [show (0 + 1 : Int32) = 1 from by decide]
  refine bX11_init_117 (fun c => absurd c (by decide)) (fun _ => bX11_init_122 (ci_at (i := 0) rfl) rfl ?_)
  rw [ad0, ci_nw]
  refine bX11_init_129 (c_X9_init (pre := [some (k_o 14 [vR (some (a + 1)), vR (some (a + 6)), vR (some (a + 10)), vR (some (a + 11)), vR (some (a + 12)), vR (some (a + 13)), vR (some (a + 14)), vR (some (a + 15)), vI 0, vI 0, vI 0, vI (-2147483648), vI 0]), some (k_o 11 [vR (some (a + 2)), vR (some (a + 3)), vR (some (a + 4)), vR (some (a + 5)), vI 0, vR none, vI 0]), some (k_l [] 0), some (k_l [] 0), some (k_l [] 0), some (k_o 3 [vI 0, vI 0, vI 0]), some (k_o 9 [vR (some (a + 7))]), some (k_l [a + 8] 10), some (k_o 8 [vJ 0, vI 0, vI 0]), none, some (k_o 3 [vI 0, vI 0, vI 0]), some (k_l [a + 16] 10), some (k_l [] 0), some (k_l [] 0), some (k_l [] 0), some (k_i 10 (fun _ => 0)), some (k_o 12 [vR (some (a + 17)), vR (some (a + 18)), vI 0, vI 0, vI 0, vI 0, vI (-2147483648), vI 0]), some (k_l [] 0), some (k_l [] 0), none]) ok wh (by omega) hz (by simp)) ?_
  rintro h1 hh
  rw [hh]
  refine x_eq _ (show _ = c_in a [some (k_o 14 [vR (some (a + 1)), vR (some (a + 6)), vR (some (a + 10)), vR (some (a + 11)), vR (some (a + 12)), vR (some (a + 13)), vR (some (a + 14)), vR (some (a + 15)), vI 0, vI 0, vI 0, vI (-2147483648), vI 0]), some (k_o 11 [vR (some (a + 2)), vR (some (a + 3)), vR (some (a + 4)), vR (some (a + 5)), vI 0, vR none, vI 0]), some (k_l [] 0), some (k_l [] 0), some (k_l [] 0), some (k_o 3 [vI 0, vI 0, vI 0]), some (k_o 9 [vR (some (a + 7))]), some (k_l [a + 8] 10), some (k_o 8 [vJ 0, vI 0, vI 0]), none, some (k_o 3 [vI 0, vI 0, vI 0]), some (k_l [a + 16] 10), some (k_l [] 0), some (k_l [] 0), some (k_l [] 0), some (k_i 10 (fun _ => 0)), some (k_o 12 [vR (some (a + 17)), vR (some (a + 18)), vI 0, vI 0, vI 0, vI 0, vI (-2147483648), vI 0]), some (k_l [] 0), some (k_l [] 0), none, some (k_o 12 [vR (some (a + 21)), vR (some (a + 22)), vI 0, vI 0, vI 0, vI 0, vI (-2147483648), vI 0]), some (k_l [] 0), some (k_l [] 0)] (0 + 7 + 12 + 1 + 16 + 3 + 3 + 3 + 3 + 3 + 10 + 8 + 6 + 10 + 8 + 6) h from rfl) rfl ?_
  have o11_1 : (c_in a [some (k_o 14 [vR (some (a + 1)), vR (some (a + 6)), vR (some (a + 10)), vR (some (a + 11)), vR (some (a + 12)), vR (some (a + 13)), vR (some (a + 14)), vR (some (a + 15)), vI 0, vI 0, vI 0, vI (-2147483648), vI 0]), some (k_o 11 [vR (some (a + 2)), vR (some (a + 3)), vR (some (a + 4)), vR (some (a + 5)), vI 0, vR none, vI 0]), some (k_l [] 0), some (k_l [] 0), some (k_l [] 0), some (k_o 3 [vI 0, vI 0, vI 0]), some (k_o 9 [vR (some (a + 7))]), some (k_l [a + 8] 10), some (k_o 8 [vJ 0, vI 0, vI 0]), none, some (k_o 3 [vI 0, vI 0, vI 0]), some (k_l [a + 16] 10), some (k_l [] 0), some (k_l [] 0), some (k_l [] 0), some (k_i 10 (fun _ => 0)), some (k_o 12 [vR (some (a + 17)), vR (some (a + 18)), vI 0, vI 0, vI 0, vI 0, vI (-2147483648), vI 0]), some (k_l [] 0), some (k_l [] 0), none, some (k_o 12 [vR (some (a + 21)), vR (some (a + 22)), vI 0, vI 0, vI 0, vI 0, vI (-2147483648), vI 0]), some (k_l [] 0), some (k_l [] 0)] (0 + 7 + 12 + 1 + 16 + 3 + 3 + 3 + 3 + 3 + 10 + 8 + 6 + 10 + 8 + 6) h).1 (a + 11) = some (k_l [a + 16] 10) := ci_at (i := 11) rfl
  have el_1 : ∀ z ∈ [a + 16, a + 20], k_el (c_in a [some (k_o 14 [vR (some (a + 1)), vR (some (a + 6)), vR (some (a + 10)), vR (some (a + 11)), vR (some (a + 12)), vR (some (a + 13)), vR (some (a + 14)), vR (some (a + 15)), vI 0, vI 0, vI 0, vI (-2147483648), vI 0]), some (k_o 11 [vR (some (a + 2)), vR (some (a + 3)), vR (some (a + 4)), vR (some (a + 5)), vI 0, vR none, vI 0]), some (k_l [] 0), some (k_l [] 0), some (k_l [] 0), some (k_o 3 [vI 0, vI 0, vI 0]), some (k_o 9 [vR (some (a + 7))]), some (k_l [a + 8] 10), some (k_o 8 [vJ 0, vI 0, vI 0]), none, some (k_o 3 [vI 0, vI 0, vI 0]), some (k_l [a + 16] 10), some (k_l [] 0), some (k_l [] 0), some (k_l [] 0), some (k_i 10 (fun _ => 0)), some (k_o 12 [vR (some (a + 17)), vR (some (a + 18)), vI 0, vI 0, vI 0, vI 0, vI (-2147483648), vI 0]), some (k_l [] 0), some (k_l [] 0), none, some (k_o 12 [vR (some (a + 21)), vR (some (a + 22)), vI 0, vI 0, vI 0, vI 0, vI (-2147483648), vI 0]), some (k_l [] 0), some (k_l [] 0)] (0 + 7 + 12 + 1 + 16 + 3 + 3 + 3 + 3 + 3 + 10 + 8 + 6 + 10 + 8 + 6) h) z := fun z hz => by
    simp only [List.mem_cons, List.not_mem_nil, or_false] at hz
    rcases hz with rfl | rfl
    · exact el_tra (ci_at (i := 16) rfl)
    · exact el_tra (ci_at (i := 20) rfl)
  refine bX11_init_133 (Or.inr ⟨rfl, _, _, o11_1⟩) (c_add ok (wf0 _ _ (by simp)) o11_1 (by simp) (fun z hz => el_1 z (by simp at hz ⊢; exact Or.inl hz)) (el_1 _ (by simp))) ?_
  rintro h1 _ ⟨hh, -⟩
  rw [hh]
  have g_1 : k_gr (c_in a [some (k_o 14 [vR (some (a + 1)), vR (some (a + 6)), vR (some (a + 10)), vR (some (a + 11)), vR (some (a + 12)), vR (some (a + 13)), vR (some (a + 14)), vR (some (a + 15)), vI 0, vI 0, vI 0, vI (-2147483648), vI 0]), some (k_o 11 [vR (some (a + 2)), vR (some (a + 3)), vR (some (a + 4)), vR (some (a + 5)), vI 0, vR none, vI 0]), some (k_l [] 0), some (k_l [] 0), some (k_l [] 0), some (k_o 3 [vI 0, vI 0, vI 0]), some (k_o 9 [vR (some (a + 7))]), some (k_l [a + 8] 10), some (k_o 8 [vJ 0, vI 0, vI 0]), none, some (k_o 3 [vI 0, vI 0, vI 0]), some (k_l [a + 16] 10), some (k_l [] 0), some (k_l [] 0), some (k_l [] 0), some (k_i 10 (fun _ => 0)), some (k_o 12 [vR (some (a + 17)), vR (some (a + 18)), vI 0, vI 0, vI 0, vI 0, vI (-2147483648), vI 0]), some (k_l [] 0), some (k_l [] 0), none, some (k_o 12 [vR (some (a + 21)), vR (some (a + 22)), vI 0, vI 0, vI 0, vI 0, vI (-2147483648), vI 0]), some (k_l [] 0), some (k_l [] 0)] (0 + 7 + 12 + 1 + 16 + 3 + 3 + 3 + 3 + 3 + 10 + 8 + 6 + 10 + 8 + 6) h) (a + 11) ([a + 16] ++ [a + 20]) [a + 16].length 10 = c_in a [some (k_o 14 [vR (some (a + 1)), vR (some (a + 6)), vR (some (a + 10)), vR (some (a + 11)), vR (some (a + 12)), vR (some (a + 13)), vR (some (a + 14)), vR (some (a + 15)), vI 0, vI 0, vI 0, vI (-2147483648), vI 0]), some (k_o 11 [vR (some (a + 2)), vR (some (a + 3)), vR (some (a + 4)), vR (some (a + 5)), vI 0, vR none, vI 0]), some (k_l [] 0), some (k_l [] 0), some (k_l [] 0), some (k_o 3 [vI 0, vI 0, vI 0]), some (k_o 9 [vR (some (a + 7))]), some (k_l [a + 8] 10), some (k_o 8 [vJ 0, vI 0, vI 0]), none, some (k_o 3 [vI 0, vI 0, vI 0]), some (k_l [a + 16, a + 20] 10), some (k_l [] 0), some (k_l [] 0), some (k_l [] 0), some (k_i 10 (fun _ => 0)), some (k_o 12 [vR (some (a + 17)), vR (some (a + 18)), vI 0, vI 0, vI 0, vI 0, vI (-2147483648), vI 0]), some (k_l [] 0), some (k_l [] 0), none, some (k_o 12 [vR (some (a + 21)), vR (some (a + 22)), vI 0, vI 0, vI 0, vI 0, vI (-2147483648), vI 0]), some (k_l [] 0), some (k_l [] 0)] (0 + 7 + 12 + 1 + 16 + 3 + 3 + 3 + 3 + 3 + 10 + 8 + 6 + 10 + 8 + 6) h := by
    unfold k_gr
    rw [if_pos (by simp)]
    exact ci_up (i := 11) (by simp)
  refine x_eq _ g_1 rfl (bX11_init_136 ?_)
  rw [show (1 + 1 : Int32) = 2 from by decide]
  refine bX11_init_117 (fun c => absurd c (by decide)) (fun _ => bX11_init_122 (ci_at (i := 0) rfl) rfl ?_)
  rw [ad0, ci_nw]
  refine bX11_init_129 (c_X9_init (pre := [some (k_o 14 [vR (some (a + 1)), vR (some (a + 6)), vR (some (a + 10)), vR (some (a + 11)), vR (some (a + 12)), vR (some (a + 13)), vR (some (a + 14)), vR (some (a + 15)), vI 0, vI 0, vI 0, vI (-2147483648), vI 0]), some (k_o 11 [vR (some (a + 2)), vR (some (a + 3)), vR (some (a + 4)), vR (some (a + 5)), vI 0, vR none, vI 0]), some (k_l [] 0), some (k_l [] 0), some (k_l [] 0), some (k_o 3 [vI 0, vI 0, vI 0]), some (k_o 9 [vR (some (a + 7))]), some (k_l [a + 8] 10), some (k_o 8 [vJ 0, vI 0, vI 0]), none, some (k_o 3 [vI 0, vI 0, vI 0]), some (k_l [a + 16, a + 20] 10), some (k_l [] 0), some (k_l [] 0), some (k_l [] 0), some (k_i 10 (fun _ => 0)), some (k_o 12 [vR (some (a + 17)), vR (some (a + 18)), vI 0, vI 0, vI 0, vI 0, vI (-2147483648), vI 0]), some (k_l [] 0), some (k_l [] 0), none, some (k_o 12 [vR (some (a + 21)), vR (some (a + 22)), vI 0, vI 0, vI 0, vI 0, vI (-2147483648), vI 0]), some (k_l [] 0), some (k_l [] 0)]) ok wh (by omega) hz (by simp)) ?_
  rintro h1 hh
  rw [hh]
  refine x_eq _ (show _ = c_in a [some (k_o 14 [vR (some (a + 1)), vR (some (a + 6)), vR (some (a + 10)), vR (some (a + 11)), vR (some (a + 12)), vR (some (a + 13)), vR (some (a + 14)), vR (some (a + 15)), vI 0, vI 0, vI 0, vI (-2147483648), vI 0]), some (k_o 11 [vR (some (a + 2)), vR (some (a + 3)), vR (some (a + 4)), vR (some (a + 5)), vI 0, vR none, vI 0]), some (k_l [] 0), some (k_l [] 0), some (k_l [] 0), some (k_o 3 [vI 0, vI 0, vI 0]), some (k_o 9 [vR (some (a + 7))]), some (k_l [a + 8] 10), some (k_o 8 [vJ 0, vI 0, vI 0]), none, some (k_o 3 [vI 0, vI 0, vI 0]), some (k_l [a + 16, a + 20] 10), some (k_l [] 0), some (k_l [] 0), some (k_l [] 0), some (k_i 10 (fun _ => 0)), some (k_o 12 [vR (some (a + 17)), vR (some (a + 18)), vI 0, vI 0, vI 0, vI 0, vI (-2147483648), vI 0]), some (k_l [] 0), some (k_l [] 0), none, some (k_o 12 [vR (some (a + 21)), vR (some (a + 22)), vI 0, vI 0, vI 0, vI 0, vI (-2147483648), vI 0]), some (k_l [] 0), some (k_l [] 0), some (k_o 12 [vR (some (a + 24)), vR (some (a + 25)), vI 0, vI 0, vI 0, vI 0, vI (-2147483648), vI 0]), some (k_l [] 0), some (k_l [] 0)] (0 + 7 + 12 + 1 + 16 + 3 + 3 + 3 + 3 + 3 + 10 + 8 + 6 + 10 + 8 + 6 + 8 + 6) h from rfl) rfl ?_
  have o11_2 : (c_in a [some (k_o 14 [vR (some (a + 1)), vR (some (a + 6)), vR (some (a + 10)), vR (some (a + 11)), vR (some (a + 12)), vR (some (a + 13)), vR (some (a + 14)), vR (some (a + 15)), vI 0, vI 0, vI 0, vI (-2147483648), vI 0]), some (k_o 11 [vR (some (a + 2)), vR (some (a + 3)), vR (some (a + 4)), vR (some (a + 5)), vI 0, vR none, vI 0]), some (k_l [] 0), some (k_l [] 0), some (k_l [] 0), some (k_o 3 [vI 0, vI 0, vI 0]), some (k_o 9 [vR (some (a + 7))]), some (k_l [a + 8] 10), some (k_o 8 [vJ 0, vI 0, vI 0]), none, some (k_o 3 [vI 0, vI 0, vI 0]), some (k_l [a + 16, a + 20] 10), some (k_l [] 0), some (k_l [] 0), some (k_l [] 0), some (k_i 10 (fun _ => 0)), some (k_o 12 [vR (some (a + 17)), vR (some (a + 18)), vI 0, vI 0, vI 0, vI 0, vI (-2147483648), vI 0]), some (k_l [] 0), some (k_l [] 0), none, some (k_o 12 [vR (some (a + 21)), vR (some (a + 22)), vI 0, vI 0, vI 0, vI 0, vI (-2147483648), vI 0]), some (k_l [] 0), some (k_l [] 0), some (k_o 12 [vR (some (a + 24)), vR (some (a + 25)), vI 0, vI 0, vI 0, vI 0, vI (-2147483648), vI 0]), some (k_l [] 0), some (k_l [] 0)] (0 + 7 + 12 + 1 + 16 + 3 + 3 + 3 + 3 + 3 + 10 + 8 + 6 + 10 + 8 + 6 + 8 + 6) h).1 (a + 11) = some (k_l [a + 16, a + 20] 10) := ci_at (i := 11) rfl
  have el_2 : ∀ z ∈ [a + 16, a + 20, a + 23], k_el (c_in a [some (k_o 14 [vR (some (a + 1)), vR (some (a + 6)), vR (some (a + 10)), vR (some (a + 11)), vR (some (a + 12)), vR (some (a + 13)), vR (some (a + 14)), vR (some (a + 15)), vI 0, vI 0, vI 0, vI (-2147483648), vI 0]), some (k_o 11 [vR (some (a + 2)), vR (some (a + 3)), vR (some (a + 4)), vR (some (a + 5)), vI 0, vR none, vI 0]), some (k_l [] 0), some (k_l [] 0), some (k_l [] 0), some (k_o 3 [vI 0, vI 0, vI 0]), some (k_o 9 [vR (some (a + 7))]), some (k_l [a + 8] 10), some (k_o 8 [vJ 0, vI 0, vI 0]), none, some (k_o 3 [vI 0, vI 0, vI 0]), some (k_l [a + 16, a + 20] 10), some (k_l [] 0), some (k_l [] 0), some (k_l [] 0), some (k_i 10 (fun _ => 0)), some (k_o 12 [vR (some (a + 17)), vR (some (a + 18)), vI 0, vI 0, vI 0, vI 0, vI (-2147483648), vI 0]), some (k_l [] 0), some (k_l [] 0), none, some (k_o 12 [vR (some (a + 21)), vR (some (a + 22)), vI 0, vI 0, vI 0, vI 0, vI (-2147483648), vI 0]), some (k_l [] 0), some (k_l [] 0), some (k_o 12 [vR (some (a + 24)), vR (some (a + 25)), vI 0, vI 0, vI 0, vI 0, vI (-2147483648), vI 0]), some (k_l [] 0), some (k_l [] 0)] (0 + 7 + 12 + 1 + 16 + 3 + 3 + 3 + 3 + 3 + 10 + 8 + 6 + 10 + 8 + 6 + 8 + 6) h) z := fun z hz => by
    simp only [List.mem_cons, List.not_mem_nil, or_false] at hz
    rcases hz with rfl | rfl | rfl
    · exact el_tra (ci_at (i := 16) rfl)
    · exact el_tra (ci_at (i := 20) rfl)
    · exact el_tra (ci_at (i := 23) rfl)
  refine bX11_init_133 (Or.inr ⟨rfl, _, _, o11_2⟩) (c_add ok (wf0 _ _ (by simp)) o11_2 (by simp) (fun z hz => el_2 z (by simp at hz ⊢; omega)) (el_2 _ (by simp))) ?_
  rintro h1 _ ⟨hh, -⟩
  rw [hh]
  have g_2 : k_gr (c_in a [some (k_o 14 [vR (some (a + 1)), vR (some (a + 6)), vR (some (a + 10)), vR (some (a + 11)), vR (some (a + 12)), vR (some (a + 13)), vR (some (a + 14)), vR (some (a + 15)), vI 0, vI 0, vI 0, vI (-2147483648), vI 0]), some (k_o 11 [vR (some (a + 2)), vR (some (a + 3)), vR (some (a + 4)), vR (some (a + 5)), vI 0, vR none, vI 0]), some (k_l [] 0), some (k_l [] 0), some (k_l [] 0), some (k_o 3 [vI 0, vI 0, vI 0]), some (k_o 9 [vR (some (a + 7))]), some (k_l [a + 8] 10), some (k_o 8 [vJ 0, vI 0, vI 0]), none, some (k_o 3 [vI 0, vI 0, vI 0]), some (k_l [a + 16, a + 20] 10), some (k_l [] 0), some (k_l [] 0), some (k_l [] 0), some (k_i 10 (fun _ => 0)), some (k_o 12 [vR (some (a + 17)), vR (some (a + 18)), vI 0, vI 0, vI 0, vI 0, vI (-2147483648), vI 0]), some (k_l [] 0), some (k_l [] 0), none, some (k_o 12 [vR (some (a + 21)), vR (some (a + 22)), vI 0, vI 0, vI 0, vI 0, vI (-2147483648), vI 0]), some (k_l [] 0), some (k_l [] 0), some (k_o 12 [vR (some (a + 24)), vR (some (a + 25)), vI 0, vI 0, vI 0, vI 0, vI (-2147483648), vI 0]), some (k_l [] 0), some (k_l [] 0)] (0 + 7 + 12 + 1 + 16 + 3 + 3 + 3 + 3 + 3 + 10 + 8 + 6 + 10 + 8 + 6 + 8 + 6) h) (a + 11) ([a + 16, a + 20] ++ [a + 23]) [a + 16, a + 20].length 10 = c_in a [some (k_o 14 [vR (some (a + 1)), vR (some (a + 6)), vR (some (a + 10)), vR (some (a + 11)), vR (some (a + 12)), vR (some (a + 13)), vR (some (a + 14)), vR (some (a + 15)), vI 0, vI 0, vI 0, vI (-2147483648), vI 0]), some (k_o 11 [vR (some (a + 2)), vR (some (a + 3)), vR (some (a + 4)), vR (some (a + 5)), vI 0, vR none, vI 0]), some (k_l [] 0), some (k_l [] 0), some (k_l [] 0), some (k_o 3 [vI 0, vI 0, vI 0]), some (k_o 9 [vR (some (a + 7))]), some (k_l [a + 8] 10), some (k_o 8 [vJ 0, vI 0, vI 0]), none, some (k_o 3 [vI 0, vI 0, vI 0]), some (k_l [a + 16, a + 20, a + 23] 10), some (k_l [] 0), some (k_l [] 0), some (k_l [] 0), some (k_i 10 (fun _ => 0)), some (k_o 12 [vR (some (a + 17)), vR (some (a + 18)), vI 0, vI 0, vI 0, vI 0, vI (-2147483648), vI 0]), some (k_l [] 0), some (k_l [] 0), none, some (k_o 12 [vR (some (a + 21)), vR (some (a + 22)), vI 0, vI 0, vI 0, vI 0, vI (-2147483648), vI 0]), some (k_l [] 0), some (k_l [] 0), some (k_o 12 [vR (some (a + 24)), vR (some (a + 25)), vI 0, vI 0, vI 0, vI 0, vI (-2147483648), vI 0]), some (k_l [] 0), some (k_l [] 0)] (0 + 7 + 12 + 1 + 16 + 3 + 3 + 3 + 3 + 3 + 10 + 8 + 6 + 10 + 8 + 6 + 8 + 6) h := by
    unfold k_gr
    rw [if_pos (by simp)]
    exact ci_up (i := 11) (by simp)
  refine x_eq _ g_2 rfl (bX11_init_136 ?_)
  rw [show (2 + 1 : Int32) = 3 from by decide]
  refine bX11_init_117 (fun c => absurd c (by decide)) (fun _ => bX11_init_122 (ci_at (i := 0) rfl) rfl ?_)
  rw [ad0, ci_nw]
  refine bX11_init_129 (c_X9_init (pre := [some (k_o 14 [vR (some (a + 1)), vR (some (a + 6)), vR (some (a + 10)), vR (some (a + 11)), vR (some (a + 12)), vR (some (a + 13)), vR (some (a + 14)), vR (some (a + 15)), vI 0, vI 0, vI 0, vI (-2147483648), vI 0]), some (k_o 11 [vR (some (a + 2)), vR (some (a + 3)), vR (some (a + 4)), vR (some (a + 5)), vI 0, vR none, vI 0]), some (k_l [] 0), some (k_l [] 0), some (k_l [] 0), some (k_o 3 [vI 0, vI 0, vI 0]), some (k_o 9 [vR (some (a + 7))]), some (k_l [a + 8] 10), some (k_o 8 [vJ 0, vI 0, vI 0]), none, some (k_o 3 [vI 0, vI 0, vI 0]), some (k_l [a + 16, a + 20, a + 23] 10), some (k_l [] 0), some (k_l [] 0), some (k_l [] 0), some (k_i 10 (fun _ => 0)), some (k_o 12 [vR (some (a + 17)), vR (some (a + 18)), vI 0, vI 0, vI 0, vI 0, vI (-2147483648), vI 0]), some (k_l [] 0), some (k_l [] 0), none, some (k_o 12 [vR (some (a + 21)), vR (some (a + 22)), vI 0, vI 0, vI 0, vI 0, vI (-2147483648), vI 0]), some (k_l [] 0), some (k_l [] 0), some (k_o 12 [vR (some (a + 24)), vR (some (a + 25)), vI 0, vI 0, vI 0, vI 0, vI (-2147483648), vI 0]), some (k_l [] 0), some (k_l [] 0)]) ok wh (by omega) hz (by simp)) ?_
  rintro h1 hh
  rw [hh]
  refine x_eq _ (show _ = c_in a [some (k_o 14 [vR (some (a + 1)), vR (some (a + 6)), vR (some (a + 10)), vR (some (a + 11)), vR (some (a + 12)), vR (some (a + 13)), vR (some (a + 14)), vR (some (a + 15)), vI 0, vI 0, vI 0, vI (-2147483648), vI 0]), some (k_o 11 [vR (some (a + 2)), vR (some (a + 3)), vR (some (a + 4)), vR (some (a + 5)), vI 0, vR none, vI 0]), some (k_l [] 0), some (k_l [] 0), some (k_l [] 0), some (k_o 3 [vI 0, vI 0, vI 0]), some (k_o 9 [vR (some (a + 7))]), some (k_l [a + 8] 10), some (k_o 8 [vJ 0, vI 0, vI 0]), none, some (k_o 3 [vI 0, vI 0, vI 0]), some (k_l [a + 16, a + 20, a + 23] 10), some (k_l [] 0), some (k_l [] 0), some (k_l [] 0), some (k_i 10 (fun _ => 0)), some (k_o 12 [vR (some (a + 17)), vR (some (a + 18)), vI 0, vI 0, vI 0, vI 0, vI (-2147483648), vI 0]), some (k_l [] 0), some (k_l [] 0), none, some (k_o 12 [vR (some (a + 21)), vR (some (a + 22)), vI 0, vI 0, vI 0, vI 0, vI (-2147483648), vI 0]), some (k_l [] 0), some (k_l [] 0), some (k_o 12 [vR (some (a + 24)), vR (some (a + 25)), vI 0, vI 0, vI 0, vI 0, vI (-2147483648), vI 0]), some (k_l [] 0), some (k_l [] 0), some (k_o 12 [vR (some (a + 27)), vR (some (a + 28)), vI 0, vI 0, vI 0, vI 0, vI (-2147483648), vI 0]), some (k_l [] 0), some (k_l [] 0)] (0 + 7 + 12 + 1 + 16 + 3 + 3 + 3 + 3 + 3 + 10 + 8 + 6 + 10 + 8 + 6 + 8 + 6 + 8 + 6) h from rfl) rfl ?_
  have o11_3 : (c_in a [some (k_o 14 [vR (some (a + 1)), vR (some (a + 6)), vR (some (a + 10)), vR (some (a + 11)), vR (some (a + 12)), vR (some (a + 13)), vR (some (a + 14)), vR (some (a + 15)), vI 0, vI 0, vI 0, vI (-2147483648), vI 0]), some (k_o 11 [vR (some (a + 2)), vR (some (a + 3)), vR (some (a + 4)), vR (some (a + 5)), vI 0, vR none, vI 0]), some (k_l [] 0), some (k_l [] 0), some (k_l [] 0), some (k_o 3 [vI 0, vI 0, vI 0]), some (k_o 9 [vR (some (a + 7))]), some (k_l [a + 8] 10), some (k_o 8 [vJ 0, vI 0, vI 0]), none, some (k_o 3 [vI 0, vI 0, vI 0]), some (k_l [a + 16, a + 20, a + 23] 10), some (k_l [] 0), some (k_l [] 0), some (k_l [] 0), some (k_i 10 (fun _ => 0)), some (k_o 12 [vR (some (a + 17)), vR (some (a + 18)), vI 0, vI 0, vI 0, vI 0, vI (-2147483648), vI 0]), some (k_l [] 0), some (k_l [] 0), none, some (k_o 12 [vR (some (a + 21)), vR (some (a + 22)), vI 0, vI 0, vI 0, vI 0, vI (-2147483648), vI 0]), some (k_l [] 0), some (k_l [] 0), some (k_o 12 [vR (some (a + 24)), vR (some (a + 25)), vI 0, vI 0, vI 0, vI 0, vI (-2147483648), vI 0]), some (k_l [] 0), some (k_l [] 0), some (k_o 12 [vR (some (a + 27)), vR (some (a + 28)), vI 0, vI 0, vI 0, vI 0, vI (-2147483648), vI 0]), some (k_l [] 0), some (k_l [] 0)] (0 + 7 + 12 + 1 + 16 + 3 + 3 + 3 + 3 + 3 + 10 + 8 + 6 + 10 + 8 + 6 + 8 + 6 + 8 + 6) h).1 (a + 11) = some (k_l [a + 16, a + 20, a + 23] 10) := ci_at (i := 11) rfl
  have el_3 : ∀ z ∈ [a + 16, a + 20, a + 23, a + 26], k_el (c_in a [some (k_o 14 [vR (some (a + 1)), vR (some (a + 6)), vR (some (a + 10)), vR (some (a + 11)), vR (some (a + 12)), vR (some (a + 13)), vR (some (a + 14)), vR (some (a + 15)), vI 0, vI 0, vI 0, vI (-2147483648), vI 0]), some (k_o 11 [vR (some (a + 2)), vR (some (a + 3)), vR (some (a + 4)), vR (some (a + 5)), vI 0, vR none, vI 0]), some (k_l [] 0), some (k_l [] 0), some (k_l [] 0), some (k_o 3 [vI 0, vI 0, vI 0]), some (k_o 9 [vR (some (a + 7))]), some (k_l [a + 8] 10), some (k_o 8 [vJ 0, vI 0, vI 0]), none, some (k_o 3 [vI 0, vI 0, vI 0]), some (k_l [a + 16, a + 20, a + 23] 10), some (k_l [] 0), some (k_l [] 0), some (k_l [] 0), some (k_i 10 (fun _ => 0)), some (k_o 12 [vR (some (a + 17)), vR (some (a + 18)), vI 0, vI 0, vI 0, vI 0, vI (-2147483648), vI 0]), some (k_l [] 0), some (k_l [] 0), none, some (k_o 12 [vR (some (a + 21)), vR (some (a + 22)), vI 0, vI 0, vI 0, vI 0, vI (-2147483648), vI 0]), some (k_l [] 0), some (k_l [] 0), some (k_o 12 [vR (some (a + 24)), vR (some (a + 25)), vI 0, vI 0, vI 0, vI 0, vI (-2147483648), vI 0]), some (k_l [] 0), some (k_l [] 0), some (k_o 12 [vR (some (a + 27)), vR (some (a + 28)), vI 0, vI 0, vI 0, vI 0, vI (-2147483648), vI 0]), some (k_l [] 0), some (k_l [] 0)] (0 + 7 + 12 + 1 + 16 + 3 + 3 + 3 + 3 + 3 + 10 + 8 + 6 + 10 + 8 + 6 + 8 + 6 + 8 + 6) h) z := fun z hz => by
    simp only [List.mem_cons, List.not_mem_nil, or_false] at hz
    rcases hz with rfl | rfl | rfl | rfl
    · exact el_tra (ci_at (i := 16) rfl)
    · exact el_tra (ci_at (i := 20) rfl)
    · exact el_tra (ci_at (i := 23) rfl)
    · exact el_tra (ci_at (i := 26) rfl)
  refine bX11_init_133 (Or.inr ⟨rfl, _, _, o11_3⟩) (c_add ok (wf0 _ _ (by simp)) o11_3 (by simp) (fun z hz => el_3 z (by simp at hz ⊢; omega)) (el_3 _ (by simp))) ?_
  rintro h1 _ ⟨hh, -⟩
  rw [hh]
  have g_3 : k_gr (c_in a [some (k_o 14 [vR (some (a + 1)), vR (some (a + 6)), vR (some (a + 10)), vR (some (a + 11)), vR (some (a + 12)), vR (some (a + 13)), vR (some (a + 14)), vR (some (a + 15)), vI 0, vI 0, vI 0, vI (-2147483648), vI 0]), some (k_o 11 [vR (some (a + 2)), vR (some (a + 3)), vR (some (a + 4)), vR (some (a + 5)), vI 0, vR none, vI 0]), some (k_l [] 0), some (k_l [] 0), some (k_l [] 0), some (k_o 3 [vI 0, vI 0, vI 0]), some (k_o 9 [vR (some (a + 7))]), some (k_l [a + 8] 10), some (k_o 8 [vJ 0, vI 0, vI 0]), none, some (k_o 3 [vI 0, vI 0, vI 0]), some (k_l [a + 16, a + 20, a + 23] 10), some (k_l [] 0), some (k_l [] 0), some (k_l [] 0), some (k_i 10 (fun _ => 0)), some (k_o 12 [vR (some (a + 17)), vR (some (a + 18)), vI 0, vI 0, vI 0, vI 0, vI (-2147483648), vI 0]), some (k_l [] 0), some (k_l [] 0), none, some (k_o 12 [vR (some (a + 21)), vR (some (a + 22)), vI 0, vI 0, vI 0, vI 0, vI (-2147483648), vI 0]), some (k_l [] 0), some (k_l [] 0), some (k_o 12 [vR (some (a + 24)), vR (some (a + 25)), vI 0, vI 0, vI 0, vI 0, vI (-2147483648), vI 0]), some (k_l [] 0), some (k_l [] 0), some (k_o 12 [vR (some (a + 27)), vR (some (a + 28)), vI 0, vI 0, vI 0, vI 0, vI (-2147483648), vI 0]), some (k_l [] 0), some (k_l [] 0)] (0 + 7 + 12 + 1 + 16 + 3 + 3 + 3 + 3 + 3 + 10 + 8 + 6 + 10 + 8 + 6 + 8 + 6 + 8 + 6) h) (a + 11) ([a + 16, a + 20, a + 23] ++ [a + 26]) [a + 16, a + 20, a + 23].length 10 = c_in a [some (k_o 14 [vR (some (a + 1)), vR (some (a + 6)), vR (some (a + 10)), vR (some (a + 11)), vR (some (a + 12)), vR (some (a + 13)), vR (some (a + 14)), vR (some (a + 15)), vI 0, vI 0, vI 0, vI (-2147483648), vI 0]), some (k_o 11 [vR (some (a + 2)), vR (some (a + 3)), vR (some (a + 4)), vR (some (a + 5)), vI 0, vR none, vI 0]), some (k_l [] 0), some (k_l [] 0), some (k_l [] 0), some (k_o 3 [vI 0, vI 0, vI 0]), some (k_o 9 [vR (some (a + 7))]), some (k_l [a + 8] 10), some (k_o 8 [vJ 0, vI 0, vI 0]), none, some (k_o 3 [vI 0, vI 0, vI 0]), some (k_l [a + 16, a + 20, a + 23, a + 26] 10), some (k_l [] 0), some (k_l [] 0), some (k_l [] 0), some (k_i 10 (fun _ => 0)), some (k_o 12 [vR (some (a + 17)), vR (some (a + 18)), vI 0, vI 0, vI 0, vI 0, vI (-2147483648), vI 0]), some (k_l [] 0), some (k_l [] 0), none, some (k_o 12 [vR (some (a + 21)), vR (some (a + 22)), vI 0, vI 0, vI 0, vI 0, vI (-2147483648), vI 0]), some (k_l [] 0), some (k_l [] 0), some (k_o 12 [vR (some (a + 24)), vR (some (a + 25)), vI 0, vI 0, vI 0, vI 0, vI (-2147483648), vI 0]), some (k_l [] 0), some (k_l [] 0), some (k_o 12 [vR (some (a + 27)), vR (some (a + 28)), vI 0, vI 0, vI 0, vI 0, vI (-2147483648), vI 0]), some (k_l [] 0), some (k_l [] 0)] (0 + 7 + 12 + 1 + 16 + 3 + 3 + 3 + 3 + 3 + 10 + 8 + 6 + 10 + 8 + 6 + 8 + 6 + 8 + 6) h := by
    unfold k_gr
    rw [if_pos (by simp)]
    exact ci_up (i := 11) (by simp)
  refine x_eq _ g_3 rfl (bX11_init_136 ?_)
  rw [show (3 + 1 : Int32) = 4 from by decide]
  refine bX11_init_117 (fun _ => bX11_init_143 (ci_at (i := 0) rfl) rfl ?_) (fun c => absurd (by decide) c)
  rw [ad0, ci_nw]
  have o29 : (c_in a [some (k_o 14 [vR (some (a + 1)), vR (some (a + 6)), vR (some (a + 10)), vR (some (a + 11)), vR (some (a + 12)), vR (some (a + 13)), vR (some (a + 14)), vR (some (a + 15)), vI 0, vI 0, vI 0, vI (-2147483648), vI 0]), some (k_o 11 [vR (some (a + 2)), vR (some (a + 3)), vR (some (a + 4)), vR (some (a + 5)), vI 0, vR none, vI 0]), some (k_l [] 0), some (k_l [] 0), some (k_l [] 0), some (k_o 3 [vI 0, vI 0, vI 0]), some (k_o 9 [vR (some (a + 7))]), some (k_l [a + 8] 10), some (k_o 8 [vJ 0, vI 0, vI 0]), none, some (k_o 3 [vI 0, vI 0, vI 0]), some (k_l [a + 16, a + 20, a + 23, a + 26] 10), some (k_l [] 0), some (k_l [] 0), some (k_l [] 0), some (k_i 10 (fun _ => 0)), some (k_o 12 [vR (some (a + 17)), vR (some (a + 18)), vI 0, vI 0, vI 0, vI 0, vI (-2147483648), vI 0]), some (k_l [] 0), some (k_l [] 0), none, some (k_o 12 [vR (some (a + 21)), vR (some (a + 22)), vI 0, vI 0, vI 0, vI 0, vI (-2147483648), vI 0]), some (k_l [] 0), some (k_l [] 0), some (k_o 12 [vR (some (a + 24)), vR (some (a + 25)), vI 0, vI 0, vI 0, vI 0, vI (-2147483648), vI 0]), some (k_l [] 0), some (k_l [] 0), some (k_o 12 [vR (some (a + 27)), vR (some (a + 28)), vI 0, vI 0, vI 0, vI 0, vI (-2147483648), vI 0]), some (k_l [] 0), some (k_l [] 0), some (k_o 5 [vI 0, vI 0, vR none, vI 0])] (0 + 7 + 12 + 1 + 16 + 3 + 3 + 3 + 3 + 3 + 10 + 8 + 6 + 10 + 8 + 6 + 8 + 6 + 8 + 6 + 4) h).1 (a + 29) = some (k_o 5 [vI 0, vI 0, vR none, vI 0]) := ci_at (i := 29) rfl
  refine bX11_init_150 (c_X2_init ok o29) ?_
  rintro h1 hh
  rw [hh]
  refine x_eq _ (up_same o29) rfl ?_
  have o13 : (c_in a [some (k_o 14 [vR (some (a + 1)), vR (some (a + 6)), vR (some (a + 10)), vR (some (a + 11)), vR (some (a + 12)), vR (some (a + 13)), vR (some (a + 14)), vR (some (a + 15)), vI 0, vI 0, vI 0, vI (-2147483648), vI 0]), some (k_o 11 [vR (some (a + 2)), vR (some (a + 3)), vR (some (a + 4)), vR (some (a + 5)), vI 0, vR none, vI 0]), some (k_l [] 0), some (k_l [] 0), some (k_l [] 0), some (k_o 3 [vI 0, vI 0, vI 0]), some (k_o 9 [vR (some (a + 7))]), some (k_l [a + 8] 10), some (k_o 8 [vJ 0, vI 0, vI 0]), none, some (k_o 3 [vI 0, vI 0, vI 0]), some (k_l [a + 16, a + 20, a + 23, a + 26] 10), some (k_l [] 0), some (k_l [] 0), some (k_l [] 0), some (k_i 10 (fun _ => 0)), some (k_o 12 [vR (some (a + 17)), vR (some (a + 18)), vI 0, vI 0, vI 0, vI 0, vI (-2147483648), vI 0]), some (k_l [] 0), some (k_l [] 0), none, some (k_o 12 [vR (some (a + 21)), vR (some (a + 22)), vI 0, vI 0, vI 0, vI 0, vI (-2147483648), vI 0]), some (k_l [] 0), some (k_l [] 0), some (k_o 12 [vR (some (a + 24)), vR (some (a + 25)), vI 0, vI 0, vI 0, vI 0, vI (-2147483648), vI 0]), some (k_l [] 0), some (k_l [] 0), some (k_o 12 [vR (some (a + 27)), vR (some (a + 28)), vI 0, vI 0, vI 0, vI 0, vI (-2147483648), vI 0]), some (k_l [] 0), some (k_l [] 0), some (k_o 5 [vI 0, vI 0, vR none, vI 0])] (0 + 7 + 12 + 1 + 16 + 3 + 3 + 3 + 3 + 3 + 10 + 8 + 6 + 10 + 8 + 6 + 8 + 6 + 8 + 6 + 4) h).1 (a + 13) = some (k_l [] 0) := ci_at (i := 13) rfl
  refine bX11_init_158 (Or.inr ⟨rfl, _, _, o13⟩) (c_add ok (wf0 _ _ (by simp)) o13 (by simp) (fun z hz => by cases hz) (el_dir o29)) ?_
  rintro h1 _ ⟨hh, -⟩
  refine bX11_init_161 ⟨rfl, ?_⟩
  rw [hh]
  have e1 : k_up (c_in a [some (k_o 14 [vR (some (a + 1)), vR (some (a + 6)), vR (some (a + 10)), vR (some (a + 11)), vR (some (a + 12)), vR (some (a + 13)), vR (some (a + 14)), vR (some (a + 15)), vI 0, vI 0, vI 0, vI (-2147483648), vI 0]), some (k_o 11 [vR (some (a + 2)), vR (some (a + 3)), vR (some (a + 4)), vR (some (a + 5)), vI 0, vR none, vI 0]), some (k_l [] 0), some (k_l [] 0), some (k_l [] 0), some (k_o 3 [vI 0, vI 0, vI 0]), some (k_o 9 [vR (some (a + 7))]), some (k_l [a + 8] 10), some (k_o 8 [vJ 0, vI 0, vI 0]), none, some (k_o 3 [vI 0, vI 0, vI 0]), some (k_l [a + 16, a + 20, a + 23, a + 26] 10), some (k_l [] 0), some (k_l [] 0), some (k_l [] 0), some (k_i 10 (fun _ => 0)), some (k_o 12 [vR (some (a + 17)), vR (some (a + 18)), vI 0, vI 0, vI 0, vI 0, vI (-2147483648), vI 0]), some (k_l [] 0), some (k_l [] 0), none, some (k_o 12 [vR (some (a + 21)), vR (some (a + 22)), vI 0, vI 0, vI 0, vI 0, vI (-2147483648), vI 0]), some (k_l [] 0), some (k_l [] 0), some (k_o 12 [vR (some (a + 24)), vR (some (a + 25)), vI 0, vI 0, vI 0, vI 0, vI (-2147483648), vI 0]), some (k_l [] 0), some (k_l [] 0), some (k_o 12 [vR (some (a + 27)), vR (some (a + 28)), vI 0, vI 0, vI 0, vI 0, vI (-2147483648), vI 0]), some (k_l [] 0), some (k_l [] 0), some (k_o 5 [vI 0, vI 0, vR none, vI 0])] (0 + 7 + 12 + 1 + 16 + 3 + 3 + 3 + 3 + 3 + 10 + 8 + 6 + 10 + 8 + 6 + 8 + 6 + 8 + 6 + 4) h) (a + 13) (k_l ([] ++ [a + 29]) (k_nc 0)) = c_in a [some (k_o 14 [vR (some (a + 1)), vR (some (a + 6)), vR (some (a + 10)), vR (some (a + 11)), vR (some (a + 12)), vR (some (a + 13)), vR (some (a + 14)), vR (some (a + 15)), vI 0, vI 0, vI 0, vI (-2147483648), vI 0]), some (k_o 11 [vR (some (a + 2)), vR (some (a + 3)), vR (some (a + 4)), vR (some (a + 5)), vI 0, vR none, vI 0]), some (k_l [] 0), some (k_l [] 0), some (k_l [] 0), some (k_o 3 [vI 0, vI 0, vI 0]), some (k_o 9 [vR (some (a + 7))]), some (k_l [a + 8] 10), some (k_o 8 [vJ 0, vI 0, vI 0]), none, some (k_o 3 [vI 0, vI 0, vI 0]), some (k_l [a + 16, a + 20, a + 23, a + 26] 10), some (k_l [] 0), some (k_l [a + 29] 10), some (k_l [] 0), some (k_i 10 (fun _ => 0)), some (k_o 12 [vR (some (a + 17)), vR (some (a + 18)), vI 0, vI 0, vI 0, vI 0, vI (-2147483648), vI 0]), some (k_l [] 0), some (k_l [] 0), none, some (k_o 12 [vR (some (a + 21)), vR (some (a + 22)), vI 0, vI 0, vI 0, vI 0, vI (-2147483648), vI 0]), some (k_l [] 0), some (k_l [] 0), some (k_o 12 [vR (some (a + 24)), vR (some (a + 25)), vI 0, vI 0, vI 0, vI 0, vI (-2147483648), vI 0]), some (k_l [] 0), some (k_l [] 0), some (k_o 12 [vR (some (a + 27)), vR (some (a + 28)), vI 0, vI 0, vI 0, vI 0, vI (-2147483648), vI 0]), some (k_l [] 0), some (k_l [] 0), some (k_o 5 [vI 0, vI 0, vR none, vI 0])] (0 + 7 + 12 + 1 + 16 + 3 + 3 + 3 + 3 + 3 + 10 + 8 + 6 + 10 + 8 + 6 + 8 + 6 + 8 + 6 + 4) h := ci_up (i := 13) (by simp)
  show k_gr (c_in a [some (k_o 14 [vR (some (a + 1)), vR (some (a + 6)), vR (some (a + 10)), vR (some (a + 11)), vR (some (a + 12)), vR (some (a + 13)), vR (some (a + 14)), vR (some (a + 15)), vI 0, vI 0, vI 0, vI (-2147483648), vI 0]), some (k_o 11 [vR (some (a + 2)), vR (some (a + 3)), vR (some (a + 4)), vR (some (a + 5)), vI 0, vR none, vI 0]), some (k_l [] 0), some (k_l [] 0), some (k_l [] 0), some (k_o 3 [vI 0, vI 0, vI 0]), some (k_o 9 [vR (some (a + 7))]), some (k_l [a + 8] 10), some (k_o 8 [vJ 0, vI 0, vI 0]), none, some (k_o 3 [vI 0, vI 0, vI 0]), some (k_l [a + 16, a + 20, a + 23, a + 26] 10), some (k_l [] 0), some (k_l [] 0), some (k_l [] 0), some (k_i 10 (fun _ => 0)), some (k_o 12 [vR (some (a + 17)), vR (some (a + 18)), vI 0, vI 0, vI 0, vI 0, vI (-2147483648), vI 0]), some (k_l [] 0), some (k_l [] 0), none, some (k_o 12 [vR (some (a + 21)), vR (some (a + 22)), vI 0, vI 0, vI 0, vI 0, vI (-2147483648), vI 0]), some (k_l [] 0), some (k_l [] 0), some (k_o 12 [vR (some (a + 24)), vR (some (a + 25)), vI 0, vI 0, vI 0, vI 0, vI (-2147483648), vI 0]), some (k_l [] 0), some (k_l [] 0), some (k_o 12 [vR (some (a + 27)), vR (some (a + 28)), vI 0, vI 0, vI 0, vI 0, vI (-2147483648), vI 0]), some (k_l [] 0), some (k_l [] 0), some (k_o 5 [vI 0, vI 0, vR none, vI 0])] (0 + 7 + 12 + 1 + 16 + 3 + 3 + 3 + 3 + 3 + 10 + 8 + 6 + 10 + 8 + 6 + 8 + 6 + 8 + 6 + 4) h) (a + 13) ([] ++ [a + 29]) ([] : List Nat).length 0 = _
  unfold k_gr
  rw [if_neg (by simp), e1]
  exact ci_sk (nh 29)
end CI3
end
section
/-! THE CLASS'S FIRST WORLD -/
def c_f0 (a : Nat) : List (Option k_C) := [some (k_o 14 [vR (some (a + 1)), vR (some (a + 6)), vR (some (a + 10)), vR (some (a + 11)), vR (some (a + 12)), vR (some (a + 13)), vR (some (a + 14)), vR (some (a + 15)), vI 0, vI 0, vI 0, vI (-2147483648), vI 0]), some (k_o 11 [vR (some (a + 2)), vR (some (a + 3)), vR (some (a + 4)), vR (some (a + 5)), vI 0, vR none, vI 0]), some (k_l [] 0), some (k_l [] 0), some (k_l [] 0), some (k_o 3 [vI 0, vI 0, vI 0]), some (k_o 9 [vR (some (a + 7))]), some (k_l [a + 8] 10), some (k_o 8 [vJ 0, vI 0, vI 0]), none, some (k_o 3 [vI 0, vI 0, vI 0]), some (k_l [a + 16, a + 20, a + 23, a + 26] 10), some (k_l [] 0), some (k_l [a + 29] 10), some (k_l [] 0), some (k_i 10 (fun _ => 0)), some (k_o 12 [vR (some (a + 17)), vR (some (a + 18)), vI 0, vI 0, vI 0, vI 0, vI (-2147483648), vI 0]), some (k_l [] 0), some (k_l [] 0), none, some (k_o 12 [vR (some (a + 21)), vR (some (a + 22)), vI 0, vI 0, vI 0, vI 0, vI (-2147483648), vI 0]), some (k_l [] 0), some (k_l [] 0), some (k_o 12 [vR (some (a + 24)), vR (some (a + 25)), vI 0, vI 0, vI 0, vI 0, vI (-2147483648), vI 0]), some (k_l [] 0), some (k_l [] 0), some (k_o 12 [vR (some (a + 27)), vR (some (a + 28)), vI 0, vI 0, vI 0, vI 0, vI (-2147483648), vI 0]), some (k_l [] 0), some (k_l [] 0), some (k_o 5 [vI 0, vI 0, vR none, vI 0]), none]
theorem c_T_cases {t : Nat} (h : t < 4) : t = 0 ∨ t = 1 ∨ t = 2 ∨ t = 3 := by omega
theorem kcp_0 (a : Nat) : ∀ i, i < 31 → ∀ (h : k_H), kcp ((c_in a (c_f0 a) 141 h).1 (a + i)) ≤ k_bd i := by
  intro i hi h
  have e : (c_in a (c_f0 a) 141 h).1 (a + i) = (c_f0 a).getD i none := by
    show (if a ≤ a + i ∧ a + i < a + (c_f0 a).length then (c_f0 a).getD (a + i - a) none else h.1 (a + i)) = _
    rw [if_pos ⟨by omega, by show a + i < a + 31; omega⟩, Nat.add_sub_cancel_left]
  rw [e]
  have : i = 0 ∨ i = 1 ∨ i = 2 ∨ i = 3 ∨ i = 4 ∨ i = 5 ∨ i = 6 ∨ i = 7 ∨ i = 8 ∨ i = 9 ∨ i = 10 ∨ i = 11 ∨ i = 12 ∨ i = 13 ∨ i = 14 ∨ i = 15 ∨ i = 16 ∨ i = 17 ∨ i = 18 ∨ i = 19 ∨ i = 20 ∨ i = 21 ∨ i = 22 ∨ i = 23 ∨ i = 24 ∨ i = 25 ∨ i = 26 ∨ i = 27 ∨ i = 28 ∨ i = 29 ∨ i = 30 := by omega
  rcases this with rfl | rfl | rfl | rfl | rfl | rfl | rfl | rfl | rfl | rfl | rfl | rfl | rfl | rfl | rfl | rfl | rfl | rfl | rfl | rfl | rfl | rfl | rfl | rfl | rfl | rfl | rfl | rfl | rfl | rfl | rfl
  · exact Nat.le_of_ble_eq_true rfl
  · exact Nat.le_of_ble_eq_true rfl
  · exact Nat.le_of_ble_eq_true rfl
  · exact Nat.le_of_ble_eq_true rfl
  · exact Nat.le_of_ble_eq_true rfl
  · exact Nat.le_of_ble_eq_true rfl
  · exact Nat.le_of_ble_eq_true rfl
  · exact Nat.le_of_ble_eq_true rfl
  · exact Nat.le_of_ble_eq_true rfl
  · exact Nat.le_of_ble_eq_true rfl
  · exact Nat.le_of_ble_eq_true rfl
  · exact Nat.le_of_ble_eq_true rfl
  · exact Nat.le_of_ble_eq_true rfl
  · exact Nat.le_of_ble_eq_true rfl
  · exact Nat.le_of_ble_eq_true rfl
  · exact Nat.le_of_ble_eq_true rfl
  · exact Nat.le_of_ble_eq_true rfl
  · exact Nat.le_of_ble_eq_true rfl
  · exact Nat.le_of_ble_eq_true rfl
  · exact Nat.le_of_ble_eq_true rfl
  · exact Nat.le_of_ble_eq_true rfl
  · exact Nat.le_of_ble_eq_true rfl
  · exact Nat.le_of_ble_eq_true rfl
  · exact Nat.le_of_ble_eq_true rfl
  · exact Nat.le_of_ble_eq_true rfl
  · exact Nat.le_of_ble_eq_true rfl
  · exact Nat.le_of_ble_eq_true rfl
  · exact Nat.le_of_ble_eq_true rfl
  · exact Nat.le_of_ble_eq_true rfl
  · exact Nat.le_of_ble_eq_true rfl
  · exact Nat.le_of_ble_eq_true rfl
theorem W_0 {a : Nat} {h : k_H} (wh : k_wf h) (hn : h.2.1 = a + 1) : c_W a (a + 31, h.2.2 + 141) (c_in a (c_f0 a) 141 h) g_0 0 0 := by
  have wf : k_wf (c_in a (c_f0 a) 141 h) := ci_wf wh (by rw [hn]; show a + 1 ≤ a + 31; omega)
  have ge : a + 31 ≤ (c_in a (c_f0 a) 141 h).2.1 := Nat.le_refl _
  have at0 : ∀ (i : Nat) (c : k_C), (c_f0 a)[i]? = some (some c) → (c_in a (c_f0 a) 141 h).1 (a + i) = some c := fun i c e => ci_at e
  have hX : c_TX a (c_in a (c_f0 a) 141 h) (g_X g_0) (g_ser g_0) 0 := by
    refine ⟨fun _ => [], fun t ht => ?_, fun t u _ _ _ y hy => (by cases hy), ge, wf⟩
    have fin : ∀ o : Nat, (c_f0 a)[o]? = some (some (k_o 12 [vR (some (a + (o + 1))), vR (some (a + (o + 2))), vI 0, vI 0, vI 0, vI 0, vI (-2147483648), vI 0])) → (c_f0 a)[o + 1]? = some (some (k_l [] 0)) → (c_f0 a)[o + 2]? = some (some (k_l [] 0)) → c_T t = o → c_tb a (c_in a (c_f0 a) 141 h) t [] (g_X g_0 t) (g_ser g_0) 0 := fun o e1 e2 e3 eo => by
      refine ⟨[], 0, 0, 0, ?_, ⟨⟨?_, fun x hx => (by cases hx), by decide⟩, ⟨?_, fun x hx => (by cases hx), by decide⟩, List.Pairwise.nil⟩, fun z => (by cases z)⟩
      · rw [eo]; exact at0 o _ e1
      · rw [eo]; exact at0 (o + 1) _ e2
      · rw [eo]; exact at0 (o + 2) _ e3
    rcases c_T_cases ht with rfl | rfl | rfl | rfl
    · exact fin 16 rfl rfl rfl rfl
    · exact fin 20 rfl rfl rfl rfl
    · exact fin 23 rfl rfl rfl rfl
    · exact fin 26 rfl rfl rfl rfl
  have hs : c_sE a (c_in a (c_f0 a) 141 h) (g_E g_0) (g_n g_0) [] 0 := by
    refine ⟨[], [], [], (none, false), ⟨0, 0, 0, [], fun _ => 0, ⟨at0 1 _ rfl, at0 2 _ rfl, at0 3 _ rfl, at0 4 _ rfl, at0 5 _ rfl⟩, ⟨⟨fun x hx => (by cases hx), List.Pairwise.nil, by decide⟩, fun x hx => (by cases hx), trivial, fun x hx => (by cases hx)⟩, ⟨fun x hx => (by cases hx), List.Pairwise.nil, List.Pairwise.nil⟩, fun x hx => (by cases hx), ⟨by decide, ge, wf⟩⟩, ⟨⟨fun _ _ => rfl, fun d v => ⟨fun ⟨x, hx, _⟩ => (by cases hx), fun ⟨x, hx, _⟩ => (by cases hx)⟩, Nat.le_refl _⟩, ⟨fun y hy => (by cases hy), Nat.le_refl _⟩, rfl, fun x hx => (by cases hx), List.Pairwise.nil⟩, ⟨fun q hq => (by cases hq), by decide⟩, rfl⟩
  have hp : c_pa a (c_in a (c_f0 a) 141 h) [(a + 8, 0, 0, 0)] := by
    refine ⟨at0 6 _ rfl, ⟨10, at0 7 _ rfl, fun x hx => ?_, by simp⟩, List.pairwise_singleton _ _, ge, wf⟩
    rw [List.mem_singleton.mp hx]
    exact ⟨at0 8 _ rfl, (show 0 < 2 ^ 62 by decide), (show 0 < 2 ^ 30 by decide)⟩
  refine ⟨[], 0, [(a + 8, 0, 0, 0)], hs, ⟨hX, hp, at0 0 _ rfl, ⟨⟨(none, false), at0 10 _ rfl⟩, ⟨10, at0 11 _ rfl⟩, [], 0, at0 12 _ rfl⟩, ⟨fun _ => 0, at0 15 _ rfl, fun i v hv => (by cases hv)⟩, ⟨fun _ => a + 29, 10, at0 13 _ rfl, fun x hx => ?_, fun x hx y hy _ => ?_⟩, [], 0, at0 14 _ rfl, ⟨rfl, rfl, List.Pairwise.nil⟩, fun i b w q hb => (by cases hb)⟩, ⟨rfl, ⟨rfl, trivial⟩⟩, ⟨?_, ?_, fun i hi => kcp_0 a i hi h⟩⟩
  · have hx : x ∈ [((0, none, 0, 0) : s_D)] := hx
    rw [List.mem_singleton.mp hx]
    exact at0 29 _ rfl
  · have hx : x ∈ [((0, none, 0, 0) : s_D)] := hx
    have hy : y ∈ [((0, none, 0, 0) : s_D)] := hy
    rw [List.mem_singleton.mp hx, List.mem_singleton.mp hy]
  · show a + 31 ≤ a + 31 + _ + _
    omega
  · show h.2.2 + 141 ≤ h.2.2 + 141 + _ + _
    omega
end
