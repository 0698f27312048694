/-! THE CLASS IS MADE: the store, the parts, the whole -/
section CI2
variable {G : k_G} {l : Launch}
theorem c_X8_init (ok : k_ok G l) {a sl : Nat} {A : k_C} {h : k_H} (wh : k_wf h) (hn : h.2.1 ≤ a + 1) (hz : k_z0 G < a) : k_ctv (tX8_init G l) [vR (some (a + 1))] (c_in a [some A, some (k_o 11 [vR none, vR none, vR none, vR none, vI 0, vR none, vI 0])] sl h)
    (fun h' => h' = c_in a [some A, some (k_o 11 [vR (some (a + 2)), vR (some (a + 3)), vR (some (a + 4)), vR (some (a + 5)), vI 0, vR none, vI 0]), some (k_l [] 0), some (k_l [] 0), some (k_l [] 0), some (k_o 3 [vI 0, vI 0, vI 0])] (sl + 12) h) := by
  have wf0 : ∀ (xs : List (Option k_C)) (sl : Nat), 0 < xs.length → k_wf (c_in a xs sl h) := fun xs sl hx => ci_wf wh (by omega)
  have ad0 : ∀ (xs : List (Option k_C)) (sl : Nat), (c_in a xs sl h).2.1 = a + xs.length := fun xs sl => rfl
  refine k_ctv_of (eX8_init ok.2 (bX8_init_0 ?_))
  rw [ad0, ci_nw]
  refine bX8_init_8 (c_init ok (wf0 _ _ (by simp)) (by simp; omega) (ci_at (i := 2) rfl)) ?_
  rintro h1 hh
  rw [hh]
  refine x_eq _ (show _ = c_in a [some A, some (k_o 11 [vR none, vR none, vR none, vR none, vI 0, vR none, vI 0]), some (k_l [] 0)] (sl + 3) h from ci_up (i := 2) (by simp)) rfl ?_
  refine bX8_init_12 (ci_at (i := 1) rfl) rfl (x_eq _ (show _ = c_in a [some A, some (k_o 11 [vR (some (a + 2)), vR none, vR none, vR none, vI 0, vR none, vI 0]), some (k_l [] 0)] (sl + 3) h from ci_up (i := 1) (by simp)) rfl ?_)
  refine bX8_init_15 ?_
  rw [ad0, ci_nw]
  refine bX8_init_19 (c_init ok (wf0 _ _ (by simp)) (by simp; omega) (ci_at (i := 3) rfl)) ?_
  rintro h1 hh
  rw [hh]
  refine x_eq _ (show _ = c_in a [some A, some (k_o 11 [vR (some (a + 2)), vR none, vR none, vR none, vI 0, vR none, vI 0]), some (k_l [] 0), some (k_l [] 0)] (sl + 3 + 3) h from ci_up (i := 3) (by simp)) rfl ?_
  refine bX8_init_23 (ci_at (i := 1) rfl) rfl (x_eq _ (show _ = c_in a [some A, some (k_o 11 [vR (some (a + 2)), vR (some (a + 3)), vR none, vR none, vI 0, vR none, vI 0]), some (k_l [] 0), some (k_l [] 0)] (sl + 3 + 3) h from ci_up (i := 1) (by simp)) rfl ?_)
  refine bX8_init_26 ?_
  rw [ad0, ci_nw]
  refine bX8_init_30 (c_init ok (wf0 _ _ (by simp)) (by simp; omega) (ci_at (i := 4) rfl)) ?_
  rintro h1 hh
  rw [hh]
  refine x_eq _ (show _ = c_in a [some A, some (k_o 11 [vR (some (a + 2)), vR (some (a + 3)), vR none, vR none, vI 0, vR none, vI 0]), some (k_l [] 0), some (k_l [] 0), some (k_l [] 0)] (sl + 3 + 3 + 3) h from ci_up (i := 4) (by simp)) rfl ?_
  refine bX8_init_34 (ci_at (i := 1) rfl) rfl (x_eq _ (show _ = c_in a [some A, some (k_o 11 [vR (some (a + 2)), vR (some (a + 3)), vR (some (a + 4)), vR none, vI 0, vR none, vI 0]), some (k_l [] 0), some (k_l [] 0), some (k_l [] 0)] (sl + 3 + 3 + 3) h from ci_up (i := 1) (by simp)) rfl ?_)
  refine bX8_init_37 ?_
  rw [ad0, ci_nw]
  refine bX8_init_41 (c_X0_init ok (ci_at (i := 5) rfl)) ?_
  rintro h1 hh
  rw [hh]
  have fin : ∀ fs gs : List k_V, k_up (c_in a [some A, some (k_o 11 fs), some (k_l [] 0), some (k_l [] 0), some (k_l [] 0), some (k_o 3 [vI 0, vI 0, vI 0])] (sl + 3 + 3 + 3 + 3) h) (a + 1) (k_o 11 gs) = c_in a [some A, some (k_o 11 gs), some (k_l [] 0), some (k_l [] 0), some (k_l [] 0), some (k_o 3 [vI 0, vI 0, vI 0])] (sl + 3 + 3 + 3 + 3) h := fun fs gs => ci_up (i := 1) (by simp)
  refine bX8_init_45 (ci_at (i := 1) rfl) rfl (x_eq _ (fin _ _) rfl ?_)
  refine bX8_init_48 (ci_at (i := 1) rfl) rfl (x_eq _ (fin _ _) rfl ?_)
  refine bX8_init_53 (ci_at (i := 1) rfl) rfl (x_eq _ (fin _ _) rfl ?_)
  refine bX8_init_58 (ci_at (i := 1) rfl) rfl (x_eq _ (fin _ _) rfl ?_)
  exact bX8_init_63 ⟨rfl, rfl⟩
/-- the parts' own -/
theorem c_X6_init (ok : k_ok G l) {a sl : Nat} {p0 p1 p2 p3 p4 p5 : Option k_C} {h : k_H} (wh : k_wf h) (hn : h.2.1 ≤ a + 1) (hz : k_z0 G < a) : k_ctv (tX6_init G l) [vR (some (a + 6))] (c_in a [p0, p1, p2, p3, p4, p5, some (k_o 9 [vR none])] sl h)
    (fun h' => h' = c_in a [p0, p1, p2, p3, p4, p5, some (k_o 9 [vR (some (a + 7))]), some (k_l [a + 8] 10), some (k_o 8 [vJ 0, vI 0, vI 0]), none] (sl + 16) h) := by
  have wf0 : ∀ (xs : List (Option k_C)) (sl : Nat), 0 < xs.length → k_wf (c_in a xs sl h) := fun xs sl hx => ci_wf wh (by omega)
  have ad0 : ∀ (xs : List (Option k_C)) (sl : Nat), (c_in a xs sl h).2.1 = a + xs.length := fun xs sl => rfl
  have nh : ∀ i, h.1 (a + (i + 1)) = none := fun i => wh.none (by omega)
  refine k_ctv_of (eX6_init ok.2 (bX6_init_0 ?_))
  rw [ad0, ci_nw]
  refine bX6_init_8 (c_init ok (wf0 _ _ (by simp)) (by simp; omega) (ci_at (i := 7) rfl)) ?_
  rintro h1 hh
  rw [hh]
  refine x_eq _ (show _ = c_in a [p0, p1, p2, p3, p4, p5, some (k_o 9 [vR none]), some (k_l [] 0)] (sl + 3) h from ci_up (i := 7) (by simp)) rfl ?_
  refine bX6_init_12 (ci_at (i := 6) rfl) rfl (x_eq _ (show _ = c_in a [p0, p1, p2, p3, p4, p5, some (k_o 9 [vR (some (a + 7))]), some (k_l [] 0)] (sl + 3) h from ci_up (i := 6) (by simp)) rfl ?_)
  refine bX6_init_15 (ci_at (i := 6) rfl) rfl ?_
  rw [ad0, ci_nw]
  have o8 : (c_in a [p0, p1, p2, p3, p4, p5, some (k_o 9 [vR (some (a + 7))]), some (k_l [] 0), some (k_o 8 [vJ 0, vI 0, vI 0])] (sl + 3 + 3) h).1 (a + 8) = some (k_o 8 [vJ 0, vI 0, vI 0]) := ci_at (i := 8) rfl
  refine bX6_init_22 (c_X5_init ok o8) ?_
  rintro h1 hh
  rw [hh]
  refine x_eq _ (show _ = c_in a [p0, p1, p2, p3, p4, p5, some (k_o 9 [vR (some (a + 7))]), some (k_l [] 0), some (k_o 8 [vJ 0, vI 0, vI 0])] (sl + 3 + 3) h from up_same o8) rfl ?_
  have o7 : (c_in a [p0, p1, p2, p3, p4, p5, some (k_o 9 [vR (some (a + 7))]), some (k_l [] 0), some (k_o 8 [vJ 0, vI 0, vI 0])] (sl + 3 + 3) h).1 (a + 7) = some (k_l [] 0) := ci_at (i := 7) rfl
  refine bX6_init_28 (Or.inr ⟨rfl, _, _, o7⟩) (c_add ok (wf0 _ _ (by simp)) o7 (by simp) (fun z hz => by cases hz) (el_prt o8)) ?_
  rintro h1 _ ⟨hh, -⟩
  refine bX6_init_31 ⟨rfl, ?_⟩
  rw [hh]
  have e1 : k_up (c_in a [p0, p1, p2, p3, p4, p5, some (k_o 9 [vR (some (a + 7))]), some (k_l [] 0), some (k_o 8 [vJ 0, vI 0, vI 0])] (sl + 3 + 3) h) (a + 7) (k_l ([] ++ [a + 8]) (k_nc 0)) = c_in a [p0, p1, p2, p3, p4, p5, some (k_o 9 [vR (some (a + 7))]), some (k_l [a + 8] 10), some (k_o 8 [vJ 0, vI 0, vI 0])] (sl + 3 + 3) h := ci_up (i := 7) (by simp)
  show (if ([] : List Nat).length < 0 then _ else k_sk (k_up (c_in a [p0, p1, p2, p3, p4, p5, some (k_o 9 [vR (some (a + 7))]), some (k_l [] 0), some (k_o 8 [vJ 0, vI 0, vI 0])] (sl + 3 + 3) h) (a + 7) (k_l ([] ++ [a + 8]) (k_nc 0))) 1 (k_nc 0)) = _
  rw [if_neg (by simp), e1]
  exact ci_sk (nh 8)
end CI2
