/-! THE CLASS'S PARTS ARE JOINED -/
theorem pa_del {a : Nat} {h : k_H} {pre rest : List k_PT} {x y : k_PT} {cap : Nat} (hp : c_pa a h (pre ++ x :: y :: rest)) (hc : h.1 (a + 7) = some (k_l ((pre ++ x :: y :: rest).map (fun x => x.1)) cap)) :
    c_pa a (k_up h (a + 7) (k_l (((pre ++ x :: y :: rest).map (fun x => x.1)).eraseIdx (pre.length + 1)) cap)) (pre ++ x :: rest) ∧ k_mo a [8] (fun q => q = a + 7) 0 h (k_up h (a + 7) (k_l (((pre ++ x :: y :: rest).map (fun x => x.1)).eraseIdx (pre.length + 1)) cap)) := by
  obtain ⟨h1, ⟨cap9, p1, p2, p3⟩, h3, h4, h5⟩ := hp
  have eera : ((pre ++ x :: y :: rest).map (fun x => x.1)).eraseIdx (pre.length + 1) = (pre ++ x :: rest).map (fun x => x.1) := by
    have : ∀ (u : List k_PT), ((u ++ x :: y :: rest).map (fun x => x.1)).eraseIdx (u.length + 1) = (u ++ x :: rest).map (fun x => x.1) := by
      intro u
      induction u with
      | nil => rfl
      | cons z t ih =>
        rw [List.cons_append, List.map_cons, List.length_cons, List.eraseIdx_cons_succ, ih]
        rfl
    exact this pre
  have m : k_mo a [8] (fun q => q = a + 7) 0 h (k_up h (a + 7) (k_l (((pre ++ x :: y :: rest).map (fun x => x.1)).eraseIdx (pre.length + 1)) cap)) := mv_lu hc (by decide) rfl
  refine ⟨⟨?_, ⟨cap, ?_, fun z hz => ?_, ?_⟩, ?_, h4, wf_up h5 hc⟩, m⟩
  · rw [k_up_ne _ _ (by omega)]; exact h1
  · rw [k_up_self, eera]
  · have hz2 : z ∈ pre ++ x :: y :: rest := by
      simp only [List.mem_append, List.mem_cons] at hz ⊢
      rcases hz with hz | hz | hz
      · exact Or.inl hz
      · exact Or.inr (Or.inl hz)
      · exact Or.inr (Or.inr (Or.inr hz))
    have := p2 z hz2
    exact ⟨by rw [k_up_ne _ _ (fun e => by have h9 := this.1; rw [e, p1] at h9; cases h9)]; exact this.1, this.2⟩
  · simp only [List.length_append, List.length_cons] at p3 ⊢
    omega
  · refine h3.sublist ?_
    exact List.Sublist.append (List.Sublist.refl _) (List.Sublist.cons_cons _ (List.sublist_cons_self _ _))
theorem p_ho_app {V : List Nat} {e : Nat} {x : k_PT} {rest : List k_PT} : ∀ {pre : List k_PT}, p_ho V e (pre ++ x :: rest) → p_ho V e (x :: rest) := by
  intro pre
  induction pre with
  | nil => exact fun h => h
  | cons y t ih => exact fun h => ih h.2
/-- two parts become one -/
theorem p_ho_join {V : List Nat} {e k : Nat} {x y : k_PT} {rest : List k_PT} (hk : k = (match rest with | [] => e | z :: _ => p_lt z.2.1 V) - p_lt x.2.1 V) : ∀ {pre : List k_PT}, p_ho V e (pre ++ x :: y :: rest) → p_ho V e (pre ++ (x.1, x.2.1, x.2.2.1, k) :: rest) := by
  intro pre
  induction pre with
  | nil => exact fun h => ⟨hk, h.2.2⟩
  | cons w t ih =>
    rintro ⟨h1, h2⟩
    refine ⟨?_, ih h2⟩
    cases t with
    | nil => exact h1
    | cons u v => exact h1
section CJN
variable {G : k_G} {l : Launch}
theorem c_P_join (ok : k_ok G l) {a : Nat} {h0 : k_H} {V : List Nat} (hV : V.length ≤ 12600) {R : k_H → k_R → Prop} :
    ∀ (k : Nat) (pre rest : List k_PT) (x : k_PT) (h : k_H), rest.length = k → c_pa a h (pre ++ x :: rest) → ((pre ++ x :: rest).map k_pr).Pairwise (fun x y => x.1 < y.1) → p_ho V V.length (pre ++ x :: rest) →
      (∀ (h2 : k_H) (PS2 : List k_PT), c_pa a h2 PS2 → PS2.map k_pr = pre.map k_pr ++ p_join V (k_pr x) (rest.map k_pr) → (PS2.map k_pr).Pairwise (fun x y => x.1 < y.1) → p_ho V V.length PS2 → k_mo a [8] (fun q => q = a + 7) 0 h h2 → R h2 (.inl none)) →
      k_X (jX6_join G l h0) h 2 [(0, vR (some (a + 6))), (1, vI (nI pre.length))] [] R := by
  intro k
  induction k with
  | zero =>
    intro pre rest x h hr hp hs hho K
    obtain ⟨h1, ⟨cap, p1, p2, p3⟩, -⟩ := id hp
    have er : rest = [] := List.eq_nil_of_length_eq_zero hr
    subst er
    refine bX6_join_2 h1 rfl (Or.inr ⟨rfl, _, _, p1⟩) (c_size ok p1) ?_
    rintro _ _ ⟨hh, rfl⟩
    rw [hh, List.length_map, nI_1]
    have hl : (pre ++ [x]).length = pre.length + 1 := by simp
    refine bX6_join_12 (fun _ => bX6_join_79 (K h _ hp ?_ hs hho (mv_refl _ _ _ _))) (fun z => absurd (by rw [hl]; exact nI_le (Nat.le_refl _) (by omega)) z)
    rw [List.map_append]
    rfl
  | succ k ih =>
    intro pre rest x h hr hp hs hho K
    cases rest with
    | nil => cases hr
    | cons y r =>
      obtain ⟨h1, ⟨cap, p1, p2, p3⟩, -⟩ := id hp
      have hl : (pre ++ x :: y :: r).length = pre.length + (r.length + 1 + 1) := by simp
      have hg : (pre ++ x :: y :: r)[pre.length]? = some x := by rw [List.getElem?_append_right (Nat.le_refl _), Nat.sub_self]; rfl
      have hg2 : (pre ++ x :: y :: r)[pre.length + 1]? = some y := by rw [List.getElem?_append_right (by omega), show pre.length + 1 - pre.length = 1 by omega]; rfl
      have is7 : k_is h (a + 7) 2 := Or.inr ⟨rfl, _, _, p1⟩
      obtain ⟨b1, b2, -⟩ := p_ho_app hho
      have b1' : x.2.2.2 = p_lt y.2.1 V - p_lt x.2.1 V := b1
      have b2' : y.2.2.2 = p_end V (r.map k_pr) - p_lt y.2.1 V := by
        rw [b2]
        cases r with
        | nil => rfl
        | cons z t => rfl
      rw [List.map_append, List.map_cons, List.map_cons] at hs
      have hs2 := List.pairwise_append.mp hs
      have hs3 := List.pairwise_cons.mp hs2.2.1
      have hs4 := List.pairwise_cons.mp hs3.2
      have hxy := p_lt_mono (Nat.le_of_lt (hs3.1 (k_pr y) (List.mem_cons_self ..))) V
      have hyr : p_lt y.2.1 V ≤ p_end V (r.map k_pr) := by
        cases r with
        | nil => exact p_lt_le _ _
        | cons z t => exact p_lt_mono (Nat.le_of_lt (hs4.1 (k_pr z) (by simp))) V
      have hel := p_end_le V (r.map k_pr)
      have hxy' : p_lt x.2.1 V ≤ p_lt y.2.1 V := hxy
      have esum : x.2.2.2 + y.2.2.2 = p_end V (r.map k_pr) - p_lt x.2.1 V := by omega
      have hj : p_join V (k_pr x) ((y :: r).map k_pr) = if p_end V (r.map k_pr) - p_lt x.2.1 V < 4 then p_join V (k_pr x) (r.map k_pr) else k_pr x :: p_join V (k_pr y) (r.map k_pr) := rfl
      refine bX6_join_2 h1 rfl is7 (c_size ok p1) ?_
      rintro _ _ ⟨hh, rfl⟩
      rw [hh, List.length_map, nI_1]
      refine bX6_join_12 (fun z => absurd z (nI_ge (by omega) (by omega))) (fun _ => bX6_join_15 h1 rfl is7 (c_get ok p1 (by rw [List.getElem?_map, hg]; rfl)) ?_)
      rintro _ _ ⟨hh, rfl⟩
      rw [hh]
      refine bX6_join_23 (p2 x (by simp)).1 rfl h1 rfl is7 (by rw [nI_1]; exact c_get ok p1 (by rw [List.getElem?_map, hg2]; rfl)) ?_
      rintro _ _ ⟨hh, rfl⟩
      rw [hh]
      refine bX6_join_41 (p2 y (by simp)).1 rfl (fun c1 => ?_) (fun c1 => ?_)
      · rw [nI_add, esum] at c1
        have c2 : ¬ p_end V (r.map k_pr) - p_lt x.2.1 V < 4 := fun z => by
          have := (nI_leI (a := 4) (b := p_end V (r.map k_pr) - p_lt x.2.1 V) (by omega) (by omega)).mp c1
          omega
        rw [hj, if_neg c2] at K
        refine bX6_join_73 (bX6_join_76 ?_)
        have eap : pre ++ x :: y :: r = (pre ++ [x]) ++ y :: r := by simp
        have elen : (pre ++ [x]).length = pre.length + 1 := by simp
        rw [nI_1, ← elen]
        refine ih (pre ++ [x]) r y h (by simpa using hr) (by rw [← eap]; exact hp) (by rw [← eap, List.map_append, List.map_cons, List.map_cons]; exact hs) (by rw [← eap]; exact hho) (fun h2 PS2 k1 k2 k3 k4 k5 => K h2 PS2 k1 ?_ k3 k4 k5)
        rw [k2, List.map_append, List.append_assoc]
        rfl
      · rw [nI_add, esum] at c1 ⊢
        have c2 : p_end V (r.map k_pr) - p_lt x.2.1 V < 4 := Nat.lt_of_not_le fun z => c1 ((nI_leI (a := 4) (by omega) (by omega)).mpr z)
        rw [hj, if_pos c2] at K
        obtain ⟨u1, u2⟩ := pa_upd hp (k := p_end V (r.map k_pr) - p_lt x.2.1 V) (by omega)
        refine bX6_join_54 (p2 x (by simp)).1 rfl ?_
        have ecell : (k_o 8 (List.set [vJ (lN x.2.1), vI x.2.2.1, vI (nI x.2.2.2)] 2 (vI (nI (p_end V (r.map k_pr) - p_lt x.2.1 V))))) = o_prt (x.1, x.2.1, x.2.2.1, p_end V (r.map k_pr) - p_lt x.2.1 V) := rfl
        rw [ecell]
        generalize k_up h x.1 (o_prt (x.1, x.2.1, x.2.2.1, p_end V (r.map k_pr) - p_lt x.2.1 V)) = h2 at u1 u2
        obtain ⟨g1, ⟨cap2, r1, r2, r3⟩, -⟩ := id u1
        obtain ⟨v1, v2⟩ := pa_del u1 r1
        have hg3 : ((pre ++ (x.1, x.2.1, x.2.2.1, p_end V (r.map k_pr) - p_lt x.2.1 V) :: y :: r).map (fun x => x.1))[pre.length + 1]? = some y.1 := by
          rw [List.getElem?_map, List.getElem?_append_right (by omega), show pre.length + 1 - pre.length = 1 by omega]; rfl
        refine bX6_join_59 g1 rfl (Or.inr ⟨rfl, _, _, r1⟩) (by rw [nI_1]; exact c_removeAt ok r1 hg3 (fun z hz => by
          obtain ⟨w, hw, rfl⟩ := List.mem_map.mp hz
          exact el_prt (r2 w hw).1)) ?_
        rintro h3 _ ⟨e3, rfl⟩
        rw [← e3] at v1 v2
        refine bX6_join_69 (bX6_join_76 ?_)
        refine ih pre r (x.1, x.2.1, x.2.2.1, p_end V (r.map k_pr) - p_lt x.2.1 V) h3 (by simpa using hr) v1 ?_ ?_ (fun h4 PS2 k1 k2 k3 k4 k5 => K h4 PS2 k1 k2 k3 k4 (mv_mono (mv_trans (mv_trans u2 v2) k5) (fun _ h => h) (fun _ h => h) (by omega)))
        · rw [List.map_append, List.map_cons, List.pairwise_append, List.pairwise_cons]
          refine ⟨hs2.1, ⟨fun z hz => hs3.1 z (List.mem_cons_of_mem _ hz), hs4.2⟩, fun z hz w hw => ?_⟩
          rcases List.mem_cons.mp hw with rfl | hw
          · exact hs2.2.2 z hz (k_pr x) (List.mem_cons_self ..)
          · exact hs2.2.2 z hz w (List.mem_cons_of_mem _ (List.mem_cons_of_mem _ hw))
        · refine p_ho_join ?_ hho
          cases r with
          | nil => rfl
          | cons z t => rfl
theorem c_X6_split (ok : k_ok G l) {a : Nat} {h : k_H} {X : List k_K2} {PS : List k_PT} (hp : c_pa a h PS) (hk : c_kl a h X) (hX : (X.map (fun x => x.1)).Pairwise (fun x y => x < y)) (hlen : X.length ≤ 12600) (hs : (PS.map k_pr).Pairwise (fun x y => x.1 < y.1)) (hne : PS ≠ []) (h0 : ∀ x ∈ PS.head?, x.2.1 = 0) (hsz : PS.length + X.length / 4 ≤ 4096) :
    k_ctv (tX6_split G l) [vR (some (a + 6)), vR (some (a + 4))] h (fun h2 => ∃ PS2, c_pa a h2 PS2 ∧ PS2.map k_pr = p_split (X.map (fun x => x.1)) (PS.length + X.length) [] (PS.map k_pr) ∧ (PS2.map k_pr).Pairwise (fun x y => x.1 < y.1) ∧ p_ho (X.map (fun x => x.1)) X.length PS2 ∧ PS.length ≤ PS2.length ∧ k_mo a [8] (fun q => q = a + 7) (PS2.length - PS.length) h h2) := by
  cases PS with
  | nil => exact absurd rfl hne
  | cons x rest =>
    have hx : x.2.1 = 0 := h0 x rfl
    have e0 : p_end (X.map (fun x => x.1)) ((x :: rest).map k_pr) = 0 := by
      show p_lt x.2.1 _ = 0
      rw [hx]
      unfold p_lt
      rw [List.filter_eq_nil_iff.mpr (fun y _ => by simp)]
      rfl
    refine k_ctv_of (eX6_split ok.2 (bX6_split_0 ?_))
    have C := c_P_split ok (h0 := h) (a := a) hX hlen (R := q_v (fun h2 => ∃ PS2, c_pa a h2 PS2 ∧ PS2.map k_pr = p_split (X.map (fun x => x.1)) ((x :: rest).length + X.length) [] ((x :: rest).map k_pr) ∧ (PS2.map k_pr).Pairwise (fun x y => x.1 < y.1) ∧ p_ho (X.map (fun x => x.1)) X.length PS2 ∧ (x :: rest).length ≤ PS2.length ∧ k_mo a [8] (fun q => q = a + 7) (PS2.length - (x :: rest).length) h h2)) ((x :: rest).length + X.length) [] (x :: rest) h hp hk hs ?_ ?_ trivial (fun h2 PS2 k1 k2 k3 k4 k5 k6 => ⟨rfl, PS2, k1, k2, k3, k4, k5, k6⟩)
    · rw [e0] at C
      exact C
    · show (rest.map k_pr).length + 1 + ((X.map (fun x => x.1)).length - _) ≤ rest.length + 1 + X.length
      rw [List.length_map, List.length_map]
      omega
    · show 0 + ((rest.map k_pr).length + 1 + ((X.map (fun x => x.1)).length - _) / 4) ≤ 4096
      rw [List.length_map, List.length_map]
      simp only [List.length_cons] at hsz
      have : (X.length - p_lt (k_pr x).1 (X.map (fun x => x.1))) / 4 ≤ X.length / 4 := Nat.div_le_div_right (Nat.sub_le _ _)
      omega
theorem c_X6_join (ok : k_ok G l) {a : Nat} {h : k_H} {V : List Nat} {PS : List k_PT} {x : k_PT} {rest : List k_PT} (e : PS = x :: rest) (hp : c_pa a h PS) (hV : V.length ≤ 12600) (hs : (PS.map k_pr).Pairwise (fun x y => x.1 < y.1)) (hho : p_ho V V.length PS) :
    k_ctv (tX6_join G l) [vR (some (a + 6))] h (fun h2 => ∃ PS2, c_pa a h2 PS2 ∧ PS2.map k_pr = p_join V (k_pr x) (rest.map k_pr) ∧ (PS2.map k_pr).Pairwise (fun x y => x.1 < y.1) ∧ p_ho V V.length PS2 ∧ k_mo a [8] (fun q => q = a + 7) 0 h h2) := by
  subst e
  refine k_ctv_of (eX6_join ok.2 (bX6_join_0 ?_))
  exact c_P_join ok hV rest.length [] rest x h rfl hp hs hho (fun h2 PS2 k1 k2 k3 k4 k5 => ⟨rfl, PS2, k1, k2, k3, k4, k5⟩)
end CJN
