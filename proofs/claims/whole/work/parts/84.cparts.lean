/-! THE CLASS'S PARTS: as one predicate; the idlest server; where a part ends -/
def k_pr (x : k_PT) : p_T := (x.2.1, x.2.2.1)
def c_pa (a : Nat) (h : k_H) (PS : List k_PT) : Prop := h.1 (a + 6) = some (k_o 9 [vR (some (a + 7))]) ∧ (∃ cap, r_ps h (a + 7) cap PS) ∧ PS.Pairwise (fun x y => x.1 ≠ y.1) ∧ a + 31 ≤ h.2.1 ∧ k_wf h
/-- every part's count is right; e: the place behind the last key of the last one -/
def p_ho (V : List Nat) (e : Nat) : List k_PT → Prop
  | [] => True
  | x :: r => x.2.2.2 = (match r with | [] => e | y :: _ => p_lt y.2.1 V) - p_lt x.2.1 V ∧ p_ho V e r
theorem p_ho_snoc {V : List Nat} {e : Nat} {x : k_PT} (hx : x.2.2.2 = e - p_lt x.2.1 V) : ∀ {pre : List k_PT}, p_ho V (p_lt x.2.1 V) pre → p_ho V e (pre ++ [x]) := by
  intro pre
  induction pre with
  | nil => exact fun _ => ⟨hx, trivial⟩
  | cons y t ih =>
    rintro ⟨h1, h2⟩
    refine ⟨?_, ih h2⟩
    cases t with
    | nil => exact h1
    | cons w u => exact h1
theorem s_cnt_pr (sv : Int32) (PS : List k_PT) : s_cnt sv PS = p_cn (PS.map k_pr) sv := by
  unfold s_cnt p_cn
  rw [List.countP_map]
  rfl
theorem el_prt {h : k_H} {a : Nat} {fs : List k_V} (ho : h.1 a = some (k_o 8 fs)) : k_el h a := ⟨8, k_is_o ho, k_to (C := "Keyterrace$Part") rfl (by simp [k_casts])⟩
/-- a part's count changes -/
theorem pa_upd {a : Nat} {h : k_H} {pre rest : List k_PT} {x : k_PT} (hp : c_pa a h (pre ++ x :: rest)) {k : Nat} (hk : k < 2 ^ 30) : c_pa a (k_up h x.1 (o_prt (x.1, x.2.1, x.2.2.1, k))) (pre ++ (x.1, x.2.1, x.2.2.1, k) :: rest) ∧ k_mo a [8] (fun q => q = a + 7) 0 h (k_up h x.1 (o_prt (x.1, x.2.1, x.2.2.1, k))) := by
  obtain ⟨h1, ⟨cap, p1, p2, p3⟩, h3, h4, h5⟩ := hp
  have hx := (p2 x (by simp)).1
  have n1 : ∀ p d, h.1 p = some d → (∀ gs, d ≠ k_o 8 gs) → (k_up h x.1 (o_prt (x.1, x.2.1, x.2.2.1, k))).1 p = some d := fun p d hp hne => k_up_cell hx hp hne _
  have hne : ∀ y, y ∈ pre ∨ y ∈ rest → y.1 ≠ x.1 := fun y hy => by
    rw [List.pairwise_append, List.pairwise_cons] at h3
    rcases hy with hy | hy
    · exact h3.2.2 y hy x (List.mem_cons_self ..)
    · exact (h3.2.1.1 y hy).symm
  refine ⟨⟨n1 _ _ h1 (fun gs e => by cases e), ⟨cap, ?_, fun y hy => ?_, ?_⟩, ?_, h4, wf_up h5 hx⟩, mv_o hx (Or.inl (by simp))⟩
  · rw [n1 _ _ p1 (fun gs e => by cases e), List.map_append, List.map_append, List.map_cons, List.map_cons]
  · rcases List.mem_append.mp hy with hy | hy
    · have := p2 y (by simp [hy])
      exact ⟨by rw [k_up_ne _ _ (hne y (Or.inl hy))]; exact this.1, this.2⟩
    · rcases List.mem_cons.mp hy with rfl | hy
      · have := p2 x (by simp)
        exact ⟨k_up_self _ _ _, this.2.1, hk⟩
      · have := p2 y (by simp [hy])
        exact ⟨by rw [k_up_ne _ _ (hne y (Or.inr hy))]; exact this.1, this.2⟩
  · rw [List.length_append, List.length_cons] at p3 ⊢
    exact p3
  · rw [List.pairwise_append, List.pairwise_cons] at h3 ⊢
    refine ⟨h3.1, ⟨h3.2.1.1, h3.2.1.2⟩, fun y hy w hw => ?_⟩
    rcases List.mem_cons.mp hw with rfl | hw
    · exact h3.2.2 y hy x (List.mem_cons_self ..)
    · exact h3.2.2 y hy w (List.mem_cons_of_mem _ hw)
section CPA
variable {G : k_G} {l : Launch}
theorem c_P_idlest (ok : k_ok G l) {a : Nat} {h : k_H} {cap : Nat} {PS : List k_PT} (h1 : h.1 (a + 6) = some (k_o 9 [vR (some (a + 7))])) (hp : r_ps h (a + 7) cap PS) : k_cti (tX6_idlest G l) [vR (some (a + 6))] h (fun h' v => h' = h ∧ v = p_idle (PS.map k_pr)) := by
  have hcount : ∀ sv, s_cnt sv PS < 2 ^ 31 := fun sv => by
    have := hp.2.2
    have : s_cnt sv PS ≤ PS.length := List.countP_le_length
    omega
  have C := fun sv => c_X6_countOf ok (sv := sv) h1 hp
  refine k_cti_of (eX6_idlest ok.2 (bX6_idlest_0 ?_))
  have step : ∀ (i j : Int32) (Q : Int32 → Prop), j ≤ 2 → (∀ i2, (i2 = if s_cnt j PS < s_cnt i PS then j else i) → k_X (jX6_idlest G l h) h 4 [(0, vR (some (a + 6))), (1, vI i2), (2, vI (j + 1))] [] (q_i (fun h' v => h' = h ∧ v = p_idle (PS.map k_pr)))) → k_X (jX6_idlest G l h) h 4 [(0, vR (some (a + 6))), (1, vI i), (2, vI j)] [] (q_i (fun h' v => h' = h ∧ v = p_idle (PS.map k_pr))) := by
    intro i j Q hj K
    refine bX6_idlest_4 (fun z => absurd (Int32.le_trans z hj) (by decide)) (fun _ => bX6_idlest_9 (k_is_o h1) (C j) ?_)
    rintro _ _ ⟨hh, rfl⟩
    rw [hh]
    refine bX6_idlest_14 (k_is_o h1) (C i) ?_
    rintro _ _ ⟨hh, rfl⟩
    rw [hh]
    refine bX6_idlest_19 (fun c1 => bX6_idlest_24 (K i ?_)) (fun c1 => bX6_idlest_22 (bX6_idlest_24 (K j ?_)))
    · rw [if_neg]
      have := (nI_leI (hcount i) (hcount j)).mp c1
      omega
    · rw [if_pos]
      have : ¬ s_cnt i PS ≤ s_cnt j PS := fun z => c1 ((nI_leI (hcount i) (hcount j)).mpr z)
      omega
  refine step 0 1 (fun _ => True) (by decide) (fun i1 e1 => step i1 2 (fun _ => True) (by decide) (fun i2 e2 => bX6_idlest_4 (fun _ => bX6_idlest_30 ⟨_, rfl, rfl, ?_⟩) (fun z => absurd (by decide) z)))
  unfold p_idle
  rw [← s_cnt_pr, ← s_cnt_pr, ← s_cnt_pr, e2, e1]
  by_cases c1 : s_cnt 1 PS < s_cnt 0 PS
  · rw [if_pos c1, if_pos c1]
  · rw [if_neg c1, if_neg c1]
theorem c_P_endOf (ok : k_ok G l) {a : Nat} {h : k_H} {cap cap4 : Nat} {pre rest : List k_PT} {x : k_PT} {X : List k_K2} {f : Nat} (h1 : h.1 (a + 6) = some (k_o 9 [vR (some (a + 7))])) (hp : r_ps h (a + 7) cap (pre ++ x :: rest)) (h4 : h.1 (a + 4) = some (k_l (X.map (fun x => x.2)) cap4)) (hX : (X.map (fun x => x.1)).Pairwise (fun x y => x < y)) (hlen : X.length < 2 ^ 20) (hk : ∀ y ∈ X, y.1 < 1331000000000 ∧ ∃ g, h.1 y.2 = some (k_o 7 [vJ (lN y.1), g])) (hf : f ≤ p_end (X.map (fun x => x.1)) (rest.map k_pr)) :
    k_cti (tX6_endOf G l) [vR (some (a + 6)), vI (nI pre.length), vI (nI f), vR (some (a + 4))] h (fun h' v => h' = h ∧ v = nI (p_end (X.map (fun x => x.1)) (rest.map k_pr))) := by
  obtain ⟨p1, p2, p3⟩ := hp
  have hl : (pre ++ x :: rest).length = pre.length + (rest.length + 1) := by simp
  have is7 : k_is h (a + 7) 2 := Or.inr ⟨rfl, _, _, p1⟩
  have is4 : k_is h (a + 4) 2 := Or.inr ⟨rfl, _, _, h4⟩
  refine k_cti_of (eX6_endOf ok.2 (bX6_endOf_0 h1 rfl is7 (c_size ok p1) ?_))
  rintro _ _ ⟨hh, rfl⟩
  rw [hh, List.length_map, nI_1]
  cases rest with
  | nil =>
    refine bX6_endOf_10 (fun z => absurd z (fun z => by have := (nI_ltI (by omega) (by omega)).mp z; rw [hl] at this; simp at this)) (fun _ => bX6_endOf_13 is4 (c_size ok h4) ?_)
    rintro _ _ ⟨hh, rfl⟩
    rw [hh]
    refine bX6_endOf_17 ⟨_, rfl, rfl, ?_⟩
    show nI (X.map (fun x => x.2)).length = nI (X.map (fun x => x.1)).length
    rw [List.length_map, List.length_map]
  | cons q r =>
    have hq : (pre ++ x :: q :: r)[pre.length + 1]? = some q := by
      rw [List.getElem?_append_right (by omega), show pre.length + 1 - pre.length = 1 by omega]; rfl
    have hqm := List.mem_of_getElem? hq
    refine bX6_endOf_10 (fun _ => bX6_endOf_18 h1 rfl is7 (by rw [nI_1]; exact c_get ok p1 (by rw [List.getElem?_map, hq]; rfl)) ?_) (fun z => absurd ((nI_ltI (by omega) (by omega)).mpr (by rw [hl]; simp)) z)
    rintro _ _ ⟨hh, rfl⟩
    rw [hh]
    refine bX6_endOf_28 (p2 q hqm).1 rfl ?_
    have eE : p_end (X.map (fun x => x.1)) ((q :: r).map k_pr) = p_lt q.2.1 (X.map (fun x => x.1)) := rfl
    rw [eE] at hf ⊢
    have key : ∀ (d e : Nat), X.length - e = d → e ≤ p_lt q.2.1 (X.map (fun x => x.1)) → k_X (jX6_endOf G l h) h 39 [(3, vR (some (a + 4))), (4, vJ (lN q.2.1)), (6, vI (nI e))] [] (q_i (fun h' v => h' = h ∧ v = nI (p_lt q.2.1 (X.map (fun x => x.1))))) := by
      intro d
      induction d with
      | zero =>
        intro e hd he
        have h9 := p_lt_le q.2.1 (X.map (fun x => x.1))
        rw [List.length_map] at h9
        refine bX6_endOf_39 is4 (c_size ok h4) ?_
        rintro _ _ ⟨hh, rfl⟩
        rw [hh, List.length_map]
        exact bX6_endOf_45 (fun _ => bX6_endOf_72 ⟨_, rfl, rfl, by rw [show e = p_lt q.2.1 (X.map (fun x => x.1)) by omega]⟩) (fun z => absurd (nI_le (by omega) (by omega)) z)
      | succ d ih =>
        intro e hd he
        have hlt : e < X.length := by omega
        obtain ⟨y, hy⟩ : ∃ y, X[e]? = some y := ⟨_, List.getElem?_eq_getElem hlt⟩
        obtain ⟨hy1, g, hy2⟩ := hk y (List.mem_of_getElem? hy)
        have hyV : (X.map (fun x => x.1))[e]? = some y.1 := by rw [List.getElem?_map, hy]; rfl
        have iff := p_lt_iff (c := q.2.1) hX hyV
        refine bX6_endOf_39 is4 (c_size ok h4) ?_
        rintro _ _ ⟨hh, rfl⟩
        rw [hh, List.length_map]
        refine bX6_endOf_45 (fun z => absurd z (nI_ge hlt (by omega))) (fun _ => bX6_endOf_48 is4 (c_get ok h4 (by rw [List.getElem?_map, hy]; rfl)) ?_)
        rintro _ _ ⟨hh, rfl⟩
        rw [hh]
        have hq62 := (p2 q hqm).2.1
        refine bX6_endOf_54 hy2 rfl (fun c1 => bX6_endOf_72 ⟨_, rfl, rfl, ?_⟩) (fun c1 => bX6_endOf_66 ?_)
        · have c2 := (lX_le hq62 (by omega)).mp c1
          have : ¬ e < p_lt q.2.1 (X.map (fun x => x.1)) := fun z => by have := iff.mpr z; omega
          rw [show e = p_lt q.2.1 (X.map (fun x => x.1)) by omega]
        · have c2 : ¬ q.2.1 ≤ y.1 := fun z => c1 ((lX_le hq62 (by omega)).mpr z)
          have := iff.mp (by omega)
          rw [nI_1]
          exact ih (e + 1) (by omega) (by omega)
    exact key _ f rfl hf
end CPA
