section
/-! THE CLASS'S PARTS: as one predicate; the idlest server; where a part ends -/
def k_pr (x : k_PT) : p_T := (x.2.1, x.2.2.1)
def c_pa (a : Nat) (h : k_H) (PS : List k_PT) : Prop := h.1 (a + 6) = some (k_o 9 [vR (some (a + 7))]) ∧ (∃ cap, r_ps h (a + 7) cap PS) ∧ PS.Pairwise (fun x y => x.1 ≠ y.1) ∧ a + 31 ≤ h.2.1 ∧ k_wf h
/-- every part's count is right; e: the place behind the last key of the last one -/
def p_ho (V : List Nat) (e : Nat) : List k_PT → Prop
  | [] => True
  | x :: r => x.2.2.2 = (match r with | [] => e | y :: _ => p_lt y.2.1 V) - p_lt x.2.1 V ∧ p_ho V e r
theorem p_ho_snoc {V : List Nat} {e : Nat} {x : k_PT} (hx : x.2.2.2 = e - p_lt x.2.1 V) : ∀ {pre : List k_PT}, p_ho V (p_lt x.2.1 V) pre → p_ho V e (pre ++ [x]) := by
  intro pre
  induction pre with
  | nil => exact fun _ => ⟨hx, trivial⟩
  | cons y t ih =>
    rintro ⟨h1, h2⟩
    refine ⟨?_, ih h2⟩
    cases t with
    | nil => exact h1
    | cons w u => exact h1
theorem s_cnt_pr (sv : Int32) (PS : List k_PT) : s_cnt sv PS = p_cn (PS.map k_pr) sv := by
  unfold s_cnt p_cn
  rw [List.countP_map]
  rfl
theorem el_prt {h : k_H} {a : Nat} {fs : List k_V} (ho : h.1 a = some (k_o 8 fs)) : k_el h a := ⟨8, k_is_o ho, k_to (C := "Keyterrace$Part") rfl (by simp [k_casts])⟩
/-- a part's count changes -/
theorem pa_upd {a : Nat} {h : k_H} {pre rest : List k_PT} {x : k_PT} (hp : c_pa a h (pre ++ x :: rest)) {k : Nat} (hk : k < 2 ^ 30) : c_pa a (k_up h x.1 (o_prt (x.1, x.2.1, x.2.2.1, k))) (pre ++ (x.1, x.2.1, x.2.2.1, k) :: rest) ∧ k_mo a [8] (fun q => q = a + 7) 0 h (k_up h x.1 (o_prt (x.1, x.2.1, x.2.2.1, k))) := by
  obtain ⟨h1, ⟨cap, p1, p2, p3⟩, h3, h4, h5⟩ := hp
  have hx := (p2 x (by simp)).1
  have n1 : ∀ p d, h.1 p = some d → (∀ gs, d ≠ k_o 8 gs) → (k_up h x.1 (o_prt (x.1, x.2.1, x.2.2.1, k))).1 p = some d := fun p d hp hne => k_up_cell hx hp hne _
  have hne : ∀ y, y ∈ pre ∨ y ∈ rest → y.1 ≠ x.1 := fun y hy => by
    rw [List.pairwise_append, List.pairwise_cons] at h3
    rcases hy with hy | hy
    · exact h3.2.2 y hy x (List.mem_cons_self ..)
    · exact (h3.2.1.1 y hy).symm
  refine ⟨⟨n1 _ _ h1 (fun gs e => by cases e), ⟨cap, ?_, fun y hy => ?_, ?_⟩, ?_, h4, wf_up h5 hx⟩, mv_o hx (Or.inl (by simp))⟩
  · rw [n1 _ _ p1 (fun gs e => by cases e), List.map_append, List.map_append, List.map_cons, List.map_cons]
  · rcases List.mem_append.mp hy with hy | hy
    · have := p2 y (by simp [hy])
      exact ⟨by rw [k_up_ne _ _ (hne y (Or.inl hy))]; exact this.1, this.2⟩
    · rcases List.mem_cons.mp hy with rfl | hy
      · have := p2 x (by simp)
        exact ⟨k_up_self _ _ _, this.2.1, hk⟩
      · have := p2 y (by simp [hy])
        exact ⟨by rw [k_up_ne _ _ (hne y (Or.inr hy))]; exact this.1, this.2⟩
  · rw [List.length_append, List.length_cons] at p3 ⊢
    exact p3
  · rw [List.pairwise_append, List.pairwise_cons] at h3 ⊢
    refine ⟨h3.1, ⟨h3.2.1.1, h3.2.1.2⟩, fun y hy w hw => ?_⟩
    rcases List.mem_cons.mp hw with rfl | hw
    · exact h3.2.2 y hy x (List.mem_cons_self ..)
    · exact h3.2.2 y hy w (List.mem_cons_of_mem _ hw)
section CPA
variable {G : k_G} {l : Launch}
theorem c_P_idlest (ok : k_ok G l) {a : Nat} {h : k_H} {cap : Nat} {PS : List k_PT} (h1 : h.1 (a + 6) = some (k_o 9 [vR (some (a + 7))])) (hp : r_ps h (a + 7) cap PS) : k_cti (tX6_idlest G l) [vR (some (a + 6))] h (fun h' v => h' = h ∧ v = p_idle (PS.map k_pr)) := by
  have hcount : ∀ sv, s_cnt sv PS < 2 ^ 31 := fun sv => by
    have := hp.2.2
    have : s_cnt sv PS ≤ PS.length := List.countP_le_length
    omega
  have C := fun sv => c_X6_countOf ok (sv := sv) h1 hp
  refine k_cti_of (eX6_idlest ok.2 (bX6_idlest_0 ?_))
  have step : ∀ (i j : Int32) (Q : Int32 → Prop), j ≤ 2 → (∀ i2, (i2 = if s_cnt j PS < s_cnt i PS then j else i) → k_X (jX6_idlest G l h) h 4 [(0, vR (some (a + 6))), (1, vI i2), (2, vI (j + 1))] [] (q_i (fun h' v => h' = h ∧ v = p_idle (PS.map k_pr)))) → k_X (jX6_idlest G l h) h 4 [(0, vR (some (a + 6))), (1, vI i), (2, vI j)] [] (q_i (fun h' v => h' = h ∧ v = p_idle (PS.map k_pr))) := by
    intro i j Q hj K
    refine bX6_idlest_4 (fun z => absurd (Int32.le_trans z hj) (by decide)) (fun _ => bX6_idlest_9 (k_is_o h1) (C j) ?_)
    rintro _ _ ⟨hh, rfl⟩
    rw [hh]
    refine bX6_idlest_14 (k_is_o h1) (C i) ?_
    rintro _ _ ⟨hh, rfl⟩
    rw [hh]
    refine bX6_idlest_19 (fun c1 => bX6_idlest_24 (K i ?_)) (fun c1 => bX6_idlest_22 (bX6_idlest_24 (K j ?_)))
    · rw [if_neg]
      have := (nI_leI (hcount i) (hcount j)).mp c1
      omega
    · rw [if_pos]
      have : ¬ s_cnt i PS ≤ s_cnt j PS := fun z => c1 ((nI_leI (hcount i) (hcount j)).mpr z)
      omega
  refine step 0 1 (fun _ => True) (by decide) (fun i1 e1 => step i1 2 (fun _ => True) (by decide) (fun i2 e2 => bX6_idlest_4 (fun _ => bX6_idlest_30 ⟨_, rfl, rfl, ?_⟩) (fun z => absurd (by decide) z)))
  unfold p_idle
  rw [← s_cnt_pr, ← s_cnt_pr, ← s_cnt_pr, e2, e1]
  by_cases c1 : s_cnt 1 PS < s_cnt 0 PS
  · rw [if_pos c1, if_pos c1]
  · rw [if_neg c1, if_neg c1]
theorem c_P_endOf (ok : k_ok G l) {a : Nat} {h : k_H} {cap cap4 : Nat} {pre rest : List k_PT} {x : k_PT} {X : List k_K2} {f : Nat} (h1 : h.1 (a + 6) = some (k_o 9 [vR (some (a + 7))])) (hp : r_ps h (a + 7) cap (pre ++ x :: rest)) (h4 : h.1 (a + 4) = some (k_l (X.map (fun x => x.2)) cap4)) (hX : (X.map (fun x => x.1)).Pairwise (fun x y => x < y)) (hlen : X.length < 2 ^ 20) (hk : ∀ y ∈ X, y.1 < 1331000000000 ∧ ∃ g, h.1 y.2 = some (k_o 7 [vJ (lN y.1), g])) (hf : f ≤ p_end (X.map (fun x => x.1)) (rest.map k_pr)) :
    k_cti (tX6_endOf G l) [vR (some (a + 6)), vI (nI pre.length), vI (nI f), vR (some (a + 4))] h (fun h' v => h' = h ∧ v = nI (p_end (X.map (fun x => x.1)) (rest.map k_pr))) := by
  obtain ⟨p1, p2, p3⟩ := hp
  have hl : (pre ++ x :: rest).length = pre.length + (rest.length + 1) := by simp
  have is7 : k_is h (a + 7) 2 := Or.inr ⟨rfl, _, _, p1⟩
  have is4 : k_is h (a + 4) 2 := Or.inr ⟨rfl, _, _, h4⟩
  refine k_cti_of (eX6_endOf ok.2 (bX6_endOf_0 h1 rfl is7 (c_size ok p1) ?_))
  rintro _ _ ⟨hh, rfl⟩
  rw [hh, List.length_map, nI_1]
  cases rest with
  | nil =>
    refine bX6_endOf_10 (fun z => absurd z (fun z => by have := (nI_ltI (by omega) (by omega)).mp z; rw [hl] at this; simp at this)) (fun _ => bX6_endOf_13 is4 (c_size ok h4) ?_)
    rintro _ _ ⟨hh, rfl⟩
    rw [hh]
    refine bX6_endOf_17 ⟨_, rfl, rfl, ?_⟩
    show nI (X.map (fun x => x.2)).length = nI (X.map (fun x => x.1)).length
    rw [List.length_map, List.length_map]
  | cons q r =>
    have hq : (pre ++ x :: q :: r)[pre.length + 1]? = some q := by
      rw [List.getElem?_append_right (by omega), show pre.length + 1 - pre.length = 1 by omega]; rfl
    have hqm := List.mem_of_getElem? hq
    refine bX6_endOf_10 (fun _ => bX6_endOf_18 h1 rfl is7 (by rw [nI_1]; exact c_get ok p1 (by rw [List.getElem?_map, hq]; rfl)) ?_) (fun z => absurd ((nI_ltI (by omega) (by omega)).mpr (by rw [hl]; simp)) z)
    rintro _ _ ⟨hh, rfl⟩
    rw [hh]
    refine bX6_endOf_28 (p2 q hqm).1 rfl ?_
    have eE : p_end (X.map (fun x => x.1)) ((q :: r).map k_pr) = p_lt q.2.1 (X.map (fun x => x.1)) := rfl
    rw [eE] at hf ⊢
    have key : ∀ (d e : Nat), X.length - e = d → e ≤ p_lt q.2.1 (X.map (fun x => x.1)) → k_X (jX6_endOf G l h) h 39 [(3, vR (some (a + 4))), (4, vJ (lN q.2.1)), (6, vI (nI e))] [] (q_i (fun h' v => h' = h ∧ v = nI (p_lt q.2.1 (X.map (fun x => x.1))))) := by
      intro d
      induction d with
      | zero =>
        intro e hd he
        have h9 := p_lt_le q.2.1 (X.map (fun x => x.1))
        rw [List.length_map] at h9
        refine bX6_endOf_39 is4 (c_size ok h4) ?_
        rintro _ _ ⟨hh, rfl⟩
        rw [hh, List.length_map]
        exact bX6_endOf_45 (fun _ => bX6_endOf_72 ⟨_, rfl, rfl, by rw [show e = p_lt q.2.1 (X.map (fun x => x.1)) by omega]⟩) (fun z => absurd (nI_le (by omega) (by omega)) z)
      | succ d ih =>
        intro e hd he
        have hlt : e < X.length := by omega
        obtain ⟨y, hy⟩ : ∃ y, X[e]? = some y := ⟨_, List.getElem?_eq_getElem hlt⟩
        obtain ⟨hy1, g, hy2⟩ := hk y (List.mem_of_getElem? hy)
        have hyV : (X.map (fun x => x.1))[e]? = some y.1 := by rw [List.getElem?_map, hy]; rfl
        have iff := p_lt_iff (c := q.2.1) hX hyV
        refine bX6_endOf_39 is4 (c_size ok h4) ?_
        rintro _ _ ⟨hh, rfl⟩
        rw [hh, List.length_map]
        refine bX6_endOf_45 (fun z => absurd z (nI_ge hlt (by omega))) (fun _ => bX6_endOf_48 is4 (c_get ok h4 (by rw [List.getElem?_map, hy]; rfl)) ?_)
        rintro _ _ ⟨hh, rfl⟩
        rw [hh]
        have hq62 := (p2 q hqm).2.1
        refine bX6_endOf_54 hy2 rfl (fun c1 => bX6_endOf_72 ⟨_, rfl, rfl, ?_⟩) (fun c1 => bX6_endOf_66 ?_)
        · have c2 := (lX_le hq62 (by omega)).mp c1
          have : ¬ e < p_lt q.2.1 (X.map (fun x => x.1)) := fun z => by have := iff.mpr z; omega
          rw [show e = p_lt q.2.1 (X.map (fun x => x.1)) by omega]
        · have c2 : ¬ q.2.1 ≤ y.1 := fun z => c1 ((lX_le hq62 (by omega)).mpr z)
          have := iff.mp (by omega)
          rw [nI_1]
          exact ih (e + 1) (by omega) (by omega)
    exact key _ f rfl hf
end CPA
end
section
/-! THE CLASS'S PARTS ARE SPLIT AND JOINED -/
theorem pa_cnt (V : List Nat) (c : Nat) (e : List p_T) : p_end V e - p_lt c V ≤ V.length := Nat.le_trans (Nat.sub_le _ _) (p_end_le V e)
/-- a part is added behind another one -/
theorem pa_ins {a : Nat} {h : k_H} {pre rest : List k_PT} {x : k_PT} {lo : Nat} {sv : Int32} {cap : Nat} (hp : c_pa a h (pre ++ x :: rest)) (hc : h.1 (a + 7) = some (k_l ((pre ++ x :: rest).map (fun x => x.1)) cap)) (hlo : lo < 2 ^ 62) (hb : (pre ++ x :: rest).length ≤ 4300) :
    c_pa a (k_gr (k_nw h 3 (o_prt (h.2.1, lo, sv, 0))) (a + 7) (((pre ++ x :: rest).map (fun x => x.1)).insertIdx (pre.length + 1) h.2.1) (pre ++ x :: rest).length cap) (pre ++ x :: (h.2.1, lo, sv, 0) :: rest) ∧
    k_mo a [8] (fun q => q = a + 7) 1 h (k_gr (k_nw h 3 (o_prt (h.2.1, lo, sv, 0))) (a + 7) (((pre ++ x :: rest).map (fun x => x.1)).insertIdx (pre.length + 1) h.2.1) (pre ++ x :: rest).length cap) := by
  obtain ⟨h1, ⟨cap9, p1, p2, p3⟩, h3, h4, h5⟩ := hp
  have m1 : k_mo a [8] (fun q => q = a + 7) 1 h (k_nw h 3 (o_prt (h.2.1, lo, sv, 0))) := mv_nw h5 h4 (by omega)
  have old : ∀ p c, h.1 p = some c → (k_nw h 3 (o_prt (h.2.1, lo, sv, 0))).1 p = some c := fun p c hp => nw_old h5 hp
  have m2 : k_mo a [8] (fun q => q = a + 7) 0 (k_nw h 3 (o_prt (h.2.1, lo, sv, 0))) (k_gr (k_nw h 3 (o_prt (h.2.1, lo, sv, 0))) (a + 7) (((pre ++ x :: rest).map (fun x => x.1)).insertIdx (pre.length + 1) h.2.1) (pre ++ x :: rest).length cap) := mv_gr (old _ _ hc) (by decide) rfl (by show _ ≤ 6500; omega)
  have m := mv_trans m1 m2
  obtain ⟨cap', es⟩ := gr_at (k_nw h 3 (o_prt (h.2.1, lo, sv, 0))) (a + 7) (((pre ++ x :: rest).map (fun x => x.1)).insertIdx (pre.length + 1) h.2.1) (pre ++ x :: rest).length cap
  have ne : ∀ p c, h.1 p = some c → p ≠ a + 7 → (k_gr (k_nw h 3 (o_prt (h.2.1, lo, sv, 0))) (a + 7) (((pre ++ x :: rest).map (fun x => x.1)).insertIdx (pre.length + 1) h.2.1) (pre ++ x :: rest).length cap).1 p = some c := fun p c hp hne => by
    rw [gr_ne _ _ _ _ hne]; exact old _ _ hp
  have enew : (k_gr (k_nw h 3 (o_prt (h.2.1, lo, sv, 0))) (a + 7) (((pre ++ x :: rest).map (fun x => x.1)).insertIdx (pre.length + 1) h.2.1) (pre ++ x :: rest).length cap).1 h.2.1 = some (o_prt (h.2.1, lo, sv, 0)) := by
    rw [gr_ne _ _ _ _ (by omega), k_nw_self]
  have eins : ((pre ++ x :: rest).map (fun x => x.1)).insertIdx (pre.length + 1) h.2.1 = (pre ++ x :: (h.2.1, lo, sv, 0) :: rest).map (fun x => x.1) := by
    have : ∀ (u : List k_PT), ((u ++ x :: rest).map (fun x => x.1)).insertIdx (u.length + 1) h.2.1 = (u ++ x :: (h.2.1, lo, sv, 0) :: rest).map (fun x => x.1) := by
      intro u
      induction u with
      | nil => rfl
      | cons y t ih =>
        rw [List.cons_append, List.map_cons, List.length_cons, List.insertIdx_succ_cons, ih]
        rfl
    exact this pre
  rw [eins] at es enew ne m ⊢
  generalize k_gr (k_nw h 3 (o_prt (h.2.1, lo, sv, 0))) (a + 7) ((pre ++ x :: (h.2.1, lo, sv, 0) :: rest).map (fun x => x.1)) (pre ++ x :: rest).length cap = h' at es enew ne m
  have mem : ∀ y, y ∈ pre ++ x :: (h.2.1, lo, sv, 0) :: rest → y = (h.2.1, lo, sv, 0) ∨ y ∈ pre ++ x :: rest := fun y hy => by
    simp only [List.mem_append, List.mem_cons] at hy ⊢
    rcases hy with hy | hy | hy | hy
    · exact Or.inr (Or.inl hy)
    · exact Or.inr (Or.inr (Or.inl hy))
    · exact Or.inl hy
    · exact Or.inr (Or.inr (Or.inr hy))
  have fresh : ∀ y ∈ pre ++ x :: rest, y.1 ≠ h.2.1 := fun y hy z => by
    have := h5 _ _ (p2 y hy).1
    omega
  refine ⟨⟨ne _ _ h1 (by omega), ⟨cap', es, fun y hy => ?_, ?_⟩, ?_, Nat.le_trans h4 m.2.2.1, m.2.1 h5⟩, m⟩
  · rcases mem y hy with rfl | hy
    · exact ⟨enew, hlo, by show (0 : Nat) < 2 ^ 30; decide⟩
    · have := p2 y hy
      exact ⟨ne _ _ this.1 (fun z => by have h9 := this.1; rw [z, p1] at h9; cases h9), this.2⟩
  · have : (pre ++ x :: (h.2.1, lo, sv, 0) :: rest).length = (pre ++ x :: rest).length + 1 := by simp only [List.length_append, List.length_cons]; omega
    omega
  · rw [List.pairwise_append, List.pairwise_cons] at h3 ⊢
    rw [List.pairwise_cons]
    refine ⟨h3.1, ⟨fun y hy => ?_, fun y hy => ?_, h3.2.1.2⟩, fun y hy w hw => ?_⟩
    · rcases List.mem_cons.mp hy with rfl | hy
      · exact fresh x (by simp)
      · exact h3.2.1.1 y hy
    · exact (fresh y (by simp [hy])).symm
    · rcases List.mem_cons.mp hw with rfl | hw
      · exact h3.2.2 y hy w (List.mem_cons_self ..)
      · rcases List.mem_cons.mp hw with rfl | hw
        · exact fresh y (by simp [hy])
        · exact h3.2.2 y hy w (List.mem_cons_of_mem _ hw)
/-- the keys that are listed -/
def c_kl (a : Nat) (h : k_H) (X : List k_K2) : Prop := (∃ cap, h.1 (a + 4) = some (k_l (X.map (fun x => x.2)) cap)) ∧ ∀ y ∈ X, y.1 < 1331000000000 ∧ ∃ g, h.1 y.2 = some (k_o 7 [vJ (lN y.1), g])
theorem kl_mo {a o : Nat} {h h' : k_H} {X : List k_K2} {PS : List k_PT} (k : c_kl a h X) (hp : c_pa a h PS) (m : k_mo a [8] (fun q => q = a + 7) o h h') : c_kl a h' X := by
  obtain ⟨⟨cap, k1⟩, k2⟩ := k
  obtain ⟨h1, ⟨cap9, p1, p2, p3⟩, h3, h4, h5⟩ := hp
  refine ⟨⟨cap, m.1 _ _ k1 (by omega) (fun ci fs e => by cases e)⟩, fun y hy => ⟨(k2 y hy).1, ?_⟩⟩
  obtain ⟨g, hg⟩ := (k2 y hy).2
  exact ⟨g, m.1 _ _ hg (fun e => by rw [e, p1] at hg; cases hg) (fun ci fs e => by cases e; decide)⟩
section CSP
variable {G : k_G} {l : Launch}
theorem c_P_split (ok : k_ok G l) {a : Nat} {h0 : k_H} {X : List k_K2} (hX : (X.map (fun x => x.1)).Pairwise (fun x y => x < y)) (hlen : X.length ≤ 12600) {R : k_H → k_R → Prop} :
    ∀ (k : Nat) (pre todo : List k_PT) (h : k_H), c_pa a h (pre ++ todo) → c_kl a h X → ((pre ++ todo).map k_pr).Pairwise (fun x y => x.1 < y.1) → p_ms (X.map (fun x => x.1)) (todo.map k_pr) ≤ k → pre.length + p_sz (X.map (fun x => x.1)) (todo.map k_pr) ≤ 4096 → p_ho (X.map (fun x => x.1)) (p_end (X.map (fun x => x.1)) (todo.map k_pr)) pre →
      (∀ (h2 : k_H) (PS2 : List k_PT), c_pa a h2 PS2 → PS2.map k_pr = p_split (X.map (fun x => x.1)) k (pre.map k_pr) (todo.map k_pr) → (PS2.map k_pr).Pairwise (fun x y => x.1 < y.1) → p_ho (X.map (fun x => x.1)) X.length PS2 → (pre ++ todo).length ≤ PS2.length → k_mo a [8] (fun q => q = a + 7) (PS2.length - (pre ++ todo).length) h h2 → R h2 (.inl none)) →
      k_X (jX6_split G l h0) h 4 [(0, vR (some (a + 6))), (1, vR (some (a + 4))), (2, vI (nI (p_end (X.map (fun x => x.1)) (todo.map k_pr)))), (3, vI (nI pre.length))] [] R := by
  have hVl : (X.map (fun x => x.1)).length = X.length := List.length_map _
  intro k
  have nilcase : ∀ (k : Nat) (pre : List k_PT) (h : k_H), c_pa a h (pre ++ []) → ((pre ++ []).map k_pr).Pairwise (fun (x y : p_T) => x.1 < y.1) → p_ho (X.map (fun x => x.1)) (p_end (X.map (fun x => x.1)) (([] : List k_PT).map k_pr)) pre →
      (∀ (h2 : k_H) (PS2 : List k_PT), c_pa a h2 PS2 → PS2.map k_pr = p_split (X.map (fun x => x.1)) k (pre.map k_pr) (([] : List k_PT).map k_pr) → (PS2.map k_pr).Pairwise (fun x y => x.1 < y.1) → p_ho (X.map (fun x => x.1)) X.length PS2 → (pre ++ []).length ≤ PS2.length → k_mo a [8] (fun q => q = a + 7) (PS2.length - (pre ++ []).length) h h2 → R h2 (.inl none)) →
      k_X (jX6_split G l h0) h 4 [(0, vR (some (a + 6))), (1, vR (some (a + 4))), (2, vI (nI (p_end (X.map (fun x => x.1)) (([] : List k_PT).map k_pr)))), (3, vI (nI pre.length))] [] R := by
    intro k pre h hp hs hho K
    obtain ⟨h1, ⟨cap, p1, p2, p3⟩, -⟩ := id hp
    have e : pre ++ [] = pre := List.append_nil _
    refine bX6_split_4 h1 rfl (Or.inr ⟨rfl, _, _, p1⟩) (c_size ok p1) ?_
    rintro _ _ ⟨hh, rfl⟩
    rw [hh, List.length_map]
    rw [e] at p3
    refine bX6_split_12 (fun _ => bX6_split_119 (K h pre (by rw [e] at hp; exact hp) ?_ (by rw [e] at hs; exact hs) (by rw [← hVl]; exact hho) (by rw [e]; exact Nat.le_refl _) (by rw [e, Nat.sub_self]; exact mv_refl _ _ _ _))) (fun z => absurd (by rw [e]; exact nI_le (Nat.le_refl _) (by omega)) z)
    cases k with
    | zero => show pre.map k_pr = pre.map k_pr ++ []; rw [List.append_nil]
    | succ k => rfl
  induction k with
  | zero =>
    intro pre todo h hp hk hs hms hsz hho K
    cases todo with
    | nil => exact nilcase 0 pre h hp hs hho K
    | cons p rest =>
      have : rest.length + 1 + ((X.map (fun x => x.1)).length - p_lt p.2.1 (X.map (fun x => x.1))) ≤ 0 := by
        have h9 : (rest.map k_pr).length + 1 + ((X.map (fun x => x.1)).length - p_lt (k_pr p).1 (X.map (fun x => x.1))) ≤ 0 := hms
        rw [List.length_map] at h9
        exact h9
      omega
  | succ k ih =>
    intro pre todo h hp hk hs hms hsz hho K
    cases todo with
    | nil => exact nilcase (k + 1) pre h hp hs hho K
    | cons x rest =>
      obtain ⟨h1, ⟨cap, p1, p2, p3⟩, h3, h4, h5⟩ := id hp
      have hl : (pre ++ x :: rest).length = pre.length + (rest.length + 1) := by simp
      have hg : (pre ++ x :: rest)[pre.length]? = some x := by rw [List.getElem?_append_right (Nat.le_refl _), Nat.sub_self]; rfl
      have eS : p_end (X.map (fun x => x.1)) ((x :: rest).map k_pr) = p_lt x.2.1 (X.map (fun x => x.1)) := rfl
      rw [eS] at hho ⊢
      have eML : (rest.map k_pr).length = rest.length := List.length_map _
      have hms2 : rest.length + 1 + (X.length - p_lt x.2.1 (X.map (fun x => x.1))) ≤ k + 1 := by
        have h9 : (rest.map k_pr).length + 1 + ((X.map (fun x => x.1)).length - p_lt (k_pr x).1 (X.map (fun x => x.1))) ≤ k + 1 := hms
        rw [eML, hVl] at h9
        exact h9
      have hsz2 : pre.length + (rest.length + 1 + (X.length - p_lt x.2.1 (X.map (fun x => x.1))) / 4) ≤ 4096 := by
        have h9 : pre.length + ((rest.map k_pr).length + 1 + ((X.map (fun x => x.1)).length - p_lt (k_pr x).1 (X.map (fun x => x.1))) / 4) ≤ 4096 := hsz
        rw [eML, hVl] at h9
        exact h9
      rw [List.map_append, List.map_cons] at hs
      have hs2 := List.pairwise_append.mp hs
      have hs3 := List.pairwise_cons.mp hs2.2.1
      have hle : p_lt x.2.1 (X.map (fun x => x.1)) ≤ p_end (X.map (fun x => x.1)) (rest.map k_pr) := by
        cases rest with
        | nil => exact p_lt_le _ _
        | cons q t => exact p_lt_mono (Nat.le_of_lt (hs3.1 (k_pr q) (by simp))) _
      have hel := p_end_le (X.map (fun x => x.1)) (rest.map k_pr)
      rw [hVl] at hel
      have hsplit : p_split (X.map (fun x => x.1)) (k + 1) (pre.map k_pr) ((x :: rest).map k_pr) = if 8 < p_end (X.map (fun x => x.1)) (rest.map k_pr) - p_lt x.2.1 (X.map (fun x => x.1)) then p_split (X.map (fun x => x.1)) k (pre.map k_pr ++ [k_pr x]) (((X.map (fun x => x.1)).getD (p_lt x.2.1 (X.map (fun x => x.1)) + 4) 0, p_idle (pre.map k_pr ++ k_pr x :: rest.map k_pr)) :: rest.map k_pr) else p_split (X.map (fun x => x.1)) k (pre.map k_pr ++ [k_pr x]) (rest.map k_pr) := rfl
      obtain ⟨⟨cap4, q1⟩, q2⟩ := id hk
      have is7 : k_is h (a + 7) 2 := Or.inr ⟨rfl, _, _, p1⟩
      have is4 : k_is h (a + 4) 2 := Or.inr ⟨rfl, _, _, q1⟩
      refine bX6_split_4 h1 rfl is7 (c_size ok p1) ?_
      rintro _ _ ⟨hh, rfl⟩
      rw [hh, List.length_map]
      refine bX6_split_12 (fun z => absurd z (nI_ge (by omega) (by omega))) (fun _ => bX6_split_15 (fun z => absurd ((nI_ltI (a := 65536) (by omega) (by omega)).mp z) (by omega)) (fun _ => bX6_split_21 h1 rfl is7 (c_get ok p1 (by rw [List.getElem?_map, hg]; rfl)) ?_))
      rintro _ _ ⟨hh, rfl⟩
      rw [hh]
      refine bX6_split_29 (p2 x (by simp)).1 (k_is_o h1) (c_P_endOf ok h1 ⟨p1, p2, p3⟩ q1 hX (by omega) q2 hle) ?_
      rintro _ _ ⟨hh, rfl⟩
      rw [hh]
      -- the part's count, and on
      have go : ∀ (h2 : k_H) (rest2 : List k_PT) (o : Nat), c_pa a h2 (pre ++ x :: rest2) → c_kl a h2 X → k_mo a [8] (fun q => q = a + 7) o h h2 → (pre ++ x :: rest2).length = (pre ++ x :: rest).length + o → ((pre ++ x :: rest2).map k_pr).Pairwise (fun x y => x.1 < y.1) → p_lt x.2.1 (X.map (fun x => x.1)) ≤ p_end (X.map (fun x => x.1)) (rest2.map k_pr) → p_ms (X.map (fun x => x.1)) (rest2.map k_pr) ≤ k → pre.length + 1 + p_sz (X.map (fun x => x.1)) (rest2.map k_pr) ≤ 4096 →
          p_split (X.map (fun x => x.1)) (k + 1) (pre.map k_pr) ((x :: rest).map k_pr) = p_split (X.map (fun x => x.1)) k (pre.map k_pr ++ [k_pr x]) (rest2.map k_pr) →
          k_X (jX6_split G l h0) h2 101 [(0, vR (some (a + 6))), (1, vR (some (a + 4))), (2, vI (nI (p_lt x.2.1 (X.map (fun x => x.1))))), (3, vI (nI pre.length)), (4, vR (some x.1)), (5, vI (nI (p_end (X.map (fun x => x.1)) (rest2.map k_pr))))] [] R := by
        intro h2 rest2 o hp2 hk2 hm2 hlen2 hs2 hle2 hms2 hsz2 hsp2
        have hel2 := p_end_le (X.map (fun x => x.1)) (rest2.map k_pr)
        rw [hVl] at hel2
        obtain ⟨g1, ⟨cap2, r1, r2, r3⟩, -⟩ := id hp2
        obtain ⟨u1, u2⟩ := pa_upd hp2 (k := p_end (X.map (fun x => x.1)) (rest2.map k_pr) - p_lt x.2.1 (X.map (fun x => x.1))) (by omega)
        refine bX6_split_101 (r2 x (by simp)).1 rfl ?_
        rw [nI_sub hle2]
        refine bX6_split_110 ?_
        rw [nI_1]
        have ecell : (k_o 8 (List.set [vJ (lN x.2.1), vI x.2.2.1, vI (nI x.2.2.2)] 2 (vI (nI (p_end (X.map (fun x => x.1)) (rest2.map k_pr) - p_lt x.2.1 (X.map (fun x => x.1))))))) = o_prt (x.1, x.2.1, x.2.2.1, p_end (X.map (fun x => x.1)) (rest2.map k_pr) - p_lt x.2.1 (X.map (fun x => x.1))) := rfl
        rw [ecell]
        have hk3 := kl_mo hk2 hp2 u2
        generalize k_up h2 x.1 (o_prt (x.1, x.2.1, x.2.2.1, p_end (X.map (fun x => x.1)) (rest2.map k_pr) - p_lt x.2.1 (X.map (fun x => x.1)))) = h3 at u1 u2 hk3
        have eap : pre ++ (x.1, x.2.1, x.2.2.1, p_end (X.map (fun x => x.1)) (rest2.map k_pr) - p_lt x.2.1 (X.map (fun x => x.1))) :: rest2 = (pre ++ [(x.1, x.2.1, x.2.2.1, p_end (X.map (fun x => x.1)) (rest2.map k_pr) - p_lt x.2.1 (X.map (fun x => x.1)))]) ++ rest2 := by simp
        have elen : (pre ++ [(x.1, x.2.1, x.2.2.1, p_end (X.map (fun x => x.1)) (rest2.map k_pr) - p_lt x.2.1 (X.map (fun x => x.1)))]).length = pre.length + 1 := by simp
        rw [eap] at u1
        rw [← elen]
        refine ih _ rest2 h3 u1 hk3 ?_ hms2 (by rw [elen]; exact hsz2) (p_ho_snoc rfl hho) (fun h4 PS4 v1 v2 v3 v4 v5 v6 => K h4 PS4 v1 ?_ v3 v4 ?_ ?_)
        · rw [List.map_append, List.map_append, List.append_assoc]
          rw [List.map_append, List.map_cons] at hs2
          exact hs2
        · rw [v2, hsp2, List.map_append]
          rfl
        · have : ((pre ++ [(x.1, x.2.1, x.2.2.1, p_end (X.map (fun x => x.1)) (rest2.map k_pr) - p_lt x.2.1 (X.map (fun x => x.1)))]) ++ rest2).length = (pre ++ x :: rest2).length := by simp
          omega
        · have : ((pre ++ [(x.1, x.2.1, x.2.2.1, p_end (X.map (fun x => x.1)) (rest2.map k_pr) - p_lt x.2.1 (X.map (fun x => x.1)))]) ++ rest2).length = (pre ++ x :: rest2).length := by simp
          exact mv_mono (mv_trans (mv_trans hm2 u2) v6) (fun _ h => h) (fun _ h => h) (by omega)
      have hs' : ((pre ++ x :: rest).map k_pr).Pairwise (fun x y => x.1 < y.1) := by rw [List.map_append, List.map_cons]; exact hs
      refine bX6_split_41 (fun c1 => ?_) (fun c1 => ?_)
      · rw [nI_sub hle] at c1
        have c2 := (nI_leI (b := 8) (by omega) (by omega)).mp c1
        rw [if_neg (by omega)] at hsplit
        refine go h rest 0 hp hk (mv_refl _ _ _ _) rfl hs' hle ?_ ?_ hsplit
        · cases rest with
          | nil => exact Nat.zero_le _
          | cons q t =>
            have := p_lt_mono (Nat.le_of_lt (hs3.1 (k_pr q) (by simp))) (X.map (fun x => x.1))
            show (t.map k_pr).length + 1 + ((X.map (fun x => x.1)).length - p_lt (k_pr q).1 (X.map (fun x => x.1))) ≤ k
            rw [List.length_map, hVl]
            simp only [List.length_cons] at hms2
            have e9 : (k_pr x).1 = x.2.1 := rfl
            rw [e9] at this
            omega
        · cases rest with
          | nil => show pre.length + 1 + 0 ≤ 4096; omega
          | cons q t =>
            have := p_lt_mono (Nat.le_of_lt (hs3.1 (k_pr q) (by simp))) (X.map (fun x => x.1))
            show pre.length + 1 + ((t.map k_pr).length + 1 + ((X.map (fun x => x.1)).length - p_lt (k_pr q).1 (X.map (fun x => x.1))) / 4) ≤ 4096
            rw [List.length_map, hVl]
            simp only [List.length_cons] at hsz2
            have e9 : (k_pr x).1 = x.2.1 := rfl
            rw [e9] at this
            omega
      · rw [nI_sub hle] at c1
        have c2 : ¬ (p_end (X.map (fun x => x.1)) (rest.map k_pr) - p_lt x.2.1 (X.map (fun x => x.1))) ≤ 8 := fun z => c1 ((nI_leI (b := 8) (by omega) (by omega)).mpr z)
        rw [if_pos (by omega)] at hsplit
        have h5' : p_lt x.2.1 (X.map (fun x => x.1)) + 4 < X.length := by omega
        obtain ⟨y, hy⟩ : ∃ y, X[p_lt x.2.1 (X.map (fun x => x.1)) + 4]? = some y := ⟨_, List.getElem?_eq_getElem h5'⟩
        have hyV : (X.map (fun x => x.1))[p_lt x.2.1 (X.map (fun x => x.1)) + 4]? = some y.1 := by rw [List.getElem?_map, hy]; rfl
        have hyD : (X.map (fun x => x.1)).getD (p_lt x.2.1 (X.map (fun x => x.1)) + 4) 0 = y.1 := by rw [List.getD_eq_getElem?_getD, hyV]; rfl
        have hyat := p_lt_at hX hyV
        obtain ⟨hy1, gg, hy2⟩ := q2 y (List.mem_of_getElem? hy)
        rw [hyD] at hsplit
        refine bX6_split_52 is4 (c_size ok q1) ?_
        rintro _ _ ⟨hh, rfl⟩
        rw [hh, List.length_map, show (4 : Int32) = nI 4 from rfl, nI_add]
        refine bX6_split_59 (fun z => absurd z (nI_ge h5' (by omega))) (fun _ => bX6_split_62 h1 rfl ?_)
        have old : ∀ p c, h.1 p = some c → (k_nw h 3 (k_o 8 [vJ 0, vI 0, vI 0])).1 p = some c := fun p c hp => nw_old h5 hp
        rw [nI_1]
        refine bX6_split_72 (Or.inr ⟨rfl, _, _, old _ _ q1⟩) (by rw [show (4 : Int32) = nI 4 from rfl, nI_add]; exact c_get ok (old _ _ q1) (by rw [List.getElem?_map, hy]; rfl)) ?_
        rintro _ _ ⟨hh, rfl⟩
        rw [hh]
        refine bX6_split_80 (old _ _ hy2) rfl (k_is_o (old _ _ h1)) (c_P_idlest ok (old _ _ h1) ⟨old _ _ p1, fun z hz => ⟨old _ _ (p2 z hz).1, (p2 z hz).2⟩, p3⟩) ?_
        rintro _ _ ⟨hh, rfl⟩
        rw [hh]
        refine bX6_split_90 (c_X5_init ok (k_nw_self _ _ _)) ?_
        rintro h6 e6
        rw [up_nw] at e6
        have eP : (k_o 8 [vJ (lN y.1), vI (p_idle ((pre ++ x :: rest).map k_pr)), vI 0]) = o_prt (h.2.1, y.1, p_idle ((pre ++ x :: rest).map k_pr), 0) := rfl
        rw [eP] at e6
        obtain ⟨v1, v2⟩ := pa_ins (lo := y.1) (sv := p_idle ((pre ++ x :: rest).map k_pr)) hp p1 (by omega) (by omega)
        rw [← e6] at v1 v2
        have old6 : ∀ p c, h.1 p = some c → h6.1 p = some c := fun p c hp => by rw [e6]; exact nw_old h5 hp
        have w6 : k_wf h6 := by rw [e6]; exact wf_nw h5
        have enew : h6.1 h.2.1 = some (o_prt (h.2.1, y.1, p_idle ((pre ++ x :: rest).map k_pr), 0)) := by rw [e6]; exact k_nw_self _ _ _
        refine bX6_split_93 (Or.inr ⟨rfl, _, _, old6 _ _ p1⟩) (c_addAt ok w6 (old6 _ _ p1) (by rw [List.length_map]; exact p3) (by rw [List.length_map]; omega) (fun z hz => by
          obtain ⟨w, hw, rfl⟩ := List.mem_map.mp hz
          exact el_prt (old6 _ _ (p2 w hw).1)) (el_prt enew)) ?_
        rintro h7 e7
        rw [List.length_map] at e7
        rw [← e7] at v1 v2
        refine bX6_split_96 ?_
        rw [show (4 : Int32) = nI 4 from rfl, nI_add]
        have hE2 : p_end (X.map (fun x => x.1)) (((h.2.1, y.1, p_idle ((pre ++ x :: rest).map k_pr), 0) :: rest : List k_PT).map k_pr) = p_lt x.2.1 (X.map (fun x => x.1)) + 4 := hyat
        have G := go h7 ((h.2.1, y.1, p_idle ((pre ++ x :: rest).map k_pr), 0) :: rest) 1 v1 (kl_mo hk hp v2) v2 (by simp only [List.length_append, List.length_cons]; omega) ?_ (by rw [hE2]; omega) ?_ ?_ ?_
        · rw [hE2] at G
          exact G
        · have hxy : x.2.1 < y.1 := by
            refine Nat.lt_of_not_le fun z => ?_
            have := p_lt_mono z (X.map (fun x => x.1))
            omega
          have hyr : ∀ q ∈ rest, y.1 < q.2.1 := fun q hq => by
            cases rest with
            | nil => cases hq
            | cons q0 t =>
              have h9 : p_end (X.map (fun x => x.1)) ((q0 :: t).map k_pr) = p_lt q0.2.1 (X.map (fun x => x.1)) := rfl
              rw [h9] at c2
              have h10 : y.1 < q0.2.1 := by
                refine Nat.lt_of_not_le fun z => ?_
                have := p_lt_mono z (X.map (fun x => x.1))
                omega
              rcases List.mem_cons.mp hq with rfl | hq
              · exact h10
              · have h11 := (List.pairwise_cons.mp hs3.2).1 (k_pr q) (List.mem_map.mpr ⟨q, hq, rfl⟩)
                exact Nat.lt_trans h10 h11
          rw [List.map_append, List.map_cons, List.map_cons, List.pairwise_append, List.pairwise_cons, List.pairwise_cons]
          refine ⟨hs2.1, ⟨fun z hz => ?_, fun z hz => ?_, hs3.2⟩, fun z hz u hu => ?_⟩
          · rcases List.mem_cons.mp hz with rfl | hz
            · exact hxy
            · exact hs3.1 z hz
          · obtain ⟨q, hq, rfl⟩ := List.mem_map.mp hz
            exact hyr q hq
          · rcases List.mem_cons.mp hu with rfl | hu
            · exact hs2.2.2 z hz _ (List.mem_cons_self ..)
            · rcases List.mem_cons.mp hu with rfl | hu
              · have h12 := hs2.2.2 z hz (k_pr x) (List.mem_cons_self ..)
                exact Nat.lt_trans h12 hxy
              · exact hs2.2.2 z hz u (List.mem_cons_of_mem _ hu)
        · show (rest.map k_pr).length + 1 + ((X.map (fun x => x.1)).length - p_lt y.1 (X.map (fun x => x.1))) ≤ k
          rw [List.length_map, hVl, hyat]
          omega
        · show pre.length + 1 + ((rest.map k_pr).length + 1 + ((X.map (fun x => x.1)).length - p_lt y.1 (X.map (fun x => x.1))) / 4) ≤ 4096
          rw [List.length_map, hVl, hyat]
          omega
        · rw [hsplit, List.map_append, List.map_cons]
          rfl
end CSP
end
section
/-! THE CLASS'S PARTS ARE JOINED -/
theorem pa_del {a : Nat} {h : k_H} {pre rest : List k_PT} {x y : k_PT} {cap : Nat} (hp : c_pa a h (pre ++ x :: y :: rest)) (hc : h.1 (a + 7) = some (k_l ((pre ++ x :: y :: rest).map (fun x => x.1)) cap)) :
    c_pa a (k_up h (a + 7) (k_l (((pre ++ x :: y :: rest).map (fun x => x.1)).eraseIdx (pre.length + 1)) cap)) (pre ++ x :: rest) ∧ k_mo a [8] (fun q => q = a + 7) 0 h (k_up h (a + 7) (k_l (((pre ++ x :: y :: rest).map (fun x => x.1)).eraseIdx (pre.length + 1)) cap)) := by
  obtain ⟨h1, ⟨cap9, p1, p2, p3⟩, h3, h4, h5⟩ := hp
  have eera : ((pre ++ x :: y :: rest).map (fun x => x.1)).eraseIdx (pre.length + 1) = (pre ++ x :: rest).map (fun x => x.1) := by
    have : ∀ (u : List k_PT), ((u ++ x :: y :: rest).map (fun x => x.1)).eraseIdx (u.length + 1) = (u ++ x :: rest).map (fun x => x.1) := by
      intro u
      induction u with
      | nil => rfl
      | cons z t ih =>
        rw [List.cons_append, List.map_cons, List.length_cons, List.eraseIdx_cons_succ, ih]
        rfl
    exact this pre
  have m : k_mo a [8] (fun q => q = a + 7) 0 h (k_up h (a + 7) (k_l (((pre ++ x :: y :: rest).map (fun x => x.1)).eraseIdx (pre.length + 1)) cap)) := mv_lu hc (by decide) rfl
  refine ⟨⟨?_, ⟨cap, ?_, fun z hz => ?_, ?_⟩, ?_, h4, wf_up h5 hc⟩, m⟩
  · rw [k_up_ne _ _ (by omega)]; exact h1
  · rw [k_up_self, eera]
  · have hz2 : z ∈ pre ++ x :: y :: rest := by
      simp only [List.mem_append, List.mem_cons] at hz ⊢
      rcases hz with hz | hz | hz
      · exact Or.inl hz
      · exact Or.inr (Or.inl hz)
      · exact Or.inr (Or.inr (Or.inr hz))
    have := p2 z hz2
    exact ⟨by rw [k_up_ne _ _ (fun e => by have h9 := this.1; rw [e, p1] at h9; cases h9)]; exact this.1, this.2⟩
  · simp only [List.length_append, List.length_cons] at p3 ⊢
    omega
  · refine h3.sublist ?_
    exact List.Sublist.append (List.Sublist.refl _) (List.Sublist.cons_cons _ (List.sublist_cons_self _ _))
theorem p_ho_app {V : List Nat} {e : Nat} {x : k_PT} {rest : List k_PT} : ∀ {pre : List k_PT}, p_ho V e (pre ++ x :: rest) → p_ho V e (x :: rest) := by
  intro pre
  induction pre with
  | nil => exact fun h => h
  | cons y t ih => exact fun h => ih h.2
/-- two parts become one -/
theorem p_ho_join {V : List Nat} {e k : Nat} {x y : k_PT} {rest : List k_PT} (hk : k = (match rest with | [] => e | z :: _ => p_lt z.2.1 V) - p_lt x.2.1 V) : ∀ {pre : List k_PT}, p_ho V e (pre ++ x :: y :: rest) → p_ho V e (pre ++ (x.1, x.2.1, x.2.2.1, k) :: rest) := by
  intro pre
  induction pre with
  | nil => exact fun h => ⟨hk, h.2.2⟩
  | cons w t ih =>
    rintro ⟨h1, h2⟩
    refine ⟨?_, ih h2⟩
    cases t with
    | nil => exact h1
    | cons u v => exact h1
section CJN
variable {G : k_G} {l : Launch}
theorem c_P_join (ok : k_ok G l) {a : Nat} {h0 : k_H} {V : List Nat} (hV : V.length ≤ 12600) {R : k_H → k_R → Prop} :
    ∀ (k : Nat) (pre rest : List k_PT) (x : k_PT) (h : k_H), rest.length = k → c_pa a h (pre ++ x :: rest) → ((pre ++ x :: rest).map k_pr).Pairwise (fun x y => x.1 < y.1) → p_ho V V.length (pre ++ x :: rest) →
      (∀ (h2 : k_H) (PS2 : List k_PT), c_pa a h2 PS2 → PS2.map k_pr = pre.map k_pr ++ p_join V (k_pr x) (rest.map k_pr) → (PS2.map k_pr).Pairwise (fun x y => x.1 < y.1) → p_ho V V.length PS2 → k_mo a [8] (fun q => q = a + 7) 0 h h2 → R h2 (.inl none)) →
      k_X (jX6_join G l h0) h 2 [(0, vR (some (a + 6))), (1, vI (nI pre.length))] [] R := by
  intro k
  induction k with
  | zero =>
    intro pre rest x h hr hp hs hho K
    obtain ⟨h1, ⟨cap, p1, p2, p3⟩, -⟩ := id hp
    have er : rest = [] := List.eq_nil_of_length_eq_zero hr
    subst er
    refine bX6_join_2 h1 rfl (Or.inr ⟨rfl, _, _, p1⟩) (c_size ok p1) ?_
    rintro _ _ ⟨hh, rfl⟩
    rw [hh, List.length_map, nI_1]
    have hl : (pre ++ [x]).length = pre.length + 1 := by simp
    refine bX6_join_12 (fun _ => bX6_join_79 (K h _ hp ?_ hs hho (mv_refl _ _ _ _))) (fun z => absurd (by rw [hl]; exact nI_le (Nat.le_refl _) (by omega)) z)
    rw [List.map_append]
    rfl
  | succ k ih =>
    intro pre rest x h hr hp hs hho K
    cases rest with
    | nil => cases hr
    | cons y r =>
      obtain ⟨h1, ⟨cap, p1, p2, p3⟩, -⟩ := id hp
      have hl : (pre ++ x :: y :: r).length = pre.length + (r.length + 1 + 1) := by simp
      have hg : (pre ++ x :: y :: r)[pre.length]? = some x := by rw [List.getElem?_append_right (Nat.le_refl _), Nat.sub_self]; rfl
      have hg2 : (pre ++ x :: y :: r)[pre.length + 1]? = some y := by rw [List.getElem?_append_right (by omega), show pre.length + 1 - pre.length = 1 by omega]; rfl
      have is7 : k_is h (a + 7) 2 := Or.inr ⟨rfl, _, _, p1⟩
      obtain ⟨b1, b2, -⟩ := p_ho_app hho
      have b1' : x.2.2.2 = p_lt y.2.1 V - p_lt x.2.1 V := b1
      have b2' : y.2.2.2 = p_end V (r.map k_pr) - p_lt y.2.1 V := by
        rw [b2]
        cases r with
        | nil => rfl
        | cons z t => rfl
      rw [List.map_append, List.map_cons, List.map_cons] at hs
      have hs2 := List.pairwise_append.mp hs
      have hs3 := List.pairwise_cons.mp hs2.2.1
      have hs4 := List.pairwise_cons.mp hs3.2
      have hxy := p_lt_mono (Nat.le_of_lt (hs3.1 (k_pr y) (List.mem_cons_self ..))) V
      have hyr : p_lt y.2.1 V ≤ p_end V (r.map k_pr) := by
        cases r with
        | nil => exact p_lt_le _ _
        | cons z t => exact p_lt_mono (Nat.le_of_lt (hs4.1 (k_pr z) (by simp))) V
      have hel := p_end_le V (r.map k_pr)
      have hxy' : p_lt x.2.1 V ≤ p_lt y.2.1 V := hxy
      have esum : x.2.2.2 + y.2.2.2 = p_end V (r.map k_pr) - p_lt x.2.1 V := by omega
      have hj : p_join V (k_pr x) ((y :: r).map k_pr) = if p_end V (r.map k_pr) - p_lt x.2.1 V < 4 then p_join V (k_pr x) (r.map k_pr) else k_pr x :: p_join V (k_pr y) (r.map k_pr) := rfl
      refine bX6_join_2 h1 rfl is7 (c_size ok p1) ?_
      rintro _ _ ⟨hh, rfl⟩
      rw [hh, List.length_map, nI_1]
      refine bX6_join_12 (fun z => absurd z (nI_ge (by omega) (by omega))) (fun _ => bX6_join_15 h1 rfl is7 (c_get ok p1 (by rw [List.getElem?_map, hg]; rfl)) ?_)
      rintro _ _ ⟨hh, rfl⟩
      rw [hh]
      refine bX6_join_23 (p2 x (by simp)).1 rfl h1 rfl is7 (by rw [nI_1]; exact c_get ok p1 (by rw [List.getElem?_map, hg2]; rfl)) ?_
      rintro _ _ ⟨hh, rfl⟩
      rw [hh]
      refine bX6_join_41 (p2 y (by simp)).1 rfl (fun c1 => ?_) (fun c1 => ?_)
      · rw [nI_add, esum] at c1
        have c2 : ¬ p_end V (r.map k_pr) - p_lt x.2.1 V < 4 := fun z => by
          have := (nI_leI (a := 4) (b := p_end V (r.map k_pr) - p_lt x.2.1 V) (by omega) (by omega)).mp c1
          omega
        rw [hj, if_neg c2] at K
        refine bX6_join_73 (bX6_join_76 ?_)
        have eap : pre ++ x :: y :: r = (pre ++ [x]) ++ y :: r := by simp
        have elen : (pre ++ [x]).length = pre.length + 1 := by simp
        rw [nI_1, ← elen]
        refine ih (pre ++ [x]) r y h (by simpa using hr) (by rw [← eap]; exact hp) (by rw [← eap, List.map_append, List.map_cons, List.map_cons]; exact hs) (by rw [← eap]; exact hho) (fun h2 PS2 k1 k2 k3 k4 k5 => K h2 PS2 k1 ?_ k3 k4 k5)
        rw [k2, List.map_append, List.append_assoc]
        rfl
      · rw [nI_add, esum] at c1 ⊢
        have c2 : p_end V (r.map k_pr) - p_lt x.2.1 V < 4 := Nat.lt_of_not_le fun z => c1 ((nI_leI (a := 4) (by omega) (by omega)).mpr z)
        rw [hj, if_pos c2] at K
        obtain ⟨u1, u2⟩ := pa_upd hp (k := p_end V (r.map k_pr) - p_lt x.2.1 V) (by omega)
        refine bX6_join_54 (p2 x (by simp)).1 rfl ?_
        have ecell : (k_o 8 (List.set [vJ (lN x.2.1), vI x.2.2.1, vI (nI x.2.2.2)] 2 (vI (nI (p_end V (r.map k_pr) - p_lt x.2.1 V))))) = o_prt (x.1, x.2.1, x.2.2.1, p_end V (r.map k_pr) - p_lt x.2.1 V) := rfl
        rw [ecell]
        generalize k_up h x.1 (o_prt (x.1, x.2.1, x.2.2.1, p_end V (r.map k_pr) - p_lt x.2.1 V)) = h2 at u1 u2
        obtain ⟨g1, ⟨cap2, r1, r2, r3⟩, -⟩ := id u1
        obtain ⟨v1, v2⟩ := pa_del u1 r1
        have hg3 : ((pre ++ (x.1, x.2.1, x.2.2.1, p_end V (r.map k_pr) - p_lt x.2.1 V) :: y :: r).map (fun x => x.1))[pre.length + 1]? = some y.1 := by
          rw [List.getElem?_map, List.getElem?_append_right (by omega), show pre.length + 1 - pre.length = 1 by omega]; rfl
        refine bX6_join_59 g1 rfl (Or.inr ⟨rfl, _, _, r1⟩) (by rw [nI_1]; exact c_removeAt ok r1 hg3 (fun z hz => by
          obtain ⟨w, hw, rfl⟩ := List.mem_map.mp hz
          exact el_prt (r2 w hw).1)) ?_
        rintro h3 _ ⟨e3, rfl⟩
        rw [← e3] at v1 v2
        refine bX6_join_69 (bX6_join_76 ?_)
        refine ih pre r (x.1, x.2.1, x.2.2.1, p_end V (r.map k_pr) - p_lt x.2.1 V) h3 (by simpa using hr) v1 ?_ ?_ (fun h4 PS2 k1 k2 k3 k4 k5 => K h4 PS2 k1 k2 k3 k4 (mv_mono (mv_trans (mv_trans u2 v2) k5) (fun _ h => h) (fun _ h => h) (by omega)))
        · rw [List.map_append, List.map_cons, List.pairwise_append, List.pairwise_cons]
          refine ⟨hs2.1, ⟨fun z hz => hs3.1 z (List.mem_cons_of_mem _ hz), hs4.2⟩, fun z hz w hw => ?_⟩
          rcases List.mem_cons.mp hw with rfl | hw
          · exact hs2.2.2 z hz (k_pr x) (List.mem_cons_self ..)
          · exact hs2.2.2 z hz w (List.mem_cons_of_mem _ (List.mem_cons_of_mem _ hw))
        · refine p_ho_join ?_ hho
          cases r with
          | nil => rfl
          | cons z t => rfl
theorem c_X6_split (ok : k_ok G l) {a : Nat} {h : k_H} {X : List k_K2} {PS : List k_PT} (hp : c_pa a h PS) (hk : c_kl a h X) (hX : (X.map (fun x => x.1)).Pairwise (fun x y => x < y)) (hlen : X.length ≤ 12600) (hs : (PS.map k_pr).Pairwise (fun x y => x.1 < y.1)) (hne : PS ≠ []) (h0 : ∀ x ∈ PS.head?, x.2.1 = 0) (hsz : PS.length + X.length / 4 ≤ 4096) :
    k_ctv (tX6_split G l) [vR (some (a + 6)), vR (some (a + 4))] h (fun h2 => ∃ PS2, c_pa a h2 PS2 ∧ PS2.map k_pr = p_split (X.map (fun x => x.1)) (PS.length + X.length) [] (PS.map k_pr) ∧ (PS2.map k_pr).Pairwise (fun x y => x.1 < y.1) ∧ p_ho (X.map (fun x => x.1)) X.length PS2 ∧ PS.length ≤ PS2.length ∧ k_mo a [8] (fun q => q = a + 7) (PS2.length - PS.length) h h2) := by
  cases PS with
  | nil => exact absurd rfl hne
  | cons x rest =>
    have hx : x.2.1 = 0 := h0 x rfl
    have e0 : p_end (X.map (fun x => x.1)) ((x :: rest).map k_pr) = 0 := by
      show p_lt x.2.1 _ = 0
      rw [hx]
      unfold p_lt
      rw [List.filter_eq_nil_iff.mpr (fun y _ => by simp)]
      rfl
    refine k_ctv_of (eX6_split ok.2 (bX6_split_0 ?_))
    have C := c_P_split ok (h0 := h) (a := a) hX hlen (R := q_v (fun h2 => ∃ PS2, c_pa a h2 PS2 ∧ PS2.map k_pr = p_split (X.map (fun x => x.1)) ((x :: rest).length + X.length) [] ((x :: rest).map k_pr) ∧ (PS2.map k_pr).Pairwise (fun x y => x.1 < y.1) ∧ p_ho (X.map (fun x => x.1)) X.length PS2 ∧ (x :: rest).length ≤ PS2.length ∧ k_mo a [8] (fun q => q = a + 7) (PS2.length - (x :: rest).length) h h2)) ((x :: rest).length + X.length) [] (x :: rest) h hp hk hs ?_ ?_ trivial (fun h2 PS2 k1 k2 k3 k4 k5 k6 => ⟨rfl, PS2, k1, k2, k3, k4, k5, k6⟩)
    · rw [e0] at C
      exact C
    · show (rest.map k_pr).length + 1 + ((X.map (fun x => x.1)).length - _) ≤ rest.length + 1 + X.length
      rw [List.length_map, List.length_map]
      omega
    · show 0 + ((rest.map k_pr).length + 1 + ((X.map (fun x => x.1)).length - _) / 4) ≤ 4096
      rw [List.length_map, List.length_map]
      simp only [List.length_cons] at hsz
      have : (X.length - p_lt (k_pr x).1 (X.map (fun x => x.1))) / 4 ≤ X.length / 4 := Nat.div_le_div_right (Nat.sub_le _ _)
      omega
theorem c_X6_join (ok : k_ok G l) {a : Nat} {h : k_H} {V : List Nat} {PS : List k_PT} {x : k_PT} {rest : List k_PT} (e : PS = x :: rest) (hp : c_pa a h PS) (hV : V.length ≤ 12600) (hs : (PS.map k_pr).Pairwise (fun x y => x.1 < y.1)) (hho : p_ho V V.length PS) :
    k_ctv (tX6_join G l) [vR (some (a + 6))] h (fun h2 => ∃ PS2, c_pa a h2 PS2 ∧ PS2.map k_pr = p_join V (k_pr x) (rest.map k_pr) ∧ (PS2.map k_pr).Pairwise (fun x y => x.1 < y.1) ∧ p_ho V V.length PS2 ∧ k_mo a [8] (fun q => q = a + 7) 0 h h2) := by
  subst e
  refine k_ctv_of (eX6_join ok.2 (bX6_join_0 ?_))
  exact c_P_join ok hV rest.length [] rest x h rfl hp hs hho (fun h2 PS2 k1 k2 k3 k4 k5 => ⟨rfl, PS2, k1, k2, k3, k4, k5⟩)
end CJN
end
section
/-! THE CLASS'S TRANSACTIONS, AS ONE PREDICATE -/
def c_T (t : Nat) : Nat := if t = 0 then 16 else 17 + 3 * t
def c_dn (d : Nat) : Int32 := if d = 0 then -2147483648 else nI d
def c_wc (y : k_CH) : Prop := y.2.2.1 < y.2.2.2.1 ∧ y.2.2.2.1 ≤ 1331000000000 ∧ (¬ 1 < y.2.2.2.1 - y.2.2.1 ∨ y.2.1 = 1) ∧ (y.2.1 = 6 → s_pl y.2.2.2.2.2 = s_stp (m_ck y) y.2.2.1) ∧ (y.2.1 = 6 → y.2.2.1 / 121000000 = 996 → y.2.2.1 = s_cd (-4) 0 (s_no y.2.2.1 2))
abbrev k_CX : Type := k_CH × Nat
def c_mc (CX : List k_CX) : List k_CH := (CX.filter (fun y => !(decide (y.1.2.1 = 7)))).map (fun y => (y.2, y.1.2))
def c_rr (CX : List k_CX) (sp : k_SP) (r : Nat × Nat × Nat) : Prop := sp.2.1 = r.1 ∧ (sp.2.2.1 = r.2.1 ∨ (sp.2.2.1 = 1331000000000 ∧ r.2.1 = 1331000000001)) ∧ (∀ (j : Nat) (y : k_CX), CX[j]? = some y → (j < sp.2.2.2 ↔ y.2 ≤ r.2.2)) ∧ sp.2.2.2 ≤ CX.length
def c_tr (CX : List k_CX) (RS : List k_SP) (x : s_X) (ser w kept : Nat) : Prop :=
  (x.2.1 = c_mc CX ∧ kept = x.2.1.length) ∧ ((CX.map (fun y => y.2)).Pairwise (fun x y => x < y) ∧ ∀ y ∈ CX, y.2 ≤ ser ∧ c_wc y.1) ∧ (RS.length = x.2.2.length ∧ (∀ (i : Nat) (sp : k_SP) (r : Nat × Nat × Nat), RS[i]? = some sp → x.2.2[i]? = some r → c_rr CX sp r) ∧ ∀ r ∈ x.2.2, r.2.2 ≤ ser) ∧ (CX.filter (fun y => decide (y.1.2.1 = 7))).length ≤ w
def c_tb (a : Nat) (h : k_H) (t : Nat) (CX : List k_CX) (x : s_X) (ser w : Nat) : Prop := ∃ (RS : List k_SP) (cap capR kept : Nat),
  h.1 (a + c_T t) = some (k_o 12 [vR (some (a + (c_T t + 1))), vR (some (a + (c_T t + 2))), vI (kB x.1.1), vI (kB x.1.2.1), vI (nI x.1.2.2.1), vI (nI x.1.2.2.2.1), vI (c_dn x.1.2.2.2.2), vI (nI kept)]) ∧
  (r_cs h (a + (c_T t + 1)) cap (CX.map (fun y => y.1)) ∧ r_rs h (a + (c_T t + 2)) capR RS ∧ CX.Pairwise (fun x y => x.1.1 ≠ y.1.1)) ∧ (x.1.1 = true → c_tr CX RS x ser w kept)
def c_TX (a : Nat) (h : k_H) (X : Nat → s_X) (ser w : Nat) : Prop := ∃ CXf : Nat → List k_CX, (∀ t, t < 4 → c_tb a h t (CXf t) (X t) ser w) ∧ (∀ t u, t < 4 → u < 4 → t ≠ u → ∀ y ∈ CXf t, ∀ z ∈ CXf u, y.1.1 ≠ z.1.1) ∧ a + 31 ≤ h.2.1 ∧ k_wf h
theorem c_T_lt {t : Nat} (h : t < 4) : c_T t + 2 < 31 ∧ 16 ≤ c_T t := by unfold c_T; split <;> omega
theorem c_T_ne {t u : Nat} (h : t ≠ u) : c_T t ≠ c_T u ∧ c_T t ≠ c_T u + 1 ∧ c_T t ≠ c_T u + 2 ∧ c_T t + 1 ≠ c_T u + 2 ∧ c_T t + 2 ≠ c_T u + 1 := by unfold c_T; split <;> split <;> omega
theorem tb_fr {a : Nat} {K : List Nat} {A : Nat → Prop} {h h' : k_H} {t : Nat} {CX : List k_CX} {x : s_X} {ser w : Nat} (b : c_tb a h t CX x ser w) (m : k_fr K A h h') (hK : 4 ∉ K ∧ 10 ∉ K ∧ 12 ∉ K) (hA : ∀ q ci fs, h.1 q = some (k_o ci fs) → ci = 4 ∨ ci = 10 → ¬ A q) (hL : ¬ A (a + c_T t) ∧ ¬ A (a + (c_T t + 1)) ∧ ¬ A (a + (c_T t + 2))) : c_tb a h' t CX x ser w := by
  obtain ⟨RS, cap, capR, kept, o, ⟨c1, c2, c3⟩, c4⟩ := b
  refine ⟨RS, cap, capR, kept, m _ _ o hL.1 (fun ci fs e => by cases e; exact hK.2.2), ⟨⟨m _ _ c1.1 hL.2.1 (fun ci fs e => by cases e), fun y hy => ⟨?_, (c1.2.1 y hy).2⟩, c1.2.2⟩, ⟨m _ _ c2.1 hL.2.2 (fun ci fs e => by cases e), fun y hy => ⟨?_, (c2.2.1 y hy).2⟩, c2.2.2⟩, c3⟩, c4⟩
  · have := (c1.2.1 y hy).1
    exact m _ _ this (hA _ _ _ this (by simp)) (fun ci fs e => by cases e; exact hK.1)
  · have := (c2.2.1 y hy).1
    exact m _ _ this (hA _ _ _ this (by simp)) (fun ci fs e => by cases e; exact hK.2.1)
theorem TX_fr {a o : Nat} {K : List Nat} {A : Nat → Prop} {h h' : k_H} {X : Nat → s_X} {ser w : Nat} (b : c_TX a h X ser w) (m : k_mo a K A o h h') (hK : 4 ∉ K ∧ 10 ∉ K ∧ 12 ∉ K) (hA : ∀ q ci fs, h.1 q = some (k_o ci fs) → ci = 4 ∨ ci = 10 → ¬ A q) (hL : ∀ i, 15 < i → i < 31 → ¬ A (a + i)) : c_TX a h' X ser w := by
  obtain ⟨CXf, b1, b2, b3, b4⟩ := b
  exact ⟨CXf, fun t ht => tb_fr (b1 t ht) m.1 hK hA ⟨hL _ (by have := c_T_lt ht; omega) (by have := c_T_lt ht; omega), hL _ (by have := c_T_lt ht; omega) (by have := c_T_lt ht; omega), hL _ (by have := c_T_lt ht; omega) (by have := c_T_lt ht; omega)⟩, b2, Nat.le_trans b3 m.2.2.1, m.2.1 b4⟩
/-- what a transaction sees, by the reference's changes -/
theorem see_mc (c : Nat) : ∀ (CX : List k_CX) (z : Option Int32 × Bool), s_see c (CX.map (fun y => y.1)) z = s_see c (c_mc CX) z := by
  intro CX
  induction CX with
  | nil => exact fun z => rfl
  | cons y t ih =>
    intro z
    by_cases e : y.1.2.1 = 7
    · have e1 : c_mc (y :: t) = c_mc t := by
        unfold c_mc
        rw [List.filter_cons_of_neg (by simp [e])]
      rw [e1, ← ih]
      show s_see c (y.1 :: t.map (fun y => y.1)) z = _
      unfold s_see
      rw [List.foldl_cons, if_neg]
      unfold s_cov s_ord
      rw [e]
      simp
    · have e1 : c_mc (y :: t) = (y.2, y.1.2) :: c_mc t := by
        unfold c_mc
        rw [List.filter_cons_of_pos (by simp [e]), List.map_cons]
      rw [e1]
      show s_see c (y.1 :: t.map (fun y => y.1)) z = s_see c ((y.2, y.1.2) :: c_mc t) z
      have h1 : ∀ w, s_see c (t.map (fun y => y.1)) w = s_see c (c_mc t) w := ih
      unfold s_see at h1 ⊢
      rw [List.foldl_cons, List.foldl_cons, h1]
      rfl
/-- one of the first changes says all -/
theorem own_mc {CX : List k_CX} {n ser : Nat} (hn : ∀ (j : Nat) (y : k_CX), CX[j]? = some y → (j < n ↔ y.2 ≤ ser)) (lo hi : Nat) : s_own ((CX.map (fun y => y.1)).take n) lo hi = s_ownS (c_mc CX) ser lo hi := by
  rw [Bool.eq_iff_iff]
  unfold s_own s_ownS c_mc
  rw [List.any_eq_true, List.any_eq_true]
  constructor
  · rintro ⟨y, hy, hb⟩
    obtain ⟨j, hj⟩ := List.getElem?_of_mem hy
    rw [List.getElem?_take] at hj
    by_cases c : j < n
    · rw [if_pos c, List.getElem?_map] at hj
      cases e : CX[j]? with
      | none => rw [e] at hj; cases hj
      | some w =>
        rw [e] at hj
        cases hj
        refine ⟨(w.2, w.1.2), List.mem_map.mpr ⟨w, List.mem_filter.mpr ⟨List.mem_of_getElem? e, ?_⟩, rfl⟩, ?_⟩
        · simp only [Bool.and_eq_true] at hb
          by_cases e7 : w.1.2.1 = 7
          · have := hb.1.1
            rw [e7] at this
            cases this
          · simp [e7]
        · simp only [Bool.and_eq_true, decide_eq_true_eq] at hb ⊢
          exact ⟨⟨⟨hb.1.1, (hn j w e).mp c⟩, hb.1.2⟩, hb.2⟩
    · rw [if_neg c] at hj; cases hj
  · rintro ⟨y, hy, hb⟩
    obtain ⟨w, hw, rfl⟩ := List.mem_map.mp hy
    obtain ⟨j, hj⟩ := List.getElem?_of_mem (List.mem_filter.mp hw).1
    simp only [Bool.and_eq_true, decide_eq_true_eq] at hb
    refine ⟨w.1, ?_, ?_⟩
    · refine List.mem_of_getElem? (i := j) ?_
      rw [List.getElem?_take, if_pos ((hn j w hj).mpr hb.1.1.2), List.getElem?_map, hj]
      rfl
    · simp only [Bool.and_eq_true, decide_eq_true_eq]
      exact ⟨⟨hb.1.1.1, hb.1.2⟩, hb.2⟩
theorem mc_app (CX : List k_CX) (y : k_CX) (h : ¬ y.1.2.1 = 7) : c_mc (CX ++ [y]) = c_mc CX ++ [(y.2, y.1.2)] := by
  unfold c_mc
  rw [List.filter_append, List.map_append]
  congr 1
  rw [List.filter_cons_of_pos (by simp [h])]
  rfl
end
section
/-! THE CLASS'S TRANSACTIONS BEGIN, KEEP CHANGES AND PUT DOWN READINGS -/
def c_At (a t : Nat) : Nat → Prop := fun q => q = a + c_T t ∨ q = a + (c_T t + 1) ∨ q = a + (c_T t + 2)
def X_up (X : Nat → s_X) (t : Nat) (x : s_X) : Nat → s_X := fun q => if q = t then x else X q
theorem tb_ser {a : Nat} {h : k_H} {t : Nat} {CX : List k_CX} {x : s_X} {ser ser' w w' : Nat} (b : c_tb a h t CX x ser w) (hs : ser ≤ ser') (hw : w ≤ w') : c_tb a h t CX x ser' w' := by
  obtain ⟨RS, cap, capR, kept, o, c, d⟩ := b
  refine ⟨RS, cap, capR, kept, o, c, fun e => ?_⟩
  obtain ⟨d1, ⟨d2, d3⟩, ⟨d4, d5, d6⟩, d7⟩ := d e
  exact ⟨d1, ⟨d2, fun y hy => ⟨Nat.le_trans (d3 y hy).1 hs, (d3 y hy).2⟩⟩, ⟨d4, d5, fun r hr => Nat.le_trans (d6 r hr) hs⟩, Nat.le_trans d7 hw⟩
theorem TX_one {a o t : Nat} {h h' : k_H} {X : Nat → s_X} {ser ser' w w' : Nat} {CXf : Nat → List k_CX} {CX' : List k_CX} {x' : s_X} (b1 : ∀ t, t < 4 → c_tb a h t (CXf t) (X t) ser w) (b2 : ∀ t u, t < 4 → u < 4 → t ≠ u → ∀ y ∈ CXf t, ∀ z ∈ CXf u, y.1.1 ≠ z.1.1) (b3 : a + 31 ≤ h.2.1) (b4 : k_wf h)
    (ht : t < 4) (m : k_mo a [] (c_At a t) o h h') (hb : c_tb a h' t CX' x' ser' w') (hs : ser ≤ ser') (hw : w ≤ w') (hd : ∀ y ∈ CX', (∃ z ∈ CXf t, z.1.1 = y.1.1) ∨ h.2.1 ≤ y.1.1) : c_TX a h' (X_up X t x') ser' w' := by
  obtain ⟨RS, cap, capR, kept, o1, ⟨c1, c2, c3⟩, -⟩ := b1 t ht
  have old : ∀ u, u < 4 → ∀ z ∈ CXf u, z.1.1 < h.2.1 := fun u hu z hz => by
    obtain ⟨RS, cap, capR, kept, o1, ⟨c1, c2, c3⟩, -⟩ := b1 u hu
    exact b4 _ _ (c1.2.1 z.1 (List.mem_map.mpr ⟨z, hz, rfl⟩)).1
  have dis : ∀ u, u < 4 → u ≠ t → ∀ y ∈ CX', ∀ z ∈ CXf u, y.1.1 ≠ z.1.1 := fun u hu hne y hy z hz => by
    rcases hd y hy with ⟨w, hw, e⟩ | e
    · rw [← e]; exact b2 t u ht hu (Ne.symm hne) w hw z hz
    · have := old u hu z hz; omega
  refine ⟨fun q => if q = t then CX' else CXf q, fun u hu => ?_, fun u v hu hv huv y hy z hz => ?_, Nat.le_trans b3 m.2.2.1, m.2.1 b4⟩
  · show c_tb a h' u (if u = t then CX' else CXf u) (if u = t then x' else X u) ser' w'
    by_cases e : u = t
    · rw [if_pos e, if_pos e, e]; exact hb
    · rw [if_neg e, if_neg e]
      have hne := c_T_ne (Ne.symm e)
      have hne2 := c_T_ne e
      refine tb_ser (tb_fr (b1 u hu) m.1 (by simp) (fun q ci fs hq hc hA => ?_) ⟨fun z => ?_, fun z => ?_, fun z => ?_⟩) hs hw
      · rcases hA with hA | hA | hA
        · rw [hA, o1] at hq
          cases hq
          rcases hc with hc | hc <;> cases hc
        · rw [hA, c1.1] at hq; cases hq
        · rw [hA, c2.1] at hq; cases hq
      · rcases z with z | z | z <;> omega
      · rcases z with z | z | z <;> omega
      · rcases z with z | z | z <;> omega
  · have hy2 : y ∈ (if u = t then CX' else CXf u) := hy
    have hz2 : z ∈ (if v = t then CX' else CXf v) := hz
    by_cases eu : u = t
    · rw [if_pos eu] at hy2
      rw [if_neg (fun ev => huv (eu.trans ev.symm))] at hz2
      exact dis v hv (fun ev => huv (eu.trans ev.symm)) y hy2 z hz2
    · rw [if_neg eu] at hy2
      by_cases ev : v = t
      · rw [if_pos ev] at hz2
        exact (dis u hu eu z hz2 y hy2).symm
      · rw [if_neg ev] at hz2
        exact b2 u v hu hv huv y hy2 z hz2
section CKP
variable {G : k_G} {l : Launch}
theorem c_X_start (ok : k_ok G l) {a t v g ser w : Nat} {h : k_H} {X : Nat → s_X} {once : Bool} (hX : c_TX a h X ser w) (ht : t < 4) :
    k_ctv (tX9_start G l) [vR (some (a + c_T t)), vI (nI v), vI (nI g), vI (kB once)] h (fun h' => c_TX a h' (X_up X t ((true, once, v, g, 0), [], [])) ser w ∧ k_mo a [] (c_At a t) 0 h h') := by
  obtain ⟨CXf, b1, b2, b3, b4⟩ := hX
  obtain ⟨RS, cap, capR, kept, o1, ⟨c1, c2, c3⟩, -⟩ := id (b1 t ht)
  have hT := c_T_lt ht
  obtain ⟨h', tr, e⟩ := c_X9_start ok (v := nI v) (g := nI g) o1 c1.1 c2.1 (by omega) (kB_bl once)
  have m1 : k_mo a [] (c_At a t) 0 h (k_up h (a + (c_T t + 1)) (k_l [] cap)) := mv_lu c1.1 (by omega) (Or.inr (Or.inl rfl))
  have c21 : (k_up h (a + (c_T t + 1)) (k_l [] cap)).1 (a + (c_T t + 2)) = some (k_l (RS.map (fun x => x.1)) capR) := by rw [k_up_ne _ _ (by omega)]; exact c2.1
  have m2 : k_mo a [] (c_At a t) 0 (k_up h (a + (c_T t + 1)) (k_l [] cap)) (k_up (k_up h (a + (c_T t + 1)) (k_l [] cap)) (a + (c_T t + 2)) (k_l [] capR)) := mv_lu c21 (by omega) (Or.inr (Or.inr rfl))
  have o12 := o1
  rw [← k_up_ne h (b := a + c_T t) (a := a + (c_T t + 1)) (k_l [] cap) (by omega), ← k_up_ne (k_up h (a + (c_T t + 1)) (k_l [] cap)) (b := a + c_T t) (a := a + (c_T t + 2)) (k_l [] capR) (by omega)] at o12
  have m3 := mv_o (a := a) (K := []) (A := c_At a t) (fs' := [vR (some (a + (c_T t + 1))), vR (some (a + (c_T t + 2))), vI 1, vI (kB once), vI (nI v), vI (nI g), vI (-2147483648), vI 0]) o12 (Or.inr (Or.inl rfl))
  have m := mv_trans (mv_trans m1 m2) m3
  rw [← e] at m
  refine ⟨h', tr, TX_one b1 b2 b3 b4 ht m (CX' := []) ⟨[], cap, capR, 0, ?_, ⟨⟨?_, fun y hy => (by cases hy), by decide⟩, ⟨?_, fun y hy => (by cases hy), by decide⟩, List.Pairwise.nil⟩, fun _ => ⟨⟨rfl, rfl⟩, ⟨List.Pairwise.nil, fun y hy => (by cases hy)⟩, ⟨rfl, fun i sp r hi => (by simp at hi), fun r hr => (by cases hr)⟩, Nat.zero_le _⟩⟩ (Nat.le_refl _) (Nat.le_refl _) (fun y hy => (by cases hy)), m⟩
  · rw [e, k_up_self]
    rfl
  · rw [e, k_up_ne _ _ (by omega), k_up_ne _ _ (by omega), k_up_self]
    rfl
  · rw [e, k_up_ne _ _ (by omega), k_up_self]
    rfl
/-- a change is kept -/
theorem keep_TX {a t ser w : Nat} {h h' : k_H} {X : Nat → s_X} {CXf : Nat → List k_CX} {RS : List k_SP} {cap capR kept : Nat} {y : k_CH} (b1 : ∀ t, t < 4 → c_tb a h t (CXf t) (X t) ser w) (b2 : ∀ t u, t < 4 → u < 4 → t ≠ u → ∀ y ∈ CXf t, ∀ z ∈ CXf u, y.1.1 ≠ z.1.1) (b3 : a + 31 ≤ h.2.1) (b4 : k_wf h) (ht : t < 4) (hb : (X t).1.1 = true)
    (o1 : h.1 (a + c_T t) = some (k_o 12 [vR (some (a + (c_T t + 1))), vR (some (a + (c_T t + 2))), vI (kB (X t).1.1), vI (kB (X t).1.2.1), vI (nI (X t).1.2.2.1), vI (nI (X t).1.2.2.2.1), vI (c_dn (X t).1.2.2.2.2), vI (nI kept)]))
    (c1 : r_cs h (a + (c_T t + 1)) cap ((CXf t).map (fun y => y.1))) (c2 : r_rs h (a + (c_T t + 2)) capR RS) (c3 : (CXf t).Pairwise (fun x y => x.1.1 ≠ y.1.1)) (c4 : c_tr (CXf t) RS (X t) ser w kept) (hy1 : y.1 = h.2.1) (hy7 : ¬ y.2.1 = 7) (hyw : c_wc y) (hl : (CXf t).length ≤ 13300)
    (e : h' = k_up (k_gr (k_nw h 5 (o_chg y)) (a + (c_T t + 1)) (((CXf t).map (fun y => y.1)).map (fun x => x.1) ++ [h.2.1]) ((CXf t).map (fun y => y.1)).length cap) (a + c_T t) (k_o 12 [vR (some (a + (c_T t + 1))), vR (some (a + (c_T t + 2))), vI (kB (X t).1.1), vI (kB (X t).1.2.1), vI (nI (X t).1.2.2.1), vI (nI (X t).1.2.2.2.1), vI (c_dn (X t).1.2.2.2.2), vI (nI kept + 1)])) :
    c_TX a h' (X_up X t ((X t).1, (X t).2.1 ++ [(ser + 1, y.2)], (X t).2.2)) (ser + 1) w ∧ k_mo a [] (c_At a t) 1 h h' := by
  have hT := c_T_lt ht
  have hbd : 20000 ≤ k_bd (c_T t + 1) := by
    have : t = 0 ∨ t = 1 ∨ t = 2 ∨ t = 3 := by omega
    rcases this with rfl | rfl | rfl | rfl <;> decide
  obtain ⟨cap', hcs⟩ := cs_kept (t := a + c_T t) (fs := [vR (some (a + (c_T t + 1))), vR (some (a + (c_T t + 2))), vI (kB (X t).1.1), vI (kB (X t).1.2.1), vI (nI (X t).1.2.2.1), vI (nI (X t).1.2.2.2.1), vI (c_dn (X t).1.2.2.2.2), vI (nI kept + 1)]) b4 o1 c1 hy1 (by have := hyw.1; have := hyw.2.1; exact ⟨by omega, by omega⟩) (by rw [List.length_map]; omega) rfl
  rw [← e] at hcs
  have m1 : k_mo a [] (c_At a t) 1 h (k_nw h 5 (o_chg y)) := mv_nw b4 b3 (by omega)
  have old : ∀ p c, h.1 p = some c → (k_nw h 5 (o_chg y)).1 p = some c := fun p c hp => nw_old b4 hp
  have m2 : k_mo a [] (c_At a t) 0 (k_nw h 5 (o_chg y)) (k_gr (k_nw h 5 (o_chg y)) (a + (c_T t + 1)) (((CXf t).map (fun y => y.1)).map (fun x => x.1) ++ [h.2.1]) ((CXf t).map (fun y => y.1)).length cap) := mv_gr (old _ _ c1.1) (by omega) (Or.inr (Or.inl rfl)) (by rw [List.length_map]; omega)
  have o13 : (k_gr (k_nw h 5 (o_chg y)) (a + (c_T t + 1)) (((CXf t).map (fun y => y.1)).map (fun x => x.1) ++ [h.2.1]) ((CXf t).map (fun y => y.1)).length cap).1 (a + c_T t) = some (k_o 12 [vR (some (a + (c_T t + 1))), vR (some (a + (c_T t + 2))), vI (kB (X t).1.1), vI (kB (X t).1.2.1), vI (nI (X t).1.2.2.1), vI (nI (X t).1.2.2.2.1), vI (c_dn (X t).1.2.2.2.2), vI (nI kept)]) := by
    rw [gr_ne _ _ _ _ (by omega)]; exact old _ _ o1
  have m3 := mv_o (a := a) (K := []) (A := c_At a t) (fs' := [vR (some (a + (c_T t + 1))), vR (some (a + (c_T t + 2))), vI (kB (X t).1.1), vI (kB (X t).1.2.1), vI (nI (X t).1.2.2.1), vI (nI (X t).1.2.2.2.1), vI (c_dn (X t).1.2.2.2.2), vI (nI kept + 1)]) o13 (Or.inr (Or.inl rfl))
  have m := mv_trans (mv_trans m1 m2) m3
  rw [← e] at m
  obtain ⟨⟨d0, d1⟩, ⟨d2, d3⟩, ⟨d4, d5, d6⟩, d7⟩ := c4
  have hmap : ((CXf t) ++ [((y, ser + 1) : k_CX)]).map (fun y => y.1) = (CXf t).map (fun y => y.1) ++ [y] := by rw [List.map_append]; rfl
  refine ⟨TX_one b1 b2 b3 b4 ht m (CX' := CXf t ++ [(y, ser + 1)]) ⟨RS, cap', capR, kept + 1, ?_, ⟨by rw [hmap]; exact hcs, ⟨?_, fun z hz => ⟨?_, (c2.2.1 z hz).2⟩, c2.2.2⟩, ?_⟩, fun _ => ⟨⟨?_, ?_⟩, ⟨?_, fun z hz => ?_⟩, ⟨d4, fun i sp r hi hr => ?_, fun r hr => ?_⟩, ?_⟩⟩ (Nat.le_succ _) (Nat.le_refl _) (fun z hz => ?_), m⟩
  · rw [e, k_up_self, nI_1]
  · exact m.1 _ _ c2.1 |> fun _ => (by rw [e, k_up_ne _ _ (by omega), gr_ne _ _ _ _ (by omega)]; exact old _ _ c2.1)
  · have hz1 := (c2.2.1 z hz).1
    exact m.1 _ _ hz1 (fun hA => by
      rcases hA with hA | hA | hA
      · rw [hA, o1] at hz1; cases hz1
      · rw [hA, c1.1] at hz1; cases hz1
      · rw [hA, c2.1] at hz1; cases hz1) (fun _ _ _ => List.not_mem_nil)
  · rw [List.pairwise_append]
    refine ⟨c3, List.pairwise_singleton _ _, fun z hz w hw => ?_⟩
    rw [List.mem_singleton] at hw
    subst hw
    have := b4 _ _ (c1.2.1 z.1 (List.mem_map.mpr ⟨z, hz, rfl⟩)).1
    show z.1.1 ≠ y.1
    omega
  · show (X t).2.1 ++ [(ser + 1, y.2)] = _
    rw [mc_app _ _ hy7, d0]
  · show kept + 1 = ((X t).2.1 ++ [(ser + 1, y.2)]).length
    rw [List.length_append, d1]
    rfl
  · rw [List.map_append, List.pairwise_append]
    refine ⟨d2, List.pairwise_singleton _ _, fun z hz w hw => ?_⟩
    have hw2 : w = ser + 1 := by simpa using hw
    obtain ⟨u, hu, rfl⟩ := List.mem_map.mp hz
    have := (d3 u hu).1
    omega
  · rcases List.mem_append.mp hz with hz | hz
    · exact ⟨Nat.le_succ_of_le (d3 z hz).1, (d3 z hz).2⟩
    · rw [List.mem_singleton.mp hz]
      exact ⟨Nat.le_refl _, hyw⟩
  · obtain ⟨r1, r2, r3, r4⟩ := d5 i sp r hi hr
    refine ⟨r1, r2, fun j z hj => ?_, by rw [List.length_append]; omega⟩
    by_cases c : j < (CXf t).length
    · rw [List.getElem?_append_left c] at hj
      exact r3 j z hj
    · have ej : j = (CXf t).length := by
        have := (List.getElem?_eq_some_iff.mp hj).1
        simp at this; omega
      rw [ej] at hj ⊢
      simp at hj
      subst hj
      have hr2 := d6 r (List.mem_of_getElem? hr)
      show (CXf t).length < sp.2.2.2 ↔ ser + 1 ≤ r.2.2
      omega
  · exact Nat.le_succ_of_le (d6 r hr)
  · rw [List.filter_append, List.filter_cons_of_neg (by simpa using hy7), List.filter_nil, List.append_nil]
    exact d7
  · rcases List.mem_append.mp hz with hz | hz
    · exact Or.inl ⟨z, hz, rfl⟩
    · rw [List.mem_singleton.mp hz]
      exact Or.inr (Nat.le_of_eq hy1.symm)
end CKP
end
section
/-! THE CLASS'S TRANSACTIONS: contracts over the joint predicate -/
theorem cx_len : ∀ CX : List k_CX, CX.length = (c_mc CX).length + (CX.filter (fun y => decide (y.1.2.1 = 7))).length := by
  intro CX
  unfold c_mc
  rw [List.length_map]
  induction CX with
  | nil => rfl
  | cons y t ih =>
    by_cases e : y.1.2.1 = 7
    · rw [List.filter_cons_of_neg (by simp [e]), List.filter_cons_of_pos (by simp [e]), List.length_cons, List.length_cons]
      omega
    · rw [List.filter_cons_of_pos (by simp [e]), List.filter_cons_of_neg (by simp [e]), List.length_cons, List.length_cons]
      omega
section CPU
variable {G : k_G} {l : Launch}
theorem c_X_keepKey (ok : k_ok G l) {a t ser w c : Nat} {h : k_H} {X : Nat → s_X} {k v : Int32} (hX : c_TX a h X ser w) (ht : t < 4) (hb : (X t).1.1 = true) (hk : ¬ k = 7) (hw : c_wc (0, k, c, c + 1, v, 0)) (hl : (X t).2.1.length + w ≤ 13300) :
    k_ctv (tX9_keepKey G l) [vR (some (a + c_T t)), vI k, vJ (lN c), vI v] h (fun h' => c_TX a h' (X_up X t ((X t).1, (X t).2.1 ++ [(ser + 1, k, c, c + 1, v, 0)], (X t).2.2)) (ser + 1) w ∧ k_mo a [] (c_At a t) 1 h h') := by
  obtain ⟨CXf, b1, b2, b3, b4⟩ := hX
  obtain ⟨RS, cap, capR, kept, o1, ⟨c1, c2, c3⟩, c4⟩ := id (b1 t ht)
  obtain ⟨h', tr, e⟩ := c_X9_keepKey ok (k := k) (v := v) (c := c) b4 o1 c1
  have hlen := cx_len (CXf t)
  have h7 := (c4 hb).2.2.2
  have h8 := (c4 hb).1.1
  rw [← h8] at hlen
  exact ⟨h', tr, keep_TX (y := (h.2.1, k, c, c + 1, v, 0)) b1 b2 b3 b4 ht hb o1 c1 c2 c3 (c4 hb) rfl hk hw (by omega) e⟩
theorem c_X_keepRange (ok : k_ok G l) {a t ser w c d : Nat} {h : k_H} {X : Nat → s_X} (hX : c_TX a h X ser w) (ht : t < 4) (hb : (X t).1.1 = true) (hw : c_wc (0, 1, c, d, 0, 0)) (hl : (X t).2.1.length + w ≤ 13300) :
    k_ctv (tX9_keepRange G l) [vR (some (a + c_T t)), vJ (lN c), vJ (lN d)] h (fun h' => c_TX a h' (X_up X t ((X t).1, (X t).2.1 ++ [(ser + 1, 1, c, d, 0, 0)], (X t).2.2)) (ser + 1) w ∧ k_mo a [] (c_At a t) 1 h h') := by
  obtain ⟨CXf, b1, b2, b3, b4⟩ := hX
  obtain ⟨RS, cap, capR, kept, o1, ⟨c1, c2, c3⟩, c4⟩ := id (b1 t ht)
  obtain ⟨h', tr, e⟩ := c_X9_keepRange ok (c := c) (e := d) b4 o1 c1
  have hlen := cx_len (CXf t)
  have h7 := (c4 hb).2.2.2
  have h8 := (c4 hb).1.1
  rw [← h8] at hlen
  exact ⟨h', tr, keep_TX (y := (h.2.1, 1, c, d, 0, 0)) b1 b2 b3 b4 ht hb o1 c1 c2 c3 (c4 hb) rfl (show ¬ (1 : Int32) = 7 by decide) hw (by omega) e⟩
theorem c_X_keepStamped (ok : k_ok G l) {a t ser w c : Nat} {h : k_H} {X : Nat → s_X} {p v : Int32} (hX : c_TX a h X ser w) (ht : t < 4) (hb : (X t).1.1 = true) (hw : c_wc (0, 6, c, c + 1, v, p)) (hl : (X t).2.1.length + w ≤ 13300) :
    k_ctv (tX9_keepStamped G l) [vR (some (a + c_T t)), vJ (lN c), vI p, vI v] h (fun h' => c_TX a h' (X_up X t ((X t).1, (X t).2.1 ++ [(ser + 1, 6, c, c + 1, v, p)], (X t).2.2)) (ser + 1) w ∧ k_mo a [] (c_At a t) 1 h h') := by
  obtain ⟨CXf, b1, b2, b3, b4⟩ := hX
  obtain ⟨RS, cap, capR, kept, o1, ⟨c1, c2, c3⟩, c4⟩ := id (b1 t ht)
  obtain ⟨h', tr, e⟩ := c_X9_keepStamped ok (c := c) (p := p) (v := v) b4 o1 c1
  have hlen := cx_len (CXf t)
  have h7 := (c4 hb).2.2.2
  have h8 := (c4 hb).1.1
  rw [← h8] at hlen
  exact ⟨h', tr, keep_TX (y := (h.2.1, 6, c, c + 1, v, p)) b1 b2 b3 b4 ht hb o1 c1 c2 c3 (c4 hb) rfl (show ¬ (6 : Int32) = 7 by decide) hw (by omega) e⟩
/-- a reading is put down -/
theorem put_TX {a t ser w lo hi him : Nat} {h h' : k_H} {X : Nat → s_X} {CXf : Nat → List k_CX} {RS : List k_SP} {cap capR kept : Nat} (b1 : ∀ t, t < 4 → c_tb a h t (CXf t) (X t) ser w) (b2 : ∀ t u, t < 4 → u < 4 → t ≠ u → ∀ y ∈ CXf t, ∀ z ∈ CXf u, y.1.1 ≠ z.1.1) (b3 : a + 31 ≤ h.2.1) (b4 : k_wf h) (ht : t < 4) (hb : (X t).1.1 = true)
    (o1 : h.1 (a + c_T t) = some (k_o 12 [vR (some (a + (c_T t + 1))), vR (some (a + (c_T t + 2))), vI (kB (X t).1.1), vI (kB (X t).1.2.1), vI (nI (X t).1.2.2.1), vI (nI (X t).1.2.2.2.1), vI (c_dn (X t).1.2.2.2.2), vI (nI kept)]))
    (c1 : r_cs h (a + (c_T t + 1)) cap ((CXf t).map (fun y => y.1))) (c2 : r_rs h (a + (c_T t + 2)) capR RS) (c3 : (CXf t).Pairwise (fun x y => x.1.1 ≠ y.1.1)) (c4 : c_tr (CXf t) RS (X t) ser w kept) (hh : hi = him ∨ (hi = 1331000000000 ∧ him = 1331000000001)) (hlo : lo < 2 ^ 62) (hhi : hi < 2 ^ 62) (hl : (X t).2.2.length < 2048)
    (e : h' = k_gr (k_nw h 3 (o_spn (h.2.1, lo, hi, ((CXf t).map (fun y => y.1)).length))) (a + (c_T t + 2)) (RS.map (fun x => x.1) ++ [h.2.1]) RS.length capR) :
    c_TX a h' (X_up X t ((X t).1, (X t).2.1, (X t).2.2 ++ [(lo, him, ser)])) ser w ∧ k_mo a [] (c_At a t) 1 h h' := by
  have hT := c_T_lt ht
  have hbd : 3200 ≤ k_bd (c_T t + 2) := by
    have : t = 0 ∨ t = 1 ∨ t = 2 ∨ t = 3 := by omega
    rcases this with rfl | rfl | rfl | rfl <;> decide
  obtain ⟨⟨d0, d1⟩, ⟨d2, d3⟩, ⟨d4, d5, d6⟩, d7⟩ := c4
  rw [List.length_map] at e
  have m1 : k_mo a [] (c_At a t) 1 h (k_nw h 3 (o_spn (h.2.1, lo, hi, (CXf t).length))) := mv_nw b4 b3 (by omega)
  have old : ∀ p c, h.1 p = some c → (k_nw h 3 (o_spn (h.2.1, lo, hi, (CXf t).length))).1 p = some c := fun p c hp => nw_old b4 hp
  have m2 : k_mo a [] (c_At a t) 0 (k_nw h 3 (o_spn (h.2.1, lo, hi, (CXf t).length))) (k_gr (k_nw h 3 (o_spn (h.2.1, lo, hi, (CXf t).length))) (a + (c_T t + 2)) (RS.map (fun x => x.1) ++ [h.2.1]) RS.length capR) := mv_gr (old _ _ c2.1) (by omega) (Or.inr (Or.inr rfl)) (by omega)
  have m := mv_trans m1 m2
  obtain ⟨capR', es⟩ := gr_at (k_nw h 3 (o_spn (h.2.1, lo, hi, (CXf t).length))) (a + (c_T t + 2)) (RS.map (fun x => x.1) ++ [h.2.1]) RS.length capR
  have ne : ∀ p c, h.1 p = some c → p ≠ a + (c_T t + 2) → h'.1 p = some c := fun p c hp hne => by rw [e, gr_ne _ _ _ _ hne]; exact old _ _ hp
  have enew : h'.1 h.2.1 = some (o_spn (h.2.1, lo, hi, (CXf t).length)) := by rw [e, gr_ne _ _ _ _ (by omega), k_nw_self]
  rw [← e] at m es
  have c18 := c1.2.2
  rw [List.length_map] at c18
  refine ⟨TX_one b1 b2 b3 b4 ht m (CX' := CXf t) ⟨RS ++ [(h.2.1, lo, hi, (CXf t).length)], cap, capR', kept, ne _ _ o1 (by omega), ⟨⟨ne _ _ c1.1 (by omega), fun y hy => ⟨?_, (c1.2.1 y hy).2⟩, c1.2.2⟩, ⟨?_, fun y hy => ?_, ?_⟩, c3⟩, fun _ => ⟨⟨d0, d1⟩, ⟨d2, d3⟩, ⟨?_, fun i sp r hi2 hr => ?_, fun r hr => ?_⟩, d7⟩⟩ (Nat.le_refl _) (Nat.le_refl _) (fun y hy => Or.inl ⟨y, hy, rfl⟩), m⟩
  · have := (c1.2.1 y hy).1
    exact ne _ _ this (fun z => by rw [z, c2.1] at this; cases this)
  · rw [es, List.map_append]; rfl
  · rcases List.mem_append.mp hy with hy | hy
    · have := (c2.2.1 y hy).1
      exact ⟨ne _ _ this (fun z => by rw [z, c2.1] at this; cases this), (c2.2.1 y hy).2⟩
    · rw [List.mem_singleton.mp hy]
      exact ⟨enew, hlo, hhi, by show (CXf t).length < 2 ^ 30; omega⟩
  · rw [List.length_append, List.length_singleton]; omega
  · show (RS ++ [_]).length = ((X t).2.2 ++ [_]).length
    rw [List.length_append, List.length_append, d4]
    rfl
  · have hr' : ((X t).2.2 ++ [(lo, him, ser)])[i]? = some r := hr
    by_cases c : i < RS.length
    · rw [List.getElem?_append_left c] at hi2
      rw [List.getElem?_append_left (by omega)] at hr'
      exact d5 i sp r hi2 hr'
    · have ei : i = RS.length := by
        have := (List.getElem?_eq_some_iff.mp hi2).1
        simp at this; omega
      rw [ei] at hi2 hr'
      rw [d4] at hr'
      simp at hi2 hr'
      subst hi2 hr'
      refine ⟨rfl, hh, fun j y hj => ?_, Nat.le_refl _⟩
      have h1 := (List.getElem?_eq_some_iff.mp hj).1
      have h2 := (d3 y (List.mem_of_getElem? hj)).1
      show j < (CXf t).length ↔ y.2 ≤ ser
      omega
  · rcases List.mem_append.mp hr with hr | hr
    · exact d6 r hr
    · rw [List.mem_singleton.mp hr]
      exact Nat.le_refl _
theorem c_X_putDown (ok : k_ok G l) {a t ser w lo hi him : Nat} {h : k_H} {X : Nat → s_X} (hX : c_TX a h X ser w) (ht : t < 4) (hb : (X t).1.1 = true) (hh : hi = him ∨ (hi = 1331000000000 ∧ him = 1331000000001)) (hlo : lo < 2 ^ 62) (hhi : hi < 2 ^ 62) (hl : (X t).2.2.length < 2048) :
    k_ctv (tX9_putDown G l) [vR (some (a + c_T t)), vJ (lN lo), vJ (lN hi)] h (fun h' => c_TX a h' (X_up X t ((X t).1, (X t).2.1, (X t).2.2 ++ [(lo, him, ser)])) ser w ∧ k_mo a [] (c_At a t) 1 h h') := by
  obtain ⟨CXf, b1, b2, b3, b4⟩ := hX
  obtain ⟨RS, cap, capR, kept, o1, ⟨c1, c2, c3⟩, c4⟩ := id (b1 t ht)
  obtain ⟨h', tr, e⟩ := c_X9_putDown ok (lo := lo) (hi := hi) b4 o1 c1 c2
  exact ⟨h', tr, put_TX b1 b2 b3 b4 ht hb o1 c1 c2 c3 (c4 hb) hh hlo hhi hl e⟩
theorem X_up_self (X : Nat → s_X) (t : Nat) : X_up X t (X t) = X := funext fun q => by
  unfold X_up
  by_cases e : q = t
  · rw [if_pos e, e]
  · rw [if_neg e]
theorem c_X_putDownKey (ok : k_ok G l) {a t ser w c : Nat} {h : k_H} {X : Nat → s_X} (hX : c_TX a h X ser w) (ht : t < 4) (hb : (X t).1.1 = true) (hc : c < 2 ^ 60) (hl : (X t).2.2.length < 2048) :
    k_ctv (tX9_putDownKey G l) [vR (some (a + c_T t)), vJ (lN c)] h (fun h' => c_TX a h' (X_up X t ((X t).1, (X t).2.1, s_rdk true (X t).2.1 (X t).2.2 c ser)) ser w ∧ k_mo a [] (c_At a t) 1 h h') := by
  obtain ⟨CXf, b1, b2, b3, b4⟩ := id hX
  obtain ⟨RS, cap, capR, kept, o1, ⟨c1, c2, c3⟩, c4⟩ := id (b1 t ht)
  obtain ⟨h', tr, e⟩ := c_X9_putDownKey ok (c := c) b4 o1 c1 c2 hc
  have d3 := (c4 hb).2.1.2
  have eown : s_own ((CXf t).map (fun y => y.1)) c (c + 1) = s_ownS (X t).2.1 ser c (c + 1) := by
    have := own_mc (CX := CXf t) (n := (CXf t).length) (ser := ser) (fun j y hj => by
      have h1 := (List.getElem?_eq_some_iff.mp hj).1
      have h2 := (d3 y (List.mem_of_getElem? hj)).1
      omega) c (c + 1)
    rw [List.take_of_length_le (by rw [List.length_map]; exact Nat.le_refl _)] at this
    rw [this, ← (c4 hb).1.1]
  rw [eown] at e
  by_cases co : s_ownS (X t).2.1 ser c (c + 1) = true
  · rw [if_pos co] at e
    have er : s_rdk true (X t).2.1 (X t).2.2 c ser = (X t).2.2 := by
      unfold s_rdk
      rw [if_neg (fun z => by rw [co] at z; cases z.2)]
    refine ⟨h', tr, ?_, ?_⟩
    · rw [er, e]
      have : ((X t).1, (X t).2.1, (X t).2.2) = X t := rfl
      rw [this, X_up_self]
      exact hX
    · rw [e]
      exact mv_mono (mv_refl _ _ _ _) (fun _ h => h) (fun _ h => h) (Nat.zero_le _)
  · rw [if_neg co] at e
    have er : s_rdk true (X t).2.1 (X t).2.2 c ser = (X t).2.2 ++ [(c, c + 1, ser)] := by
      unfold s_rdk
      rw [if_pos ⟨rfl, by simpa using co⟩]
    rw [er]
    exact ⟨h', tr, put_TX b1 b2 b3 b4 ht hb o1 c1 c2 c3 (c4 hb) (Or.inl rfl) (by omega) (by omega) hl e⟩
end CPU
end
section
/-! THE CLASS'S TRANSACTIONS FORGET STAMPED CHANGES -/
def fg (c : Nat) (y : k_CX) : k_CX := if y.1.2.1 = 6 ∧ y.1.2.2.1 = c then ((y.1.1, 7, y.1.2.2), y.2) else y
theorem fg_a (c : Nat) (y : k_CX) : (fg c y).1.1 = y.1.1 ∧ (fg c y).2 = y.2 ∧ (fg c y).1.2.2 = y.1.2.2 := by
  unfold fg
  split <;> exact ⟨rfl, rfl, rfl⟩
theorem fg_mc (c : Nat) : ∀ CX : List k_CX, c_mc (CX.map (fg c)) = (c_mc CX).filter (fun x => !(decide (x.2.1 = 6) && decide (x.2.2.1 = c))) := by
  intro CX
  induction CX with
  | nil => rfl
  | cons y t ih =>
    by_cases e : y.1.2.1 = 6 ∧ y.1.2.2.1 = c
    · have e1 : fg c y = ((y.1.1, 7, y.1.2.2), y.2) := if_pos e
      have h1 : c_mc ((y :: t).map (fg c)) = c_mc (t.map (fg c)) := by
        rw [List.map_cons, e1]
        unfold c_mc
        rw [List.filter_cons_of_neg (by simp)]
      have h2 : c_mc (y :: t) = (y.2, y.1.2) :: c_mc t := by
        unfold c_mc
        rw [List.filter_cons_of_pos (by rw [e.1]; decide), List.map_cons]
      rw [h1, h2, ih, List.filter_cons_of_neg (by simp [e.1, e.2])]
    · have e1 : fg c y = y := if_neg e
      rw [List.map_cons, e1]
      by_cases e7 : y.1.2.1 = 7
      · have h1 : ∀ u : List k_CX, c_mc (y :: u) = c_mc u := fun u => by
          unfold c_mc
          rw [List.filter_cons_of_neg (by simp [e7])]
        rw [h1, h1, ih]
      · have h1 : ∀ u : List k_CX, c_mc (y :: u) = (y.2, y.1.2) :: c_mc u := fun u => by
          unfold c_mc
          rw [List.filter_cons_of_pos (by simp [e7]), List.map_cons]
        rw [h1, h1, ih, List.filter_cons_of_pos]
        simp only [Bool.not_eq_true', Bool.and_eq_false_iff, decide_eq_false_iff_not]
        by_cases e6 : y.1.2.1 = 6
        · exact Or.inr (fun z => e ⟨e6, z⟩)
        · exact Or.inl e6
theorem tb_fr2 {a : Nat} {K : List Nat} {A : Nat → Prop} {h h' : k_H} {t : Nat} {CX : List k_CX} {x : s_X} {ser w : Nat} (b : c_tb a h t CX x ser w) (m : k_fr K A h h') (hK : 4 ∉ K ∧ 10 ∉ K ∧ 12 ∉ K) (hC : ∀ y ∈ CX, ¬ A y.1.1) (hS : ∀ q fs, h.1 q = some (k_o 10 fs) → ¬ A q) (hL : ¬ A (a + c_T t) ∧ ¬ A (a + (c_T t + 1)) ∧ ¬ A (a + (c_T t + 2))) : c_tb a h' t CX x ser w := by
  obtain ⟨RS, cap, capR, kept, o, ⟨c1, c2, c3⟩, c4⟩ := b
  refine ⟨RS, cap, capR, kept, m _ _ o hL.1 (fun ci fs e => by cases e; exact hK.2.2), ⟨⟨m _ _ c1.1 hL.2.1 (fun ci fs e => by cases e), fun y hy => ⟨?_, (c1.2.1 y hy).2⟩, c1.2.2⟩, ⟨m _ _ c2.1 hL.2.2 (fun ci fs e => by cases e), fun y hy => ⟨?_, (c2.2.1 y hy).2⟩, c2.2.2⟩, c3⟩, c4⟩
  · have := (c1.2.1 y hy).1
    obtain ⟨z, hz, rfl⟩ := List.mem_map.mp hy
    exact m _ _ this (hC z hz) (fun ci fs e => by cases e; exact hK.1)
  · have := (c2.2.1 y hy).1
    exact m _ _ this (hS _ _ this) (fun ci fs e => by cases e; exact hK.2.1)
theorem wc_fg {c : Nat} {y : k_CX} (h : c_wc y.1) : c_wc (fg c y).1 := by
  unfold fg
  split
  · rename_i e
    obtain ⟨h1, h2, h3, h4, h5⟩ := h
    refine ⟨h1, h2, ?_, fun z => absurd z (show ¬ (7 : Int32) = 6 by decide), fun z => absurd z (show ¬ (7 : Int32) = 6 by decide)⟩
    rcases h3 with h3 | h3
    · exact Or.inl h3
    · rw [e.1] at h3; cases h3
  · exact h
section CFG
variable {G : k_G} {l : Launch}
theorem c_X_forget (ok : k_ok G l) {a t ser w c : Nat} {h : k_H} {X : Nat → s_X} (hX : c_TX a h X ser w) (ht : t < 4) (hb : (X t).1.1 = true) (hc : c < 1331000000000) (hl : (X t).2.1.length + w ≤ 13300) :
    k_ctv (tX9_forgetStamped G l) [vR (some (a + c_T t)), vJ (lN c)] h (fun h' => c_TX a h' (X_up X t ((X t).1, (X t).2.1.filter (fun x => !(decide (x.2.1 = 6) && decide (x.2.2.1 = c))), (X t).2.2)) ser (w + (X t).2.1.countP (fun x => decide (x.2.1 = 6) && decide (x.2.2.1 = c))) ∧ k_mo a [4] (c_At a t) 0 h h') := by
  obtain ⟨CXf, b1, b2, b3, b4⟩ := hX
  obtain ⟨RS, cap, capR, kept, o1, ⟨c1, c2, c3⟩, c4⟩ := id (b1 t ht)
  obtain ⟨⟨d0, d1⟩, ⟨d2, d3⟩, ⟨d4, d5, d6⟩, d7⟩ := c4 hb
  have hT := c_T_lt ht
  have hlen := cx_len (CXf t)
  rw [← d0] at hlen
  have hl13 : (CXf t).length ≤ 13300 := by omega
  generalize hCX : CXf t = CX at o1 c1 c3 d0 d2 d3 d5 d7 hlen hl13
  have hT12 : ∀ y ∈ CX, y.1.1 ≠ a + c_T t := fun y hy z => by
    have := (c1.2.1 y.1 (List.mem_map.mpr ⟨y, hy, rfl⟩)).1
    rw [z, o1] at this
    cases this
  have hAl : ∀ i xs cp, h.1 i = some (k_l xs cp) → ¬ (i = a + c_T t ∨ ∃ y ∈ CX, i = y.1.1) := fun i xs cp hi z => by
    rcases z with z | ⟨y, hy, z⟩
    · rw [z, o1] at hi; cases hi
    · have := (c1.2.1 y.1 (List.mem_map.mpr ⟨y, hy, rfl⟩)).1
      rw [z, this] at hi; cases hi
  have hAs : ∀ q fs, h.1 q = some (k_o 10 fs) → ¬ (q = a + c_T t ∨ ∃ y ∈ CX, q = y.1.1) := fun q fs hi z => by
    rcases z with z | ⟨y, hy, z⟩
    · rw [z, o1] at hi; cases hi
    · have := (c1.2.1 y.1 (List.mem_map.mpr ⟨y, hy, rfl⟩)).1
      rw [z, this] at hi; cases hi
  -- the whole state behind
  have fin : ∀ (h2 : k_H), h2.1 (a + c_T t) = some (k_o 12 [vR (some (a + (c_T t + 1))), vR (some (a + (c_T t + 2))), vI (kB (X t).1.1), vI (kB (X t).1.2.1), vI (nI (X t).1.2.2.1), vI (nI (X t).1.2.2.2.1), vI (c_dn (X t).1.2.2.2.2), vI (nI (c_mc (CX.map (fg c))).length)]) → r_cs h2 (a + (c_T t + 1)) cap ((CX.map (fg c)).map (fun y => y.1)) → k_mo a [] (fun q => q = a + c_T t ∨ ∃ y ∈ CX, q = y.1.1) 0 h h2 →
      c_TX a h2 (X_up X t ((X t).1, (X t).2.1.filter (fun x => !(decide (x.2.1 = 6) && decide (x.2.2.1 = c))), (X t).2.2)) ser (w + (X t).2.1.countP (fun x => decide (x.2.1 = 6) && decide (x.2.2.1 = c))) ∧ k_mo a [4] (c_At a t) 0 h h2 := by
    intro h2 e1 e2 m
    have hgone : ((CX.map (fg c)).filter (fun y => decide (y.1.2.1 = 7))).length ≤ w + (X t).2.1.countP (fun x => decide (x.2.1 = 6) && decide (x.2.2.1 = c)) := by
      have h1 := cx_len (CX.map (fg c))
      rw [List.length_map, fg_mc, ← d0] at h1
      have h2 := List.length_eq_countP_add_countP (fun x : k_CH => decide (x.2.1 = 6) && decide (x.2.2.1 = c)) (l := (X t).2.1)
      have h3 : ((X t).2.1.filter (fun x => !(decide (x.2.1 = 6) && decide (x.2.2.1 = c)))).length = (X t).2.1.countP (fun x => ! (decide (x.2.1 = 6) && decide (x.2.2.1 = c))) := by rw [List.countP_eq_length_filter]
      have h4 : (X t).2.1.countP (fun x => ! (decide (x.2.1 = 6) && decide (x.2.2.1 = c))) = (X t).2.1.countP (fun x => decide (¬ (decide (x.2.1 = 6) && decide (x.2.2.1 = c)) = true)) := by
        refine List.countP_congr fun x _ => ?_
        cases (decide (x.2.1 = 6) && decide (x.2.2.1 = c)) <;> simp
      omega
    have b2t : ∀ u, u < 4 → u ≠ t → ∀ y ∈ CX, ∀ z ∈ CXf u, y.1.1 ≠ z.1.1 := fun u hu hne y hy z hz => b2 t u ht hu (Ne.symm hne) y (by rw [hCX]; exact hy) z hz
    refine ⟨⟨fun q => if q = t then CX.map (fg c) else CXf q, fun u hu => ?_, fun u v hu hv huv y hy z hz => ?_, Nat.le_trans b3 m.2.2.1, m.2.1 b4⟩, ⟨fun q d hq hA hK => ?_, m.2.1, m.2.2.1, m.2.2.2.1, m.2.2.2.2.1, m.2.2.2.2.2⟩⟩
    · show c_tb a h2 u (if u = t then CX.map (fg c) else CXf u) (if u = t then _ else X u) ser _
      by_cases e : u = t
      · rw [if_pos e, if_pos e, e]
        refine ⟨RS, cap, capR, (c_mc (CX.map (fg c))).length, e1, ⟨e2, ⟨m.1 _ _ c2.1 (hAl _ _ _ c2.1) (fun _ _ _ => List.not_mem_nil), fun y hy => ⟨m.1 _ _ (c2.2.1 y hy).1 (hAs _ _ (c2.2.1 y hy).1) (fun _ _ _ => List.not_mem_nil), (c2.2.1 y hy).2⟩, c2.2.2⟩, ?_⟩, fun _ => ⟨⟨?_, ?_⟩, ⟨?_, fun y hy => ?_⟩, ⟨d4, fun i sp r hi hr => ?_, d6⟩, hgone⟩⟩
        · rw [List.pairwise_map]
          exact c3.imp (fun h => by rw [(fg_a c _).1, (fg_a c _).1]; exact h)
        · show (X t).2.1.filter _ = _
          rw [fg_mc, d0]
        · show (c_mc (CX.map (fg c))).length = ((X t).2.1.filter _).length
          rw [fg_mc, d0]
        · rw [List.map_map]
          have : ((fun y : k_CX => y.2) ∘ fg c) = (fun y => y.2) := funext fun y => (fg_a c y).2.1
          rw [this]
          exact d2
        · obtain ⟨z, hz, rfl⟩ := List.mem_map.mp hy
          exact ⟨by rw [(fg_a c z).2.1]; exact (d3 z hz).1, wc_fg (d3 z hz).2⟩
        · obtain ⟨r1, r2, r3, r4⟩ := d5 i sp r hi hr
          refine ⟨r1, r2, fun j y hj => ?_, by rw [List.length_map]; exact r4⟩
          rw [List.getElem?_map] at hj
          cases ej : CX[j]? with
          | none => rw [ej] at hj; cases hj
          | some z =>
            rw [ej] at hj
            cases hj
            rw [(fg_a c z).2.1]
            exact r3 j z ej
      · rw [if_neg e, if_neg e]
        have hne := c_T_ne e
        obtain ⟨RS', cap', capR', kept', o1', ⟨c1', c2', c3'⟩, -⟩ := id (b1 u hu)
        refine tb_ser (tb_fr2 (b1 u hu) m.1 (by simp) (fun y hy z => ?_) (fun q fs hq => hAs q fs hq) ⟨fun z => ?_, hAl _ _ _ c1'.1, hAl _ _ _ c2'.1⟩) (Nat.le_refl _) (Nat.le_add_right _ _)
        · rcases z with z | ⟨x, hx, z⟩
          · have := (c1'.2.1 y.1 (List.mem_map.mpr ⟨y, hy, rfl⟩)).1
            rw [z, o1] at this
            cases this
          · exact b2t u hu e x hx y hy z.symm
        · rcases z with z | ⟨x, hx, z⟩
          · omega
          · have := (c1.2.1 x.1 (List.mem_map.mpr ⟨x, hx, rfl⟩)).1
            rw [← z, o1'] at this
            cases this
    · have hy2 : y ∈ (if u = t then CX.map (fg c) else CXf u) := hy
      have hz2 : z ∈ (if v = t then CX.map (fg c) else CXf v) := hz
      by_cases eu : u = t
      · rw [if_pos eu] at hy2
        rw [if_neg (fun ev => huv (eu.trans ev.symm))] at hz2
        obtain ⟨y0, hy0, rfl⟩ := List.mem_map.mp hy2
        rw [(fg_a c y0).1]
        exact b2t v hv (fun ev => huv (eu.trans ev.symm)) y0 hy0 z hz2
      · rw [if_neg eu] at hy2
        by_cases ev : v = t
        · rw [if_pos ev] at hz2
          obtain ⟨z0, hz0, rfl⟩ := List.mem_map.mp hz2
          rw [(fg_a c z0).1]
          exact (b2t u hu eu z0 hz0 y hy2).symm
        · rw [if_neg ev] at hz2
          exact b2 u v hu hv huv y hy2 z hz2
    · refine m.1 q d hq (fun z => ?_) (fun _ _ _ => List.not_mem_nil)
      rcases z with z | ⟨y, hy, z⟩
      · exact hA (Or.inl z)
      · have := (c1.2.1 y.1 (List.mem_map.mpr ⟨y, hy, rfl⟩)).1
        rw [z, this] at hq
        exact hK 4 _ (Option.some.inj hq).symm (by simp)
  refine k_ctv_of (eX9_forgetStamped ok.2 (bX9_forgetStamped_0 ?_))
  have loop : ∀ (d i : Nat) (h2 : k_H), CX.length - i = d → i ≤ CX.length → h2.1 (a + c_T t) = some (k_o 12 [vR (some (a + (c_T t + 1))), vR (some (a + (c_T t + 2))), vI (kB (X t).1.1), vI (kB (X t).1.2.1), vI (nI (X t).1.2.2.1), vI (nI (X t).1.2.2.2.1), vI (c_dn (X t).1.2.2.2.2), vI (nI (c_mc ((CX.take i).map (fg c) ++ CX.drop i)).length)]) → r_cs h2 (a + (c_T t + 1)) cap (((CX.take i).map (fg c) ++ CX.drop i).map (fun y => y.1)) → k_mo a [] (fun q => q = a + c_T t ∨ ∃ y ∈ CX, q = y.1.1) 0 h h2 →
      k_X (jX9_forgetStamped G l h) h2 2 [(0, vR (some (a + c_T t))), (1, vJ (lN c)), (3, vI (nI i))] [] (q_v (fun h' => c_TX a h' (X_up X t ((X t).1, (X t).2.1.filter (fun x => !(decide (x.2.1 = 6) && decide (x.2.2.1 = c))), (X t).2.2)) ser (w + (X t).2.1.countP (fun x => decide (x.2.1 = 6) && decide (x.2.2.1 = c))) ∧ k_mo a [4] (c_At a t) 0 h h')) := by
    intro d
    induction d with
    | zero =>
      intro i h2 hd hi e1 e2 m
      have ei : i = CX.length := by omega
      have ez : (CX.take i).map (fg c) ++ CX.drop i = CX.map (fg c) := by rw [ei, List.take_length, List.drop_length, List.append_nil]
      rw [ez] at e1 e2
      refine bX9_forgetStamped_2 e1 rfl (Or.inr ⟨rfl, _, _, e2.1⟩) (c_size ok e2.1) ?_
      rintro _ _ ⟨hh, rfl⟩
      rw [hh, List.length_map, List.length_map, List.length_map]
      exact bX9_forgetStamped_10 (fun _ => bX9_forgetStamped_69 ⟨rfl, fin h2 e1 e2 m⟩) (fun z => absurd (nI_le (by omega) (by omega)) z)
    | succ d ih =>
      intro i h2 hd hi e1 e2 m
      have hlt : i < CX.length := by omega
      obtain ⟨y, hy⟩ : ∃ y, CX[i]? = some y := ⟨_, List.getElem?_eq_getElem hlt⟩
      have hym := List.mem_of_getElem? hy
      have edr : CX.drop i = y :: CX.drop (i + 1) := by
        rw [List.drop_eq_getElem_cons hlt, (List.getElem?_eq_some_iff.mp hy).2]
      have etk : (CX.take (i + 1)).map (fg c) ++ CX.drop (i + 1) = (CX.take i).map (fg c) ++ fg c y :: CX.drop (i + 1) := by
        rw [List.take_succ, hy, List.map_append, List.append_assoc]; rfl
      have elen : (((CX.take i).map (fg c) ++ CX.drop i).map (fun y => y.1)).length = CX.length := by
        rw [List.length_map, List.length_append, List.length_map, List.length_take, List.length_drop]; omega
      have hge : (((CX.take i).map (fg c) ++ CX.drop i).map (fun y => y.1))[i]? = some y.1 := by
        rw [List.getElem?_map, List.getElem?_append_right (by rw [List.length_map, List.length_take]; omega), edr, List.length_map, List.length_take, show i - min i CX.length = 0 by omega]
        rfl
      have is1 : k_is h2 (a + (c_T t + 1)) 2 := Or.inr ⟨rfl, _, _, e2.1⟩
      have hyo := (e2.2.1 y.1 (List.mem_of_getElem? hge)).1
      have hyb := (e2.2.1 y.1 (List.mem_of_getElem? hge)).2
      have nx : fg c y = y → k_X (jX9_forgetStamped G l h) h2 63 [(0, vR (some (a + c_T t))), (1, vJ (lN c)), (3, vI (nI i))] [] (q_v (fun h' => c_TX a h' (X_up X t ((X t).1, (X t).2.1.filter (fun x => !(decide (x.2.1 = 6) && decide (x.2.2.1 = c))), (X t).2.2)) ser (w + (X t).2.1.countP (fun x => decide (x.2.1 = 6) && decide (x.2.2.1 = c))) ∧ k_mo a [4] (c_At a t) 0 h h')) := by
        intro ef
        rw [ef, ← edr] at etk
        refine bX9_forgetStamped_63 ?_
        rw [nI_1]
        exact ih (i + 1) h2 (by omega) (by omega) (by rw [etk]; exact e1) (by rw [etk]; exact e2) m
      refine bX9_forgetStamped_2 e1 rfl is1 (c_size ok e2.1) ?_
      rintro _ _ ⟨hh, rfl⟩
      rw [hh, List.length_map, elen]
      refine bX9_forgetStamped_10 (fun z => absurd z (nI_ge hlt (by omega))) (fun _ => bX9_forgetStamped_13 e1 rfl is1 (c_get ok e2.1 (by rw [List.getElem?_map, hge]; rfl)) ?_)
      rintro _ _ ⟨hh, rfl⟩
      rw [hh]
      refine bX9_forgetStamped_21 hyo rfl (fun n6 => nx (if_neg (fun z => n6 z.1))) (fun k6 => bX9_forgetStamped_36 hyo rfl (fun nc => nx (if_neg (fun z => nc (by rw [z.2])))) (fun kc => ?_))
      have kc2 : y.1.2.2.1 = c := (lX_eq hyb.1 (by omega)).mp kc
      have ef : fg c y = ((y.1.1, 7, y.1.2.2), y.2) := if_pos ⟨k6, kc2⟩
      rw [ef] at etk
      refine bX9_forgetStamped_46 hyo rfl ?_
      have hyT := hT12 y hym
      have ecell : (k_o 4 (List.set [vI y.1.2.1, vJ (lN y.1.2.2.1), vJ (lN y.1.2.2.2.1), vI y.1.2.2.2.2.1, vI y.1.2.2.2.2.2] 0 (vI 7))) = o_chg (y.1.1, 7, y.1.2.2) := rfl
      rw [ecell]
      have m2 : k_mo a [] (fun q => q = a + c_T t ∨ ∃ y ∈ CX, q = y.1.1) 0 h2 (k_up h2 y.1.1 (o_chg (y.1.1, 7, y.1.2.2))) := mv_o hyo (Or.inr (Or.inr ⟨y, hym, rfl⟩))
      have s3 : (k_up h2 y.1.1 (o_chg (y.1.1, 7, y.1.2.2))).1 y.1.1 = some (o_chg (y.1.1, 7, y.1.2.2)) := k_up_self _ _ _
      have n3 : ∀ q, q ≠ y.1.1 → (k_up h2 y.1.1 (o_chg (y.1.1, 7, y.1.2.2))).1 q = h2.1 q := fun q hq => k_up_ne _ _ hq
      generalize k_up h2 y.1.1 (o_chg (y.1.1, 7, y.1.2.2)) = h3 at m2 s3 n3
      have e1' : h3.1 (a + c_T t) = some (k_o 12 [vR (some (a + (c_T t + 1))), vR (some (a + (c_T t + 2))), vI (kB (X t).1.1), vI (kB (X t).1.2.1), vI (nI (X t).1.2.2.1), vI (nI (X t).1.2.2.2.1), vI (c_dn (X t).1.2.2.2.2), vI (nI (c_mc ((CX.take i).map (fg c) ++ CX.drop i)).length)]) := by rw [n3 _ (Ne.symm hyT)]; exact e1
      generalize hK1 : (c_mc ((CX.take i).map (fg c) ++ CX.drop i)).length = K1 at e1'
      refine bX9_forgetStamped_53 (f1_7 := nI K1) e1' rfl rfl ?_
      have ecell2 : (k_o 12 (List.set [vR (some (a + (c_T t + 1))), vR (some (a + (c_T t + 2))), vI (kB (X t).1.1), vI (kB (X t).1.2.1), vI (nI (X t).1.2.2.1), vI (nI (X t).1.2.2.2.1), vI (c_dn (X t).1.2.2.2.2), vI (nI K1)] 7 (vI (nI K1 - 1)))) = k_o 12 [vR (some (a + (c_T t + 1))), vR (some (a + (c_T t + 2))), vI (kB (X t).1.1), vI (kB (X t).1.2.1), vI (nI (X t).1.2.2.1), vI (nI (X t).1.2.2.2.1), vI (c_dn (X t).1.2.2.2.2), vI (nI K1 - 1)] := rfl
      rw [ecell2]
      have m3 : k_mo a [] (fun q => q = a + c_T t ∨ ∃ y ∈ CX, q = y.1.1) 0 h3 (k_up h3 (a + c_T t) (k_o 12 [vR (some (a + (c_T t + 1))), vR (some (a + (c_T t + 2))), vI (kB (X t).1.1), vI (kB (X t).1.2.1), vI (nI (X t).1.2.2.1), vI (nI (X t).1.2.2.2.1), vI (c_dn (X t).1.2.2.2.2), vI (nI K1 - 1)])) := mv_o e1' (Or.inr (Or.inl rfl))
      have s4 : (k_up h3 (a + c_T t) (k_o 12 [vR (some (a + (c_T t + 1))), vR (some (a + (c_T t + 2))), vI (kB (X t).1.1), vI (kB (X t).1.2.1), vI (nI (X t).1.2.2.1), vI (nI (X t).1.2.2.2.1), vI (c_dn (X t).1.2.2.2.2), vI (nI K1 - 1)])).1 (a + c_T t) = some (k_o 12 [vR (some (a + (c_T t + 1))), vR (some (a + (c_T t + 2))), vI (kB (X t).1.1), vI (kB (X t).1.2.1), vI (nI (X t).1.2.2.1), vI (nI (X t).1.2.2.2.1), vI (c_dn (X t).1.2.2.2.2), vI (nI K1 - 1)]) := k_up_self _ _ _
      have n4 : ∀ q, q ≠ a + c_T t → (k_up h3 (a + c_T t) (k_o 12 [vR (some (a + (c_T t + 1))), vR (some (a + (c_T t + 2))), vI (kB (X t).1.1), vI (kB (X t).1.2.1), vI (nI (X t).1.2.2.1), vI (nI (X t).1.2.2.2.1), vI (c_dn (X t).1.2.2.2.2), vI (nI K1 - 1)])).1 q = h3.1 q := fun q hq => k_up_ne _ _ hq
      generalize k_up h3 (a + c_T t) (k_o 12 [vR (some (a + (c_T t + 1))), vR (some (a + (c_T t + 2))), vI (kB (X t).1.1), vI (kB (X t).1.2.1), vI (nI (X t).1.2.2.1), vI (nI (X t).1.2.2.2.1), vI (c_dn (X t).1.2.2.2.2), vI (nI K1 - 1)]) = h4 at m3 s4 n4
      refine bX9_forgetStamped_63 ?_
      rw [nI_1]
      have ekept : K1 = (c_mc ((CX.take (i + 1)).map (fg c) ++ CX.drop (i + 1))).length + 1 := by
        have hap : ∀ u v : List k_CX, c_mc (u ++ v) = c_mc u ++ c_mc v := fun u v => by
          unfold c_mc
          rw [List.filter_append, List.map_append]
        have hc1 : c_mc (y :: CX.drop (i + 1)) = (y.2, y.1.2) :: c_mc (CX.drop (i + 1)) := by
          unfold c_mc
          rw [List.filter_cons_of_pos (by rw [k6]; decide), List.map_cons]
        have hc2 : c_mc (((y.1.1, 7, y.1.2.2), y.2) :: CX.drop (i + 1)) = c_mc (CX.drop (i + 1)) := by
          unfold c_mc
          rw [List.filter_cons_of_neg (by simp)]
        rw [← hK1, etk, edr, hap, hap, hc1, hc2, List.length_append, List.length_append, List.length_cons]
        omega
      have hpw : ((CX.take i).map (fg c) ++ y :: CX.drop (i + 1)).Pairwise (fun x y => x.1.1 ≠ y.1.1) := by
        have h1 : (CX.take i ++ y :: CX.drop (i + 1)) = CX := by rw [← edr, List.take_append_drop]
        rw [← h1, List.pairwise_append] at c3
        rw [List.pairwise_append, List.pairwise_map]
        refine ⟨c3.1.imp (fun h => by rw [(fg_a c _).1, (fg_a c _).1]; exact h), c3.2.1, fun u hu v hv => ?_⟩
        obtain ⟨u0, hu0, rfl⟩ := List.mem_map.mp hu
        rw [(fg_a c u0).1]
        exact c3.2.2 u0 hu0 v hv
      refine ih (i + 1) h4 (by omega) (by omega) ?_ ?_ (mv_mono (mv_trans (mv_trans m m2) m3) (fun _ h => h) (fun _ h => h) (Nat.le_refl 0))
      · rw [s4, ekept, show nI ((c_mc ((CX.take (i + 1)).map (fg c) ++ CX.drop (i + 1))).length + 1) - 1 = nI (c_mc ((CX.take (i + 1)).map (fg c) ++ CX.drop (i + 1))).length by rw [← nI_1]; exact Int32.add_sub_cancel _ _]
      · rw [etk]
        rw [edr] at e2
        refine ⟨?_, fun z hz => ?_, ?_⟩
        · have hl1 := e2.1
          have n1 : a + (c_T t + 1) ≠ y.1.1 := fun z => by rw [z, hyo] at hl1; cases hl1
          rw [n4 _ (by omega), n3 _ n1, hl1]
          simp only [List.map_append, List.map_cons]
        · obtain ⟨u, hu, rfl⟩ := List.mem_map.mp hz
          rw [List.pairwise_append, List.pairwise_cons] at hpw
          have hother : ∀ v ∈ (CX.take i).map (fg c) ++ y :: CX.drop (i + 1), v.1.1 ≠ y.1.1 → h4.1 v.1.1 = some (o_chg v.1) ∧ v.1.2.2.1 < 2 ^ 62 ∧ v.1.2.2.2.1 < 2 ^ 62 := fun v hv hne => by
            have hvo := e2.2.1 v.1 (List.mem_map.mpr ⟨v, hv, rfl⟩)
            have n1 : v.1.1 ≠ a + c_T t := fun z => by have h9 := hvo.1; rw [z, e1] at h9; cases h9
            exact ⟨by rw [n4 _ n1, n3 _ hne]; exact hvo.1, hvo.2⟩
          rcases List.mem_append.mp hu with hu | hu
          · exact hother u (List.mem_append.mpr (Or.inl hu)) (hpw.2.2 u hu y (List.mem_cons_self ..))
          · rcases List.mem_cons.mp hu with hu | hu
            · rw [hu]
              exact ⟨by rw [n4 _ hyT]; exact s3, hyb⟩
            · exact hother u (List.mem_append.mpr (Or.inr (List.mem_cons_of_mem _ hu))) (hpw.2.1.1 u hu).symm
        · have h9 := e2.2.2
          simp only [List.length_map, List.length_append, List.length_cons] at h9 ⊢
          exact h9
  refine loop _ 0 h rfl (Nat.zero_le _) ?_ c1 (mv_refl _ _ _ _)
  have : (CX.take 0).map (fg c) ++ CX.drop 0 = CX := rfl
  rw [this, ← d0, ← d1]
  exact o1
end CFG
end
