/-! THE CLASS'S STORE AND THE REFERENCE'S: keys, log and wipes say the same -/
def c_rE (KS : List k_K2) (L : List k_E4) (WS : List k_SP) (E : e_S) (x : Nat) : Prop :=
  ((∀ d m, r_val d m L = r_val d m E.2.1) ∧ (∀ d v, r_has d v L ↔ r_has d v E.2.1) ∧ L.length ≤ E.2.1.length) ∧ ((∀ y ∈ E.1, ∃ k, (y.1, k) ∈ KS) ∧ KS.length ≤ E.1.length + x) ∧ WS.map (fun w => w.2) = E.2.2 ∧ r_in E.1 E.2.1 ∧ E.1.Pairwise (fun x y => x.1 < y.1)
theorem srt_ext : ∀ {A B : List Nat}, A.Pairwise (fun x y => x < y) → B.Pairwise (fun x y => x < y) → (∀ x, x ∈ A ↔ x ∈ B) → A = B := by
  intro A
  induction A with
  | nil =>
    intro B _ _ h
    cases B with
    | nil => rfl
    | cons b B => exact absurd ((h b).mpr (List.mem_cons_self ..)) (by simp)
  | cons a A ih =>
    intro B hA hB h
    cases B with
    | nil => exact absurd ((h a).mp (List.mem_cons_self ..)) (by simp)
    | cons b B =>
      rw [List.pairwise_cons] at hA hB
      have e : a = b := by
        rcases List.mem_cons.mp ((h a).mp (List.mem_cons_self ..)) with e | e
        · exact e
        · rcases List.mem_cons.mp ((h b).mpr (List.mem_cons_self ..)) with e2 | e2
          · exact e2.symm
          · have := hB.1 _ e
            have := hA.1 _ e2
            omega
      subst e
      congr 1
      refine ih hA.2 hB.2 fun x => ⟨fun hx => ?_, fun hx => ?_⟩
      · rcases List.mem_cons.mp ((h x).mp (List.mem_cons_of_mem _ hx)) with e | e
        · have := hA.1 _ hx; omega
        · exact e
      · rcases List.mem_cons.mp ((h x).mpr (List.mem_cons_of_mem _ hx)) with e | e
        · have := hB.1 _ hx; omega
        · exact e
theorem val_has {c m : Nat} {L : List k_E4} (h : (r_val c m L).isSome = true) : ∃ v, r_has c v L := by
  unfold r_val at h
  cases e : r_get c m L with
  | none => rw [e] at h; cases h
  | some y =>
    have hy : y ∈ L := by unfold r_get at e; exact List.mem_of_find?_eq_some e
    have h2 : (y.2.1 == c && decide (y.2.2.1 ≤ m)) = true := by unfold r_get at e; exact List.find?_some (p := fun (x : k_E4) => x.2.1 == c && decide (x.2.2.1 ≤ m)) e
    simp only [Bool.and_eq_true, beq_iff_eq, decide_eq_true_eq] at h2
    exact ⟨y.2.2.1, y, hy, h2.1, rfl⟩
theorem rE_flt {KS : List k_K2} {L : List k_E4} {WS : List k_SP} {E : e_S} {x : Nat} (r : c_rE KS L WS E x) (s : KS.Pairwise (fun x y => x.1 < y.1)) {p : Nat → Bool} (hp : ∀ c, p c = true → ∃ v, r_has c v L) : (KS.filter (fun y => p y.1)).map (fun y => y.1) = (E.1.filter (fun y => p y.1)).map (fun y => y.1) := by
  obtain ⟨⟨a1, a2, a3⟩, ⟨b1, b2⟩, b3, b4, b5⟩ := r
  refine srt_ext (List.pairwise_map.mpr (s.sublist List.filter_sublist)) (List.pairwise_map.mpr (b5.sublist List.filter_sublist)) fun c => ?_
  rw [List.mem_map, List.mem_map]
  constructor
  · rintro ⟨y, hy, rfl⟩
    obtain ⟨hy1, hy2⟩ := List.mem_filter.mp hy
    obtain ⟨v, hv⟩ := hp _ hy2
    obtain ⟨w, hw, h1, h2⟩ := (a2 _ _).mp hv
    obtain ⟨k, hk⟩ := b4 w hw
    rw [h1] at hk
    exact ⟨_, List.mem_filter.mpr ⟨hk, hy2⟩, rfl⟩
  · rintro ⟨y, hy, rfl⟩
    obtain ⟨hy1, hy2⟩ := List.mem_filter.mp hy
    obtain ⟨k, hk⟩ := b1 y hy1
    exact ⟨_, List.mem_filter.mpr ⟨hk, hy2⟩, rfl⟩
theorem rE_hl {KS : List k_K2} {L : List k_E4} {WS : List k_SP} {E : e_S} {x : Nat} (r : c_rE KS L WS E x) (s : KS.Pairwise (fun x y => x.1 < y.1)) (lo hi n : Nat) : (c_hl lo hi n KS L).map (fun y => y.1) = (c_hl lo hi n E.1 E.2.1).map (fun y => y.1) := by
  have h := rE_flt r s (p := fun c => decide (lo ≤ c) && decide (c < hi) && (r_val c n L).isSome) (fun c hc => val_has (m := n) (by simp only [Bool.and_eq_true] at hc; exact hc.2))
  unfold c_hl r_flt
  rw [h]
  congr 1
  refine List.filter_congr fun y _ => ?_
  rw [r.1.1]
theorem bb_dif_eq (o p : Option Int32) : bb_dif o p = !(decide (o = p)) := by
  cases o with
  | none => cases p with
    | none => rfl
    | some q => rfl
  | some w => cases p with
    | none => rfl
    | some q =>
      unfold bb_dif
      show (!(decide (true = true)) || !(decide (w = q))) = !(decide (some w = some q))
      by_cases e : w = q
      · rw [e, decide_eq_true rfl, decide_eq_true rfl, decide_eq_true rfl]; rfl
      · rw [decide_eq_true rfl, decide_eq_false e, decide_eq_false (fun z => e (Option.some.inj z))]; rfl
theorem rE_oth {KS : List k_K2} {L : List k_E4} {WS : List k_SP} {E : e_S} {x : Nat} (r : c_rE KS L WS E x) (s : KS.Pairwise (fun x y => x.1 < y.1)) (n v : Nat) : (KS.filter (fun y => bb_oth L n v y.1)).map (fun y => y.1) = (E.1.filter (fun y => bb_oth E.2.1 n v y.1)).map (fun y => y.1) := by
  have h := rE_flt r s (p := fun c => bb_oth L n v c) (fun c hc => by
    unfold bb_oth at hc
    rw [bb_dif_eq] at hc
    cases e1 : r_val c n L with
    | some w => exact val_has (m := n) (by rw [e1]; rfl)
    | none =>
      cases e2 : r_val c v L with
      | some w => exact val_has (m := v) (by rw [e2]; rfl)
      | none => rw [e1, e2] at hc; simp at hc)
  rw [h]
  congr 1
  refine List.filter_congr fun y _ => ?_
  unfold bb_oth
  rw [r.1.1, r.1.1]
theorem rE_ins {KS : List k_K2} {L : List k_E4} {WS : List k_SP} {E : e_S} {x c k : Nat} (r : c_rE KS L WS E x) (s : KS.Pairwise (fun x y => x.1 < y.1)) : c_rE (c_ins c k KS) L WS (m_ins c E.1, E.2) x := by
  obtain ⟨a, ⟨b1, b2⟩, b3, b4, b5⟩ := r
  refine ⟨a, ⟨fun y hy => ?_, ?_⟩, b3, fun y hy => ?_, m_ins_srt b5⟩
  · rcases m_ins_of hy with e | hy
    · rw [e]
      unfold c_ins
      cases e2 : r_at c KS with
      | some q => exact ⟨q, by rw [if_pos (show (some q).isSome = true from rfl)]; exact r_at_some e2⟩
      | none => exact ⟨k, by rw [if_neg (by simp), List.mem_insertIdx (r_pl_le c KS)]; exact Or.inl rfl⟩
    · obtain ⟨q, hq⟩ := b1 y hy
      exact ⟨q, c_ins_mem hq⟩
  · show (c_ins c k KS).length ≤ (m_ins c E.1).length + x
    unfold c_ins
    have h2 := m_ins_le c E.1
    cases e2 : r_at c KS with
    | some q => rw [if_pos (show (some q).isSome = true from rfl)]; omega
    | none =>
      rw [if_neg (by simp), List.length_insertIdx, if_pos (r_pl_le c KS)]
      have e3 : r_at c E.1 = none := by
        cases e4 : r_at c E.1 with
        | none => rfl
        | some q =>
          obtain ⟨k2, hk2⟩ := b1 _ (r_at_some e4)
          rw [r_at_mem s hk2] at e2
          cases e2
      have : (m_ins c E.1).length = E.1.length + 1 := by
        unfold m_ins
        rw [e3, if_neg (by simp), List.length_insertIdx, if_pos (r_pl_le c E.1)]
      omega
  · obtain ⟨q, hq⟩ := b4 y hy
    exact ⟨q, m_ins_mem hq⟩
theorem m_ins_has (c : Nat) {KM : List k_K2} : ∃ q, (c, q) ∈ m_ins c KM := by
  obtain ⟨q, hq⟩ := m_ins_at (c := c) (KM := KM)
  exact ⟨q, List.mem_of_getElem? hq⟩
theorem lg_eq {c n : Nat} {o : Option Int32} {L L' P P' : List k_E4} (a : (∀ d m, r_val d m L = r_val d m P) ∧ (∀ d v, r_has d v L ↔ r_has d v P)) (h : w_lg c n o L L') (k : w_lg c n o P P') : (∀ d m, r_val d m L' = r_val d m P') ∧ (∀ d v, r_has d v L' ↔ r_has d v P') :=
  ⟨fun d m => by rw [h.1, k.1, a.1], fun d v => by rw [h.2.1, k.2.1, a.2]⟩
theorem ls_eq {X : List Nat} {n : Nat} {f : Nat → Option Int32} {L L' P P' : List k_E4} (a : (∀ d m, r_val d m L = r_val d m P) ∧ (∀ d v, r_has d v L ↔ r_has d v P)) (h : w_ls X n f L L') (k : w_ls X n f P P') : (∀ d m, r_val d m L' = r_val d m P') ∧ (∀ d v, r_has d v L' ↔ r_has d v P') :=
  ⟨fun d m => by rw [h.1, k.1, a.1], fun d v => by rw [h.2.1, k.2.1, a.2]⟩
theorem rE_put {KS : List k_K2} {L L' : List k_E4} {WS : List k_SP} {E : e_S} {x c k n : Nat} {o : Option Int32} (r : c_rE KS L WS E x) (s : KS.Pairwise (fun x y => x.1 < y.1)) (w : w_lg c n o L L') : c_rE (c_ins c k KS) L' WS (e_put n c o E) x := by
  obtain ⟨⟨a1, a2, a3⟩, b, b3, b4, b5⟩ := rE_ins (c := c) (k := k) r s
  obtain ⟨q1, q2⟩ := lg_eq ⟨a1, a2⟩ w (w_lg_new (q := E.2.1.length) (L := E.2.1))
  refine ⟨⟨q1, q2, ?_⟩, b, b3, fun y hy => ?_, b5⟩
  · have := w.2.2.2
    show L'.length ≤ E.2.1.length + 1
    have : L.length ≤ E.2.1.length := a3
    omega
  · rcases List.mem_cons.mp hy with rfl | hy
    · exact m_ins_has c
    · exact b4 y hy
theorem w_ls_cons {X : List Nat} {n c : Nat} {f : Nat → Option Int32} {L L1 L2 : List k_E4} (h1 : w_lg c n (f c) L L1) (h2 : w_ls X n f L1 L2) : w_ls (c :: X) n f L L2 := by
  refine ⟨fun d m => ?_, fun d v => ?_, Nat.le_trans h1.2.2.1 h2.2.2.1, by have := h1.2.2.2; have := h2.2.2.2; rw [List.length_cons]; omega⟩
  · rw [h2.1, h1.1]
    by_cases e2 : d ∈ X ∧ n ≤ m
    · rw [if_pos e2, if_pos ⟨List.mem_cons_of_mem _ e2.1, e2.2⟩]
    · rw [if_neg e2]
      by_cases e : d = c ∧ n ≤ m
      · rw [if_pos e, if_pos ⟨by simp [e.1], e.2⟩, e.1]
      · rw [if_neg e, if_neg]
        rintro ⟨h, hm⟩
        rcases List.mem_cons.mp h with h | h
        · exact e ⟨h, hm⟩
        · exact e2 ⟨h, hm⟩
  · rw [h2.2.1, h1.2.1]
    constructor
    · rintro ((h | ⟨h, hv⟩) | ⟨h, hv⟩)
      · exact Or.inl h
      · exact Or.inr ⟨by simp [h], hv⟩
      · exact Or.inr ⟨List.mem_cons_of_mem _ h, hv⟩
    · rintro (h | ⟨h, hv⟩)
      · exact Or.inl (Or.inl h)
      · rcases List.mem_cons.mp h with h | h
        · exact Or.inl (Or.inr ⟨h, hv⟩)
        · exact Or.inr ⟨h, hv⟩
theorem pus_ls (n : Nat) : ∀ (X : List Nat) (L : List k_E4), w_ls X n (fun _ => none) L (r_pus n (X.map (fun c => (c, none))) L) := by
  intro X
  induction X with
  | nil => exact fun L => w_ls_nil _ _ _
  | cons c t ih => exact fun L => w_ls_cons (L1 := r_pu n L (c, none)) w_lg_new (ih _)
theorem rE_clr {KS : List k_K2} {L L' : List k_E4} {WS : List k_SP} {E : e_S} {x lo hi n q : Nat} (r : c_rE KS L WS E x) (s : KS.Pairwise (fun x y => x.1 < y.1)) (w : w_ls ((c_hl lo hi n KS L).map (fun x => x.1)) n (fun _ => none) L L') : c_rE KS L' (WS ++ [(q, lo, hi, n)]) (e_clr n lo hi E) x := by
  rw [rE_hl r s] at w
  obtain ⟨⟨a1, a2, a3⟩, b, b3, b4, b5⟩ := r
  have hX : (c_hl lo hi n E.1 E.2.1).map (fun x => (x.1, (none : Option Int32))) = ((c_hl lo hi n E.1 E.2.1).map (fun x => x.1)).map (fun c => (c, none)) := by rw [List.map_map]; rfl
  have hin : ∀ c ∈ (c_hl lo hi n E.1 E.2.1).map (fun x => x.1), ∃ k, (c, k) ∈ E.1 := fun c hc => by
    obtain ⟨y, hy, rfl⟩ := List.mem_map.mp hc
    exact ⟨y.2, (r_flt_of hy).1⟩
  have eE : e_clr n lo hi E = (E.1, r_pus n ((c_hl lo hi n E.1 E.2.1).map (fun x => (x.1, none))) E.2.1, E.2.2 ++ [(lo, hi, n)]) := rfl
  rw [eE, hX]
  generalize (c_hl lo hi n E.1 E.2.1).map (fun x => x.1) = X at w hin
  have k := pus_ls n X E.2.1
  obtain ⟨q1, q2⟩ := ls_eq ⟨a1, a2⟩ w k
  refine ⟨⟨q1, q2, ?_⟩, b, ?_, fun y hy => ?_, b5⟩
  · have h1 := w.2.2.2
    show L'.length ≤ (r_pus n (X.map (fun c => (c, none))) E.2.1).length
    rw [r_pus_len, List.length_map]
    omega
  · show (WS ++ [(q, lo, hi, n)]).map (fun w => w.2) = E.2.2 ++ [(lo, hi, n)]
    rw [List.map_append, b3]
    rfl
  · have hh : r_has y.2.1 y.2.2.1 (r_pus n (X.map (fun c => (c, none))) E.2.1) := ⟨y, hy, rfl, rfl⟩
    rcases (k.2.1 _ _).mp hh with ⟨u, hu, h1, -⟩ | ⟨h1, -⟩
    · obtain ⟨a, ha⟩ := b4 u hu
      rw [h1] at ha
      exact ⟨a, ha⟩
    · exact hin _ h1
