/-! WHAT PARTS HOLD ABOVE FOUR: each split costs four of it, each new key gives one -/
def p_ps (V : List Nat) : List p_T → Nat
  | [] => 0
  | p :: r => (p_end V r - p_lt p.1 V - 4) + p_ps V r
/-- V' has d more, or less, than V -/
def z_d (d : Nat) (b0 b1 : Nat) (V V' : List Nat) : Prop := (∀ e, p_lt e V' + (if d < e then b0 else 0) = p_lt e V + (if d < e then b1 else 0)) ∧ V'.length + b0 = V.length + b1
theorem zd_end {d b0 b1 : Nat} {V V' : List Nat} (h : z_d d b0 b1 V V') (r : List p_T) (hr : ∀ q ∈ r, d < q.1) : p_end V' r + b0 = p_end V r + b1 := by
  cases r with
  | nil => exact h.2
  | cons q r =>
    have h1 := h.1 q.1
    rw [if_pos (hr q List.mem_cons_self), if_pos (hr q List.mem_cons_self)] at h1
    exact h1
theorem ps_hi {d b0 b1 : Nat} {V V' : List Nat} (h : z_d d b0 b1 V V') : ∀ PT : List p_T, (∀ q ∈ PT, d < q.1) → p_ps V' PT = p_ps V PT := by
  intro PT
  induction PT with
  | nil => intro _; rfl
  | cons p r ih =>
    intro hp
    have h1 := h.1 p.1
    rw [if_pos (hp p List.mem_cons_self), if_pos (hp p List.mem_cons_self)] at h1
    have h2 := zd_end h r (fun q hq => hp q (List.mem_cons_of_mem _ hq))
    show (p_end V' r - p_lt p.1 V' - 4) + p_ps V' r = (p_end V r - p_lt p.1 V - 4) + p_ps V r
    rw [ih (fun q hq => hp q (List.mem_cons_of_mem _ hq))]
    omega
theorem ps_put {d b0 b1 : Nat} {V V' : List Nat} (h : z_d d b0 b1 V V') : ∀ PT : List p_T, PT.Pairwise (fun x y => x.1 < y.1) → p_ps V' PT ≤ p_ps V PT + b1 := by
  intro PT
  induction PT with
  | nil => intro _; exact Nat.zero_le _
  | cons p r ih =>
    intro hs
    obtain ⟨s1, s2⟩ := List.pairwise_cons.mp hs
    have h1 := h.1 p.1
    show (p_end V' r - p_lt p.1 V' - 4) + p_ps V' r ≤ (p_end V r - p_lt p.1 V - 4) + p_ps V r + b1
    cases r with
    | nil =>
      have h2 : V'.length + b0 = V.length + b1 := h.2
      show (V'.length - p_lt p.1 V' - 4) + 0 ≤ (V.length - p_lt p.1 V - 4) + 0 + b1
      by_cases c1 : d < p.1
      · rw [if_pos c1, if_pos c1] at h1; omega
      · rw [if_neg c1, if_neg c1] at h1; omega
    | cons q r =>
      have h2 := h.1 q.1
      have hpq := s1 q List.mem_cons_self
      by_cases c2 : d < q.1
      · have e := ps_hi h (q :: r) (fun x hx => by
          rcases List.mem_cons.mp hx with rfl | hx
          · exact c2
          · exact Nat.lt_trans c2 ((List.pairwise_cons.mp s2).1 x hx))
        rw [e]
        rw [if_pos c2, if_pos c2] at h2
        show (p_lt q.1 V' - p_lt p.1 V' - 4) + p_ps V (q :: r) ≤ (p_lt q.1 V - p_lt p.1 V - 4) + p_ps V (q :: r) + b1
        by_cases c1 : d < p.1
        · rw [if_pos c1, if_pos c1] at h1; omega
        · rw [if_neg c1, if_neg c1] at h1; omega
      · have e := ih s2
        rw [if_neg c2, if_neg c2] at h2
        rw [if_neg (by omega), if_neg (by omega)] at h1
        show (p_lt q.1 V' - p_lt p.1 V' - 4) + p_ps V' (q :: r) ≤ (p_lt q.1 V - p_lt p.1 V - 4) + p_ps V (q :: r) + b1
        omega
/-! .. a split -/
theorem ps_app {V : List Nat} {p : p_T} {r r' : List p_T} {k : Nat} (h : p_ps V (p :: r') + k ≤ p_ps V (p :: r)) : ∀ pre : List p_T, p_ps V (pre ++ p :: r') + k ≤ p_ps V (pre ++ p :: r) := by
  intro pre
  induction pre with
  | nil => exact h
  | cons x pre ih =>
    show (p_end V (pre ++ p :: r') - p_lt x.1 V - 4) + p_ps V (pre ++ p :: r') + k ≤ (p_end V (pre ++ p :: r) - p_lt x.1 V - 4) + p_ps V (pre ++ p :: r)
    have e : p_end V (pre ++ p :: r') = p_end V (pre ++ p :: r) := by cases pre <;> rfl
    rw [e]
    omega
theorem p_new {V : List Nat} (hV : V.Pairwise (fun x y => x < y)) {p : p_T} {rest : List p_T} (h8 : 8 < p_end V rest - p_lt p.1 V) :
    p_lt (V.getD (p_lt p.1 V + 4) 0) V = p_lt p.1 V + 4 ∧ V.getD (p_lt p.1 V + 4) 0 ∈ V ∧ p.1 < V.getD (p_lt p.1 V + 4) 0 ∧ ∀ q ∈ rest.head?, V.getD (p_lt p.1 V + 4) 0 < q.1 := by
  have hle := p_end_le V rest
  have hi : p_lt p.1 V + 4 < V.length := by omega
  have hg : V[p_lt p.1 V + 4]? = some (V.getD (p_lt p.1 V + 4) 0) := by
    rw [List.getD_eq_getElem?_getD, List.getElem?_eq_getElem hi]
    rfl
  have e := p_lt_at hV hg
  refine ⟨e, List.mem_of_getElem? hg, ?_, fun q hq => ?_⟩
  · have := (p_lt_iff hV hg (c := p.1))
    have hne : ¬ V.getD (p_lt p.1 V + 4) 0 < p.1 := fun z => by have := this.mp z; omega
    have hne2 : ¬ V.getD (p_lt p.1 V + 4) 0 = p.1 := fun z => by rw [z] at e; omega
    omega
  · cases rest with
    | nil => cases hq
    | cons q' r =>
      have : q' = q := by simpa using hq
      subst this
      have h8' : 8 < p_lt q'.1 V - p_lt p.1 V := h8
      exact (p_lt_iff hV hg (c := q'.1)).mpr (by omega)
theorem ps_split {V : List Nat} (hV : V.Pairwise (fun x y => x < y)) : ∀ (k : Nat) (pre todo : List p_T), 4 * (p_split V k pre todo).length + p_ps V (p_split V k pre todo) ≤ 4 * (pre ++ todo).length + p_ps V (pre ++ todo) := by
  intro k
  induction k with
  | zero => intro pre todo; exact Nat.le_refl _
  | succ k ih =>
    intro pre todo
    cases todo with
    | nil =>
      show 4 * pre.length + p_ps V pre ≤ 4 * (pre ++ []).length + p_ps V (pre ++ [])
      rw [List.append_nil]
      exact Nat.le_refl _
    | cons p rest =>
      unfold p_split
      by_cases h8 : 8 < p_end V rest - p_lt p.1 V
      · rw [if_pos h8]
        refine Nat.le_trans (ih _ _) ?_
        obtain ⟨e, -, -, -⟩ := p_new hV h8
        rw [List.append_assoc]
        have := ps_app (V := V) (p := p) (r := rest) (r' := (V.getD (p_lt p.1 V + 4) 0, p_idle (pre ++ p :: rest)) :: rest) (k := 4) (by
          show (p_lt (V.getD (p_lt p.1 V + 4) 0) V - p_lt p.1 V - 4) + ((p_end V rest - p_lt (V.getD (p_lt p.1 V + 4) 0) V - 4) + p_ps V rest) + 4 ≤ (p_end V rest - p_lt p.1 V - 4) + p_ps V rest
          rw [e]
          omega) pre
        have hl : (pre ++ ([p] ++ (V.getD (p_lt p.1 V + 4) 0, p_idle (pre ++ p :: rest)) :: rest)).length = (pre ++ p :: rest).length + 1 := by simp; omega
        rw [hl]
        have this' : p_ps V (pre ++ ([p] ++ (V.getD (p_lt p.1 V + 4) 0, p_idle (pre ++ p :: rest)) :: rest)) + 4 ≤ p_ps V (pre ++ p :: rest) := this
        omega
      · rw [if_neg h8]
        have := ih (pre ++ [p]) rest
        rw [List.append_assoc] at this
        exact this
theorem p_split_ge (V : List Nat) : ∀ (k : Nat) (pre todo : List p_T), (pre ++ todo).length ≤ (p_split V k pre todo).length := by
  intro k
  induction k with
  | zero => intro pre todo; exact Nat.le_refl _
  | succ k ih =>
    intro pre todo
    cases todo with
    | nil => rw [List.append_nil]; exact Nat.le_refl _
    | cons p rest =>
      unfold p_split
      split
      · refine Nat.le_trans ?_ (ih _ _)
        simp
      · refine Nat.le_trans ?_ (ih _ _)
        simp
/-- what is so of each list of parts that is in order, from 0 on, with lows below c -/
def p_gd (PT : List p_T) : Prop := PT.Pairwise (fun x y => x.1 < y.1) ∧ (∀ p ∈ PT.head?, p.1 = 0) ∧ (∀ p ∈ PT, p.1 < 1331000000000)
theorem gd_split {V : List Nat} (hV : V.Pairwise (fun x y => x < y)) (hb : ∀ x ∈ V, x < 1331000000000) : ∀ (k : Nat) (pre todo : List p_T), p_gd (pre ++ todo) → p_gd (p_split V k pre todo) := by
  intro k
  induction k with
  | zero => intro pre todo h; exact h
  | succ k ih =>
    intro pre todo h
    cases todo with
    | nil => rw [List.append_nil] at h; exact h
    | cons p rest =>
      unfold p_split
      by_cases h8 : 8 < p_end V rest - p_lt p.1 V
      · rw [if_pos h8]
        obtain ⟨e, m, l1, l2⟩ := p_new hV h8
        generalize V.getD (p_lt p.1 V + 4) 0 = c at e m l1 l2
        refine ih _ _ ?_
        rw [List.append_assoc]
        show p_gd (pre ++ p :: (c, p_idle (pre ++ p :: rest)) :: rest)
        generalize p_idle (pre ++ p :: rest) = sv
        obtain ⟨s, z, b⟩ := h
        obtain ⟨s1, s2, s3⟩ := List.pairwise_append.mp s
        obtain ⟨s4, s5⟩ := List.pairwise_cons.mp s2
        have lr : ∀ q ∈ rest, c < q.1 := by
          intro q hq
          cases rest with
          | nil => cases hq
          | cons q' r =>
            have h1 := l2 q' rfl
            rcases List.mem_cons.mp hq with rfl | hq
            · exact h1
            · exact Nat.lt_trans h1 ((List.pairwise_cons.mp s5).1 q hq)
        refine ⟨List.pairwise_append.mpr ⟨s1, List.pairwise_cons.mpr ⟨fun y hy => ?_, List.pairwise_cons.mpr ⟨fun y hy => lr y hy, s5⟩⟩, fun x hx y hy => ?_⟩, fun q hq => ?_, fun q hq => ?_⟩
        · rcases List.mem_cons.mp hy with rfl | hy
          · exact l1
          · exact s4 y hy
        · rcases List.mem_cons.mp hy with rfl | hy
          · exact s3 x hx _ List.mem_cons_self
          · rcases List.mem_cons.mp hy with rfl | hy
            · exact Nat.lt_trans (s3 x hx p List.mem_cons_self) l1
            · exact s3 x hx y (List.mem_cons_of_mem _ hy)
        · refine z q ?_
          cases pre with
          | nil => exact hq
          | cons x pre => exact hq
        · rcases List.mem_append.mp hq with hq | hq
          · exact b q (List.mem_append.mpr (Or.inl hq))
          · rcases List.mem_cons.mp hq with rfl | hq
            · exact b q (List.mem_append.mpr (Or.inr List.mem_cons_self))
            · rcases List.mem_cons.mp hq with rfl | hq
              · exact hb c m
              · exact b q (List.mem_append.mpr (Or.inr (List.mem_cons_of_mem _ hq)))
      · rw [if_neg h8]
        refine ih _ _ ?_
        rw [List.append_assoc]
        exact h
/-! .. joins -/
theorem p_join_hd (V : List Nat) : ∀ (r : List p_T) (p : p_T), ∃ t, p_join V p r = p :: t ∧ ∀ x ∈ t, x ∈ r := by
  intro r
  induction r with
  | nil => intro p; exact ⟨[], rfl, fun x hx => hx⟩
  | cons q r ih =>
    intro p
    unfold p_join
    split
    · obtain ⟨t, e, h⟩ := ih p
      exact ⟨t, e, fun x hx => List.mem_cons_of_mem _ (h x hx)⟩
    · obtain ⟨t, e, h⟩ := ih q
      refine ⟨p_join V q r, rfl, fun x hx => ?_⟩
      rw [e] at hx
      rcases List.mem_cons.mp hx with rfl | hx
      · exact List.mem_cons_self
      · exact List.mem_cons_of_mem _ (h x hx)
theorem ps_join (V : List Nat) : ∀ (r : List p_T) (p : p_T), p_ps V (p_join V p r) ≤ p_ps V (p :: r) := by
  intro r
  induction r with
  | nil => intro p; exact Nat.le_refl _
  | cons q r ih =>
    intro p
    unfold p_join
    split
    · rename_i h4
      refine Nat.le_trans (ih p) ?_
      show (p_end V r - p_lt p.1 V - 4) + p_ps V r ≤ (p_lt q.1 V - p_lt p.1 V - 4) + ((p_end V r - p_lt q.1 V - 4) + p_ps V r)
      omega
    · obtain ⟨t, e, -⟩ := p_join_hd V r q
      have h := ih q
      show (p_end V (p_join V q r) - p_lt p.1 V - 4) + p_ps V (p_join V q r) ≤ (p_lt q.1 V - p_lt p.1 V - 4) + p_ps V (q :: r)
      rw [e] at h ⊢
      show (p_lt q.1 V - p_lt p.1 V - 4) + p_ps V (q :: t) ≤ (p_lt q.1 V - p_lt p.1 V - 4) + p_ps V (q :: r)
      omega
theorem srt_join (V : List Nat) : ∀ (r : List p_T) (p : p_T), (p :: r).Pairwise (fun x y => x.1 < y.1) → (p_join V p r).Pairwise (fun x y => x.1 < y.1) := by
  intro r
  induction r with
  | nil => intro p h; exact h
  | cons q r ih =>
    intro p h
    obtain ⟨h1, h2⟩ := List.pairwise_cons.mp h
    unfold p_join
    split
    · exact ih p (List.pairwise_cons.mpr ⟨fun y hy => h1 y (List.mem_cons_of_mem _ hy), (List.pairwise_cons.mp h2).2⟩)
    · obtain ⟨t, e, ht⟩ := p_join_hd V r q
      refine List.pairwise_cons.mpr ⟨fun y hy => ?_, ih q h2⟩
      rw [e] at hy
      rcases List.mem_cons.mp hy with rfl | hy
      · exact h1 y List.mem_cons_self
      · exact h1 y (List.mem_cons_of_mem _ (ht y hy))
/-- two parts that are neighbours hold four together -/
def p_ad (V : List Nat) : List p_T → Prop
  | [] => True
  | p :: r => (match r with | [] => True | _ :: r2 => 4 ≤ p_end V r2 - p_lt p.1 V) ∧ p_ad V r
theorem end_join (V : List Nat) : ∀ (r : List p_T) (p : p_T) (t : List p_T), (p :: r).Pairwise (fun x y => x.1 < y.1) → p_join V p r = p :: t → p_end V r ≤ p_end V t := by
  intro r
  induction r with
  | nil =>
    intro p t _ e
    have : p_join V p [] = [p] := rfl
    rw [this] at e
    injection e with _ e
    rw [← e]
    exact Nat.le_refl _
  | cons q r ih =>
    intro p t hs e
    obtain ⟨h1, h2⟩ := List.pairwise_cons.mp hs
    unfold p_join at e
    split at e
    · have := ih p t (List.pairwise_cons.mpr ⟨fun y hy => h1 y (List.mem_cons_of_mem _ hy), (List.pairwise_cons.mp h2).2⟩) e
      refine Nat.le_trans ?_ this
      show p_lt q.1 V ≤ p_end V r
      cases r with
      | nil => exact p_lt_le _ _
      | cons q2 r => exact p_lt_mono (Nat.le_of_lt ((List.pairwise_cons.mp h2).1 q2 List.mem_cons_self)) V
    · injection e with _ e
      obtain ⟨t2, e2, -⟩ := p_join_hd V r q
      rw [← e, e2]
      exact Nat.le_refl _
theorem ad_join (V : List Nat) : ∀ (r : List p_T) (p : p_T), (p :: r).Pairwise (fun x y => x.1 < y.1) → p_ad V (p_join V p r) := by
  intro r
  induction r with
  | nil => intro p _; exact ⟨True.intro, True.intro⟩
  | cons q r ih =>
    intro p hs
    obtain ⟨h1, h2⟩ := List.pairwise_cons.mp hs
    unfold p_join
    split
    · exact ih p (List.pairwise_cons.mpr ⟨fun y hy => h1 y (List.mem_cons_of_mem _ hy), (List.pairwise_cons.mp h2).2⟩)
    · rename_i h4
      have i := ih q h2
      obtain ⟨t, e, -⟩ := p_join_hd V r q
      have he := end_join V r q t h2 e
      rw [e] at i ⊢
      refine ⟨?_, i⟩
      show 4 ≤ p_end V t - p_lt p.1 V
      omega
theorem ad_len (V : List Nat) : ∀ (k : Nat) (p : p_T) (r : List p_T), r.length ≤ k → (p :: r).Pairwise (fun x y => x.1 < y.1) → p_ad V (p :: r) → 2 * (r.length + 1) + p_lt p.1 V ≤ V.length + 2 ∨ (r = []) := by
  intro k
  induction k using Nat.strongRecOn with
  | ind k ih =>
    intro p r hk hs ha
    cases r with
    | nil => exact Or.inr rfl
    | cons q r =>
      left
      have h4 : 4 ≤ p_end V r - p_lt p.1 V := ha.1
      cases r with
      | nil =>
        have : 4 ≤ V.length - p_lt p.1 V := h4
        show 2 * (0 + 1 + 1) + p_lt p.1 V ≤ V.length + 2
        omega
      | cons q2 r =>
        have h5 : 4 ≤ p_lt q2.1 V - p_lt p.1 V := h4
        have hl : r.length + 1 + 1 ≤ k := hk
        have hle := p_lt_le q2.1 V
        show 2 * (r.length + 1 + 1 + 1) + p_lt p.1 V ≤ V.length + 2
        rcases ih r.length (by omega) q2 r (Nat.le_refl _) (List.pairwise_cons.mp (List.pairwise_cons.mp hs).2).2 ha.2.2 with h | h
        · omega
        · rw [h]
          show 2 * (0 + 1 + 1 + 1) + p_lt p.1 V ≤ V.length + 2
          omega
/-! .. all of it -/
theorem arr_gd {V : List Nat} (hV : V.Pairwise (fun x y => x < y)) (hb : ∀ x ∈ V, x < 1331000000000) {PT : List p_T} (h : p_gd PT) (hne : PT ≠ []) :
    p_gd (p_arr V PT) ∧ p_arr V PT ≠ [] ∧ 2 * (p_arr V PT).length ≤ V.length + 2 ∧ 4 * ((p_split V (PT.length + V.length) [] PT).length - PT.length) + p_ps V (p_arr V PT) ≤ p_ps V PT := by
  have g := gd_split hV hb (PT.length + V.length) [] PT h
  have hp := ps_split hV (PT.length + V.length) [] PT
  have hn := p_split_ne V (PT.length + V.length) [] PT (Or.inr hne)
  have hge := p_split_ge V (PT.length + V.length) [] PT
  rw [List.nil_append] at hp hge
  unfold p_arr
  generalize p_split V (PT.length + V.length) [] PT = S at g hp hn hge
  cases S with
  | nil => exact absurd rfl hn
  | cons p r =>
    show p_gd (p_join V p r) ∧ p_join V p r ≠ [] ∧ 2 * (p_join V p r).length ≤ V.length + 2 ∧ _
    obtain ⟨g1, g2, g3⟩ := g
    obtain ⟨t, e, ht⟩ := p_join_hd V r p
    have s := srt_join V r p g1
    have a := ad_join V r p g1
    have pj := ps_join V r p
    rw [e] at s a pj ⊢
    refine ⟨⟨s, fun q hq => g2 q (by simpa using hq), fun q hq => ?_⟩, by simp, ?_, ?_⟩
    · rcases List.mem_cons.mp hq with rfl | hq
      · exact g3 q List.mem_cons_self
      · exact g3 q (List.mem_cons_of_mem _ (ht q hq))
    · rcases ad_len V t.length p t (Nat.le_refl _) s a with h | h
      · show 2 * (t.length + 1) ≤ _
        omega
      · rw [h]
        show 2 * (0 + 1) ≤ _
        omega
    · have hp' : 4 * (r.length + 1) + p_ps V (p :: r) ≤ 4 * PT.length + p_ps V PT := hp
      show 4 * (r.length + 1 - PT.length) + p_ps V (p_join V p r) ≤ p_ps V PT
      rw [e]
      have hge' : PT.length ≤ r.length + 1 := hge
      omega
