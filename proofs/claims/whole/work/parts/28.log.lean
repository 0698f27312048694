/-! THE STORE'S LOG: what commits made of keys, newest first: (address, code, version, value) -/
abbrev k_E4 : Type := Nat × Nat × Nat × Option Int32
/-- the newest one of a code; the one that tells of a version -/
def r_fst (c : Nat) (t : List k_E4) : Option Nat := (t.find? (fun x => x.2.1 == c)).map (fun x => x.1)
def r_get (c n : Nat) (t : List k_E4) : Option k_E4 := t.find? (fun x => x.2.1 == c && decide (x.2.2.1 ≤ n))
def r_look (c n : Nat) (t : List k_E4) : Option Nat := (r_get c n t).map (fun x => x.1)
abbrev o_ent (k v : Nat) (b e : Option Nat) (o : Option Int32) : k_C := k_o 6 [vR (some k), vI (nI v), vR b, vR e, vI (kB o.isSome), vI (o.getD 0)]
def r_log (h : k_H) (ka : Nat → Nat) : List k_E4 → Prop
  | [] => True
  | x :: t => h.1 x.1 = some (o_ent (ka x.2.1) x.2.2.1 (r_fst x.2.1 t) (t.head?.map (fun y => y.1)) x.2.2.2) ∧ r_log h ka t
theorem r_fst_eq {c : Nat} {x : k_E4} {t : List k_E4} (e : x.2.1 = c) : r_fst c (x :: t) = some x.1 := by
  unfold r_fst
  rw [List.find?_cons_of_pos (by simp [e])]
  rfl
theorem r_fst_ne {c : Nat} {x : k_E4} {t : List k_E4} (e : ¬ x.2.1 = c) : r_fst c (x :: t) = r_fst c t := by
  unfold r_fst
  rw [List.find?_cons_of_neg (by simp [e])]
theorem r_get_eq {c n : Nat} {x : k_E4} {t : List k_E4} (e : x.2.1 = c) (h : x.2.2.1 ≤ n) : r_get c n (x :: t) = some x := by
  unfold r_get
  rw [List.find?_cons_of_pos (by simp [e, h])]
theorem r_get_ne {c n : Nat} {x : k_E4} {t : List k_E4} (h : ¬ (x.2.1 = c ∧ x.2.2.1 ≤ n)) : r_get c n (x :: t) = r_get c n t := by
  unfold r_get
  rw [List.find?_cons_of_neg]
  simp only [Bool.and_eq_true, beq_iff_eq, decide_eq_true_eq]
  exact h
theorem r_log_mem {h : k_H} {ka : Nat → Nat} {t : List k_E4} (hl : r_log h ka t) {x : k_E4} (hx : x ∈ t) : ∃ b e, h.1 x.1 = some (o_ent (ka x.2.1) x.2.2.1 b e x.2.2.2) := by
  induction t with
  | nil => cases hx
  | cons y t ih =>
    rcases List.mem_cons.mp hx with rfl | hx
    · exact ⟨_, _, hl.1⟩
    · exact ih hl.2 hx
section LG
variable {G : k_G} {l : Launch}
theorem c_X4_entryIn (ok : k_ok G l) {h : k_H} {a c n : Nat} {f0 : k_V} {ka : Nat → Nat} {L : List k_E4} (ho : h.1 a = some (k_o 7 [f0, vR (r_fst c L)])) (hL : r_log h ka L) (hv : ∀ x ∈ L, x.2.2.1 < 2 ^ 31) (hn : n < 2 ^ 31) : k_ctr (tX4_entryIn G l) [vR (some a), vI (nI n)] h (fun h' v => h' = h ∧ v = r_look c n L) := by
  refine k_ctr_of (eX4_entryIn ok.2 (bX4_entryIn_0 ho rfl ?_))
  have key : ∀ t : List k_E4, r_log h ka t → (∀ x ∈ t, x.2.2.1 < 2 ^ 31) → k_X (jX4_entryIn G l h) h 5 [(1, vI (nI n)), (2, vR (r_fst c t))] [] (q_r (fun h' v => h' = h ∧ v = r_look c n t)) := by
    intro t
    induction t with
    | nil => exact fun _ _ => bX4_entryIn_5 (fun _ => bX4_entryIn_25 ⟨_, rfl, rfl, rfl⟩) (fun b hb => by cases hb)
    | cons x t ih =>
      intro hl hx
      by_cases e : x.2.1 = c
      · rw [r_fst_eq e]
        refine bX4_entryIn_5 (fun c => by cases c) (fun b hb => ?_)
        cases hb
        refine bX4_entryIn_9 hl.1 rfl (fun c1 => ?_) (fun c1 => ?_)
        · have c2 := (nI_leI (hx x (List.mem_cons_self ..)) hn).mp c1
          refine bX4_entryIn_25 ⟨_, rfl, rfl, ?_⟩
          unfold r_look
          rw [r_get_eq e c2]
          rfl
        · have c2 : ¬ x.2.2.1 ≤ n := fun z => c1 ((nI_leI (hx x (List.mem_cons_self ..)) hn).mpr z)
          refine bX4_entryIn_17 hl.1 rfl ?_
          have := ih hl.2 (fun y hy => hx y (List.mem_cons_of_mem _ hy))
          rw [e]
          unfold r_look at this ⊢
          rw [r_get_ne (fun z => c2 z.2)]
          exact this
      · rw [r_fst_ne e]
        have := ih hl.2 (fun y hy => hx y (List.mem_cons_of_mem _ hy))
        unfold r_look at this ⊢
        rw [r_get_ne (fun z => e z.1)]
        exact this
  exact key L hL hv
/-- two entries, or none, alike -/
theorem c_X3_alike (ok : k_ok G l) {h : k_H} {x y : Option Nat} {o q : Option Int32} (hx : (x = none ∧ o = none) ∨ (∃ a k v b e, x = some a ∧ h.1 a = some (o_ent k v b e o))) (hy : (y = none ∧ q = none) ∨ (∃ a k v b e, y = some a ∧ h.1 a = some (o_ent k v b e q))) : k_cti (tX3_alike G l) [vR x, vR y] h (fun h' v => h' = h ∧ v = kB (decide (o = q))) := by
  refine k_cti_of (eX3_alike ok.2 ?_)
  have ky : q.isSome = false → k_X (jX3_alike G l h) h 11 [(1, vR y)] [] (q_i (fun h' v => h' = h ∧ v = 1)) := fun hq => by
    refine bX3_alike_11 (fun _ => bX3_alike_22 (bX3_alike_27 (Or.inr rfl) ⟨_, rfl, rfl, rfl⟩)) (fun b hb => ?_)
    rcases hy with ⟨rfl, rfl⟩ | ⟨a, k, v, bb, e, rfl, h9⟩
    · cases hb
    · cases hb
      exact bX3_alike_15 h9 rfl (fun c => absurd (by rw [hq]; rfl) c) (fun _ => bX3_alike_22 (bX3_alike_27 (Or.inr rfl) ⟨_, rfl, rfl, rfl⟩))
  have kn : ∀ w, q = some w → k_X (jX3_alike G l h) h 11 [(1, vR y)] [] (q_i (fun h' v => h' = h ∧ v = 0)) := fun w hq => by
    subst hq
    rcases hy with ⟨-, z⟩ | ⟨a, k, v, bb, e, rfl, h9⟩
    · cases z
    · refine bX3_alike_11 (fun c => by cases c) (fun b hb => ?_)
      cases hb
      exact bX3_alike_15 h9 rfl (fun _ => bX3_alike_26 (bX3_alike_27 (Or.inl rfl) ⟨_, rfl, rfl, rfl⟩)) (fun c => absurd c (kB_n0.mpr rfl))
  have none_case : o = none → k_X (jX3_alike G l h) h 11 [(1, vR y)] [] (q_i (fun h' v => h' = h ∧ v = kB (decide (o = q)))) := fun ho => by
    subst ho
    cases q with
    | none => exact ky rfl
    | some w => exact kn w rfl
  rcases hx with ⟨rfl, rfl⟩ | ⟨a, k, v, bb, e, rfl, h9⟩
  · exact bX3_alike_0 (fun _ => none_case rfl) (fun b hb => by cases hb)
  · refine bX3_alike_0 (fun c => by cases c) (fun b hb => ?_)
    cases hb
    cases o with
    | none => exact bX3_alike_4 h9 rfl (fun c => absurd rfl c) (fun _ => none_case rfl)
    | some w =>
      refine bX3_alike_4 h9 rfl (fun _ => ?_) (fun c => absurd c (kB_n0.mpr rfl))
      rcases hy with ⟨rfl, rfl⟩ | ⟨a2, k2, v2, b2, e2, rfl, h8⟩
      · exact bX3_alike_28 (fun _ => bX3_alike_54 (bX3_alike_55 (Or.inl rfl) ⟨_, rfl, rfl, rfl⟩)) (fun b hb => by cases hb)
      · refine bX3_alike_28 (fun c => by cases c) (fun b hb => ?_)
        cases hb
        cases q with
        | none => exact bX3_alike_32 h8 rfl (fun _ => bX3_alike_54 (bX3_alike_55 (Or.inl rfl) ⟨_, rfl, rfl, rfl⟩)) (fun c => absurd rfl c)
        | some w2 =>
          refine bX3_alike_32 h8 rfl (fun c => absurd c (kB_n0.mpr rfl)) (fun _ => ?_)
          refine bX3_alike_39 h9 rfl h8 rfl (fun c => ?_) (fun c => ?_)
          · refine bX3_alike_54 (bX3_alike_55 (Or.inl rfl) ⟨_, rfl, rfl, ?_⟩)
            have : ¬ (some w = some w2) := fun z => c (by cases z; rfl)
            rw [decide_eq_false this]; rfl
          · refine bX3_alike_50 (bX3_alike_55 (Or.inr rfl) ⟨_, rfl, rfl, ?_⟩)
            have : some w = some w2 := congrArg some c
            rw [decide_eq_true this]; rfl
end LG
/-- what a key has now -/
def r_now (c : Nat) (t : List k_E4) : Option Int32 := (t.find? (fun x => x.2.1 == c)).bind (fun x => x.2.2.2)
def r_val (c n : Nat) (t : List k_E4) : Option Int32 := (r_get c n t).bind (fun x => x.2.2.2)
theorem r_find_log {h : k_H} {ka : Nat → Nat} {t : List k_E4} (hl : r_log h ka t) {p : k_E4 → Bool} : (t.find? p = none) ∨ ∃ x, t.find? p = some x ∧ ∃ b e, h.1 x.1 = some (o_ent (ka x.2.1) x.2.2.1 b e x.2.2.2) := by
  cases e : t.find? p with
  | none => exact Or.inl rfl
  | some x => exact Or.inr ⟨x, rfl, r_log_mem hl (List.mem_of_find?_eq_some e)⟩
section LG2
variable {G : k_G} {l : Launch}
theorem c_X4_isHeld (ok : k_ok G l) {h : k_H} {a c : Nat} {f0 : k_V} {ka : Nat → Nat} {L : List k_E4} (ho : h.1 a = some (k_o 7 [f0, vR (r_fst c L)])) (hL : r_log h ka L) : k_cti (tX4_isHeld G l) [vR (some a)] h (fun h' v => h' = h ∧ v = kB (r_now c L).isSome) := by
  refine k_cti_of (eX4_isHeld ok.2 ?_)
  unfold r_now
  unfold r_fst at ho
  rcases r_find_log hL (p := fun x => x.2.1 == c) with e | ⟨x, e, b, e2, he⟩
  · rw [e] at ho ⊢
    exact bX4_isHeld_0 ho rfl (fun _ => bX4_isHeld_21 (bX4_isHeld_22 (Or.inl rfl) ⟨_, rfl, rfl, rfl⟩)) (fun b hb => by cases hb)
  · rw [e] at ho ⊢
    refine bX4_isHeld_0 ho rfl (fun c => by cases c) (fun b hb => ?_)
    show k_X _ _ _ _ _ (q_i (fun h' v => h' = h ∧ v = kB x.2.2.2.isSome))
    cases o : x.2.2.2 with
    | none =>
      rw [o] at he
      exact bX4_isHeld_7 ho rfl he rfl (fun _ => bX4_isHeld_21 (bX4_isHeld_22 (Or.inl rfl) ⟨_, rfl, rfl, rfl⟩)) (fun c => absurd rfl c)
    | some w =>
      rw [o] at he
      exact bX4_isHeld_7 ho rfl he rfl (fun c => absurd c (kB_n0.mpr rfl)) (fun _ => bX4_isHeld_17 (bX4_isHeld_22 (Or.inr rfl) ⟨_, rfl, rfl, rfl⟩))
/-- the pointer that a look-up tells, and what it has -/
theorem look_ok {h : k_H} {ka : Nat → Nat} {L : List k_E4} (hL : r_log h ka L) (c n : Nat) : (r_look c n L = none ∧ r_val c n L = none) ∨ (∃ a k v b e, r_look c n L = some a ∧ h.1 a = some (o_ent k v b e (r_val c n L))) := by
  unfold r_look r_val r_get
  rcases r_find_log hL (p := fun x => x.2.1 == c && decide (x.2.2.1 ≤ n)) with e | ⟨x, e, b, e2, he⟩
  · rw [e]; exact Or.inl ⟨rfl, rfl⟩
  · rw [e]; exact Or.inr ⟨x.1, _, _, b, e2, rfl, he⟩
theorem c_X4_turnedIn (ok : k_ok G l) {h : k_H} {a c n : Nat} {f0 : k_V} {ka : Nat → Nat} {L : List k_E4} (ho : h.1 a = some (k_o 7 [f0, vR (r_fst c L)])) (hL : r_log h ka L) (hv : ∀ x ∈ L, x.2.2.1 < 2 ^ 31) (hn : n < 2 ^ 31) (h0 : 0 < n) : k_cti (tX4_turnedIn G l) [vR (some a), vI (nI n)] h (fun h' v => h' = h ∧ v = kB (!(decide (r_val c n L = r_val c (n - 1) L)))) := by
  refine k_cti_of (eX4_turnedIn ok.2 ?_)
  refine bX4_turnedIn_0 (k_is_o ho) (c_X4_entryIn ok ho hL hv hn) ?_
  rintro _ _ ⟨rfl, rfl⟩
  have e1 : nI n - 1 = nI (n - 1) := nI_sub (b := 1) h0
  refine bX4_turnedIn_5 (k_is_o ho) (by rw [e1]; exact c_X4_entryIn ok ho hL hv (by omega)) ?_
  rintro _ _ ⟨rfl, rfl⟩
  refine bX4_turnedIn_12 (c_X3_alike ok (look_ok hL c n) (look_ok hL c (n - 1))) ?_
  rintro _ _ ⟨rfl, rfl⟩
  refine bX4_turnedIn_15 (fun c1 => ?_) (fun c1 => ?_)
  · rw [kB_n0] at c1
    exact bX4_turnedIn_22 (bX4_turnedIn_23 (Or.inl rfl) ⟨_, rfl, rfl, by rw [c1]; rfl⟩)
  · rw [kB_0] at c1
    exact bX4_turnedIn_18 (bX4_turnedIn_23 (Or.inr rfl) ⟨_, rfl, rfl, by rw [c1]; rfl⟩)
end LG2
