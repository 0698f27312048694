/-! THE CLASS'S STORE, AS ONE PREDICATE -/
def c_st (a : Nat) (h : k_H) (KS : List k_K2) (L : List k_E4) (WS : List k_SP) (n : Nat) (z : Option Int32 × Bool) : Prop := ∃ (cK cW cH : Nat) (xs : List Nat) (ka : Nat → Nat),
  (h.1 (a + 1) = some (k_o 11 [vR (some (a + 2)), vR (some (a + 3)), vR (some (a + 4)), vR (some (a + 5)), vI (nI L.length), vR (L.head?.map (fun y => y.1)), vI (nI n)]) ∧ h.1 (a + 2) = some (k_l (KS.map (fun x => x.2)) cK) ∧ h.1 (a + 3) = some (k_l (WS.map (fun x => x.1)) cW) ∧ h.1 (a + 4) = some (k_l xs cH) ∧ h.1 (a + 5) = some (o_cel z.1 z.2)) ∧
  (r_ks h KS L ∧ r_in KS L ∧ r_log h ka L ∧ ∀ x ∈ KS, ka x.1 = x.2) ∧
  ((∀ x ∈ L, x.2.2.1 ≤ n) ∧ L.Pairwise (fun x y => y.2.2.1 ≤ x.2.2.1) ∧ L.Pairwise (fun x y => x.1 ≠ y.1)) ∧
  (∀ x ∈ WS, h.1 x.1 = some (o_spn x) ∧ x.2.1 < x.2.2.1 ∧ x.2.2.1 ≤ 1331000000000 ∧ x.2.2.2 ≤ n) ∧ (n ≤ 9000 ∧ a + 31 ≤ h.2.1 ∧ k_wf h)
def r_has (d v : Nat) (L : List k_E4) : Prop := ∃ x ∈ L, x.2.1 = d ∧ x.2.2.1 = v
/-- what a write makes of the log -/
def w_lg (c n : Nat) (o : Option Int32) (L L' : List k_E4) : Prop := (∀ d m, r_val d m L' = if d = c ∧ n ≤ m then o else r_val d m L) ∧ (∀ d v, r_has d v L' ↔ (r_has d v L ∨ (d = c ∧ v = n))) ∧ L.length ≤ L'.length ∧ L'.length ≤ L.length + 1
def c_ins (c k : Nat) (KS : List k_K2) : List k_K2 := if (r_at c KS).isSome = true then KS else KS.insertIdx (r_pl c KS) (c, k)
theorem c_ins_le (c k : Nat) (KS : List k_K2) : KS.length ≤ (c_ins c k KS).length ∧ (c_ins c k KS).length ≤ KS.length + 1 := by
  unfold c_ins
  split
  · omega
  · rw [List.length_insertIdx]; split <;> omega
theorem ins_srt {c k : Nat} {KM : List k_K2} (s : KM.Pairwise (fun x y => x.1 < y.1)) (hn : r_at c KM = none) : (KM.insertIdx (r_pl c KM) (c, k)).Pairwise (fun x y => x.1 < y.1) := by
  have hle := r_pl_le c KM
  rw [List.pairwise_iff_getElem]
  intro i j hi hj hij
  have ei := List.getElem?_eq_getElem hi
  have ej := List.getElem?_eq_getElem hj
  generalize (KM.insertIdx (r_pl c KM) (c, k))[i] = x at ei
  generalize (KM.insertIdx (r_pl c KM) (c, k))[j] = y at ej
  rw [List.getElem?_insertIdx] at ei ej
  by_cases i1 : i < r_pl c KM
  · rw [if_pos i1] at ei
    have hx := r_pl_lt i1 ei
    by_cases j1 : j < r_pl c KM
    · rw [if_pos j1] at ej
      exact r_srt s hij ei ej
    · rw [if_neg j1] at ej
      by_cases j2 : j = r_pl c KM
      · rw [if_pos j2, if_pos (by omega)] at ej
        cases ej
        exact hx
      · rw [if_neg j2] at ej
        exact r_srt s (by omega) ei ej
  · rw [if_neg i1] at ei
    rw [if_neg (by omega), if_neg (by omega)] at ej
    by_cases i2 : i = r_pl c KM
    · rw [if_pos i2, if_pos (by omega)] at ei
      cases ei
      have h1 := r_pl_ge (c := c) s (by omega) ej
      by_cases e : y.1 = c
      · exfalso
        have hy := List.mem_of_getElem? ej
        have h2 := r_at_mem (c := c) (a := y.2) s (by rw [← e]; exact hy)
        rw [h2] at hn
        cases hn
      · show c < y.1
        omega
    · rw [if_neg i2] at ei
      exact r_srt s (by omega) ei ej
theorem c_ins_mem {c k : Nat} {KS : List k_K2} {x : k_K2} (hx : x ∈ KS) : x ∈ c_ins c k KS := by
  unfold c_ins
  split
  · exact hx
  · rw [List.mem_insertIdx (r_pl_le c KS)]; exact Or.inr hx
theorem map_ins {c k : Nat} (i : Nat) (l : List k_K2) : (l.map (fun x => x.2)).insertIdx i k = (l.insertIdx i (c, k)).map (fun x => x.2) := by
  induction l generalizing i with
  | nil => cases i <;> rfl
  | cons x t ih =>
    cases i with
    | zero => rfl
    | succ i =>
      show x.2 :: (t.map (fun x => x.2)).insertIdx i k = x.2 :: (t.insertIdx i (c, k)).map (fun x => x.2)
      rw [ih]
theorem r_log_ka {h : k_H} {ka kb : Nat → Nat} : ∀ {L : List k_E4}, (∀ x ∈ L, kb x.2.1 = ka x.2.1) → r_log h ka L → r_log h kb L := by
  intro L
  induction L with
  | nil => exact fun _ _ => trivial
  | cons x t ih =>
    intro e r
    refine ⟨?_, ih (fun y hy => e y (List.mem_cons_of_mem _ hy)) r.2⟩
    rw [e x (List.mem_cons_self ..)]
    exact r.1
theorem kp_mo {a : Nat} {A : Nat → Prop} {o : Nat} {h h' : k_H} (m : k_mo a [] A o h h') (hA : ∀ q, A q → ∀ ci fs, h.1 q ≠ some (k_o ci fs)) : k_kp h h' := fun q ci fs hq => m.1 q _ hq (fun z => hA q z _ _ hq) (fun _ _ _ => List.not_mem_nil)
theorem addr_eq {L : List k_E4} (s : L.Pairwise (fun x y => x.1 ≠ y.1)) {x y : k_E4} (hx : x ∈ L) (hy : y ∈ L) (e : x.1 = y.1) : x = y := by
  induction L with
  | nil => cases hx
  | cons z t ih =>
    rw [List.pairwise_cons] at s
    rcases List.mem_cons.mp hx with e1 | h1
    · rcases List.mem_cons.mp hy with e2 | h2
      · rw [e1, e2]
      · exact absurd e (by rw [e1]; exact s.1 _ h2)
    · rcases List.mem_cons.mp hy with e2 | h2
      · exact absurd e.symm (by rw [e2]; exact s.1 _ h1)
      · exact ih s.2 h1 h2
theorem r_set_find {p : k_E4 → Bool} (a : Nat) (o : Option Int32) (hp : ∀ y, p (r_st1 a o y) = p y) : ∀ L : List k_E4, (r_set a o L).find? p = (L.find? p).map (r_st1 a o) := by
  intro L
  induction L with
  | nil => rfl
  | cons x t ih =>
    show ((r_st1 a o x) :: r_set a o t).find? p = _
    rw [List.find?_cons, List.find?_cons, hp, ih]
    cases p x <;> rfl
theorem w_lg_new {L : List k_E4} {q c n : Nat} {o : Option Int32} : w_lg c n o L ((q, c, n, o) :: L) := by
  refine ⟨fun d m => ?_, fun d v => ?_, Nat.le_succ _, Nat.le_refl _⟩
  · rw [r_val_cons]
    show (if c = d ∧ n ≤ m then o else _) = _
    by_cases e : c = d ∧ n ≤ m
    · rw [if_pos e, if_pos ⟨e.1.symm, e.2⟩]
    · rw [if_neg e, if_neg (fun z => e ⟨z.1.symm, z.2⟩)]
  · unfold r_has
    constructor
    · rintro ⟨x, hx, h1, h2⟩
      rcases List.mem_cons.mp hx with rfl | hx
      · exact Or.inr ⟨h1.symm, h2.symm⟩
      · exact Or.inl ⟨x, hx, h1, h2⟩
    · rintro (⟨x, hx, h1, h2⟩ | ⟨rfl, rfl⟩)
      · exact ⟨x, List.mem_cons_of_mem _ hx, h1, h2⟩
      · exact ⟨_, List.mem_cons_self .., rfl, rfl⟩
theorem w_lg_set {L : List k_E4} {c n : Nat} {o : Option Int32} {x : k_E4} (s : L.Pairwise (fun x y => x.1 ≠ y.1)) (hx : L.find? (fun x => x.2.1 == c) = some x) (hv : x.2.2.1 = n) : w_lg c n o L (r_set x.1 o L) := by
  have hxm := List.mem_of_find?_eq_some hx
  have hxc : x.2.1 = c := by have := List.find?_some hx; simpa using this
  have hg : ∀ d m, r_get d m (r_set x.1 o L) = (r_get d m L).map (r_st1 x.1 o) := fun d m => r_set_find x.1 o (fun y => by rw [r_st1_c, r_st1_v]) L
  refine ⟨fun d m => ?_, fun d v => ?_, ?_, ?_⟩
  · unfold r_val
    rw [hg]
    by_cases e : d = c ∧ n ≤ m
    · obtain ⟨rfl, hnm⟩ := e
      rw [if_pos ⟨rfl, hnm⟩]
      have : r_get d m L = some x := by
        unfold r_get
        clear s hg hxm
        induction L with
        | nil => cases hx
        | cons y t ih =>
          rw [List.find?_cons] at hx ⊢
          cases ey : (y.2.1 == d) with
          | true =>
            rw [ey] at hx
            cases hx
            rw [decide_eq_true (show x.2.2.1 ≤ m by omega)]
            rfl
          | false =>
            rw [ey] at hx
            exact ih hx
      rw [this]
      show (r_st1 x.1 o x).2.2.2 = o
      unfold r_st1
      rw [if_pos rfl]
    · rw [if_neg e]
      cases hy : r_get d m L with
      | none => rfl
      | some y =>
        show (r_st1 x.1 o y).2.2.2 = y.2.2.2
        unfold r_st1
        rw [if_neg]
        intro z
        have hym : y ∈ L := by unfold r_get at hy; exact List.mem_of_find?_eq_some hy
        have := addr_eq s hym hxm z
        subst this
        have h2 : (y.2.1 == d && decide (y.2.2.1 ≤ m)) = true := by unfold r_get at hy; exact List.find?_some (p := fun (x : k_E4) => x.2.1 == d && decide (x.2.2.1 ≤ m)) hy
        simp only [Bool.and_eq_true, beq_iff_eq, decide_eq_true_eq] at h2
        exact e ⟨h2.1.symm.trans hxc, by omega⟩
  · unfold r_has r_set
    constructor
    · rintro ⟨y, hy, h1, h2⟩
      obtain ⟨w, hw, rfl⟩ := List.mem_map.mp hy
      rw [r_st1_c] at h1
      rw [r_st1_v] at h2
      exact Or.inl ⟨w, hw, h1, h2⟩
    · rintro (⟨y, hy, h1, h2⟩ | ⟨rfl, rfl⟩)
      · exact ⟨_, List.mem_map.mpr ⟨y, hy, rfl⟩, by rw [r_st1_c]; exact h1, by rw [r_st1_v]; exact h2⟩
      · exact ⟨_, List.mem_map.mpr ⟨x, hxm, rfl⟩, by rw [r_st1_c]; exact hxc, by rw [r_st1_v]; exact hv⟩
  · unfold r_set; rw [List.length_map]; omega
  · unfold r_set; rw [List.length_map]; omega
theorem r_now_val {L : List k_E4} {c n : Nat} (h : ∀ x ∈ L, x.2.2.1 ≤ n) : r_now c L = r_val c n L := by
  unfold r_now r_val r_get
  congr 1
  induction L with
  | nil => rfl
  | cons x t ih =>
    rw [List.find?_cons, List.find?_cons, decide_eq_true (h x (List.mem_cons_self ..)), Bool.and_true, ih (fun y hy => h y (List.mem_cons_of_mem _ hy))]
section CST
variable {G : k_G} {l : Launch}
theorem c_S_keyFor (ok : k_ok G l) {a : Nat} {h : k_H} {KS : List k_K2} {L : List k_E4} {WS : List k_SP} {n c : Nat} {z : Option Int32 × Bool} (hs : c_st a h KS L WS n z) (hc : c < 1331000000000) (hb : KS.length ≤ 12600) :
    k_ctr (tX8_keyFor G l) [vR (some (a + 1)), vJ (lN c)] h (fun h' v => ∃ k, v = some k ∧ c_st a h' (c_ins c k KS) L WS n z ∧ (c, k) ∈ c_ins c k KS ∧ k_mo a [] (fun q => q = a + 2) ((c_ins c k KS).length - KS.length) h h') := by
  obtain ⟨cK, cW, cH, xs, ka, ⟨s1, s2, s3, s4, s5⟩, ⟨t1, t2, t3, t4⟩, tL, tW, tn, ta, tw⟩ := id hs
  cases e : r_at c KS with
  | some k =>
    have hm := r_at_some e
    obtain ⟨h', v, t, rfl, rfl⟩ := c_X8_keyForA ok s1 s2 t1 (by omega) hm
    have ei : c_ins c k KS = KS := by unfold c_ins; rw [e]; rfl
    refine ⟨_, _, t, k, rfl, ?_, ?_, ?_⟩
    · rw [ei]; exact hs
    · rw [ei]; exact hm
    · rw [ei, Nat.sub_self]; exact mv_refl _ _ _ _
  | none =>
    obtain ⟨h', v, t, rfl, rfl⟩ := c_X8_keyForN ok tw s1 s2 t1 (by omega) e (by omega)
    have ei : c_ins c h.2.1 KS = KS.insertIdx (r_pl c KS) (c, h.2.1) := by unfold c_ins; rw [e]; rfl
    have emap : (KS.map (fun x => x.2)).insertIdx (r_pl c KS) h.2.1 = (c_ins c h.2.1 KS).map (fun x => x.2) := by rw [ei]; exact map_ins _ _
    have elen : (c_ins c h.2.1 KS).length = KS.length + 1 := by rw [ei, List.length_insertIdx, if_pos (r_pl_le c KS)]
    rw [emap] at t
    have w1 : k_wf (k_nw h 2 (k_o 7 [vJ (lN c), vR none])) := wf_nw tw
    have m1 : k_mo a [] (fun q => q = a + 2) 1 h (k_nw h 2 (k_o 7 [vJ (lN c), vR none])) := mv_nw tw ta (by omega)
    have s2' : (k_nw h 2 (k_o 7 [vJ (lN c), vR none])).1 (a + 2) = some (k_l (KS.map (fun x => x.2)) cK) := nw_old tw s2
    have m2 : k_mo a [] (fun q => q = a + 2) 0 (k_nw h 2 (k_o 7 [vJ (lN c), vR none])) (k_gr (k_nw h 2 (k_o 7 [vJ (lN c), vR none])) (a + 2) ((c_ins c h.2.1 KS).map (fun x => x.2)) KS.length cK) := mv_gr s2' (by decide) rfl (by show KS.length + KS.length / 2 + 10 ≤ 20000; omega)
    have m := mv_trans m1 m2
    have knew : (k_gr (k_nw h 2 (k_o 7 [vJ (lN c), vR none])) (a + 2) ((c_ins c h.2.1 KS).map (fun x => x.2)) KS.length cK).1 h.2.1 = some (k_o 7 [vJ (lN c), vR none]) := by
      rw [gr_ne _ _ _ _ (by omega), k_nw_self]
    obtain ⟨cK', es2⟩ := gr_at (k_nw h 2 (k_o 7 [vJ (lN c), vR none])) (a + 2) ((c_ins c h.2.1 KS).map (fun x => x.2)) KS.length cK
    generalize k_gr (k_nw h 2 (k_o 7 [vJ (lN c), vR none])) (a + 2) ((c_ins c h.2.1 KS).map (fun x => x.2)) KS.length cK = h1 at t m knew es2
    have kp : k_kp h h1 := kp_mo m (fun q e ci fs z => by rw [e, s2] at z; cases z)
    have hne : ∀ q c, h.1 q = some c → q ≠ a + 2 → h1.1 q = some c := fun q c hq hne => m.1 q c hq hne (fun _ _ _ => List.not_mem_nil)
    have hcL : ∀ x ∈ L, ¬ x.2.1 = c := fun x hx z => by
      obtain ⟨k, hk⟩ := t2 x hx
      rw [z] at hk
      rw [r_at_mem t1.2.1 hk] at e
      cases e
    have hfc : r_fst c L = none := by
      unfold r_fst
      rw [List.find?_eq_none.mpr (fun x hx => by simpa using hcL x hx)]
      rfl
    have hmem : ∀ x, x ∈ c_ins c h.2.1 KS → x = (c, h.2.1) ∨ x ∈ KS := fun x hx => by
      rw [ei, List.mem_insertIdx (r_pl_le c KS)] at hx
      exact hx
    refine ⟨_, _, t, h.2.1, rfl, ⟨cK', cW, cH, xs, fun d => if d = c then h.2.1 else ka d, ⟨hne _ _ s1 (by omega), es2, hne _ _ s3 (by omega), hne _ _ s4 (by omega), hne _ _ s5 (by omega)⟩, ⟨⟨fun x hx => ?_, ?_, ?_⟩, fun x hx => ?_, ?_, fun x hx => ?_⟩, tL, fun x hx => ⟨kp _ _ _ (tW x hx).1, (tW x hx).2⟩, tn, Nat.le_trans ta m.2.2.1, m.2.1 tw⟩, ?_, ?_⟩
    · rcases hmem x hx with rfl | hx
      · refine ⟨hc, ?_⟩
        rw [knew]
        unfold o_key
        rw [hfc]
      · exact ⟨(t1.1 x hx).1, kp _ _ _ (t1.1 x hx).2⟩
    · rw [ei]; exact ins_srt t1.2.1 e
    · rw [elen]; omega
    · obtain ⟨k, hk⟩ := t2 x hx
      exact ⟨k, c_ins_mem hk⟩
    · exact r_log_ka (fun x hx => (if_neg (hcL x hx) : (if x.2.1 = c then h.2.1 else ka x.2.1) = ka x.2.1)) (r_log_keep kp t3)
    · show (if x.1 = c then h.2.1 else ka x.1) = x.2
      rcases hmem x hx with rfl | hx
      · rw [if_pos rfl]
      · rw [if_neg (fun z => by
          have h9 := r_at_mem t1.2.1 (show (c, x.2) ∈ KS by rw [← z]; exact hx)
          rw [e] at h9
          cases h9)]
        exact t4 x hx
    · rw [ei, List.mem_insertIdx (r_pl_le c KS)]
      exact Or.inl rfl
    · rw [elen, show KS.length + 1 - KS.length = 1 + 0 by omega]
      exact m
end CST
