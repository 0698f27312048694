/-! THE JDK'S LISTS, III: made, emptied, put in between, taken out -/
section LST3
variable {G : k_G} {l : Launch}
theorem x_res {y : MethodName} {cc : ByteArray} {mL : Nat} {rt : Option FieldType} {d : Nat} {h0 h h' : k_H} {pc : Nat} {lv : k_L} {st : List k_V} {r : k_R} {Q : k_H → k_R → Prop} (K : k_X (k_J G l y cc mL rt d h0) h pc lv st (fun h2 r2 => r2 = r ∧ h2.2 = h'.2 ∧ ∀ H, k_hp G h2 H → k_hp G h' H)) (q : Q h' r) : k_X (k_J G l y cc mL rt d h0) h pc lv st Q := by
  obtain ⟨h2, r2, K9, rfl, e2, hc⟩ := K
  exact ⟨h', r2, k_Jres K9 e2 hc, q⟩
theorem c_init (ok : k_ok G l) {h : k_H} {a : Nat} (wh : k_wf h) (hz : k_z0 G < a) (o : h.1 a = some (k_o 2 [vI 0, vR none, vI 0])) : k_ctv (tAL_init G l) [vR (some a)] h (fun h' => h' = k_up h a (k_l [] 0)) := by
  refine k_ctv_of (eJx4a65c_init_da8c8 ok.2 (x_res (h' := k_up h a (k_l [] 0)) (r := .inl none) ?_ ⟨rfl, rfl⟩))
  refine bJx4a65c_init_da8c8_0 (P := fun h1 => h1 = k_up h a (k_o 2 [vI 0, vR none, vI 0])) (k_ctv_of (eJxc12de_init_da8c8 ok.2 (bJxc12de_init_da8c8_0 (P := fun h1 => h1 = h) (k_ctv_of (eJxa1e45_init_da8c8 ok.2 (bJxa1e45_init_da8c8_0 ⟨rfl, rfl⟩))) ?_))) ?_
  · rintro h1 rfl
    exact bJxc12de_init_da8c8_4 o rfl (bJxc12de_init_da8c8_9 ⟨rfl, rfl⟩)
  · rintro h1 rfl
    refine bJx4a65c_init_da8c8_4 (k_up_self _ _ _) rfl (bJx4a65c_init_da8c8_11 ⟨rfl, rfl, fun H hp => ?_⟩)
    rw [k_uu] at hp
    exact k_close (h := k_up h a (k_l [] 0)) (t := k_z0 G) (md := 0) hp (k_up_self _ _ _) (Nat.le_refl _) (by decide) (Or.inl ⟨rfl, rfl⟩) rfl (k_up_self _ _ _) (fun q c hq hc => by rw [k_up_ne _ _ hq] at hc ⊢; exact hc)
theorem c_clear (ok : k_ok G l) {h : k_H} {a cap : Nat} {xs : List Nat} (ho : h.1 a = some (k_l xs cap)) : k_ctv (tAL_clear G l) [vR (some a)] h (fun h' => h' = k_up h a (k_l [] cap)) := by
  refine k_ctv_of (eJx4a65c_clear_da8c8 ok.2 (x_open ok.1 ho (h' := k_up h a (k_l [] cap)) ⟨Nat.le_refl _, Nat.le_refl _⟩ (fun h1 r1 w1 e1 => ?_) ⟨rfl, rfl⟩))
  obtain ⟨hlc, hc, md, t, f, w, hf⟩ := rw_open r1 w1
  refine bJx4a65c_clear_da8c8_0 w.1 rfl rfl ?_
  have w2 := rw_obj (n2 := xs.length) (md2 := md + 1) w
  refine bJx4a65c_clear_da8c8_10 w2.1 rfl rfl rfl (bJx4a65c_clear_da8c8_26 ?_)
  have w3 := rw_obj (n2 := 0) (md2 := md + 1) w2
  have key : ∀ (k i : Nat) (g : Nat → Option Nat) (h3 : k_H), xs.length - i = k → i ≤ xs.length → h3.2 = h.2 → k_rw h h3 a 0 cap (k_z0 G) (md + 1) t g →
      k_X (jJx4a65c_clear_da8c8 G l h) h3 27 [(1, vR (some t)), (2, vI (nI xs.length)), (3, vI (nI i))] [] (fun h2 r2 => r2 = .inl none ∧ h2.2 = (k_up h a (k_l [] cap)).2 ∧ ∀ H, k_hp G h2 H → k_hp G (k_up h a (k_l [] cap)) H) := by
    intro k
    induction k with
    | zero =>
      intro i g h3 hk hi e3 w9
      refine bJx4a65c_clear_da8c8_27 (fun _ => bJx4a65c_clear_da8c8_42 ⟨rfl, e3, rw_done rfl w9 rfl (Nat.zero_le _) hc (fun j hj => by cases hj) e3.symm rfl⟩) (fun c => absurd (nI_le (by omega) (by omega)) c)
    | succ k ih =>
      intro i g h3 hk hi e3 w9
      refine bJx4a65c_clear_da8c8_27 (fun c => absurd c (nI_ge (by omega) (by omega))) (fun _ => ?_)
      rcases id w9.2.2.2.2 with ⟨y1, y2⟩ | ⟨y1, y2, y3⟩
      · omega
      · refine bJx4a65c_clear_da8c8_32 y3 (nI_in (by omega) (by omega)) (bJx4a65c_clear_da8c8_36 ?_)
        rw [nI_1]
        exact ih (i + 1) _ _ (by omega) (by omega) e3 (rw_row w9 y1)
  exact key _ 0 f _ rfl (Nat.zero_le _) (by exact e1) w3
theorem c_rangeAdd (ok : k_ok G l) {h : k_H} {a n i : Nat} {x z : k_V} (hn : n < 2 ^ 30) (hi : i ≤ n) (o : h.1 a = some (k_o 2 [x, z, vI (nI n)])) : k_ctv (tJx4a65c_rangeCheckForAdd_d00df G l) [vR (some a), vI (nI i)] h (fun h' => h' = h) := by
  refine k_ctv_of (eJx4a65c_rangeCheckForAdd_d00df ok.2 (bJx4a65c_rangeCheckForAdd_d00df_0 o rfl (fun c => absurd c (nI_nlt hi (by omega))) (fun _ => ?_)))
  exact bJx4a65c_rangeCheckForAdd_d00df_8 (fun _ => bJx4a65c_rangeCheckForAdd_d00df_25 ⟨rfl, rfl⟩) (fun c => absurd (nI_pos' (by omega)) c)
theorem ins_get {xs : List Nat} {i x : Nat} {f : Nat → Option Nat} (hi : i ≤ xs.length) (h : ∀ j : Nat, j < xs.length → f j = xs[j]?) : ∀ j : Nat, j < (xs.insertIdx i x).length → va_up (va_cpy f f i (i + 1) (xs.length - i)) i (some x) j = (xs.insertIdx i x)[j]? := fun j hj => by
  rw [List.length_insertIdx, if_pos hi] at hj
  rw [List.getElem?_insertIdx]
  by_cases c1 : j < i
  · rw [if_pos c1, va_upn (by omega)]
    unfold va_cpy
    rw [if_neg (by omega)]
    exact h j (by omega)
  · rw [if_neg c1]
    by_cases c2 : j = i
    · subst c2
      rw [if_pos rfl, if_pos hi, va_upa]
    · rw [if_neg c2, va_upn c2]
      unfold va_cpy
      rw [if_pos (by omega), h _ (by omega)]
      congr 1
      omega
theorem era_get {xs : List Nat} {i : Nat} {f : Nat → Option Nat} (hi : i < xs.length) (h : ∀ j : Nat, j < xs.length → f j = xs[j]?) : ∀ j : Nat, j < (xs.eraseIdx i).length → va_up (va_cpy f f (i + 1) i (xs.length - 1 - i)) (xs.length - 1) none j = (xs.eraseIdx i)[j]? := fun j hj => by
  rw [List.length_eraseIdx, if_pos hi] at hj
  rw [List.getElem?_eraseIdx, va_upn (by omega)]
  unfold va_cpy
  by_cases c1 : j < i
  · rw [if_pos c1, if_neg (by omega)]
    exact h j (by omega)
  · rw [if_neg c1, if_pos (by omega), h _ (by omega)]
    congr 1
    omega
theorem era_get0 {xs : List Nat} {i : Nat} {f : Nat → Option Nat} (hi : i + 1 = xs.length) (h : ∀ j : Nat, j < xs.length → f j = xs[j]?) : ∀ j : Nat, j < (xs.eraseIdx i).length → va_up f (xs.length - 1) none j = (xs.eraseIdx i)[j]? := fun j hj => by
  rw [List.length_eraseIdx, if_pos (by omega)] at hj
  rw [List.getElem?_eraseIdx, va_upn (by omega), if_pos (by omega)]
  exact h j (by omega)
theorem c_addAt (ok : k_ok G l) {h : k_H} {a cap x i : Nat} {xs : List Nat} (wh : k_wf h) (ho : h.1 a = some (k_l xs cap)) (hb : xs.length < 2 ^ 18) (hi : i ≤ xs.length) (hel : ∀ z ∈ xs, k_el h z) (hx : k_el h x) : k_ctv (tAL_addAt G l) [vR (some a), vI (nI i), vR (some x)] h (fun h' => h' = k_gr h a (xs.insertIdx i x) xs.length cap) := by
  have hle : h.2.1 ≤ (k_gr h a (xs.insertIdx i x) xs.length cap).2.1 ∧ h.2.2 ≤ (k_gr h a (xs.insertIdx i x) xs.length cap).2.2 := by
    unfold k_gr
    split
    · exact ⟨Nat.le_refl _, Nat.le_refl _⟩
    · exact ⟨Nat.le_succ _, Nat.le_add_right _ _⟩
  refine k_ctv_of (eJx4a65c_add_7a177 ok.2 (x_open ok.1 ho hle (fun h1 r1 w1 e1 => ?_) ⟨rfl, rfl⟩))
  obtain ⟨hlc, hc, md, t, f, w, hf⟩ := rw_open r1 w1
  refine bJx4a65c_add_7a177_0 (k_is_o w.1) (c_rangeAdd ok (by omega) hi w.1) ?_
  rintro h9 rfl
  refine bJx4a65c_add_7a177_5 w.1 rfl rfl ?_
  have w2 := rw_obj (n2 := xs.length) (md2 := md + 1) w
  refine bJx4a65c_add_7a177_15 w2.1 rfl rfl ?_
  have key : ∀ (h3 : k_H) (cap3 t3 : Nat) (g : Nat → Option Nat), k_rw h h3 a xs.length cap3 (k_z0 G) (md + 1) t3 g → xs.length < cap3 → cap3 < 2 ^ 30 → (∀ i : Nat, i < xs.length → g i = xs[i]?) → h3.2 = (k_gr h a (xs.insertIdx i x) xs.length cap).2 → (k_gr h a (xs.insertIdx i x) xs.length cap).1 = (k_up h a (k_l (xs.insertIdx i x) cap3)).1 →
      k_X (jJx4a65c_add_7a177 G l h) h3 38 [(0, vR (some a)), (1, vI (nI i)), (2, vR (some x)), (3, vI (nI xs.length)), (4, vR (some t3))] [] (fun h2 r2 => r2 = .inl none ∧ h2.2 = (k_gr h a (xs.insertIdx i x) xs.length cap).2 ∧ ∀ H, k_hp G h2 H → k_hp G (k_gr h a (xs.insertIdx i x) xs.length cap) H) := by
    intro h3 cap3 t3 g w3 hlt hc3 hg e3 e4
    obtain ⟨z1, z2, z3, z4, z5⟩ := id w3
    rcases z5 with ⟨z5, -⟩ | ⟨z5, z6, z7⟩
    · omega
    have q1 : nI i + 1 = nI (i + 1) := nI_1 i
    have q2 : nI xs.length - nI i = nI (xs.length - i) := nI_sub hi
    refine bJx4a65c_add_7a177_38 z7 (nI_pos (by omega)) (by rw [q1]; exact nI_pos (by omega)) (by rw [q2]; exact nI_pos (by omega)) ?_ ?_ ?_ ?_
    · rw [q2, nI_clamp (by omega), nI_clamp (by omega)]; omega
    · rw [q1, q2, nI_clamp (by omega), nI_clamp (by omega)]; omega
    · rw [q2, nI_clamp (by omega), nI_clamp (by omega)]
      intro j hj z hz
      rw [hg _ (by omega)] at hz
      obtain ⟨ci, u1, u2⟩ := hel z (List.mem_of_getElem? hz)
      exact ⟨ci, rw_is (c0 := 0) ho w3 u1, u2⟩
    rw [q1, q2, nI_clamp (by omega), nI_clamp (by omega), nI_clamp (by omega)]
    have w4 := rw_row (g := va_cpy g g i (i + 1) (xs.length - i)) w3 z5
    refine bJx4a65c_add_7a177_52 (k_up_self _ _ _) (nI_in (by omega) (by omega)) (fun b hb9 => ?_) ?_
    · cases hb9
      obtain ⟨ci, u1, u2⟩ := hx
      exact ⟨ci, rw_is (c0 := 0) ho w4 u1, u2⟩
    rw [nI_clamp (by omega)]
    have w5 := rw_row (g := va_up (va_cpy g g i (i + 1) (xs.length - i)) i (some x)) w4 z5
    refine bJx4a65c_add_7a177_57 w5.1 rfl (bJx4a65c_add_7a177_64 ?_)
    have w6 := rw_obj (n2 := xs.length + 1) (md2 := md + 1) w5
    refine ⟨rfl, e3, ?_⟩
    have := rw_done (h' := k_gr h a (xs.insertIdx i x) xs.length cap) rfl w6 (by rw [List.length_insertIdx, if_pos hi]) (by rw [List.length_insertIdx, if_pos hi]; omega) hc3 (ins_get hi hg) e3.symm e4
    rw [nI_1]
    exact this
  rcases id w2.2.2.2.2 with ⟨y1, y2⟩ | ⟨y1, y2, y3⟩
  · subst y2
    refine bJx4a65c_add_7a177_28z (bJx4a65c_add_7a177_29 (fun c => absurd (by rw [← nI_0]; congr 1; omega) c) (fun _ => ?_))
    refine bJx4a65c_add_7a177_32 (k_is_o w2.1) (c_grow ok ho (by show h.2.1 ≤ h9.2.1; rw [e1]; exact Nat.le_refl _) wh w2 (by omega) (by omega) (fun i z hi => by omega)) ?_
    rintro h3 v ⟨rfl, e3, g, w3, hg⟩
    have hng : ¬ xs.length < cap := by omega
    refine bJx4a65c_add_7a177_36 (key h3 _ _ g w3 (by have := k_nc_gt cap; omega) (by have := k_nc_lt (cap := cap) (by omega); omega) (fun i hi => by omega) ?_ ?_)
    · rw [e3]
      unfold k_gr
      rw [if_neg hng]
      show (h9.2.1 + 1, h9.2.2 + k_nc cap) = (h.2.1 + 1, h.2.2 + k_nc cap)
      rw [e1]
    · unfold k_gr
      rw [if_neg hng]
      rfl
  · refine bJx4a65c_add_7a177_28 y3 (bJx4a65c_add_7a177_29 (fun c => ?_) (fun c => ?_))
    · have hlt : xs.length < cap := by
        by_cases z : xs.length = cap
        · rw [z] at c; exact absurd rfl c
        · omega
      refine key _ cap t f w2 hlt hc hf ?_ ?_
      · unfold k_gr
        rw [if_pos hlt]
        exact e1
      · unfold k_gr
        rw [if_pos hlt]
    · have heq : xs.length = cap := (nI_eq (by omega) (by omega)).mp c
      have hng : ¬ xs.length < cap := by omega
      refine bJx4a65c_add_7a177_32 (k_is_o w2.1) (c_grow ok ho (by show h.2.1 ≤ h9.2.1; rw [e1]; exact Nat.le_refl _) wh w2 heq (by omega) (fun i z hi hz => ?_)) ?_
      · rw [hf i (by omega)] at hz
        exact hel z (List.mem_of_getElem? hz)
      rintro h3 v ⟨rfl, e3, g, w3, hg⟩
      refine bJx4a65c_add_7a177_36 (key h3 _ _ g w3 (by have := k_nc_gt cap; omega) (by have := k_nc_lt (cap := cap) (by omega); omega) (fun i hi => by rw [hg i (by omega), hf i hi]) ?_ ?_)
      · rw [e3]
        unfold k_gr
        rw [if_neg hng]
        show (h9.2.1 + 1, h9.2.2 + k_nc cap) = (h.2.1 + 1, h.2.2 + k_nc cap)
        rw [e1]
      · unfold k_gr
        rw [if_neg hng]
        rfl
theorem c_removeAt (ok : k_ok G l) {h : k_H} {a cap i x : Nat} {xs : List Nat} (ho : h.1 a = some (k_l xs cap)) (hi : xs[i]? = some x) (hel : ∀ z ∈ xs, k_el h z) : k_ctr (tAL_removeAt G l) [vR (some a), vI (nI i)] h (fun h' v => h' = k_up h a (k_l (xs.eraseIdx i) cap) ∧ v = some x) := by
  have hlt : i < xs.length := (List.getElem?_eq_some_iff.mp hi).1
  refine k_ctr_of (eJx4a65c_remove_915e3 ok.2 (x_open ok.1 ho (h' := k_up h a (k_l (xs.eraseIdx i) cap)) ⟨Nat.le_refl _, Nat.le_refl _⟩ (fun h1 r1 w1 e1 => ?_) ⟨_, rfl, rfl, rfl⟩))
  obtain ⟨hlc, hc, md, t, f, w, hf⟩ := rw_open r1 w1
  refine bJx4a65c_remove_915e3_0 w.1 rfl (c_checkIndex ok (nI_pos (by omega)) (nI_lt hlt (by omega))) ?_
  rintro h2 v ⟨rfl, rfl⟩
  rcases id w.2.2.2.2 with ⟨y1, y2⟩ | ⟨y1, y2, y3⟩
  · omega
  refine bJx4a65c_remove_915e3_8 (P := fun h9 => h9.2 = (k_up h a (k_l (xs.eraseIdx i) cap)).2 ∧ ∀ H, k_hp G h9 H → k_hp G (k_up h a (k_l (xs.eraseIdx i) cap)) H) w.1 rfl y3 (nI_in (by omega) (by omega)) ?_ (fun h9 p9 => ?_)
  · refine k_ctv_of (eJx4a65c_fastRemove_b59b0 ok.2 (bJx4a65c_fastRemove_b59b0_0 w.1 rfl rfl ?_))
    have w2 := rw_obj (n2 := xs.length) (md2 := md + 1) w
    have q0 : nI xs.length - 1 = nI (xs.length - 1) := nI_sub (b := 1) (by omega)
    have q1 : nI i + 1 = nI (i + 1) := nI_1 i
    have q2 : nI (xs.length - 1) - nI i = nI (xs.length - 1 - i) := nI_sub (by omega)
    have le : (xs.eraseIdx i).length = xs.length - 1 := by rw [List.length_eraseIdx, if_pos hlt]
    refine bJx4a65c_fastRemove_b59b0_10 w2.1 rfl (fun c => ?_) (fun c => ?_)
    · rw [q0] at c ⊢
      have c1 := (nI_leI (by omega) (by omega)).mp c
      have w3 := rw_obj (n2 := xs.length - 1) (md2 := md + 1) w2
      refine bJx4a65c_fastRemove_b59b0_34 w2.1 rfl ?_
      rcases id w3.2.2.2.2 with ⟨z1, z2⟩ | ⟨z1, z2, z3⟩
      · omega
      refine bJx4a65c_fastRemove_b59b0_41 z3 (nI_in (by omega) (by omega)) (bJx4a65c_fastRemove_b59b0_43 ⟨rfl, e1, ?_⟩)
      rw [nI_clamp (by omega)]
      exact rw_done (h' := k_up h a (k_l (xs.eraseIdx i) cap)) rfl (rw_row w3 z1) le.symm (by omega) hc (era_get0 (by omega) hf) e1.symm rfl
    · rw [q0] at c ⊢
      have c1 : ¬ xs.length - 1 ≤ i := fun z => c ((nI_leI (by omega) (by omega)).mpr z)
      rcases id w2.2.2.2.2 with ⟨z1, z2⟩ | ⟨z1, z2, z3⟩
      · omega
      refine bJx4a65c_fastRemove_b59b0_22 z3 (by rw [q1]; exact nI_pos (by omega)) (nI_pos (by omega)) (by rw [q2]; exact nI_pos (by omega)) ?_ ?_ ?_ ?_
      · rw [q1, q2, nI_clamp (by omega), nI_clamp (by omega)]; omega
      · rw [q2, nI_clamp (by omega), nI_clamp (by omega)]; omega
      · rw [q1, q2, nI_clamp (by omega), nI_clamp (by omega)]
        intro j hj z hz
        rw [hf _ (by omega)] at hz
        obtain ⟨ci, u1, u2⟩ := hel z (List.mem_of_getElem? hz)
        exact ⟨ci, rw_is (c0 := 0) ho w2 u1, u2⟩
      rw [q1, q2, nI_clamp (by omega), nI_clamp (by omega), nI_clamp (by omega)]
      have w4 := rw_row (g := va_cpy f f (i + 1) i (xs.length - 1 - i)) w2 z1
      refine bJx4a65c_fastRemove_b59b0_34 w4.1 rfl ?_
      have w5 := rw_obj (n2 := xs.length - 1) (md2 := md + 1) w4
      refine bJx4a65c_fastRemove_b59b0_41 (by rw [k_up_ne _ _ w5.2.1]; exact k_up_self _ _ _) (nI_in (by omega) (by omega)) (bJx4a65c_fastRemove_b59b0_43 ⟨rfl, e1, ?_⟩)
      rw [nI_clamp (by omega)]
      exact rw_done (h' := k_up h a (k_l (xs.eraseIdx i) cap)) rfl (rw_row w5 z1) le.symm (by omega) hc (era_get hlt hf) e1.symm rfl
  · rw [nI_clamp (by omega), hf i hlt, hi]
    exact bJx4a65c_remove_915e3_24 ⟨rfl, p9⟩
end LST3
