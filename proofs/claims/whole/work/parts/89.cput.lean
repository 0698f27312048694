/-! THE CLASS'S TRANSACTIONS: contracts over the joint predicate -/
theorem cx_len : ∀ CX : List k_CX, CX.length = (c_mc CX).length + (CX.filter (fun y => decide (y.1.2.1 = 7))).length := by
  intro CX
  unfold c_mc
  rw [List.length_map]
  induction CX with
  | nil => rfl
  | cons y t ih =>
    by_cases e : y.1.2.1 = 7
    · rw [List.filter_cons_of_neg (by simp [e]), List.filter_cons_of_pos (by simp [e]), List.length_cons, List.length_cons]
      omega
    · rw [List.filter_cons_of_pos (by simp [e]), List.filter_cons_of_neg (by simp [e]), List.length_cons, List.length_cons]
      omega
section CPU
variable {G : k_G} {l : Launch}
theorem c_X_keepKey (ok : k_ok G l) {a t ser w c : Nat} {h : k_H} {X : Nat → s_X} {k v : Int32} (hX : c_TX a h X ser w) (ht : t < 4) (hb : (X t).1.1 = true) (hk : ¬ k = 7) (hw : c_wc (0, k, c, c + 1, v, 0)) (hl : (X t).2.1.length + w ≤ 13300) :
    k_ctv (tX9_keepKey G l) [vR (some (a + c_T t)), vI k, vJ (lN c), vI v] h (fun h' => c_TX a h' (X_up X t ((X t).1, (X t).2.1 ++ [(ser + 1, k, c, c + 1, v, 0)], (X t).2.2)) (ser + 1) w ∧ k_mo a [] (c_At a t) 1 h h') := by
  obtain ⟨CXf, b1, b2, b3, b4⟩ := hX
  obtain ⟨RS, cap, capR, kept, o1, ⟨c1, c2, c3⟩, c4⟩ := id (b1 t ht)
  obtain ⟨h', tr, e⟩ := c_X9_keepKey ok (k := k) (v := v) (c := c) b4 o1 c1
  have hlen := cx_len (CXf t)
  have h7 := (c4 hb).2.2.2
  have h8 := (c4 hb).1.1
  rw [← h8] at hlen
  exact ⟨h', tr, keep_TX (y := (h.2.1, k, c, c + 1, v, 0)) b1 b2 b3 b4 ht hb o1 c1 c2 c3 (c4 hb) rfl hk hw (by omega) e⟩
theorem c_X_keepRange (ok : k_ok G l) {a t ser w c d : Nat} {h : k_H} {X : Nat → s_X} (hX : c_TX a h X ser w) (ht : t < 4) (hb : (X t).1.1 = true) (hw : c_wc (0, 1, c, d, 0, 0)) (hl : (X t).2.1.length + w ≤ 13300) :
    k_ctv (tX9_keepRange G l) [vR (some (a + c_T t)), vJ (lN c), vJ (lN d)] h (fun h' => c_TX a h' (X_up X t ((X t).1, (X t).2.1 ++ [(ser + 1, 1, c, d, 0, 0)], (X t).2.2)) (ser + 1) w ∧ k_mo a [] (c_At a t) 1 h h') := by
  obtain ⟨CXf, b1, b2, b3, b4⟩ := hX
  obtain ⟨RS, cap, capR, kept, o1, ⟨c1, c2, c3⟩, c4⟩ := id (b1 t ht)
  obtain ⟨h', tr, e⟩ := c_X9_keepRange ok (c := c) (e := d) b4 o1 c1
  have hlen := cx_len (CXf t)
  have h7 := (c4 hb).2.2.2
  have h8 := (c4 hb).1.1
  rw [← h8] at hlen
  exact ⟨h', tr, keep_TX (y := (h.2.1, 1, c, d, 0, 0)) b1 b2 b3 b4 ht hb o1 c1 c2 c3 (c4 hb) rfl (show ¬ (1 : Int32) = 7 by decide) hw (by omega) e⟩
theorem c_X_keepStamped (ok : k_ok G l) {a t ser w c : Nat} {h : k_H} {X : Nat → s_X} {p v : Int32} (hX : c_TX a h X ser w) (ht : t < 4) (hb : (X t).1.1 = true) (hw : c_wc (0, 6, c, c + 1, v, p)) (hl : (X t).2.1.length + w ≤ 13300) :
    k_ctv (tX9_keepStamped G l) [vR (some (a + c_T t)), vJ (lN c), vI p, vI v] h (fun h' => c_TX a h' (X_up X t ((X t).1, (X t).2.1 ++ [(ser + 1, 6, c, c + 1, v, p)], (X t).2.2)) (ser + 1) w ∧ k_mo a [] (c_At a t) 1 h h') := by
  obtain ⟨CXf, b1, b2, b3, b4⟩ := hX
  obtain ⟨RS, cap, capR, kept, o1, ⟨c1, c2, c3⟩, c4⟩ := id (b1 t ht)
  obtain ⟨h', tr, e⟩ := c_X9_keepStamped ok (c := c) (p := p) (v := v) b4 o1 c1
  have hlen := cx_len (CXf t)
  have h7 := (c4 hb).2.2.2
  have h8 := (c4 hb).1.1
  rw [← h8] at hlen
  exact ⟨h', tr, keep_TX (y := (h.2.1, 6, c, c + 1, v, p)) b1 b2 b3 b4 ht hb o1 c1 c2 c3 (c4 hb) rfl (show ¬ (6 : Int32) = 7 by decide) hw (by omega) e⟩
/-- a reading is put down -/
theorem put_TX {a t ser w lo hi him : Nat} {h h' : k_H} {X : Nat → s_X} {CXf : Nat → List k_CX} {RS : List k_SP} {cap capR kept : Nat} (b1 : ∀ t, t < 4 → c_tb a h t (CXf t) (X t) ser w) (b2 : ∀ t u, t < 4 → u < 4 → t ≠ u → ∀ y ∈ CXf t, ∀ z ∈ CXf u, y.1.1 ≠ z.1.1) (b3 : a + 31 ≤ h.2.1) (b4 : k_wf h) (ht : t < 4) (hb : (X t).1.1 = true)
    (o1 : h.1 (a + c_T t) = some (k_o 12 [vR (some (a + (c_T t + 1))), vR (some (a + (c_T t + 2))), vI (kB (X t).1.1), vI (kB (X t).1.2.1), vI (nI (X t).1.2.2.1), vI (nI (X t).1.2.2.2.1), vI (c_dn (X t).1.2.2.2.2), vI (nI kept)]))
    (c1 : r_cs h (a + (c_T t + 1)) cap ((CXf t).map (fun y => y.1))) (c2 : r_rs h (a + (c_T t + 2)) capR RS) (c3 : (CXf t).Pairwise (fun x y => x.1.1 ≠ y.1.1)) (c4 : c_tr (CXf t) RS (X t) ser w kept) (hh : hi = him ∨ (hi = 1331000000000 ∧ him = 1331000000001)) (hlo : lo < 2 ^ 62) (hhi : hi < 2 ^ 62) (hl : (X t).2.2.length < 2048)
    (e : h' = k_gr (k_nw h 3 (o_spn (h.2.1, lo, hi, ((CXf t).map (fun y => y.1)).length))) (a + (c_T t + 2)) (RS.map (fun x => x.1) ++ [h.2.1]) RS.length capR) :
    c_TX a h' (X_up X t ((X t).1, (X t).2.1, (X t).2.2 ++ [(lo, him, ser)])) ser w ∧ k_mo a [] (c_At a t) 1 h h' := by
  have hT := c_T_lt ht
  have hbd : 3200 ≤ k_bd (c_T t + 2) := by
    have : t = 0 ∨ t = 1 ∨ t = 2 ∨ t = 3 := by omega
    rcases this with rfl | rfl | rfl | rfl <;> decide
  obtain ⟨⟨d0, d1⟩, ⟨d2, d3⟩, ⟨d4, d5, d6⟩, d7⟩ := c4
  rw [List.length_map] at e
  have m1 : k_mo a [] (c_At a t) 1 h (k_nw h 3 (o_spn (h.2.1, lo, hi, (CXf t).length))) := mv_nw b4 b3 (by omega)
  have old : ∀ p c, h.1 p = some c → (k_nw h 3 (o_spn (h.2.1, lo, hi, (CXf t).length))).1 p = some c := fun p c hp => nw_old b4 hp
  have m2 : k_mo a [] (c_At a t) 0 (k_nw h 3 (o_spn (h.2.1, lo, hi, (CXf t).length))) (k_gr (k_nw h 3 (o_spn (h.2.1, lo, hi, (CXf t).length))) (a + (c_T t + 2)) (RS.map (fun x => x.1) ++ [h.2.1]) RS.length capR) := mv_gr (old _ _ c2.1) (by omega) (Or.inr (Or.inr rfl)) (by omega)
  have m := mv_trans m1 m2
  obtain ⟨capR', es⟩ := gr_at (k_nw h 3 (o_spn (h.2.1, lo, hi, (CXf t).length))) (a + (c_T t + 2)) (RS.map (fun x => x.1) ++ [h.2.1]) RS.length capR
  have ne : ∀ p c, h.1 p = some c → p ≠ a + (c_T t + 2) → h'.1 p = some c := fun p c hp hne => by rw [e, gr_ne _ _ _ _ hne]; exact old _ _ hp
  have enew : h'.1 h.2.1 = some (o_spn (h.2.1, lo, hi, (CXf t).length)) := by rw [e, gr_ne _ _ _ _ (by omega), k_nw_self]
  rw [← e] at m es
  have c18 := c1.2.2
  rw [List.length_map] at c18
  refine ⟨TX_one b1 b2 b3 b4 ht m (CX' := CXf t) ⟨RS ++ [(h.2.1, lo, hi, (CXf t).length)], cap, capR', kept, ne _ _ o1 (by omega), ⟨⟨ne _ _ c1.1 (by omega), fun y hy => ⟨?_, (c1.2.1 y hy).2⟩, c1.2.2⟩, ⟨?_, fun y hy => ?_, ?_⟩, c3⟩, fun _ => ⟨⟨d0, d1⟩, ⟨d2, d3⟩, ⟨?_, fun i sp r hi2 hr => ?_, fun r hr => ?_⟩, d7⟩⟩ (Nat.le_refl _) (Nat.le_refl _) (fun y hy => Or.inl ⟨y, hy, rfl⟩), m⟩
  · have := (c1.2.1 y hy).1
    exact ne _ _ this (fun z => by rw [z, c2.1] at this; cases this)
  · rw [es, List.map_append]; rfl
  · rcases List.mem_append.mp hy with hy | hy
    · have := (c2.2.1 y hy).1
      exact ⟨ne _ _ this (fun z => by rw [z, c2.1] at this; cases this), (c2.2.1 y hy).2⟩
    · rw [List.mem_singleton.mp hy]
      exact ⟨enew, hlo, hhi, by show (CXf t).length < 2 ^ 30; omega⟩
  · rw [List.length_append, List.length_singleton]; omega
  · show (RS ++ [_]).length = ((X t).2.2 ++ [_]).length
    rw [List.length_append, List.length_append, d4]
    rfl
  · have hr' : ((X t).2.2 ++ [(lo, him, ser)])[i]? = some r := hr
    by_cases c : i < RS.length
    · rw [List.getElem?_append_left c] at hi2
      rw [List.getElem?_append_left (by omega)] at hr'
      exact d5 i sp r hi2 hr'
    · have ei : i = RS.length := by
        have := (List.getElem?_eq_some_iff.mp hi2).1
        simp at this; omega
      rw [ei] at hi2 hr'
      rw [d4] at hr'
      simp at hi2 hr'
      subst hi2 hr'
      refine ⟨rfl, hh, fun j y hj => ?_, Nat.le_refl _⟩
      have h1 := (List.getElem?_eq_some_iff.mp hj).1
      have h2 := (d3 y (List.mem_of_getElem? hj)).1
      show j < (CXf t).length ↔ y.2 ≤ ser
      omega
  · rcases List.mem_append.mp hr with hr | hr
    · exact d6 r hr
    · rw [List.mem_singleton.mp hr]
      exact Nat.le_refl _
theorem c_X_putDown (ok : k_ok G l) {a t ser w lo hi him : Nat} {h : k_H} {X : Nat → s_X} (hX : c_TX a h X ser w) (ht : t < 4) (hb : (X t).1.1 = true) (hh : hi = him ∨ (hi = 1331000000000 ∧ him = 1331000000001)) (hlo : lo < 2 ^ 62) (hhi : hi < 2 ^ 62) (hl : (X t).2.2.length < 2048) :
    k_ctv (tX9_putDown G l) [vR (some (a + c_T t)), vJ (lN lo), vJ (lN hi)] h (fun h' => c_TX a h' (X_up X t ((X t).1, (X t).2.1, (X t).2.2 ++ [(lo, him, ser)])) ser w ∧ k_mo a [] (c_At a t) 1 h h') := by
  obtain ⟨CXf, b1, b2, b3, b4⟩ := hX
  obtain ⟨RS, cap, capR, kept, o1, ⟨c1, c2, c3⟩, c4⟩ := id (b1 t ht)
  obtain ⟨h', tr, e⟩ := c_X9_putDown ok (lo := lo) (hi := hi) b4 o1 c1 c2
  exact ⟨h', tr, put_TX b1 b2 b3 b4 ht hb o1 c1 c2 c3 (c4 hb) hh hlo hhi hl e⟩
theorem X_up_self (X : Nat → s_X) (t : Nat) : X_up X t (X t) = X := funext fun q => by
  unfold X_up
  by_cases e : q = t
  · rw [if_pos e, e]
  · rw [if_neg e]
theorem c_X_putDownKey (ok : k_ok G l) {a t ser w c : Nat} {h : k_H} {X : Nat → s_X} (hX : c_TX a h X ser w) (ht : t < 4) (hb : (X t).1.1 = true) (hc : c < 2 ^ 60) (hl : (X t).2.2.length < 2048) :
    k_ctv (tX9_putDownKey G l) [vR (some (a + c_T t)), vJ (lN c)] h (fun h' => c_TX a h' (X_up X t ((X t).1, (X t).2.1, s_rdk true (X t).2.1 (X t).2.2 c ser)) ser w ∧ k_mo a [] (c_At a t) 1 h h') := by
  obtain ⟨CXf, b1, b2, b3, b4⟩ := id hX
  obtain ⟨RS, cap, capR, kept, o1, ⟨c1, c2, c3⟩, c4⟩ := id (b1 t ht)
  obtain ⟨h', tr, e⟩ := c_X9_putDownKey ok (c := c) b4 o1 c1 c2 hc
  have d3 := (c4 hb).2.1.2
  have eown : s_own ((CXf t).map (fun y => y.1)) c (c + 1) = s_ownS (X t).2.1 ser c (c + 1) := by
    have := own_mc (CX := CXf t) (n := (CXf t).length) (ser := ser) (fun j y hj => by
      have h1 := (List.getElem?_eq_some_iff.mp hj).1
      have h2 := (d3 y (List.mem_of_getElem? hj)).1
      omega) c (c + 1)
    rw [List.take_of_length_le (by rw [List.length_map]; exact Nat.le_refl _)] at this
    rw [this, ← (c4 hb).1.1]
  rw [eown] at e
  by_cases co : s_ownS (X t).2.1 ser c (c + 1) = true
  · rw [if_pos co] at e
    have er : s_rdk true (X t).2.1 (X t).2.2 c ser = (X t).2.2 := by
      unfold s_rdk
      rw [if_neg (fun z => by rw [co] at z; cases z.2)]
    refine ⟨h', tr, ?_, ?_⟩
    · rw [er, e]
      have : ((X t).1, (X t).2.1, (X t).2.2) = X t := rfl
      rw [this, X_up_self]
      exact hX
    · rw [e]
      exact mv_mono (mv_refl _ _ _ _) (fun _ h => h) (fun _ h => h) (Nat.zero_le _)
  · rw [if_neg co] at e
    have er : s_rdk true (X t).2.1 (X t).2.2 c ser = (X t).2.2 ++ [(c, c + 1, ser)] := by
      unfold s_rdk
      rw [if_pos ⟨rfl, by simpa using co⟩]
    rw [er]
    exact ⟨h', tr, put_TX b1 b2 b3 b4 ht hb o1 c1 c2 c3 (c4 hb) (Or.inl rfl) (by omega) (by omega) hl e⟩
end CPU
