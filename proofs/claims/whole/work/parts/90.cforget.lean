/-! THE CLASS'S TRANSACTIONS FORGET STAMPED CHANGES -/
def fg (c : Nat) (y : k_CX) : k_CX := if y.1.2.1 = 6 ∧ y.1.2.2.1 = c then ((y.1.1, 7, y.1.2.2), y.2) else y
theorem fg_a (c : Nat) (y : k_CX) : (fg c y).1.1 = y.1.1 ∧ (fg c y).2 = y.2 ∧ (fg c y).1.2.2 = y.1.2.2 := by
  unfold fg
  split <;> exact ⟨rfl, rfl, rfl⟩
theorem fg_mc (c : Nat) : ∀ CX : List k_CX, c_mc (CX.map (fg c)) = (c_mc CX).filter (fun x => !(decide (x.2.1 = 6) && decide (x.2.2.1 = c))) := by
  intro CX
  induction CX with
  | nil => rfl
  | cons y t ih =>
    by_cases e : y.1.2.1 = 6 ∧ y.1.2.2.1 = c
    · have e1 : fg c y = ((y.1.1, 7, y.1.2.2), y.2) := if_pos e
      have h1 : c_mc ((y :: t).map (fg c)) = c_mc (t.map (fg c)) := by
        rw [List.map_cons, e1]
        unfold c_mc
        rw [List.filter_cons_of_neg (by simp)]
      have h2 : c_mc (y :: t) = (y.2, y.1.2) :: c_mc t := by
        unfold c_mc
        rw [List.filter_cons_of_pos (by rw [e.1]; decide), List.map_cons]
      rw [h1, h2, ih, List.filter_cons_of_neg (by simp [e.1, e.2])]
    · have e1 : fg c y = y := if_neg e
      rw [List.map_cons, e1]
      by_cases e7 : y.1.2.1 = 7
      · have h1 : ∀ u : List k_CX, c_mc (y :: u) = c_mc u := fun u => by
          unfold c_mc
          rw [List.filter_cons_of_neg (by simp [e7])]
        rw [h1, h1, ih]
      · have h1 : ∀ u : List k_CX, c_mc (y :: u) = (y.2, y.1.2) :: c_mc u := fun u => by
          unfold c_mc
          rw [List.filter_cons_of_pos (by simp [e7]), List.map_cons]
        rw [h1, h1, ih, List.filter_cons_of_pos]
        simp only [Bool.not_eq_true', Bool.and_eq_false_iff, decide_eq_false_iff_not]
        by_cases e6 : y.1.2.1 = 6
        · exact Or.inr (fun z => e ⟨e6, z⟩)
        · exact Or.inl e6
theorem tb_fr2 {a : Nat} {K : List Nat} {A : Nat → Prop} {h h' : k_H} {t : Nat} {CX : List k_CX} {x : s_X} {ser w : Nat} (b : c_tb a h t CX x ser w) (m : k_fr K A h h') (hK : 4 ∉ K ∧ 10 ∉ K ∧ 12 ∉ K) (hC : ∀ y ∈ CX, ¬ A y.1.1) (hS : ∀ q fs, h.1 q = some (k_o 10 fs) → ¬ A q) (hL : ¬ A (a + c_T t) ∧ ¬ A (a + (c_T t + 1)) ∧ ¬ A (a + (c_T t + 2))) : c_tb a h' t CX x ser w := by
  obtain ⟨RS, cap, capR, kept, o, ⟨c1, c2, c3⟩, c4⟩ := b
  refine ⟨RS, cap, capR, kept, m _ _ o hL.1 (fun ci fs e => by cases e; exact hK.2.2), ⟨⟨m _ _ c1.1 hL.2.1 (fun ci fs e => by cases e), fun y hy => ⟨?_, (c1.2.1 y hy).2⟩, c1.2.2⟩, ⟨m _ _ c2.1 hL.2.2 (fun ci fs e => by cases e), fun y hy => ⟨?_, (c2.2.1 y hy).2⟩, c2.2.2⟩, c3⟩, c4⟩
  · have := (c1.2.1 y hy).1
    obtain ⟨z, hz, rfl⟩ := List.mem_map.mp hy
    exact m _ _ this (hC z hz) (fun ci fs e => by cases e; exact hK.1)
  · have := (c2.2.1 y hy).1
    exact m _ _ this (hS _ _ this) (fun ci fs e => by cases e; exact hK.2.1)
theorem wc_fg {c : Nat} {y : k_CX} (h : c_wc y.1) : c_wc (fg c y).1 := by
  unfold fg
  split
  · rename_i e
    obtain ⟨h1, h2, h3, h4, h5⟩ := h
    refine ⟨h1, h2, ?_, fun z => absurd z (show ¬ (7 : Int32) = 6 by decide), fun z => absurd z (show ¬ (7 : Int32) = 6 by decide)⟩
    rcases h3 with h3 | h3
    · exact Or.inl h3
    · rw [e.1] at h3; cases h3
  · exact h
section CFG
variable {G : k_G} {l : Launch}
theorem c_X_forget (ok : k_ok G l) {a t ser w c : Nat} {h : k_H} {X : Nat → s_X} (hX : c_TX a h X ser w) (ht : t < 4) (hb : (X t).1.1 = true) (hc : c < 1331000000000) (hl : (X t).2.1.length + w ≤ 13300) :
    k_ctv (tX9_forgetStamped G l) [vR (some (a + c_T t)), vJ (lN c)] h (fun h' => c_TX a h' (X_up X t ((X t).1, (X t).2.1.filter (fun x => !(decide (x.2.1 = 6) && decide (x.2.2.1 = c))), (X t).2.2)) ser (w + (X t).2.1.countP (fun x => decide (x.2.1 = 6) && decide (x.2.2.1 = c))) ∧ k_mo a [4] (c_At a t) 0 h h') := by
  obtain ⟨CXf, b1, b2, b3, b4⟩ := hX
  obtain ⟨RS, cap, capR, kept, o1, ⟨c1, c2, c3⟩, c4⟩ := id (b1 t ht)
  obtain ⟨⟨d0, d1⟩, ⟨d2, d3⟩, ⟨d4, d5, d6⟩, d7⟩ := c4 hb
  have hT := c_T_lt ht
  have hlen := cx_len (CXf t)
  rw [← d0] at hlen
  have hl13 : (CXf t).length ≤ 13300 := by omega
  generalize hCX : CXf t = CX at o1 c1 c3 d0 d2 d3 d5 d7 hlen hl13
  have hT12 : ∀ y ∈ CX, y.1.1 ≠ a + c_T t := fun y hy z => by
    have := (c1.2.1 y.1 (List.mem_map.mpr ⟨y, hy, rfl⟩)).1
    rw [z, o1] at this
    cases this
  have hAl : ∀ i xs cp, h.1 i = some (k_l xs cp) → ¬ (i = a + c_T t ∨ ∃ y ∈ CX, i = y.1.1) := fun i xs cp hi z => by
    rcases z with z | ⟨y, hy, z⟩
    · rw [z, o1] at hi; cases hi
    · have := (c1.2.1 y.1 (List.mem_map.mpr ⟨y, hy, rfl⟩)).1
      rw [z, this] at hi; cases hi
  have hAs : ∀ q fs, h.1 q = some (k_o 10 fs) → ¬ (q = a + c_T t ∨ ∃ y ∈ CX, q = y.1.1) := fun q fs hi z => by
    rcases z with z | ⟨y, hy, z⟩
    · rw [z, o1] at hi; cases hi
    · have := (c1.2.1 y.1 (List.mem_map.mpr ⟨y, hy, rfl⟩)).1
      rw [z, this] at hi; cases hi
  -- the whole state behind
  have fin : ∀ (h2 : k_H), h2.1 (a + c_T t) = some (k_o 12 [vR (some (a + (c_T t + 1))), vR (some (a + (c_T t + 2))), vI (kB (X t).1.1), vI (kB (X t).1.2.1), vI (nI (X t).1.2.2.1), vI (nI (X t).1.2.2.2.1), vI (c_dn (X t).1.2.2.2.2), vI (nI (c_mc (CX.map (fg c))).length)]) → r_cs h2 (a + (c_T t + 1)) cap ((CX.map (fg c)).map (fun y => y.1)) → k_mo a [] (fun q => q = a + c_T t ∨ ∃ y ∈ CX, q = y.1.1) 0 h h2 →
      c_TX a h2 (X_up X t ((X t).1, (X t).2.1.filter (fun x => !(decide (x.2.1 = 6) && decide (x.2.2.1 = c))), (X t).2.2)) ser (w + (X t).2.1.countP (fun x => decide (x.2.1 = 6) && decide (x.2.2.1 = c))) ∧ k_mo a [4] (c_At a t) 0 h h2 := by
    intro h2 e1 e2 m
    have hgone : ((CX.map (fg c)).filter (fun y => decide (y.1.2.1 = 7))).length ≤ w + (X t).2.1.countP (fun x => decide (x.2.1 = 6) && decide (x.2.2.1 = c)) := by
      have h1 := cx_len (CX.map (fg c))
      rw [List.length_map, fg_mc, ← d0] at h1
      have h2 := List.length_eq_countP_add_countP (fun x : k_CH => decide (x.2.1 = 6) && decide (x.2.2.1 = c)) (l := (X t).2.1)
      have h3 : ((X t).2.1.filter (fun x => !(decide (x.2.1 = 6) && decide (x.2.2.1 = c)))).length = (X t).2.1.countP (fun x => ! (decide (x.2.1 = 6) && decide (x.2.2.1 = c))) := by rw [List.countP_eq_length_filter]
      have h4 : (X t).2.1.countP (fun x => ! (decide (x.2.1 = 6) && decide (x.2.2.1 = c))) = (X t).2.1.countP (fun x => decide (¬ (decide (x.2.1 = 6) && decide (x.2.2.1 = c)) = true)) := by
        refine List.countP_congr fun x _ => ?_
        cases (decide (x.2.1 = 6) && decide (x.2.2.1 = c)) <;> simp
      omega
    have b2t : ∀ u, u < 4 → u ≠ t → ∀ y ∈ CX, ∀ z ∈ CXf u, y.1.1 ≠ z.1.1 := fun u hu hne y hy z hz => b2 t u ht hu (Ne.symm hne) y (by rw [hCX]; exact hy) z hz
    refine ⟨⟨fun q => if q = t then CX.map (fg c) else CXf q, fun u hu => ?_, fun u v hu hv huv y hy z hz => ?_, Nat.le_trans b3 m.2.2.1, m.2.1 b4⟩, ⟨fun q d hq hA hK => ?_, m.2.1, m.2.2.1, m.2.2.2.1, m.2.2.2.2.1, m.2.2.2.2.2⟩⟩
    · show c_tb a h2 u (if u = t then CX.map (fg c) else CXf u) (if u = t then _ else X u) ser _
      by_cases e : u = t
      · rw [if_pos e, if_pos e, e]
        refine ⟨RS, cap, capR, (c_mc (CX.map (fg c))).length, e1, ⟨e2, ⟨m.1 _ _ c2.1 (hAl _ _ _ c2.1) (fun _ _ _ => List.not_mem_nil), fun y hy => ⟨m.1 _ _ (c2.2.1 y hy).1 (hAs _ _ (c2.2.1 y hy).1) (fun _ _ _ => List.not_mem_nil), (c2.2.1 y hy).2⟩, c2.2.2⟩, ?_⟩, fun _ => ⟨⟨?_, ?_⟩, ⟨?_, fun y hy => ?_⟩, ⟨d4, fun i sp r hi hr => ?_, d6⟩, hgone⟩⟩
        · rw [List.pairwise_map]
          exact c3.imp (fun h => by rw [(fg_a c _).1, (fg_a c _).1]; exact h)
        · show (X t).2.1.filter _ = _
          rw [fg_mc, d0]
        · show (c_mc (CX.map (fg c))).length = ((X t).2.1.filter _).length
          rw [fg_mc, d0]
        · rw [List.map_map]
          have : ((fun y : k_CX => y.2) ∘ fg c) = (fun y => y.2) := funext fun y => (fg_a c y).2.1
          rw [this]
          exact d2
        · obtain ⟨z, hz, rfl⟩ := List.mem_map.mp hy
          exact ⟨by rw [(fg_a c z).2.1]; exact (d3 z hz).1, wc_fg (d3 z hz).2⟩
        · obtain ⟨r1, r2, r3, r4⟩ := d5 i sp r hi hr
          refine ⟨r1, r2, fun j y hj => ?_, by rw [List.length_map]; exact r4⟩
          rw [List.getElem?_map] at hj
          cases ej : CX[j]? with
          | none => rw [ej] at hj; cases hj
          | some z =>
            rw [ej] at hj
            cases hj
            rw [(fg_a c z).2.1]
            exact r3 j z ej
      · rw [if_neg e, if_neg e]
        have hne := c_T_ne e
        obtain ⟨RS', cap', capR', kept', o1', ⟨c1', c2', c3'⟩, -⟩ := id (b1 u hu)
        refine tb_ser (tb_fr2 (b1 u hu) m.1 (by simp) (fun y hy z => ?_) (fun q fs hq => hAs q fs hq) ⟨fun z => ?_, hAl _ _ _ c1'.1, hAl _ _ _ c2'.1⟩) (Nat.le_refl _) (Nat.le_add_right _ _)
        · rcases z with z | ⟨x, hx, z⟩
          · have := (c1'.2.1 y.1 (List.mem_map.mpr ⟨y, hy, rfl⟩)).1
            rw [z, o1] at this
            cases this
          · exact b2t u hu e x hx y hy z.symm
        · rcases z with z | ⟨x, hx, z⟩
          · omega
          · have := (c1.2.1 x.1 (List.mem_map.mpr ⟨x, hx, rfl⟩)).1
            rw [← z, o1'] at this
            cases this
    · have hy2 : y ∈ (if u = t then CX.map (fg c) else CXf u) := hy
      have hz2 : z ∈ (if v = t then CX.map (fg c) else CXf v) := hz
      by_cases eu : u = t
      · rw [if_pos eu] at hy2
        rw [if_neg (fun ev => huv (eu.trans ev.symm))] at hz2
        obtain ⟨y0, hy0, rfl⟩ := List.mem_map.mp hy2
        rw [(fg_a c y0).1]
        exact b2t v hv (fun ev => huv (eu.trans ev.symm)) y0 hy0 z hz2
      · rw [if_neg eu] at hy2
        by_cases ev : v = t
        · rw [if_pos ev] at hz2
          obtain ⟨z0, hz0, rfl⟩ := List.mem_map.mp hz2
          rw [(fg_a c z0).1]
          exact (b2t u hu eu z0 hz0 y hy2).symm
        · rw [if_neg ev] at hz2
          exact b2 u v hu hv huv y hy2 z hz2
    · refine m.1 q d hq (fun z => ?_) (fun _ _ _ => List.not_mem_nil)
      rcases z with z | ⟨y, hy, z⟩
      · exact hA (Or.inl z)
      · have := (c1.2.1 y.1 (List.mem_map.mpr ⟨y, hy, rfl⟩)).1
        rw [z, this] at hq
        exact hK 4 _ (Option.some.inj hq).symm (by simp)
  refine k_ctv_of (eX9_forgetStamped ok.2 (bX9_forgetStamped_0 ?_))
  have loop : ∀ (d i : Nat) (h2 : k_H), CX.length - i = d → i ≤ CX.length → h2.1 (a + c_T t) = some (k_o 12 [vR (some (a + (c_T t + 1))), vR (some (a + (c_T t + 2))), vI (kB (X t).1.1), vI (kB (X t).1.2.1), vI (nI (X t).1.2.2.1), vI (nI (X t).1.2.2.2.1), vI (c_dn (X t).1.2.2.2.2), vI (nI (c_mc ((CX.take i).map (fg c) ++ CX.drop i)).length)]) → r_cs h2 (a + (c_T t + 1)) cap (((CX.take i).map (fg c) ++ CX.drop i).map (fun y => y.1)) → k_mo a [] (fun q => q = a + c_T t ∨ ∃ y ∈ CX, q = y.1.1) 0 h h2 →
      k_X (jX9_forgetStamped G l h) h2 2 [(0, vR (some (a + c_T t))), (1, vJ (lN c)), (3, vI (nI i))] [] (q_v (fun h' => c_TX a h' (X_up X t ((X t).1, (X t).2.1.filter (fun x => !(decide (x.2.1 = 6) && decide (x.2.2.1 = c))), (X t).2.2)) ser (w + (X t).2.1.countP (fun x => decide (x.2.1 = 6) && decide (x.2.2.1 = c))) ∧ k_mo a [4] (c_At a t) 0 h h')) := by
    intro d
    induction d with
    | zero =>
      intro i h2 hd hi e1 e2 m
      have ei : i = CX.length := by omega
      have ez : (CX.take i).map (fg c) ++ CX.drop i = CX.map (fg c) := by rw [ei, List.take_length, List.drop_length, List.append_nil]
      rw [ez] at e1 e2
      refine bX9_forgetStamped_2 e1 rfl (Or.inr ⟨rfl, _, _, e2.1⟩) (c_size ok e2.1) ?_
      rintro _ _ ⟨hh, rfl⟩
      rw [hh, List.length_map, List.length_map, List.length_map]
      exact bX9_forgetStamped_10 (fun _ => bX9_forgetStamped_69 ⟨rfl, fin h2 e1 e2 m⟩) (fun z => absurd (nI_le (by omega) (by omega)) z)
    | succ d ih =>
      intro i h2 hd hi e1 e2 m
      have hlt : i < CX.length := by omega
      obtain ⟨y, hy⟩ : ∃ y, CX[i]? = some y := ⟨_, List.getElem?_eq_getElem hlt⟩
      have hym := List.mem_of_getElem? hy
      have edr : CX.drop i = y :: CX.drop (i + 1) := by
        rw [List.drop_eq_getElem_cons hlt, (List.getElem?_eq_some_iff.mp hy).2]
      have etk : (CX.take (i + 1)).map (fg c) ++ CX.drop (i + 1) = (CX.take i).map (fg c) ++ fg c y :: CX.drop (i + 1) := by
        rw [List.take_succ, hy, List.map_append, List.append_assoc]; rfl
      have elen : (((CX.take i).map (fg c) ++ CX.drop i).map (fun y => y.1)).length = CX.length := by
        rw [List.length_map, List.length_append, List.length_map, List.length_take, List.length_drop]; omega
      have hge : (((CX.take i).map (fg c) ++ CX.drop i).map (fun y => y.1))[i]? = some y.1 := by
        rw [List.getElem?_map, List.getElem?_append_right (by rw [List.length_map, List.length_take]; omega), edr, List.length_map, List.length_take, show i - min i CX.length = 0 by omega]
        rfl
      have is1 : k_is h2 (a + (c_T t + 1)) 2 := Or.inr ⟨rfl, _, _, e2.1⟩
      have hyo := (e2.2.1 y.1 (List.mem_of_getElem? hge)).1
      have hyb := (e2.2.1 y.1 (List.mem_of_getElem? hge)).2
      have nx : fg c y = y → k_X (jX9_forgetStamped G l h) h2 63 [(0, vR (some (a + c_T t))), (1, vJ (lN c)), (3, vI (nI i))] [] (q_v (fun h' => c_TX a h' (X_up X t ((X t).1, (X t).2.1.filter (fun x => !(decide (x.2.1 = 6) && decide (x.2.2.1 = c))), (X t).2.2)) ser (w + (X t).2.1.countP (fun x => decide (x.2.1 = 6) && decide (x.2.2.1 = c))) ∧ k_mo a [4] (c_At a t) 0 h h')) := by
        intro ef
        rw [ef, ← edr] at etk
        refine bX9_forgetStamped_63 ?_
        rw [nI_1]
        exact ih (i + 1) h2 (by omega) (by omega) (by rw [etk]; exact e1) (by rw [etk]; exact e2) m
      refine bX9_forgetStamped_2 e1 rfl is1 (c_size ok e2.1) ?_
      rintro _ _ ⟨hh, rfl⟩
      rw [hh, List.length_map, elen]
      refine bX9_forgetStamped_10 (fun z => absurd z (nI_ge hlt (by omega))) (fun _ => bX9_forgetStamped_13 e1 rfl is1 (c_get ok e2.1 (by rw [List.getElem?_map, hge]; rfl)) ?_)
      rintro _ _ ⟨hh, rfl⟩
      rw [hh]
      refine bX9_forgetStamped_21 hyo rfl (fun n6 => nx (if_neg (fun z => n6 z.1))) (fun k6 => bX9_forgetStamped_36 hyo rfl (fun nc => nx (if_neg (fun z => nc (by rw [z.2])))) (fun kc => ?_))
      have kc2 : y.1.2.2.1 = c := (lX_eq hyb.1 (by omega)).mp kc
      have ef : fg c y = ((y.1.1, 7, y.1.2.2), y.2) := if_pos ⟨k6, kc2⟩
      rw [ef] at etk
      refine bX9_forgetStamped_46 hyo rfl ?_
      have hyT := hT12 y hym
      have ecell : (k_o 4 (List.set [vI y.1.2.1, vJ (lN y.1.2.2.1), vJ (lN y.1.2.2.2.1), vI y.1.2.2.2.2.1, vI y.1.2.2.2.2.2] 0 (vI 7))) = o_chg (y.1.1, 7, y.1.2.2) := rfl
      rw [ecell]
      have m2 : k_mo a [] (fun q => q = a + c_T t ∨ ∃ y ∈ CX, q = y.1.1) 0 h2 (k_up h2 y.1.1 (o_chg (y.1.1, 7, y.1.2.2))) := mv_o hyo (Or.inr (Or.inr ⟨y, hym, rfl⟩))
      have s3 : (k_up h2 y.1.1 (o_chg (y.1.1, 7, y.1.2.2))).1 y.1.1 = some (o_chg (y.1.1, 7, y.1.2.2)) := k_up_self _ _ _
      have n3 : ∀ q, q ≠ y.1.1 → (k_up h2 y.1.1 (o_chg (y.1.1, 7, y.1.2.2))).1 q = h2.1 q := fun q hq => k_up_ne _ _ hq
      generalize k_up h2 y.1.1 (o_chg (y.1.1, 7, y.1.2.2)) = h3 at m2 s3 n3
      have e1' : h3.1 (a + c_T t) = some (k_o 12 [vR (some (a + (c_T t + 1))), vR (some (a + (c_T t + 2))), vI (kB (X t).1.1), vI (kB (X t).1.2.1), vI (nI (X t).1.2.2.1), vI (nI (X t).1.2.2.2.1), vI (c_dn (X t).1.2.2.2.2), vI (nI (c_mc ((CX.take i).map (fg c) ++ CX.drop i)).length)]) := by rw [n3 _ (Ne.symm hyT)]; exact e1
      generalize hK1 : (c_mc ((CX.take i).map (fg c) ++ CX.drop i)).length = K1 at e1'
      refine bX9_forgetStamped_53 (f1_7 := nI K1) e1' rfl rfl ?_
      have ecell2 : (k_o 12 (List.set [vR (some (a + (c_T t + 1))), vR (some (a + (c_T t + 2))), vI (kB (X t).1.1), vI (kB (X t).1.2.1), vI (nI (X t).1.2.2.1), vI (nI (X t).1.2.2.2.1), vI (c_dn (X t).1.2.2.2.2), vI (nI K1)] 7 (vI (nI K1 - 1)))) = k_o 12 [vR (some (a + (c_T t + 1))), vR (some (a + (c_T t + 2))), vI (kB (X t).1.1), vI (kB (X t).1.2.1), vI (nI (X t).1.2.2.1), vI (nI (X t).1.2.2.2.1), vI (c_dn (X t).1.2.2.2.2), vI (nI K1 - 1)] := rfl
      rw [ecell2]
      have m3 : k_mo a [] (fun q => q = a + c_T t ∨ ∃ y ∈ CX, q = y.1.1) 0 h3 (k_up h3 (a + c_T t) (k_o 12 [vR (some (a + (c_T t + 1))), vR (some (a + (c_T t + 2))), vI (kB (X t).1.1), vI (kB (X t).1.2.1), vI (nI (X t).1.2.2.1), vI (nI (X t).1.2.2.2.1), vI (c_dn (X t).1.2.2.2.2), vI (nI K1 - 1)])) := mv_o e1' (Or.inr (Or.inl rfl))
      have s4 : (k_up h3 (a + c_T t) (k_o 12 [vR (some (a + (c_T t + 1))), vR (some (a + (c_T t + 2))), vI (kB (X t).1.1), vI (kB (X t).1.2.1), vI (nI (X t).1.2.2.1), vI (nI (X t).1.2.2.2.1), vI (c_dn (X t).1.2.2.2.2), vI (nI K1 - 1)])).1 (a + c_T t) = some (k_o 12 [vR (some (a + (c_T t + 1))), vR (some (a + (c_T t + 2))), vI (kB (X t).1.1), vI (kB (X t).1.2.1), vI (nI (X t).1.2.2.1), vI (nI (X t).1.2.2.2.1), vI (c_dn (X t).1.2.2.2.2), vI (nI K1 - 1)]) := k_up_self _ _ _
      have n4 : ∀ q, q ≠ a + c_T t → (k_up h3 (a + c_T t) (k_o 12 [vR (some (a + (c_T t + 1))), vR (some (a + (c_T t + 2))), vI (kB (X t).1.1), vI (kB (X t).1.2.1), vI (nI (X t).1.2.2.1), vI (nI (X t).1.2.2.2.1), vI (c_dn (X t).1.2.2.2.2), vI (nI K1 - 1)])).1 q = h3.1 q := fun q hq => k_up_ne _ _ hq
      generalize k_up h3 (a + c_T t) (k_o 12 [vR (some (a + (c_T t + 1))), vR (some (a + (c_T t + 2))), vI (kB (X t).1.1), vI (kB (X t).1.2.1), vI (nI (X t).1.2.2.1), vI (nI (X t).1.2.2.2.1), vI (c_dn (X t).1.2.2.2.2), vI (nI K1 - 1)]) = h4 at m3 s4 n4
      refine bX9_forgetStamped_63 ?_
      rw [nI_1]
      have ekept : K1 = (c_mc ((CX.take (i + 1)).map (fg c) ++ CX.drop (i + 1))).length + 1 := by
        have hap : ∀ u v : List k_CX, c_mc (u ++ v) = c_mc u ++ c_mc v := fun u v => by
          unfold c_mc
          rw [List.filter_append, List.map_append]
        have hc1 : c_mc (y :: CX.drop (i + 1)) = (y.2, y.1.2) :: c_mc (CX.drop (i + 1)) := by
          unfold c_mc
          rw [List.filter_cons_of_pos (by rw [k6]; decide), List.map_cons]
        have hc2 : c_mc (((y.1.1, 7, y.1.2.2), y.2) :: CX.drop (i + 1)) = c_mc (CX.drop (i + 1)) := by
          unfold c_mc
          rw [List.filter_cons_of_neg (by simp)]
        rw [← hK1, etk, edr, hap, hap, hc1, hc2, List.length_append, List.length_append, List.length_cons]
        omega
      have hpw : ((CX.take i).map (fg c) ++ y :: CX.drop (i + 1)).Pairwise (fun x y => x.1.1 ≠ y.1.1) := by
        have h1 : (CX.take i ++ y :: CX.drop (i + 1)) = CX := by rw [← edr, List.take_append_drop]
        rw [← h1, List.pairwise_append] at c3
        rw [List.pairwise_append, List.pairwise_map]
        refine ⟨c3.1.imp (fun h => by rw [(fg_a c _).1, (fg_a c _).1]; exact h), c3.2.1, fun u hu v hv => ?_⟩
        obtain ⟨u0, hu0, rfl⟩ := List.mem_map.mp hu
        rw [(fg_a c u0).1]
        exact c3.2.2 u0 hu0 v hv
      refine ih (i + 1) h4 (by omega) (by omega) ?_ ?_ (mv_mono (mv_trans (mv_trans m m2) m3) (fun _ h => h) (fun _ h => h) (Nat.le_refl 0))
      · rw [s4, ekept, show nI ((c_mc ((CX.take (i + 1)).map (fg c) ++ CX.drop (i + 1))).length + 1) - 1 = nI (c_mc ((CX.take (i + 1)).map (fg c) ++ CX.drop (i + 1))).length by rw [← nI_1]; exact Int32.add_sub_cancel _ _]
      · rw [etk]
        rw [edr] at e2
        refine ⟨?_, fun z hz => ?_, ?_⟩
        · have hl1 := e2.1
          have n1 : a + (c_T t + 1) ≠ y.1.1 := fun z => by rw [z, hyo] at hl1; cases hl1
          rw [n4 _ (by omega), n3 _ n1, hl1]
          simp only [List.map_append, List.map_cons]
        · obtain ⟨u, hu, rfl⟩ := List.mem_map.mp hz
          rw [List.pairwise_append, List.pairwise_cons] at hpw
          have hother : ∀ v ∈ (CX.take i).map (fg c) ++ y :: CX.drop (i + 1), v.1.1 ≠ y.1.1 → h4.1 v.1.1 = some (o_chg v.1) ∧ v.1.2.2.1 < 2 ^ 62 ∧ v.1.2.2.2.1 < 2 ^ 62 := fun v hv hne => by
            have hvo := e2.2.1 v.1 (List.mem_map.mpr ⟨v, hv, rfl⟩)
            have n1 : v.1.1 ≠ a + c_T t := fun z => by have h9 := hvo.1; rw [z, e1] at h9; cases h9
            exact ⟨by rw [n4 _ n1, n3 _ hne]; exact hvo.1, hvo.2⟩
          rcases List.mem_append.mp hu with hu | hu
          · exact hother u (List.mem_append.mpr (Or.inl hu)) (hpw.2.2 u hu y (List.mem_cons_self ..))
          · rcases List.mem_cons.mp hu with hu | hu
            · rw [hu]
              exact ⟨by rw [n4 _ hyT]; exact s3, hyb⟩
            · exact hother u (List.mem_append.mpr (Or.inr (List.mem_cons_of_mem _ hu))) (hpw.2.1.1 u hu).symm
        · have h9 := e2.2.2
          simp only [List.length_map, List.length_append, List.length_cons] at h9 ⊢
          exact h9
  refine loop _ 0 h rfl (Nat.zero_le _) ?_ c1 (mv_refl _ _ _ _)
  have : (CX.take 0).map (fg c) ++ CX.drop 0 = CX := rfl
  rw [this, ← d0, ← d1]
  exact o1
end CFG
