/-! RANGES OF KEYS, RUN THROUGH; entries pushed -/
def r_flt (lo hi : Nat) (p : Nat → Bool) (K : List k_K2) : List k_K2 := K.filter (fun x => decide (lo ≤ x.1) && decide (x.1 < hi) && p x.1)
def r_rem (hi : Nat) (p : Nat → Bool) (K : List k_K2) (i : Nat) : List k_K2 := (K.drop i).filter (fun x => decide (x.1 < hi) && p x.1)
theorem rs_drop {K : List k_K2} {i : Nat} {x : k_K2} (hx : K[i]? = some x) : K.drop i = x :: K.drop (i + 1) := by
  have hlt := (List.getElem?_eq_some_iff.mp hx).1
  rw [List.drop_eq_getElem_cons hlt]
  congr 1
  exact (List.getElem?_eq_some_iff.mp hx).2
theorem rs_end {hi : Nat} {p : Nat → Bool} {K : List k_K2} {i : Nat} (h : K.length ≤ i) : r_rem hi p K i = [] := by
  unfold r_rem
  rw [List.drop_eq_nil_of_le h]
  rfl
theorem rs_stop {hi : Nat} {p : Nat → Bool} {K : List k_K2} {i : Nat} {x : k_K2} (s : K.Pairwise (fun x y => x.1 < y.1)) (hx : K[i]? = some x) (h : hi ≤ x.1) : r_rem hi p K i = [] := by
  unfold r_rem
  rw [List.filter_eq_nil_iff]
  intro y hy
  obtain ⟨j, hj⟩ := List.getElem?_of_mem hy
  rw [List.getElem?_drop] at hj
  by_cases e : j = 0
  · subst e
    rw [Nat.add_zero, hx] at hj
    cases hj
    simp [show ¬ x.1 < hi by omega]
  · have := r_srt s (i := i) (j := i + j) (by omega) hx hj
    simp [show ¬ y.1 < hi by omega]
theorem rs_skip {hi : Nat} {p : Nat → Bool} {K : List k_K2} {i : Nat} {x : k_K2} (hx : K[i]? = some x) (h : p x.1 = false) : r_rem hi p K i = r_rem hi p K (i + 1) := by
  unfold r_rem
  rw [rs_drop hx, List.filter_cons_of_neg (by simp [h])]
theorem rs_take {hi : Nat} {p : Nat → Bool} {K : List k_K2} {i : Nat} {x : k_K2} (hx : K[i]? = some x) (h1 : x.1 < hi) (h : p x.1 = true) : r_rem hi p K i = x :: r_rem hi p K (i + 1) := by
  unfold r_rem
  rw [rs_drop hx, List.filter_cons_of_pos (by simp [h, h1])]
theorem rs_start {lo hi : Nat} {p : Nat → Bool} {K : List k_K2} (s : K.Pairwise (fun x y => x.1 < y.1)) : r_rem hi p K (r_pl lo K) = r_flt lo hi p K := by
  unfold r_rem r_flt
  conv => rhs; rw [← List.take_append_drop (r_pl lo K) K]
  rw [List.filter_append]
  have h1 : (K.take (r_pl lo K)).filter (fun x => decide (lo ≤ x.1) && decide (x.1 < hi) && p x.1) = [] := by
    rw [List.filter_eq_nil_iff]
    intro y hy
    obtain ⟨j, hj⟩ := List.getElem?_of_mem hy
    rw [List.getElem?_take] at hj
    by_cases e : j < r_pl lo K
    · rw [if_pos e] at hj
      have := r_pl_lt e hj
      simp [show ¬ lo ≤ y.1 by omega]
    · rw [if_neg e] at hj; cases hj
  rw [h1, List.nil_append]
  refine List.filter_congr fun y hy => ?_
  obtain ⟨j, hj⟩ := List.getElem?_of_mem hy
  rw [List.getElem?_drop] at hj
  have := r_pl_ge (c := lo) s (by omega) hj
  rw [decide_eq_true (show lo ≤ y.1 by omega), Bool.true_and]
theorem r_flt_of {lo hi : Nat} {p : Nat → Bool} {K : List k_K2} {x : k_K2} (h : x ∈ r_flt lo hi p K) : x ∈ K ∧ lo ≤ x.1 ∧ x.1 < hi ∧ p x.1 = true := by
  unfold r_flt at h
  rw [List.mem_filter] at h
  simp only [Bool.and_eq_true, decide_eq_true_eq] at h
  exact ⟨h.1, h.2.1.1, h.2.1.2, h.2.2⟩
/-- entries are pushed -/
def r_pu (n : Nat) (L : List k_E4) (x : Nat × Option Int32) : List k_E4 := (L.length, x.1, n, x.2) :: L
def r_pus (n : Nat) (xs : List (Nat × Option Int32)) (L : List k_E4) : List k_E4 := xs.foldl (r_pu n) L
theorem r_pus_len (n : Nat) : ∀ (xs : List (Nat × Option Int32)) (L : List k_E4), (r_pus n xs L).length = L.length + xs.length := by
  intro xs
  induction xs with
  | nil => intro L; rfl
  | cons x t ih =>
    intro L
    show (r_pus n t (r_pu n L x)).length = _
    rw [ih]
    show (L.length + 1) + t.length = L.length + (t.length + 1)
    omega
theorem r_val_cons (c n : Nat) (x : k_E4) (L : List k_E4) : r_val c n (x :: L) = if x.2.1 = c ∧ x.2.2.1 ≤ n then x.2.2.2 else r_val c n L := by
  unfold r_val
  by_cases h : x.2.1 = c ∧ x.2.2.1 ≤ n
  · rw [r_get_eq h.1 h.2, if_pos h]; rfl
  · rw [r_get_ne h, if_neg h]
theorem r_val_pu_ne {c n m : Nat} {L : List k_E4} {x : Nat × Option Int32} (h : ¬ x.1 = c) : r_val c m (r_pu n L x) = r_val c m L := by
  unfold r_pu
  rw [r_val_cons, if_neg (fun z => h z.1)]
theorem m_ins_in {c : Nat} {KM : List k_K2} {a : Nat} (s : KM.Pairwise (fun x y => x.1 < y.1)) (h : (c, a) ∈ KM) : m_ins c KM = KM := by
  unfold m_ins
  rw [r_at_mem s h]
  rfl
def m_rg (s : m_S) (WS : List (Nat × Nat × Nat)) : Prop := s.1 10 = nI WS.length ∧ WS.length ≤ 8192 ∧ ∀ (i : Nat) (w : Nat × Nat × Nat), WS[i]? = some w → s.2.1 7 i = nI w.2.2 ∧ s.2.2 8 i = lN w.1 ∧ s.2.2 9 i = lN (w.2.1 - 1) ∧ w.1 < 2 ^ 62 ∧ 0 < w.2.1 ∧ w.2.1 < 2 ^ 62
def m_wt (s : m_S) (WT : List (Nat × Int32)) : Prop := s.1 42 = nI WT.length ∧ WT.length ≤ 20 ∧ ∀ (i : Nat) (w : Nat × Int32), WT[i]? = some w → s.2.2 30 i = lN w.1 ∧ s.2.1 31 i = w.2 ∧ w.1 < 1331000000000
def m_hw (s : m_S) (WT : List (Nat × Int32)) (n : Nat) (L : List k_E4) : Prop := ∀ (i : Nat) (w : Nat × Int32), WT[i]? = some w → s.2.1 32 i = kB (r_val w.1 n L).isSome ∧ s.2.1 33 i = o_told (r_val w.1 n L)
theorem m_ks_fr {s s1 : m_S} {KM : List k_K2} {L : List k_E4} (h : m_ks s KM L) (h2 : s1.1 2 = s.1 2) (r1 : s1.2.2 1 = s.2.2 1) (r2 : s1.2.1 2 = s.2.1 2) : m_ks s1 KM L := by
  obtain ⟨e1, e2, e3, e4⟩ := h
  exact ⟨h2.trans e1, e2, fun i x hx => by rw [r1, r2]; exact e3 i x hx, e4⟩
theorem m_st_fr {A B : List Nat} {s s1 : m_S} {KM : List k_K2} {L : List k_E4} {n : Nat} (h : m_st s KM L n) (f : m_fr A B s s1) (hA : 0 ∉ A ∧ 2 ∉ A ∧ 5 ∉ A) (hB : ∀ i, 0 < i → i < 7 → i ∉ B) : m_st s1 KM L n := by
  obtain ⟨k1, k2, k3, k4, k5, k6, k7, k8⟩ := h
  have r := fun i h1 h2 => f.2 i (hB i h1 h2)
  refine ⟨m_ks_fr k1 (f.1 2 hA.2.1) (r 1 (by omega) (by omega)).2 (r 2 (by omega) (by omega)).1, (f.1 5 hA.2.2).trans k2, k3, m_log_keep (fun i _ => ?_) k4, (f.1 0 hA.1).trans k5, k6, k7, k8⟩
  rw [(r 3 (by omega) (by omega)).1, (r 5 (by omega) (by omega)).1, (r 4 (by omega) (by omega)).1, (r 6 (by omega) (by omega)).1]
  exact ⟨rfl, rfl, rfl, rfl⟩
theorem m_rg_fr {A B : List Nat} {s s1 : m_S} {WS : List (Nat × Nat × Nat)} (h : m_rg s WS) (f : m_fr A B s s1) (hA : 10 ∉ A) (hB : 7 ∉ B ∧ 8 ∉ B ∧ 9 ∉ B) : m_rg s1 WS := by
  obtain ⟨k1, k2, k3⟩ := h
  refine ⟨(f.1 10 hA).trans k1, k2, fun i w hw => ?_⟩
  rw [(f.2 7 hB.1).1, (f.2 8 hB.2.1).2, (f.2 9 hB.2.2).2]
  exact k3 i w hw
theorem m_wt_fr {A B : List Nat} {s s1 : m_S} {WT : List (Nat × Int32)} (h : m_wt s WT) (f : m_fr A B s s1) (hA : 42 ∉ A) (hB : 30 ∉ B ∧ 31 ∉ B) : m_wt s1 WT := by
  obtain ⟨k1, k2, k3⟩ := h
  refine ⟨(f.1 42 hA).trans k1, k2, fun i w hw => ?_⟩
  rw [(f.2 30 hB.1).2, (f.2 31 hB.2).1]
  exact k3 i w hw
theorem m_hw_fr {A B : List Nat} {s s1 : m_S} {WT : List (Nat × Int32)} {n : Nat} {L : List k_E4} (h : m_hw s WT n L) (f : m_fr A B s s1) (hB : 32 ∉ B ∧ 33 ∉ B) : m_hw s1 WT n L := fun i w hw => by
  rw [(f.2 32 hB.1).1, (f.2 33 hB.2).1]
  exact h i w hw
section MR
variable {G : k_G} {l : Launch}
theorem c_X12_manyIn (ok : k_ok G l) {b : Nat} {s : m_S} {h : k_H} {KM : List k_K2} {L : List k_E4} {n lo hi : Nat} (hk : m_st s KM L n) (hlo : lo < 2 ^ 62) (hhi : hi < 2 ^ 62) :
    k_cti (tX12_manyIn G l) [vR (some b), vJ (lN lo), vJ (lN hi)] (m_hp b s h) (m_p b h (fun s1 v => s1 = s ∧ v = nI (r_flt lo (hi + 1) (fun c => (r_val c n L).isSome) KM).length)) := by
  obtain ⟨⟨e1, e2, e3, e4⟩, -, -, -, e0, en, -, -⟩ := id hk
  refine k_cti_of (eX12_manyIn ok.2 (mX12_manyIn_0 (c_X12_placeOf ok hk.1 hlo) ?_))
  rintro _ _ ⟨hr, rfl⟩
  rw [hr]
  refine bX12_manyIn_8 ?_
  have key : ∀ (d i acc : Nat), KM.length - i = d → i ≤ KM.length → acc + (r_rem (hi + 1) (fun c => (r_val c n L).isSome) KM i).length = (r_flt lo (hi + 1) (fun c => (r_val c n L).isSome) KM).length →
      k_X (jX12_manyIn G l (m_hp b s h)) (m_hp b s h) 10 [(0, vR (some b)), (3, vJ (lN hi)), (5, vI (nI acc)), (6, vI (nI i))] [] (q_i (m_p b h (fun s1 v => s1 = s ∧ v = nI (r_flt lo (hi + 1) (fun c => (r_val c n L).isSome) KM).length))) := by
    intro d
    induction d with
    | zero =>
      intro i acc hd hi9 hacc
      rw [rs_end (by omega)] at hacc
      refine mX12_manyIn_10 (fun _ => bX12_manyIn_60 ⟨_, rfl, s, rfl, rfl, ?_⟩) (fun z => absurd (by rw [e1]; exact nI_le (by omega) (by omega)) z)
      rw [← hacc]; rfl
    | succ d ih =>
      intro i acc hd hi9 hacc
      have hlt : i < KM.length := by omega
      obtain ⟨x, hx⟩ : ∃ x, KM[i]? = some x := ⟨_, List.getElem?_eq_getElem hlt⟩
      obtain ⟨x1, x2, x3⟩ := e3 _ _ hx
      refine mX12_manyIn_10 (fun z => absurd z (by rw [e1]; exact nI_ge hlt (by omega))) (fun _ => ?_)
      refine mX12_manyIn_19 (m_ii (by omega) (by omega)) (fun c1 => ?_) (fun c1 => ?_)
      · rw [nI_clamp (by omega), x1] at c1
        have c2 := (lX_lt hhi (by omega)).mp c1
        rw [rs_stop e4 hx (by omega)] at hacc
        refine bX12_manyIn_60 ⟨_, rfl, s, rfl, rfl, ?_⟩
        rw [← hacc]; rfl
      · rw [nI_clamp (by omega), x1] at c1
        have c2 : ¬ hi < x.1 := fun z => c1 ((lX_lt hhi (by omega)).mpr z)
        refine mX12_manyIn_31 (by rw [e0]; exact c_X12_hasAt ok hk hx (by omega)) ?_
        rintro _ _ ⟨hr, rfl⟩
        rw [hr]
        refine bX12_manyIn_43 (fun c3 => ?_) (fun c3 => ?_)
        · rw [kB_0] at c3
          refine bX12_manyIn_50 (bX12_manyIn_51 ?_)
          rw [nI_1, show (0 : Int32) = nI 0 from rfl, nI_add]
          rw [rs_skip hx c3] at hacc
          exact ih (i + 1) (acc + 0) (by omega) (by omega) hacc
        · rw [kB_n0] at c3
          refine bX12_manyIn_46 (bX12_manyIn_51 ?_)
          rw [nI_1, nI_1]
          rw [rs_take hx (by omega) c3, List.length_cons] at hacc
          exact ih (i + 1) (acc + 1) (by omega) (by omega) (by omega)
  exact key _ (r_pl lo KM) 0 rfl (r_pl_le _ _) (by rw [rs_start e4]; omega)
theorem c_X12_clears (ok : k_ok G l) {b : Nat} {s : m_S} {h : k_H} {KM : List k_K2} {L : List k_E4} {WS : List (Nat × Nat × Nat)} {n lo hi : Nat} (hk : m_st s KM L n) (hw : m_rg s WS) (hlo : lo < 2 ^ 62) (hhi : hi < 2 ^ 61) (hW : WS.length < 8192)
    (hL : L.length + (r_flt lo (hi + 1) (fun c => (r_val c n L).isSome) KM).length ≤ 420000) :
    k_ctv (tX12_clears G l) [vR (some b), vJ (lN lo), vJ (lN hi)] (m_hp b s h) (m_pv b h (fun s1 => m_st s1 KM (r_pus n ((r_flt lo (hi + 1) (fun c => (r_val c n L).isSome) KM).map (fun x => (x.1, none))) L) n ∧ m_rg s1 (WS ++ [(lo, hi + 1, n)]) ∧ m_fr [2, 5, 10] [1, 2, 3, 4, 5, 6, 7, 8, 9] s s1)) := by
  refine k_ctv_of (eX12_clears ok.2 (mX12_clears_0 (c_X12_placeOf ok hk.1 hlo) ?_))
  rintro _ _ ⟨hr, rfl⟩
  rw [hr]
  refine bX12_clears_5 ?_
  have fin : ∀ (r : m_S) (M : List k_E4), m_st r KM M n → m_rg r WS → m_fr [2, 5] [1, 2, 3, 4, 5, 6] s r → M = r_pus n ((r_flt lo (hi + 1) (fun c => (r_val c n L).isSome) KM).map (fun x => (x.1, none))) L →
      k_X (jX12_clears G l (m_hp b s h)) (m_hp b r h) 60 [(0, vR (some b)), (1, vJ (lN lo)), (3, vJ (lN hi))] [] (q_v (m_pv b h (fun s1 => m_st s1 KM (r_pus n ((r_flt lo (hi + 1) (fun c => (r_val c n L).isSome) KM).map (fun x => (x.1, none))) L) n ∧ m_rg s1 (WS ++ [(lo, hi + 1, n)]) ∧ m_fr [2, 5, 10] [1, 2, 3, 4, 5, 6, 7, 8, 9] s s1))) := by
    intro r M hm hr hf he
    obtain ⟨w1, w2, w3⟩ := hr
    have y : vp_in (r.1 10) 8192 := by rw [w1]; exact m_ii hW (by omega)
    refine mX12_clears_60 y (mX12_clears_73 y (mX12_clears_83 y (mX12_clears_93 (bX12_clears_103 ⟨rfl, _, rfl, ?_, ?_, ?_⟩))))
    · rw [← he]
      refine m_st_fr (A := [10]) (B := [7, 8, 9]) hm ⟨fun k hk9 => ?_, fun i hi9 => ?_⟩ (by simp) (fun i h1 h2 => by simp; omega)
      · show (if k = 10 then _ else r.1 k) = _
        rw [if_neg (by simpa using hk9)]
      · simp only [List.mem_cons, List.not_mem_nil, or_false, not_or] at hi9
        show (if i = 7 then _ else r.2.1 i) = _ ∧ (if i = 9 then _ else if i = 8 then _ else r.2.2 i) = _
        rw [if_neg hi9.1, if_neg hi9.2.2, if_neg hi9.2.1]
        exact ⟨rfl, rfl⟩
    · have ec : (nI WS.length).toNatClampNeg = WS.length := nI_clamp (by omega)
      refine ⟨?_, by simp; omega, fun i w hw9 => ?_⟩
      · show r.1 10 + 1 = _
        rw [w1, nI_1, List.length_append]
        rfl
      · show va_up (r.2.1 7) (r.1 10).toNatClampNeg (r.1 0) i = nI w.2.2 ∧ va_up (r.2.2 8) (r.1 10).toNatClampNeg (lN lo) i = lN w.1 ∧ va_up (r.2.2 9) (r.1 10).toNatClampNeg (lN hi) i = lN (w.2.1 - 1) ∧ _
        rw [w1, ec]
        by_cases e : i < WS.length
        · rw [List.getElem?_append_left e] at hw9
          rw [va_up_ne _ _ (by omega), va_up_ne _ _ (by omega), va_up_ne _ _ (by omega)]
          exact w3 _ _ hw9
        · have hi8 : i = WS.length := by
            have := (List.getElem?_eq_some_iff.mp hw9).1
            simp at this
            omega
          rw [hi8] at hw9 ⊢
          simp at hw9
          subst hw9
          rw [va_up_self, va_up_self, va_up_self]
          exact ⟨hm.2.2.2.2.1, rfl, rfl, hlo, Nat.succ_pos _, by show hi + 1 < 2 ^ 62; omega⟩
    · refine ⟨fun k hk9 => ?_, fun i hi9 => ?_⟩
      · simp only [List.mem_cons, List.not_mem_nil, or_false, not_or] at hk9
        show (if k = 10 then _ else r.1 k) = _
        rw [if_neg hk9.2.2]
        exact hf.1 k (by simp [hk9.1, hk9.2.1])
      · simp only [List.mem_cons, List.not_mem_nil, or_false, not_or] at hi9
        show (if i = 7 then _ else r.2.1 i) = _ ∧ (if i = 9 then _ else if i = 8 then _ else r.2.2 i) = _
        rw [if_neg hi9.2.2.2.2.2.2.1, if_neg hi9.2.2.2.2.2.2.2.2, if_neg hi9.2.2.2.2.2.2.2.1]
        exact hf.2 i (by simp [hi9])
  have key : ∀ (d i : Nat) (r : m_S) (M : List k_E4), KM.length - i = d → i ≤ KM.length → m_st r KM M n → m_rg r WS → m_fr [2, 5] [1, 2, 3, 4, 5, 6] s r → (∀ (j : Nat) (x : k_K2), i ≤ j → KM[j]? = some x → r_val x.1 n M = r_val x.1 n L) →
      M.length + (r_rem (hi + 1) (fun c => (r_val c n L).isSome) KM i).length ≤ 420000 →
      r_pus n ((r_rem (hi + 1) (fun c => (r_val c n L).isSome) KM i).map (fun x => (x.1, none))) M = r_pus n ((r_flt lo (hi + 1) (fun c => (r_val c n L).isSome) KM).map (fun x => (x.1, none))) L →
      k_X (jX12_clears G l (m_hp b s h)) (m_hp b r h) 7 [(0, vR (some b)), (1, vJ (lN lo)), (3, vJ (lN hi)), (5, vI (nI i))] [] (q_v (m_pv b h (fun s1 => m_st s1 KM (r_pus n ((r_flt lo (hi + 1) (fun c => (r_val c n L).isSome) KM).map (fun x => (x.1, none))) L) n ∧ m_rg s1 (WS ++ [(lo, hi + 1, n)]) ∧ m_fr [2, 5, 10] [1, 2, 3, 4, 5, 6, 7, 8, 9] s s1))) := by
    intro d
    induction d with
    | zero =>
      intro i r M hd hi9 hm hr hf hv hlen hp
      obtain ⟨⟨e1, e2, e3, e4⟩, -⟩ := id hm
      rw [rs_end (by omega)] at hp
      exact mX12_clears_7 (fun _ => fin r M hm hr hf hp) (fun z => absurd (by rw [e1]; exact nI_le (by omega) (by omega)) z)
    | succ d ih =>
      intro i r M hd hi9 hm hr hf hv hlen hp
      obtain ⟨⟨e1, e2, e3, e4⟩, -, -, -, e0, en, -, -⟩ := id hm
      have hlt : i < KM.length := by omega
      obtain ⟨x, hx⟩ : ∃ x, KM[i]? = some x := ⟨_, List.getElem?_eq_getElem hlt⟩
      obtain ⟨x1, x2, x3⟩ := e3 _ _ hx
      refine mX12_clears_7 (fun z => absurd z (by rw [e1]; exact nI_ge hlt (by omega))) (fun _ => ?_)
      refine mX12_clears_16 (m_ii (by omega) (by omega)) (fun c1 => ?_) (fun c1 => ?_)
      · rw [nI_clamp (by omega), x1] at c1
        have c2 := (lX_lt (by omega) (by omega)).mp c1
        rw [rs_stop e4 hx (by omega)] at hp
        exact fin r M hm hr hf hp
      · rw [nI_clamp (by omega), x1] at c1
        have c2 : ¬ hi < x.1 := fun z => c1 ((lX_lt (by omega) (by omega)).mpr z)
        refine mX12_clears_28 (by rw [e0]; exact c_X12_hasAt ok hm hx (by omega)) ?_
        rintro _ _ ⟨hr9, rfl⟩
        rw [hr9, hv i x (Nat.le_refl _) hx]
        refine bX12_clears_38 (fun c3 => ?_) (fun c3 => ?_)
        · rw [kB_0] at c3
          refine bX12_clears_54 ?_
          rw [nI_1]
          rw [rs_skip hx c3] at hp hlen
          exact ih (i + 1) r M (by omega) (by omega) hm hr hf (fun j y hj hy => hv j y (by omega) hy) hlen hp
        · rw [kB_n0] at c3
          rw [rs_take hx (by omega) c3] at hp hlen
          rw [List.length_cons] at hlen
          have hmem : (x.1, x.2) ∈ KM := List.mem_of_getElem? hx
          refine mX12_clears_41 (m_ii (by omega) (by omega)) (by
            rw [nI_clamp (by omega), x1]
            exact c_X12_puts ok (c := x.1) (o := none) hm x3 (by rw [m_ins_in e4 hmem]; exact e2) (by omega)) ?_
          rintro r2 ⟨hm2, hf2⟩
          rw [m_ins_in e4 hmem] at hm2
          refine bX12_clears_54 ?_
          rw [nI_1]
          refine ih (i + 1) r2 _ (by omega) (by omega) hm2 (m_rg_fr hr hf2 (by simp) (by simp)) (m_fr_trans hf hf2) (fun j y hj hy => ?_) ?_ hp
          · rw [r_val_cons, if_neg, hv j y (by omega) hy]
            rintro ⟨z, -⟩
            have := r_srt e4 (i := i) (j := j) (by omega) hx hy
            simp only at z
            omega
          · simp only [List.length_cons]
            omega
  exact key _ (r_pl lo KM) s L rfl (r_pl_le _ _) hk hw (m_fr_refl _ _ _) (fun _ _ _ _ => rfl) (by rw [rs_start hk.1.2.2.2]; exact hL) (by rw [rs_start hk.1.2.2.2])
end MR
