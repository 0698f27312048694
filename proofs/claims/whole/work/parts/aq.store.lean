/-! THE STORE'S INVARIANT, behind each commit -/
theorem z_Vadv {K : List k_K2} {L : List k_E4} {n m : Nat} (h : ∀ x ∈ L, x.2.2.1 ≤ n) (hnm : n ≤ m) : m_V K m L = m_V K n L := by
  unfold m_V
  have e : (fun x : k_K2 => (r_val x.1 m L).isSome) = (fun x : k_K2 => (r_val x.1 n L).isSome) := funext (fun x => by rw [r_val_adv h hnm])
  rw [e]
theorem zP_i2 {n k m f : Nat} {A : Nat → Int32 → Prop} {B : Nat → Prop} {E E' : e_S} (z : z_P n A B E E' k m f) (I : i_2 n E) : i_2 n E' :=
  zP_ind z (fun F => i_2 n F) (fun F c o h _ _ => i2_put h) (fun F lo hi h h1 h2 => by
    refine ⟨h.1, h.2.1, fun w hw => ?_, ?_⟩
    · have hw' : w ∈ F.2.2 ++ [(lo, hi, n)] := hw
      rcases List.mem_append.mp hw' with q | q
      · exact h.2.2.1 w q
      · have : w = (lo, hi, n) := by simpa using q
        rw [this]
        exact ⟨h1, h2, Nat.le_refl _⟩
    · show (F.2.2 ++ [(lo, hi, n)]).Pairwise _
      refine List.pairwise_append.mpr ⟨h.2.2.2, List.pairwise_singleton _ _, fun x hx y hy => ?_⟩
      have : y = (lo, hi, n) := by simpa using hy
      rw [this]
      exact (h.2.2.1 x hx).2.2) I
def i_S (W S R V Vs : List Nat) (i s b C X Np : Nat) (M : s_M) : Prop :=
  (i_2M M ∧ i_K (g_E M)) ∧
  ((∀ x ∈ (g_E M).2.1, y_E W R x.2.1 x.2.2.2) ∧ (∀ x ∈ (g_E M).1, y_K x.1) ∧ (∀ x ∈ (g_E M).1, x.1 / 121000000 = 996 → ∃ v ∈ Vs, s_dig x.1 1 = v + 1000) ∧ (∀ v ∈ Vs, v ≤ g_n M) ∧ Vs.length ≤ C) ∧
  i_V W S R V (g_n M) (g_E M).2.1 (g_MK M) ∧
  (p_gd (g_PT M) ∧ g_PT M ≠ [] ∧ 2 * (g_PT M).length ≤ (g_V M).length + 2 ∧ 8 * Np + 2 * p_ps (g_V M) (g_PT M) ≤ z_T (g_n M) (g_E M)) ∧
  ((g_E M).1.length ≤ 22 * i ∧ (g_E M).2.2.length ≤ 12 * i) ∧
  i_T s b C X (W.length + 2 * R.length) (g_E M).2.1.length (g_V M).length
theorem S_gen {W S R V Vs S' V' Vs' : List Nat} {i s b C X Np s' b' C' X' k m f : Nat} {M : s_M} {E' : e_S} {A : Nat → Int32 → Prop} {B : Nat → Prop} (I : i_S W S R V Vs i s b C X Np M)
    (z : z_P (g_n M + 1) A B (g_E M) E' k m f) (hc : z_cd A B) (hA : ∀ c v, A c v → y_K c ∧ y_E W R c (some v) ∧ (c / 121000000 = 996 → ∃ v ∈ Vs', s_dig c 1 = v + 1000))
    (hs : (∀ v ∈ Vs, v ∈ Vs') ∧ (∀ v ∈ Vs', v ≤ g_n M + 1) ∧ Vs'.length ≤ C') (hV : i_V W S' R V' (g_n M + 1) E'.2.1 (g_MK M)) (hm : m ≤ 12) (hf : f ≤ 22)
    (hT : i_T s' b' C' X' (W.length + 2 * R.length) E'.2.1.length (m_V E'.1 (g_n M + 1) E'.2.1).length) : i_S W S' R V' Vs' (i + 1) s' b' C' X' (Np + g_sp M E') (g_cm M E') := by
  obtain ⟨⟨i2, iK⟩, ⟨l1, l2, l3, l4, l5⟩, iV, ⟨p1, p2, p3, p4⟩, ⟨n1, n2⟩, iT⟩ := I
  obtain ⟨q1, q2, q3, q4, q5⟩ := zP_num z hc iK p1.1
  have iK' := zP_iK z hc iK
  have eV : m_V (g_E M).1 (g_n M + 1) (g_E M).2.1 = g_V M := z_Vadv i2.2.1 (Nat.le_succ _)
  have eT : z_T (g_n M + 1) (g_E M) = z_T (g_n M) (g_E M) := by unfold z_T; rw [eV]; rfl
  obtain ⟨a1, a2, a3, a4⟩ := arr_gd (V := m_V E'.1 (g_n M + 1) E'.2.1) (p_srt (p := fun c => (r_val c (g_n M + 1) E'.2.1).isSome) iK'.1) (fun x hx => by
    obtain ⟨y, hy, rfl⟩ := List.mem_map.mp hx
    exact iK'.2.2 y (List.mem_filter.mp hy).1) p1 p2
  refine ⟨⟨zP_i2 z (i2_mono i2 (Nat.le_succ _)), iK'⟩, ⟨?_, ?_, ?_, hs.2.1, hs.2.2⟩, hV, ⟨a1, a2, a3, ?_⟩, ⟨?_, ?_⟩, hT⟩
  · exact zP_log z (fun c o => y_E W R c o) (fun c v a => (hA c v a).2.1) (fun c f h => by cases h) l1
  · intro x hx
    rcases zP_key z (c := x.1) ⟨x.2, hx⟩ with ⟨q, h⟩ | ⟨w, h⟩ | h
    · exact l2 (x.1, q) h
    · exact (hA _ w h).1
    · exact h.1
  · intro x hx hx6
    rcases zP_key z (c := x.1) ⟨x.2, hx⟩ with ⟨q, h⟩ | ⟨w, h⟩ | h
    · obtain ⟨v, hv, e⟩ := l3 (x.1, q) h hx6
      exact ⟨v, hs.1 v hv, e⟩
    · exact (hA _ w h).2.2 hx6
    · exact absurd hx6 h.2
  · rw [eV] at q5
    have e1 : g_V (g_cm M E') = m_V E'.1 (g_n M + 1) E'.2.1 := rfl
    have e2 : g_PT (g_cm M E') = p_arr (m_V E'.1 (g_n M + 1) E'.2.1) (g_PT M) := rfl
    have e3 : z_T (g_n (g_cm M E')) (g_E (g_cm M E')) = z_T (g_n M + 1) E' := rfl
    rw [e1, e2, e3]
    unfold g_sp
    generalize (p_split (m_V E'.1 (g_n M + 1) E'.2.1) ((g_PT M).length + (m_V E'.1 (g_n M + 1) E'.2.1).length) [] (g_PT M)).length - (g_PT M).length = d at a4 ⊢
    omega
  · show E'.1.length ≤ 22 * (i + 1)
    omega
  · show E'.2.2.length ≤ 12 * (i + 1)
    omega
theorem S_T {W S R V Vs : List Nat} {i s b C X Np : Nat} {M : s_M} (I : i_S W S R V Vs i s b C X Np M) (hn : g_n M < 9000) : (S = [] → (g_V M).length ≤ W.length + 2 * R.length) ∧ (g_V M).length ≤ W.length + S.length + R.length := by
  have := ln_n I.1.2 I.2.2.1 hn
  refine ⟨fun h => ?_, this⟩
  rw [h] at this
  have e : (m_V (g_E M).1 (g_n M) (g_E M).2.1).length = (g_V M).length := rfl
  rw [e, List.length_nil] at this
  omega
/-- a commit-like call -/
theorem S_cm {W S R V Vs S' V' : List Nat} {i s b C X Np k m f e : Nat} {M : s_M} {E' : e_S} {A : Nat → Int32 → Prop} {B : Nat → Prop} (I : i_S W S R V Vs i s b C X Np M) (hn : g_n M < 9000) (hS0 : s = 0 → S = [])
    (z : z_P (g_n M + 1) A B (g_E M) E' k m f) (hc : z_cd A B) (hA : ∀ c v, A c v → y_K c ∧ y_E W R c (some v) ∧ (c / 121000000 = 996 → s_dig c 1 = g_n M + 1 + 1000))
    (hV : i_V W S' R V' (g_n M + 1) E'.2.1 (g_MK M)) (hk : k ≤ 42 + e) (hm : m ≤ 12) (hf : f ≤ 22) : i_S W S' R V' ((g_n M + 1) :: Vs) (i + 1) (s + 1) b (C + 1) (X + e) (Np + g_sp M E') (g_cm M E') := by
  refine S_gen I z hc (fun c v a => ?_) ⟨fun v hv => List.mem_cons_of_mem _ hv, fun v hv => ?_, ?_⟩ hV hm hf ?_
  · obtain ⟨h1, h2, h3⟩ := hA c v a
    exact ⟨h1, h2, fun z => ⟨_, List.mem_cons_self, h3 z⟩⟩
  · rcases List.mem_cons.mp hv with rfl | hv
    · exact Nat.le_refl _
    · exact Nat.le_succ_of_le (I.2.1.2.2.2.1 v hv)
  · rw [List.length_cons]; exact Nat.add_le_add_right I.2.1.2.2.2.2 1
  · have q := zP_num z hc I.1.2 I.2.2.2.1.1.1
    have eV : m_V (g_E M).1 (g_n M + 1) (g_E M).2.1 = g_V M := z_Vadv I.1.1.2.1 (Nat.le_succ _)
    refine iT_cm I.2.2.2.2.2 (fun h => (S_T I hn).1 (hS0 h)) ?_ hk
    have q1 := q.1
    unfold z_T at q1
    rw [eV] at q1
    exact q1
/-! .. bringing back -/
theorem fold_len {n : Nat} {g : k_K2 → Option Int32} : ∀ (X : List k_K2) (E : e_S), (X.foldl (fun F y => e_put n y.1 (g y) F) E).2.1.length = E.2.1.length + X.length := by
  intro X
  induction X with
  | nil => intro E; rfl
  | cons x X ih =>
    intro E
    rw [List.foldl_cons, ih, List.length_cons]
    show E.2.1.length + 1 + X.length = _
    omega
theorem fold_val {n c : Nat} {g : Nat → Option Int32} : ∀ (X : List k_K2) (E : e_S), (r_val c n (X.foldl (fun F y => e_put n y.1 (g y.1) F) E).2.1) = if (X.any (fun x => decide (x.1 = c))) = true then g c else r_val c n E.2.1 := by
  intro X
  induction X with
  | nil => intro E; rfl
  | cons x X ih =>
    intro E
    rw [List.foldl_cons, ih, List.any_cons, put_val]
    by_cases h : (X.any (fun x => decide (x.1 = c))) = true
    · rw [if_pos h, if_pos (by rw [h, Bool.or_true])]
    · rw [if_neg h]
      by_cases e : x.1 = c
      · rw [if_pos ⟨e, Nat.le_refl _⟩, if_pos (by rw [decide_eq_true e, Bool.true_or]), e]
      · rw [if_neg (fun z => e z.1), if_neg (by rw [decide_eq_false e, Bool.false_or]; exact h)]
theorem dif_no {c v n : Nat} {L : List k_E4} (h : bb_oth L n v c = false) : r_val c n L = r_val c v L := by
  unfold bb_oth bb_dif at h
  cases e1 : r_val c n L with
  | some x =>
    cases e2 : r_val c v L with
    | some y =>
      rw [e1, e2] at h
      simp only [Option.isSome_some, decide_true, Bool.not_true, Bool.false_or, Bool.not_eq_false', decide_eq_true_eq] at h
      have h' : y = x := h
      rw [h']
    | none => rw [e1, e2] at h; simp at h
  | none =>
    cases e2 : r_val c v L with
    | some y => rw [e1, e2] at h; simp at h
    | none => rfl
theorem bb_val {M : s_M} {v c : Nat} (K : i_K (g_E M)) (hv : ∀ x ∈ (g_E M).2.1, x.2.2.1 ≤ g_n M) : r_val c (g_n M + 1) (bb_E M v).2.1 = r_val c v (g_E M).2.1 := by
  unfold bb_E
  rw [fold_val (g := fun c => r_val c v (g_E M).2.1)]
  split
  · rfl
  · rename_i h
    rw [r_val_adv hv (Nat.le_succ _)]
    by_cases e : bb_oth (g_E M).2.1 (g_n M) v c = true
    · obtain ⟨a, ha⟩ : z_nm c (g_E M).1 := by
        rcases dif_or e with q | q
        · exact val_in K.2.1 q
        · exact val_in K.2.1 q
      refine absurd (List.any_eq_true.mpr ⟨(c, a), ?_, decide_eq_true rfl⟩) h
      exact List.mem_filter.mpr ⟨ha, e⟩
    · exact dif_no (by simpa using e)
def bA (M : s_M) (v c : Nat) (w : Int32) : Prop := z_nm c (g_E M).1 ∧ r_val c v (g_E M).2.1 = some w
def bB (M : s_M) (c : Nat) : Prop := z_nm c (g_E M).1
theorem zP_back {M : s_M} {v : Nat} (K : i_K (g_E M)) : z_P (g_n M + 1) (bA M v) (bB M) (g_E M) (bb_E M v) (2 * (bb_list M v).length) 0 0 ∧ z_cd (bA M v) (bB M) := by
  have hc : z_cd (bA M v) (bB M) := ⟨fun c w h => by obtain ⟨⟨a, h⟩, -⟩ := h; exact K.2.2 _ h, fun c h => by obtain ⟨a, h⟩ := h; exact K.2.2 _ h⟩
  refine ⟨?_, hc⟩
  have := zP_fold (n := g_n M + 1) (A := bA M v) (B := bB M) (g := fun F y => e_put (g_n M + 1) y.1 (r_val y.1 v (g_E M).2.1) F) (k := 2) (m := 0) (f := 0) hc (bb_list M v) (g_E M) K (fun x hx F _ hk => by
    have hm : z_nm x.1 (g_E M).1 := ⟨x.2, (List.mem_filter.mp hx).1⟩
    cases e : r_val x.1 v (g_E M).2.1 with
    | none => exact zP_mono (zP_n hm (hk _ hm)) (by decide) (Nat.le_refl _) (Nat.le_refl _)
    | some w => exact zP_s ⟨hm, e⟩ (hk _ hm))
  rw [Nat.zero_mul] at this
  exact this
theorem S_back {W S R V Vs : List Nat} {i s b C X Np v : Nat} {M : s_M} (I : i_S W S R V Vs i s b C X Np M) (hn : g_n M < 8999) (hS0 : s = 0 → S = []) (hM : ∀ u ∈ g_MK M, u ≤ g_n M) (hv : v ∈ g_MK M) :
    i_S W [] R V Vs (i + 1) 0 (b + (if s = 0 then 1 else 2)) C X (Np + g_sp M (bb_E M v)) (g_cm M (bb_E M v)) := by
  obtain ⟨z, hc⟩ := zP_back (M := M) (v := v) I.1.2
  have hl := I.1.1.2.1
  refine S_gen I z hc (fun c w a => ?_) ⟨fun v hv => hv, fun v hv => Nat.le_succ_of_le (I.2.1.2.2.2.1 v hv), I.2.1.2.2.2.2⟩ (iV_back I.2.2.1 hv hM (fun c => bb_val I.1.2 hl) (fun c u hu => zP_ext z (by omega))) (Nat.zero_le _) (Nat.zero_le _) ?_
  · obtain ⟨⟨q, h1⟩, h2⟩ := a
    obtain ⟨x, hx, e1, -, e3⟩ := val_mem h2
    have h3 := I.2.1.1 x hx
    rw [e1, e3] at h3
    exact ⟨I.2.1.2.1 _ h1, h3, fun h6 => I.2.1.2.2.1 _ h1 h6⟩
  · have e : (bb_E M v).2.1.length = (g_E M).2.1.length + (bb_list M v).length := fold_len _ _
    rw [e]
    refine iT_back I.2.2.2.2.2 (fun h => ?_) ?_
    · have J := I.2.2.1
      rw [hS0 h] at J
      exact ln_b2 I.1.2 J (by omega) hv
    · have h1 := ln_b1 (M := M) (v := v)
      have h2 := ln_m I.1.2 I.2.2.1 (by omega) hv
      have e2 : (m_V (g_E M).1 (g_n M) (g_E M).2.1).length = (g_V M).length := rfl
      omega
/-! .. steps that leave the log -/
theorem S_same {W S R V Vs W' R' : List Nat} {i i' s b C X Np : Nat} {M M' : s_M} (I : i_S W S R V Vs i s b C X Np M) (hi : i ≤ i') (hW : ∀ c ∈ W, c ∈ W') (hR : ∀ c ∈ R, c ∈ R') (hk : ∀ k ∈ R', k < 100) (hWl : W.length ≤ W'.length) (hRl : R.length ≤ R'.length) (e1 : g_n M' = g_n M) (e2 : (g_E M').2 = (g_E M).2) (e3 : g_MK M' = g_MK M) (e4 : g_PT M' = g_PT M)
    (hK : i_K (g_E M')) (hk2 : ∀ x ∈ (g_E M').1, z_nm x.1 (g_E M).1 ∨ (y_K x.1 ∧ ¬ x.1 / 121000000 = 996)) (hkl : (g_E M').1.length ≤ 22 * i') (hv : g_V M' = g_V M) : i_S W' S R' V Vs i' s b C X Np M' := by
  obtain ⟨⟨i2, iK⟩, ⟨l1, l2, l3, l4, l5⟩, iV, ⟨p1, p2, p3, p4⟩, ⟨n1, n2⟩, iT⟩ := I
  refine ⟨⟨?_, hK⟩, ⟨?_, ?_, ?_, ?_, l5⟩, ?_, ⟨?_, ?_, ?_, ?_⟩, ⟨hkl, ?_⟩, ?_⟩
  · show i_2 (g_n M') (g_E M')
    unfold i_2
    rw [e1, e2]
    exact i2
  · rw [e2]
    exact fun x hx => yE_mono hW hR (l1 x hx)
  · intro x hx
    rcases hk2 x hx with ⟨q, h⟩ | h
    · exact l2 (x.1, q) h
    · exact h.1
  · intro x hx h6
    rcases hk2 x hx with ⟨q, h⟩ | h
    · exact l3 (x.1, q) h h6
    · exact absurd h6 h.2
  · rw [e1]; exact l4
  · rw [e1, e2, e3]
    exact iV_mono iV hW hR hk
  · rw [e4]; exact p1
  · rw [e4]; exact p2
  · rw [e4, hv]; exact p3
  · have : z_T (g_n M') (g_E M') = z_T (g_n M) (g_E M) := by
      show (g_E M').2.1.length + (g_V M').length = (g_E M).2.1.length + (g_V M).length
      rw [e2, hv]
    rw [this, e4, hv]
    exact p4
  · rw [e2]; omega
  · rw [e2, hv]
    exact iT_y iT (by omega)
theorem S_adv {W S R V Vs : List Nat} {i s b C X Np k g : Nat} {M : s_M} (I : i_S W S R V Vs i s b C X Np M) : i_S W S R V Vs (i + 1) s b C X Np (g_adv M k g) := by
  obtain ⟨⟨i2, iK⟩, ⟨l1, l2, l3, l4, l5⟩, iV, ⟨p1, p2, p3, p4⟩, ⟨n1, n2⟩, iT⟩ := I
  have hv : g_V (g_adv M k g) = g_V M := z_Vadv i2.2.1 (Nat.le_add_right _ _)
  refine ⟨⟨i2_adv i2, iK⟩, ⟨l1, l2, l3, fun v hv => Nat.le_trans (l4 v hv) (Nat.le_add_right _ _), l5⟩, iV_adv iV i2.2.1 (Nat.le_add_right _ _), ⟨p1, p2, ?_, ?_⟩, ⟨?_, ?_⟩, ?_⟩
  · rw [hv]; exact p3
  · have : z_T (g_n (g_adv M k g)) (g_E (g_adv M k g)) = z_T (g_n M) (g_E M) := by
      show (g_E M).2.1.length + (g_V (g_adv M k g)).length = (g_E M).2.1.length + (g_V M).length
      rw [hv]
    rw [this, hv]
    exact p4
  · show (g_E M).1.length ≤ _; omega
  · show (g_E M).2.2.length ≤ _; omega
  · rw [hv]; exact iT
theorem S_mark {W S R V Vs : List Nat} {i s b C X Np : Nat} {M : s_M} (I : i_S W S R V Vs i s b C X Np M) : i_S (W ++ S) [] R V Vs (i + 1) 0 (b + 1) C X Np (g_mks M (g_MK M ++ [g_n M])) := by
  obtain ⟨⟨i2, iK⟩, ⟨l1, l2, l3, l4, l5⟩, iV, ⟨p1, p2, p3, p4⟩, ⟨n1, n2⟩, iT⟩ := I
  have hW : ∀ c ∈ W, c ∈ W ++ S := fun c h => List.mem_append.mpr (Or.inl h)
  refine ⟨⟨i2, iK⟩, ⟨fun x hx => yE_mono hW (fun _ h => h) (l1 x hx), l2, l3, l4, l5⟩, iV_mark iV, ⟨p1, p2, p3, p4⟩, ⟨?_, ?_⟩, iT_mark iT ?_⟩
  · show (g_E M).1.length ≤ _; omega
  · show (g_E M).2.2.length ≤ _; omega
  · rw [List.length_append]; omega
