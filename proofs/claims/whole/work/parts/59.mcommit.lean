/-! THE WHOLE STATE, and commits of the reference -/
abbrev s_D : Type := Nat × Option Nat × Nat × Nat
abbrev s_M : Type := (Nat × Nat × Nat × Int32 × Nat) × e_S × (Nat → s_X) × List (Nat × Int32) × List Nat × List p_T × (List s_D × Nat)
abbrev g_n (M : s_M) : Nat := M.1.1
abbrev g_gen (M : s_M) : Nat := M.1.2.1
abbrev g_los (M : s_M) : Nat := M.1.2.2.1
abbrev g_why (M : s_M) : Int32 := M.1.2.2.2.1
abbrev g_ser (M : s_M) : Nat := M.1.2.2.2.2
abbrev g_E (M : s_M) : e_S := M.2.1
abbrev g_X (M : s_M) : Nat → s_X := M.2.2.1
abbrev g_WT (M : s_M) : List (Nat × Int32) := M.2.2.2.1
abbrev g_MK (M : s_M) : List Nat := M.2.2.2.2.1
abbrev g_PT (M : s_M) : List p_T := M.2.2.2.2.2.1
abbrev g_DS (M : s_M) : List s_D × Nat := M.2.2.2.2.2.2
def m_mk (s : m_S) (MK : List Nat) : Prop := s.1 47 = nI MK.length ∧ MK.length ≤ 10 ∧ ∀ (i v : Nat), MK[i]? = some v → s.2.1 34 i = nI v
def m_par (p : Option Nat) : Int32 := match p with
  | some q => nI q
  | none => -2147483648
def m_ds (s : m_S) (D : List s_D × Nat) : Prop := s.1 36 = nI D.2 ∧ D.2 ≤ 1024 ∧ (∀ k, k < D.2 → s.2.1 28 k = kB (D.1.any (fun d => decide (d.1 = k)))) ∧ ∀ d ∈ D.1, d.1 < D.2 ∧ s.2.1 25 d.1 = m_par d.2.1 ∧ s.2.1 26 d.1 = nI d.2.2.1 ∧ s.2.1 27 d.1 = nI d.2.2.2
def m_lo (s : m_S) (los : Nat) : Prop := s.1 30 = kB (decide (los ≠ 0)) ∧ (los = 1 → s.1 31 = 1) ∧ (los = 2 → s.1 31 = 0) ∧ los ≤ 2
def m_M (s : m_S) (M : s_M) : Prop := m_E s (g_E M) (g_n M) ∧ (s.1 1 = nI (g_gen M) ∧ m_lo s (g_los M) ∧ s.1 32 = g_why M ∧ s.1 19 = nI (g_ser M)) ∧ (∀ t, t < 4 → m_tx s t (g_X M t)) ∧ m_wt s (g_WT M) ∧ m_mk s (g_MK M) ∧ m_pt s (g_PT M) ∧ m_ds s (g_DS M)
theorem m_mk_fr {A B : List Nat} {s s1 : m_S} {MK : List Nat} (h : m_mk s MK) (f : m_fr A B s s1) (hA : 47 ∉ A) (hB : 34 ∉ B) : m_mk s1 MK :=
  ⟨(f.1 47 hA).trans h.1, h.2.1, fun i v hv => by rw [(f.2 34 hB).1]; exact h.2.2 i v hv⟩
theorem m_ds_fr {A B : List Nat} {s s1 : m_S} {D : List s_D × Nat} (h : m_ds s D) (f : m_fr A B s s1) (hA : 36 ∉ A) (hB : 25 ∉ B ∧ 26 ∉ B ∧ 27 ∉ B ∧ 28 ∉ B) : m_ds s1 D := by
  obtain ⟨a1, a2, a3, a4⟩ := h
  refine ⟨(f.1 36 hA).trans a1, a2, fun k hk => by rw [(f.2 28 hB.2.2.2).1]; exact a3 k hk, fun d hd => ?_⟩
  rw [(f.2 25 hB.1).1, (f.2 26 hB.2.1).1, (f.2 27 hB.2.2.1).1]
  exact a4 d hd
theorem m_lo_fr {A B : List Nat} {s s1 : m_S} {los : Nat} (h : m_lo s los) (f : m_fr A B s s1) (hA : 30 ∉ A ∧ 31 ∉ A) : m_lo s1 los := by
  unfold m_lo
  rw [f.1 30 hA.1, f.1 31 hA.2]
  exact h
/-- only what nobody looks at was changed -/
theorem m_M_fr {A B : List Nat} {s s1 : m_S} {M : s_M} (h : m_M s M) (f : m_fr A B s s1) (hA : ∀ k ∈ A, k = 33 ∨ k = 34 ∨ k = 35 ∨ k = 52) (hB : ∀ k ∈ B, k = 29 ∨ k = 32 ∨ k = 33) : m_M s1 M := by
  obtain ⟨h1, ⟨h2, h3, h4, h5⟩, h6, h7, h8, h9, h10⟩ := h
  have nA : ∀ k, k ≠ 33 → k ≠ 34 → k ≠ 35 → k ≠ 52 → k ∉ A := fun k a b c d z => by rcases hA k z with e | e | e | e <;> contradiction
  have nB : ∀ k, k ≠ 29 → k ≠ 32 → k ≠ 33 → k ∉ B := fun k a b c z => by rcases hB k z with e | e | e <;> contradiction
  have a := fun k (z : k < 33) => nA k (by omega) (by omega) (by omega) (by omega)
  have b := fun k (z : k < 29) => nB k (by omega) (by omega) (by omega)
  refine ⟨m_E_fr h1 f ⟨a 0 (by omega), a 2 (by omega), a 5 (by omega), a 10 (by omega)⟩ (fun i _ _ => b i (by omega)), ⟨(f.1 1 (a 1 (by omega))).trans h2, m_lo_fr h3 f ⟨a 30 (by omega), a 31 (by omega)⟩, (f.1 32 (a 32 (by omega))).trans h4, (f.1 19 (a 19 (by omega))).trans h5⟩, fun t ht => m_tx_tk (h6 t ht) (m_tk_fr f (fun i _ _ => b i (by omega))), ?_, ?_, ?_, ?_⟩
  · exact m_wt_fr h7 f (nA 42 (by omega) (by omega) (by omega) (by omega)) ⟨nB 30 (by omega) (by omega) (by omega), nB 31 (by omega) (by omega) (by omega)⟩
  · exact m_mk_fr h8 f (nA 47 (by omega) (by omega) (by omega) (by omega)) (nB 34 (by omega) (by omega) (by omega))
  · exact m_pt_fr h9 f (nA 49 (by omega) (by omega) (by omega) (by omega)) ⟨nB 35 (by omega) (by omega) (by omega), nB 36 (by omega) (by omega) (by omega)⟩
  · exact m_ds_fr h10 f (nA 36 (by omega) (by omega) (by omega) (by omega)) ⟨b 25 (by omega), b 26 (by omega), b 27 (by omega), b 28 (by omega)⟩
def g_tx (M : s_M) (t : Nat) (x : s_X) : s_M := (M.1, M.2.1, (fun q => if q = t then x else M.2.2.1 q), M.2.2.2)
/-- the state behind a commit that did E -/
def g_cm (M : s_M) (E : e_S) : s_M := ((g_n M + 1, M.1.2), E, g_X M, (g_WT M).map (m_fire (g_n M) (g_n M + 1) (g_E M).2.1 E.2.1), g_MK M, p_arr (m_V E.1 (g_n M + 1) E.2.1) (g_PT M), g_DS M)
def g_sl (M : s_M) (los : Nat) : s_M := ((g_n M, g_gen M, los, g_why M, g_ser M), M.2)
def g_sw (M : s_M) (w : Int32) : s_M := ((g_n M, g_gen M, g_los M, w, g_ser M), M.2)
def g_ov (x : s_X) : s_X := ((false, x.1.2), [], [])
def g_dn (x : s_X) (n : Nat) : s_X := ((x.1.1, x.1.2.1, x.1.2.2.1, x.1.2.2.2.1, n), x.2)
/-- what parts need for a commit -/
def g_pk (M : s_M) : Prop := (g_PT M).Pairwise (fun x y => x.1 < y.1) ∧ g_PT M ≠ []
def g_ps (M : s_M) (E : e_S) : Prop := (g_PT M).length + (m_V E.1 (g_n M + 1) E.2.1).length / 4 ≤ 4096
def g_wk (M : s_M) : Prop := (g_E M).2.1.Pairwise (fun x y => y.2.2.1 ≤ x.2.2.1) ∧ ∀ w ∈ (g_E M).2.2, w.1 < w.2.1 ∧ w.2.1 < 2 ^ 60 ∧ w.2.2 < 2 ^ 20
section MAP
variable {G : k_G} {l : Launch}
theorem c_X12_applies (ok : k_ok G l) {b : Nat} {s : m_S} {h : k_H} {M : s_M} {t : Nat} (hM : m_M s M) (ht : t < 4) (hn : g_n M + 1 < 9000) (hpk : g_pk M) (hps : g_ps M (e_all (g_n M + 1) (g_X M t).2.1 (g_E M))) (hlim : e_lim (e_all (g_n M + 1) (g_X M t).2.1 (g_E M))) :
    k_ctv (tX12_applies G l) [vR (some b), vI (nI t)] (m_hp b s h) (m_pv b h (fun s1 => m_M s1 (g_cm M (e_all (g_n M + 1) (g_X M t).2.1 (g_E M))) ∧ s1.1 52 = s.1 52)) := by
  obtain ⟨h1, ⟨h2, h3, h4, h5⟩, h6, h7, h8, h9, h10⟩ := id hM
  have hx := h6 t ht
  obtain ⟨q1, q2, q3⟩ := id hx.2.2.1
  have et : (nI t).toNatClampNeg = t := nI_clamp (by omega)
  have yt : vp_in (nI t) 4 := m_ii ht (by omega)
  refine k_ctv_of (eX12_applies ok.2 (mX12_applies_0 (c_X12_opens ok h1.1 h7 (by omega)) ?_))
  rintro s1 ⟨o1, o2, o3⟩
  have hE1 : m_E s1 (g_E M) (g_n M + 1) := ⟨o1, m_rg_fr h1.2 o3 (by simp) (by simp)⟩
  have hfr : ∀ r : m_S, m_fr [2, 5, 10, 33, 34, 35] [1, 2, 3, 4, 5, 6, 7, 8, 9] s1 r → m_ch r t (g_X M t).2.1 := fun r hf => m_ch_fr (m_ch_fr hx.2.2.1 o3 (fun i _ _ => by simp; omega)) hf (fun i _ _ => by simp; omega)
  refine bX12_applies_4 ?_
  have clo : ∀ r : m_S, m_E r (e_all (g_n M + 1) (g_X M t).2.1 (g_E M)) (g_n M + 1) → m_fr [2, 5, 10, 33, 34, 35] [1, 2, 3, 4, 5, 6, 7, 8, 9] s1 r → k_X (jX12_applies G l (m_hp b s h)) (m_hp b r h) 134 [(0, vR (some b))] [] (q_v (m_pv b h (fun s1 => m_M s1 (g_cm M (e_all (g_n M + 1) (g_X M t).2.1 (g_E M))) ∧ s1.1 52 = s.1 52))) := by
    intro r hEr hf
    have hf0 : m_fr [0, 2, 5, 10, 33, 34, 35] [1, 2, 3, 4, 5, 6, 7, 8, 9, 32, 33] s r := m_fr_trans (m_fr_mono o3 (by simp) (by simp)) (m_fr_mono hf (by simp) (by simp))
    refine mX12_applies_134 (c_X12_closes ok hEr.1 (m_wt_fr h7 hf0 (by simp) (by simp)) (m_hw_fr o2 hf (by simp)) (m_pt_fr h9 hf0 (by simp) (by simp)) hpk.1 hpk.2 hps) ?_
    rintro r2 ⟨a1, a2, a3, a4, a5⟩
    have hf2 : m_fr [0, 2, 5, 10, 33, 34, 35, 49] [1, 2, 3, 4, 5, 6, 7, 8, 9, 31, 32, 33, 35, 36] s r2 := m_fr_trans (m_fr_mono hf0 (by simp) (by simp)) (m_fr_mono a5 (by simp) (by simp))
    refine bX12_applies_138 ⟨rfl, r2, rfl, ⟨⟨a1, m_rg_fr hEr.2 a5 (by simp) (by simp)⟩, ⟨(hf2.1 1 (by simp)).trans h2, m_lo_fr h3 hf2 (by simp), (hf2.1 32 (by simp)).trans h4, (hf2.1 19 (by simp)).trans h5⟩, fun u hu => m_tx_tk (h6 u hu) (m_tk_fr hf2 (fun i _ _ => by simp; omega)), a2, m_mk_fr h8 hf2 (by simp) (by simp), a3, m_ds_fr h10 hf2 (by simp) (by simp)⟩, hf2.1 52 (by simp)⟩
  have sts : ∀ (d k : Nat) (r : m_S) (E : e_S), (g_X M t).2.1.length - k = d → k ≤ (g_X M t).2.1.length → m_E r E (g_n M + 1) → m_fr [2, 5, 10, 33, 34, 35] [1, 2, 3, 4, 5, 6, 7, 8, 9] s1 r → ((g_X M t).2.1.drop k).foldl (e_st (g_n M + 1)) E = e_all (g_n M + 1) (g_X M t).2.1 (g_E M) →
      k_X (jX12_applies G l (m_hp b s h)) (m_hp b r h) 59 [(0, vR (some b)), (1, vI (nI t)), (2, vI (nI k))] [] (q_v (m_pv b h (fun s1 => m_M s1 (g_cm M (e_all (g_n M + 1) (g_X M t).2.1 (g_E M))) ∧ s1.1 52 = s.1 52))) := by
    intro d
    induction d with
    | zero =>
      intro k r E hd hk hE hf he
      refine mX12_applies_59 yt (fun _ => clo r ?_ hf) (fun z => absurd (by rw [et, (hfr r hf).1]; exact nI_le (by omega) (by omega)) z)
      rw [← he, List.drop_eq_nil_of_le (by omega)]
      exact hE
    | succ d ih =>
      intro k r E hd hk hE hf he
      have hlt : k < (g_X M t).2.1.length := by omega
      obtain ⟨x, hx9⟩ : ∃ x, (g_X M t).2.1[k]? = some x := ⟨_, List.getElem?_eq_getElem hlt⟩
      obtain ⟨c1, c2, c3⟩ := hfr r hf
      obtain ⟨wf, g16, g17, g18, g19, g20⟩ := c3 _ _ hx9
      have hdrop : (g_X M t).2.1.drop k = x :: (g_X M t).2.1.drop (k + 1) := by
        rw [List.drop_eq_getElem_cons hlt]
        congr 1
        exact (List.getElem?_eq_some_iff.mp hx9).2
      rw [hdrop, List.foldl_cons] at he
      have ek : (nI (4096 * t + k)).toNatClampNeg = 4096 * t + k := nI_clamp (by omega)
      have yk : vp_in (nI (4096 * t + k)) 16384 := m_ii (by omega) (by omega)
      refine mX12_applies_59 yt (fun z => absurd z (by rw [et, c1]; exact nI_ge hlt (by omega))) (fun _ => ?_)
      refine mX12_applies_69 (c_X12_changeAt ok t k) ?_
      rintro _ _ ⟨hr, rfl⟩
      rw [hr]
      have stamp : x.2.1 = 6 → k_X (jX12_applies G l (m_hp b s h)) (m_hp b r h) 98 [(0, vR (some b)), (1, vI (nI t)), (2, vI (nI k)), (3, vI (nI (4096 * t + k)))] [] (q_v (m_pv b h (fun s1 => m_M s1 (g_cm M (e_all (g_n M + 1) (g_X M t).2.1 (g_E M))) ∧ s1.1 52 = s.1 52))) := by
        intro h6k
        have e9 : e_st (g_n M + 1) E x = e_put (g_n M + 1) (e_sc x (g_n M + 1)) (some x.2.2.2.2.1) E := if_pos h6k
        rw [e9] at he
        have hlim2 : e_lim (e_put (g_n M + 1) (e_sc x (g_n M + 1)) (some x.2.2.2.2.1) E) := e_lim_le hlim (by rw [← he]; exact e_le_sts _ _ _)
        have hcv : m_cv x = x.2.2.2.2.1 := by unfold m_cv; rw [if_neg (by rw [h6k]; decide)]
        have er0 : r.1 0 = nI (g_n M + 1) := hE.1.2.2.2.2.1
        refine mX12_applies_98 yk yk (by rw [ek, g17, g16, er0]; exact m_stJ (c_X12_stamped ok wf.2.2.2.2.1 (e_n_na hn))) ?_
        rintro _ _ ⟨hr8, rfl⟩
        rw [hr8]
        refine mX12_applies_118 yk (by rw [ek, g19, hcv]; exact c_e_put ok (c := e_sc x (g_n M + 1)) (o := some x.2.2.2.2.1) hE (by unfold e_sc s_with; exact s_cd_lt (by split; exact e_n_na hn; exact s_no_na _ _) (by split; exact e_n_na hn; exact s_no_na _ _) (by split; exact e_n_na hn; exact s_no_na _ _)) hlim2) ?_
        rintro r2 ⟨p1, p2⟩
        refine bX12_applies_128 ?_
        rw [nI_1]
        exact ih (k + 1) r2 _ (by omega) (by omega) p1 (m_fr_trans hf (m_fr_mono p2 (by simp) (by simp))) he
      have skip : ¬ x.2.1 = 6 → k_X (jX12_applies G l (m_hp b s h)) (m_hp b r h) 128 [(0, vR (some b)), (1, vI (nI t)), (2, vI (nI k))] [] (q_v (m_pv b h (fun s1 => m_M s1 (g_cm M (e_all (g_n M + 1) (g_X M t).2.1 (g_E M))) ∧ s1.1 52 = s.1 52))) := by
        intro h6k
        have e9 : e_st (g_n M + 1) E x = E := if_neg h6k
        rw [e9] at he
        refine bX12_applies_128 ?_
        rw [nI_1]
        exact ih (k + 1) r E (by omega) (by omega) hE hf he
      have hck6 : x.2.1 = 6 ↔ (m_ck x = 6 ∨ m_ck x = 8) := by
        unfold m_ck
        rcases wf.1 with z | z | z | z | z | z | z <;> rw [z]
        · simp
        · split <;> simp
        · simp
        · simp
        · simp
        · simp
        · rw [if_neg (by simp)]
          split <;> simp
      refine mX12_applies_75 yk (fun c4 => ?_) (fun c4 => ?_)
      · rw [ek, g16] at c4
        exact stamp (hck6.mpr (Or.inl c4))
      · rw [ek, g16] at c4
        refine mX12_applies_87 yk (fun c5 => ?_) (fun c5 => ?_)
        · rw [ek, g16] at c5
          exact skip (fun z => (hck6.mp z).elim c4 c5)
        · rw [ek, g16] at c5
          exact stamp (hck6.mpr (Or.inr c5))
  have dos : ∀ (d k : Nat) (r : m_S) (E : e_S), (g_X M t).2.1.length - k = d → k ≤ (g_X M t).2.1.length → m_E r E (g_n M + 1) → m_fr [2, 5, 10, 33, 34, 35] [1, 2, 3, 4, 5, 6, 7, 8, 9] s1 r → ((g_X M t).2.1.drop k).foldl (e_do (g_n M + 1)) E = (g_X M t).2.1.foldl (e_do (g_n M + 1)) (g_E M) →
      k_X (jX12_applies G l (m_hp b s h)) (m_hp b r h) 6 [(0, vR (some b)), (1, vI (nI t)), (2, vI (nI k))] [] (q_v (m_pv b h (fun s1 => m_M s1 (g_cm M (e_all (g_n M + 1) (g_X M t).2.1 (g_E M))) ∧ s1.1 52 = s.1 52))) := by
    intro d
    induction d with
    | zero =>
      intro k r E hd hk hE hf he
      refine mX12_applies_6 yt (fun _ => bX12_applies_57 (sts _ 0 r E rfl (Nat.zero_le _) hE hf ?_)) (fun z => absurd (by rw [et, (hfr r hf).1]; exact nI_le (by omega) (by omega)) z)
      rw [List.drop_eq_nil_of_le (by omega)] at he
      have he2 : E = (g_X M t).2.1.foldl (e_do (g_n M + 1)) (g_E M) := he
      rw [List.drop_zero, he2]
      rfl
    | succ d ih =>
      intro k r E hd hk hE hf he
      have hlt : k < (g_X M t).2.1.length := by omega
      obtain ⟨x, hx9⟩ : ∃ x, (g_X M t).2.1[k]? = some x := ⟨_, List.getElem?_eq_getElem hlt⟩
      obtain ⟨c1, c2, c3⟩ := hfr r hf
      obtain ⟨wf, g16, g17, g18, g19, g20⟩ := c3 _ _ hx9
      have hdrop : (g_X M t).2.1.drop k = x :: (g_X M t).2.1.drop (k + 1) := by
        rw [List.drop_eq_getElem_cons hlt]
        congr 1
        exact (List.getElem?_eq_some_iff.mp hx9).2
      rw [hdrop, List.foldl_cons] at he
      have ek : (nI (4096 * t + k)).toNatClampNeg = 4096 * t + k := nI_clamp (by omega)
      have yk : vp_in (nI (4096 * t + k)) 16384 := m_ii (by omega) (by omega)
      have hlim2 : e_lim (e_do (g_n M + 1) E x) := e_lim_le hlim (by
        refine e_le_trans (F := (g_X M t).2.1.foldl (e_do (g_n M + 1)) (g_E M)) ?_ (e_le_sts _ _ _)
        rw [← he]
        exact e_le_dos _ _ _)
      refine mX12_applies_6 yt (fun z => absurd z (by rw [et, c1]; exact nI_ge hlt (by omega))) (fun _ => ?_)
      refine mX12_applies_16 (c_X12_changeAt ok t k) ?_
      rintro _ _ ⟨hr, rfl⟩
      rw [hr]
      refine mX12_applies_22 yk yk yk yk (by rw [ek, g16, g17, g18, g19]; exact c_X12_does ok hE wf hlim2) ?_
      rintro r2 ⟨p1, p2⟩
      refine bX12_applies_51 ?_
      rw [nI_1]
      exact ih (k + 1) r2 _ (by omega) (by omega) p1 (m_fr_trans hf p2) he
  exact dos _ 0 s1 (g_E M) rfl (Nat.zero_le _) hE1 (m_fr_refl _ _ _) rfl
end MAP
