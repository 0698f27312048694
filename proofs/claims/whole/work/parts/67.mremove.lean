/-! THE REFERENCE REMOVES DIRECTORIES; commits of its own -/
def rm_lo (x : s_D) : Nat := s_lo (nI x.2.2.2) 10000
def rm_hi (x : s_D) : Nat := s_la (nI x.2.2.2) 10000
def rm_cnt (M : s_M) (x : s_D) : Nat := (r_flt (rm_lo x) (rm_hi x + 1) (fun c => (r_val c (g_n M) (g_E M).2.1).isSome) (g_E M).1).length
noncomputable def rm_gone (M : s_M) (d : Nat) : List s_D := (g_DS M).1.filter (fun x => d_bel (g_DS M).1 x.1 d)
noncomputable def rm_many (M : s_M) (d : Nat) : Nat := ((rm_gone M d).map (rm_cnt M)).sum
noncomputable def rm_E (M : s_M) (d : Nat) : e_S := (rm_gone M d).foldl (fun E x => e_clr (g_n M + 1) (rm_lo x) (rm_hi x + 1) E) (g_E M)
noncomputable def rm_D (M : s_M) (d : Nat) : List s_D × Nat := ((g_DS M).1.filter (fun x => !(d_bel (g_DS M).1 x.1 d)), (g_DS M).2)
noncomputable def F_remove (M : s_M) (x : Int32) : s_M × Nat × Int32 :=
  if d_is (g_DS M) x = false then (M, 1, 0) else if x = 0 then (M, 2, 0)
  else (g_dset (if 0 < rm_many M (t_of x) then g_cm M (rm_E M (t_of x)) else M) (rm_D M (t_of x)), 0, nI (rm_many M (t_of x)))
theorem d_root_bel {D : List s_D × Nat} (w : d_wf D) {d : Nat} (h : ¬ d = 0) : d_bel D.1 0 d = false :=
  d_bel_none (fun z => h z.symm) (d_pa_of w.1 w.2.1)
theorem rm_gone_1 {M : s_M} (w : d_wf (g_DS M)) {d : Nat} (h : ¬ d = 0) : (d_ge (g_DS M).1 1).filter (fun x => d_bel (g_DS M).1 x.1 d) = rm_gone M d := by
  rw [d_ge_1 w, List.filter_filter]
  unfold rm_gone
  refine List.filter_congr fun x hx => ?_
  by_cases e : x.1 = 0
  · rw [e, d_root_bel w h]; rfl
  · rw [decide_eq_false e]; simp
section MRM
variable {G : k_G} {l : Launch}
theorem cm_open (ok : k_ok G l) {b : Nat} {s : m_S} {h : k_H} {M : s_M} (hM : m_M s M) (hn : g_n M + 1 < 2 ^ 20) : k_ctv (tX12_opens G l) [vR (some b)] (m_hp b s h) (m_pv b h (fun s1 => m_E s1 (g_E M) (g_n M + 1) ∧ m_hw s1 (g_WT M) (g_n M) (g_E M).2.1 ∧ m_fr [0] [32, 33] s s1)) := by
  obtain ⟨h', T, s1, e, p1, p2, p3⟩ := c_X12_opens ok (h := h) (b := b) hM.1.1 hM.2.2.2.1 hn
  exact ⟨h', T, s1, e, ⟨p1, m_rg_fr hM.1.2 p3 (by simp) (by simp)⟩, p2, p3⟩
theorem cm_close (ok : k_ok G l) {b : Nat} {s s1 r : m_S} {h : k_H} {M : s_M} {E : e_S} (hM : m_M s M) (o2 : m_hw s1 (g_WT M) (g_n M) (g_E M).2.1) (o3 : m_fr [0] [32, 33] s s1) (hE : m_E r E (g_n M + 1)) (hf : m_fr [2, 5, 10, 33, 34, 35] [1, 2, 3, 4, 5, 6, 7, 8, 9] s1 r) (hpk : g_pk M) (hps : g_ps M E) :
    k_ctv (tX12_closes G l) [vR (some b)] (m_hp b r h) (m_pv b h (fun s2 => m_M s2 (g_cm M E) ∧ m_fr [0, 2, 5, 10, 33, 34, 35, 49] [1, 2, 3, 4, 5, 6, 7, 8, 9, 31, 32, 33, 35, 36] s s2)) := by
  obtain ⟨h1, ⟨h2, h3, h4, h5⟩, h6, h7, h8, h9, h10⟩ := hM
  have hf0 : m_fr [0, 2, 5, 10, 33, 34, 35] [1, 2, 3, 4, 5, 6, 7, 8, 9, 32, 33] s r := m_fr_trans (m_fr_mono o3 (by simp) (by simp)) (m_fr_mono hf (by simp) (by simp))
  obtain ⟨h', T, r2, e, a1, a2, a3, a4, a5⟩ := c_X12_closes ok (h := h) (b := b) hE.1 (m_wt_fr h7 hf0 (by simp) (by simp)) (m_hw_fr o2 hf (by simp)) (m_pt_fr h9 hf0 (by simp) (by simp)) hpk.1 hpk.2 hps
  have hf2 : m_fr [0, 2, 5, 10, 33, 34, 35, 49] [1, 2, 3, 4, 5, 6, 7, 8, 9, 31, 32, 33, 35, 36] s r2 := m_fr_trans (m_fr_mono hf0 (by simp) (by simp)) (m_fr_mono a5 (by simp) (by simp))
  exact ⟨h', T, r2, e, ⟨⟨a1, m_rg_fr hE.2 a5 (by simp) (by simp)⟩, ⟨(hf2.1 1 (by simp)).trans h2, m_lo_fr h3 hf2 (by simp), (hf2.1 32 (by simp)).trans h4, (hf2.1 19 (by simp)).trans h5⟩, fun u hu => m_tx_tk (h6 u hu) (m_tk_fr hf2 (fun i _ _ => by simp; omega)), a2, m_mk_fr h8 hf2 (by simp) (by simp), a3, m_ds_fr h10 hf2 (by simp) (by simp)⟩, hf2⟩
theorem e_le_rm (M : s_M) : ∀ (X : List s_D) (E : e_S), e_le E (X.foldl (fun E x => e_clr (g_n M + 1) (rm_lo x) (rm_hi x + 1) E) E) := by
  intro X
  induction X with
  | nil => exact fun E => e_le_refl E
  | cons x t ih => exact fun E => e_le_trans (e_le_clr _ _ _ _) (ih _)
theorem rm_na {x : s_D} (h : x.2.2.2 ≤ 9) : s_na (nI x.2.2.2) := e_n_na (by omega)
theorem c_X12_remove (ok : k_ok G l) {b : Nat} {s : m_S} {h : k_H} {M : s_M} {x : Int32} (hM : m_M s M) (w : d_wf (g_DS M)) (hlen : (g_DS M).1.length ≤ 1024) (hn : g_n M + 1 < 9000) (hpk : g_pk M)
    (hlim : ∀ d, ¬ d = 0 → 0 < rm_many M d → g_ps M (rm_E M d) ∧ e_lim (rm_E M d)) : k_cti (tX12_remove G l) [vR (some b), vI x] (m_hp b s h) (m_p b h (m_R (F_remove M x))) := by
  have hds := hM.2.2.2.2.2.2
  have hD : 0 < (g_DS M).2 := by have := (hds.2.2.2 _ w.2.1).1; omega
  have hlim2 := hds.2.1
  refine k_cti_of (eX12_remove ok.2 (mX12_remove_0 (c_X12_isDirectory ok hds hD) ?_))
  rintro _ _ ⟨hr, rfl⟩
  rw [hr]
  have thr : ∀ k : Nat, ¬ k = 0 → k < 9 → F_remove M x = (M, k, 0) → k_X (jX12_remove G l (m_hp b s h)) (m_hp b s h) 22 [(0, vR (some b)), (1, vI x)] [vI (nI k), vR (some b)] (q_i (m_p b h (m_R (F_remove M x)))) := by
    intro k hk hk9 he
    refine mX12_remove_22 (c_X12_goes ok) ?_
    rintro _ _ ⟨hr, rfl⟩
    rw [hr, he]
    have hne : ¬ nI k = 0 := fun z => hk ((nI_eq (b := 0) (by omega) (by omega)).mp z)
    exact bX12_remove_25 (fun z => absurd (by rw [decide_eq_false hne]; rfl) z) (fun _ => bX12_remove_28 ⟨_, rfl, _, rfl, m_thr hM hk⟩)
  cases hp : d_is (g_DS M) x with
  | false => exact bX12_remove_6 (fun z => absurd rfl z) (fun _ => bX12_remove_9 (thr 1 (by decide) (by decide) (by unfold F_remove; rw [if_pos hp])))
  | true =>
    refine bX12_remove_6 (fun _ => ?_) (fun z => absurd z (by decide))
    refine bX12_remove_13 (fun c0 => ?_) (fun c0 => bX12_remove_17 (thr 2 (by decide) (by decide) (by unfold F_remove; rw [hp, if_neg (by decide), if_pos c0])))
    obtain ⟨ex, hdl, dd, hdd, edd⟩ := t_of_is hds hp
    generalize hd9 : t_of x = d at ex hdl edd
    have hd0 : ¬ d = 0 := fun z => c0 (by rw [ex, z]; rfl)
    have hF : F_remove M x = (g_dset (if 0 < rm_many M d then g_cm M (rm_E M d) else M) (rm_D M d), 0, nI (rm_many M d)) := by unfold F_remove; rw [hp, if_neg (by decide), if_neg c0, hd9]
    rw [hF, ex]
    refine bX12_remove_21 (mX12_remove_22 (c_X12_goes ok) ?_)
    rintro _ _ ⟨hr, rfl⟩
    rw [hr]
    obtain ⟨a1, a2⟩ := m_ok hM
    generalize m_si s 52 0 = s0 at a1 a2
    refine bX12_remove_25 (fun _ => bX12_remove_30 ?_) (fun z => absurd z (by decide))
    obtain ⟨b1, b2, b3, b4⟩ := id a1.2.2.2.2.2.2
    have hcnt : ∀ y : s_D, rm_cnt M y ≤ 12000 := fun y => by
      have := a1.1.1.1.2.1
      exact Nat.le_trans (List.length_filter_le _ _) this
    have hsum : ∀ X : List s_D, (X.map (rm_cnt M)).sum ≤ X.length * 12000 := by
      intro X
      induction X with
      | nil => exact Nat.le_refl _
      | cons y t ih =>
        rw [List.map_cons, List.sum_cons, List.length_cons]
        have := hcnt y
        omega
    have hmb : rm_many M d < 2 ^ 25 := by
      have h1 := hsum (rm_gone M d)
      have h2 : (rm_gone M d).length ≤ (g_DS M).1.length := List.length_filter_le _ _
      unfold rm_many
      omega
    -- the third loop: those that are there
    have loop3 : ∀ (s2 : m_S), m_M s2 (if 0 < rm_many M d then g_cm M (rm_E M d) else M) → s2.1 52 = 0 → (∀ k, 0 < k → k < (g_DS M).2 → s2.2.1 29 k = kB (d_is (g_DS M) (nI k) && d_bel (g_DS M).1 k d)) →
        ∀ (q k : Nat) (r : m_S), (g_DS M).2 - k = q → 0 < k → k ≤ (g_DS M).2 → m_fr [] [28] s2 r → (∀ j, j < (g_DS M).2 → r.2.1 28 j = if 0 < j ∧ j < k then kB (d_is (g_DS M) (nI j) && !(d_bel (g_DS M).1 j d)) else kB (d_is (g_DS M) (nI j))) →
        k_X (jX12_remove G l (m_hp b s h)) (m_hp b r h) 196 [(0, vR (some b)), (2, vI (nI (rm_many M d))), (3, vI (nI k))] [] (q_i (m_p b h (m_R (g_dset (if 0 < rm_many M d then g_cm M (rm_E M d) else M) (rm_D M d), 0, nI (rm_many M d))))) := by
      intro s2 hM2 h52 h29 q
      have eDS : g_DS (if 0 < rm_many M d then g_cm M (rm_E M d) else M) = g_DS M := by split <;> rfl
      have hds2 := hM2.2.2.2.2.2.2
      rw [eDS] at hds2
      induction q with
      | zero =>
        intro k r hq hk0 hk hf hrow
        refine mX12_remove_196 (fun _ => bX12_remove_239 ⟨_, rfl, r, rfl, m_M_ds (A := []) (B := [28]) hM2 ⟨(hf.1 36 (by simp)).trans hds2.1, hds2.2.1, fun j hj => ?_, fun y hy => ?_⟩ hf (by simp) (by simp), (hf.1 52 (by simp)).trans h52, fun _ => rfl⟩) (fun z => absurd (by rw [hf.1 36 (by simp), hds2.1]; exact nI_le (by omega) (by omega)) z)
        · have hj2 : j < (g_DS M).2 := hj
          rw [hrow j hj2]
          have hany : ((rm_D M d).1.any fun y => decide (y.1 = j)) = (d_is (g_DS M) (nI j) && !(d_bel (g_DS M).1 j d)) := by
            unfold rm_D d_is
            rw [List.any_filter, Bool.eq_iff_iff, Bool.and_eq_true, List.any_eq_true, List.any_eq_true]
            constructor
            · rintro ⟨y, hy, he⟩
              simp only [Bool.and_eq_true, decide_eq_true_eq] at he
              obtain ⟨he1, he2⟩ := he
              subst he2
              exact ⟨⟨y, hy, by simp⟩, he1⟩
            · rintro ⟨⟨y, hy, he⟩, hb⟩
              simp only [decide_eq_true_eq] at he
              have hyl := (b4 y hy).1
              have e2 := (nI_eq (by omega) (by omega)).mp he
              exact ⟨y, hy, by rw [e2]; simp [hb]⟩
          rw [hany]
          by_cases e : 0 < j
          · rw [if_pos ⟨e, by omega⟩]
          · rw [if_neg (fun z => e z.1)]
            have ej : j = 0 := by omega
            rw [ej, d_root_bel w hd0]
            simp
        · have hy2 : y ∈ (g_DS M).1 := (List.mem_filter.mp hy).1
          rw [(hf.2 25 (by simp)).1, (hf.2 26 (by simp)).1, (hf.2 27 (by simp)).1]
          exact hds2.2.2.2 y hy2
      | succ q ih =>
        intro k r hq hk0 hk hf hrow
        have yk : vp_in (nI k) 1024 := m_ii (by omega) (by omega)
        have ek : (nI k).toNatClampNeg = k := nI_clamp (by omega)
        have e29 : r.2.1 29 k = kB (d_is (g_DS M) (nI k) && d_bel (g_DS M).1 k d) := by rw [(hf.2 29 (by simp)).1]; exact h29 k hk0 (by omega)
        have e28 : r.2.1 28 k = kB (d_is (g_DS M) (nI k)) := by rw [hrow k (by omega), if_neg (by omega)]
        have wr : ∀ u : Bool, u = (d_is (g_DS M) (nI k) && !(d_bel (g_DS M).1 k d)) → k_X (jX12_remove G l (m_hp b s h)) (m_hp b r h) 232 [(0, vR (some b)), (2, vI (nI (rm_many M d))), (3, vI (nI k))] [vI (kB u), vI (nI k), vR (some (b + 28))] (q_i (m_p b h (m_R (g_dset (if 0 < rm_many M d then g_cm M (rm_E M d) else M) (rm_D M d), 0, nI (rm_many M d))))) := by
          intro u hu
          refine mX12_remove_232 (i9 := 28) rfl (by decide) (by decide) yk (kB_bl _) (bX12_remove_233 ?_)
          rw [nI_1, ek]
          refine ih (k + 1) _ (by omega) (by omega) (by omega) ⟨fun i hi => hf.1 i hi, fun i hi => ?_⟩ (fun j hj => ?_)
          · show (if i = 28 then _ else r.2.1 i) = _ ∧ _
            rw [if_neg (by simpa using hi)]
            exact hf.2 i hi
          · show va_up (r.2.1 28) k (kB u) j = _
            by_cases e : j = k
            · rw [e, va_up_self, if_pos ⟨hk0, by omega⟩, hu]
            · rw [va_up_ne _ _ e, hrow j hj]
              by_cases c : 0 < j ∧ j < k
              · rw [if_pos c, if_pos ⟨c.1, by omega⟩]
              · rw [if_neg c, if_neg (by omega)]
        refine mX12_remove_196 (fun z => absurd z (by rw [hf.1 36 (by simp), hds2.1]; exact nI_ge (by omega) (by omega))) (fun _ => ?_)
        refine mX12_remove_204 yk (fun c1 => ?_) (fun c1 => ?_)
        · rw [ek, e28, kB_0] at c1
          exact bX12_remove_231 (wr false (by rw [c1]; rfl))
        · rw [ek, e28, kB_n0] at c1
          refine mX12_remove_218 yk (fun c2 => ?_) (fun c2 => ?_)
          · rw [ek, e29, c1, Bool.true_and, kB_n0] at c2
            exact bX12_remove_231 (wr false (by rw [c2]; simp))
          · rw [ek, e29, c1, Bool.true_and, kB_0] at c2
            exact bX12_remove_227 (wr true (by rw [c1, c2]; rfl))
    -- the second loop: ranges are cleared
    have loop2 : ∀ (s1 : m_S), m_M s1 M → s1.1 52 = 0 → (∀ k, 0 < k → k < (g_DS M).2 → s1.2.1 29 k = kB (d_is (g_DS M) (nI k) && d_bel (g_DS M).1 k d)) →
        k_X (jX12_remove G l (m_hp b s h)) (m_hp b s1 h) 121 [(0, vR (some b)), (2, vI (nI (rm_many M d)))] [] (q_i (m_p b h (m_R (g_dset (if 0 < rm_many M d then g_cm M (rm_E M d) else M) (rm_D M d), 0, nI (rm_many M d))))) := by
      intro s1 hM1 h52 h29
      have hds1 := hM1.2.2.2.2.2.2
      by_cases hm : 0 < rm_many M d
      · obtain ⟨hps, hle⟩ := hlim d hd0 hm
        have hngt : ¬ nI (rm_many M d) ≤ 0 := nI_ge (a := 0) hm (by omega)
        refine bX12_remove_121 (fun z => absurd z hngt) (fun _ => mX12_remove_125 (cm_open ok hM1 (by omega)) ?_)
        rintro s2 ⟨o1, o2, o3⟩
        refine bX12_remove_129 ?_
        have key : ∀ (q k : Nat) (r : m_S) (E : e_S), (g_DS M).2 - k = q → 0 < k → k ≤ (g_DS M).2 → m_E r E (g_n M + 1) → m_fr [2, 5, 10, 33, 34, 35] [1, 2, 3, 4, 5, 6, 7, 8, 9] s2 r → ((d_ge (g_DS M).1 k).filter (fun x => d_bel (g_DS M).1 x.1 d)).foldl (fun E x => e_clr (g_n M + 1) (rm_lo x) (rm_hi x + 1) E) E = rm_E M d →
            k_X (jX12_remove G l (m_hp b s h)) (m_hp b r h) 131 [(0, vR (some b)), (2, vI (nI (rm_many M d))), (3, vI (nI k))] [] (q_i (m_p b h (m_R (g_dset (if 0 < rm_many M d then g_cm M (rm_E M d) else M) (rm_D M d), 0, nI (rm_many M d))))) := by
          intro q
          induction q with
          | zero =>
            intro k r E hq hk0 hk hE hf he
            have e36 : r.1 36 = nI (g_DS M).2 := by rw [hf.1 36 (by simp), o3.1 36 (by simp)]; exact hds1.1
            rw [d_ge_end (fun y hy => by have := (b4 y hy).1; omega)] at he
            have he2 : E = rm_E M d := he
            rw [he2] at hE
            refine mX12_remove_131 (fun _ => bX12_remove_186 (fun z => absurd z hngt) (fun _ => mX12_remove_190 (cm_close ok hM1 o2 o3 hE hf hpk hps) ?_)) (fun z => absurd (by rw [e36]; exact nI_le (by omega) (by omega)) z)
            rintro r2 ⟨p1, p2⟩
            refine bX12_remove_194 (loop3 r2 (by rw [if_pos hm]; exact p1) ((p2.1 52 (by simp)).trans h52) (fun k a c => by rw [(p2.2 29 (by simp)).1]; exact h29 k a c) _ 1 r2 rfl (by omega) (by omega) (m_fr_refl _ _ _) (fun j hj => ?_))
            rw [if_neg (by omega)]
            exact m_ds_row p1.2.2.2.2.2.2 hj
          | succ q ih =>
            intro k r E hq hk0 hk hE hf he
            have e36 : r.1 36 = nI (g_DS M).2 := by rw [hf.1 36 (by simp), o3.1 36 (by simp)]; exact hds1.1
            have yk : vp_in (nI k) 1024 := m_ii (by omega) (by omega)
            have ek : (nI k).toNatClampNeg = k := nI_clamp (by omega)
            have e29 : r.2.1 29 k = kB (d_is (g_DS M) (nI k) && d_bel (g_DS M).1 k d) := by rw [(hf.2 29 (by simp)).1, (o3.2 29 (by simp)).1]; exact h29 k hk0 (by omega)
            refine mX12_remove_131 (fun z => absurd z (by rw [e36]; exact nI_ge (by omega) (by omega))) (fun _ => ?_)
            refine mX12_remove_139 yk (fun c1 => ?_) (fun c1 => ?_)
            · rw [ek, e29, kB_0] at c1
              refine bX12_remove_180 ?_
              rw [nI_1]
              refine ih (k + 1) r E (by omega) (by omega) (by omega) hE hf ?_
              rw [← he]
              cases hi : d_is (g_DS M) (nI k) with
              | false => rw [d_ge_skip hi (fun y hy => by have := (b4 y hy).1; omega) (by omega)]
              | true =>
                obtain ⟨y, hy, ey, -⟩ := d_is_ex hds1 hi
                have e2 : k = y.1 := (nI_eq (by omega) (by have := (b4 y hy).1; omega)).mp ey
                rw [hi, Bool.true_and, e2] at c1
                rw [e2, d_ge_take w.1 hy, List.filter_cons_of_neg (by rw [c1]; decide)]
            · rw [ek, e29, kB_n0, Bool.and_eq_true] at c1
              obtain ⟨y, hy, ey, -⟩ := d_is_ex hds1 c1.1
              have e2 : k = y.1 := (nI_eq (by omega) (by have := (b4 y hy).1; omega)).mp ey
              have hbel := c1.2
              rw [e2] at hbel
              rw [e2, d_ge_take w.1 hy, List.filter_cons_of_pos (by rw [hbel]), List.foldl_cons, ← e2] at he
              have e27 : r.2.1 27 k = nI y.2.2.2 := by rw [(hf.2 27 (by simp)).1, (o3.2 27 (by simp)).1, e2]; exact (hds1.2.2.2 y hy).2.2.2
              have hy9 := (w.2.2.2.2 y hy).2
              obtain ⟨l1, l2, l3⟩ := s_la_ok (rm_na hy9) (Or.inl rfl : s_na 10000)
              refine bX12_remove_148 (fun z => absurd z hngt) (fun _ => mX12_remove_152 yk (by rw [ek, e27]; exact m_stJ (c_X12_firstOf ok (rm_na hy9) (Or.inl rfl))) ?_)
              rintro _ _ ⟨hr, rfl⟩
              rw [hr]
              refine mX12_remove_165 yk (by rw [ek, e27]; exact m_stJ (c_X12_lastOf ok (rm_na hy9) (Or.inl rfl))) ?_
              rintro _ _ ⟨hr, rfl⟩
              rw [hr]
              refine mX12_remove_177 (c_e_clr ok hE (by omega) (by omega) (e_lim_le hle (by rw [← he]; exact e_le_rm M _ _))) ?_
              rintro r2 ⟨p1, p2⟩
              refine bX12_remove_180 ?_
              rw [nI_1]
              exact ih (k + 1) r2 _ (by omega) (by omega) (by omega) p1 (m_fr_trans hf (m_fr_mono p2 (by simp) (by simp))) he
        exact key _ 1 s2 (g_E M) rfl (by omega) (by omega) o1 (m_fr_refl _ _ _) (by rw [rm_gone_1 w hd0]; rfl)
      · have hm0 : rm_many M d = 0 := by omega
        have hle0 : nI (rm_many M d) ≤ 0 := by rw [hm0]; decide
        refine bX12_remove_121 (fun _ => bX12_remove_129 ?_) (fun z => absurd hle0 z)
        have key : ∀ (q k : Nat), (g_DS M).2 - k = q → 0 < k → k ≤ (g_DS M).2 →
            k_X (jX12_remove G l (m_hp b s h)) (m_hp b s1 h) 131 [(0, vR (some b)), (2, vI (nI (rm_many M d))), (3, vI (nI k))] [] (q_i (m_p b h (m_R (g_dset (if 0 < rm_many M d then g_cm M (rm_E M d) else M) (rm_D M d), 0, nI (rm_many M d))))) := by
          intro q
          induction q with
          | zero =>
            intro k hq hk0 hk
            refine mX12_remove_131 (fun _ => bX12_remove_186 (fun _ => bX12_remove_194 (loop3 s1 (by rw [if_neg hm]; exact hM1) h52 h29 _ 1 s1 rfl (by omega) (by omega) (m_fr_refl _ _ _) (fun j hj => ?_))) (fun z => absurd hle0 z)) (fun z => absurd (by rw [hds1.1]; exact nI_le (by omega) (by omega)) z)
            rw [if_neg (by omega)]
            exact m_ds_row hds1 hj
          | succ q ih =>
            intro k hq hk0 hk
            have yk : vp_in (nI k) 1024 := m_ii (by omega) (by omega)
            have nx := ih (k + 1) (by omega) (by omega) (by omega)
            refine mX12_remove_131 (fun z => absurd z (by rw [hds1.1]; exact nI_ge (by omega) (by omega))) (fun _ => ?_)
            refine mX12_remove_139 yk (fun c1 => ?_) (fun c1 => bX12_remove_148 (fun _ => ?_) (fun z => absurd hle0 z))
            · refine bX12_remove_180 ?_
              rw [nI_1]
              exact nx
            · refine bX12_remove_180 ?_
              rw [nI_1]
              exact nx
        exact key _ 1 rfl (by omega) (by omega)
    -- the first loop: what goes, and how many keys that has
    have loop1 : ∀ (q k acc : Nat) (r : m_S), (g_DS M).2 - k = q → 0 < k → k ≤ (g_DS M).2 → m_fr [] [29] s0 r → (∀ j, 0 < j → j < k → r.2.1 29 j = kB (d_is (g_DS M) (nI j) && d_bel (g_DS M).1 j d)) → acc + (((d_ge (g_DS M).1 k).filter (fun x => d_bel (g_DS M).1 x.1 d)).map (rm_cnt M)).sum = rm_many M d →
        k_X (jX12_remove G l (m_hp b s h)) (m_hp b r h) 34 [(0, vR (some b)), (1, vI (nI d)), (2, vI (nI acc)), (3, vI (nI k))] [] (q_i (m_p b h (m_R (g_dset (if 0 < rm_many M d then g_cm M (rm_E M d) else M) (rm_D M d), 0, nI (rm_many M d))))) := by
      intro q
      induction q with
      | zero =>
        intro k acc r hq hk0 hk hf hrow he
        have hMr : m_M r M := m_M_fr a1 hf (by simp) (by simp)
        rw [d_ge_end (fun y hy => by have := (b4 y hy).1; omega)] at he
        have he2 : acc = rm_many M d := he
        rw [he2]
        exact mX12_remove_34 (fun _ => loop2 r hMr ((hf.1 52 (by simp)).trans a2) (fun j a c => hrow j a (by omega))) (fun z => absurd (by rw [hf.1 36 (by simp), b1]; exact nI_le (by omega) (by omega)) z)
      | succ q ih =>
        intro k acc r hq hk0 hk hf hrow he
        have hMr : m_M r M := m_M_fr a1 hf (by simp) (by simp)
        have hdr := hMr.2.2.2.2.2.2
        have yk : vp_in (nI k) 1024 := m_ii (by omega) (by omega)
        have ek : (nI k).toNatClampNeg = k := nI_clamp (by omega)
        have wr : ∀ u : Bool, u = (d_is (g_DS M) (nI k) && d_bel (g_DS M).1 k d) → k_X (jX12_remove G l (m_hp b s h)) (m_hp b r h) 70 [(0, vR (some b)), (1, vI (nI d)), (2, vI (nI acc)), (3, vI (nI k))] [vI (kB u), vI (nI k), vR (some (b + 29))] (q_i (m_p b h (m_R (g_dset (if 0 < rm_many M d then g_cm M (rm_E M d) else M) (rm_D M d), 0, nI (rm_many M d))))) := by
          intro u hu
          refine mX12_remove_70 (i9 := 29) rfl (by decide) (by decide) yk (kB_bl _) ?_
          rw [ek]
          have hf2 : m_fr [] [29] s0 (m_sa r 29 (va_up (r.2.1 29) k (kB u))) := ⟨fun i hi => hf.1 i hi, fun i hi => by
            show (if i = 29 then _ else r.2.1 i) = _ ∧ _
            rw [if_neg (by simpa using hi)]
            exact hf.2 i hi⟩
          have h29k : (m_sa r 29 (va_up (r.2.1 29) k (kB u))).2.1 29 k = kB u := va_up_self _ _ _
          have hrow2 : ∀ j, 0 < j → j < k + 1 → (m_sa r 29 (va_up (r.2.1 29) k (kB u))).2.1 29 j = kB (d_is (g_DS M) (nI j) && d_bel (g_DS M).1 j d) := fun j hj0 hj => by
            show va_up (r.2.1 29) k (kB u) j = _
            by_cases e : j = k
            · rw [e, va_up_self, hu]
            · rw [va_up_ne _ _ e]
              exact hrow j hj0 (by omega)
          generalize m_sa r 29 (va_up (r.2.1 29) k (kB u)) = r2 at hf2 h29k hrow2
          have hMr2 : m_M r2 M := m_M_fr a1 hf2 (by simp) (by simp)
          refine mX12_remove_71 yk (fun c1 => ?_) (fun c1 => ?_)
          · rw [ek, h29k, kB_0] at c1
            refine bX12_remove_112 (bX12_remove_113 ?_)
            rw [nI_1, show (0 : Int32) = nI 0 from rfl, nI_add]
            refine ih (k + 1) (acc + 0) r2 (by omega) (by omega) (by omega) hf2 hrow2 ?_
            rw [← he, Nat.add_zero]
            congr 3
            rw [c1] at hu
            cases hi : d_is (g_DS M) (nI k) with
            | false => rw [d_ge_skip hi (fun y hy => by have := (b4 y hy).1; omega) (by omega)]
            | true =>
              obtain ⟨y, hy, ey, -⟩ := d_is_ex hdr hi
              have e2 : k = y.1 := (nI_eq (by omega) (by have := (b4 y hy).1; omega)).mp ey
              rw [hi, Bool.true_and, e2] at hu
              rw [e2, d_ge_take w.1 hy, List.filter_cons_of_neg (by rw [← hu]; decide)]
          · rw [ek, h29k, kB_n0] at c1
            rw [c1] at hu
            have hu2 := hu.symm
            rw [Bool.and_eq_true] at hu2
            obtain ⟨y, hy, ey, -⟩ := d_is_ex hdr hu2.1
            have e2 : k = y.1 := (nI_eq (by omega) (by have := (b4 y hy).1; omega)).mp ey
            have hbel := hu2.2
            rw [e2] at hbel
            rw [e2, d_ge_take w.1 hy, List.filter_cons_of_pos (by rw [hbel]), List.map_cons, List.sum_cons, ← e2] at he
            have e27 : r2.2.1 27 k = nI y.2.2.2 := by rw [e2]; exact (hMr2.2.2.2.2.2.2.2.2.2 y hy).2.2.2
            have hy9 := (w.2.2.2.2 y hy).2
            obtain ⟨l1, l2, l3⟩ := s_la_ok (rm_na hy9) (Or.inl rfl : s_na 10000)
            refine mX12_remove_81 yk (by rw [ek, e27]; exact m_stJ (c_X12_firstOf ok (rm_na hy9) (Or.inl rfl))) ?_
            rintro _ _ ⟨hr, rfl⟩
            rw [hr]
            refine mX12_remove_94 yk (by rw [ek, e27]; exact m_stJ (c_X12_lastOf ok (rm_na hy9) (Or.inl rfl))) ?_
            rintro _ _ ⟨hr, rfl⟩
            rw [hr]
            refine mX12_remove_106 (c_X12_manyIn ok hMr2.1.1 (by omega) (by omega)) ?_
            rintro _ _ ⟨hr, rfl⟩
            rw [hr]
            refine bX12_remove_109 (bX12_remove_113 ?_)
            rw [nI_1, nI_add]
            refine ih (k + 1) (acc + rm_cnt M y) r2 (by omega) (by omega) (by omega) hf2 hrow2 ?_
            rw [Nat.add_assoc]
            exact he
        refine mX12_remove_34 (fun z => absurd z (by rw [hf.1 36 (by simp), b1]; exact nI_ge (by omega) (by omega))) (fun _ => ?_)
        refine mX12_remove_42 yk (fun c1 => ?_) (fun c1 => ?_)
        · rw [ek, m_ds_row hdr (by omega), kB_0] at c1
          exact bX12_remove_69 (wr false (by rw [c1]; rfl))
        · rw [ek, m_ds_row hdr (by omega), kB_n0] at c1
          obtain ⟨y, hy, ey, -⟩ := d_is_ex hdr c1
          have e2 : k = y.1 := (nI_eq (by omega) (by have := (b4 y hy).1; omega)).mp ey
          refine mX12_remove_56 (by rw [e2]; exact c_X12_isBelow ok hdr w (by omega) hy) ?_
          rintro _ _ ⟨hr, rfl⟩
          rw [hr, ← e2]
          refine bX12_remove_62 (fun c2 => ?_) (fun c2 => ?_)
          · rw [kB_0] at c2
            exact bX12_remove_69 (wr false (by rw [c2]; simp))
          · rw [kB_n0] at c2
            exact bX12_remove_65 (wr true (by rw [c1, c2]; rfl))
    exact loop1 _ 1 0 s0 rfl (by omega) (by omega) (m_fr_refl _ _ _) (fun j hj0 hj => by omega) (by rw [rm_gone_1 w hd0, Nat.zero_add]; rfl)
end MRM
