/-! THE REFERENCE BUILDS INDEXES AND PUTS THEM OFF -/
def bl_one (n : Nat) (x : Int32) (k : Nat) (f : Int32) (E : e_S) : e_S :=
  if x = 1 then e_put n (s_cd (-3) f 10000) (some ((r_val (s_cd (-3) f 10000) n E.2.1).getD 0 + 1)) E
  else if x = 0 then e_put n (s_cd (-2) f (nI k)) (some 0) E else e_put n (s_cd (-4) (nI n) (nI k)) (some f) E
abbrev b_S := e_S × Nat × Int32 × Nat
def bl_step (n : Nat) (x st most : Int32) (A : b_S) (k : Nat) : b_S :=
  if (decide (¬ nI k ≤ st) && (r_val (sv_re (nI k)) n A.1.2.1).isSome) = true then
    if most ≤ nI A.2.1 then (A.1, A.2.1, A.2.2.1, A.2.2.2 + 1) else (bl_one n x k (o_told (r_val (sv_re (nI k)) n A.1.2.1)) A.1, A.2.1 + 1, nI k, A.2.2.2)
  else A
def bl_st (M : s_M) (x : Int32) : Int32 := o_told (r_val (sv_co x) (g_n M) (g_E M).2.1)
def bl_run (M : s_M) (x most : Int32) : b_S := (List.range' 0 100).foldl (bl_step (g_n M + 1) x (bl_st M x) most) (g_E M, 0, bl_st M x, 0)
def bl_E (M : s_M) (x most : Int32) : e_S := e_put (g_n M + 1) (sv_co x) (some (if 0 < (bl_run M x most).2.2.2 then (bl_run M x most).2.2.1 else 1000)) (bl_run M x most).1
def F_build (M : s_M) (x most : Int32) : s_M × Nat × Int32 :=
  if s_inB x 0 2 = false then (M, 1, 0) else if s_inB most 1 20 = false then (M, 2, 0)
  else if bl_st M x = -2147483648 ∨ bl_st M x = 1000 then (M, 3, 0) else (g_cm M (bl_E M x most), 0, nI (bl_run M x most).2.1)
def of_lo (x : Int32) : Nat := s_lo (-2 - x) 10000
def of_hi (x : Int32) : Nat := s_la (-2 - x) 10000
def of_E (M : s_M) (x : Int32) : e_S := e_put (g_n M + 1) (sv_co x) (some (-1000)) (e_clr (g_n M + 1) (of_lo x) (of_hi x + 1) (g_E M))
def F_off (M : s_M) (x : Int32) : s_M × Nat × Int32 :=
  if s_inB x 0 2 = false then (M, 1, 0) else (g_cm M (of_E M x), 0, nI (r_flt (of_lo x) (of_hi x + 1) (fun c => (r_val c (g_n M) (g_E M).2.1).isSome) (g_E M).1).length)
theorem s_in3 {x : Int32} (h : s_inB x 0 2 = true) : x = 0 ∨ x = 1 ∨ x = 2 := by
  obtain ⟨e, hle⟩ := s_inN (m := 2) (by decide) h
  rw [e]
  generalize x.toInt.toNat = n at hle
  have : n = 0 ∨ n = 1 ∨ n = 2 := by omega
  rcases this with rfl | rfl | rfl
  · exact Or.inl rfl
  · exact Or.inr (Or.inl rfl)
  · exact Or.inr (Or.inr rfl)
theorem bl_one_le (n : Nat) (x : Int32) (k : Nat) (f : Int32) (E : e_S) : e_le E (bl_one n x k f E) := by
  unfold bl_one
  split
  · exact e_le_put _ _ _ _
  · split <;> exact e_le_put _ _ _ _
theorem bl_step_le (n : Nat) (x st most : Int32) (A : b_S) (k : Nat) : e_le A.1 (bl_step n x st most A k).1 := by
  unfold bl_step
  split
  · split
    · exact e_le_refl _
    · exact bl_one_le _ _ _ _ _
  · exact e_le_refl _
theorem bl_run_le (n : Nat) (x st most : Int32) : ∀ (K : List Nat) (A : b_S), e_le A.1 (K.foldl (bl_step n x st most) A).1 := by
  intro K
  induction K with
  | nil => exact fun A => e_le_refl _
  | cons k t ih => exact fun A => e_le_trans (bl_step_le _ _ _ _ _ _) (ih _)
theorem bl_code_ne {a b c : Int32} (hb : s_na b) (hc : s_na c) (n : Int32) (hn : s_na n) (ha : ¬ s_dg a = 999) : ¬ s_cd a b c = sv_re n := by
  intro e
  have h1 := s_cd_div (a := a) hb hc
  rw [e] at h1
  unfold sv_re at h1
  rw [s_cd_div hn (Or.inl rfl)] at h1
  have : s_dg (-1) = 999 := by decide
  omega
theorem r_val_put_ne {c d n m : Nat} {o : Option Int32} {E : e_S} (h : ¬ d = c) : r_val c m (e_put n d o E).2.1 = r_val c m E.2.1 := by
  show r_val c m ((_, d, n, o) :: E.2.1) = _
  rw [r_val_cons, if_neg (fun z => h z.1)]
theorem bl_one_rec {n : Nat} {x : Int32} {k : Nat} {f : Int32} {E : e_S} (hf : s_na f) (hk : k < 100) (hn : n < 9000) (j : Nat) (hj : j < 100) (m : Nat) : r_val (sv_re (nI j)) m (bl_one n x k f E).2.1 = r_val (sv_re (nI j)) m E.2.1 := by
  have jn : s_na (nI j) := e_n_na (by omega)
  have kn : s_na (nI k) := e_n_na (by omega)
  unfold bl_one
  split
  · exact r_val_put_ne (bl_code_ne hf (Or.inl rfl) _ jn (by decide))
  · split
    · exact r_val_put_ne (bl_code_ne hf kn _ jn (by decide))
    · exact r_val_put_ne (bl_code_ne (e_n_na hn) kn _ jn (by decide))
section MBL
variable {G : k_G} {l : Launch}
theorem c_X12_putsFor (ok : k_ok G l) {b : Nat} {s : m_S} {h : k_H} {E : e_S} {n k : Nat} {x f : Int32} (hE : m_E s E n) (hn : n < 9000) (hk : k < 100) (hf : s_na f) (hlim : e_lim (bl_one n x k f E)) :
    k_ctv (tX12_putsFor G l) [vR (some b), vI x, vI (nI k), vI f] (m_hp b s h) (m_pv b h (fun s1 => m_E s1 (bl_one n x k f E) n ∧ m_fr [2, 5] [1, 2, 3, 4, 5, 6] s s1)) := by
  have kn : s_na (nI k) := e_n_na (by omega)
  have nm3 : s_na (-3) := sv_na (by decide)
  have nm2 : s_na (-2) := sv_na (by decide)
  refine k_ctv_of (eX12_putsFor ok.2 (bX12_putsFor_0 (fun c1 => ?_) (fun c1 => ?_)))
  · have hb : bl_one n x k f E = if x = 0 then e_put n (s_cd (-2) f (nI k)) (some 0) E else e_put n (s_cd (-4) (nI n) (nI k)) (some f) E := by unfold bl_one; rw [if_neg c1]
    rw [hb] at hlim ⊢
    refine bX12_putsFor_51 (fun c2 => ?_) (fun c2 => ?_)
    · rw [if_neg c2] at hlim ⊢
      have e0 : s.1 0 = nI n := hE.1.2.2.2.2.1
      have nn : s_na (nI n) := e_n_na hn
      refine mX12_putsFor_66 (by rw [e0]; exact m_stJ (c_X12_codeOf ok s_na_m4 nn kn)) ?_
      rintro _ _ ⟨hr, rfl⟩
      rw [hr]
      refine bX12_putsFor_76 (fun _ => bX12_putsFor_85 (mX12_putsFor_86 (c_e_put ok (o := some f) hE (s_cd_lt s_na_m4 nn kn) hlim) ?_)) (fun z => absurd z c2)
      rintro r2 ⟨p1, p2⟩
      exact bX12_putsFor_89 ⟨rfl, r2, rfl, p1, p2⟩
    · rw [if_pos c2] at hlim ⊢
      refine mX12_putsFor_56 (m_stJ (c_X12_codeOf ok nm2 hf kn)) ?_
      rintro _ _ ⟨hr, rfl⟩
      rw [hr]
      refine bX12_putsFor_63 (bX12_putsFor_76 (fun z => absurd c2 z) (fun _ => bX12_putsFor_81 (mX12_putsFor_86 (c_e_put ok (o := some 0) hE (s_cd_lt nm2 hf kn) hlim) ?_)))
      rintro r2 ⟨p1, p2⟩
      exact bX12_putsFor_89 ⟨rfl, r2, rfl, p1, p2⟩
  · have hb : bl_one n x k f E = e_put n (s_cd (-3) f 10000) (some ((r_val (s_cd (-3) f 10000) n E.2.1).getD 0 + 1)) E := by unfold bl_one; rw [if_pos c1]
    rw [hb] at hlim ⊢
    have hc := s_cd_lt nm3 hf (Or.inl rfl : s_na 10000)
    refine mX12_putsFor_5 (m_stJ (c_X12_codeOf ok nm3 hf (Or.inl rfl))) ?_
    rintro _ _ ⟨hr, rfl⟩
    rw [hr]
    refine mX12_putsFor_14 (c_X12_hasNow ok hE.1 (by omega)) ?_
    rintro _ _ ⟨hr, rfl⟩
    rw [hr]
    have fin : ∀ y : Int32, y = (r_val (s_cd (-3) f 10000) n E.2.1).getD 0 → k_X (jX12_putsFor G l (m_hp b s h)) (m_hp b s h) 35 [(0, vR (some b)), (4, vJ (lN (s_cd (-3) f 10000)))] [vI y] (q_v (m_pv b h (fun s1 => m_E s1 (e_put n (s_cd (-3) f 10000) (some ((r_val (s_cd (-3) f 10000) n E.2.1).getD 0 + 1)) E) n ∧ m_fr [2, 5] [1, 2, 3, 4, 5, 6] s s1))) := by
      intro y hy
      rw [← hy] at hlim ⊢
      refine mX12_putsFor_35 (c_e_put ok (o := some (y + 1)) hE hc hlim) ?_
      rintro r2 ⟨p1, p2⟩
      exact bX12_putsFor_48 (bX12_putsFor_89 ⟨rfl, r2, rfl, p1, p2⟩)
    refine bX12_putsFor_22 (fun c2 => bX12_putsFor_34 (fin 0 ?_)) (fun c2 => mX12_putsFor_25 (c_X12_valueNow ok hE.1 (by omega)) ?_)
    · rw [kB_0] at c2
      cases ev : r_val (s_cd (-3) f 10000) n E.2.1 with
      | none => rfl
      | some w => rw [ev] at c2; cases c2
    · rw [kB_n0] at c2
      rintro _ _ ⟨hr, rfl⟩
      rw [hr]
      refine bX12_putsFor_31 (fin _ ?_)
      cases ev : r_val (s_cd (-3) f 10000) n E.2.1 with
      | none => rw [ev] at c2; cases c2
      | some w => rfl
theorem c_X12_off (ok : k_ok G l) {b : Nat} {s : m_S} {h : k_H} {M : s_M} {x : Int32} (hM : m_M s M) (hn : g_n M + 1 < 9000) (hpk : g_pk M) (hlim : s_inB x 0 2 = true → g_ps M (of_E M x) ∧ e_lim (of_E M x)) :
    k_cti (tX12_off G l) [vR (some b), vI x] (m_hp b s h) (m_p b h (m_R (F_off M x))) := by
  refine k_cti_of (eX12_off ok.2 (mX12_off_0 (m_stI (c_X12_isIndex ok)) ?_))
  rintro _ _ ⟨hr, rfl⟩
  rw [hr]
  cases hin : s_inB x 0 2 with
  | false =>
    have hF : F_off M x = (M, 1, 0) := by unfold F_off; rw [if_pos hin]
    rw [hF]
    refine bX12_off_5 (fun _ => bX12_off_12 (mX12_off_13 (c_X12_goes ok) ?_)) (fun z => absurd rfl z)
    rintro _ _ ⟨hr, rfl⟩
    rw [hr]
    exact bX12_off_16 (fun z => absurd rfl z) (fun _ => bX12_off_19 ⟨_, rfl, _, rfl, m_thr (k := 1) hM (by decide)⟩)
  | true =>
    have hF : F_off M x = (g_cm M (of_E M x), 0, nI (r_flt (of_lo x) (of_hi x + 1) (fun c => (r_val c (g_n M) (g_E M).2.1).isSome) (g_E M).1).length) := by unfold F_off; rw [hin, if_neg (by decide)]
    rw [hF]
    obtain ⟨hps, hl⟩ := hlim hin
    have na : s_na (-2 - x) ∧ s_na x := by
      rcases s_in3 hin with rfl | rfl | rfl
      · exact ⟨sv_na (by decide), sv_na (by decide)⟩
      · exact ⟨sv_na (by decide), sv_na (by decide)⟩
      · exact ⟨sv_na (by decide), sv_na (by decide)⟩
    obtain ⟨l1, l2, l3⟩ := s_la_ok na.1 (Or.inl rfl : s_na 10000)
    refine bX12_off_5 (fun z => absurd z (by decide)) (fun _ => bX12_off_8 (mX12_off_13 (c_X12_goes ok) ?_))
    rintro _ _ ⟨hr, rfl⟩
    rw [hr]
    obtain ⟨a1, a2⟩ := m_ok hM
    generalize m_si s 52 0 = r at a1 a2
    refine bX12_off_16 (fun _ => mX12_off_21 (m_stJ (c_X12_firstOf ok na.1 (Or.inl rfl))) ?_) (fun z => absurd z (by decide))
    rintro _ _ ⟨hr, rfl⟩
    rw [hr]
    refine mX12_off_31 (m_stJ (c_X12_lastOf ok na.1 (Or.inl rfl))) ?_
    rintro _ _ ⟨hr, rfl⟩
    rw [hr]
    refine mX12_off_42 (c_X12_manyIn ok a1.1.1 (by omega) (by omega)) ?_
    rintro _ _ ⟨hr, rfl⟩
    rw [hr]
    refine mX12_off_51 (cm_open ok a1 (by omega)) ?_
    rintro r1 ⟨o1, o2, o3⟩
    have lc : e_lim (e_clr (g_n M + 1) (of_lo x) (of_hi x + 1) (g_E M)) := e_lim_le hl (e_le_put _ _ _ _)
    refine mX12_off_57 (c_e_clr ok o1 (by omega) (by omega) lc) ?_
    rintro r2 ⟨p1, p2⟩
    refine mX12_off_64 (m_stJ (c_X12_indexOf ok na.2)) ?_
    rintro _ _ ⟨hr, rfl⟩
    rw [hr]
    refine mX12_off_69 (c_e_put ok (o := some (-1000)) p1 (s_cd_lt (sv_na (z := -6) (by decide)) na.2 (Or.inl rfl)) hl) ?_
    rintro r3 ⟨w1, w2⟩
    refine mX12_off_76 (cm_close ok a1 o2 o3 w1 (m_fr_trans (m_fr_mono p2 (by simp) (by simp)) (m_fr_mono w2 (by simp) (by simp))) hpk hps) ?_
    rintro r4 ⟨y1, y2⟩
    exact bX12_off_80 ⟨_, rfl, r4, rfl, y1, (y2.1 52 (by simp)).trans a2, fun _ => rfl⟩
end MBL
