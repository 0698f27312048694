/-! THE REFERENCE'S BUILD -/
section MBM
variable {G : k_G} {l : Launch}
theorem c_X12_build (ok : k_ok G l) {b : Nat} {s : m_S} {h : k_H} {M : s_M} {x most : Int32} (hM : m_M s M) (hn : g_n M + 1 < 9000) (hpk : g_pk M)
    (hrec : ∀ j, j < 100 → ∀ v, r_val (sv_re (nI j)) (g_n M + 1) (g_E M).2.1 = some v → s_na v)
    (hlim : s_inB x 0 2 = true → s_inB most 1 20 = true → g_ps M (bl_E M x most) ∧ e_lim (bl_E M x most)) :
    k_cti (tX12_build G l) [vR (some b), vI x, vI most] (m_hp b s h) (m_p b h (m_R (F_build M x most))) := by
  refine k_cti_of (eX12_build ok.2 (mX12_build_0 (m_stI (c_X12_isIndex ok)) ?_))
  rintro _ _ ⟨hr, rfl⟩
  rw [hr]
  refine mX12_build_4 (m_stI (c_X12_isIn ok)) ?_
  rintro _ _ ⟨hr, rfl⟩
  rw [hr]
  have thr : ∀ (y : Int32) (k : Nat), ¬ k = 0 → k < 9 → F_build M x most = (M, k, 0) → k_X (jX12_build G l (m_hp b s h)) (m_hp b s h) 71 [(0, vR (some b)), (1, vI x), (2, vI most), (5, vI y)] [vI (nI k), vR (some b)] (q_i (m_p b h (m_R (F_build M x most)))) := by
    intro y k hk hk9 he
    refine mX12_build_71 (c_X12_goes ok) ?_
    rintro _ _ ⟨hr, rfl⟩
    rw [hr, he]
    have hne : ¬ nI k = 0 := fun z => hk ((nI_eq (b := 0) (by omega) (by omega)).mp z)
    exact bX12_build_74 (fun z => absurd (by rw [decide_eq_false hne]; rfl) z) (fun _ => bX12_build_77 ⟨_, rfl, _, rfl, m_thr hM hk⟩)
  cases hin : s_inB x 0 2 with
  | false => exact bX12_build_12 (fun _ => bX12_build_29 (bX12_build_31 (fun z => absurd rfl z) (fun _ => bX12_build_38 (thr _ 1 (by decide) (by decide) (by unfold F_build; rw [if_pos hin]))))) (fun z => absurd rfl z)
  | true =>
    have nx : s_na x := by
      rcases s_in3 hin with rfl | rfl | rfl
      · exact sv_na (by decide)
      · exact sv_na (by decide)
      · exact sv_na (by decide)
    have hco : sv_co x < 1331000000000 := s_cd_lt (sv_na (z := -6) (by decide)) nx (Or.inl rfl)
    refine bX12_build_12 (fun z => absurd z (by decide)) (fun _ => mX12_build_18 (m_stJ (c_X12_indexOf ok nx)) ?_)
    rintro _ _ ⟨hr, rfl⟩
    rw [hr]
    refine mX12_build_23 (c_X12_valueNow (c := sv_co x) ok hM.1.1 (by omega)) ?_
    rintro _ _ ⟨hr, rfl⟩
    rw [hr]
    have est : o_told (r_val (sv_co x) (g_n M) (g_E M).2.1) = bl_st M x := rfl
    rw [est]
    refine bX12_build_26 (bX12_build_31 (fun _ => ?_) (fun z => absurd z (by decide)))
    cases hmo : s_inB most 1 20 with
    | false => exact bX12_build_42 (fun z => absurd rfl z) (fun _ => bX12_build_47 (thr _ 2 (by decide) (by decide) (by unfold F_build; rw [hin, if_neg (by decide), if_pos hmo])))
    | true =>
      have t3 : bl_st M x = -2147483648 ∨ bl_st M x = 1000 → F_build M x most = (M, 3, 0) := fun e => by unfold F_build; rw [hin, if_neg (by decide), hmo, if_neg (by decide), if_pos e]
      refine bX12_build_42 (fun _ => bX12_build_51 (fun c1 => bX12_build_66 (thr _ 3 (by decide) (by decide) (t3 (Or.inl c1)))) (fun c1 => bX12_build_58 (fun c2 => bX12_build_70 ?_) (fun c2 => bX12_build_66 (thr _ 3 (by decide) (by decide) (t3 (Or.inr c2)))))) (fun z => absurd z (by decide))
      have hF : F_build M x most = (g_cm M (bl_E M x most), 0, nI (bl_run M x most).2.1) := by unfold F_build; rw [hin, if_neg (by decide), hmo, if_neg (by decide), if_neg (by rintro (e | e); exact c1 e; exact c2 e)]
      rw [hF]
      obtain ⟨hps, hl⟩ := hlim hin hmo
      refine mX12_build_71 (c_X12_goes ok) ?_
      rintro _ _ ⟨hr, rfl⟩
      rw [hr]
      obtain ⟨a1, a2⟩ := m_ok hM
      generalize m_si s 52 0 = r at a1 a2
      refine bX12_build_74 (fun _ => mX12_build_79 (cm_open ok a1 (by omega)) ?_) (fun z => absurd z (by decide))
      rintro r1 ⟨o1, o2, o3⟩
      have hrunE : (List.range' 0 100).foldl (bl_step (g_n M + 1) x (bl_st M x) most) (g_E M, 0, bl_st M x, 0) = bl_run M x most := rfl
      have hbE : bl_E M x most = e_put (g_n M + 1) (sv_co x) (some (if 0 < (bl_run M x most).2.2.2 then (bl_run M x most).2.2.1 else 1000)) (bl_run M x most).1 := rfl
      -- the end
      have fin : ∀ (A : b_S) (q : m_S), A.2.2.2 < 2 ^ 20 → m_E q A.1 (g_n M + 1) → m_fr [2, 5] [1, 2, 3, 4, 5, 6] r1 q → bl_run M x most = A → k_X (jX12_build G l (m_hp b s h)) (m_hp b q h) 180 [(0, vR (some b)), (1, vI x), (6, vI (nI A.2.1)), (7, vI A.2.2.1), (8, vI (nI A.2.2.2))] [] (q_i (m_p b h (m_R (g_cm M (bl_E M x most), 0, nI (bl_run M x most).2.1)))) := by
        intro A q hA hE hf e
        rw [e] at hbE ⊢
        refine mX12_build_180 (m_stJ (c_X12_indexOf ok nx)) ?_
        rintro _ _ ⟨hr, rfl⟩
        rw [hr]
        have pt : ∀ y : Int32, y = (if 0 < A.2.2.2 then A.2.2.1 else 1000) → k_X (jX12_build G l (m_hp b s h)) (m_hp b q h) 199 [(0, vR (some b)), (6, vI (nI A.2.1))] [vI y, vI 1, vJ (lN (s_cd (-6) x 10000)), vR (some b)] (q_i (m_p b h (m_R (g_cm M (bl_E M x most), 0, nI A.2.1)))) := by
          intro y hy
          rw [← hy] at hbE
          rw [hbE] at hl hps ⊢
          refine mX12_build_199 (c_e_put ok (o := some y) hE hco hl) ?_
          rintro q2 ⟨w1, w2⟩
          refine mX12_build_202 (cm_close ok a1 o2 o3 w1 (m_fr_mono (m_fr_trans hf w2) (by simp) (by simp)) hpk hps) ?_
          rintro q3 ⟨y1, y2⟩
          exact bX12_build_206 ⟨_, rfl, q3, rfl, y1, (y2.1 52 (by simp)).trans a2, fun _ => rfl⟩
        refine bX12_build_185 (fun c3 => bX12_build_196 (pt 1000 ?_)) (fun c3 => bX12_build_191 (pt A.2.2.1 ?_))
        · have c4 := (nI_leI (a := A.2.2.2) (b := 0) (by omega) (by omega)).mp c3
          rw [if_neg (by omega)]
        · have c4 : ¬ A.2.2.2 ≤ 0 := fun z => c3 ((nI_leI (a := A.2.2.2) (b := 0) (by omega) (by omega)).mpr z)
          rw [if_pos (by omega)]
      have key : ∀ (d k : Nat) (A : b_S) (q : m_S), k + d = 100 → A.2.1 ≤ k → A.2.2.2 ≤ k → m_E q A.1 (g_n M + 1) → m_fr [2, 5] [1, 2, 3, 4, 5, 6] r1 q → (∀ j, j < 100 → r_val (sv_re (nI j)) (g_n M + 1) A.1.2.1 = r_val (sv_re (nI j)) (g_n M + 1) (g_E M).2.1) → (List.range' k d).foldl (bl_step (g_n M + 1) x (bl_st M x) most) A = bl_run M x most →
          k_X (jX12_build G l (m_hp b s h)) (m_hp b q h) 96 [(0, vR (some b)), (1, vI x), (2, vI most), (5, vI (bl_st M x)), (6, vI (nI A.2.1)), (7, vI A.2.2.1), (8, vI (nI A.2.2.2)), (9, vI (nI k))] [] (q_i (m_p b h (m_R (g_cm M (bl_E M x most), 0, nI (bl_run M x most).2.1)))) := by
        intro d
        induction d with
        | zero =>
          intro k A q hkd hA1 hA2 hE hf hv he
          exact bX12_build_96 (fun _ => fin A q (by omega) hE hf he.symm) (fun z => absurd (by rw [show k = 100 by omega]; decide) z)
        | succ d ih =>
          intro k A q hkd hA1 hA2 hE hf hv he
          have kn : s_na (nI k) := e_n_na (by omega)
          have hre : sv_re (nI k) < 1331000000000 := s_cd_lt (sv_na (z := -1) (by decide)) kn (Or.inl rfl)
          rw [List.range'_succ, List.foldl_cons] at he
          have hle : e_le (bl_step (g_n M + 1) x (bl_st M x) most A k).1 (bl_E M x most) := by
            rw [hbE, ← he]
            exact e_le_trans (bl_run_le _ _ _ _ _ _) (e_le_put _ _ _ _)
          have hle2 := e_lim_le hl hle
          have nxt : ∀ (q2 : m_S) (B : b_S), B = bl_step (g_n M + 1) x (bl_st M x) most A k → B.2.1 ≤ k + 1 → B.2.2.2 ≤ k + 1 → m_E q2 B.1 (g_n M + 1) → m_fr [2, 5] [1, 2, 3, 4, 5, 6] r1 q2 → (∀ j, j < 100 → r_val (sv_re (nI j)) (g_n M + 1) B.1.2.1 = r_val (sv_re (nI j)) (g_n M + 1) (g_E M).2.1) →
              k_X (jX12_build G l (m_hp b s h)) (m_hp b q2 h) 174 [(0, vR (some b)), (1, vI x), (2, vI most), (5, vI (bl_st M x)), (6, vI (nI B.2.1)), (7, vI B.2.2.1), (8, vI (nI B.2.2.2)), (9, vI (nI k))] [] (q_i (m_p b h (m_R (g_cm M (bl_E M x most), 0, nI (bl_run M x most).2.1)))) := by
            intro q2 B eB b1 b2 hE2 hf2 hv2
            rw [← eB] at he
            refine bX12_build_174 ?_
            rw [nI_1]
            exact ih (k + 1) B q2 (by omega) b1 b2 hE2 hf2 hv2 he
          have skip : (decide (¬ nI k ≤ bl_st M x) && (r_val (sv_re (nI k)) (g_n M + 1) A.1.2.1).isSome) = false → k_X (jX12_build G l (m_hp b s h)) (m_hp b q h) 126 [(0, vR (some b)), (1, vI x), (2, vI most), (5, vI (bl_st M x)), (6, vI (nI A.2.1)), (7, vI A.2.2.1), (8, vI (nI A.2.2.2)), (9, vI (nI k))] [] (q_i (m_p b h (m_R (g_cm M (bl_E M x most), 0, nI (bl_run M x most).2.1)))) := fun e =>
            bX12_build_126 (bX12_build_127 (fun _ => bX12_build_166 (fun _ => nxt q A (by unfold bl_step; rw [if_neg (by rw [e]; decide)]) (by omega) (by omega) hE hf hv) (fun z => absurd rfl z)) (fun z => absurd rfl z))
          refine bX12_build_96 (fun z => absurd z (nI_ge (b := 100) (by omega) (by omega))) (fun _ => bX12_build_103 (fun c3 => skip (by rw [decide_eq_false (fun z => z c3)]; rfl)) (fun c3 => mX12_build_110 (m_stJ (c_X12_recordOf ok kn)) ?_))
          rintro _ _ ⟨hr, rfl⟩
          rw [hr]
          refine mX12_build_116 (c_X12_hasNow (c := sv_re (nI k)) ok hE.1 (by omega)) ?_
          rintro _ _ ⟨hr, rfl⟩
          rw [hr]
          refine bX12_build_119 (fun c4 => ?_) (fun c4 => bX12_build_122 (bX12_build_127 (fun z => absurd z (by decide)) (fun _ => ?_)))
          · rw [kB_0] at c4
            exact skip (by rw [c4, Bool.and_false])
          · rw [kB_n0] at c4
            have c5 : (decide (¬ nI k ≤ bl_st M x) && (r_val (sv_re (nI k)) (g_n M + 1) A.1.2.1).isSome) = true := by rw [decide_eq_true c3, c4]; rfl
            refine bX12_build_134 (fun c6 => bX12_build_166 (fun z => absurd z (by decide)) (fun _ => bX12_build_171 ?_)) (fun c6 => mX12_build_140 (m_stJ (c_X12_recordOf ok kn)) ?_)
            · rw [nI_1]
              exact nxt q (A.1, A.2.1, A.2.2.1, A.2.2.2 + 1) (by unfold bl_step; rw [if_pos c5, if_pos c6]) (by show A.2.1 ≤ k + 1; omega) (by show A.2.2.2 + 1 ≤ k + 1; omega) hE hf hv
            · rintro _ _ ⟨hr, rfl⟩
              rw [hr]
              refine mX12_build_150 (c_X12_valueNow (c := sv_re (nI k)) ok hE.1 (by omega)) ?_
              rintro _ _ ⟨hr, rfl⟩
              rw [hr]
              have eS : bl_step (g_n M + 1) x (bl_st M x) most A k = (bl_one (g_n M + 1) x k (o_told (r_val (sv_re (nI k)) (g_n M + 1) A.1.2.1)) A.1, A.2.1 + 1, nI k, A.2.2.2) := by unfold bl_step; rw [if_pos c5, if_neg c6]
              have hfv : s_na (o_told (r_val (sv_re (nI k)) (g_n M + 1) A.1.2.1)) := by
                cases ev : r_val (sv_re (nI k)) (g_n M + 1) A.1.2.1 with
                | none => rw [ev] at c4; cases c4
                | some w => exact hrec k (by omega) w (by rw [← hv k (by omega), ev])
              rw [eS] at hle2
              refine mX12_build_153 (c_X12_putsFor ok hE hn (by omega) hfv hle2) ?_
              rintro q2 ⟨w1, w2⟩
              refine bX12_build_156 ?_
              rw [nI_1]
              exact nxt q2 _ eS.symm (by show A.2.1 + 1 ≤ k + 1; omega) (by show A.2.2.2 ≤ k + 1; omega) w1 (m_fr_trans hf w2) (fun j hj => by rw [bl_one_rec hfv (by omega) hn j hj]; exact hv j hj)
      refine bX12_build_83 (key 100 0 (g_E M, 0, bl_st M x, 0) r1 rfl (Nat.le_refl _) (Nat.le_refl _) o1 (m_fr_refl _ _ _) (fun j _ => rfl) rfl)
end MBM
