/-! THE CLASS BUILDS INDEXES -/
theorem bl_more (n : Nat) (x st most : Int32) : ∀ (K : List Nat) (A : b_S), most ≤ nI A.2.1 → (K.foldl (bl_step n x st most) A).1 = A.1 ∧ (K.foldl (bl_step n x st most) A).2.1 = A.2.1 ∧ (K.foldl (bl_step n x st most) A).2.2.1 = A.2.2.1 ∧ A.2.2.2 ≤ (K.foldl (bl_step n x st most) A).2.2.2 := by
  intro K
  induction K with
  | nil => exact fun A _ => ⟨rfl, rfl, rfl, Nat.le_refl _⟩
  | cons k K ih =>
    intro A hA
    have e : (bl_step n x st most A k).1 = A.1 ∧ (bl_step n x st most A k).2.1 = A.2.1 ∧ (bl_step n x st most A k).2.2.1 = A.2.2.1 ∧ A.2.2.2 ≤ (bl_step n x st most A k).2.2.2 := by
      unfold bl_step
      split
      · exact ⟨rfl, rfl, rfl, Nat.le_succ _⟩
      · exact ⟨rfl, rfl, rfl, Nat.le_refl _⟩
    obtain ⟨e1, e2, e3, e4⟩ := e
    obtain ⟨i1, i2, i3, i4⟩ := ih (bl_step n x st most A k) (by rw [e2]; exact hA)
    rw [List.foldl_cons]
    exact ⟨by rw [i1, e1], by rw [i2, e2], by rw [i3, e3], Nat.le_trans e4 i4⟩
theorem bl_skip (n : Nat) (x st most : Int32) : ∀ (K : List Nat) (A : b_S), (∀ k ∈ K, nI k ≤ st) → K.foldl (bl_step n x st most) A = A := by
  intro K
  induction K with
  | nil => exact fun A _ => rfl
  | cons k K ih =>
    intro A hK
    have e : bl_step n x st most A k = A := by
      unfold bl_step
      rw [if_neg]
      rw [decide_eq_false (show ¬ ¬ nI k ≤ st from fun z => z (hK k List.mem_cons_self)), Bool.false_and]
      decide
    rw [List.foldl_cons, e]
    exact ih A (fun j hj => hK j (List.mem_cons_of_mem _ hj))
section CBL
variable {G : k_G} {l : Launch}
theorem O_value (ok : k_ok G l) {a N w c : Nat} {B : Nat × Nat} {h : k_H} {M : s_M} {E : e_S} (O : c_O a B h M E N w) (hc : c < 2 ^ 62) : k_cti (tX8_valueNow G l) [vR (some (a + 1)), vJ (lN c)] h (fun h' v => c_O a B h' M E N w ∧ v = o_told (r_val c (g_n M + 1) E.2.1)) := by
  obtain ⟨Q, S, PS, s, r, p, co⟩ := O
  obtain ⟨h', v, t, s', e, m⟩ := c_E_valueNow ok s hc
  exact ⟨h', v, t, ⟨Q, S, PS, s', rs_sto r s m, p, co_le (co_mo co m) (Nat.le_refl _)⟩, e⟩
theorem C_putNow (ok : k_ok G l) {a N w k : Nat} {B : Nat × Nat} {h : k_H} {M : s_M} {E : e_S} {x f : Int32} (O : c_O a B h M E N w) (hx : s_inB x 0 2 = true) (hk : k < 100) (hf : s_na f) (hlim : e_lim (bl_one (g_n M + 1) x k f E)) :
    k_ctv (tX11_putNow G l) [vR (some a), vI x, vI (nI k), vI f] h (fun h' => c_O a B h' M (bl_one (g_n M + 1) x k f E) N w) := by
  obtain ⟨o14, f0, f1, f2, f3, f4, f5, o11⟩ := O_ob O
  have hn := O_n O
  have hkn : s_na (nI k) := na_100 (by omega)
  refine k_ctv_of (eX11_putNow ok.2 ?_)
  rcases s_in3 hx with rfl | rfl | rfl
  · have e1 : bl_one (g_n M + 1) 0 k f E = e_put (g_n M + 1) (s_cd (-2) f (nI k)) (s_apO 0 0 (nI (g_n M + 1)) (r_val (s_cd (-2) f (nI k)) (g_n M + 1) E.2.1)) E := by
      rw [ap_set]; rfl
    rw [e1] at hlim ⊢
    refine bX11_putNow_0 (fun c => absurd rfl c) (fun _ => bX11_putNow_4 o14 rfl (c_X11_codeOf ok na_m6.2.2.2.2.2.1 hf hkn) ?_)
    rintro _ _ ⟨hh, rfl⟩
    rw [hh]
    refine bX11_putNow_16 (k_is_o o11) (O_alter ok O (s_cd_lt na_m6.2.2.2.2.2.1 hf hkn) hlim) ?_
    rintro h1 ⟨O1, -⟩
    exact bX11_putNow_20 (bX11_putNow_68 ⟨rfl, O1⟩)
  · have e1 : bl_one (g_n M + 1) 1 k f E = e_put (g_n M + 1) (s_cd (-3) f 10000) (s_apO 2 1 (nI (g_n M + 1)) (r_val (s_cd (-3) f 10000) (g_n M + 1) E.2.1)) E := by
      have : some ((r_val (s_cd (-3) f 10000) (g_n M + 1) E.2.1).getD 0 + 1) = s_apO 2 1 (nI (g_n M + 1)) (r_val (s_cd (-3) f 10000) (g_n M + 1) E.2.1) := by
        cases r_val (s_cd (-3) f 10000) (g_n M + 1) E.2.1 with
        | none => exact congrArg some (show (0 : Int32) + 1 = 1 by decide)
        | some v => rfl
      rw [← this]; rfl
    rw [e1] at hlim ⊢
    refine bX11_putNow_0 (fun _ => bX11_putNow_23 (fun c => absurd rfl c) (fun _ => bX11_putNow_28 o14 rfl (c_X11_codeOf_ ok na_m6.2.2.2.2.1 hf) ?_)) (fun c => absurd c (by decide))
    rintro _ _ ⟨hh, rfl⟩
    rw [hh]
    refine bX11_putNow_39 (k_is_o o11) (O_alter ok O (s_cd_lt na_m6.2.2.2.2.1 hf na_m6.2.2.2.2.2.2.2) hlim) ?_
    rintro h1 ⟨O1, -⟩
    exact bX11_putNow_43 (bX11_putNow_68 ⟨rfl, O1⟩)
  · have hnn : s_na (nI (g_n M + 1)) := by
      refine Or.inr (s_nm_of ?_ ?_) <;> rw [nI_toInt (by omega)] <;> omega
    have e1 : bl_one (g_n M + 1) 2 k f E = e_put (g_n M + 1) (s_cd (-4) (nI (g_n M + 1)) (nI k)) (s_apO 0 f (nI (g_n M + 1)) (r_val (s_cd (-4) (nI (g_n M + 1)) (nI k)) (g_n M + 1) E.2.1)) E := by
      rw [ap_set]; rfl
    rw [e1] at hlim ⊢
    refine bX11_putNow_0 (fun _ => bX11_putNow_23 (fun _ => bX11_putNow_46 o14 rfl o11 rfl (c_X11_codeOf ok na_m6.2.2.2.1 hnn hkn) ?_) (fun c => absurd c (by decide))) (fun c => absurd c (by decide))
    rintro _ _ ⟨hh, rfl⟩
    rw [hh]
    refine bX11_putNow_64 (k_is_o o11) (O_alter ok O (s_cd_lt na_m6.2.2.2.1 hnn hkn) hlim) ?_
    rintro h1 ⟨O1, -⟩
    exact bX11_putNow_68 ⟨rfl, O1⟩
theorem bl_one_ex {n : Nat} {x : Int32} {k : Nat} {f : Int32} {E : e_S} : e_ex n E (bl_one (n + 1) x k f E) := by
  unfold bl_one
  split
  · exact ex_put _ _ _ _
  · split <;> exact ex_put _ _ _ _
theorem C_build (ok : k_ok G l) {a N w k : Nat} {B : Nat × Nat} {h : k_H} {M : s_M} {x most : Int32} (W : c_W a B h M N w) (hn : g_n M + 1 < 9000) (hpk : g_pk M) (h0 : g_p0 M) (hrec : ∀ j, j < 100 → ∀ v, r_val (sv_re (nI j)) (g_n M + 1) (g_E M).2.1 = some v → s_na v)
    (hst : s_inB x 0 2 = true → ∀ v, rk_v M (sv_co x) = some v → v = 1000 ∨ v = -1000 ∨ ∃ j, j < 100 ∧ v = nI j)
    (hlim : s_inB x 0 2 = true → s_inB most 1 20 = true → g_ps M (bl_E M x most) ∧ e_lim (bl_E M x most) ∧ g_sp M (bl_E M x most) ≤ k) :
    k_ct (tX11_build G l) [vR (some a), vI x, vI most] h (c_R a B (F_build M x most) x_3 (N + 1 + k) w) := by
  have X1 : ∀ {q : Nat}, q ≠ 0 → F_build M x most = (M, q, 0) → ∀ {h2 : k_H}, c_W a B h2 M N w → c_R a B (F_build M x most) x_3 (N + 1 + k) w (k_sk h2 1 6) (.inr (x_3 q)) := fun {q} hk hF {h2} W => by
    rw [hF]
    refine ⟨W_le (W_sk W) (by omega), ?_⟩
    show _ = if _ = 0 then _ else _
    rw [if_neg hk]
  refine eX11_build ok.2 ?_
  cases hin : s_inB x 0 2 with
  | false =>
    refine bX11_build_0x (x_X11_requireIndex ok (in3_not hin)) ?_
    rintro _ rfl
    exact X1 (q := 1) (by decide) (by unfold F_build; rw [if_pos hin]) W
  | true =>
    obtain ⟨na, nn, nx, hx⟩ := s_na_m2 hin
    refine bX11_build_0 (c_X11_requireIndex ok hx) ?_
    rintro _ hh
    rw [hh]
    have bad : s_inB most 1 20 = false → k_X (jX11_build G l h) h 15 [] [] (c_R a B (F_build M x most) x_3 (N + 1 + k) w) := fun hc =>
      bX11_build_15 (X1 (q := 2) (by decide) (by unfold F_build; rw [if_neg (by rw [hin]; decide), if_pos hc]) W)
    refine bX11_build_4 (fun c => bad ?_) (fun c1 => bX11_build_9 (fun c2 => ?_) (fun c => bad ?_))
    · unfold s_inB; rw [decide_eq_false (by simpa using c), Bool.false_and]
    · have hm : s_inB most 1 20 = true := by unfold s_inB; rw [decide_eq_true c1, decide_eq_true (Int32.not_lt.mpr c2)]; rfl
      obtain ⟨hm1, hm2, hm3⟩ := s_inA (a := 1) (m := 20) (by decide) (by decide) hm
      obtain ⟨g1, g2, g3⟩ := hlim hin hm
      obtain ⟨o14, f0, f1, f2, f3, f4, f5, o11⟩ := W_ob W
      have hco := s_cd_lt na_m6.1 nx na_m6.2.2.2.2.2.2.2
      refine bX11_build_26 o14 rfl (c_X11_codeOf_ ok na_m6.1 nx) ?_
      rintro _ _ ⟨hh, rfl⟩
      rw [hh]
      refine bX11_build_36 (k_is_o o11) (W_value ok W (by omega)) ?_
      rintro h1 _ ⟨W1, rfl, -, -⟩
      have est : o_told (rk_v M (s_cd (-6) x 10000)) = bl_st M x := rfl
      rw [est]
      refine bX11_build_39 (c_X11_indexGoesTo ok) ?_
      rintro _ _ ⟨hh, rfl⟩
      rw [hh]
      have hon : ((if bl_st M x = -2147483648 then (1000 : Int32) else bl_st M x) = 1000) ↔ (bl_st M x = -2147483648 ∨ bl_st M x = 1000) := by
        by_cases c : bl_st M x = -2147483648
        · rw [if_pos c]; exact ⟨fun _ => Or.inl c, fun _ => rfl⟩
        · rw [if_neg c]; exact ⟨fun z => Or.inr z, fun z => by rcases z with z | z; exact absurd z c; exact z⟩
      refine bX11_build_42 (fun c => ?_) (fun c => bX11_build_50 (X1 (q := 3) (by decide) (by unfold F_build; rw [if_neg (by rw [hin]; decide), if_neg (by rw [hm]; decide), if_pos (hon.mp c)]) W1))
      have c' : ¬ (bl_st M x = -2147483648 ∨ bl_st M x = 1000) := fun z => c (hon.mpr z)
      rw [if_neg (fun z => c' (Or.inl z))]
      have hF : F_build M x most = (g_cm M (bl_E M x most), 0, nI (bl_run M x most).2.1) := by
        unfold F_build; rw [if_neg (by rw [hin]; decide), if_neg (by rw [hm]; decide), if_neg c']
      -- where it starts
      have hstart : ∃ s0 : Nat, s0 ≤ 100 ∧ (if (bl_st M x + 1) < 0 then (0 : Int32) else (bl_st M x + 1)) = nI s0 ∧ (∀ j, j < 100 → (nI j ≤ bl_st M x ↔ j < s0)) := by
        have hv : bl_st M x = -1000 ∨ ∃ j, j < 100 ∧ bl_st M x = nI j := by
          have e : bl_st M x = o_told (rk_v M (sv_co x)) := rfl
          cases hr : rk_v M (sv_co x) with
          | none => rw [hr] at e; exact absurd (Or.inl e) c'
          | some v =>
            rw [hr] at e
            have e : bl_st M x = v := e
            rcases hst hin v hr with z | z | ⟨j, hj, z⟩
            · exact absurd (Or.inr (by rw [e, z])) c'
            · exact Or.inl (by rw [e, z])
            · exact Or.inr ⟨j, hj, by rw [e, z]⟩
        rcases hv with e | ⟨j, hj, e⟩
        · refine ⟨0, by omega, by rw [e]; decide, fun i hi => ?_⟩
          rw [e]
          constructor
          · intro z
            have z1 := Int32.le_iff_toInt_le.mp z
            rw [nI_toInt (by omega)] at z1
            have e1 : (-1000 : Int32).toInt = -1000 := by decide
            omega
          · intro z; omega
        · refine ⟨j + 1, by omega, ?_, fun i hi => ?_⟩
          · rw [e, nI_1, if_neg]
            intro z
            have := (nI_ltI (a := j + 1) (b := 0) (by omega) (by omega)).mp z
            omega
          · rw [e, nI_leI (by omega) (by omega)]
            omega
      obtain ⟨s0, hs0, es0, hs1⟩ := hstart
      obtain ⟨o14, f0, f1, f2, f3, f4, f5, o11⟩ := W_ob W1
      have hbb : k_cti (tX11_buildBehind G l) [vR (some a), vI x, vI (bl_st M x), vI most] h1 (fun h' v => c_W a B h' (g_cm M (bl_E M x most)) (N + g_sp M (bl_E M x most)) w ∧ v = nI (bl_run M x most).2.1) := by
        refine k_cti_of (eX11_buildBehind ok.2 (bX11_buildBehind_0 o14 rfl (k_is_o o11) (O_open ok W1 (by omega)) ?_))
        rintro h2 ⟨O2, -⟩
        refine bX11_buildBehind_8 ?_
        rw [es0]
        -- the end
        have fin : ∀ (hh : k_H) (x6 : Int32) (E : e_S) (b : Nat) (la : Int32), c_O a B hh M E N w → e_ex (g_n M) (g_E M) E → (bl_run M x most).1 = E → (bl_run M x most).2.1 = b → (bl_run M x most).2.2.1 = la → (x6 = 0 ↔ (bl_run M x most).2.2.2 = 0) →
            k_X (jX11_buildBehind G l h1) hh 101 [(0, vR (some a)), (1, vI x), (4, vI (nI b)), (5, vI la), (6, vI x6)] [] (q_i (fun h' v => c_W a B h' (g_cm M (bl_E M x most)) (N + g_sp M (bl_E M x most)) w ∧ v = nI (bl_run M x most).2.1)) := by
          intro hh x6 E b la O3 hex e1 e2 e3 e4
          obtain ⟨o14, f0, f1, f2, f3, f4, f5, o11⟩ := O_ob O3
          refine bX11_buildBehind_101 o14 rfl (c_X11_codeOf_ ok na_m6.1 nx) ?_
          rintro _ _ ⟨hh3, rfl⟩
          rw [hh3]
          have put : ∀ v : Int32, v = (if 0 < (bl_run M x most).2.2.2 then (bl_run M x most).2.2.1 else 1000) → k_X (jX11_buildBehind G l h1) hh 125 [(0, vR (some a)), (4, vI (nI b))] [vI v, vJ (lN (s_cd (-6) x 10000)), vI 0, vR (some (a + 1))] (q_i (fun h' v => c_W a B h' (g_cm M (bl_E M x most)) (N + g_sp M (bl_E M x most)) w ∧ v = nI (bl_run M x most).2.1)) := fun v hv => by
            have eE : bl_E M x most = e_put (g_n M + 1) (s_cd (-6) x 10000) (s_apO 0 v (nI (g_n M + 1)) (r_val (s_cd (-6) x 10000) (g_n M + 1) E.2.1)) E := by
              unfold bl_E
              rw [← hv, e1, ap_set]
              rfl
            refine bX11_buildBehind_125 (k_is_o o11) (O_alter ok O3 hco (by rw [← eE]; exact g2)) ?_
            rintro h4 ⟨O4, -⟩
            rw [← eE] at O4
            obtain ⟨o14, -⟩ := O_ob O4
            refine bX11_buildBehind_128 (k_is_o o14) (O_close ok O4 ?_ g2 hpk h0 g1) ?_
            · rw [eE]; exact ex_trans hex (ex_put _ _ _ _)
            rintro h5 ⟨W5, -⟩
            exact bX11_buildBehind_132 ⟨_, rfl, W5, by rw [e2]⟩
          refine bX11_buildBehind_112 (fun c => bX11_buildBehind_122 (put 1000 ?_)) (fun c => bX11_buildBehind_117 (put la ?_))
          · rw [e4.mp c, if_neg (Nat.lt_irrefl 0)]
          · rw [if_pos (Nat.pos_of_ne_zero (fun z => c (e4.mpr z))), e3]
        -- the loop
        have key : ∀ (d j : Nat) (hh : k_H) (A : b_S), 100 - j = d → s0 ≤ j → j ≤ 100 → (List.range' 0 j).foldl (bl_step (g_n M + 1) x (bl_st M x) most) (g_E M, 0, bl_st M x, 0) = A → A.2.2.2 = 0 → A.2.1 ≤ most.toInt.toNat → (∀ i, i < 100 → r_val (sv_re (nI i)) (g_n M + 1) A.1.2.1 = r_val (sv_re (nI i)) (g_n M + 1) (g_E M).2.1) → e_ex (g_n M) (g_E M) A.1 → c_O a B hh M A.1 N w →
            k_X (jX11_buildBehind G l h1) hh 26 [(0, vR (some a)), (1, vI x), (3, vI most), (4, vI (nI A.2.1)), (5, vI A.2.2.1), (6, vI 0), (7, vI (nI j))] [] (q_i (fun h' v => c_W a B h' (g_cm M (bl_E M x most)) (N + g_sp M (bl_E M x most)) w ∧ v = nI (bl_run M x most).2.1)) := by
          intro d
          induction d with
          | zero =>
            intro j hh A hd hj1 hj2 hA hm0 hmo hr hex O3
            have ej : j = 100 := by omega
            subst ej
            refine bX11_buildBehind_26 (fun _ => ?_) (fun c => absurd (by decide) c)
            have hA2 : bl_run M x most = A := hA
            exact fin hh 0 _ _ _ O3 hex (by rw [hA2]) (by rw [hA2]) (by rw [hA2]) (by rw [hA2]; exact ⟨fun _ => hm0, fun _ => rfl⟩)
          | succ d ih =>
            intro j hh A hd hj1 hj2 hA hm0 hmo hr hex O3
            have hj100 : j < 100 := by omega
            have hnj : s_na (nI j) := na_100 (by omega)
            have hcr := s_cd_lt na_m6.2.2.2.2.2.2.1 hnj na_m6.2.2.2.2.2.2.2
            have hsplit : List.range' 0 100 = List.range' 0 (j + 1) ++ List.range' (j + 1) (100 - (j + 1)) := by
              have := List.range'_append (s := 0) (m := j + 1) (n := 100 - (j + 1)) (step := 1)
              rw [show j + 1 + (100 - (j + 1)) = 100 by omega, Nat.one_mul, Nat.zero_add] at this
              exact this.symm
            have hstep : (List.range' 0 (j + 1)).foldl (bl_step (g_n M + 1) x (bl_st M x) most) (g_E M, 0, bl_st M x, 0) = bl_step (g_n M + 1) x (bl_st M x) most A j := by
              rw [List.range'_concat, List.foldl_append, hA]
              show bl_step _ _ _ _ A (0 + 1 * j) = _
              rw [Nat.one_mul, Nat.zero_add]
            have hrun : bl_run M x most = (List.range' (j + 1) (100 - (j + 1))).foldl (bl_step (g_n M + 1) x (bl_st M x) most) (bl_step (g_n M + 1) x (bl_st M x) most A j) := by
              unfold bl_run
              rw [hsplit, List.foldl_append, hstep]
            have hcond : decide (¬ nI j ≤ bl_st M x) = true := decide_eq_true (fun z => by have := (hs1 j hj100).mp z; omega)
            obtain ⟨o14, f0, f1, f2, f3, f4, f5, o11⟩ := O_ob O3
            refine bX11_buildBehind_26 (fun c => absurd ((nI_ltI (a := 99) (by omega) (by omega)).mp c) (by omega)) (fun _ => bX11_buildBehind_33 (fun c => absurd rfl c) (fun _ => bX11_buildBehind_38 o14 rfl (c_X11_codeOf_ ok na_m6.2.2.2.2.2.2.1 hnj) ?_))
            rintro _ _ ⟨hh3, rfl⟩
            rw [hh3]
            refine bX11_buildBehind_48 (k_is_o o11) (O_value ok O3 (by omega)) ?_
            rintro h3 _ ⟨O4, rfl⟩
            have esr : r_val (s_cd (-1) (nI j) 10000) (g_n M + 1) A.1.2.1 = r_val (sv_re (nI j)) (g_n M + 1) A.1.2.1 := rfl
            rw [esr]
            cases hv : r_val (sv_re (nI j)) (g_n M + 1) A.1.2.1 with
            | none =>
              have hs2 : bl_step (g_n M + 1) x (bl_st M x) most A j = A := by
                unfold bl_step
                rw [hv, Option.isSome_none, Bool.and_false, if_neg (by decide)]
              rw [hs2] at hstep
              refine bX11_buildBehind_51 (fun _ => bX11_buildBehind_72 (fun _ => bX11_buildBehind_95 ?_) (fun c => absurd rfl c)) (fun c => absurd rfl c)
              rw [nI_1]
              exact ih (j + 1) h3 A (by omega) (by omega) (by omega) hstep hm0 hmo hr hex O4
            | some f =>
              have hfna : s_na f := hrec j hj100 f (by rw [← hr j hj100, hv])
              have hfne := na_ne hfna
              have e5 : o_told (some f) = f := rfl
              rw [e5]
              refine bX11_buildBehind_51 (fun c => absurd c hfne) (fun _ => bX11_buildBehind_60 (fun c => ?_) (fun c => bX11_buildBehind_66 (bX11_buildBehind_95 ?_)))
              · have hlt : A.2.1 < most.toInt.toNat := by
                  by_cases e : A.2.1 = most.toInt.toNat
                  · exact absurd (by rw [e]; exact hm1.symm) c
                  · omega
                have hs2 : bl_step (g_n M + 1) x (bl_st M x) most A j = (bl_one (g_n M + 1) x j f A.1, A.2.1 + 1, nI j, A.2.2.2) := by
                  unfold bl_step
                  rw [hv, Option.isSome_some, Bool.and_true, if_pos hcond, if_neg]
                  · rfl
                  · intro z
                    rw [hm1] at z
                    have := (nI_leI (by omega) (by omega)).mp z
                    omega
                have le1 : e_lim (bl_one (g_n M + 1) x j f A.1) := by
                  have h9 := bl_run_le (g_n M + 1) x (bl_st M x) most (List.range' (j + 1) (100 - (j + 1))) (bl_step (g_n M + 1) x (bl_st M x) most A j)
                  rw [← hrun, hs2] at h9
                  exact e_lim_le g2 (e_le_trans h9 (e_le_put _ _ _ _))
                obtain ⟨o14, -⟩ := O_ob O4
                refine bX11_buildBehind_72 (fun c2 => absurd c2 hfne) (fun _ => bX11_buildBehind_79 (k_is_o o14) (C_putNow ok O4 hin hj100 hfna le1) ?_)
                rintro h4 O5
                refine bX11_buildBehind_88 (bX11_buildBehind_95 ?_)
                rw [nI_1, nI_1]
                rw [hs2] at hstep
                exact ih (j + 1) h4 _ (by omega) (by omega) (by omega) hstep hm0 (by show A.2.1 + 1 ≤ _; omega) (fun i hi => by
                  show r_val _ _ (bl_one (g_n M + 1) x j f A.1).2.1 = _
                  rw [bl_one_rec hfna hj100 hn i hi]
                  exact hr i hi) (ex_trans hex bl_one_ex) O5
              · have hle : most ≤ nI A.2.1 := by rw [c]; exact Int32.le_refl _
                have hs2 : bl_step (g_n M + 1) x (bl_st M x) most A j = (A.1, A.2.1, A.2.2.1, A.2.2.2 + 1) := by
                  unfold bl_step
                  rw [hv, Option.isSome_some, Bool.and_true, if_pos hcond, if_pos hle]
                obtain ⟨m1, m2, m3, m4⟩ := bl_more (g_n M + 1) x (bl_st M x) most (List.range' (j + 1) (100 - (j + 1))) (bl_step (g_n M + 1) x (bl_st M x) most A j) (by rw [hs2]; exact hle)
                rw [← hrun] at m1 m2 m3 m4
                rw [hs2] at m1 m2 m3 m4
                have F := fin h3 1 _ _ _ O4 hex m1 m2 m3 ⟨fun z => absurd z (by decide), fun z => by
                  have m4 : A.2.2.2 + 1 ≤ (bl_run M x most).2.2.2 := m4
                  omega⟩
                refine bX11_buildBehind_26 (fun _ => F) (fun _ => bX11_buildBehind_33 (fun _ => F) (fun c2 => absurd c2 (by decide)))
        refine key (100 - s0) s0 h2 (g_E M, 0, bl_st M x, 0) rfl (Nat.le_refl _) hs0 ?_ rfl (Nat.zero_le _) (fun _ _ => rfl) (ex_refl _ _) O2
        refine bl_skip _ _ _ _ _ _ (fun j hj => ?_)
        have hj2 := List.mem_range'_1.mp hj
        exact (hs1 j (by omega)).mpr (by omega)
      refine bX11_build_61 (k_is_o o14) hbb ?_
      rintro h2 _ ⟨W2, rfl⟩
      exact bX11_build_68 (R_ok (W_le W2 (by omega)) hF)
    · unfold s_inB; rw [decide_eq_false (show ¬ ¬ (20 : Int32) < most from fun z => c (Int32.not_lt.mp z)), Bool.and_false]
end CBL
