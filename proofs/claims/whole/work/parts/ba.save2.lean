/-! SAVES: the invariant -/
theorem rk_cs (M2 : s_M) (t c : Nat) : (g_X (g_rk M2 t c) t).2.1 = (g_X M2 t).2.1 ∧ (g_X (g_rk M2 t c) t).1 = (g_X M2 t).1 := by
  have ex : g_X (g_rk M2 t c) t = ((g_X M2 t).1, (g_X M2 t).2.1, s_rdk true (g_X M2 t).2.1 (g_X M2 t).2.2 c (g_ser M2)) := by
    show (if t = t then _ else _) = _
    rw [if_pos rfl]
  rw [ex]
  exact ⟨rfl, rfl⟩
theorem r4_cs (M : s_M) (t : Nat) (n : Int32) : (g_X (sv_r4 M t n) t).2.1 = (g_X M t).2.1 ∧ (g_X (sv_r4 M t n) t).1 = (g_X M t).1 := by
  unfold sv_r4
  obtain ⟨a1, b1⟩ := rk_cs (g_rk (g_rk (g_rk M t (sv_co 0)) t (sv_co 1)) t (sv_co 2)) t (sv_re n)
  obtain ⟨a2, b2⟩ := rk_cs (g_rk (g_rk M t (sv_co 0)) t (sv_co 1)) t (sv_co 2)
  obtain ⟨a3, b3⟩ := rk_cs (g_rk M t (sv_co 0)) t (sv_co 1)
  obtain ⟨a4, b4⟩ := rk_cs M t (sv_co 0)
  exact ⟨by rw [a1, a2, a3, a4], by rw [b1, b2, b3, b4]⟩
section SV2
variable {M : s_M} {t : Nat} {W R Vs : List Nat} {kn jf : Nat} {saves : Bool}
theorem sP_0 (K : i_K (g_E M)) (hy : ∀ y ∈ (g_X M t).2.1, y_y (g_E M).1 W R y) : sv_P M t W R 0 0 0 0 0 M :=
  ⟨⟨rfl, rfl, rfl, rfl, rfl⟩, fun _ _ => rfl, rfl, ⟨K, fun x hx => Or.inl ⟨x.2, hx⟩, fun _ h => h, Nat.le_refl _, rfl⟩, Nat.le_refl _, hy, Nat.le_refl _, Nat.le_refl _, Nat.le_refl _, Nat.le_refl _, Nat.le_refl _⟩
theorem sP_mid (K : i_K (g_E M)) (hy : ∀ y ∈ (g_X M t).2.1, y_y (g_E M).1 W R y) (hold : ∀ v, (g_see M t (sv_re (nI kn))).1 = some v → ∃ j, y_rec W R kn j ∧ v = nI j) (hr : y_rec W R kn jf) :
    sv_P M t W R 4 0 0 0 0 (sv_r4 M t (nI kn)) ∧ sv_P M t W R 4 4 7 0 4 (sv_mid M t (nI kn) saves (nI jf)) := by
  have h4 : sv_P M t W R 4 0 0 0 0 (sv_r4 M t (nI kn)) := sP_rk (sP_rk (sP_rk (sP_rk (sP_0 K hy))))
  refine ⟨h4, ?_⟩
  have nk : s_na (nI kn) := na_100 (by have := hr.1; omega)
  have nf : s_na (nI jf) := na_100 (by have := hr.2.1; omega)
  have old : (g_see M t (sv_re (nI kn))).1.isSome = true → ∃ j, y_rec W R kn j ∧ o_told (g_see M t (sv_re (nI kn))).1 = nI j := fun h => by
    obtain ⟨v, hv⟩ := Option.isSome_iff_exists.mp h
    obtain ⟨j, h1, h2⟩ := hold v hv
    exact ⟨j, h1, by rw [hv]; exact h2⟩
  unfold sv_mid sv_p
  generalize o_told (g_see M t (sv_re (nI kn))).1 = ov at old ⊢
  generalize (g_see M t (sv_re (nI kn))).1.isSome = had at old ⊢
  have cx : ∀ {g b : Bool}, (g && b) = true → b = true := fun {g b} h => by rw [Bool.and_eq_true] at h; exact h.2
  have s1 : sv_P M t W R 4 1 1 0 1 (sv_1 (sv_go M t 0 (nI kn) && had) t 1 (s_cd (-2) ov (nI kn)) 0 0 (sv_r4 M t (nI kn))) := by
    refine sP_1 h4 (fun h => ?_) (by decide) (by decide) (by decide) (by decide)
    obtain ⟨j, h1, e⟩ := old (cx h)
    have nj : s_na (nI j) := na_100 (by have := h1.2.1; omega)
    rw [e]
    exact sP_c h4 (s_cd_lt na_m6.2.2.2.2.2.1 nj nk) (Or.inl (by rw [s_cd_div nj nk]; rfl))
  have s2 : sv_P M t W R 4 2 3 0 2 (sv_1 (sv_go M t 0 (nI kn) && saves) t 0 (s_cd (-2) (nI jf) (nI kn)) 0 0 (sv_1 (sv_go M t 0 (nI kn) && had) t 1 (s_cd (-2) ov (nI kn)) 0 0 (sv_r4 M t (nI kn)))) :=
    sP_1 s1 (fun h => sP_v s1 (s_cd_lt na_m6.2.2.2.2.2.1 nf nk) (Or.inl rfl) hr.2.2.1 (Or.inl (by rw [s_cd_div nf nk]; rfl))) (by decide) (by decide) (by decide) (by decide)
  have s3 : sv_P M t W R 4 3 5 0 3 (sv_1 (sv_go M t 1 (nI kn) && had) t 2 (s_cd (-3) ov 10000) (-1) 0 (sv_1 (sv_go M t 0 (nI kn) && saves) t 0 (s_cd (-2) (nI jf) (nI kn)) 0 0 (sv_1 (sv_go M t 0 (nI kn) && had) t 1 (s_cd (-2) ov (nI kn)) 0 0 (sv_r4 M t (nI kn))))) := by
    refine sP_1 s2 (fun h => ?_) (by decide) (by decide) (by decide) (by decide)
    obtain ⟨j, h1, e⟩ := old (cx h)
    have nj : s_na (nI j) := na_100 (by have := h1.2.1; omega)
    rw [e] at s2 ⊢
    exact sP_v s2 (s_cd_lt na_m6.2.2.2.2.1 nj (Or.inl rfl)) (Or.inr rfl) h1.2.2.2.1 (Or.inr (by rw [s_cd_div nj (Or.inl rfl)]; rfl))
  exact sP_1 s3 (fun h => sP_v s3 (s_cd_lt na_m6.2.2.2.2.1 nf (Or.inl rfl)) (Or.inr rfl) hr.2.2.2.1 (Or.inr (by rw [s_cd_div nf (Or.inl rfl)]; rfl))) (by decide) (by decide) (by decide) (by decide)
/-- what a save leaves -/
theorem sP_end (K : i_K (g_E M)) (hy : ∀ y ∈ (g_X M t).2.1, y_y (g_E M).1 W R y) (hold : ∀ v, (g_see M t (sv_re (nI kn))).1 = some v → ∃ j, y_rec W R kn j ∧ v = nI j) (hr : y_rec W R kn jf) (hV : ∀ x ∈ (g_E M).1, x.1 / 121000000 = 996 → ∃ v ∈ Vs, s_dig x.1 1 = v + 1000) :
    sv_P M t W R 4 (6 + Vs.length) (11 + Vs.length) 1 5 (sv_w M t (nI kn) saves (nI jf)).1 ∧ ((g_X (sv_w M t (nI kn) saves (nI jf)).1 t).2.1 = (g_X M t).2.1 ∨ z_sum z_s6 (g_X (sv_w M t (nI kn) saves (nI jf)).1 t).2.1 < (g_X (sv_w M t (nI kn) saves (nI jf)).1 t).2.1.length) ∧
    (sv_seen (g_sdr (sv_mid M t (nI kn) saves (nI jf)) t (nI kn)) t (nI kn)).length ≤ Vs.length := by
  obtain ⟨h4, hm⟩ := sP_mid (saves := saves) K hy hold hr
  obtain ⟨q1, q2⟩ := seen_at (n := nI kn) (sP_sdr (n := nI kn) hm) hV
  refine ⟨?_, ?_, q1⟩
  · unfold sv_w
    split
    · exact sP_mono h4 (Nat.le_refl _) (by omega) (by omega) (by omega) (by omega)
    · have eall : sv_all M t (nI kn) saves (nI jf) = sv_f (sv_go M t 2 (nI kn)) saves t (nI kn) (nI jf) (sv_q (sv_go M t 2 (nI kn) && (g_see M t (sv_re (nI kn))).1.isSome) t (nI kn) (sv_mid M t (nI kn) saves (nI jf))) := rfl
      show sv_P M t W R 4 (6 + Vs.length) (11 + Vs.length) 1 5 (sv_all M t (nI kn) saves (nI jf))
      rw [eall]
      have hq : sv_P M t W R 4 (4 + Vs.length) (7 + Vs.length) 0 4 (sv_q (sv_go M t 2 (nI kn) && (g_see M t (sv_re (nI kn))).1.isSome) t (nI kn) (sv_mid M t (nI kn) saves (nI jf))) := by
        unfold sv_q
        split
        · have := sP_cls _ _ _ _ q2 (sP_sdr (n := nI kn) hm)
          exact sP_mono this (Nat.le_refl _) (by omega) (by omega) (Nat.le_refl _) (Nat.le_refl _)
        · exact sP_mono hm (Nat.le_refl _) (by omega) (by omega) (Nat.le_refl _) (Nat.le_refl _)
      generalize sv_q _ t (nI kn) _ = M3 at hq ⊢
      unfold sv_f
      have h6 : sv_P M t W R 4 (5 + Vs.length) (9 + Vs.length) 1 4 (sv_1 (sv_go M t 2 (nI kn) && saves) t 6 (s_cd (-4) 0 (nI kn)) (nI jf) 1 M3) :=
        sP_1 hq (fun _ => sP_mono (sP_6 hq hr.1) (Nat.le_refl _) (by omega) (by omega) (by omega) (by omega)) (by omega) (by omega) (by omega) (by omega)
      generalize sv_1 _ t 6 _ _ 1 M3 = M4 at h6 ⊢
      cases saves with
      | true => exact sP_mono (sP_r h6 hr) (Nat.le_refl _) (by omega) (by omega) (by omega) (by omega)
      | false =>
        have hc : sv_re (nI kn) < 1331000000000 := s_cd_lt na_m6.2.2.2.2.2.2.1 (na_100 (by have := hr.1; omega)) (Or.inl rfl)
        exact sP_mono (sP_c h6 hc (Or.inr (re_ly hr.1))) (Nat.le_refl _) (by omega) (by omega) (by omega) (by omega)
  · unfold sv_w
    split
    · exact Or.inl (r4_cs M t (nI kn)).1
    · right
      have eall : sv_all M t (nI kn) saves (nI jf) = sv_f (sv_go M t 2 (nI kn)) saves t (nI kn) (nI jf) (sv_q (sv_go M t 2 (nI kn) && (g_see M t (sv_re (nI kn))).1.isSome) t (nI kn) (sv_mid M t (nI kn) saves (nI jf))) := rfl
      show z_sum z_s6 (g_X (sv_all M t (nI kn) saves (nI jf)) t).2.1 < (g_X (sv_all M t (nI kn) saves (nI jf)) t).2.1.length
      rw [eall]
      unfold sv_f
      generalize sv_1 _ t 6 _ _ 1 _ = M4
      have ex : ∀ (k w p : Int32) (c : Nat), g_X (g_kc M4 t k c w p) t = ((g_X M4 t).1, (g_X M4 t).2.1 ++ [(g_ser M4 + 1, k, c, c + 1, w, p)], (g_X M4 t).2.2) := fun k w p c => by
        show (if t = t then _ else _) = _
        rw [if_pos rfl]
      rw [ex]
      show z_sum z_s6 ((g_X M4 t).2.1 ++ [_]) < ((g_X M4 t).2.1 ++ [_]).length
      rw [zs_app, List.length_append]
      have := s6_le (g_X M4 t).2.1
      have e1 : z_sum z_s6 [(g_ser M4 + 1, (if saves = true then 0 else 1 : Int32), sv_re (nI kn), sv_re (nI kn) + 1, (if saves = true then nI jf else -2147483648), (0 : Int32))] = 0 := by
        unfold z_sum z_s6
        cases saves
        · rfl
        · rfl
      rw [e1]
      show _ < _ + 1
      omega
end SV2
theorem A_save {i N w t : Nat} {M : s_M} {W S R V Vs : List Nat} {a s b p C D X Y Np kn jf : Nat} (I : i_A i M N w W S R V Vs a s b p C D X Y Np) (hi : i < 512) (ht : t < 4) (hk : kn < 100) (hj : jf < 100) (saves : Bool) :
    (∀ v, (g_see M t (sv_re (nI kn))).1 = some v → ∃ j, j < 100 ∧ v = nI j) ∧ sv_st M t (nI kn) = false ∧ sv_P M t (sv_re (nI kn) :: s_cd (-2) (nI jf) (nI kn) :: s_cd (-3) (nI jf) 10000 :: W) (kn :: R) 4 4 7 0 4 (sv_mid M t (nI kn) saves (nI jf)) ∧
    sv_P M t (sv_re (nI kn) :: s_cd (-2) (nI jf) (nI kn) :: s_cd (-3) (nI jf) 10000 :: W) (kn :: R) 4 (6 + C) (11 + C) 1 5 (sv_w M t (nI kn) saves (nI jf)).1 ∧ ((g_X (sv_w M t (nI kn) saves (nI jf)).1 t).2.1 = (g_X M t).2.1 ∨ z_sum z_s6 (g_X (sv_w M t (nI kn) saves (nI jf)).1 t).2.1 < (g_X (sv_w M t (nI kn) saves (nI jf)).1 t).2.1.length) ∧
    (sv_seen (g_sdr (sv_mid M t (nI kn) saves (nI jf)) t (nI kn)) t (nI kn)).length ≤ C := by
  obtain ⟨⟨g1, g2, g3⟩, hS, gX, gC, gN, g4, g5, g6⟩ := I
  have hW : ∀ c ∈ W, c ∈ (sv_re (nI kn) :: s_cd (-2) (nI jf) (nI kn) :: s_cd (-3) (nI jf) 10000 :: W) := fun c h => List.mem_cons_of_mem _ (List.mem_cons_of_mem _ (List.mem_cons_of_mem _ h))
  have hR : ∀ c ∈ R, c ∈ kn :: R := fun c h => List.mem_cons_of_mem _ h
  have hy := fun y hy => yy_mono (fun _ h => h) hW hR ((gX t ht).1 y hy)
  have sr := see_M (c := sv_re (nI kn)) gX hS.2.1.1 ht (Or.inl (re_ly hk))
  have hold : ∀ v, (g_see M t (sv_re (nI kn))).1 = some v → ∃ j, y_rec (sv_re (nI kn) :: s_cd (-2) (nI jf) (nI kn) :: s_cd (-3) (nI jf) 10000 :: W) (kn :: R) kn j ∧ v = nI j := fun v hv => by
    obtain ⟨j, h1, h2⟩ := sr.2 kn hk rfl v hv
    exact ⟨j, yrec_mono hW hR h1, h2⟩
  have hr : y_rec (sv_re (nI kn) :: s_cd (-2) (nI jf) (nI kn) :: s_cd (-3) (nI jf) 10000 :: W) (kn :: R) kn jf := ⟨hk, hj, List.mem_cons_of_mem _ List.mem_cons_self, List.mem_cons_of_mem _ (List.mem_cons_of_mem _ List.mem_cons_self), List.mem_cons_self, List.mem_cons_self⟩
  obtain ⟨-, hm⟩ := sP_mid (saves := saves) hS.1.2 hy hold hr
  obtain ⟨e1, e2, e3⟩ := sP_end (saves := saves) hS.1.2 hy hold hr hS.2.1.2.2.1
  have hC := hS.2.1.2.2.2.2
  refine ⟨fun v hv => ?_, ?_, hm, sP_mono e1 (Nat.le_refl _) (by omega) (by omega) (Nat.le_refl _) (Nat.le_refl _), e2, Nat.le_trans e3 hC⟩
  · obtain ⟨j, h1, h2⟩ := sr.2 kn hk rfl v hv
    exact ⟨j, h1.2.1, h2⟩
  · unfold sv_st
    have c0 := (see_M (c := sv_co 0) gX hS.2.1.1 ht (Or.inr (co_ly (i := 0) (by decide)))).1
    have c1 := (see_M (c := sv_co 1) gX hS.2.1.1 ht (Or.inr (co_ly (i := 1) (by decide)))).1
    have c2 := (see_M (c := sv_co 2) gX hS.2.1.1 ht (Or.inr (co_ly (i := 2) (by decide)))).1
    rw [c0, c1, c2, sr.1]
    rfl
theorem I_sv {i N w t N' w' : Nat} {M : s_M} {W S R V Vs : List Nat} {a s b p C D X Y Np kn jf : Nat} (I : i_A i M N w W S R V Vs a s b p C D X Y Np) (hi : i < 512) (ht : t < 4) (hk : kn < 100) (hj : jf < 100) (saves : Bool) (hl : (g_X M t).2.1.length < 12) (hN : N' ≤ N + 10 + C) (hw : w' ≤ w + 12) : i_I (i + 1) (sv_w M t (nI kn) saves (nI jf)).1 N' w' := by
  obtain ⟨-, -, -, P, alt, -⟩ := A_save I hi ht hk hj saves
  obtain ⟨⟨g1, g2, g3⟩, hS, gX, gC, gN, g4, g5, g6⟩ := I
  have i1 := i1_save (x := nI kn) (saves := saves) (field := nI jf) g1 ht
  generalize (sv_w M t (nI kn) saves (nI jf)).1 = M' at P alt i1 ⊢
  obtain ⟨⟨a1, a2, a3, a4, a5⟩, b1, b2, ⟨c1, c2, c3, c4, c5⟩, d1, d2, d3, d4, d5, d6, d7⟩ := P
  have hW : ∀ c ∈ W, c ∈ (sv_re (nI kn) :: s_cd (-2) (nI jf) (nI kn) :: s_cd (-3) (nI jf) 10000 :: W) := fun c h => List.mem_cons_of_mem _ (List.mem_cons_of_mem _ (List.mem_cons_of_mem _ h))
  have hR : ∀ c ∈ R, c ∈ kn :: R := fun c h => List.mem_cons_of_mem _ h
  have hCi : C ≤ i := gN.2.2.2.2.2.2.2
  obtain ⟨x1, x2, x3, x4, x5, x6⟩ := gX t ht
  have cyl := cy_le (g_X M t).2.1
  have w1l := w1_le (g_X M t).2.1
  have s6l := s6_le (g_X M t).2.1
  have eMK : g_MK M' = g_MK M := congrArg (fun q => q.2.1) a5
  have ePT : g_PT M' = g_PT M := congrArg (fun q => q.2.2.1) a5
  have eDS : g_DS M' = g_DS M := congrArg (fun q => q.2.2.2) a5
  have zc : z_C M' ≤ z_C M + 1 := by
    have := z4_up2 (f := fun u => z_cr (g_n M) (g_X M u)) (g := fun u => z_cr (g_n M') (g_X M' u)) ht (fun u hu => by rw [b1 u hu, a1]; exact Nat.le_refl _)
    have e1 : z_cr (g_n M') (g_X M' t) ≤ z_cr (g_n M) (g_X M t) + 1 := by
      rw [a1]
      rcases alt with e | e
      · rw [zcr_hd e (by rw [b2])]; exact Nat.le_succ _
      · exact zcr_sv hl d7 e
    have e2 : z_los M' = z_los M := by unfold z_los; rw [a3]
    unfold z_C
    rw [e2]
    omega
  refine ⟨sv_re (nI kn) :: s_cd (-2) (nI jf) (nI kn) :: s_cd (-3) (nI jf) 10000 :: W, S, kn :: R, V, Vs, a + 1, s, b, p + 1, C, D, X, Y + C, Np, ⟨⟨i1_mono i1 (by omega) (Nat.le_succ _), iD_same g2 eDS, by omega⟩, ?_, ?_, ⟨?_, ?_, gC.2.2⟩, iN_p gN ?_, by omega, ?_, by omega⟩⟩
  · refine S_same hS (Nat.le_succ _) hW hR (fun k hk' => ?_) (by simp only [List.length_cons]; omega) (by simp) a1 a4 eMK ePT c1 (fun x hx => ?_) (by have := hS.2.2.2.2.1.1; omega) c5
    · rcases List.mem_cons.mp hk' with rfl | hk'
      · exact hk
      · exact hS.2.2.1.2.2.1.2 k hk'
    · rcases c2 x hx with g | g
      · exact Or.inl g
      · exact Or.inr ⟨fun z => by omega, by omega⟩
  · intro u hu
    by_cases e : u = t
    · subst e
      exact ⟨d2, by omega, by omega, by omega, by omega, by omega⟩
    · rw [b1 u e]
      exact ix_mono (gX u hu) c3 hW hR (Nat.le_succ _) (Nat.le_refl _)
  · have := gC.1
    simp only [List.length_cons]
    omega
  · have := gC.2.1
    simp only [List.length_cons]
    omega
  · have := z4_bg (M := M) (M' := M') ht b1
    rw [b2] at this
    rw [a3]
    omega
  · rw [Nat.add_mul]; omega
theorem I_saved {i N w : Nat} {M : s_M} {x n : Int32} {saves : Bool} {field : Int32} (I : i_I i M N w) (hi : i < 512) (hfe : saves = false → field = 0) : ∃ sl, sv_C M n field saves sl ∧ i_I (i + 1) (F_saved M x n saves field).1 (N + 10 + sl) (w + 12) ∧ ∀ t, t < 4 → s_inB n 0 99 = true → (saves = true → s_inB field 0 99 = true) → g_shut M t = false → sv_L M t n saves field := by
  obtain ⟨W, S, R, V, Vs, a, s, b, p, C, D, X, Y, Np, I0⟩ := id I
  have l0 := A_lim I0 (by omega)
  have fj : (saves = true → s_inB field 0 99 = true) → ∃ jf, jf < 100 ∧ field = nI jf := fun h => by
    cases e : saves with
    | true =>
      obtain ⟨j, h1, h2⟩ := in99_n (h e)
      exact ⟨j, by omega, h2⟩
    | false => exact ⟨0, by decide, by rw [hfe e]; rfl⟩
  have gN := I0.2.2.2.2.1
  have hCi : C ≤ i := gN.2.2.2.2.2.2.2
  have sL : ∀ t, t < 4 → s_inB n 0 99 = true → (saves = true → s_inB field 0 99 = true) → g_shut M t = false → sv_L M t n saves field ∧ sv_st M t n = false ∧ (sv_seen (g_sdr (sv_mid M t n saves field) t n) t n).length ≤ C := by
    intro t ht hn hf hs
    obtain ⟨kn, hk, rfl⟩ := in99_n hn
    obtain ⟨jf, hj, rfl⟩ := fj hf
    obtain ⟨q1, q2, q3, q4, q5, q6⟩ := A_save (kn := kn) I0 hi ht (by omega) hj saves
    obtain ⟨sh1, sh2⟩ := z_shut (M := M) (t := t) (by rw [hs]; decide)
    obtain ⟨⟨g1, g2, g3⟩, hS, gX, -⟩ := I0
    have hser : g_ser M ≤ 2 ^ 29 := by omega
    have hsb : sv_B M t 4090 11990 (2 ^ 29) := ⟨Nat.le_of_lt (Nat.lt_of_lt_of_le sh2 (by decide)), by have := hS.2.2.2.2.1.1; omega, hser⟩
    refine ⟨⟨fun v hv => ?_, hsb, ?_, fun _ => ?_⟩, q2, q6⟩
    · obtain ⟨j, h1, h2⟩ := q1 v hv
      rw [h2]; exact na_100 (by omega)
    · have := (gX t ht).2.1; omega
    · have h1 := q3.2.2.2.2.2.2.2.1
      omega
  refine ⟨C, fun t ht hn hf hs => ?_, ?_, fun t ht hn hf hs => (sL t ht hn hf hs).1⟩
  · obtain ⟨h1, h2, h3⟩ := sL t ht hn hf hs
    obtain ⟨sh1, sh2⟩ := z_shut (M := M) (t := t) (by rw [hs]; decide)
    obtain ⟨⟨g1, g2, g3⟩, hS, gX, -⟩ := I0
    refine ⟨⟨sh1, (g1.2.2.2.1 t ht).1, fun u hu y hy => ?_, l0.1.2.1, l0.1.2.2, fun y hy e => ?_⟩, h1, h2, fun _ => h3⟩
    · rcases ((gX u hu).1 y hy).2.2 with g | g | g | g
      · exact Or.inl g.1
      · exact Or.inl g.1
      · exact Or.inr (Or.inr ⟨g.2.1, g.2.2.1⟩)
      · exact Or.inr (Or.inl g.1)
    · rcases ((gX t ht).1 y hy).2.2 with g | g | g | g
      · rw [e] at g; exact absurd g.1 (by decide)
      · rw [e] at g; exact absurd g.1 (by decide)
      · rw [e] at g; exact absurd g.1 (by decide)
      · rw [e] at g; exact absurd g.1 (by decide)
  · rcases z_saved (M := M) (x := x) (n := n) (saves := saves) (field := field) with e | ⟨t, ht, hn, hf, hb, hl, -, e⟩
    · rw [e]
      obtain ⟨W1, S1, R1, V1, Vs1, a1, s1, b1, p1, C1, D1, X1, Y1, Np1, J⟩ := I_0 (N' := N + 12) I (Nat.le_refl _)
      have J' := J
      obtain ⟨j1, j2, j3, j4, j5, -, j6, -⟩ := J'
      obtain ⟨⟨g1, g2, g3⟩, hS, gX, gC, gN, g4, g5, g6⟩ := I0
      have hp := iN_p (M' := M) gN (Nat.le_add_right _ _)
      refine ⟨W, S, R, V, Vs, a + 1, s, b, p + 1, C, D, X, Y + C, Np, ⟨⟨i1_mono g1 (by omega) (Nat.le_succ _), iD_same g2 rfl, by omega⟩, ?_, iX_same rfl rfl gX, ⟨by have := gC.1; omega, by have := gC.2.1; omega, gC.2.2⟩, hp, by omega, by rw [Nat.add_mul]; omega, by omega⟩⟩
      exact S_same hS (Nat.le_succ _) (fun _ h => h) (fun _ h => h) hS.2.2.1.2.2.1.2 (Nat.le_refl _) (Nat.le_refl _) rfl rfl rfl rfl hS.1.2 (fun x hx => Or.inl ⟨x.2, hx⟩) (by have := hS.2.2.2.2.1.1; omega) rfl
    · rw [e]
      obtain ⟨kn, hk, rfl⟩ := in99_n hn
      obtain ⟨jf, hj, rfl⟩ := fj hf
      exact I_sv (kn := kn) I0 hi ht (by omega) hj saves hl (Nat.le_refl _) (Nat.le_refl _)
