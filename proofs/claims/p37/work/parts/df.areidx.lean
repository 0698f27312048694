/-! AREINDEXED, WALKED -/
def m_3 (M : s_M) (r : List (Nat × Nat × Nat)) : s_M := g_tx M 3 ((true, false, g_n M, g_gen M, 0), [], r)
theorem m3_X (M : s_M) (r : List (Nat × Nat × Nat)) : g_X (m_3 M r) 3 = ((true, false, g_n M, g_gen M, 0), [], r) := tx_at M 3 _
theorem m3_begin (M : s_M) : F_begin M 3 false = (m_3 M [], 0, nI (g_n M)) := by
  unfold F_begin
  rw [if_neg (by decide), show t_of 3 = 3 from by decide]
  rfl
theorem m3_rng (M : s_M) (r : List (Nat × Nat × Nat)) (lo hi : Nat) : g_rng (m_3 M r) 3 lo hi = r_flt lo hi (fun c => (g_U M (g_n M) c).isSome) (g_E M).1 := by
  unfold g_rng
  have e : (fun c => s_vis (g_see (m_3 M r) 3 c)) = fun c => (g_U M (g_n M) c).isSome := funext fun c => by
    unfold g_see
    rw [m3_X]
    show s_vis (r_val c (g_n M) (g_E M).2.1, false) = _
    unfold s_vis
    show ((r_val c (g_n M) (g_E M).2.1).isSome && true) = _
    rw [Bool.and_true]
    rfl
  rw [e]
  rfl
theorem m3_range (M : s_M) (r : List (Nat × Nat × Nat)) {a b : Int32} (h : s_rngB a b = true) : F_range (m_3 M r) 3 a b false = (m_3 M r, 0, nI (r_flt (s_lo a b) (s_la a b + 1) (fun c => (g_U M (g_n M) c).isSome) (g_E M).1).length) := by
  unfold F_range
  rw [if_neg (by decide), if_neg (by rw [h]; decide), show t_of 3 = 3 from by decide, if_neg (fun z => by rw [m3_X] at z; cases z), if_neg (by decide), m3_rng]
theorem m3_rdg (M : s_M) (r r' : List (Nat × Nat × Nat)) : g_rdg (m_3 M r) 3 r' = m_3 M r' := by
  unfold g_rdg
  rw [m3_X]
  unfold m_3 g_tx
  refine Prod.ext rfl (Prod.ext rfl (Prod.ext (funext fun q => ?_) rfl))
  show (if q = 3 then _ else if q = 3 then _ else M.2.2.1 q) = if q = 3 then _ else M.2.2.1 q
  split <;> rfl
theorem m3_rangeAt (M : s_M) (r : List (Nat × Nat × Nat)) {a b p w : Int32} (h : s_rngB a b = true) (hp : ¬ p < 0) (hw : s_inB w 0 2 = true) : F_rangeAt (m_3 M r) 3 a b p w = (m_3 M (r ++ [(s_lo a b, s_la a b + 1, g_ser M)]), 0, match (r_flt (s_lo a b) (s_la a b + 1) (fun c => (g_U M (g_n M) c).isSome) (g_E M).1)[p.toInt.toNat]? with | some y => s_no y.1 (s_pl w) | none => -2147483648) := by
  unfold F_rangeAt
  rw [if_neg (by rw [decide_eq_true hp]; decide), if_neg (by rw [h, hw]; decide), show t_of 3 = 3 from by decide, if_neg (fun z => by rw [m3_X] at z; cases z), m3_rng, m3_rdg]
  rw [m3_X]
  rfl
section AIW
variable {G : k_G} {l : Launch} {a i q : Nat} {A : lp_A} {M : s_M} {H : k_H}
theorem lp_e (W : lp_W a A i q M H) (hi : i < 512) : J_e M := by
  obtain ⟨h, N, w, po, -, -, -, -, N0, I, -⟩ := W
  exact J_ee I hi
/-- value in a version, asked -/
theorem q_val (ok : k_ok G l) (g0 : k_fh G = 0) (W : lp_W a A i q M H) (hi : i < 512) {v : Nat} (hv : v ≤ g_n M) {x y z : Int32} {c : Nat} (hk : s_keyB x y z = true) (hc : s_cd x y z = c) : k_cti (tX11_value G l) [vR (some a), vI (nI v), vI x, vI y, vI z] H (fun H' u => lp_W a A i (q + 1) M H' ∧ u = o_told (g_U M v c)) := by
  have n9 := (lp_e W hi).2.2.1
  have e : F_value M (nI v) x y z = (M, 0, o_told (g_U M v c)) := by
    unfold F_value
    have : s_inB (nI v) 0 (nI (g_n M)) = true := by
      unfold s_inB
      rw [decide_eq_true (nI_pos (by omega)), decide_eq_true (show ¬ nI (g_n M) < nI v from fun z => by have := (nI_ltI (by omega) (by omega)).mp z; omega)]
      rfl
    rw [this, hk, if_neg (by decide), hc, show (nI v).toInt.toNat = v from by rw [nI_toInt (by omega)]; rfl]
    rfl
  have c := lp_cti (lA_value ok g0 (v := nI v) (a1 := x) (b1 := y) (e1 := z) W hi) (by rw [e])
  rw [e] at c
  exact c
theorem s_nm_nI {n : Nat} (h : n < 9000) : s_nm (nI n) := s_nm_of (by rw [nI_toInt (by omega)]; omega) (by rw [nI_toInt (by omega)]; omega)
theorem key_1 {k : Nat} (hk : k < 9000) : s_keyB (-1) (nI k) 10000 = true ∧ s_cd (-1) (nI k) 10000 = wR k := by
  refine ⟨?_, wR_eq hk⟩
  unfold s_keyB
  rw [show s_nmB (-1) = true from by decide, s_nmB_iff.mpr (s_nm_nI hk)]
  simp
theorem key_2 {j k : Nat} (hj : j < 9000) (hk : k < 9000) : s_keyB (-2) (nI j) (nI k) = true ∧ s_cd (-2) (nI j) (nI k) = wF j k := by
  refine ⟨?_, wF_eq hj hk⟩
  unfold s_keyB
  rw [show s_nmB (-2) = true from by decide, s_nmB_iff.mpr (s_nm_nI hk), s_nmB_iff.mpr (s_nm_nI hj)]
  simp
theorem key_4 {u k : Nat} (hu : u < 9000) (hk : k < 9000) : s_keyB (-4) (nI u) (nI k) = true ∧ s_cd (-4) (nI u) (nI k) = wW u k := by
  refine ⟨?_, wW_eq hu hk⟩
  unfold s_keyB
  rw [show s_nmB (-4) = true from by decide, s_nmB_iff.mpr (s_nm_nI hk), s_nmB_iff.mpr (s_nm_nI hu)]
  simp
theorem cnt_s (P : Nat → Bool) (s : Nat) : nI ((List.range (s + 1)).countP P) = nI ((List.range s).countP P) + kB (P s) := by
  rw [List.range_succ, List.countP_append, List.countP_singleton]
  cases P s with
  | true => rw [show kB true = nI 1 from rfl, nI_add]; rfl
  | false => rw [show kB false = nI 0 from rfl, nI_add]; rfl
def i_b (M : s_M) (x : Nat) : Int32 := o_told (g_U M (g_n M) (wS x))
theorem i_bg (M : s_M) (x k : Nat) : j_g (g_U M (g_n M)) x k = s_goes (i_b M x) (nI k) := rfl
/-- the loop over the records -/
theorem ai_loop (ok : k_ok G l) (g0 : k_fh G = 0) (hi : i < 512) (A0 : j_A (g_U M (g_n M))) {h0 : k_H} {Q : k_H → k_R → Prop} {f b1 sr : Int32}
    (K : ∀ H1 q1, q1 ≤ q + 24 → lp_W a A i q1 M H1 → k_X (jL_areIndexed G l h0) H1 205 [(0, vR (some a)), (1, vI (nI (g_n M))), (2, vI f), (3, vI sr), (5, vI b1), (7, vI (nI ((List.range 12).countP (i_has (g_U M (g_n M)))))), (8, vI (nI ((List.range 12).countP (fun k => i_has (g_U M (g_n M)) k && j_g (g_U M (g_n M)) 0 k)))), (9, vI (nI ((List.range 12).countP (fun k => i_has (g_U M (g_n M)) k && j_g (g_U M (g_n M)) 2 k))))] [] Q) :
    ∀ (d s q1 : Nat) (H1 : k_H), s + d = 12 → q1 ≤ q + 2 * s → lp_W a A i q1 M H1 → k_X (jL_areIndexed G l h0) H1 51 [(0, vR (some a)), (1, vI (nI (g_n M))), (2, vI f), (3, vI sr), (4, vI (i_b M 0)), (5, vI b1), (6, vI (i_b M 2)), (7, vI (nI ((List.range s).countP (i_has (g_U M (g_n M)))))), (8, vI (nI ((List.range s).countP (fun k => i_has (g_U M (g_n M)) k && j_g (g_U M (g_n M)) 0 k)))), (9, vI (nI ((List.range s).countP (fun k => i_has (g_U M (g_n M)) k && j_g (g_U M (g_n M)) 2 k)))), (10, vI (nI s))] [] Q := by
  intro d
  induction d with
  | zero =>
    intro s q1 H1 hs hq W
    have e : s = 12 := by omega
    subst e
    exact bL_areIndexed_51 (fun _ => K H1 q1 (by omega) W) (fun c => absurd (by decide) c)
  | succ d ih =>
    intro s q1 H1 hs hq W
    have hlt : s < 12 := by omega
    refine bL_areIndexed_51 (fun c => absurd ((nI_leI (a := 12) (by omega) (by omega)).mp c) (by omega)) (fun _ => ?_)
    refine bL_areIndexed_58 (lp_is W) (q_val ok g0 W hi (Nat.le_refl _) (key_1 (by omega)).1 (key_1 (by omega)).2) ?_
    rintro H2 _ ⟨W2, rfl⟩
    have next : ∀ H3 q3, q3 ≤ q + 2 * (s + 1) → lp_W a A i q3 M H3 → ∀ x7 x8 x9, x7 = nI ((List.range s).countP (i_has (g_U M (g_n M)))) + kB (i_has (g_U M (g_n M)) s) → x8 = nI ((List.range s).countP (fun k => i_has (g_U M (g_n M)) k && j_g (g_U M (g_n M)) 0 k)) + kB (i_has (g_U M (g_n M)) s && j_g (g_U M (g_n M)) 0 s) → x9 = nI ((List.range s).countP (fun k => i_has (g_U M (g_n M)) k && j_g (g_U M (g_n M)) 2 k)) + kB (i_has (g_U M (g_n M)) s && j_g (g_U M (g_n M)) 2 s) →
        k_X (jL_areIndexed G l h0) H3 199 [(0, vR (some a)), (1, vI (nI (g_n M))), (2, vI f), (3, vI sr), (4, vI (i_b M 0)), (5, vI b1), (6, vI (i_b M 2)), (7, vI x7), (8, vI x8), (9, vI x9), (10, vI (nI s))] [] Q := by
      intro H3 q3 hq3 W3 x7 x8 x9 e7 e8 e9
      subst e7; subst e8; subst e9
      refine bL_areIndexed_199 ?_
      rw [← cnt_s, ← cnt_s (fun k => i_has (g_U M (g_n M)) k && j_g (g_U M (g_n M)) 0 k), ← cnt_s (fun k => i_has (g_U M (g_n M)) k && j_g (g_U M (g_n M)) 2 k), show nI s + 1 = nI (s + 1) from nI_add s 1]
      exact ih (s + 1) q3 H3 (by omega) hq3 W3
    cases hv : g_U M (g_n M) (wR s) with
    | none =>
      have hh : i_has (g_U M (g_n M)) s = false := by unfold i_has; rw [hv]; rfl
      refine bL_areIndexed_69 (fun _ => bL_areIndexed_82 (bL_areIndexed_83 (fun _ => bL_areIndexed_96 (bL_areIndexed_97 (fun _ => bL_areIndexed_121 (bL_areIndexed_122 (fun _ => bL_areIndexed_146 (bL_areIndexed_147 (fun _ => ?_) (fun c => absurd rfl c))) (fun c => absurd rfl c))) (fun c => absurd rfl c))) (fun c => absurd rfl c))) (fun c => absurd rfl c)
      exact next H2 (q1 + 1) (by omega) W2 _ _ _ (by rw [hh]; rfl) (by rw [hh, Bool.false_and]; rfl) (by rw [hh, Bool.false_and]; rfl)
    | some v =>
      obtain ⟨k', j, a1, a2, a3, a4⟩ := A0.1 _ v (by unfold wR; omega) (by unfold wR; omega) hv
      have ek : k' = s := by unfold wR at a3; omega
      subst ek
      subst a4
      have hh : i_has (g_U M (g_n M)) k' = true := by unfold i_has; rw [hv]; rfl
      have hF : o_told (g_U M (g_n M) (wF j k')) = if s_goes (i_b M 0) (nI k') = true then 0 else -2147483648 := by
        have key := A0.2.1 (wF j k') (by unfold wF; omega) (by unfold wF; omega)
        by_cases g : s_goes (i_b M 0) (nI k') = true
        · rw [if_pos g, (key 0).mpr ⟨rfl, k', j, a1, a2, rfl, hv, by rw [i_bg]; exact g⟩]; rfl
        · rw [if_neg g]
          cases e : g_U M (g_n M) (wF j k') with
          | none => rfl
          | some w =>
            obtain ⟨-, k2, j2, c1, c2, c3, c4, c5⟩ := (key w).mp e
            have : k2 = k' := by unfold wF at c3; omega
            subst this
            rw [i_bg] at c5
            exact absurd c5 g
      have ho : o_told (some (nI j)) = nI j := rfl
      rw [ho]
      have nn : ¬ nI j = -2147483648 := nI_none (by omega)
      have tail : ∀ x7 x8 x9, x7 = nI ((List.range k').countP (i_has (g_U M (g_n M)))) + kB (i_has (g_U M (g_n M)) k') → x8 = nI ((List.range k').countP (fun k => i_has (g_U M (g_n M)) k && j_g (g_U M (g_n M)) 0 k)) + kB (i_has (g_U M (g_n M)) k' && j_g (g_U M (g_n M)) 0 k') → x9 = nI ((List.range k').countP (fun k => i_has (g_U M (g_n M)) k && j_g (g_U M (g_n M)) 2 k)) + kB (i_has (g_U M (g_n M)) k' && j_g (g_U M (g_n M)) 2 k') →
          k_X (jL_areIndexed G l h0) H2 155 [(0, vR (some a)), (1, vI (nI (g_n M))), (2, vI f), (3, vI sr), (4, vI (i_b M 0)), (5, vI b1), (6, vI (i_b M 2)), (7, vI x7), (8, vI x8), (9, vI x9), (10, vI (nI k')), (11, vI (nI j))] [] Q := by
        intro x7 x8 x9 e7 e8 e9
        refine bL_areIndexed_155 (fun c => absurd c (nI_pos (by omega))) (fun _ => bL_areIndexed_160 (fun c => absurd ((nI_ltI (a := 99) (by omega) (by omega)).mp c) (by omega)) (fun _ => ?_))
        refine bL_areIndexed_167 (lp_is W2) (q_val ok g0 W2 hi (Nat.le_refl _) (key_2 (by omega) (by omega)).1 (key_2 (by omega) (by omega)).2) ?_
        rintro H3 _ ⟨W3, rfl⟩
        refine bL_areIndexed_178 (t_goesFor ok.2) ?_
        rintro _ _ ⟨hh4, rfl⟩
        rw [hh4]
        have fin := next H3 (q1 + 1 + 1) (by omega) W3 x7 x8 x9 e7 e8 e9
        rw [hF]
        refine bL_areIndexed_185 (fun c => bL_areIndexed_192 (bL_areIndexed_194 (fun _ => fin) (fun c2 => absurd ?_ c2))) (fun c => bL_areIndexed_188 (bL_areIndexed_194 (fun _ => fin) (fun c2 => absurd ?_ c2)))
        · rw [if_neg (by rw [kB_0.mp c]; decide)]
        · rw [if_pos (kB_n0.mp c)]
      have s9 : ∀ x7 x8, x7 = nI ((List.range k').countP (i_has (g_U M (g_n M)))) + kB (i_has (g_U M (g_n M)) k') → x8 = nI ((List.range k').countP (fun k => i_has (g_U M (g_n M)) k && j_g (g_U M (g_n M)) 0 k)) + kB (i_has (g_U M (g_n M)) k' && j_g (g_U M (g_n M)) 0 k') →
          k_X (jL_areIndexed G l h0) H2 132 [(0, vR (some a)), (1, vI (nI (g_n M))), (2, vI f), (3, vI sr), (4, vI (i_b M 0)), (5, vI b1), (6, vI (i_b M 2)), (7, vI x7), (8, vI x8), (10, vI (nI k')), (11, vI (nI j)), (12, vI 1)] [vI (nI ((List.range k').countP (fun k => i_has (g_U M (g_n M)) k && j_g (g_U M (g_n M)) 2 k)))] Q := by
        intro x7 x8 e7 e8
        refine bL_areIndexed_132 (t_goesFor ok.2) ?_
        rintro _ _ ⟨hh4, rfl⟩
        rw [hh4]
        refine bL_areIndexed_139 (fun c => bL_areIndexed_146 (bL_areIndexed_147 (fun c2 => absurd c2 (by decide)) (fun _ => tail _ _ _ e7 e8 ?_))) (fun c => bL_areIndexed_142 (bL_areIndexed_147 (fun c2 => absurd c2 (by decide)) (fun _ => tail _ _ _ e7 e8 ?_)))
        · rw [hh, Bool.true_and, i_bg, kB_0.mp c]; rfl
        · rw [hh, Bool.true_and, i_bg, kB_n0.mp c]; rfl
      refine bL_areIndexed_69 (fun c => absurd c nn) (fun _ => bL_areIndexed_78 (bL_areIndexed_83 (fun c => absurd c (by decide)) (fun _ => bL_areIndexed_92 (bL_areIndexed_97 (fun c => absurd c (by decide)) (fun _ => ?_)))))
      refine bL_areIndexed_107 (t_goesFor ok.2) ?_
      rintro _ _ ⟨hh4, rfl⟩
      rw [hh4]
      refine bL_areIndexed_114 (fun c => bL_areIndexed_121 (bL_areIndexed_122 (fun c2 => absurd c2 (by decide)) (fun _ => s9 _ _ ?_ ?_))) (fun c => bL_areIndexed_117 (bL_areIndexed_122 (fun c2 => absurd c2 (by decide)) (fun _ => s9 _ _ ?_ ?_)))
      · rw [hh]; rfl
      · rw [hh, Bool.true_and, i_bg, kB_0.mp c]; rfl
      · rw [hh]; rfl
      · rw [hh, Bool.true_and, i_bg, kB_n0.mp c]; rfl
end AIW
