/-! AREPARTED, WALKED -/
section CP0
variable {G : k_G} {l : Launch}
theorem C_part0 (ok : k_ok G l) {a N w : Nat} {B : Nat × Nat} {h : k_H} {M : s_M} {x y : Int32} (W : c_W a B h M N w) (hi : s_inB x 0 (nI (g_PT M).length - 1) = true) (hy : s_inB y 0 4 = true) (hpt : (g_PT M).length ≤ 4096) (hlo : ∀ p ∈ g_PT M, p.1 < 1331000000000) : k_ct (tX11_part G l) [vR (some a), vI x, vI y] h (c_R a B (F_part M x y) x_3 N w) := by
  obtain ⟨o14, -⟩ := W_ob W
  obtain ⟨PS, cap, p1, p2, p3, p4⟩ := W_parts W
  have hPl : PS.length = (g_PT M).length := by rw [← p3, List.length_map]
  have hin := inB_k (x := x) (k := (g_PT M).length) (by omega)
  have bad : s_inB x 0 (nI (g_PT M).length - 1) = false → k_X (jX11_part G l h) h 18 [] [] (c_R a B (F_part M x y) x_3 N w) := fun hc =>
    absurd (hi.symm.trans hc) (by decide)
  refine eX11_part ok.2 (bX11_part_0 (fun c => bad ?_) (fun c1 => bX11_part_4 o14 rfl p1 rfl (Or.inr ⟨rfl, _, _, p2.1⟩) (c_size ok p2.1) ?_))
  · rw [hin, decide_eq_false (show ¬ ¬ x < 0 from fun z => z c), Bool.false_and]
  rintro _ _ ⟨hh, rfl⟩
  rw [hh, List.length_map, hPl]
  refine bX11_part_15 (fun c2 => ?_) (fun c2 => bad ?_)
  · have hi : s_inB x 0 (nI (g_PT M).length - 1) = true := by rw [hin, decide_eq_true c1, decide_eq_true c2]; rfl
    have bad2 : s_inB y 0 4 = false → k_X (jX11_part G l h) h 37 [] [] (c_R a B (F_part M x y) x_3 N w) := fun hc =>
      absurd (hy.symm.trans hc) (by decide)
    refine bX11_part_28 (fun c => bad2 ?_) (fun c3 => bX11_part_32 (fun c4 => ?_) (fun c => bad2 ?_))
    · unfold s_inB; rw [decide_eq_false (by simpa using c), Bool.false_and]
    · have hy : s_inB y 0 4 = true := by unfold s_inB; rw [decide_eq_true c3, decide_eq_true (Int32.not_lt.mpr c4)]; rfl
      obtain ⟨j, hj, rfl, ht⟩ := s_in_ (by omega) hi
      obtain ⟨p, hp⟩ : ∃ p, PS[j]? = some p := ⟨_, List.getElem?_eq_getElem (by omega)⟩
      have hp1 : (PS.map (fun x => x.1))[j]? = some p.1 := by rw [List.getElem?_map, hp]; rfl
      have hp2 : (g_PT M)[j]? = some (k_pr p) := by rw [← p3, List.getElem?_map, hp]; rfl
      obtain ⟨u1, u2, u3⟩ := p2.2.1 p (List.mem_of_getElem? hp)
      have hpl := hlo _ (List.mem_of_getElem? hp2)
      have hF : ∀ v, (if y = 0 then p.2.2.1 else if y = 1 then nI (p_end (m_V (g_E M).1 (g_n M) (g_E M).2.1) ((g_PT M).drop (j + 1)) - p_lt p.2.1 (m_V (g_E M).1 (g_n M) (g_E M).2.1)) else if nI j = 0 then -2147483648 else s_no p.2.1 (s_pl (y - 2))) = v → F_part M (nI j) y = (M, 0, v) := fun v hv => by
        unfold F_part
        rw [if_neg (by rw [hi]; decide), if_neg (by rw [hy]; decide), ht, hp2]
        exact congrArg (fun v => (M, 0, v)) hv
      have hheld : p.2.2.2 = p_end (m_V (g_E M).1 (g_n M) (g_E M).2.1) ((g_PT M).drop (j + 1)) - p_lt p.2.1 (m_V (g_E M).1 (g_n M) (g_E M).2.1) := by
        rw [p_ho_at p4 hp, ← p3, ← List.map_drop]
        show (match PS.drop (j + 1) with | [] => (g_V M).length | y :: _ => p_lt y.2.1 (g_V M)) - _ = _
        cases PS.drop (j + 1) <;> rfl
      have W1 := W
      refine bX11_part_47 o14 rfl p1 rfl (Or.inr ⟨rfl, _, _, p2.1⟩) (c_get ok p2.1 hp1) ?_
      rintro _ _ ⟨hh, rfl⟩
      rw [hh]
      refine bX11_part_58 u1 (fun d0 => bX11_part_71 (fun d1 => bX11_part_81 (fun d2 => ?_) (fun d2 => ?_)) (fun d1 => ?_)) (fun d0 => ?_)
      · refine bX11_part_90 u1 rfl (c_X11_numberOf ok hpl) ?_
        rintro _ _ ⟨hh, rfl⟩
        rw [hh]
        exact bX11_part_100 (R_ok W1 (hF _ (by rw [if_neg d0, if_neg d1, if_neg d2])))
      · exact bX11_part_85 (bX11_part_100 (R_ok W1 (hF _ (by rw [if_neg d0, if_neg d1, if_pos d2]))))
      · refine bX11_part_76 u1 rfl (R_ok W1 (hF _ (by rw [if_neg d0, if_pos d1, hheld])))
      · refine bX11_part_66 u1 rfl (R_ok W1 (hF _ (by rw [if_pos d0])))
    · unfold s_inB; rw [decide_eq_false (show ¬ ¬ (4 : Int32) < y from fun z => c (Int32.not_lt.mp z)), Bool.and_false]
  · rw [hin, decide_eq_false c2, Bool.and_false]
end CP0
section APW
variable {G : k_G} {l : Launch} {a i q : Nat} {A : lp_A} {M : s_M} {H : k_H}
/-- what the parts say: in their order, from the first key, few -/
def J_pt (M : s_M) : Prop := g_pk M ∧ g_p0 M ∧ (g_PT M).length ≤ 4096 ∧ ∀ p ∈ g_PT M, p.1 < 1331000000000
theorem lp_pt (W : lp_W a A i q M H) (hi : i < 512) : J_pt M := by
  obtain ⟨h, N, w, po, rfl, cn, hb, W, N0, I, hN⟩ := W
  obtain ⟨⟨lim, nmd, pk, p0, ws⟩, -, -, -, -, ⟨ptl, lows⟩, -⟩ := lp_env I hi
  exact ⟨pk, p0, ptl, lows⟩
theorem q_parts (ok : k_ok G l) (g0 : k_fh G = 0) (W : lp_W a A i q M H) : k_cti (tX11_parts G l) [vR (some a)] H (fun H' u => lp_W a A i q M H' ∧ u = nI (g_PT M).length) := by
  obtain ⟨h, N, w, po, rfl, cn, hb, W, N0, I, hN⟩ := W
  have okF : k_ok (k_fG G (a + 31) (a + 36)) l := k_fG_ok ok
  have c := lp_call (A := A) (M := M) (N := N) (w := w) (i := i) (q := q) (i' := i) (q' := q) g0 cn hb (C_parts okF W) ⟨N0, I, hN⟩
  exact lp_cti c rfl
theorem inB_j {j k : Nat} (hj : j < k) (hk : k < 2 ^ 20) : s_inB (nI j) 0 (nI k - 1) = true := by
  rw [inB_k hk, decide_eq_true (nI_pos (by omega)), decide_eq_true ((nI_ltI (by omega) (by omega)).mpr hj)]
  rfl
theorem part_F {j : Nat} {p : p_T} {y v : Int32} (h : J_pt M) (hp : (g_PT M)[j]? = some p) (hy : s_inB y 0 4 = true) (hv : (if y = 0 then p.2 else if y = 1 then nI (p_end (g_V M) ((g_PT M).drop (j + 1)) - p_lt p.1 (g_V M)) else if nI j = 0 then -2147483648 else s_no p.1 (s_pl (y - 2))) = v) : F_part M (nI j) y = (M, 0, v) := by
  have hj : j < (g_PT M).length := (List.getElem?_eq_some_iff.mp hp).1
  have hl := h.2.2.1
  unfold F_part
  rw [if_neg (by rw [inB_j hj (by omega)]; decide), if_neg (by rw [hy]; decide), show t_of (nI j) = j from by unfold t_of; rw [nI_toInt (by omega)]; rfl, hp]
  exact congrArg (fun v => (M, 0, v)) hv
theorem q_part (ok : k_ok G l) (g0 : k_fh G = 0) (W : lp_W a A i q M H) (h : J_pt M) {j : Nat} {p : p_T} {y v : Int32} (hp : (g_PT M)[j]? = some p) (hy : s_inB y 0 4 = true) (hv : (if y = 0 then p.2 else if y = 1 then nI (p_end (g_V M) ((g_PT M).drop (j + 1)) - p_lt p.1 (g_V M)) else if nI j = 0 then -2147483648 else s_no p.1 (s_pl (y - 2))) = v) : k_cti (tX11_part G l) [vR (some a), vI (nI j), vI y] H (fun H' u => lp_W a A i q M H' ∧ u = v) := by
  obtain ⟨hh, N, w, po, rfl, cn, hb, W, N0, I, hN⟩ := W
  have okF : k_ok (k_fG G (a + 31) (a + 36)) l := k_fG_ok ok
  have hj : j < (g_PT M).length := (List.getElem?_eq_some_iff.mp hp).1
  have hl := h.2.2.1
  have e := part_F h hp hy hv
  have c := lp_call (A := A) (M := M) (N := N) (w := w) (i := i) (q := q) (i' := i) (q' := q) g0 cn hb (C_part0 okF W (x := nI j) (y := y) (inB_j hj (by omega)) hy h.2.2.1 h.2.2.2) ⟨N0, by rw [e]; exact I, hN⟩
  have c := lp_cti c (by rw [e])
  rw [e] at c
  exact c
theorem p8_at {V : List Nat} : ∀ (PT : List p_T) (s : Nat), p_8 V PT → p_8 V (PT.drop s)
  | [], s, _ => by rw [List.drop_nil]; exact True.intro
  | p :: r, 0, h => h
  | p :: r, s + 1, h => p8_at r s h.2
theorem pad_at {V : List Nat} : ∀ (PT : List p_T) (s : Nat), p_ad V PT → p_ad V (PT.drop s)
  | [], s, _ => by rw [List.drop_nil]; exact True.intro
  | p :: r, 0, h => h
  | p :: r, s + 1, h => pad_at r s h.2
theorem drop_at {PT : List p_T} {s : Nat} {p : p_T} (h : PT[s]? = some p) : PT.drop s = p :: PT.drop (s + 1) := by
  obtain ⟨hs, e⟩ := List.getElem?_eq_some_iff.mp h
  rw [← e]
  exact List.drop_eq_getElem_cons hs
theorem end_at {V : List Nat} {PT : List p_T} {s : Nat} {p : p_T} (h : PT[s]? = some p) : p_end V (PT.drop s) = p_lt p.1 V := by
  rw [drop_at h]
  rfl
theorem end_ge {V : List Nat} {PT : List p_T} (hs : PT.Pairwise (fun x y => x.1 < y.1)) {s : Nat} {p : p_T} (h : PT[s]? = some p) : p_lt p.1 V ≤ p_end V (PT.drop (s + 1)) := by
  cases e : PT.drop (s + 1) with
  | nil => exact p_lt_le _ _
  | cons x r =>
    have h1 : (PT.drop s).Pairwise (fun x y => x.1 < y.1) := List.Pairwise.sublist (List.drop_sublist _ _) hs
    rw [drop_at h, e] at h1
    exact lt_mono (Nat.le_of_lt ((List.pairwise_cons.mp h1).1 x List.mem_cons_self))
theorem s_un_mono {d e : Nat} (h0 : 0 < d) (h : d ≤ e) (h9 : e < 11000) : ¬ s_un e < s_un d := by
  unfold s_un
  rw [if_neg (by omega), if_neg (by omega)]
  intro z
  have z := Int32.lt_iff_toInt_lt.mp z
  rw [Int32.toInt_sub, Int32.toInt_sub, nI_toInt (by omega), nI_toInt (by omega), show (1000 : Int32).toInt = 1000 from by decide, Int.bmod_eq_of_le (by omega) (by omega), Int.bmod_eq_of_le (by omega) (by omega)] at z
  omega
theorem s_no_mono {c d : Nat} (h0 : 121000000 ≤ c) (h : c ≤ d) (h9 : d < 1331000000000) : ¬ s_no d 0 < s_no c 0 := by
  unfold s_no s_dig
  rw [if_pos rfl, if_pos rfl]
  have h1 := Nat.div_le_div_right (c := 121000000) h
  have h2 : 1 ≤ c / 121000000 := (Nat.le_div_iff_mul_le (by omega)).mpr (by omega)
  have h3 : d / 121000000 < 11000 := (Nat.div_lt_iff_lt_mul (by omega)).mpr (by omega)
  rw [Nat.mod_eq_of_lt h3, Nat.mod_eq_of_lt (Nat.lt_of_le_of_lt h1 h3)]
  exact s_un_mono h2 h1 h3
theorem r_all : s_rngB 10000 10000 = true ∧ s_lo 10000 10000 = 0 ∧ s_la 10000 10000 + 1 = 1331000000001 := by decide +kernel
theorem ap_len (e : J_e M) : (r_flt 0 1331000000001 (fun c => (g_U M (g_n M) c).isSome) (g_E M).1).length = (g_V M).length := by
  unfold g_V m_V r_flt
  rw [List.length_map]
  refine congrArg List.length (List.filter_congr fun x hx => ?_)
  have := e.1.2.2 x hx
  rw [decide_eq_true (Nat.zero_le _), decide_eq_true (show x.1 < 1331000000001 from by omega)]
  rfl
theorem V_20 (h : J_pt M) (P : J_p M) : (g_V M).length < 2 ^ 20 := by
  have key : ∀ (PT : List p_T), PT.Pairwise (fun x y => x.1 < y.1) → p_8 (g_V M) PT → (g_V M).length ≤ p_end (g_V M) PT + 8 * PT.length := by
    intro PT
    induction PT with
    | nil => intro _ _; exact Nat.le_add_right _ _
    | cons p r ih =>
      intro hs h8
      have a1 := ih (List.pairwise_cons.mp hs).2 h8.2
      have a2 := h8.1
      have e1 : p_end (g_V M) (p :: r) = p_lt p.1 (g_V M) := rfl
      rw [List.length_cons, e1]
      omega
  have k := key _ h.1.1 P.1
  have l := h.2.2.1
  have z : p_end (g_V M) (g_PT M) = 0 := by
    obtain ⟨⟨-, h2⟩, h3, -⟩ := h
    cases e : g_PT M with
    | nil => exact absurd e h2
    | cons p r =>
      have : p.1 = 0 := h3 p (by rw [e]; rfl)
      show p_lt p.1 _ = 0
      rw [this]
      unfold p_lt
      rw [List.length_eq_zero_iff, List.filter_eq_nil_iff]
      intro x _ hx
      exact absurd (of_decide_eq_true hx) (Nat.not_lt_zero _)
  omega
/-- areParted answers 1 -/
theorem t_areParted (ok : k_ok G l) (g0 : k_fh G = 0) (W : lp_W a A i q M H) (hi : i + 1 < 512) (P : J_p M) (Z : J_z M) :
    k_cti (tL_areParted G l) [vR (some a)] H (fun H' v => (∃ r, lp_W a A (i + 1) (q + 100) (m_3 M r) H') ∧ v = 1) := by
  have e := lp_e W (by omega)
  have h := lp_pt W (by omega)
  have hV := V_20 h P
  obtain ⟨hs, hne⟩ := h.1
  have hl := h.2.2.1
  have hl0 : 0 < (g_PT M).length := List.length_pos_iff.mpr hne
  obtain ⟨p0, hp0⟩ : ∃ p, (g_PT M)[0]? = some p := ⟨_, List.getElem?_eq_getElem hl0⟩
  have z0 : p_end (g_V M) ((g_PT M).drop 0) = 0 := by
    rw [end_at hp0, show p0.1 = 0 from h.2.1 p0 (by rw [List.head?_eq_getElem?, hp0]; rfl)]
    unfold p_lt
    rw [List.length_eq_zero_iff, List.filter_eq_nil_iff]
    intro x _ hx
    exact absurd (of_decide_eq_true hx) (Nat.not_lt_zero _)
  have fin : ∀ H1, lp_W a A i q M H1 → k_X (jL_areParted G l H) H1 145 [(0, vR (some a)), (2, vI (nI (g_V M).length)), (3, vI 1)] [] (q_i (fun H' v => (∃ r, lp_W a A (i + 1) (q + 100) (m_3 M r) H') ∧ v = 1)) := by
    intro H1 W1
    refine bL_areParted_145 (lp_is W1) (q_begin3 ok g0 W1 (by omega)) ?_
    rintro H2 _ ⟨W2, rfl⟩
    refine bL_areParted_151 (fun c => absurd c (by decide)) (fun _ => bL_areParted_156 (lp_is W2) (q_range3 ok g0 W2 hi r_all.1 r_all.2.1 r_all.2.2) ?_)
    rintro H3 _ ⟨W3, rfl⟩
    rw [ap_len e]
    refine bL_areParted_168 (fun c => absurd rfl c) (fun _ => bL_areParted_172 (lp_is W3) (q_rangeAt3 ok g0 W3 hi (by show 0 + 1 ≤ _; omega) r_all.1 hV (by decide) r_all.2.1 r_all.2.2) ?_)
    rintro H4 _ ⟨⟨r, hr, W4⟩, rfl⟩
    rw [List.getElem?_eq_none (Nat.le_of_eq (ap_len e))]
    exact bL_areParted_185 (fun c => absurd rfl c) (fun _ => bL_areParted_190 (bL_areParted_195 (Or.inr rfl) ⟨1, rfl, ⟨r, lp_mono W4 (by omega)⟩, rfl⟩))
  have loop : ∀ (d s : Nat) (H1 : k_H), s + d = (g_PT M).length → lp_W a A i q M H1 → k_X (jL_areParted G l H) H1 31 [(0, vR (some a)), (1, vI (nI (g_PT M).length)), (2, vI (nI (p_end (g_V M) ((g_PT M).drop s)))), (3, vI 1), (4, vI (nI s))] [] (q_i (fun H' v => (∃ r, lp_W a A (i + 1) (q + 100) (m_3 M r) H') ∧ v = 1)) := by
    intro d
    induction d with
    | zero =>
      intro s H1 hsd W1
      have es : s = (g_PT M).length := by omega
      subst es
      rw [List.drop_length]
      exact bL_areParted_31 (fun _ => fin H1 W1) (fun c => absurd ((nI_leI (by omega) (by omega)).mpr (Nat.le_refl _)) c)
    | succ d ih =>
      intro s H1 hsd W1
      obtain ⟨p, hp⟩ : ∃ p, (g_PT M)[s]? = some p := ⟨_, List.getElem?_eq_getElem (by omega)⟩
      have hm := List.mem_of_getElem? hp
      have g1 := end_ge (V := g_V M) hs hp
      have g2 := p_end_le (g_V M) ((g_PT M).drop (s + 1))
      have g8 : p_end (g_V M) ((g_PT M).drop (s + 1)) - p_lt p.1 (g_V M) ≤ 8 := by
        have := p8_at (g_PT M) s P.1
        rw [drop_at hp] at this
        exact this.1
      refine bL_areParted_31 (fun c => absurd ((nI_leI (by omega) (by omega)).mp c) (by omega)) (fun _ => bL_areParted_37 (fun c => absurd c (by decide)) (fun _ => bL_areParted_41 (lp_is W1) (q_part ok g0 W1 h hp (by decide) rfl) ?_))
      rintro H2 _ ⟨W2, rfl⟩
      rw [if_neg (by decide), if_pos rfl]
      refine bL_areParted_48 (lp_is W2) (q_part ok g0 W2 h hp (by decide) rfl) ?_
      rintro H3 _ ⟨W3, rfl⟩
      rw [if_pos rfl]
      have esum : nI (p_end (g_V M) ((g_PT M).drop s)) + nI (p_end (g_V M) ((g_PT M).drop (s + 1)) - p_lt p.1 (g_V M)) = nI (p_end (g_V M) ((g_PT M).drop (s + 1))) := by
        rw [end_at hp, nI_add]
        exact congrArg nI (by omega)
      refine bL_areParted_57 (fun c => absurd c (nI_pos (by omega))) (fun _ => ?_)
      rw [esum]
      have sv := P.2.2 p hm
      have sv1 : ¬ p.2 < 0 := by rcases sv with e | e | e <;> rw [e] <;> decide
      have sv2 : ¬ 3 ≤ p.2 := by rcases sv with e | e | e <;> rw [e] <;> decide
      refine bL_areParted_69 (fun c => absurd ((nI_leI (a := 9) (by omega) (by omega)).mp c) (by omega)) (fun _ => bL_areParted_76 (fun c => absurd c sv1) (fun _ => bL_areParted_81 (fun c => absurd c sv2) (fun _ => ?_)))
      have back : ∀ H4, lp_W a A i q M H4 → k_X (jL_areParted G l H) H4 133 [(0, vR (some a)), (1, vI (nI (g_PT M).length)), (2, vI (nI (p_end (g_V M) ((g_PT M).drop (s + 1))))), (4, vI (nI s))] [] (q_i (fun H' v => (∃ r, lp_W a A (i + 1) (q + 100) (m_3 M r) H') ∧ v = 1)) := by
        intro H4 W4
        refine bL_areParted_133 (bL_areParted_138 ?_)
        rw [show nI s + 1 = nI (s + 1) from nI_add s 1]
        exact ih (s + 1) H4 (by omega) W4
      by_cases s0 : s = 0
      · subst s0
        exact bL_areParted_87 (fun _ => bL_areParted_108 (fun _ => back H3 W3) (fun c => absurd (by decide) c)) (fun c => absurd rfl c)
      · obtain ⟨u, rfl⟩ : ∃ u, s = u + 1 := ⟨s - 1, by omega⟩
        have eu : nI (u + 1) - 1 = nI u := by rw [← nI_1]; exact Int32.add_sub_cancel (nI u) 1
        obtain ⟨p', hp'⟩ : ∃ p, (g_PT M)[u]? = some p := ⟨_, List.getElem?_eq_getElem (by omega)⟩
        have g3 := end_ge (V := g_V M) hs hp'
        rw [end_at hp] at g3
        have g4 : 4 ≤ p_end (g_V M) ((g_PT M).drop (u + 1 + 1)) - p_lt p'.1 (g_V M) := by
          have := pad_at (g_PT M) u P.2.1
          rw [drop_at hp', drop_at hp] at this
          exact this.1
        refine bL_areParted_87 (fun c => absurd c ?_) (fun _ => bL_areParted_92 (lp_is W3) (by rw [eu]; exact q_part ok g0 W3 h hp' (by decide) rfl) ?_)
        · intro z
          have := congrArg Int32.toInt z
          rw [nI_toInt (by omega)] at this
          have e0 : (0 : Int32).toInt = 0 := by decide
          omega
        rintro H4 _ ⟨W4, rfl⟩
        rw [if_neg (by decide), if_pos rfl, end_at hp]
        refine bL_areParted_101 (fun c => ?_) (fun _ => ?_)
        · rw [nI_add] at c
          exact absurd ((nI_leI (b := 3) (by omega) (by omega)).mp c) (by omega)
        · refine bL_areParted_108 (fun _ => back H4 W4) (fun c2 => bL_areParted_114 (lp_is W4) (by rw [eu]; exact q_part ok g0 W4 h hp' (by decide) rfl) ?_)
          rintro H5 _ ⟨W5, rfl⟩
          refine bL_areParted_123 (lp_is W5) (q_part ok g0 W5 h hp (by decide) rfl) ?_
          rintro H6 _ ⟨W6, rfl⟩
          refine bL_areParted_130 (fun c => absurd c ?_) (fun _ => back H6 W6)
          have hu : 0 < u := by
            rcases Nat.eq_zero_or_pos u with e | e
            · subst e; exact absurd (by decide) c2
            · exact e
          have n1 : ¬ nI u = 0 := fun z => by
            have := congrArg Int32.toInt z
            rw [nI_toInt (by omega)] at this
            have e0 : (0 : Int32).toInt = 0 := by decide
            omega
          have n2 : ¬ nI (u + 1) = 0 := fun z => by
            have := congrArg Int32.toInt z
            rw [nI_toInt (by omega)] at this
            have e0 : (0 : Int32).toInt = 0 := by decide
            omega
          simp only [if_neg n1, if_neg n2, if_neg (show ¬ (2 : Int32) = 0 by decide), if_neg (show ¬ (2 : Int32) = 1 by decide)]
          have o1 : p'.1 < p.1 := by
            have h1 : ((g_PT M).drop u).Pairwise (fun x y => x.1 < y.1) := List.Pairwise.sublist (List.drop_sublist _ _) hs
            rw [drop_at hp', drop_at hp] at h1
            exact (List.pairwise_cons.mp h1).1 p List.mem_cons_self
          have o2 : 121000000 ≤ p'.1 := by
            refine Z.2 p' ?_
            obtain ⟨v, rfl⟩ : ∃ v, u = v + 1 := ⟨u - 1, by omega⟩
            exact List.mem_of_getElem? (i := v) (by rw [List.getElem?_tail]; exact hp')
          exact s_no_mono o2 (Nat.le_of_lt o1) (h.2.2.2 p hm)
  refine k_cti_of (eL_areParted ok.2 (bL_areParted_0 (lp_is W) (q_parts ok g0 W) ?_))
  rintro H1 _ ⟨W1, rfl⟩
  refine bL_areParted_4 (fun c => absurd ((nI_leI (b := 0) (by omega) (by omega)).mp c) (by omega)) (fun _ => bL_areParted_11 (lp_is W1) (q_part (j := 0) ok g0 W1 h hp0 (by decide) rfl) ?_)
  rintro H2 _ ⟨W2, rfl⟩
  refine bL_areParted_17 (fun c => absurd rfl c) (fun _ => bL_areParted_22 (bL_areParted_27 ?_))
  have := loop (g_PT M).length 0 H2 (Nat.zero_add _) W2
  rw [z0] at this
  exact this
end APW
