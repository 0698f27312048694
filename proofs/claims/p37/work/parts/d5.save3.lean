/-! .. and the indexes behind it -/
section SV5
variable {M : s_M} {t m n j : Nat} {saves : Bool} {U : j_U} {c : Nat} {ro : Option Nat}
theorem mid_stp {o : Option Int32} (h : sv_h M t n j ro) : u_stp m c (s_CS (s_mid M t n j saves) t) o = u_stp m c (s_CS M t) o := by
  show u_stp m c (g_X (sv_p (sv_go M t 0 (nI n)) (sv_go M t 1 (nI n)) (g_see M t (sv_re (nI n))).1.isSome saves t (nI n) (o_told (g_see M t (sv_re (nI n))).1) (nI j) (sv_r4 M t (nI n))) t).2.1 o = _
  unfold sv_p
  rw [one_stp, if_neg (fun z => absurd z.2.1 (by decide)), one_stp, if_neg (fun z => absurd z.2.1 (by decide)), one_stp, if_neg (fun z => absurd z.2.1 (by decide)), one_stp, if_neg (fun z => absurd z.2.1 (by decide)), (r4_cs M t (nI n)).1]
abbrev s_q9 (M : s_M) (t n j : Nat) (saves : Bool) : s_M := sv_q (sv_go M t 2 (nI n) && (g_see M t (sv_re (nI n))).1.isSome) t (nI n) (s_mid M t n j saves)
theorem q9_b (h : sv_h M t n j ro) : (sv_go M t 2 (nI n) && (g_see M t (sv_re (nI n))).1.isSome) = (j_g (s_Z M t) 2 n && ro.isSome) := by
  rw [had_ro h, show sv_go M t 2 (nI n) = j_g (s_Z M t) 2 n from go_Z h (x := 2) (by omega), show (ro.map nI).isSome = ro.isSome from by cases ro <;> rfl]
theorem all_stp {o : Option Int32} (h : sv_h M t n j ro) (hm : m < 9000) : u_stp m c (s_CS (sv_all M t (nI n) saves (nI j)) t) o = if (j_g (s_Z M t) 2 n && saves) = true ∧ wW m n = c then some (nI j) else u_stp m c (s_CS (s_q9 M t n j saves) t) o := by
  have hn := h.2.1
  show u_stp m c (g_X (sv_f (sv_go M t 2 (nI n)) saves t (nI n) (nI j) (s_q9 M t n j saves)) t).2.1 o = _
  unfold sv_f
  rw [kc_stp, if_neg (fun z => by cases saves <;> exact absurd z.1 (by decide)), one_stp, show sv_go M t 2 (nI n) = j_g (s_Z M t) 2 n from go_Z h (x := 2) (by omega), show s_cd (-4) 0 (nI n) = wW 0 n from wW_eq (u := 0) (by omega) (by omega), (sc_W (by omega) hm).1]
  by_cases e : (j_g (s_Z M t) 2 n && saves) = true ∧ wW m n = c
  · rw [if_pos e, if_pos ⟨e.1, rfl, e.2⟩]
  · rw [if_neg e, if_neg (fun z => e ⟨z.1, z.2.2⟩)]
theorem q9_no {o : Option Int32} (h : sv_h M t n j ro) (e : ¬ (j_g (s_Z M t) 2 n && ro.isSome) = true) : u_stp m c (s_CS (s_q9 M t n j saves) t) o = u_stp m c (s_CS M t) o := by
  unfold s_q9
  rw [q9_b h]
  unfold sv_q
  rw [if_neg e]
  exact mid_stp h
theorem q9_yes {o : Option Int32} (h : sv_h M t n j ro) (e : (j_g (s_Z M t) 2 n && ro.isSome) = true) : u_stp m c (s_CS (s_q9 M t n j saves) t) o = u_stp m c (sv_drop (nI n) (s_CS (s_mid M t n j saves) t)) o := by
  unfold s_q9
  rw [q9_b h]
  unfold sv_q
  rw [if_pos e]
  show u_stp m c (g_X (g_cls t (s_X9 M t n j saves) (g_sdr (s_mid M t n j saves) t (nI n))) t).2.1 o = _
  rw [cls_stp, sdr_X]
theorem q9_at {o : Option Int32} (h : sv_h M t n j ro) (hm : m < 9000) (e : (j_g (s_Z M t) 2 n && ro.isSome) = true) {u : Nat} (hu : u < 9000) : u_stp m (wW u n) (s_CS (s_q9 M t n j saves) t) o = o := by
  rw [q9_yes h e]
  have y9 := em_y3 h (em_mid (saves := saves) h)
  have hn := h.2.1
  refine stp_no _ o fun y hy h6 hc => ?_
  obtain ⟨g1, g2⟩ := List.mem_filter.mp hy
  have hs : sv_is (nI n) y = true := by
    refine (drop_hit y9 hm hn g1 h6).mpr ?_
    rcases y3_sc (y9 y g1) h6 hm with ⟨z, -⟩ | ⟨z, -⟩ | ⟨k, q1, q2, q3⟩
    · exfalso; rw [hc] at z; unfold wW y_o at z; omega
    · exfalso; rw [hc] at z; unfold wW at z; omega
    · rw [hc] at q3
      unfold wW at q3
      have : k = n ∧ u = m := by omega
      rw [hc, this.2]
  rw [hs] at g2
  cases g2
theorem q9_ot {o : Option Int32} (h : sv_h M t n j ro) (hm : m < 9000) (hc : ∀ u, u < 9000 → ¬ c = wW u n) : u_stp m c (s_CS (s_q9 M t n j saves) t) o = u_stp m c (s_CS M t) o := by
  by_cases e : (j_g (s_Z M t) 2 n && ro.isSome) = true
  · rw [q9_yes h e, ← mid_stp (saves := saves) h]
    refine stp_flt _ o fun y hy hp h6 hq => ?_
    have hs : sv_is (nI n) y = true := by simpa using hp
    have := (drop_hit (em_y3 h (em_mid (saves := saves) h)) hm h.2.1 hy h6).mp hs
    exact hc m hm (by rw [← hq, this])
  · exact q9_no h e
/-! .. of the other layers -/
theorem mid_R (h : sv_h M t n j ro) (h1 : 120879000000 ≤ c) : u_ord (s_CS (s_mid M t n j saves) t) U c = u_ord (s_CS M t) U c := by
  rw [mid_ord h]
  obtain ⟨hy, hn, hj, hr, h9⟩ := h
  have a1 : ¬ wF j n = c := by unfold wF; omega
  have a2 : ¬ wN j = c := by unfold wN; omega
  cases hq : ro with
  | none => simp only [Option.isSome_none, Bool.and_false, Bool.false_eq_true, false_and, if_false, a1, a2, and_false]
  | some o =>
    have := h9 o hq
    have b1 : ¬ wF o n = c := by unfold wF; omega
    have b2 : ¬ wN o = c := by unfold wN; omega
    simp only [Option.getD_some, a1, a2, b1, b2, and_false, if_false]
theorem mid_F1 (h : sv_h M t n j ro) (h1 : 120758000000 ≤ c) (hc : ∀ i, i < 100 → ¬ c = wF i n) : u_ord (s_CS (s_mid M t n j saves) t) U c = u_ord (s_CS M t) U c := by
  rw [mid_ord h]
  obtain ⟨hy, hn, hj, hr, h9⟩ := h
  have a1 : ¬ wF j n = c := fun z => hc j hj z.symm
  have a2 : ¬ wN j = c := by unfold wN; omega
  cases hq : ro with
  | none => simp only [Option.isSome_none, Bool.and_false, Bool.false_eq_true, false_and, if_false, a1, a2, and_false]
  | some o =>
    have := h9 o hq
    have b1 : ¬ wF o n = c := fun z => hc o this z.symm
    have b2 : ¬ wN o = c := by unfold wN; omega
    simp only [Option.getD_some, a1, a2, b1, b2, and_false, if_false]
theorem mid_F2 (h : sv_h M t n j ro) {i : Nat} (hi : i < 100) : u_ord (s_CS (s_mid M t n j saves) t) U (wF i n) = if j_g (s_Z M t) 0 n = true ∧ saves = true ∧ i = j then some 0 else if j_g (s_Z M t) 0 n = true ∧ ro = some i then none else u_ord (s_CS M t) U (wF i n) := by
  rw [mid_ord h]
  obtain ⟨hy, hn, hj, hr, h9⟩ := h
  have a2 : ¬ wN j = wF i n := by unfold wN wF; omega
  have a1 : wF j n = wF i n ↔ i = j := by unfold wF; omega
  have e1 : ((j_g (s_Z M t) 0 n && saves) = true ∧ wF j n = wF i n) ↔ (j_g (s_Z M t) 0 n = true ∧ saves = true ∧ i = j) := by rw [Bool.and_eq_true, a1, and_assoc]
  have b2 : ¬ wN (ro.getD 0) = wF i n := by
    cases hq : ro with
    | none => unfold wN wF; show ¬ 120648000000 + 11000 * 0 = _; omega
    | some o => have := h9 o hq; unfold wN wF; show ¬ 120648000000 + 11000 * o = _; omega
  have e2 : ((j_g (s_Z M t) 0 n && ro.isSome) = true ∧ wF (ro.getD 0) n = wF i n) ↔ (j_g (s_Z M t) 0 n = true ∧ ro = some i) := by
    cases hq : ro with
    | none => rw [Bool.and_eq_true]; exact ⟨fun z => absurd z.1.2 (by decide), fun z => by cases z.2⟩
    | some o =>
      rw [Bool.and_eq_true]
      constructor
      · rintro ⟨⟨z1, -⟩, z2⟩
        have z2 : wF o n = wF i n := z2
        unfold wF at z2
        exact ⟨z1, by rw [show o = i from by omega]⟩
      · rintro ⟨z1, z2⟩
        rw [Option.some.inj z2]
        exact ⟨⟨z1, rfl⟩, rfl⟩
  show (if (j_g (s_Z M t) 1 n && saves) = true ∧ wN j = wF i n then _ else if (j_g (s_Z M t) 1 n && ro.isSome) = true ∧ wN (ro.getD 0) = wF i n then _ else if (j_g (s_Z M t) 0 n && saves) = true ∧ wF j n = wF i n then some 0 else if (j_g (s_Z M t) 0 n && ro.isSome) = true ∧ wF (ro.getD 0) n = wF i n then none else u_ord (s_CS M t) U (wF i n)) = _
  rw [if_neg (fun z => a2 z.2), if_neg (fun z => b2 z.2)]
  by_cases c1 : j_g (s_Z M t) 0 n = true ∧ saves = true ∧ i = j
  · rw [if_pos c1, if_pos (e1.mpr c1)]
  · rw [if_neg c1, if_neg (fun z => c1 (e1.mp z))]
    by_cases c2 : j_g (s_Z M t) 0 n = true ∧ ro = some i
    · rw [if_pos c2, if_pos (e2.mpr c2)]
    · rw [if_neg c2, if_neg (fun z => c2 (e2.mp z))]
theorem mid_N (h : sv_h M t n j ro) {i : Nat} (hi : i < 100) : (u_ord (s_CS (s_mid M t n j saves) t) U (wN i)).getD 0 = (u_ord (s_CS M t) U (wN i)).getD 0 + (if j_g (s_Z M t) 1 n = true ∧ ro = some i then -1 else 0) + (if j_g (s_Z M t) 1 n = true ∧ saves = true ∧ i = j then 1 else 0) := by
  rw [mid_ord h]
  obtain ⟨hy, hn, hj, hr, h9⟩ := h
  have a2 : ¬ wF j n = wN i := by unfold wN wF; omega
  have a1 : wN j = wN i ↔ i = j := by unfold wN; omega
  have e1 : ((j_g (s_Z M t) 1 n && saves) = true ∧ wN j = wN i) ↔ (j_g (s_Z M t) 1 n = true ∧ saves = true ∧ i = j) := by rw [Bool.and_eq_true, a1, and_assoc]
  have b2 : ¬ wF (ro.getD 0) n = wN i := by
    cases hq : ro with
    | none => unfold wN wF; show ¬ 120769001000 + 11000 * 0 + n = _; omega
    | some o => have := h9 o hq; unfold wN wF; show ¬ 120769001000 + 11000 * o + n = _; omega
  have e2 : ((j_g (s_Z M t) 1 n && ro.isSome) = true ∧ wN (ro.getD 0) = wN i) ↔ (j_g (s_Z M t) 1 n = true ∧ ro = some i) := by
    cases hq : ro with
    | none => rw [Bool.and_eq_true]; exact ⟨fun z => absurd z.1.2 (by decide), fun z => by cases z.2⟩
    | some o =>
      rw [Bool.and_eq_true]
      constructor
      · rintro ⟨⟨z1, -⟩, z2⟩
        have z2 : wN o = wN i := z2
        unfold wN at z2
        exact ⟨z1, by rw [show o = i from by omega]⟩
      · rintro ⟨z1, z2⟩
        rw [Option.some.inj z2]
        exact ⟨⟨z1, rfl⟩, rfl⟩
  simp only [a2, b2, and_false, if_false]
  by_cases c1 : j_g (s_Z M t) 1 n = true ∧ saves = true ∧ i = j
  · rw [if_pos c1, if_pos (e1.mpr c1)]
    by_cases c2 : j_g (s_Z M t) 1 n = true ∧ ro = some i
    · rw [if_pos c2, if_pos (e2.mpr c2)]; rfl
    · rw [if_neg c2, if_neg (fun z => c2 (e2.mp z)), Int32.add_zero]; rfl
  · rw [if_neg c1, if_neg (fun z => c1 (e1.mp z))]
    by_cases c2 : j_g (s_Z M t) 1 n = true ∧ ro = some i
    · rw [if_pos c2, if_pos (e2.mpr c2), Int32.add_zero]; rfl
    · rw [if_neg c2, if_neg (fun z => c2 (e2.mp z)), Int32.add_zero, Int32.add_zero]
/-- all of it outside of the layer of versions -/
theorem all_mid (h : sv_h M t n j ro) (h6 : j_6 (s_Z M t)) (hm : m < 9000) (h1 : 120637000000 ≤ c) (h2 : c < 121000000000) : u_all m (s_CS (sv_all M t (nI n) saves (nI j)) t) U c = if wR n = c then (if saves = true then some (nI j) else none) else u_ord (s_CS (s_mid M t n j saves) t) U c := by
  rw [y3_all (em_y3 h (em_all h h6)) hm (by omega) h2 (by omega) (by omega), all_ord h]
  by_cases e : wR n = c
  · rw [if_pos e, if_pos e]
  · rw [if_neg e, if_neg e, if_neg]
    rintro ⟨-, x, hx, z⟩
    have := X9_ly hx
    omega
theorem all_gZ (h : sv_h M t n j ro) (hm : m < 9000) {x : Nat} (hx : x < 3) (hS : U (wS x) = s_Z M t (wS x)) : j_g (u_all m (s_CS M t) U) x n = j_g (s_Z M t) x n := by
  unfold j_g
  rw [y3_allS h.1 hm hx, hS]
theorem all_ro (h : sv_h M t n j ro) (hm : m < 9000) (hR : U (wR n) = s_Z M t (wR n)) : u_all m (s_CS M t) U (wR n) = ro.map nI := by
  have hn := h.2.1
  rw [y3_all h.1 hm (by unfold wR; omega) (by unfold wR; omega) (by unfold wR; omega) (by unfold wR; omega), ord_cg hR]
  exact h.2.2.2.1
theorem qA_step (h : sv_h M t n j ro) (h6 : j_6 (s_Z M t)) (hm : m < 9000) (hS : ∀ x, x < 3 → U (wS x) = s_Z M t (wS x)) (hR : U (wR n) = s_Z M t (wR n)) (A : j_A (u_all m (s_CS M t) U)) : j_A (u_all m (s_CS (sv_all M t (nI n) saves (nI j)) t) U) := by
  have hn := h.2.1
  have hj := h.2.2.1
  have ot : ∀ c, 120637000000 ≤ c → c < 121000000000 → u_all m (s_CS M t) U c = u_ord (s_CS M t) U c := fun c a b => y3_all h.1 hm (by omega) b (by omega) (by omega)
  refine jA_save hn hj saves A ro (all_ro h hm hR) h.2.2.2.2 (fun x hx => ?_) (fun c h1 h2 => ?_) (fun c h1 h2 hc => ?_) (fun i hi => ?_) (fun i hi => ?_)
  · rw [y3_allS h.1 hm hx, y3_allS (em_y3 h (em_all h h6)) hm hx]
  · rw [all_mid h h6 hm (by omega) h2]
    by_cases e : c = wR n
    · rw [if_pos e, if_pos e.symm]
    · rw [if_neg e, if_neg (fun z => e z.symm), mid_R h h1, ot c (by omega) h2]
  · rw [all_mid h h6 hm (by omega) (by omega), if_neg (by unfold wR; omega), mid_F1 h h1 hc, ot c (by omega) (by omega)]
  · rw [all_gZ h hm (by omega) (hS 0 (by omega)), all_mid h h6 hm (by unfold wF; omega) (by unfold wF; omega), if_neg (by unfold wR wF; omega), mid_F2 h hi, ot _ (by unfold wF; omega) (by unfold wF; omega)]
  · rw [all_gZ h hm (by omega) (hS 1 (by omega)), all_mid h h6 hm (by unfold wN; omega) (by unfold wN; omega), if_neg (by unfold wR wN; omega), mid_N h hi, ot _ (by unfold wN; omega) (by unfold wN; omega)]
theorem qW_step (h : sv_h M t n j ro) (K : i_K (g_E M)) (h6 : j_6 (s_Z M t)) (hm0 : 0 < m) (hm : m < 9000) (hS : ∀ x, x < 3 → U (wS x) = s_Z M t (wS x)) (hR : U (wR n) = s_Z M t (wR n)) (hW : ∀ u, u < 9000 → U (wW u n) = s_Z M t (wW u n)) (W : j_W m (u_all m (s_CS M t) U)) : j_W m (u_all m (s_CS (sv_all M t (nI n) saves (nI j)) t) U) := by
  have hn := h.2.1
  have hj := h.2.2.1
  have g2 := all_gZ h hm (by omega) (hS 2 (by omega))
  have hr := all_ro h hm hR
  have ya := em_y3 h (em_all (saves := saves) h h6)
  have lW : ∀ u, u < 9000 → 120516000000 ≤ wW u n ∧ wW u n < 120637000000 := fun u hu => by unfold wW; omega
  refine jW_save (j := j) hn hm0 hm saves W (fun x hx => ?_) (fun k hk => ?_) (fun c h1 h2 hc => ?_) (fun u hu => ?_)
  · rw [y3_allS h.1 hm hx, y3_allS ya hm hx]
  · rw [all_mid h h6 hm (by unfold wR; omega) (by unfold wR; omega)]
    by_cases e : k = n
    · rw [if_pos e, if_pos (by rw [e])]
    · rw [if_neg e, if_neg (by unfold wR; omega), mid_R h (by unfold wR; omega), y3_all h.1 hm (by unfold wR; omega) (by unfold wR; omega) (by unfold wR; omega) (by unfold wR; omega)]
  · show u_stp m c (s_CS (sv_all M t (nI n) saves (nI j)) t) (u_ord (s_CS (sv_all M t (nI n) saves (nI j)) t) U c) = u_stp m c (s_CS M t) (u_ord (s_CS M t) U c)
    rw [all_stp h hm, if_neg (fun z => hc m hm z.2.symm), q9_ot h hm hc, all_ord h, if_neg (by unfold wR; omega), if_neg, mid_6 h h1 h2]
    rintro ⟨-, x, hx, z⟩
    obtain ⟨u, hu, e⟩ := X9_at h h6 hx
    exact hc u hu (by rw [← z, e])
  · rw [g2, hr, show (ro.map nI).isSome = ro.isSome from by cases ro <;> rfl]
    show u_stp m (wW u n) (s_CS (sv_all M t (nI n) saves (nI j)) t) (u_ord (s_CS (sv_all M t (nI n) saves (nI j)) t) U (wW u n)) = _
    rw [all_stp h hm, all_ord h, if_neg (show ¬ wR n = wW u n by unfold wR wW; omega), mid_6 h (lW u hu).1 (lW u hu).2]
    by_cases c1 : j_g (s_Z M t) 2 n = true ∧ saves = true ∧ u = m
    · rw [if_pos c1, if_pos ⟨by rw [Bool.and_eq_true]; exact ⟨c1.1, c1.2.1⟩, by rw [c1.2.2]⟩]
    · rw [if_neg c1, if_neg (fun z => by
        rw [Bool.and_eq_true] at z
        have e := z.2
        unfold wW at e
        exact c1 ⟨z.1.1, z.1.2, by omega⟩)]
      by_cases c2 : (j_g (s_Z M t) 2 n && ro.isSome) = true
      · have c2' : j_g (s_Z M t) 2 n = true ∧ ro.isSome = true := by rw [Bool.and_eq_true] at c2; exact c2
        rw [q9_at h hm c2 hu, show (if j_g (s_Z M t) 2 n = true ∧ ro.isSome = true then (none : Option Int32) else u_all m (s_CS M t) U (wW u n)) = none from if_pos c2']
        by_cases c3 : ∃ x ∈ s_X9 M t n j saves, x.1 = wW u n
        · rw [if_pos ⟨c2, c3⟩]
        · rw [if_neg (fun z => c3 z.2), ord_cg (hW u hu)]
          cases e : u_ord (s_CS M t) (s_Z M t) (wW u n) with
          | none => rfl
          | some v => exact absurd (X9_has h K hu (by rw [e]; rfl)) c3
      · have c2' : ¬ (j_g (s_Z M t) 2 n = true ∧ ro.isSome = true) := fun z => c2 (by rw [Bool.and_eq_true]; exact z)
        rw [show (if j_g (s_Z M t) 2 n = true ∧ ro.isSome = true then (none : Option Int32) else u_all m (s_CS M t) U (wW u n)) = u_all m (s_CS M t) U (wW u n) from if_neg c2', if_neg (fun z => c2 z.1), q9_no h c2]
        rfl
end SV5
