/-! SAVES: what a transaction sees of records and index states -/
theorem see_at {K : List k_K2} {W R : List Nat} {c : Nat} (hc : c / 121000000 = 999 ∨ c / 121000000 = 994) : ∀ (cs : List k_CH), (∀ y ∈ cs, y_y K W R y) → ∀ z : Option Int32 × Bool, z.2 = false →
    (s_see c cs z).2 = false ∧ ∀ v, (s_see c cs z).1 = some v → z.1 = some v ∨ ∃ k j, y_rec W R k j ∧ c = sv_re (nI k) ∧ v = nI j := by
  intro cs
  induction cs with
  | nil => intro _ z hz; exact ⟨hz, fun v h => Or.inl h⟩
  | cons y cs ih =>
    intro h z hz
    have hy := h y List.mem_cons_self
    have ih := ih (fun x hx => h x (List.mem_cons_of_mem _ hx))
    have e : s_see c (y :: cs) z = s_see c cs (if s_cov y c = true then (s_apO y.2.1 y.2.2.2.2.1 0 z.1, s_apS y.2.1 z.2) else z) := rfl
    rw [e]
    by_cases hv : s_cov y c = true
    · rw [if_pos hv]
      unfold s_cov at hv
      simp only [Bool.and_eq_true, decide_eq_true_eq] at hv
      obtain ⟨⟨ho, h1⟩, h2⟩ := hv
      obtain ⟨b1, b2, b⟩ := hy
      rcases b with ⟨k, r, o⟩ | ⟨k, r, nm, ly⟩ | ⟨k, r, nm, w, o⟩ | ⟨k, -⟩
      · exfalso
        rcases o with o | o <;> omega
      · rw [k]
        obtain ⟨g1, g2⟩ := ih (s_apO 1 y.2.2.2.2.1 0 z.1, s_apS 1 z.2) (by rw [hz]; rfl)
        refine ⟨g1, fun v hv => ?_⟩
        rcases g2 v hv with g | g
        · cases g
        · exact Or.inr g
      · have ec : c = y.2.2.1 := by omega
        rcases o with o | ⟨-, o⟩ | ⟨k0, kk, j, g1, g2, g3⟩
        · exfalso
          rcases o with o | o <;> omega
        · exfalso; omega
        · rw [k0]
          obtain ⟨q1, q2⟩ := ih (s_apO 0 y.2.2.2.2.1 0 z.1, s_apS 0 z.2) (by rw [hz]; rfl)
          refine ⟨q1, fun v hv => ?_⟩
          rcases q2 v hv with g | g
          · rw [apO_0] at g
            injection g with g
            exact Or.inr ⟨kk, j, g1, by rw [ec, g2], by rw [← g, g3]⟩
          · exact Or.inr g
      · rw [k] at ho; exact absurd ho (by decide)
    · rw [if_neg hv]
      exact ih z hz
theorem see_M {W R : List Nat} {i C t c : Nat} {M : s_M} (hX : i_X W R i C M) (hE : ∀ x ∈ (g_E M).2.1, y_E W R x.2.1 x.2.2.2) (ht : t < 4) (hc : c / 121000000 = 999 ∨ c / 121000000 = 994) :
    (g_see M t c).2 = false ∧ ∀ k, k < 100 → c = sv_re (nI k) → ∀ v, (g_see M t c).1 = some v → ∃ j, y_rec W R k j ∧ v = nI j := by
  obtain ⟨h1, h2⟩ := see_at (K := (g_E M).1) hc (g_X M t).2.1 (hX t ht).1 (r_val c (g_X M t).1.2.2.1 (g_E M).2.1, false) rfl
  refine ⟨h1, fun k hk e v hv => ?_⟩
  rcases h2 v hv with g | ⟨k', j, g1, g2, g3⟩
  · have g : r_val c (g_X M t).1.2.2.1 (g_E M).2.1 = some v := g
    rw [e] at g
    exact re_rec hE hk g
  · rw [e] at g2
    rw [← re_inj hk g1.1 g2] at g1
    exact ⟨j, g1, g3⟩
theorem co_ly {i : Nat} (h : i < 3) : sv_co (nI i) / 121000000 = 994 := by
  have hc : i = 0 ∨ i = 1 ∨ i = 2 := by omega
  rcases hc with rfl | rfl | rfl <;> decide +kernel
/-! .. the chain of a save's steps -/
def sv_P (M : s_M) (t : Nat) (W R : List Nat) (r u e v q : Nat) (M2 : s_M) : Prop :=
  (g_n M2 = g_n M ∧ g_gen M2 = g_gen M ∧ g_los M2 = g_los M ∧ (g_E M2).2 = (g_E M).2 ∧ M2.2.2.2 = M.2.2.2) ∧ (∀ p, ¬ p = t → g_X M2 p = g_X M p) ∧ (g_X M2 t).1 = (g_X M t).1 ∧
  (i_K (g_E M2) ∧ (∀ x ∈ (g_E M2).1, z_nm x.1 (g_E M).1 ∨ (997 ≤ x.1 / 121000000 ∧ x.1 / 121000000 ≤ 999)) ∧ (∀ c, z_nm c (g_E M).1 → z_nm c (g_E M2).1) ∧ (g_E M2).1.length ≤ (g_E M).1.length + q ∧ g_V M2 = g_V M) ∧
  g_ser M2 ≤ g_ser M + u ∧ (∀ y ∈ (g_X M2 t).2.1, y_y (g_E M2).1 W R y) ∧ (g_X M2 t).2.2.length ≤ (g_X M t).2.2.length + r ∧
  ((g_X M2 t).2.1.length ≤ (g_X M t).2.1.length + u ∧ z_cy (g_X M2 t).2.1 ≤ z_cy (g_X M t).2.1 + e ∧ z_sum z_w1 (g_X M2 t).2.1 ≤ z_sum z_w1 (g_X M t).2.1 ∧ z_sum z_s6 (g_X M2 t).2.1 ≤ z_sum z_s6 (g_X M t).2.1 + v)
section SVP
variable {M M2 : s_M} {t : Nat} {W R : List Nat} {r u e v q : Nat}
theorem sP_mono {r' u' e' v' q' : Nat} (h : sv_P M t W R r u e v q M2) (h1 : r ≤ r') (h2 : u ≤ u') (h3 : e ≤ e') (h4 : v ≤ v') (h5 : q ≤ q') : sv_P M t W R r' u' e' v' q' M2 := by
  obtain ⟨a1, a2, a3, ⟨b1, b2, b3, b4, b5⟩, a5, a6, a7, c1, c2, c3, c4⟩ := h
  exact ⟨a1, a2, a3, ⟨b1, b2, b3, by omega, b5⟩, by omega, a6, by omega, by omega, by omega, c3, by omega⟩
theorem sP_rk {c : Nat} (h : sv_P M t W R r u e v q M2) : sv_P M t W R (r + 1) u e v q (g_rk M2 t c) := by
  obtain ⟨a1, a2, a3, a4, a5, a6, a7, a8⟩ := h
  have ex : g_X (g_rk M2 t c) t = ((g_X M2 t).1, (g_X M2 t).2.1, s_rdk true (g_X M2 t).2.1 (g_X M2 t).2.2 c (g_ser M2)) := by
    show (if t = t then _ else _) = _
    rw [if_pos rfl]
  refine ⟨a1, fun p hp => ?_, by rw [ex]; exact a3, a4, a5, by rw [ex]; exact a6, ?_, by rw [ex]; exact a8⟩
  · show (if p = t then _ else g_X M2 p) = _
    rw [if_neg hp]
    exact a2 p hp
  · rw [ex]
    show (s_rdk true (g_X M2 t).2.1 (g_X M2 t).2.2 c (g_ser M2)).length ≤ _
    unfold s_rdk
    split
    · rw [List.length_append]
      show (g_X M2 t).2.2.length + 1 ≤ _
      omega
    · omega
theorem sP_sdr {n : Int32} (h : sv_P M t W R r u e v q M2) : sv_P M t W R r u e v q (g_sdr M2 t n) := by
  obtain ⟨a1, a2, a3, a4, a5, a6, a7, c1, c2, c3, c4⟩ := h
  have ex : g_X (g_sdr M2 t n) t = ((g_X M2 t).1, sv_drop n (g_X M2 t).2.1, (g_X M2 t).2.2) := by
    show (if t = t then _ else _) = _
    rw [if_pos rfl]
  refine ⟨a1, fun p hp => ?_, by rw [ex]; exact a3, a4, a5, ?_, by rw [ex]; exact a7, ?_, ?_, ?_, ?_⟩
  · show (if p = t then _ else g_X M2 p) = _
    rw [if_neg hp]
    exact a2 p hp
  · rw [ex]
    exact fun y hy => a6 y (List.mem_filter.mp hy).1
  · rw [ex]
    exact Nat.le_trans (List.length_filter_le _ _) c1
  · rw [ex]
    exact Nat.le_trans (cy_flt _ _) c2
  · rw [ex]
    exact Nat.le_trans (zs_flt _ _ _) c3
  · rw [ex]
    exact Nat.le_trans (zs_flt _ _ _) c4
theorem kc_E (M2 : s_M) (t : Nat) (k : Int32) (c : Nat) (w p : Int32) : (g_E (g_kc M2 t k c w p)).1 = if m_ck (g_ser M2 + 1, k, c, c + 1, w, p) < 6 then m_ins c (g_E M2).1 else (g_E M2).1 := rfl
/-- one more change of one key -/
theorem sP_kc {k w p : Int32} {c q' : Nat} (h : sv_P M t W R r u e v q M2) (hc : c < 1331000000000) (hy : y_y (g_E (g_kc M2 t k c w p)).1 W R (g_ser M2 + 1, k, c, c + 1, w, p)) (hl : k = 6 ∨ z_nm c (g_E M2).1 ∨ (997 ≤ c / 121000000 ∧ c / 121000000 ≤ 999))
    (hq : (k = 6 ∨ z_nm c (g_E M2).1) ∧ q ≤ q' ∨ q + 1 ≤ q') (h6 : k = 6 → c / 121000000 = 996) {e' v' : Nat} (he : e + (if k = 1 then 1 else 2) ≤ e') (hv : v + (if k = 6 then 1 else 0) ≤ v') : sv_P M t W R r (u + 1) e' v' q' (g_kc M2 t k c w p) := by
  obtain ⟨⟨a11, a12, a13, a14, a15⟩, a2, a3, ⟨b1, b2, b3, b4, b5⟩, a5, a6, a7, c1, c2, c3, c4⟩ := h
  have ck6 : k = 6 → ¬ m_ck (g_ser M2 + 1, k, c, c + 1, w, p) < 6 := fun e6 => by
    unfold m_ck
    rw [if_neg (fun z => by rw [e6] at z; exact absurd z.1 (show ¬ (6 : Int32) = 1 by decide)), if_pos ⟨e6, h6 e6⟩]
    decide
  have hE2 : (g_E (g_kc M2 t k c w p)).2 = (g_E M2).2 := rfl
  have hk : ∀ d, z_nm d (g_E M2).1 → z_nm d (g_E (g_kc M2 t k c w p)).1 := fun d hd => by
    rw [kc_E]
    split
    · obtain ⟨a, hd⟩ := hd; exact ⟨a, m_ins_mem hd⟩
    · exact hd
  have ex : g_X (g_kc M2 t k c w p) t = ((g_X M2 t).1, (g_X M2 t).2.1 ++ [(g_ser M2 + 1, k, c, c + 1, w, p)], (g_X M2 t).2.2) := by
    show (if t = t then _ else _) = _
    rw [if_pos rfl]
  have lone : ∀ f : k_CH → Nat, z_sum f [(g_ser M2 + 1, k, c, c + 1, w, p)] = f (g_ser M2 + 1, k, c, c + 1, w, p) := fun f => by unfold z_sum; simp
  refine ⟨⟨a11, a12, a13, a14, a15⟩, fun p' hp => ?_, by rw [ex]; exact a3, ⟨?_, fun x hx => ?_, fun d hd => hk d (b3 d hd), ?_, ?_⟩, ?_, ?_, by rw [ex]; exact a7, ?_, ?_, ?_, ?_⟩
  · show (if p' = t then _ else g_X M2 p') = _
    rw [if_neg hp]
    exact a2 p' hp
  · have : g_E (g_kc M2 t k c w p) = ((if m_ck (g_ser M2 + 1, k, c, c + 1, w, p) < 6 then m_ins c (g_E M2).1 else (g_E M2).1), (g_E M2).2) := rfl
    rw [this]
    split
    · exact iK_ins b1 hc
    · exact b1
  · rw [kc_E] at hx
    split at hx
    · rename_i hlt
      rcases m_ins_of hx with ee | ee
      · rw [ee]
        rcases hl with g | g | g
        · exact absurd hlt (ck6 g)
        · obtain ⟨a, g⟩ := g; exact b2 _ g
        · exact Or.inr g
      · exact b2 x ee
    · exact b2 x hx
  · rw [kc_E]
    split
    · rename_i hlt
      rcases hq with ⟨g | g, g2⟩ | g2
      · exact absurd hlt (ck6 g)
      · obtain ⟨a, g⟩ := g
        rw [m_ins_in b1.1 g]; omega
      · have := m_ins_len c (g_E M2).1
        omega
    · omega
  · rw [← b5]
    exact V_kp b1.1 b1.2.1
  · show g_ser M2 + 1 ≤ _
    omega
  · rw [ex]
    intro y hy'
    rcases List.mem_append.mp hy' with g | g
    · exact yy_mono hk (fun _ h => h) (fun _ h => h) (a6 y g)
    · have : y = (g_ser M2 + 1, k, c, c + 1, w, p) := by simpa using g
      rw [this]
      exact hy
  · rw [ex]
    show ((g_X M2 t).2.1 ++ [_]).length ≤ _
    rw [List.length_append]
    show (g_X M2 t).2.1.length + 1 ≤ _
    omega
  · rw [ex]
    show z_cy ((g_X M2 t).2.1 ++ [_]) ≤ _
    rw [cy_app]
    have : z_cy [(g_ser M2 + 1, k, c, c + 1, w, p)] ≤ if k = 1 then 1 else 2 := by
      by_cases e1 : k = 1
      · rw [if_pos e1]
        unfold z_cy
        rw [lone, lone]
        unfold z_c1 z_c2
        rw [e1, if_pos (show s_ord 1 = true by decide), if_neg (show ¬ 1 < c + 1 - c by omega), if_pos rfl, if_neg (show ¬ (1 : Int32) = 6 by decide)]
        exact Nat.le_refl _
      · rw [if_neg e1]
        exact cy_le [_]
    omega
  · rw [ex]
    show z_sum z_w1 ((g_X M2 t).2.1 ++ [_]) ≤ _
    rw [zs_app, lone]
    have : z_w1 (g_ser M2 + 1, k, c, c + 1, w, p) = 0 := by
      unfold z_w1
      rw [if_neg (fun z => by have := z.2; have z2 : 1 < c + 1 - c := z.2; omega)]
    omega
  · rw [ex]
    show z_sum z_s6 ((g_X M2 t).2.1 ++ [_]) ≤ _
    rw [zs_app, lone]
    have : z_s6 (g_ser M2 + 1, k, c, c + 1, w, p) = if k = 6 then 1 else 0 := rfl
    omega
/-- a change of a key of the layers of records, indexes by field and by count -/
theorem sP_v {k w p : Int32} {c : Nat} (h : sv_P M t W R r u e v q M2) (hc : c < 1331000000000) (hk : k = 0 ∨ k = 2) (hw : c ∈ W) (hl : c / 121000000 = 998 ∨ c / 121000000 = 997) : sv_P M t W R r (u + 1) (e + 2) v (q + 1) (g_kc M2 t k c w p) := by
  have k6 : ¬ k = 6 := by rcases hk with rfl | rfl <;> decide
  have k1 : ¬ k = 1 := by rcases hk with rfl | rfl <;> decide
  refine sP_kc h hc ⟨hc, by show c + 1 ≤ _; omega, Or.inr (Or.inr (Or.inl ⟨?_, rfl, ?_, hw, Or.inr (Or.inl ⟨?_, hl⟩)⟩))⟩ (Or.inr (Or.inr (by omega))) (Or.inr (Nat.le_refl _)) (fun z => absurd z k6) (by rw [if_neg k1]; exact Nat.le_refl _) (by rw [if_neg k6]; exact Nat.le_refl _)
  · rcases hk with z | z
    · exact Or.inl z
    · exact Or.inr (Or.inl z)
  · rw [kc_E]
    have : m_ck (g_ser M2 + 1, k, c, c + 1, w, p) = k := by
      unfold m_ck
      rw [if_neg (fun z => k1 z.1), if_neg (fun z => k6 z.1)]
    rw [this, if_pos (by rcases hk with rfl | rfl <;> decide)]
    exact m_ins_has _
  · rcases hk with rfl | rfl
    · show ¬ (0 : Int32) = 5; decide
    · show ¬ (2 : Int32) = 5; decide
theorem ck1 (s c : Nat) (w p : Int32) : m_ck (s, 1, c, c + 1, w, p) = 1 := by
  unfold m_ck
  rw [if_neg (fun z => by have z2 : 1 < c + 1 - c := z.2; omega), if_neg (fun z => absurd z.1 (show ¬ (1 : Int32) = 6 by decide))]
theorem sP_c {w p : Int32} {c : Nat} (h : sv_P M t W R r u e v q M2) (hc : c < 1331000000000) (hl : c / 121000000 = 998 ∨ c / 121000000 = 999) : sv_P M t W R r (u + 1) (e + 1) v (q + 1) (g_kc M2 t 1 c w p) := by
  refine sP_kc h hc ⟨hc, by show c + 1 ≤ _; omega, Or.inr (Or.inl ⟨rfl, rfl, ?_, by show ¬ (993 ≤ c / 121000000 ∧ c / 121000000 ≤ 995); omega⟩)⟩ (Or.inr (Or.inr (by omega))) (Or.inr (Nat.le_refl _)) (fun z => absurd z (by decide)) (by rw [if_pos rfl]; exact Nat.le_refl _) (by rw [if_neg (by decide)]; exact Nat.le_refl _)
  rw [kc_E, ck1, if_pos (by decide)]
  exact m_ins_has _
theorem sP_x {w p : Int32} {c : Nat} (h : sv_P M t W R r u e v q M2) (hc : c < 1331000000000) (hl : c / 121000000 = 996) (hn : z_nm c (g_E M2).1) : sv_P M t W R r (u + 1) (e + 1) v q (g_kc M2 t 1 c w p) := by
  refine sP_kc h hc ⟨hc, by show c + 1 ≤ _; omega, Or.inr (Or.inl ⟨rfl, rfl, ?_, by show ¬ (993 ≤ c / 121000000 ∧ c / 121000000 ≤ 995); omega⟩)⟩ (Or.inr (Or.inl hn)) (Or.inl ⟨Or.inr hn, Nat.le_refl _⟩) (fun z => absurd z (by decide)) (by rw [if_pos rfl]; exact Nat.le_refl _) (by rw [if_neg (by decide)]; exact Nat.le_refl _)
  rw [kc_E, ck1, if_pos (by decide)]
  exact m_ins_has _
theorem sP_6 {w p : Int32} {k : Nat} (h : sv_P M t W R r u e v q M2) (hk : k < 100) : sv_P M t W R r (u + 1) (e + 2) (v + 1) q (g_kc M2 t 6 (s_cd (-4) 0 (nI k)) w p) := by
  have l := m4_ly (v := 0) (k := k) (by decide) hk
  have e0 : (nI 0 : Int32) = 0 := rfl
  rw [e0] at l
  refine sP_kc h l.2.2.2 ⟨l.2.2.2, by show s_cd (-4) 0 (nI k) + 1 ≤ _; have := l.2.2.2; omega, Or.inr (Or.inr (Or.inr ⟨rfl, rfl, Or.inr (Or.inr ⟨k, hk, rfl⟩)⟩))⟩ (Or.inl rfl) (Or.inl ⟨Or.inl rfl, Nat.le_refl _⟩) (fun _ => l.1) (by rw [if_neg (by decide)]; exact Nat.le_refl _) (by rw [if_pos rfl]; exact Nat.le_refl _)
theorem sP_r {p : Int32} {k j : Nat} (h : sv_P M t W R r u e v q M2) (hr : y_rec W R k j) : sv_P M t W R r (u + 1) (e + 2) v (q + 1) (g_kc M2 t 0 (sv_re (nI k)) (nI j) p) := by
  have l := re_ly hr.1
  have hc : sv_re (nI k) < 1331000000000 := s_cd_lt na_m6.2.2.2.2.2.2.1 (na_100 (by have := hr.1; omega)) (Or.inl rfl)
  refine sP_kc h hc ⟨hc, by show sv_re (nI k) + 1 ≤ _; omega, Or.inr (Or.inr (Or.inl ⟨Or.inl rfl, rfl, ?_, hr.2.2.2.2.1, Or.inr (Or.inr ⟨rfl, k, j, hr, rfl, rfl⟩)⟩))⟩ (Or.inr (Or.inr (by omega))) (Or.inr (Nat.le_refl _)) (fun z => absurd z (by decide)) (by rw [if_neg (by decide)]; exact Nat.le_refl _) (by rw [if_neg (by decide)]; exact Nat.le_refl _)
  rw [kc_E]
  have : m_ck (g_ser M2 + 1, 0, sv_re (nI k), sv_re (nI k) + 1, nI j, p) = 0 := by
    unfold m_ck
    rw [if_neg (fun z => absurd z.1 (by show ¬ (0 : Int32) = 1; decide)), if_neg (fun z => absurd z.1 (by show ¬ (0 : Int32) = 6; decide))]
  show z_nm (sv_re (nI k)) (if m_ck (g_ser M2 + 1, 0, sv_re (nI k), sv_re (nI k) + 1, nI j, p) < 6 then m_ins (sv_re (nI k)) (g_E M2).1 else (g_E M2).1)
  rw [this, if_pos (by decide)]
  exact m_ins_has _
theorem sP_1 {c : Bool} {k w p : Int32} {cd : Nat} {u' e' v' q' : Nat} (h : sv_P M t W R r u e v q M2) (h2 : c = true → sv_P M t W R r u' e' v' q' (g_kc M2 t k cd w p)) (l1 : u ≤ u') (l2 : e ≤ e') (l3 : v ≤ v') (l4 : q ≤ q') : sv_P M t W R r u' e' v' q' (sv_1 c t k cd w p M2) := by
  unfold sv_1
  split
  · rename_i hc; exact h2 hc
  · exact sP_mono h (Nat.le_refl _) l1 l2 l3 l4
/-- what is seen of a record's versions -/
theorem seen_at {Vs : List Nat} {n : Int32} (h : sv_P M t W R r u e v q M2) (hV : ∀ x ∈ (g_E M).1, x.1 / 121000000 = 996 → ∃ v ∈ Vs, s_dig x.1 1 = v + 1000) : (sv_seen M2 t n).length ≤ Vs.length ∧ ∀ x ∈ sv_seen M2 t n, x.1 / 121000000 = 996 ∧ x.1 < 1331000000000 ∧ z_nm x.1 (g_E M2).1 := by
  have at4 : ∀ x ∈ sv_seen M2 t n, x.1 / 121000000 = 996 ∧ x.1 < 1331000000000 ∧ z_nm x.1 (g_E M2).1 ∧ s_no x.1 2 = n := fun x hx => by
    obtain ⟨h1, h2⟩ := List.mem_filter.mp hx
    obtain ⟨h3, h4⟩ := List.mem_filter.mp h1
    simp only [Bool.and_eq_true, decide_eq_true_eq] at h4
    have d : s_lo (-4) 10000 = 120516000000 ∧ s_la (-4) 10000 + 1 = 120637000000 := by decide +kernel
    exact ⟨by omega, h.2.2.2.1.1.2.2 x h3, ⟨x.2, h3⟩, by simpa using h2⟩
  refine ⟨?_, fun x hx => ⟨(at4 x hx).1, (at4 x hx).2.1, (at4 x hx).2.2.1⟩⟩
  have s : (sv_seen M2 t n).Pairwise (fun x y => x.1 < y.1) := List.Pairwise.sublist (List.Sublist.trans List.filter_sublist List.filter_sublist) h.2.2.2.1.1.1
  have := nd_len (l := (sv_seen M2 t n).map (fun x => s_dig x.1 1)) (m := Vs.map (fun v => v + 1000)) (List.pairwise_map.mpr (s.imp_of_mem (fun {a b} ha hb hab e => by
    obtain ⟨a1, a2, -, a3⟩ := at4 a ha
    obtain ⟨b1, b2, -, b3⟩ := at4 b hb
    have e2 : s_dig a.1 2 = s_dig b.1 2 := by rw [← no_dg, ← no_dg, a3, b3]
    have := dig_eq a2 b2 (by omega) e e2
    have hab : a.1 < b.1 := hab
    omega))) (fun c hc => by
    obtain ⟨x, hx, rfl⟩ := List.mem_map.mp hc
    obtain ⟨a1, a2, ⟨k, a3⟩, -⟩ := at4 x hx
    obtain ⟨k', hk'⟩ : z_nm x.1 (g_E M).1 := by
      rcases h.2.2.2.1.2.1 _ a3 with g | g
      · exact g
      · have g' : 997 ≤ x.1 / 121000000 := g.1
        omega
    obtain ⟨w, hw, ew⟩ := hV _ hk' a1
    exact List.mem_map.mpr ⟨w, hw, ew.symm⟩)
  rw [List.length_map, List.length_map] at this
  exact this
theorem sP_cls : ∀ (X : List k_K2) (M2 : s_M) (u e : Nat), (∀ x ∈ X, x.1 / 121000000 = 996 ∧ x.1 < 1331000000000 ∧ z_nm x.1 (g_E M2).1) → sv_P M t W R r u e v q M2 → sv_P M t W R r (u + X.length) (e + X.length) v q (g_cls t X M2) := by
  intro X
  induction X with
  | nil => intro M2 u e _ h; exact h
  | cons x X ih =>
    intro M2 u e hX h
    obtain ⟨h1, h2, h3⟩ := hX x List.mem_cons_self
    have s := sP_x (w := 0) (p := 0) h h2 h1 h3
    have := ih (g_kc M2 t 1 x.1 0 0) (u + 1) (e + 1) (fun y hy => by
      obtain ⟨g1, g2, g3⟩ := hX y (List.mem_cons_of_mem _ hy)
      refine ⟨g1, g2, ?_⟩
      rw [kc_E]
      split
      · obtain ⟨a, g3⟩ := g3; exact ⟨a, m_ins_mem g3⟩
      · exact g3) s
    rw [List.length_cons]
    have e1 : u + (X.length + 1) = u + 1 + X.length := by omega
    have e2 : e + (X.length + 1) = e + 1 + X.length := by omega
    rw [e1, e2]
    exact this
end SVP
