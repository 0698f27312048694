/-! WHAT A TRANSACTION KEEPS, in this law: the shapes of its changes; what a save makes of them -/
def y3v (v : Int32) : Prop := -4 ≤ v.toInt ∧ v.toInt ≤ 4
def y3 (y : k_CH) : Prop := y.2.2.1 < 1331000000000 ∧ y.2.2.2.1 ≤ 1331000000000 ∧ ((y.2.1 = 1 ∧ (1 < y.2.2.2.1 - y.2.2.1 ∧ 121000000 ≤ y.2.2.1) ∧ y_o y.2.2.1 y.2.2.2.1) ∨ (y.2.2.2.1 = y.2.2.1 + 1 ∧
  ((y_o y.2.2.1 (y.2.2.1 + 1) ∧ y3v y.2.2.2.2.1 ∧ s_inB y.2.1 0 6 = true ∧ 121000000 ≤ y.2.2.1) ∨ (y.2.1 = 6 ∧ y.2.2.1 = s_cd (-5) 0 10000 ∧ ∃ j, j < 1000 ∧ y.2.2.2.2.1 = nI j) ∨ ((y.2.1 = 0 ∨ y.2.1 = 1) ∧ ∃ j k, j < 100 ∧ k < 12 ∧ y.2.2.1 = wF j k) ∨
   (y.2.1 = 2 ∧ ∃ j, j < 100 ∧ y.2.2.1 = wN j) ∨ (y.2.1 = 1 ∧ ∃ u k, u < 9000 ∧ k < 12 ∧ y.2.2.1 = wW u k) ∨ (y.2.1 = 6 ∧ ∃ k, k < 12 ∧ y.2.2.1 = wW 0 k) ∨ ((y.2.1 = 0 ∨ y.2.1 = 1) ∧ ∃ k, k < 12 ∧ y.2.2.1 = wR k))))
theorem y3_s {y : k_CH} (h : y3 y) : y3s y := by
  obtain ⟨h1, h2, h3⟩ := h
  rcases h3 with ⟨a, b, -⟩ | ⟨a, -⟩
  · exact ⟨h1, h2, Or.inl ⟨a, b.1⟩⟩
  · exact ⟨h1, h2, Or.inr a⟩
theorem y3_lo {y : k_CH} (h : y3 y) : 121000000 ≤ y.2.2.1 := by
  obtain ⟨-, -, a | ⟨-, a⟩⟩ := h
  · exact a.2.1.2
  · rcases a with ⟨-, -, -, a⟩ | ⟨-, a, -⟩ | ⟨-, j, k, a1, a2, a⟩ | ⟨-, j, a1, a⟩ | ⟨-, w, k, a1, a2, a⟩ | ⟨-, k, a1, a⟩ | ⟨-, k, a1, a⟩
    · exact a
    · rw [a, show s_cd (-5) 0 10000 = 120406000000 from by decide]; omega
    · rw [a]; unfold wF; omega
    · rw [a]; unfold wN; omega
    · rw [a]; unfold wW; omega
    · rw [a]; unfold wW; omega
    · rw [a]; unfold wR; omega
theorem cd5 : s_cd (-5) 0 10000 = 120406000000 := by decide
theorem cov_of {y : k_CH} {c : Nat} (h : s_cov y c = true) : s_ord y.2.1 = true ∧ y.2.2.1 ≤ c ∧ c < y.2.2.2.1 := by
  unfold s_cov at h
  simp only [Bool.and_eq_true, decide_eq_true_eq] at h
  exact ⟨h.1.1, h.1.2, h.2⟩
/-- what of the layers a change covers, but for those of change() and clear() -/
theorem y3_cov {y : k_CH} (h : y3 y) {c : Nat} (hv : s_cov y c = true) (h1 : 120153000000 ≤ c) (h2 : c < 121000000000) : y.2.2.2.1 = y.2.2.1 + 1 ∧ y.2.2.1 = c ∧
    (((y.2.1 = 0 ∨ y.2.1 = 1) ∧ ∃ j k, j < 100 ∧ k < 12 ∧ c = wF j k) ∨ (y.2.1 = 2 ∧ ∃ j, j < 100 ∧ c = wN j) ∨ (y.2.1 = 1 ∧ ∃ u k, u < 9000 ∧ k < 12 ∧ c = wW u k) ∨ ((y.2.1 = 0 ∨ y.2.1 = 1) ∧ ∃ k, k < 12 ∧ c = wR k)) := by
  obtain ⟨o, v1, v2⟩ := cov_of hv
  obtain ⟨-, -, a | ⟨e, a⟩⟩ := h
  · obtain ⟨-, -, a⟩ := a
    exfalso
    rcases a with a | a <;> omega
  · have ec : y.2.2.1 = c := by omega
    have n6 : ¬ y.2.1 = 6 := fun z => by rw [z] at o; exact absurd o (by decide)
    refine ⟨e, ec, ?_⟩
    rw [← ec]
    rcases a with ⟨a, -⟩ | ⟨a, -⟩ | a | a | a | ⟨a, -⟩ | a
    · exfalso
      rcases a with a | a <;> omega
    · exact absurd a n6
    · exact Or.inl a
    · exact Or.inr (Or.inl a)
    · exact Or.inr (Or.inr (Or.inl a))
    · exact absurd a n6
    · exact Or.inr (Or.inr (Or.inr a))
theorem y3_5 {y : k_CH} (h : y3 y) {c : Nat} (hv : s_cov y c = true) (h1 : 120153000000 ≤ c) (h2 : c < 121000000000) : ¬ y.2.1 = 5 := by
  obtain ⟨-, -, a⟩ := y3_cov h hv h1 h2
  intro z
  rw [z] at a
  rcases a with ⟨a | a, -⟩ | ⟨a, -⟩ | ⟨a, -⟩ | ⟨a | a, -⟩ <;> exact absurd a (by decide)
theorem y3_S {y : k_CH} (h : y3 y) {c : Nat} (h1 : 120153000000 ≤ c) (h2 : c < 120516000000) : ¬ s_cov y c = true := by
  intro hv
  obtain ⟨-, -, a⟩ := y3_cov h hv h1 (by omega)
  rcases a with ⟨-, j, k, b1, b2, b3⟩ | ⟨-, j, b1, b2⟩ | ⟨-, u, k, b1, b2, b3⟩ | ⟨-, k, b1, b2⟩
  · unfold wF at b3; omega
  · unfold wN at b2; omega
  · unfold wW at b3; omega
  · unfold wR at b2; omega
theorem sc_W {s : Nat} {k m hi : Nat} {v p : Int32} (hk : k < 9000) (hm : m < 9000) : e_sc (s, 6, wW 0 k, hi, v, p) m = wW m k ∧ m_ck (s, 6, wW 0 k, hi, v, p) = 8 := by
  have e : wW 0 k = s_cd (-4) 0 (nI k) := (wW_eq (u := 0) (by omega) hk).symm
  have e8 : m_ck (s, 6, wW 0 k, hi, v, p) = 8 := by
    unfold m_ck
    rw [if_neg (fun z => absurd z.1 (by show ¬ (6 : Int32) = 1; decide)), if_pos ⟨rfl, by show wW 0 k / 121000000 = 996; unfold wW; omega⟩]
  refine ⟨?_, e8⟩
  unfold e_sc
  rw [e8]
  show s_with (wW 0 k) (s_stp 8 (wW 0 k)) (nI m) = wW m k
  have e1 : s_stp 8 (wW 0 k) = 1 := if_pos rfl
  rw [e1]
  unfold s_with
  rw [if_neg (by decide), if_pos rfl, if_neg (by decide), e, s_no_0 s_na_m4 (Or.inr (s_nmB_iff.mp (by decide))) (na_100 hk), s_no_2 s_na_m4 (Or.inr (s_nmB_iff.mp (by decide))) (na_100 hk)]
  exact wW_eq hm hk
/-- where what is stamped comes to lie -/
theorem y3_sc {y : k_CH} (h : y3 y) (h6 : y.2.1 = 6) {m : Nat} (hm : m < 9000) : (y_o (e_sc y m) (e_sc y m + 1) ∧ y3v y.2.2.2.2.1) ∨ (e_sc y m / 121000000 = 995 ∧ ∃ j, j < 1000 ∧ y.2.2.2.2.1 = nI j) ∨ ∃ k, k < 12 ∧ y.2.2.1 = wW 0 k ∧ e_sc y m = wW m k := by
  obtain ⟨h1, h2, a | ⟨e, a⟩⟩ := h
  · rw [h6] at a; exact absurd a.1 (by decide)
  · have hl := with_ly (lo := y.2.2.1) (k := s_stp (m_ck y) y.2.2.1) (n := m) h1 hm
    rcases a with ⟨a, av, -⟩ | ⟨-, a, av⟩ | ⟨a, -⟩ | ⟨a, -⟩ | ⟨a, -⟩ | ⟨-, k, b1, b2⟩ | ⟨a, -⟩
    · left
      refine ⟨?_, av⟩
      unfold e_sc y_o
      by_cases z : s_stp (m_ck y) y.2.2.1 = 0
      · rw [if_pos z] at hl
        right; omega
      · rw [if_neg z] at hl
        rcases a with a | a
        · left; omega
        · right; omega
    · right; left
      refine ⟨?_, av⟩
      have lt := with_lt (lo := y.2.2.1) (k := s_stp (m_ck y) y.2.2.1) (n := m) hm
      unfold e_sc
      rw [hl, if_neg]
      · rw [a, cd5]
      · rw [a]
        unfold s_stp
        have ck : ¬ m_ck y = 8 := by
          unfold m_ck
          rw [h6, if_neg (fun z => absurd z.1 (by decide)), if_neg (fun z => by have := z.2; rw [a, cd5] at this; omega)]
          decide
        rw [if_neg ck]
        decide +kernel
    · rw [h6] at a; exact absurd a (by decide)
    · rw [h6] at a; exact absurd a (by decide)
    · rw [h6] at a; exact absurd a (by decide)
    · right; right
      refine ⟨k, b1, b2, ?_⟩
      obtain ⟨s, kd, lo, hi, v, p⟩ := y
      have e6 : kd = 6 := h6
      have el : lo = wW 0 k := b2
      subst e6; subst el
      exact (sc_W (by omega) hm).1
    · rw [h6] at a; exact absurd a (by decide)
theorem y3_stp {MC : List k_CH} (h : ∀ y ∈ MC, y3 y) {m c : Nat} (hm : m < 9000) (h1 : 120153000000 ≤ c) (h2 : c < 121000000000) (h3 : ¬ c / 121000000 = 995) (h4 : ∀ k, k < 12 → ¬ c = wW m k) (o : Option Int32) : u_stp m c MC o = o := by
  refine stp_no MC o fun y hy h6 hc => ?_
  rcases y3_sc (h y hy) h6 hm with ⟨a, -⟩ | ⟨a, -⟩ | ⟨k, b1, -, b2⟩
  · rw [hc] at a
    rcases a with a | a <;> omega
  · rw [hc] at a; exact h3 a
  · exact h4 k b1 (by rw [← hc, b2])
/-- outside of what is stamped -/
theorem y3_all {MC : List k_CH} (h : ∀ y ∈ MC, y3 y) {m c : Nat} {U : j_U} (hm : m < 9000) (h1 : 120153000000 ≤ c) (h2 : c < 121000000000) (h3 : ¬ c / 121000000 = 995) (h4 : ¬ c / 121000000 = 996) : u_all m MC U c = u_ord MC U c :=
  y3_stp h hm h1 h2 h3 (fun k hk e => h4 (by rw [e]; unfold wW; omega)) _
theorem y3_allS {MC : List k_CH} (h : ∀ y ∈ MC, y3 y) {m x : Nat} {U : j_U} (hm : m < 9000) (hx : x < 3) : u_all m MC U (wS x) = U (wS x) := by
  rw [y3_all h hm (by unfold wS; omega) (by unfold wS; omega) (by unfold wS; omega) (by unfold wS; omega)]
  exact ord_no fun y hy => y3_S (h y hy) (by unfold wS; omega) (by unfold wS; omega)
/-! .. the steps of a save -/
def e_m (M : s_M) (t : Nat) (P : k_CH → Prop) (M2 : s_M) : Prop := g_ser M ≤ g_ser M2 ∧ (∀ y ∈ (g_X M2 t).2.1, y ∈ (g_X M t).2.1 ∨ (P y ∧ g_ser M < y.1)) ∧ (∀ s lo hi, s ≤ g_ser M → s_ownS (g_X M2 t).2.1 s lo hi = s_ownS (g_X M t).2.1 s lo hi) ∧
  ((g_X M2 t).1 = (g_X M t).1 ∧ (g_E M2).2 = (g_E M).2 ∧ g_n M2 = g_n M ∧ g_gen M2 = g_gen M ∧ g_los M2 = g_los M ∧ g_why M2 = g_why M ∧ M2.2.2.2 = M.2.2.2) ∧ (∀ u, ¬ u = t → g_X M2 u = g_X M u) ∧ (∀ r ∈ (g_X M t).2.2, r ∈ (g_X M2 t).2.2) ∧ ∀ c, z_nm c (g_E M).1 → z_nm c (g_E M2).1
section EM
variable {M M2 : s_M} {t : Nat} {P : k_CH → Prop}
theorem em_0 : e_m M t P M := ⟨Nat.le_refl _, fun y hy => Or.inl hy, fun _ _ _ _ => rfl, ⟨rfl, rfl, rfl, rfl, rfl, rfl, rfl⟩, fun _ _ => rfl, fun _ h => h, fun _ h => h⟩
theorem kc_X (M2 : s_M) (t : Nat) (k : Int32) (c : Nat) (v p : Int32) : g_X (g_kc M2 t k c v p) t = ((g_X M2 t).1, (g_X M2 t).2.1 ++ [(g_ser M2 + 1, k, c, c + 1, v, p)], (g_X M2 t).2.2) := by
  show (if t = t then _ else _) = _
  rw [if_pos rfl]
theorem ownS_app (MC M3 : List k_CH) (s lo hi : Nat) (h : ∀ y ∈ M3, s < y.1) : s_ownS (MC ++ M3) s lo hi = s_ownS MC s lo hi := by
  unfold s_ownS
  rw [List.any_append]
  have : M3.any (fun x => s_all x.2.1 && decide (x.1 ≤ s) && decide (x.2.2.1 ≤ lo) && decide (hi ≤ x.2.2.2.1)) = false := by
    rw [List.any_eq_false]
    intro y hy z
    simp only [Bool.and_eq_true, decide_eq_true_eq] at z
    have := h y hy
    omega
  rw [this, Bool.or_false]
theorem em_kc {k : Int32} {c : Nat} {v p : Int32} (h : e_m M t P M2) (hp : P (g_ser M2 + 1, k, c, c + 1, v, p)) : e_m M t P (g_kc M2 t k c v p) := by
  obtain ⟨a1, a2, a3, ⟨b1, b2, b3, b4, b5, b6, b7⟩, a5, a6, a7⟩ := h
  have ex := kc_X M2 t k c v p
  refine ⟨Nat.le_succ_of_le a1, fun y hy => ?_, fun s lo hi hs => ?_, ⟨by rw [ex]; exact b1, b2, b3, b4, b5, b6, b7⟩, fun u hu => ?_, fun r hr => by rw [ex]; exact a6 r hr, fun d hd => ?_⟩
  · rw [ex] at hy
    rcases List.mem_append.mp hy with g | g
    · exact a2 y g
    · rw [List.mem_singleton.mp g]
      exact Or.inr ⟨hp, by show g_ser M < g_ser M2 + 1; omega⟩
  · rw [ex]
    show s_ownS ((g_X M2 t).2.1 ++ [_]) s lo hi = _
    rw [ownS_app _ _ _ _ _ (fun y hy => by rw [List.mem_singleton.mp hy]; show s < g_ser M2 + 1; omega)]
    exact a3 s lo hi hs
  · show (if u = t then _ else g_X M2 u) = _
    rw [if_neg hu]
    exact a5 u hu
  · rw [kc_E]
    split
    · obtain ⟨q, h⟩ := a7 d hd; exact ⟨q, m_ins_mem h⟩
    · exact a7 d hd
theorem em_rk {c : Nat} (h : e_m M t P M2) : e_m M t P (g_rk M2 t c) := by
  obtain ⟨a1, a2, a3, ⟨b1, b2⟩, a5, a6, a7⟩ := h
  obtain ⟨e1, e2⟩ := rk_cs M2 t c
  refine ⟨a1, by rw [e1]; exact a2, by rw [e1]; exact a3, ⟨by rw [e2]; exact b1, b2⟩, fun u hu => ?_, fun r hr => ?_, a7⟩
  · show (if u = t then _ else g_X M2 u) = _
    rw [if_neg hu]
    exact a5 u hu
  · show r ∈ (if t = t then _ else g_X M2 t).2.2
    rw [if_pos rfl]
    show r ∈ s_rdk true _ _ _ _
    unfold s_rdk
    split
    · exact List.mem_append.mpr (Or.inl (a6 r hr))
    · exact a6 r hr
theorem sdr_X (M2 : s_M) (t : Nat) (n : Int32) : g_X (g_sdr M2 t n) t = ((g_X M2 t).1, sv_drop n (g_X M2 t).2.1, (g_X M2 t).2.2) := by
  show (if t = t then _ else _) = _
  rw [if_pos rfl]
theorem is_68 {n : Int32} {y : k_CH} (h : sv_is n y = true) : y.2.1 = 6 ∨ y.2.1 = 8 := by
  unfold sv_is at h
  simp only [Bool.and_eq_true, decide_eq_true_eq] at h
  have h := h.1
  unfold m_ck at h
  split at h
  · exact absurd h (by decide)
  · split at h
    · rename_i g; exact Or.inl g.1
    · exact Or.inr h
theorem is_all {n : Int32} {y : k_CH} (h : sv_is n y = true) : s_all y.2.1 = false := by
  rcases is_68 h with e | e <;> rw [e] <;> decide
theorem em_sdr {n : Int32} (h : e_m M t P M2) : e_m M t P (g_sdr M2 t n) := by
  obtain ⟨a1, a2, a3, ⟨b1, b2⟩, a5, a6, a7⟩ := h
  have ex := sdr_X M2 t n
  refine ⟨a1, fun y hy => ?_, fun s lo hi hs => ?_, ⟨by rw [ex]; exact b1, b2⟩, fun u hu => ?_, fun r hr => by rw [ex]; exact a6 r hr, a7⟩
  · rw [ex] at hy
    exact a2 y (List.mem_filter.mp hy).1
  · rw [ex, ← a3 s lo hi hs]
    show s_ownS (sv_drop n (g_X M2 t).2.1) s lo hi = _
    unfold s_ownS sv_drop
    rw [List.any_filter]
    refine List.any_congr rfl fun y => ?_
    cases e : sv_is n y with
    | false => rfl
    | true =>
      rw [is_all e]
      rfl
  · show (if u = t then _ else g_X M2 u) = _
    rw [if_neg hu]
    exact a5 u hu
theorem em_1 {b : Bool} {k : Int32} {c : Nat} {v p : Int32} (h : e_m M t P M2) (hp : b = true → P (g_ser M2 + 1, k, c, c + 1, v, p)) : e_m M t P (sv_1 b t k c v p M2) := by
  unfold sv_1
  split
  · rename_i e; exact em_kc h (hp e)
  · exact h
theorem em_cls : ∀ (X : List k_K2) (M2 : s_M), (∀ x ∈ X, ∀ s, P (s, 1, x.1, x.1 + 1, 0, 0)) → e_m M t P M2 → e_m M t P (g_cls t X M2) := by
  intro X
  induction X with
  | nil => intro M2 _ h; exact h
  | cons x X ih =>
    intro M2 hX h
    exact ih _ (fun z hz => hX z (List.mem_cons_of_mem _ hz)) (em_kc h (hX x List.mem_cons_self _))
end EM
