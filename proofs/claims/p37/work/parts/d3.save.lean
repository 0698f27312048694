/-! WHAT A SAVE MAKES OF WHAT WILL BE -/
section SVE
variable {M M2 : s_M} {t m : Nat} {U Z : j_U} {c : Nat}
theorem kc_ord {k : Int32} {c0 : Nat} {v p : Int32} : u_ord (g_X (g_kc M2 t k c0 v p) t).2.1 U c = if s_ord k = true ∧ c0 = c then s_apO k v 0 (u_ord (g_X M2 t).2.1 U c) else u_ord (g_X M2 t).2.1 U c := by
  rw [kc_X]
  show u_ord ((g_X M2 t).2.1 ++ [_]) U c = _
  rw [ord_1]
  by_cases h : s_ord k = true ∧ c0 = c
  · rw [if_pos h, if_pos ((s_cov_1 rfl).mpr h)]
  · rw [if_neg h, if_neg (fun z => h ((s_cov_1 rfl).mp z))]
theorem kc_stp {k : Int32} {c0 : Nat} {v p : Int32} {o : Option Int32} : u_stp m c (g_X (g_kc M2 t k c0 v p) t).2.1 o = if k = 6 ∧ e_sc (g_ser M2 + 1, k, c0, c0 + 1, v, p) m = c then some v else u_stp m c (g_X M2 t).2.1 o := by
  rw [kc_X]
  show u_stp m c ((g_X M2 t).2.1 ++ [_]) o = _
  rw [stp_app]
  rfl
theorem one_ord {b : Bool} {k : Int32} {c0 : Nat} {v p : Int32} : u_ord (g_X (sv_1 b t k c0 v p M2) t).2.1 U c = if b = true ∧ s_ord k = true ∧ c0 = c then s_apO k v 0 (u_ord (g_X M2 t).2.1 U c) else u_ord (g_X M2 t).2.1 U c := by
  cases b with
  | true =>
    show u_ord (g_X (g_kc M2 t k c0 v p) t).2.1 U c = _
    rw [kc_ord]
    by_cases h : s_ord k = true ∧ c0 = c
    · rw [if_pos h, if_pos ⟨rfl, h⟩]
    · rw [if_neg h, if_neg (fun z => h z.2)]
  | false => rw [if_neg (fun z => by cases z.1)]; rfl
theorem one_stp {b : Bool} {k : Int32} {c0 : Nat} {v p : Int32} {o : Option Int32} : u_stp m c (g_X (sv_1 b t k c0 v p M2) t).2.1 o = if b = true ∧ k = 6 ∧ e_sc (g_ser M2 + 1, k, c0, c0 + 1, v, p) m = c then some v else u_stp m c (g_X M2 t).2.1 o := by
  cases b with
  | true =>
    show u_stp m c (g_X (g_kc M2 t k c0 v p) t).2.1 o = _
    rw [kc_stp]
    by_cases h : k = 6 ∧ e_sc (g_ser M2 + 1, k, c0, c0 + 1, v, p) m = c
    · rw [if_pos h, if_pos ⟨rfl, h⟩]
    · rw [if_neg h, if_neg (fun z => h z.2)]
  | false => rw [if_neg (fun z => by cases z.1)]; rfl
theorem sdr_ord {n : Int32} (h8 : ∀ y ∈ (g_X M2 t).2.1, sv_is n y = true → y.2.1 = 6) : u_ord (g_X (g_sdr M2 t n) t).2.1 U c = u_ord (g_X M2 t).2.1 U c := by
  rw [sdr_X]
  refine ord_flt fun y hy e => ?_
  have : sv_is n y = true := by simpa using e
  unfold s_cov
  rw [h8 y hy this]
  rfl
theorem cls_ord : ∀ (X : List k_K2) (M2 : s_M), u_ord (g_X (g_cls t X M2) t).2.1 U c = if (∃ x ∈ X, x.1 = c) then none else u_ord (g_X M2 t).2.1 U c := by
  intro X
  induction X with
  | nil => intro M2; rw [if_neg (fun ⟨x, hx, _⟩ => by cases hx)]; rfl
  | cons x X ih =>
    intro M2
    show u_ord (g_X (g_cls t X (g_kc M2 t 1 x.1 0 0)) t).2.1 U c = _
    rw [ih, kc_ord]
    by_cases h : ∃ x ∈ X, x.1 = c
    · obtain ⟨z, hz, e⟩ := h
      rw [if_pos ⟨z, hz, e⟩, if_pos ⟨z, List.mem_cons_of_mem _ hz, e⟩]
    · rw [if_neg h]
      by_cases e : x.1 = c
      · rw [if_pos ⟨by decide, e⟩, if_pos ⟨x, List.mem_cons_self, e⟩]
        rfl
      · rw [if_neg (fun z => e z.2), if_neg]
        rintro ⟨z, hz, ez⟩
        rcases List.mem_cons.mp hz with q | q
        · rw [q] at ez; exact e ez
        · exact h ⟨z, q, ez⟩
theorem cls_stp {o : Option Int32} : ∀ (X : List k_K2) (M2 : s_M), u_stp m c (g_X (g_cls t X M2) t).2.1 o = u_stp m c (g_X M2 t).2.1 o := by
  intro X
  induction X with
  | nil => intro M2; rfl
  | cons x X ih =>
    intro M2
    show u_stp m c (g_X (g_cls t X (g_kc M2 t 1 x.1 0 0)) t).2.1 o = _
    rw [ih, kc_stp, if_neg (fun z => absurd z.1 (by decide))]
/-- what is seen of a layer's key has no stamp -/
theorem see_2 {MC : List k_CH} (h : ∀ y ∈ MC, y3 y) (h1 : 120153000000 ≤ c) (h2 : c < 121000000000) : ∀ z : Option Int32 × Bool, z.2 = false → (s_see c MC z).2 = false := by
  induction MC with
  | nil => intro z hz; exact hz
  | cons y MC ih =>
    intro z hz
    refine ih (fun x hx => h x (List.mem_cons_of_mem _ hx)) _ ?_
    show (if s_cov y c = true then (s_apO y.2.1 y.2.2.2.2.1 0 z.1, s_apS y.2.1 z.2) else z).2 = false
    by_cases hv : s_cov y c = true
    · rw [if_pos hv]
      show s_apS y.2.1 z.2 = false
      unfold s_apS
      rw [hz, decide_eq_false (y3_5 (h y List.mem_cons_self) hv h1 h2)]
      rfl
    · rw [if_neg hv]; exact hz
/-- what stamps of one record come to -/
theorem drop_hit {MC : List k_CH} (h : ∀ y ∈ MC, y3 y) (hm : m < 9000) {n : Nat} (hn : n < 12) {y : k_CH} (hy : y ∈ MC) (h6 : y.2.1 = 6) : sv_is (nI n) y = true ↔ e_sc y m = wW m n := by
  have hno : ∀ k, k < 12 → s_no (wW 0 k) 2 = nI k := fun k hk => by
    rw [← wW_eq (u := 0) (by omega) (by omega)]
    exact s_no_2 s_na_m4 (na_100 (by omega)) (na_100 (by omega))
  have hck : ∀ k, k < 12 → y.2.2.1 = wW 0 k → m_ck y = 8 := fun k hk e => by
    unfold m_ck
    rw [h6, if_neg (fun z => absurd z.1 (by decide)), if_pos ⟨rfl, by rw [e]; unfold wW; omega⟩]
  constructor
  · intro hs
    have hs2 := hs
    unfold sv_is at hs2
    simp only [Bool.and_eq_true, decide_eq_true_eq] at hs2
    have h8 := hs2.1
    have hly : y.2.2.1 / 121000000 = 996 := by
      unfold m_ck at h8
      rw [h6, if_neg (fun z => absurd z.1 (by decide))] at h8
      by_cases q : y.2.2.1 / 121000000 = 996
      · exact q
      · rw [if_neg (fun z => q z.2)] at h8; exact absurd h8 (by decide)
    obtain ⟨a1, a2, a | ⟨e, a⟩⟩ := h y hy
    · rw [h6] at a; exact absurd a.1 (by decide)
    · rcases a with ⟨a, -⟩ | ⟨-, a, -⟩ | ⟨a, -⟩ | ⟨a, -⟩ | ⟨a, -⟩ | ⟨-, k, b1, b2⟩ | ⟨a, -⟩
      · exfalso
        rcases a with a | a <;> omega
      · rw [a, cd5] at hly; omega
      · rw [h6] at a; exact absurd a (by decide)
      · rw [h6] at a; exact absurd a (by decide)
      · rw [h6] at a; exact absurd a (by decide)
      · have hk : k = n := by
          have := hs2.2
          rw [b2, hno k b1] at this
          exact nI_j (by omega) (by omega) this
        subst hk
        rcases y3_sc (h y hy) h6 hm with ⟨z, -⟩ | ⟨z, -⟩ | ⟨k', q1, q2, q3⟩
        · obtain ⟨s, kd, lo, hi, v, p⟩ := y
          have e6 : kd = 6 := h6
          have el : lo = wW 0 k := b2
          subst e6; subst el
          exact (sc_W (by omega) hm).1
        · obtain ⟨s, kd, lo, hi, v, p⟩ := y
          have e6 : kd = 6 := h6
          have el : lo = wW 0 k := b2
          subst e6; subst el
          exact (sc_W (by omega) hm).1
        · rw [b2] at q2
          unfold wW at q2
          have : k = k' := by omega
          rw [q3, this]
      · rw [h6] at a; exact absurd a (by decide)
  · intro e
    rcases y3_sc (h y hy) h6 hm with ⟨z, -⟩ | ⟨z, -⟩ | ⟨k, q1, q2, q3⟩
    · exfalso
      rw [e] at z
      unfold wW y_o at z
      omega
    · exfalso
      rw [e] at z
      unfold wW at z
      omega
    · rw [q3] at e
      unfold wW at e
      have : k = n := by omega
      subst this
      unfold sv_is
      rw [hck k hn q2, q2, hno k hn, decide_eq_true rfl, decide_eq_true rfl]
      rfl
end SVE
