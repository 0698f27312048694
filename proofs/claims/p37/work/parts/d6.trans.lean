/-! A TRANSACTION: what it kept will keep the indexes right, wherever what it read is as it was -/
def jl (c : Nat) : Prop := (120274000000 ≤ c ∧ c < 120395000000) ∨ (120516000000 ≤ c ∧ c < 121000000000)
theorem jg_cg {U U' : j_U} (h : ∀ c, jl c → U' c = U c) {x k : Nat} (hx : x < 3) : j_g U' x k = j_g U x k := by
  unfold j_g
  rw [h _ (by unfold jl wS; omega)]
theorem jA_cg {U U' : j_U} (h : ∀ c, jl c → U' c = U c) (A : j_A U) : j_A U' := by
  obtain ⟨a, b, d⟩ := A
  refine ⟨fun c v h1 h2 e => ?_, fun c h1 h2 v => ?_, fun j hj => ?_⟩
  · rw [h c (Or.inr (by omega))] at e; exact a c v h1 h2 e
  · rw [h c (Or.inr (by omega)), b c h1 h2 v]
    constructor
    · rintro ⟨hv, k, j, h3, h4, h5, h6, h7⟩
      exact ⟨hv, k, j, h3, h4, h5, by rw [h _ (Or.inr (by unfold wR; omega))]; exact h6, by rw [jg_cg h (by omega)]; exact h7⟩
    · rintro ⟨hv, k, j, h3, h4, h5, h6, h7⟩
      rw [h _ (Or.inr (by unfold wR; omega))] at h6
      rw [jg_cg h (by omega)] at h7
      exact ⟨hv, k, j, h3, h4, h5, h6, h7⟩
  · rw [h _ (Or.inr (by unfold wN; omega)), d j hj]
    congr 1
    unfold j_c
    refine List.countP_congr fun k hk => ?_
    have := List.mem_range.mp hk
    rw [h _ (Or.inr (by unfold wR; omega)), jg_cg h (by omega)]
theorem jW_cg {n : Nat} {U U' : j_U} (h : ∀ c, jl c → U' c = U c) (W : j_W n U) : j_W n U' := by
  obtain ⟨w1, w2, w3⟩ := W
  have hw : ∀ u k, u < 9000 → k < 12 → U' (wW u k) = U (wW u k) := fun u k _ _ => h _ (Or.inr (by unfold wW; omega))
  have hr : ∀ k, k < 12 → U' (wR k) = U (wR k) := fun k _ => h _ (Or.inr (by unfold wR; omega))
  refine ⟨fun c v h1 h2 e => ?_, fun k v hk e g => ?_, fun k u u' hk hu hu' a b => ?_⟩
  · rw [h c (Or.inr (by omega))] at e
    obtain ⟨u, k, b1, b2, b3, b4, b5, b6⟩ := w1 c v h1 h2 e
    exact ⟨u, k, b1, b2, b3, b4, by rw [hr k b3]; exact b5, by rw [jg_cg h (by omega)]; exact b6⟩
  · rw [hr k hk] at e
    rw [jg_cg h (by omega)] at g
    obtain ⟨u, hu, a⟩ := w2 k v hk e g
    exact ⟨u, hu, by rw [hw u k hu hk]; exact a⟩
  · rw [hw u k hu hk] at a
    rw [hw u' k hu' hk] at b
    exact w3 k u u' hk hu hu' a b
theorem jW_mono {n m : Nat} {U : j_U} (W : j_W n U) (h : n ≤ m) : j_W m U :=
  ⟨fun c v h1 h2 e => by obtain ⟨u, k, b1, b2, b3⟩ := W.1 c v h1 h2 e; exact ⟨u, k, b1, by omega, b3⟩, W.2⟩
def q_D (D : Nat → Prop) (Z U : j_U) : Prop := ∀ c, D c → U c = Z c
def q_dep (M : s_M) (t : Nat) (D : Nat → Prop) : Prop := ∀ c, D c → ∃ s, s ≤ g_ser M ∧ (c, c + 1, s) ∈ (g_X M t).2.2 ∧ s_ownS (s_CS M t) s c (c + 1) = false
def q_T (wf : Prop) (M : s_M) (t : Nat) : Prop := ∃ D : Nat → Prop, q_dep M t D ∧ (∀ y ∈ s_CS M t, ∀ k, k < 12 → y.2.2.1 = wR k → D (wR k)) ∧ (∀ k, k < 12 → D (wR k) → D (wS 2)) ∧
  (∀ y ∈ s_CS M t, ∀ u k, u < 9000 → k < 12 → y.2.2.1 = wW u k → ∃ y' ∈ s_CS M t, s_ord y'.2.1 = true ∧ y'.2.2.1 = wR k ∧ y'.2.2.2.1 = wR k + 1) ∧
  (∀ m U, m < 9000 → q_D D (s_Z M t) U → j_A U → j_A (u_all m (s_CS M t) U)) ∧
  (wf → ∀ m U, 0 < m → m < 9000 → q_D D (s_Z M t) U → (∀ k u, k < 12 → u < 9000 → D (wR k) → U (wW u k) = s_Z M t (wW u k)) → j_W m U → j_W m (u_all m (s_CS M t) U))
theorem qT_nil {wf : Prop} {M : s_M} {t : Nat} (h : s_CS M t = []) : q_T wf M t := by
  refine ⟨fun _ => False, fun c h => h.elim, ?_, fun k _ h => h.elim, ?_, ?_, ?_⟩
  · rw [h]; intro y hy; cases hy
  · rw [h]; intro y hy; cases hy
  · rw [h]; exact fun m U _ _ A => A
  · rw [h]; exact fun _ m U _ _ _ _ A => A
theorem qT_mono {wf wf' : Prop} {M M' : s_M} {t : Nat} (I : q_T wf M t) (hw : wf' → wf) (h1 : s_CS M' t = s_CS M t) (h2 : ∀ r ∈ (g_X M t).2.2, r ∈ (g_X M' t).2.2) (h3 : g_ser M ≤ g_ser M') (h4 : s_Z M' t = s_Z M t) : q_T wf' M' t := by
  obtain ⟨D, a, b, c, d, e, f⟩ := I
  refine ⟨D, fun x hx => ?_, by rw [h1]; exact b, c, by rw [h1]; exact d, by rw [h1, h4]; exact e, by rw [h1, h4]; exact fun w => f (hw w)⟩
  obtain ⟨s, s1, s2, s3⟩ := a x hx
  exact ⟨s, by omega, h2 _ s2, by rw [h1]; exact s3⟩
/-- changes above the layers, and work that is offered -/
theorem up_eq {MC : List k_CH} {y : k_CH} (h : y3 y) (hl : y_o y.2.2.1 (y.2.2.1 + 1) ∨ y.2.2.1 = s_cd (-5) 0 10000) (hh : y.2.1 = 6 ∨ y_o y.2.2.1 y.2.2.2.1) {m c : Nat} (hm : m < 9000) {U : j_U} (hc : jl c) : u_all m (MC ++ [y]) U c = u_all m MC U c := by
  show u_stp m c (MC ++ [y]) (u_ord (MC ++ [y]) U c) = u_stp m c MC (u_ord MC U c)
  rw [ord_1, stp_app]
  have n1 : ¬ s_cov y c = true := fun hv => by
    obtain ⟨o, v1, v2⟩ := cov_of hv
    rcases hh with e | e
    · rw [e] at o; exact absurd o (by decide)
    · rcases hc with hc | hc <;> rcases e with e | e <;> omega
  rw [if_neg n1]
  refine stp_no [y] _ fun x hx h6 e => ?_
  rw [List.mem_singleton.mp hx] at h6 e
  rcases y3_sc h h6 hm with ⟨a, -⟩ | ⟨a, -⟩ | ⟨k, b1, b2, b3⟩
  · rw [e] at a
    rcases hc with hc | hc <;> rcases a with a | a <;> omega
  · rw [e] at a
    rcases hc with hc | hc <;> omega
  · rcases hl with hl | hl
    · rw [b2] at hl; unfold wW at hl; rcases hl with hl | hl <;> omega
    · rw [b2, cd5] at hl; unfold wW at hl; omega
theorem qT_kp {wf : Prop} {M : s_M} {t : Nat} {y : k_CH} (I : q_T wf M t) (h : y3 y) (hs : y.1 = g_ser M + 1) (hl : y_o y.2.2.1 (y.2.2.1 + 1) ∨ y.2.2.1 = s_cd (-5) 0 10000) (hh : y.2.1 = 6 ∨ y_o y.2.2.1 y.2.2.2.1) : q_T wf (g_kp M t y) t := by
  obtain ⟨D, a, b, c, d, e, f⟩ := I
  have ex : g_X (g_kp M t y) t = ((g_X M t).1, (g_X M t).2.1 ++ [y], (g_X M t).2.2) := by
    show (if t = t then _ else _) = _
    rw [if_pos rfl]
  have eC : s_CS (g_kp M t y) t = s_CS M t ++ [y] := by show (g_X (g_kp M t y) t).2.1 = _; rw [ex]
  have eZ : s_Z (g_kp M t y) t = s_Z M t := by unfold s_Z; rw [ex]; rfl
  have ny : ∀ c, 120516000000 ≤ c → c < 121000000000 → ¬ y.2.2.1 = c := fun c h1 h2 z => by
    rcases hl with hl | hl
    · rcases hl with hl | hl <;> omega
    · rw [cd5] at hl; omega
  refine ⟨D, fun x hx => ?_, fun x hx k hk z => ?_, c, fun x hx u k hu hk z => ?_, fun m U hm hD A => ?_, fun w m U h0 hm hD hW A => ?_⟩
  · obtain ⟨s, s1, s2, s3⟩ := a x hx
    refine ⟨s, by show s ≤ g_ser M + 1; omega, by rw [ex]; exact s2, ?_⟩
    rw [eC, ownS_app _ _ _ _ _ (fun z hz => by rw [List.mem_singleton.mp hz, hs]; omega)]
    exact s3
  · rw [eC] at hx
    rcases List.mem_append.mp hx with g | g
    · exact b x g k hk z
    · rw [List.mem_singleton.mp g] at z
      exact absurd z (ny _ (by unfold wR; omega) (by unfold wR; omega))
  · rw [eC] at hx
    rcases List.mem_append.mp hx with g | g
    · obtain ⟨y', q1, q2⟩ := d x g u k hu hk z
      exact ⟨y', by rw [eC]; exact List.mem_append.mpr (Or.inl q1), q2⟩
    · rw [List.mem_singleton.mp g] at z
      exact absurd z (ny _ (by unfold wW; omega) (by unfold wW; omega))
  · rw [eZ] at hD
    rw [eC]
    exact jA_cg (fun c hc => up_eq h hl hh hm hc) (e m U hm hD A)
  · rw [eZ] at hD hW
    rw [eC]
    exact jW_cg (fun c hc => up_eq h hl hh hm hc) (f w m U h0 hm hD hW A)
/-! .. a save -/
section SV6
variable {M M2 : s_M} {t n j : Nat} {saves : Bool} {ro : Option Nat}
theorem rk_rd (M2 : s_M) (t c : Nat) : (g_X (g_rk M2 t c) t).2.2 = s_rdk true (s_CS M2 t) (g_X M2 t).2.2 c (g_ser M2) := by
  show (if t = t then _ else g_X M2 t).2.2 = _
  rw [if_pos rfl]
theorem rk_has {c : Nat} (h : s_ownS (s_CS M2 t) (g_ser M2) c (c + 1) = false) : (c, c + 1, g_ser M2) ∈ (g_X (g_rk M2 t c) t).2.2 := by
  rw [rk_rd]
  unfold s_rdk
  rw [if_pos ⟨rfl, h⟩]
  exact List.mem_append.mpr (Or.inr List.mem_cons_self)
theorem rk_sub {c : Nat} {r : Nat × Nat × Nat} (h : r ∈ (g_X M2 t).2.2) : r ∈ (g_X (g_rk M2 t c) t).2.2 := by
  rw [rk_rd]
  unfold s_rdk
  split
  · exact List.mem_append.mpr (Or.inl h)
  · exact h
theorem r4_has {c : Nat} {nm : Int32} (hc : c = sv_co 0 ∨ c = sv_co 1 ∨ c = sv_co 2 ∨ c = sv_re nm) (h : s_ownS (s_CS M t) (g_ser M) c (c + 1) = false) : (c, c + 1, g_ser M) ∈ (g_X (sv_r4 M t nm) t).2.2 := by
  unfold sv_r4
  have c1 := fun x => (rk_cs M t x).1
  have k1 : ∀ x, s_CS (g_rk M t x) t = s_CS M t := fun x => (rk_cs M t x).1
  have k2 : ∀ x z, s_CS (g_rk (g_rk M t x) t z) t = s_CS M t := fun x z => ((rk_cs _ t z).1).trans (k1 x)
  have k3 : ∀ x z w, s_CS (g_rk (g_rk (g_rk M t x) t z) t w) t = s_CS M t := fun x z w => ((rk_cs _ t w).1).trans (k2 x z)
  rcases hc with rfl | rfl | rfl | rfl
  · exact rk_sub (rk_sub (rk_sub (rk_has (M2 := M) h)))
  · exact rk_sub (rk_sub (rk_has (M2 := g_rk M t (sv_co 0)) (by rw [k1]; exact h)))
  · exact rk_sub (rk_has (M2 := g_rk (g_rk M t (sv_co 0)) t (sv_co 1)) (by rw [k2]; exact h))
  · exact rk_has (M2 := g_rk (g_rk (g_rk M t (sv_co 0)) t (sv_co 1)) t (sv_co 2)) (by rw [k3]; exact h)
theorem r4_sub {nm : Int32} {r : Nat × Nat × Nat} (h : r ∈ (g_X M t).2.2) : r ∈ (g_X (sv_r4 M t nm) t).2.2 := rk_sub (rk_sub (rk_sub (rk_sub h)))
theorem kc_rd (M2 : s_M) (t : Nat) (k : Int32) (c : Nat) (v p : Int32) : (g_X (g_kc M2 t k c v p) t).2.2 = (g_X M2 t).2.2 := by rw [kc_X]
theorem one_rd (M2 : s_M) (b : Bool) (t : Nat) (k : Int32) (c : Nat) (v p : Int32) : (g_X (sv_1 b t k c v p M2) t).2.2 = (g_X M2 t).2.2 := by
  unfold sv_1
  split
  · exact kc_rd _ _ _ _ _ _
  · rfl
theorem cls_rd (t : Nat) : ∀ (X : List k_K2) (M2 : s_M), (g_X (g_cls t X M2) t).2.2 = (g_X M2 t).2.2 := by
  intro X
  induction X with
  | nil => intro M2; rfl
  | cons x X ih => intro M2; exact (ih _).trans (kc_rd _ _ _ _ _ _)
theorem all_rd : (g_X (sv_all M t (nI n) saves (nI j)) t).2.2 = (g_X (sv_r4 M t (nI n)) t).2.2 := by
  unfold sv_all sv_f
  rw [kc_rd, one_rd]
  have q : ∀ (b : Bool) (M3 : s_M), (g_X (sv_q b t (nI n) M3) t).2.2 = (g_X M3 t).2.2 := fun b M3 => by
    unfold sv_q
    split
    · show (g_X (g_cls t _ (g_sdr M3 t (nI n))) t).2.2 = _
      rw [cls_rd, sdr_X]
    · rfl
  rw [q]
  unfold sv_p
  rw [one_rd, one_rd, one_rd, one_rd]
theorem own_cov {s c : Nat} (h : s_ownS (s_CS M t) s c (c + 1) = true) : ∃ y ∈ s_CS M t, s_cov y c = true := by
  unfold s_ownS at h
  obtain ⟨y, hy, e⟩ := List.any_eq_true.mp h
  simp only [Bool.and_eq_true, decide_eq_true_eq] at e
  refine ⟨y, hy, ?_⟩
  unfold s_cov
  have : s_ord y.2.1 = true := by
    have e1 := e.1.1.1
    unfold s_all at e1
    simp only [Bool.or_eq_true, decide_eq_true_eq] at e1
    rcases e1 with (z | z) | z <;> rw [z] <;> decide
  rw [this, decide_eq_true e.1.2, decide_eq_true (show c < y.2.2.2.1 by omega)]
  rfl
/-- changes in order stay -/
theorem ek_all (h : sv_h M t n j ro) (y : k_CH) (hy : y ∈ s_CS M t) (ho : s_ord y.2.1 = true) : y ∈ s_CS (sv_all M t (nI n) saves (nI j)) t := by
  have kc : ∀ (M3 : s_M) (k : Int32) (c : Nat) (v p : Int32), y ∈ s_CS M3 t → y ∈ s_CS (g_kc M3 t k c v p) t := fun M3 k c v p z => by
    show y ∈ (g_X (g_kc M3 t k c v p) t).2.1
    rw [kc_X]
    exact List.mem_append.mpr (Or.inl z)
  have k1 : ∀ (M3 : s_M) (b : Bool) (k : Int32) (c : Nat) (v p : Int32), y ∈ s_CS M3 t → y ∈ s_CS (sv_1 b t k c v p M3) t := fun M3 b k c v p z => by
    unfold sv_1
    split
    · exact kc _ _ _ _ _ z
    · exact z
  have kl : ∀ (X : List k_K2) (M3 : s_M), y ∈ s_CS M3 t → y ∈ s_CS (g_cls t X M3) t := by
    intro X
    induction X with
    | nil => intro M3 z; exact z
    | cons x X ih => intro M3 z; exact ih _ (kc _ _ _ _ _ z)
  have hm : y ∈ s_CS (s_mid M t n j saves) t := by
    show y ∈ s_CS (sv_p (sv_go M t 0 (nI n)) (sv_go M t 1 (nI n)) (g_see M t (sv_re (nI n))).1.isSome saves t (nI n) (o_told (g_see M t (sv_re (nI n))).1) (nI j) (sv_r4 M t (nI n))) t
    unfold sv_p
    refine k1 _ _ _ _ _ _ (k1 _ _ _ _ _ _ (k1 _ _ _ _ _ _ (k1 _ _ _ _ _ _ ?_)))
    show y ∈ (g_X (sv_r4 M t (nI n)) t).2.1
    rw [(r4_cs M t (nI n)).1]
    exact hy
  have hq : y ∈ s_CS (s_q9 M t n j saves) t := by
    unfold s_q9 sv_q
    split
    · refine kl _ _ ?_
      show y ∈ (g_X (g_sdr (s_mid M t n j saves) t (nI n)) t).2.1
      rw [sdr_X]
      refine List.mem_filter.mpr ⟨hm, ?_⟩
      cases z : sv_is (nI n) y with
      | false => rfl
      | true =>
        have := y3_is (h.1 y hy) z
        rw [this] at ho
        exact absurd ho (by decide)
    · exact hm
  show y ∈ s_CS (sv_f (sv_go M t 2 (nI n)) saves t (nI n) (nI j) (s_q9 M t n j saves)) t
  unfold sv_f
  exact kc _ _ _ _ _ (k1 _ _ _ _ _ _ hq)
theorem qT_all {wf : Prop} (I : q_T wf M t) (h : sv_h M t n j ro) (K : i_K (g_E M)) (h6 : j_6 (s_Z M t)) : q_T wf (sv_all M t (nI n) saves (nI j)) t := by
  obtain ⟨D, a, b, c, d, e, f⟩ := I
  have hn := h.2.1
  have em := em_all (saves := saves) h h6
  have eZ := em_Z em
  have noS : ∀ x, x < 3 → s_ownS (s_CS M t) (g_ser M) (wS x) (wS x + 1) = false := fun x hx => by
    cases z : s_ownS (s_CS M t) (g_ser M) (wS x) (wS x + 1) with
    | false => rfl
    | true =>
      obtain ⟨y, hy, hv⟩ := own_cov z
      exact absurd hv (y3_S (h.1 y hy) (by unfold wS; omega) (by unfold wS; omega))
  have rdS : ∀ x, x < 3 → (wS x, wS x + 1, g_ser M) ∈ (g_X (sv_r4 M t (nI n)) t).2.2 := fun x hx => by
    refine r4_has ?_ (noS x hx)
    have h3 : x = 0 ∨ x = 1 ∨ x = 2 := by omega
    rcases h3 with rfl | rfl | rfl
    · exact Or.inl (wS_eq (x := 0) (by omega)).symm
    · exact Or.inr (Or.inl (wS_eq (x := 1) (by omega)).symm)
    · exact Or.inr (Or.inr (Or.inl (wS_eq (x := 2) (by omega)).symm))
  have put : ∃ y' ∈ s_CS (sv_all M t (nI n) saves (nI j)) t, s_ord y'.2.1 = true ∧ y'.2.2.1 = wR n ∧ y'.2.2.2.1 = wR n + 1 := by
    obtain ⟨M3, e3⟩ : ∃ M3 : s_M, sv_all M t (nI n) saves (nI j) = g_kc M3 t (if saves = true then 0 else 1) (sv_re (nI n)) (if saves = true then nI j else -2147483648) 0 := ⟨_, rfl⟩
    rw [e3]
    refine ⟨(g_ser M3 + 1, (if saves = true then 0 else 1), sv_re (nI n), sv_re (nI n) + 1, (if saves = true then nI j else -2147483648), 0), ?_, ?_, ?_, ?_⟩
    · show _ ∈ (g_X (g_kc M3 t _ _ _ _) t).2.1
      rw [kc_X]
      exact List.mem_append.mpr (Or.inr List.mem_cons_self)
    · show s_ord (if saves = true then 0 else 1) = true
      cases saves <;> decide
    · exact wR_eq (by omega)
    · show sv_re (nI n) + 1 = _
      rw [wR_eq (by omega)]
  refine ⟨fun x => D x ∨ x = wR n ∨ x = wS 0 ∨ x = wS 1 ∨ x = wS 2, fun x hx => ?_, fun y hy k hk z => ?_, fun k hk z => Or.inr (Or.inr (Or.inr (Or.inr rfl))), fun y hy u k hu hk z => ?_, fun m U hm hD A => ?_, fun w m U h0 hm hD hW A => ?_⟩
  · rw [all_rd]
    have old : D x → ∃ s, s ≤ g_ser (sv_all M t (nI n) saves (nI j)) ∧ (x, x + 1, s) ∈ (g_X (sv_r4 M t (nI n)) t).2.2 ∧ s_ownS (s_CS (sv_all M t (nI n) saves (nI j)) t) s x (x + 1) = false := fun hx => by
      obtain ⟨s, s1, s2, s3⟩ := a x hx
      exact ⟨s, Nat.le_trans s1 em.1, r4_sub s2, by rw [em.2.2.1 s _ _ s1]; exact s3⟩
    have new : ∀ i, i < 3 → x = wS i → ∃ s, s ≤ g_ser (sv_all M t (nI n) saves (nI j)) ∧ (x, x + 1, s) ∈ (g_X (sv_r4 M t (nI n)) t).2.2 ∧ s_ownS (s_CS (sv_all M t (nI n) saves (nI j)) t) s x (x + 1) = false := fun i hi e => by
      rw [e]
      exact ⟨g_ser M, em.1, rdS i hi, by rw [em.2.2.1 _ _ _ (Nat.le_refl _)]; exact noS i hi⟩
    rcases hx with hx | hx | hx | hx | hx
    · exact old hx
    · cases z : s_ownS (s_CS M t) (g_ser M) (wR n) (wR n + 1) with
      | false =>
        rw [hx]
        exact ⟨g_ser M, em.1, r4_has (Or.inr (Or.inr (Or.inr (wR_eq (by omega)).symm))) z, by rw [em.2.2.1 _ _ _ (Nat.le_refl _)]; exact z⟩
      | true =>
        obtain ⟨y, hy, hv⟩ := own_cov z
        obtain ⟨-, e2, -⟩ := y3_cov (h.1 y hy) hv (by unfold wR; omega) (by unfold wR; omega)
        exact old (by rw [hx]; exact b y hy n hn e2)
    · exact new 0 (by omega) hx
    · exact new 1 (by omega) hx
    · exact new 2 (by omega) hx
  · rcases em.2.1 y hy with g | ⟨g, -⟩
    · exact Or.inl (b y g k hk z)
    · rw [g.2.1 k hk z]; exact Or.inr (Or.inl rfl)
  · rcases em.2.1 y hy with g | ⟨g, -⟩
    · obtain ⟨y', q1, q2, q3, q4⟩ := d y g u k hu hk z
      exact ⟨y', ek_all h y' q1 q2, q2, q3, q4⟩
    · rw [g.2.2 u k hu hk z]; exact put
  · rw [eZ] at hD
    exact qA_step h h6 hm (fun x hx => hD _ (by
      have h3 : x = 0 ∨ x = 1 ∨ x = 2 := by omega
      rcases h3 with rfl | rfl | rfl
      · exact Or.inr (Or.inr (Or.inl rfl))
      · exact Or.inr (Or.inr (Or.inr (Or.inl rfl)))
      · exact Or.inr (Or.inr (Or.inr (Or.inr rfl))))) (hD _ (Or.inr (Or.inl rfl))) (e m U hm (fun c hc => hD c (Or.inl hc)) A)
  · rw [eZ] at hD hW
    exact qW_step h K h6 h0 hm (fun x hx => hD _ (by
      have h3 : x = 0 ∨ x = 1 ∨ x = 2 := by omega
      rcases h3 with rfl | rfl | rfl
      · exact Or.inr (Or.inr (Or.inl rfl))
      · exact Or.inr (Or.inr (Or.inr (Or.inl rfl)))
      · exact Or.inr (Or.inr (Or.inr (Or.inr rfl))))) (hD _ (Or.inr (Or.inl rfl))) (fun u hu => hW n u hn hu (Or.inr (Or.inl rfl))) (f w m U h0 hm (fun c hc => hD c (Or.inl hc)) (fun k u hk hu hd => hW k u hk hu (Or.inl hd)) A)
end SV6
