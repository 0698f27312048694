/-! A SAVE, ALL OF IT: what will be behind it -/
section SV4
variable {M : s_M} {t m n j : Nat} {saves : Bool} {U : j_U} {c : Nat} {ro : Option Nat}
/-- what the transaction sees: of a layer's key -/
def s_Z (M : s_M) (t : Nat) : j_U := fun c => r_val c (g_X M t).1.2.2.1 (g_E M).2.1
abbrev s_CS (M : s_M) (t : Nat) : List k_CH := (g_X M t).2.1
theorem see_ord (M : s_M) (t c : Nat) : (g_see M t c).1 = u_ord (s_CS M t) (s_Z M t) c := rfl
/-- the premises: shapes, what is saved, what it sees -/
def sv_h (M : s_M) (t n j : Nat) (ro : Option Nat) : Prop := (∀ y ∈ s_CS M t, y3 y) ∧ n < 12 ∧ j < 100 ∧ u_ord (s_CS M t) (s_Z M t) (wR n) = ro.map nI ∧ ∀ o, ro = some o → o < 100
abbrev s_mid (M : s_M) (t n j : Nat) (saves : Bool) : s_M := sv_mid M t (nI n) saves (nI j)
abbrev s_X9 (M : s_M) (t n j : Nat) (saves : Bool) : List k_K2 := sv_seen (g_sdr (s_mid M t n j saves) t (nI n)) t (nI n)
theorem go_Z (h : sv_h M t n j ro) {x : Nat} (hx : x < 3) : sv_go M t (nI x) (nI n) = j_g (s_Z M t) x n := by
  obtain ⟨hy, hn, -⟩ := h
  unfold sv_go j_g
  rw [see_ord, wS_eq (by omega), ord_no (fun y h9 => y3_S (hy y h9) (by unfold wS; omega) (by unfold wS; omega))]
theorem had_ro (h : sv_h M t n j ro) : (g_see M t (sv_re (nI n))).1 = ro.map nI := by
  obtain ⟨-, hn, -, hr, -⟩ := h
  rw [see_ord, wR_eq (by omega)]; exact hr
theorem mid_ord (h : sv_h M t n j ro) : u_ord (s_CS (s_mid M t n j saves) t) U c =
    (let K0 := u_ord (s_CS M t) U c
     let K1 := if (j_g (s_Z M t) 0 n && ro.isSome) = true ∧ wF (ro.getD 0) n = c then none else K0
     let K2 := if (j_g (s_Z M t) 0 n && saves) = true ∧ wF j n = c then some 0 else K1
     let K3 := if (j_g (s_Z M t) 1 n && ro.isSome) = true ∧ wN (ro.getD 0) = c then some (K2.getD 0 + -1) else K2
     if (j_g (s_Z M t) 1 n && saves) = true ∧ wN j = c then some (K3.getD 0 + 1) else K3) := by
  have hh := had_ro h
  obtain ⟨hy, hn, hj, hr, h9⟩ := id h
  show u_ord (g_X (sv_p (sv_go M t 0 (nI n)) (sv_go M t 1 (nI n)) (g_see M t (sv_re (nI n))).1.isSome saves t (nI n) (o_told (g_see M t (sv_re (nI n))).1) (nI j) (sv_r4 M t (nI n))) t).2.1 U c = _
  rw [hh, show sv_go M t 0 (nI n) = j_g (s_Z M t) 0 n from go_Z h (x := 0) (by omega), show sv_go M t 1 (nI n) = j_g (s_Z M t) 1 n from go_Z h (x := 1) (by omega)]
  unfold sv_p
  rw [one_ord, one_ord, one_ord, one_ord, (r4_cs M t (nI n)).1]
  have ap2 : ∀ (g : Int32) (o : Option Int32), s_apO 2 g 0 o = some (o.getD 0 + g) := fun g o => by
    unfold s_apO ap_v
    rw [if_neg (by decide), if_neg (by decide), if_pos rfl]
    cases o with
    | none => rw [if_pos (show kB (none : Option Int32).isSome = 0 from rfl)]; show some g = some (0 + g); rw [Int32.zero_add]
    | some x => rw [if_neg (by show ¬ kB true = 0; decide)]
  have ap1 : ∀ (g : Int32) (o : Option Int32), s_apO 1 g 0 o = none := fun _ _ => if_pos rfl
  rw [ap2, ap2, ap1, apO_0]
  have e0 : s_ord 0 = true := by decide
  have e1 : s_ord 1 = true := by decide
  have e2 : s_ord 2 = true := by decide
  have cF : s_cd (-2) (nI j) (nI n) = wF j n := wF_eq (by omega) (by omega)
  have cN : s_cd (-3) (nI j) 10000 = wN j := wN_eq (by omega)
  rw [cF, cN]
  simp only [e0, e1, e2, true_and]
  cases hq : ro with
  | none => simp only [Option.map_none, Option.isSome_none, Bool.and_false, Bool.false_eq_true, false_and, if_false]
  | some o =>
    have ho := h9 o hq
    have cF' : s_cd (-2) (nI o) (nI n) = wF o n := wF_eq (by omega) (by omega)
    have cN' : s_cd (-3) (nI o) 10000 = wN o := wN_eq (by omega)
    have e : o_told (some (nI o)) = nI o := rfl
    simp only [Option.map_some, e, cF', cN', Option.map_some, Option.isSome_some, Option.getD_some]
theorem s_of2 : s_lo (-4) 10000 = 120516000000 ∧ s_la (-4) 10000 + 1 = 120637000000 := by decide +kernel
theorem X9_ly {x : k_K2} (h : x ∈ s_X9 M t n j saves) : 120516000000 ≤ x.1 ∧ x.1 < 120637000000 := by
  obtain ⟨h1, -⟩ := List.mem_filter.mp h
  obtain ⟨-, h2⟩ := List.mem_filter.mp h1
  simp only [Bool.and_eq_true, decide_eq_true_eq] at h2
  have := s_of2
  omega
/-- what a save of n keeps more -/
def sv_p9 (n : Nat) (y : k_CH) : Prop := y3 y ∧ (∀ k, k < 12 → y.2.2.1 = wR k → k = n) ∧ ∀ u k, u < 9000 → k < 12 → y.2.2.1 = wW u k → k = n
theorem p9_F {s : Nat} {k v p : Int32} {i : Nat} (hi : i < 100) (hn : n < 12) (hk : k = 0 ∨ k = 1) : sv_p9 n (s, k, wF i n, wF i n + 1, v, p) := by
  refine ⟨⟨by show wF i n < _; unfold wF; omega, by show wF i n + 1 ≤ _; unfold wF; omega, Or.inr ⟨rfl, Or.inr (Or.inr (Or.inl ⟨hk, i, n, hi, hn, rfl⟩))⟩⟩, fun k' h e => ?_, fun u k' h1 h2 e => ?_⟩
  · have e : wF i n = wR k' := e
    unfold wF wR at e; omega
  · have e : wF i n = wW u k' := e
    unfold wF wW at e; omega
theorem p9_N {s : Nat} {v p : Int32} {i : Nat} (hi : i < 100) : sv_p9 n (s, 2, wN i, wN i + 1, v, p) := by
  refine ⟨⟨by show wN i < _; unfold wN; omega, by show wN i + 1 ≤ _; unfold wN; omega, Or.inr ⟨rfl, Or.inr (Or.inr (Or.inr (Or.inl ⟨rfl, i, hi, rfl⟩)))⟩⟩, fun k' h e => ?_, fun u k' h1 h2 e => ?_⟩
  · have e : wN i = wR k' := e
    unfold wN wR at e; omega
  · have e : wN i = wW u k' := e
    unfold wN wW at e; omega
theorem p9_W {s : Nat} {v p : Int32} {u : Nat} (hu : u < 9000) (hn : n < 12) : sv_p9 n (s, 1, wW u n, wW u n + 1, v, p) := by
  refine ⟨⟨by show wW u n < _; unfold wW; omega, by show wW u n + 1 ≤ _; unfold wW; omega, Or.inr ⟨rfl, Or.inr (Or.inr (Or.inr (Or.inr (Or.inl ⟨rfl, u, n, hu, hn, rfl⟩))))⟩⟩, fun k' h e => ?_, fun u' k' h1 h2 e => ?_⟩
  · have e : wW u n = wR k' := e
    unfold wW wR at e; omega
  · have e : wW u n = wW u' k' := e
    unfold wW at e; omega
theorem p9_6 {s : Nat} {v p : Int32} (hn : n < 12) : sv_p9 n (s, 6, wW 0 n, wW 0 n + 1, v, p) := by
  refine ⟨⟨by show wW 0 n < _; unfold wW; omega, by show wW 0 n + 1 ≤ _; unfold wW; omega, Or.inr ⟨rfl, Or.inr (Or.inr (Or.inr (Or.inr (Or.inr (Or.inl ⟨rfl, n, hn, rfl⟩)))))⟩⟩, fun k' h e => ?_, fun u' k' h1 h2 e => ?_⟩
  · have e : wW 0 n = wR k' := e
    unfold wW wR at e; omega
  · have e : wW 0 n = wW u' k' := e
    unfold wW at e; omega
theorem p9_R {s : Nat} {k v p : Int32} (hn : n < 12) (hk : k = 0 ∨ k = 1) : sv_p9 n (s, k, wR n, wR n + 1, v, p) := by
  refine ⟨⟨by show wR n < _; unfold wR; omega, by show wR n + 1 ≤ _; unfold wR; omega, Or.inr ⟨rfl, Or.inr (Or.inr (Or.inr (Or.inr (Or.inr (Or.inr ⟨hk, n, hn, rfl⟩)))))⟩⟩, fun k' h e => ?_, fun u' k' h1 h2 e => ?_⟩
  · have e : wR n = wR k' := e
    unfold wR at e; omega
  · have e : wR n = wW u' k' := e
    unfold wW wR at e; omega
theorem em_mid (h : sv_h M t n j ro) : e_m M t (sv_p9 n) (s_mid M t n j saves) := by
  have hh := had_ro h
  obtain ⟨hy, hn, hj, hr, h9⟩ := id h
  show e_m M t (sv_p9 n) (sv_p (sv_go M t 0 (nI n)) (sv_go M t 1 (nI n)) (g_see M t (sv_re (nI n))).1.isSome saves t (nI n) (o_told (g_see M t (sv_re (nI n))).1) (nI j) (sv_r4 M t (nI n)))
  rw [hh]
  have b : e_m M t (sv_p9 n) (sv_r4 M t (nI n)) := em_rk (em_rk (em_rk (em_rk em_0)))
  have cF : s_cd (-2) (nI j) (nI n) = wF j n := wF_eq (by omega) (by omega)
  have cN : s_cd (-3) (nI j) 10000 = wN j := wN_eq (by omega)
  have old : ∀ g : Bool, (g && (ro.map nI).isSome) = true → ∃ o, o < 100 ∧ s_cd (-2) (o_told (ro.map nI)) (nI n) = wF o n ∧ s_cd (-3) (o_told (ro.map nI)) 10000 = wN o := fun g z => by
    cases hq : ro with
    | none => rw [hq] at z; rw [Bool.and_eq_true] at z; exact absurd z.2 (by decide)
    | some o =>
      have ho := h9 o hq
      exact ⟨o, ho, wF_eq (by omega) (by omega), wN_eq (by omega)⟩
  unfold sv_p
  refine em_1 (em_1 (em_1 (em_1 b (fun z => ?_)) (fun z => ?_)) (fun z => ?_)) (fun z => ?_)
  · obtain ⟨o, h1, h2, h3⟩ := old _ z
    rw [h2]; exact p9_F h1 hn (Or.inr rfl)
  · rw [cF]; exact p9_F hj hn (Or.inl rfl)
  · obtain ⟨o, h1, h2, h3⟩ := old _ z
    rw [h3]; exact p9_N h1
  · rw [cN]; exact p9_N hj
theorem y3_n8 {y : k_CH} (h : y3 y) : ¬ y.2.1 = 8 := by
  intro e
  obtain ⟨-, -, a | ⟨-, a⟩⟩ := h
  · rw [e] at a; exact absurd a.1 (by decide)
  · rw [e] at a
    rcases a with ⟨-, -, a, -⟩ | ⟨a, -⟩ | ⟨a | a, -⟩ | ⟨a, -⟩ | ⟨a, -⟩ | ⟨a, -⟩ | ⟨a | a, -⟩ <;> exact absurd a (by decide)
theorem y3_is {y : k_CH} (h : y3 y) {n : Int32} (e : sv_is n y = true) : y.2.1 = 6 := (is_68 e).resolve_right (y3_n8 h)
theorem em_y3 {M2 : s_M} (h : sv_h M t n j ro) (e : e_m M t (sv_p9 n) M2) : ∀ y ∈ s_CS M2 t, y3 y := fun y hy => by
  rcases e.2.1 y hy with g | g
  · exact h.1 y g
  · exact g.1.1
theorem mid_8 (h : sv_h M t n j ro) : ∀ y ∈ s_CS (s_mid M t n j saves) t, sv_is (nI n) y = true → y.2.1 = 6 := fun y hy e => y3_is (em_y3 h (em_mid h) y hy) e
/-- codes of the layer of versions -/
def j_6 (U : j_U) : Prop := ∀ c v, 120516000000 ≤ c → c < 120637000000 → U c = some v → ∃ u k, u < 9000 ∧ k < 12 ∧ c = wW u k
theorem ord_6 {MC : List k_CH} (hy : ∀ y ∈ MC, y3 y) (h1 : 120516000000 ≤ c) (h2 : c < 120637000000) (U : j_U) : u_ord MC U c = none ∨ u_ord MC U c = U c := by
  unfold u_ord
  suffices ∀ z : Option Int32 × Bool, (s_see c MC z).1 = none ∨ (s_see c MC z).1 = z.1 from this _
  induction MC with
  | nil => intro z; exact Or.inr rfl
  | cons y MC ih =>
    intro z
    have ih := ih (fun x hx => hy x (List.mem_cons_of_mem _ hx))
    show (s_see c MC (if s_cov y c = true then (s_apO y.2.1 y.2.2.2.2.1 0 z.1, s_apS y.2.1 z.2) else z)).1 = none ∨ (s_see c MC (if s_cov y c = true then (s_apO y.2.1 y.2.2.2.2.1 0 z.1, s_apS y.2.1 z.2) else z)).1 = z.1
    by_cases hv : s_cov y c = true
    · rw [if_pos hv]
      obtain ⟨-, -, a⟩ := y3_cov (hy y List.mem_cons_self) hv (by omega) (by omega)
      have e1 : y.2.1 = 1 := by
        rcases a with ⟨-, j, k, b1, b2, b3⟩ | ⟨-, j, b1, b2⟩ | ⟨a, -⟩ | ⟨-, k, b1, b2⟩
        · unfold wF at b3; omega
        · unfold wN at b2; omega
        · exact a
        · unfold wR at b2; omega
      rw [e1]
      rcases ih (s_apO 1 y.2.2.2.2.1 0 z.1, s_apS 1 z.2) with g | g
      · exact Or.inl g
      · exact Or.inl g
    · rw [if_neg hv]; exact ih z
theorem em_Z {M2 : s_M} {P : k_CH → Prop} (e : e_m M t P M2) : s_Z M2 t = s_Z M t := by
  obtain ⟨-, -, -, ⟨b1, b2, -⟩, -⟩ := e
  unfold s_Z
  rw [b1, b2]
theorem mid_6 (h : sv_h M t n j ro) (h1 : 120516000000 ≤ c) (h2 : c < 120637000000) : u_ord (s_CS (s_mid M t n j saves) t) U c = u_ord (s_CS M t) U c := by
  rw [mid_ord h]
  obtain ⟨hy, hn, hj, hr, h9⟩ := h
  have a1 : ¬ wF j n = c := by unfold wF; omega
  have a2 : ¬ wN j = c := by unfold wN; omega
  cases hq : ro with
  | none => simp only [Option.isSome_none, Bool.and_false, Bool.false_eq_true, false_and, if_false, a1, a2, and_false]
  | some o =>
    have := h9 o hq
    have b1 : ¬ wF o n = c := by unfold wF; omega
    have b2 : ¬ wN o = c := by unfold wN; omega
    simp only [Option.getD_some, a1, a2, b1, b2, and_false, if_false]
theorem X9_at (h : sv_h M t n j ro) (h6 : j_6 (s_Z M t)) {x : k_K2} (hx : x ∈ s_X9 M t n j saves) : ∃ u, u < 9000 ∧ x.1 = wW u n := by
  have hl := X9_ly hx
  have em : e_m M t (sv_p9 n) (g_sdr (s_mid M t n j saves) t (nI n)) := em_sdr (em_mid h)
  obtain ⟨g1, g2⟩ := List.mem_filter.mp hx
  obtain ⟨-, g3⟩ := List.mem_filter.mp g1
  simp only [Bool.and_eq_true, decide_eq_true_eq] at g3
  have hv := g3.2
  unfold s_vis at hv
  rw [Bool.and_eq_true] at hv
  have hv := hv.1
  rw [see_ord, em_Z em] at hv
  have e1 : u_ord (s_CS (g_sdr (s_mid M t n j saves) t (nI n)) t) (s_Z M t) x.1 = u_ord (s_CS M t) (s_Z M t) x.1 := by
    rw [← mid_6 (saves := saves) h hl.1 hl.2]
    exact sdr_ord (mid_8 h)
  rw [e1] at hv
  rcases ord_6 h.1 hl.1 hl.2 (s_Z M t) with z | z
  · rw [z] at hv; cases hv
  · rw [z] at hv
    obtain ⟨v, hv⟩ := Option.isSome_iff_exists.mp hv
    obtain ⟨u, k, b1, b2, b3⟩ := h6 _ v hl.1 hl.2 hv
    have g2 : s_no x.1 2 = nI n := by simpa using g2
    rw [b3, ← wW_eq b1 (by omega), s_no_2 s_na_m4 (na_100 (by omega)) (na_100 (by omega))] at g2
    have hn := h.2.1
    exact ⟨u, b1, by rw [b3, nI_j (by omega) (by omega) g2]⟩
theorem X9_has (h : sv_h M t n j ro) (K : i_K (g_E M)) {u : Nat} (hu : u < 9000) (hs : (u_ord (s_CS M t) (s_Z M t) (wW u n)).isSome = true) : ∃ x ∈ s_X9 M t n j saves, x.1 = wW u n := by
  have hn := h.2.1
  have l1 : 120516000000 ≤ wW u n := by unfold wW; omega
  have l2 : wW u n < 120637000000 := by unfold wW; omega
  have em : e_m M t (sv_p9 n) (g_sdr (s_mid M t n j saves) t (nI n)) := em_sdr (em_mid h)
  have hz : (s_Z M t (wW u n)).isSome = true := by
    rcases ord_6 h.1 l1 l2 (s_Z M t) with z | z
    · rw [z] at hs; cases hs
    · rw [z] at hs; exact hs
  obtain ⟨q, hq⟩ := em.2.2.2.2.2.2 (wW u n) (val_in K.2.1 (n := (g_X M t).1.2.2.1) hz)
  have e1 : u_ord (s_CS (g_sdr (s_mid M t n j saves) t (nI n)) t) (s_Z M t) (wW u n) = u_ord (s_CS M t) (s_Z M t) (wW u n) := by
    rw [← mid_6 (saves := saves) h l1 l2]
    exact sdr_ord (mid_8 h)
  refine ⟨(wW u n, q), List.mem_filter.mpr ⟨List.mem_filter.mpr ⟨hq, ?_⟩, ?_⟩, rfl⟩
  · have := s_of2
    rw [decide_eq_true (show s_lo (-4) 10000 ≤ wW u n by omega), decide_eq_true (show wW u n < s_la (-4) 10000 + 1 by omega)]
    show s_vis (g_see (g_sdr (s_mid M t n j saves) t (nI n)) t (wW u n)) = true
    unfold s_vis
    rw [see_ord, em_Z em, e1, hs]
    show (!(s_see (wW u n) (s_CS (g_sdr (s_mid M t n j saves) t (nI n)) t) (_, false)).2) = true
    rw [see_2 (em_y3 h em) (by omega) (by omega) _ rfl]
    rfl
  · show decide (s_no (wW u n) 2 = nI n) = true
    rw [← wW_eq hu (by omega), s_no_2 s_na_m4 (na_100 (by omega)) (na_100 (by omega))]
    exact decide_eq_true rfl
theorem em_q (h : sv_h M t n j ro) (h6 : j_6 (s_Z M t)) (b : Bool) : e_m M t (sv_p9 n) (sv_q b t (nI n) (s_mid M t n j saves)) := by
  unfold sv_q
  split
  · refine em_cls _ _ (fun x hx s => ?_) (em_sdr (em_mid h))
    obtain ⟨u, hu, e⟩ := X9_at h h6 hx
    rw [e]
    exact p9_W hu h.2.1
  · exact em_mid h
theorem em_all (h : sv_h M t n j ro) (h6 : j_6 (s_Z M t)) : e_m M t (sv_p9 n) (sv_all M t (nI n) saves (nI j)) := by
  have hn := h.2.1
  show e_m M t (sv_p9 n) (sv_f (sv_go M t 2 (nI n)) saves t (nI n) (nI j) (sv_q (sv_go M t 2 (nI n) && (g_see M t (sv_re (nI n))).1.isSome) t (nI n) (s_mid M t n j saves)))
  unfold sv_f
  refine em_kc (em_1 (em_q h h6 _) (fun z => ?_)) ?_
  · rw [show s_cd (-4) 0 (nI n) = wW 0 n from wW_eq (u := 0) (by omega) (by omega)]
    exact p9_6 hn
  · rw [wR_eq (by omega)]
    exact p9_R hn (by cases saves; exact Or.inr rfl; exact Or.inl rfl)
theorem q_ord (h : sv_h M t n j ro) : u_ord (s_CS (sv_q (sv_go M t 2 (nI n) && (g_see M t (sv_re (nI n))).1.isSome) t (nI n) (s_mid M t n j saves)) t) U c =
    if (j_g (s_Z M t) 2 n && ro.isSome) = true ∧ (∃ x ∈ s_X9 M t n j saves, x.1 = c) then none else u_ord (s_CS (s_mid M t n j saves) t) U c := by
  rw [had_ro h, show sv_go M t 2 (nI n) = j_g (s_Z M t) 2 n from go_Z h (x := 2) (by omega), show (ro.map nI).isSome = ro.isSome from by cases ro <;> rfl]
  unfold sv_q
  by_cases e : (j_g (s_Z M t) 2 n && ro.isSome) = true
  · rw [if_pos e]
    show u_ord (g_X (g_cls t (s_X9 M t n j saves) (g_sdr (s_mid M t n j saves) t (nI n))) t).2.1 U c = _
    rw [cls_ord, sdr_ord (mid_8 h)]
    by_cases q : ∃ x ∈ s_X9 M t n j saves, x.1 = c
    · rw [if_pos q, if_pos ⟨e, q⟩]
    · rw [if_neg q, if_neg (fun z => q z.2)]
  · rw [if_neg e, if_neg (fun z => e z.1)]
theorem all_ord (h : sv_h M t n j ro) : u_ord (s_CS (sv_all M t (nI n) saves (nI j)) t) U c =
    if wR n = c then (if saves = true then some (nI j) else none) else if (j_g (s_Z M t) 2 n && ro.isSome) = true ∧ (∃ x ∈ s_X9 M t n j saves, x.1 = c) then none else u_ord (s_CS (s_mid M t n j saves) t) U c := by
  have hn := h.2.1
  show u_ord (g_X (sv_f (sv_go M t 2 (nI n)) saves t (nI n) (nI j) (sv_q (sv_go M t 2 (nI n) && (g_see M t (sv_re (nI n))).1.isSome) t (nI n) (s_mid M t n j saves))) t).2.1 U c = _
  unfold sv_f
  rw [kc_ord, one_ord, q_ord h, wR_eq (by omega)]
  by_cases e : wR n = c
  · rw [if_pos e, if_pos ⟨by cases saves <;> decide, e⟩]
    cases saves with
    | true => exact apO_0
    | false => exact if_pos rfl
  · rw [if_neg e, if_neg (fun z => e z.2), if_neg (fun z => absurd z.2.1 (by decide))]
end SV4
