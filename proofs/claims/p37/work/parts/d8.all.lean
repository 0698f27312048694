/-! ALL VERSIONS, ALL TRANSACTIONS: the invariant, and what keeps it -/
def g_U (M : s_M) (v : Nat) : j_U := fun c => r_val c v (g_E M).2.1
def J_L (M : s_M) : Prop := ∀ v, v ≤ g_n M → j_P v (g_U M v)
def L_4 (bv : Nat) (L : List k_E4) : Prop := ∀ x ∈ L, 120516000000 ≤ x.2.1 → x.2.1 < 120637000000 → bv < x.2.2.1 → ∃ u k, u < 9000 ∧ k < 12 ∧ x.2.1 = wW u k ∧ ∃ z ∈ L, z.2.2.1 = x.2.2.1 ∧ (z.2.1 = wR k ∨ z.2.1 = wS 2)
def J_v (M : s_M) (bv : Nat) : Prop := (∀ v, v ≤ g_n M → j_W v (g_U M v)) ∧ L_4 bv (g_E M).2.1 ∧ bv ≤ g_n M ∧ ∀ t, t < 3 → (g_X M t).1.1 = true → bv ≤ (g_X M t).1.2.2.1
def J_t (wf : Prop) (M : s_M) (t : Nat) : Prop := (∀ y ∈ s_CS M t, y3 y) ∧ (s_CS M t).countP y_up ≤ 12 ∧ q_T wf M t ∧ ((g_X M t).1.1 = false → s_CS M t = [])
def J_I (wf : Prop) (M : s_M) : Prop := J_L M ∧ (∀ t, t < 3 → J_t wf M t) ∧ s_CS M 3 = [] ∧ (wf → ∃ bv, J_v M bv)
/-- what whole's invariant gives -/
def J_e (M : s_M) : Prop := i_K (g_E M) ∧ (∀ x ∈ (g_E M).2.1, x.2.2.1 ≤ g_n M) ∧ g_n M + 1 < 9000 ∧ ∀ t, t < 4 → (g_X M t).1.2.2.1 ≤ g_n M
theorem J_ee {i N w : Nat} {M : s_M} (I : i_I i M N w) (hi : i < 512) : J_e M := by
  obtain ⟨-, ⟨un, -⟩, ut, -, -, -, -, Wl, Rl, lE, lK, KK⟩ := I_use I (by omega : i ≤ 512)
  exact ⟨KK, lp_ver I, by omega, fun t ht => (ut t ht).1.1⟩
theorem jP_mono {n m : Nat} {U : j_U} (h : j_P n U) (hm : n ≤ m) : j_P m U := ⟨h.1, h.2.1, h.2.2.1, fun c x a b => bd_mono (h.2.2.2 c x a b) (by omega)⟩
theorem J_up {M : s_M} (e : J_e M) {m : Nat} (hm : g_n M ≤ m) : (fun c => r_val c m (g_E M).2.1) = g_U M (g_n M) := funext fun _ => r_val_adv e.2.1 hm
/-! .. one more version -/
theorem JL_cm {M M' : s_M} {E' : e_S} (J : J_L M) (z : z_E (g_n M + 1) (g_E M) E') (hn : g_n M' = g_n M + 1) (hE : g_E M' = E') (new : j_P (g_n M + 1) (fun c => r_val c (g_n M + 1) E'.2.1)) : J_L M' := by
  intro v hv
  by_cases h : v = g_n M + 1
  · have e : g_U M' v = fun c => r_val c (g_n M + 1) E'.2.1 := by unfold g_U; rw [hE, h]
    rw [e, h]; exact new
  · have e : g_U M' v = g_U M v := by unfold g_U; rw [hE]; exact funext fun c => zE_ext z (by omega)
    rw [e]; exact J v (by omega)
theorem Jt_cm {wf wf' : Prop} {M M' : s_M} {E' : e_S} {t : Nat} (e : J_e M) (ht : t < 3) (J : J_t wf M t) (hw : wf' → wf) (z : z_E (g_n M + 1) (g_E M) E') (hE : g_E M' = E') (hX : g_X M' t = g_X M t) (hs : g_ser M ≤ g_ser M') : J_t wf' M' t := by
  obtain ⟨a, b, c, d⟩ := J
  have eC : s_CS M' t = s_CS M t := by unfold s_CS; rw [hX]
  refine ⟨by rw [eC]; exact a, by rw [eC]; exact b, qT_mono c hw eC (by rw [hX]; exact fun _ h => h) hs ?_, by rw [eC, hX]; exact d⟩
  unfold s_Z
  rw [hX, hE]
  exact funext fun c => zE_ext z (by have := e.2.2.2 t (by omega); omega)
theorem JI_cm {wf wf' : Prop} {M : s_M} {E' : e_S} (e : J_e M) (I : J_I wf M) (hw : wf' → wf) (z : z_E (g_n M + 1) (g_E M) E') (new : j_P (g_n M + 1) (fun c => r_val c (g_n M + 1) E'.2.1))
    (newW : wf' → ∀ bv, J_v M bv → ∃ bv', bv' ≤ g_n M + 1 ∧ j_W (g_n M + 1) (fun c => r_val c (g_n M + 1) E'.2.1) ∧ L_4 bv' E'.2.1 ∧ ∀ t, t < 3 → (g_X M t).1.1 = true → bv' ≤ (g_X M t).1.2.2.1) : J_I wf' (g_cm M E') := by
  obtain ⟨a, b, c, d⟩ := I
  refine ⟨JL_cm a z rfl rfl new, fun t ht => Jt_cm e ht (b t ht) hw z rfl rfl (Nat.le_refl _), c, fun w => ?_⟩
  obtain ⟨bv, hb⟩ := d (hw w)
  obtain ⟨bv', b1, b2, b3, b4⟩ := newW w bv hb
  refine ⟨bv', fun v hv => ?_, b3, b1, b4⟩
  by_cases h : v = g_n M + 1
  · rw [h]; exact b2
  · have hv : v ≤ g_n M + 1 := hv
    have e : g_U (g_cm M E') v = g_U M v := funext fun c => zE_ext z (by omega)
    rw [e]; exact hb.1 v (by omega)
/-- the same bv -/
theorem Jv_same {M : s_M} {E' : e_S} {bv : Nat} (h : J_v M bv) (h1 : j_W (g_n M + 1) (fun c => r_val c (g_n M + 1) E'.2.1)) (h2 : L_4 bv E'.2.1) : ∃ bv', bv' ≤ g_n M + 1 ∧ j_W (g_n M + 1) (fun c => r_val c (g_n M + 1) E'.2.1) ∧ L_4 bv' E'.2.1 ∧ ∀ t, t < 3 → (g_X M t).1.1 = true → bv' ≤ (g_X M t).1.2.2.1 :=
  ⟨bv, by have := h.2.2.1; omega, h1, h2, h.2.2.2⟩
/-- the log that grows by what isn't of the layer of versions, or has its like -/
theorem L4_grow {bv : Nat} {L L' : List k_E4} (h : L_4 bv L) (sub : ∀ x ∈ L, x ∈ L') (new : ∀ x ∈ L', x ∈ L ∨ (120516000000 ≤ x.2.1 → x.2.1 < 120637000000 → ∃ u k, u < 9000 ∧ k < 12 ∧ x.2.1 = wW u k ∧ ∃ z ∈ L', z.2.2.1 = x.2.2.1 ∧ (z.2.1 = wR k ∨ z.2.1 = wS 2))) : L_4 bv L' := by
  intro x hx h1 h2 h3
  rcases new x hx with g | g
  · obtain ⟨u, k, a, b, c, z, hz, d⟩ := h x g h1 h2 h3
    exact ⟨u, k, a, b, c, z, sub z hz, d⟩
  · exact g h1 h2
/-! .. versions that go by; calls that change no value -/
theorem JI_adv {wf : Prop} {M : s_M} {k g : Nat} (e : J_e M) (I : J_I wf M) : J_I wf (g_adv M k g) := by
  obtain ⟨a, b, c, d⟩ := I
  have up : ∀ v, g_n M ≤ v → g_U (g_adv M k g) v = g_U M (g_n M) := fun v hv => J_up e hv
  refine ⟨fun v hv => ?_, fun t ht => ?_, c, fun w => ?_⟩
  · by_cases h : v ≤ g_n M
    · exact a v h
    · rw [up v (by omega)]
      exact jP_mono (a _ (Nat.le_refl _)) (by omega)
  · obtain ⟨b1, b2, b3, b4⟩ := b t ht
    exact ⟨b1, b2, qT_mono b3 id rfl (fun _ h => h) (Nat.le_refl _) rfl, b4⟩
  · obtain ⟨bv, h1, h2, h3, h4⟩ := d w
    refine ⟨bv, fun v hv => ?_, h2, Nat.le_trans h3 (Nat.le_add_right _ _), h4⟩
    by_cases h : v ≤ g_n M
    · exact h1 v h
    · rw [up v (by omega)]
      exact jW_mono (h1 _ (Nat.le_refl _)) (by omega)
theorem JI_same {wf : Prop} {M M' : s_M} (I : J_I wf M) (h1 : g_n M' = g_n M) (h2 : (g_E M').2.1 = (g_E M).2.1) (h3 : g_X M' = g_X M) (h4 : g_ser M ≤ g_ser M') : J_I wf M' := by
  obtain ⟨a, b, c, d⟩ := I
  have hU : g_U M' = g_U M := by unfold g_U; rw [h2]
  refine ⟨fun v hv => by rw [hU]; exact a v (by omega), fun t ht => ?_, by unfold s_CS; rw [h3]; exact c, fun w => ?_⟩
  · obtain ⟨b1, b2, b3, b4⟩ := b t ht
    have eC : s_CS M' t = s_CS M t := by unfold s_CS; rw [h3]
    refine ⟨by rw [eC]; exact b1, by rw [eC]; exact b2, qT_mono b3 id eC (by rw [h3]; exact fun _ h => h) h4 (by unfold s_Z; rw [h2, h3]), by rw [eC, h3]; exact b4⟩
  · obtain ⟨bv, b1, b2, b3, b4⟩ := d w
    exact ⟨bv, fun v hv => by rw [hU]; exact b1 v (by omega), by rw [h2]; exact b2, by omega, by rw [h3]; exact b4⟩
/-- one transaction changes -/
theorem JI_tx {wf : Prop} {M M' : s_M} {t : Nat} (I : J_I wf M) (ht : t < 3) (h1 : g_n M' = g_n M) (h2 : (g_E M').2.1 = (g_E M).2.1) (h3 : ∀ u, ¬ u = t → g_X M' u = g_X M u) (h4 : g_ser M ≤ g_ser M') (hJ : J_t wf M' t) (hb : (g_X M' t).1.1 = true → ((g_X M t).1.1 = true ∧ (g_X M' t).1.2.2.1 = (g_X M t).1.2.2.1) ∨ (g_X M' t).1.2.2.1 = g_n M) : J_I wf M' := by
  obtain ⟨a, b, c, d⟩ := I
  have hU : g_U M' = g_U M := by unfold g_U; rw [h2]
  refine ⟨fun v hv => by rw [hU]; exact a v (by omega), fun u hu => ?_, by unfold s_CS; rw [h3 3 (by omega)]; exact c, fun w => ?_⟩
  · by_cases e : u = t
    · rw [e]; exact hJ
    · obtain ⟨b1, b2, b3, b4⟩ := b u hu
      have eC : s_CS M' u = s_CS M u := by unfold s_CS; rw [h3 u e]
      exact ⟨by rw [eC]; exact b1, by rw [eC]; exact b2, qT_mono b3 id eC (by rw [h3 u e]; exact fun _ h => h) h4 (by unfold s_Z; rw [h2, h3 u e]), by rw [eC, h3 u e]; exact b4⟩
  · obtain ⟨bv, b1, b2, b3, b4⟩ := d w
    refine ⟨bv, fun v hv => by rw [hU]; exact b1 v (by omega), by rw [h2]; exact b2, by omega, fun u hu hbu => ?_⟩
    by_cases e : u = t
    · rw [e] at hbu ⊢
      rcases hb hbu with ⟨g1, g2⟩ | g
      · rw [g2]; exact b4 t ht g1
      · rw [g]; exact b3
    · rw [h3 u e] at hbu ⊢
      exact b4 u hu hbu
/-- transaction 3 keeps nothing -/
theorem JI_tx3 {wf : Prop} {M M' : s_M} (I : J_I wf M) (h1 : g_n M' = g_n M) (h2 : (g_E M').2.1 = (g_E M).2.1) (h3 : ∀ u, ¬ u = 3 → g_X M' u = g_X M u) (h4 : g_ser M ≤ g_ser M') (h5 : s_CS M' 3 = []) : J_I wf M' := by
  obtain ⟨a, b, c, d⟩ := I
  have hU : g_U M' = g_U M := by unfold g_U; rw [h2]
  refine ⟨fun v hv => by rw [hU]; exact a v (by omega), fun u hu => ?_, h5, fun w => ?_⟩
  · obtain ⟨b1, b2, b3, b4⟩ := b u hu
    have e : ¬ u = 3 := by omega
    have eC : s_CS M' u = s_CS M u := by unfold s_CS; rw [h3 u e]
    exact ⟨by rw [eC]; exact b1, by rw [eC]; exact b2, qT_mono b3 id eC (by rw [h3 u e]; exact fun _ h => h) h4 (by unfold s_Z; rw [h2, h3 u e]), by rw [eC, h3 u e]; exact b4⟩
  · obtain ⟨bv, b1, b2, b3, b4⟩ := d w
    exact ⟨bv, fun v hv => by rw [hU]; exact b1 v (by omega), by rw [h2]; exact b2, by omega, fun u hu hbu => by rw [h3 u (by omega)] at hbu ⊢; exact b4 u hu hbu⟩
theorem J_weak {wf wf' : Prop} {M : s_M} (I : J_I wf M) (h : wf' → wf) : J_I wf' M := by
  obtain ⟨a, b, c, d⟩ := I
  exact ⟨a, fun t ht => by
    obtain ⟨b1, b2, b3, b4⟩ := b t ht
    exact ⟨b1, b2, qT_mono b3 h rfl (fun _ h => h) (Nat.le_refl _) rfl, b4⟩, c, fun w => d (h w)⟩
/-! .. a commit -/
theorem val_no {c ra m : Nat} {L : List k_E4} (h : ∀ x ∈ L, x.2.1 = c → x.2.2.1 ≤ ra) (hm : ra ≤ m) : r_val c m L = r_val c ra L := by
  induction L with
  | nil => rfl
  | cons x L ih =>
    rw [r_val_cons, r_val_cons, ih (fun z hz => h z (List.mem_cons_of_mem _ hz))]
    by_cases e : x.2.1 = c
    · have := h x List.mem_cons_self e
      rw [if_pos ⟨e, by omega⟩, if_pos ⟨e, this⟩]
    · rw [if_neg (fun z => e z.1), if_neg (fun z => e z.1)]
theorem no_ent {M : s_M} {t : Nat} {D : Nat → Prop} (hd : q_dep M t D) (hf : (g_X M t).2.2.findIdx? (s_met (g_X M t).2.1 (g_X M t).1.2.2.1 (g_E M).2.1 (g_E M).2.2) = none) {c : Nat} (hc : D c) : ∀ x ∈ (g_E M).2.1, x.2.1 = c → x.2.2.1 ≤ (g_X M t).1.2.2.1 := by
  intro x hx e
  obtain ⟨s, s1, s2, s3⟩ := hd c hc
  have hm := List.findIdx?_eq_none_iff.mp hf _ s2
  refine Classical.byContradiction fun hlt => ?_
  have : s_met (g_X M t).2.1 (g_X M t).1.2.2.1 (g_E M).2.1 (g_E M).2.2 (c, c + 1, s) = true := by
    unfold s_met s_met1
    rw [Bool.or_eq_true]
    refine Or.inl (List.any_eq_true.mpr ⟨x, hx, ?_⟩)
    rw [e, decide_eq_true (show (g_X M t).1.2.2.1 < x.2.2.1 by omega), decide_eq_true (show c ≤ c from Nat.le_refl _), decide_eq_true (show c < c + 1 by omega)]
    show (true && true && true && !s_ownS (g_X M t).2.1 s c (c + 1)) = true
    rw [s3]
    rfl
  rw [this] at hm
  cases hm
section CMT
variable {wf : Prop} {M : s_M} {t : Nat}
theorem cm_U (e : J_e M) (h : ∀ y ∈ s_CS M t, y3 y) {c : Nat} (h1 : 120153000000 ≤ c) (h2 : c < 121000000000) : r_val c (g_n M + 1) (e_all (g_n M + 1) (s_CS M t) (g_E M)).2.1 = u_all (g_n M + 1) (s_CS M t) (g_U M (g_n M)) c := by
  rw [all_val e.1 (fun y hy => y3_s (h y hy)) (fun y hy hv => y3_5 (h y hy) hv h1 h2)]
  unfold u_all u_ord
  rw [show (fun c => r_val c (g_n M + 1) (g_E M).2.1) = g_U M (g_n M) from J_up e (Nat.le_succ _)]
theorem jl_in {c : Nat} (h : jl c) : 120153000000 ≤ c ∧ c < 121000000000 := by rcases h with h | h <;> omega
theorem cm_zE (h : ∀ y ∈ s_CS M t, y3 y) : z_E (g_n M + 1) (g_E M) (e_all (g_n M + 1) (s_CS M t) (g_E M)) := zE_all (fun x hx => by have := (h x hx).2.1; omega)
/-- no conflict: what it read is as it was -/
theorem cm_D (e : J_e M) (ht : t < 4) {D : Nat → Prop} (hd : q_dep M t D) (hf : (g_X M t).2.2.findIdx? (s_met (g_X M t).2.1 (g_X M t).1.2.2.1 (g_E M).2.1 (g_E M).2.2) = none) : q_D D (s_Z M t) (g_U M (g_n M)) := fun c hc => val_no (no_ent hd hf hc) (e.2.2.2 t ht)
theorem cm_P (e : J_e M) (ht : t < 3) (J : J_L M) (I : J_t wf M t) (hf : (g_X M t).2.2.findIdx? (s_met (g_X M t).2.1 (g_X M t).1.2.2.1 (g_E M).2.1 (g_E M).2.2) = none) : j_P (g_n M + 1) (fun c => r_val c (g_n M + 1) (e_all (g_n M + 1) (s_CS M t) (g_E M)).2.1) := by
  obtain ⟨hy, hcn, ⟨D, d1, d2, d3, d4, d5, d6⟩, -⟩ := I
  have n9 := e.2.2.1
  obtain ⟨jA, j6, j5, jB⟩ := J _ (Nat.le_refl _)
  refine ⟨jA_cg (fun c hc => cm_U e hy (jl_in hc).1 (jl_in hc).2) (d5 _ _ n9 (cm_D e (by omega) d1 hf) jA), fun c v h1 h2 hv => ?_, fun c v h5 hv => ?_, ?_⟩
  · have hv : r_val c (g_n M + 1) (e_all (g_n M + 1) (s_CS M t) (g_E M)).2.1 = some v := hv
    rw [cm_U e hy (by omega) (by omega)] at hv
    by_cases q : ∃ y ∈ s_CS M t, y.2.1 = 6 ∧ e_sc y (g_n M + 1) = c
    · obtain ⟨y, hy1, h6, hs⟩ := q
      rcases y3_sc (hy y hy1) h6 n9 with ⟨a, -⟩ | ⟨a, -⟩ | ⟨k, b1, b2, b3⟩
      · exfalso; rw [hs] at a; rcases a with a | a <;> omega
      · exfalso; rw [hs] at a; omega
      · exact ⟨g_n M + 1, k, n9, b1, by rw [← hs, b3]⟩
    · unfold u_all at hv
      rw [stp_no _ _ (fun y hy1 h6 hs => q ⟨y, hy1, h6, hs⟩)] at hv
      rcases ord_6 hy h1 h2 (g_U M (g_n M)) with z | z
      · rw [z] at hv; cases hv
      · rw [z] at hv; exact j6 c v h1 h2 hv
  · have hv : r_val c (g_n M + 1) (e_all (g_n M + 1) (s_CS M t) (g_E M)).2.1 = some v := hv
    rw [cm_U e hy (by omega) (by omega)] at hv
    have no : u_ord (s_CS M t) (g_U M (g_n M)) c = g_U M (g_n M) c := ord_no fun y hy1 => y3_S (hy y hy1) (by omega) (by omega)
    have key : ∀ (MC : List k_CH) (o : Option Int32), (∀ y ∈ MC, y ∈ s_CS M t) → (∀ w, o = some w → ∃ j, j < 1000 ∧ w = nI j) → ∀ w, u_stp (g_n M + 1) c MC o = some w → ∃ j, j < 1000 ∧ w = nI j := by
      intro MC
      induction MC with
      | nil => intro o _ h w hw; exact h w hw
      | cons y MC ih =>
        intro o hs h w hw
        refine ih (if y.2.1 = 6 ∧ e_sc y (g_n M + 1) = c then some y.2.2.2.2.1 else o) (fun z hz => hs z (List.mem_cons_of_mem _ hz)) (fun w hw => ?_) w hw
        by_cases q : y.2.1 = 6 ∧ e_sc y (g_n M + 1) = c
        · rw [if_pos q] at hw
          rcases y3_sc (hy y (hs y List.mem_cons_self)) q.1 n9 with ⟨a, -⟩ | ⟨-, a⟩ | ⟨k, b1, b2, b3⟩
          · exfalso; rw [q.2] at a; rcases a with a | a <;> omega
          · rw [← Option.some.inj hw]; exact a
          · exfalso; rw [q.2] at b3; unfold wW at b3; omega
        · rw [if_neg q] at hw
          exact h w hw
    exact key _ _ (fun y hy => hy) (fun w hw => j5 c w h5 (by rw [← no]; exact hw)) v hv
  · have b0 : j_B (10000 + 64 * g_n M) (fun c => r_val c (g_n M + 1) (g_E M).2.1) := by rw [J_up e (Nat.le_succ _)]; exact jB
    have b1 := do_B n9 (s_CS M t) (g_E M) (10000 + 64 * g_n M) e.1 hy (by omega) (by omega) b0
    have b2 := st_B n9 (s_CS M t) _ _ hy (by omega) b1
    exact fun c x hc hx => bd_mono (b2 c x hc hx) (by omega)
theorem cm_W (e : J_e M) (ht : t < 3) (hb : (g_X M t).1.1 = true) (I : J_t wf M t) (w : wf) (hf : (g_X M t).2.2.findIdx? (s_met (g_X M t).2.1 (g_X M t).1.2.2.1 (g_E M).2.1 (g_E M).2.2) = none) {bv : Nat} (B : J_v M bv) :
    j_W (g_n M + 1) (fun c => r_val c (g_n M + 1) (e_all (g_n M + 1) (s_CS M t) (g_E M)).2.1) ∧ L_4 bv (e_all (g_n M + 1) (s_CS M t) (g_E M)).2.1 := by
  obtain ⟨hy, hcn, ⟨D, d1, d2, d3, d4, d5, d6⟩, -⟩ := I
  obtain ⟨bW, b4, bn, br⟩ := B
  have n9 := e.2.2.1
  have hra := br t ht hb
  refine ⟨jW_cg (fun c hc => cm_U e hy (jl_in hc).1 (jl_in hc).2) (d6 w _ _ (by omega) n9 (cm_D e (by omega) d1 hf) (fun k u hk hu hd => ?_) (jW_mono (bW _ (Nat.le_refl _)) (Nat.le_succ _))), ?_⟩
  · refine val_no (fun x hx hxc => ?_) (e.2.2.2 t (by omega))
    refine Classical.byContradiction fun hlt => ?_
    obtain ⟨u', k', a1, a2, a3, z, hz, a4, a5⟩ := b4 x hx (by rw [hxc]; unfold wW; omega) (by rw [hxc]; unfold wW; omega) (by omega)
    have ek : k' = k := by rw [hxc] at a3; unfold wW at a3; omega
    subst ek
    rcases a5 with a5 | a5
    · have := no_ent d1 hf hd z hz a5; omega
    · have := no_ent d1 hf (d3 k' hk hd) z hz a5; omega
  · have hs : ∀ y ∈ s_CS M t, y3s y := fun y h => y3_s (hy y h)
    refine L4_grow b4 (fun x hx => zE_sub (cm_zE hy) hx) (fun x hx => ?_)
    have comp : ∀ u k, u < 9000 → k < 12 → (∃ y ∈ s_CS M t, y.2.2.1 = wW u k) → ∃ z ∈ (e_all (g_n M + 1) (s_CS M t) (g_E M)).2.1, z.2.2.1 = g_n M + 1 ∧ (z.2.1 = wR k ∨ z.2.1 = wS 2) := fun u k hu hk ⟨y, h1, h2⟩ => by
      obtain ⟨y', q1, q2, q3, q4⟩ := d4 y h1 u k hu hk h2
      obtain ⟨z, z1, z2, z3⟩ := all_has (n := g_n M + 1) (s_CS M t) (g_E M) hs y' q1 q2 (by rw [q3, q4])
      exact ⟨z, z1, z3, Or.inl (by rw [z2, q3])⟩
    rcases st_log (s_CS M t) _ x hx with g | ⟨g1, y, g2, g3, g4⟩
    · rcases do_log (s_CS M t) (g_E M) hs x g with g | ⟨g1, y, g2, g3⟩
      · exact Or.inl g
      · right
        intro l1 l2
        obtain ⟨y1, y2, y3'⟩ := y3_cov (hy y g2) g3 (by omega) (by omega)
        rcases y3' with ⟨-, j, k, a1, a2, a3⟩ | ⟨-, j, a1, a2⟩ | ⟨-, u, k, a1, a2, a3⟩ | ⟨-, k, a1, a2⟩
        · exfalso; rw [a3] at l2; unfold wF at l2; omega
        · exfalso; rw [a2] at l2; unfold wN at l2; omega
        · obtain ⟨z, z1, z2⟩ := comp u k a1 a2 ⟨y, g2, by rw [y2, a3]⟩
          exact ⟨u, k, a1, a2, a3, z, z1, by rw [z2.1, g1], z2.2⟩
        · exfalso; rw [a2] at l2; unfold wR at l2; omega
    · right
      intro l1 l2
      rcases y3_sc (hy y g2) g3 n9 with ⟨a, -⟩ | ⟨a, -⟩ | ⟨k, q1, q2, q3⟩
      · exfalso; rw [g4] at a; rcases a with a | a <;> omega
      · exfalso; rw [g4] at a; omega
      · obtain ⟨z, z1, z2⟩ := comp 0 k (by omega) q1 ⟨y, g2, q2⟩
        exact ⟨g_n M + 1, k, n9, q1, by rw [← g4, q3], z, z1, by rw [z2.1, g1], z2.2⟩
theorem JI_commit (e : J_e M) (I : J_I wf M) (ht : t < 3) (hb : (g_X M t).1.1 = true) (hf : (g_X M t).2.2.findIdx? (s_met (g_X M t).2.1 (g_X M t).1.2.2.1 (g_E M).2.1 (g_E M).2.2) = none) : J_I wf (g_cm M (e_all (g_n M + 1) (s_CS M t) (g_E M))) :=
  JI_cm e I id (cm_zE (I.2.1 t ht).1) (cm_P e ht I.1 (I.2.1 t ht) hf) (fun w bv B => by
    obtain ⟨a, b⟩ := cm_W e ht hb (I.2.1 t ht) w hf B
    exact Jv_same B a b)
end CMT
