/-! CALLS THAT COMMIT BY THEMSELVES, but for building an index -/
section OPS
variable {wf : Prop} {M : s_M} {E' : e_S}
theorem JI_out (e : J_e M) (I : J_I wf M) (z : z_E (g_n M + 1) (g_E M) E') (h1 : ∀ c, jl c → r_val c (g_n M + 1) E'.2.1 = g_U M (g_n M) c) (h2 : ∀ c, c / 121000000 = 995 ∨ y_o c (c + 1) → r_val c (g_n M + 1) E'.2.1 = none ∨ r_val c (g_n M + 1) E'.2.1 = g_U M (g_n M) c)
    (h3 : ∀ x ∈ E'.2.1, x ∈ (g_E M).2.1 ∨ ¬ (120516000000 ≤ x.2.1 ∧ x.2.1 < 120637000000)) : J_I wf (g_cm M E') := by
  obtain ⟨jA, j6, j5, jB⟩ := I.1 _ (Nat.le_refl _)
  refine JI_cm e I id z ⟨jA_cg h1 jA, fun c v a b hv => ?_, fun c v hc hv => ?_, fun c x hc hx => ?_⟩ (fun w bv B => Jv_same B (jW_cg h1 (jW_mono (B.1 _ (Nat.le_refl _)) (Nat.le_succ _))) (L4_grow B.2.1 (fun x hx => zE_sub z hx) (fun x hx => ?_)))
  · have hv : r_val c (g_n M + 1) E'.2.1 = some v := hv
    rw [h1 c (Or.inr (by omega))] at hv
    exact j6 c v a b hv
  · have hv : r_val c (g_n M + 1) E'.2.1 = some v := hv
    rcases h2 c (Or.inl hc) with q | q
    · rw [q] at hv; cases hv
    · rw [q] at hv; exact j5 c v hc hv
  · have hx : r_val c (g_n M + 1) E'.2.1 = some x := hx
    rcases h2 c (Or.inr hc) with q | q
    · rw [q] at hx; cases hx
    · rw [q] at hx; exact bd_mono (jB c x hc hx) (by omega)
  · rcases h3 x hx with g | g
    · exact Or.inl g
    · exact Or.inr (fun a b => absurd ⟨a, b⟩ g)
theorem val_up (e : J_e M) (c : Nat) : r_val c (g_n M + 1) (g_E M).2.1 = g_U M (g_n M) c := r_val_adv e.2.1 (Nat.le_succ _)
theorem JI_take (e : J_e M) (I : J_I wf M) {w : Int32} {c : Nat} : J_I wf (g_cm M (wk_tE M w c)) := by
  have l7 := (c75 c).1
  have key : ∀ d, ¬ d / 121000000 = 993 → r_val d (g_n M + 1) (wk_tE M w c).2.1 = g_U M (g_n M) d := fun d hd => by
    unfold wk_tE
    rw [put_val, if_neg (fun z => by
      have z : c7 c = d := z.1
      rw [z] at l7
      exact hd l7), val_up e]
  refine JI_out e I zE_take (fun d hd => key d (by rcases hd with hd | hd <;> omega)) (fun d hd => Or.inr (key d (by
    rcases hd with hd | hd
    · omega
    · rcases hd with hd | hd <;> omega))) (fun x hx => ?_)
  rcases List.mem_cons.mp hx with g | g
  · right
    rw [g]
    show ¬ (120516000000 ≤ c7 c ∧ c7 c < 120637000000)
    omega
  · exact Or.inl g
theorem JI_finish (e : J_e M) (I : J_I wf M) {c : Nat} : J_I wf (g_cm M (wk_fE M c)) := by
  obtain ⟨l7, l5, -⟩ := c75 c
  have val : ∀ d, r_val d (g_n M + 1) (wk_fE M c).2.1 = if c7 c = d then none else if c5 c = d then none else g_U M (g_n M) d := fun d => by
    unfold wk_fE
    rw [put_val, put_val, val_up e, show s_cd (-7) (s_no c 1) 10000 = c7 c from rfl, show s_cd (-5) (s_no c 1) 10000 = c5 c from rfl]
    by_cases q : c7 c = d
    · rw [if_pos ⟨q, Nat.le_refl _⟩, if_pos q]
    · rw [if_neg (fun z => q z.1), if_neg q]
      by_cases p : c5 c = d
      · rw [if_pos ⟨p, Nat.le_refl _⟩, if_pos p]
      · rw [if_neg (fun z => p z.1), if_neg p]
  refine JI_out e I zE_finish (fun d hd => ?_) (fun d hd => ?_) (fun x hx => ?_)
  · rw [val, if_neg (fun z => by rw [z] at l7; rcases hd with hd | hd <;> omega), if_neg (fun z => by rw [z] at l5; rcases hd with hd | hd <;> omega)]
  · rw [val]
    split
    · exact Or.inl rfl
    · split
      · exact Or.inl rfl
      · exact Or.inr rfl
  · rcases List.mem_cons.mp hx with g | g
    · right
      rw [g]
      show ¬ (120516000000 ≤ c7 c ∧ c7 c < 120637000000)
      omega
    · rcases List.mem_cons.mp g with g | g
      · right
        rw [g]
        show ¬ (120516000000 ≤ c5 c ∧ c5 c < 120637000000)
        omega
      · exact Or.inl g
theorem clr_log {n lo hi : Nat} {E : e_S} : ∀ x ∈ (e_clr n lo hi E).2.1, x ∈ E.2.1 ∨ (x.2.2.1 = n ∧ lo ≤ x.2.1 ∧ x.2.1 < hi ∧ (r_val x.2.1 n E.2.1).isSome = true) := by
  have key : ∀ (X : List (Nat × Option Int32)) (L : List k_E4), ∀ x ∈ r_pus n X L, x ∈ L ∨ (x.2.2.1 = n ∧ ∃ q ∈ X, q.1 = x.2.1) := by
    intro X
    induction X with
    | nil => intro L x hx; exact Or.inl hx
    | cons q X ih2 =>
      intro L x hx
      rcases ih2 (r_pu n L q) x hx with g | ⟨g1, q', g2, g3⟩
      · rcases List.mem_cons.mp g with e | e
        · exact Or.inr ⟨by rw [e], q, List.mem_cons_self, by rw [e]⟩
        · exact Or.inl e
      · exact Or.inr ⟨g1, q', List.mem_cons_of_mem _ g2, g3⟩
  intro x hx
  rcases key _ _ x hx with g | ⟨g1, q, g2, g3⟩
  · exact Or.inl g
  · right
    obtain ⟨w, hw1, rfl⟩ := List.mem_map.mp g2
    obtain ⟨-, hw2⟩ := List.mem_filter.mp hw1
    simp only [Bool.and_eq_true, decide_eq_true_eq] at hw2
    rw [← g3]
    exact ⟨g1, hw2.1.1, hw2.1.2, hw2.2⟩
theorem JI_remove {d : Nat} (e : J_e M) (I : J_I wf M) (w : d_wf (g_DS M)) : J_I wf (g_cm M (rm_E M d)) := by
  have key : ∀ (X : List s_D) (F : e_S), (∀ x ∈ X, x.2.2.2 ≤ 9) → i_K F → (∀ c, r_val c (g_n M + 1) (X.foldl (fun E x => e_clr (g_n M + 1) (rm_lo x) (rm_hi x + 1) E) F).2.1 = r_val c (g_n M + 1) F.2.1 ∨ (121000000000 ≤ c ∧ r_val c (g_n M + 1) (X.foldl (fun E x => e_clr (g_n M + 1) (rm_lo x) (rm_hi x + 1) E) F).2.1 = none)) ∧ ∀ x ∈ (X.foldl (fun E x => e_clr (g_n M + 1) (rm_lo x) (rm_hi x + 1) E) F).2.1, x ∈ F.2.1 ∨ 121000000000 ≤ x.2.1 := by
    intro X
    induction X with
    | nil => intro F _ _; exact ⟨fun c => Or.inl rfl, fun x hx => Or.inl hx⟩
    | cons x X ih =>
      intro F hX K
      obtain ⟨r1, r2, r3⟩ := rm_rng (hX x List.mem_cons_self)
      obtain ⟨i1, i2⟩ := ih (e_clr (g_n M + 1) (rm_lo x) (rm_hi x + 1) F) (fun z hz => hX z (List.mem_cons_of_mem _ hz)) (clr_iK K r2 r3)
      refine ⟨fun c => ?_, fun y hy => ?_⟩
      · rcases i1 c with g | g
        · by_cases hc : rm_lo x ≤ c ∧ c < rm_hi x + 1
          · rw [clr_none K hc.1 hc.2] at g
            exact Or.inr ⟨by omega, g⟩
          · rw [clr_ne hc] at g
            exact Or.inl g
        · exact Or.inr g
      · rcases i2 y hy with g | g
        · rcases clr_log y g with g | ⟨-, g, -⟩
          · exact Or.inl g
          · exact Or.inr (by omega)
        · exact Or.inr g
  have h9 : ∀ x ∈ rm_gone M d, x.2.2.2 ≤ 9 := fun x hx => (w.2.2.2.2 x (List.mem_filter.mp hx).1).2
  obtain ⟨k1, k2⟩ := key (rm_gone M d) (g_E M) h9 e.1
  refine JI_out e I (zE_rm w) (fun c hc => ?_) (fun c hc => ?_) (fun x hx => ?_)
  · rcases k1 c with g | g
    · exact g.trans (val_up e c)
    · rcases hc with hc | hc <;> omega
  · rcases k1 c with g | g
    · exact Or.inr (g.trans (val_up e c))
    · exact Or.inl g.2
  · rcases k2 x hx with g | g
    · exact Or.inl g
    · exact Or.inr (by omega)
/-! .. bringing back -/
theorem zE_ver {n : Nat} {E E' : e_S} (z : z_E n E E') (h : ∀ x ∈ E.2.1, x.2.2.1 ≤ n) : ∀ x ∈ E'.2.1, x.2.2.1 ≤ n := by
  refine z (fun F => ∀ x ∈ F.2.1, x.2.2.1 ≤ n) (fun F c o ih x hx => ?_) (fun F lo hi _ _ ih x hx => ?_) h
  · rcases List.mem_cons.mp hx with g | g
    · rw [g]; exact Nat.le_refl _
    · exact ih x g
  · rcases clr_log x hx with g | ⟨g, -⟩
    · exact ih x g
    · omega
theorem JI_back (e : J_e M) (I : J_I wf M) {v : Nat} (hv : v ≤ g_n M) : J_I (wf ∧ ∀ t, t < 3 → (g_X M t).1.1 = false) (g_cm M (bb_E M v)) := by
  have hU : (fun c => r_val c (g_n M + 1) (bb_E M v).2.1) = g_U M v := funext fun c => bb_val e.1 e.2.1
  refine JI_cm e I (fun w => w.1) zE_back (by rw [hU]; exact jP_mono (I.1 v hv) (by omega)) (fun w bv B => ⟨g_n M + 1, Nat.le_refl _, ?_, fun x hx _ _ h => ?_, fun t ht hb => ?_⟩)
  · rw [hU]; exact jW_mono (B.1 v hv) (by omega)
  · have := zE_ver (zE_back (M := M) (v := v)) (fun x hx => Nat.le_succ_of_le (e.2.1 x hx)) x hx
    omega
  · rw [w.2 t ht] at hb; cases hb
/-! .. turning an index off -/
theorem of_at {i : Nat} (hi : i < 3) : of_lo (nI i) = 120758000000 - 121000000 * i ∧ of_hi (nI i) + 1 = 120879000000 - 121000000 * i := by
  have h3 : i = 0 ∨ i = 1 ∨ i = 2 := by omega
  rcases h3 with rfl | rfl | rfl <;> decide +kernel
theorem goes_off (k : Nat) : s_goes (o_told (some (-1000))) (nI k) = false := by
  show s_goes (-1000) (nI k) = false
  unfold s_goes
  rw [decide_eq_false (show ¬ (-1000 : Int32) = -2147483648 by decide), decide_eq_false (show ¬ ¬ (-1000 : Int32) = -1000 by decide)]
  rfl
theorem jA_off {U U' : j_U} {i : Nat} (hi : i < 3) (A : j_A U) (h : ∀ c, jl c → U' c = if c = wS i then some (-1000) else if 120758000000 - 121000000 * i ≤ c ∧ c < 120879000000 - 121000000 * i then none else U c) : j_A U' := by
  obtain ⟨a, b, d⟩ := A
  have hR : ∀ c, 120879000000 ≤ c → c < 121000000000 → U' c = U c := fun c h1 h2 => by rw [h c (Or.inr (by omega)), if_neg (by unfold wS; omega), if_neg (by omega)]
  have gi : ∀ k, j_g U' i k = false := fun k => by unfold j_g; rw [h _ (Or.inl (by unfold wS; omega)), if_pos rfl]; exact goes_off k
  have go : ∀ x k, x < 3 → ¬ x = i → j_g U' x k = j_g U x k := fun x k hx e => by unfold j_g; rw [h _ (Or.inl (by unfold wS; omega)), if_neg (by unfold wS; omega), if_neg (by unfold wS; omega)]
  refine ⟨fun c v h1 h2 e => by rw [hR c h1 h2] at e; exact a c v h1 h2 e, fun c h1 h2 v => ?_, fun j hj => ?_⟩
  · by_cases e0 : i = 0
    · subst e0
      rw [h c (Or.inr (by omega)), if_neg (by unfold wS; omega), if_pos (by omega)]
      exact ⟨fun z => (by cases z), fun ⟨_, k, j, _, _, _, _, z⟩ => (by rw [gi] at z; cases z)⟩
    · rw [h c (Or.inr (by omega)), if_neg (by unfold wS; omega), if_neg (by omega), b c h1 h2 v]
      constructor
      · rintro ⟨hv, k, j, h3, h4, h5, h6, h7⟩
        exact ⟨hv, k, j, h3, h4, h5, by rw [hR _ (by unfold wR; omega) (by unfold wR; omega)]; exact h6, by rw [go 0 k (by omega) (fun z => e0 z.symm)]; exact h7⟩
      · rintro ⟨hv, k, j, h3, h4, h5, h6, h7⟩
        rw [hR _ (by unfold wR; omega) (by unfold wR; omega)] at h6
        rw [go 0 k (by omega) (fun z => e0 z.symm)] at h7
        exact ⟨hv, k, j, h3, h4, h5, h6, h7⟩
  · by_cases e1 : i = 1
    · subst e1
      rw [h _ (Or.inr (by unfold wN; omega)), if_neg (by unfold wS wN; omega), if_pos (by unfold wN; omega)]
      have : j_c U' j = 0 := by
        unfold j_c
        rw [List.countP_eq_zero]
        intro k _ z
        rw [gi, Bool.and_false] at z
        cases z
      rw [this]; rfl
    · rw [h _ (Or.inr (by unfold wN; omega)), if_neg (by unfold wS wN; omega), if_neg (by unfold wN; omega), d j hj]
      congr 1
      unfold j_c
      refine List.countP_congr fun k hk => ?_
      have := List.mem_range.mp hk
      rw [hR _ (by unfold wR; omega) (by unfold wR; omega), go 1 k (by omega) (fun z => e1 z.symm)]
theorem jW_off {m : Nat} {U U' : j_U} {i : Nat} (hi : i < 3) (W : j_W m U) (h : ∀ c, jl c → U' c = if c = wS i then some (-1000) else if 120758000000 - 121000000 * i ≤ c ∧ c < 120879000000 - 121000000 * i then none else U c) : j_W m U' := by
  by_cases e2 : i = 2
  · subst e2
    have no : ∀ c, 120516000000 ≤ c → c < 120637000000 → U' c = none := fun c h1 h2 => by rw [h c (Or.inr (by omega)), if_neg (by unfold wS; omega), if_pos (by omega)]
    refine ⟨fun c v h1 h2 e => (by rw [no c h1 h2] at e; cases e), fun k v hk e g => ?_, fun k u u' hk hu hu' a b => ?_⟩
    · unfold j_g at g
      rw [h _ (Or.inl (by unfold wS; omega)), if_pos rfl, goes_off] at g
      cases g
    · rw [no _ (by unfold wW; omega) (by unfold wW; omega)] at a; cases a
  · have same : ∀ c, (120516000000 ≤ c ∧ c < 120637000000) ∨ (120879000000 ≤ c ∧ c < 121000000000) ∨ c = wS 2 → U' c = U c := fun c hc => by
      unfold wS at hc
      have hj : jl c := by unfold jl; omega
      have n1 : ¬ c = wS i := by unfold wS; omega
      have n2 : ¬ (120758000000 - 121000000 * i ≤ c ∧ c < 120879000000 - 121000000 * i) := by omega
      rw [h c hj, if_neg n1, if_neg n2]
    obtain ⟨w1, w2, w3⟩ := W
    have hw : ∀ u k, u < 9000 → k < 12 → U' (wW u k) = U (wW u k) := fun u k _ _ => same _ (Or.inl (by unfold wW; omega))
    have hr : ∀ k, k < 12 → U' (wR k) = U (wR k) := fun k _ => same _ (Or.inr (Or.inl (by unfold wR; omega)))
    have g : ∀ k, j_g U' 2 k = j_g U 2 k := fun k => by unfold j_g; rw [same _ (Or.inr (Or.inr rfl))]
    refine ⟨fun c v h1 h2 e => ?_, fun k v hk e gg => ?_, fun k u u' hk hu hu' a b => ?_⟩
    · rw [same c (Or.inl ⟨h1, h2⟩)] at e
      obtain ⟨u, k, b1, b2, b3, b4, b5, b6⟩ := w1 c v h1 h2 e
      exact ⟨u, k, b1, b2, b3, b4, by rw [hr k b3]; exact b5, by rw [g]; exact b6⟩
    · rw [hr k hk] at e
      rw [g] at gg
      obtain ⟨u, hu, a⟩ := w2 k v hk e gg
      exact ⟨u, hu, by rw [hw u k hu hk]; exact a⟩
    · rw [hw u k hu hk] at a
      rw [hw u' k hu' hk] at b
      exact w3 k u u' hk hu hu' a b
theorem JI_off (e : J_e M) (I : J_I wf M) {i : Nat} (hi : i < 3) : J_I wf (g_cm M (of_E M (nI i))) := by
  obtain ⟨jA, j6, j5, jB⟩ := I.1 _ (Nat.le_refl _)
  obtain ⟨o1, o2⟩ := of_at hi
  have hx : s_inB (nI i) 0 2 = true := by
    have h3 : i = 0 ∨ i = 1 ∨ i = 2 := by omega
    rcases h3 with rfl | rfl | rfl <;> decide
  have val : ∀ c, r_val c (g_n M + 1) (of_E M (nI i)).2.1 = if c = wS i then some (-1000) else if 120758000000 - 121000000 * i ≤ c ∧ c < 120879000000 - 121000000 * i then none else g_U M (g_n M) c := fun c => by
    unfold of_E
    rw [put_val, wS_eq (by omega), o1, o2]
    by_cases q : c = wS i
    · rw [if_pos ⟨q.symm, Nat.le_refl _⟩, if_pos q]
    · rw [if_neg (fun z => q z.1.symm), if_neg q]
      by_cases p : 120758000000 - 121000000 * i ≤ c ∧ c < 120879000000 - 121000000 * i
      · rw [if_pos p, clr_none e.1 p.1 p.2]
      · rw [if_neg p, clr_ne p, val_up e]
  have z := zE_off (M := M) hx
  refine JI_cm e I id z ⟨jA_off hi jA (fun c _ => val c), fun c v a b hv => ?_, fun c v hc hv => ?_, fun c x hc hx => ?_⟩ (fun w bv B => Jv_same B (jW_off hi (jW_mono (B.1 _ (Nat.le_refl _)) (Nat.le_succ _)) (fun c _ => val c)) (L4_grow B.2.1 (fun x hx => zE_sub z hx) (fun x hx => ?_)))
  · have hv : r_val c (g_n M + 1) (of_E M (nI i)).2.1 = some v := hv
    rw [val, if_neg (by unfold wS; omega)] at hv
    split at hv
    · cases hv
    · exact j6 c v a b hv
  · have hv : r_val c (g_n M + 1) (of_E M (nI i)).2.1 = some v := hv
    rw [val, if_neg (by unfold wS; omega), if_neg (by omega)] at hv
    exact j5 c v hc hv
  · have hx : r_val c (g_n M + 1) (of_E M (nI i)).2.1 = some x := hx
    rw [val, if_neg (by unfold wS; rcases hc with hc | hc <;> omega), if_neg (by rcases hc with hc | hc <;> omega)] at hx
    exact bd_mono (jB c x hc hx) (by omega)
  · rcases List.mem_cons.mp hx with g | g
    · right
      intro a b
      have : x.2.1 = wS i := by rw [g]; exact wS_eq (by omega)
      rw [this] at a
      unfold wS at a; omega
    · rcases clr_log x g with g | ⟨g1, g2, g3, g4⟩
      · exact Or.inl g
      · right
        intro a b
        rw [o1] at g2
        rw [o2] at g3
        have e2 : i = 2 := by omega
        subst e2
        obtain ⟨v, hv⟩ := Option.isSome_iff_exists.mp g4
        rw [val_up e] at hv
        obtain ⟨u, k, b1, b2, b3⟩ := j6 _ v a b hv
        exact ⟨u, k, b1, b2, b3, _, List.mem_cons_self, g1.symm, Or.inr (wS_eq (x := 2) (by omega))⟩
end OPS
