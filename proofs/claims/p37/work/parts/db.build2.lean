/-! .. record by record -/
section BLD
variable {wf : Prop} {M : s_M} {i : Nat} {most : Int32}
/-- what has a value while it is built, as if the index went to the last one -/
def b_U (i n : Nat) (A : b_S) : j_U := fun c => if c = wS i then some A.2.2.1 else r_val c n A.1.2.1
def b_inv (wf : Prop) (M : s_M) (i : Nat) (most : Int32) (s : Nat) (A : b_S) : Prop :=
  (∀ c, (¬ jl c ∨ (∃ y, y < 3 ∧ c = wS y) ∨ (120879000000 ≤ c ∧ c < 121000000000)) → r_val c (g_n M + 1) A.1.2.1 = g_U M (g_n M) c) ∧ (j_A (b_U i (g_n M + 1) A) ∧ (wf → j_W (g_n M + 1) (b_U i (g_n M + 1) A)) ∧ j_6 (b_U i (g_n M + 1) A)) ∧
  (A.2.2.2 = 0 → ∀ k, k < s → (g_U M (g_n M) (wR k)).isSome = true → s_goes A.2.2.1 (nI k) = true) ∧ (∀ k, s ≤ k → k < 200 → s_goes A.2.2.1 (nI k) = s_goes (bl_st M (nI i)) (nI k)) ∧ (0 < A.2.2.2 → most ≤ nI A.2.1) ∧
  (∀ x ∈ A.1.2.1, x ∈ (g_E M).2.1 ∨ (x.2.2.1 = g_n M + 1 ∧ (120516000000 ≤ x.2.1 → x.2.1 < 120637000000 → i = 2 ∧ ∃ u k, u < 9000 ∧ k < 12 ∧ x.2.1 = wW u k))) ∧ A.2.1 ≤ s ∧ (¬ A.2.2.1 = -2147483648)
theorem goes_nI {k q : Nat} (hk : k < 9000) (hq : q < 9000) : s_goes (nI k) (nI q) = decide (q ≤ k) := by
  unfold s_goes
  have h1 : ¬ nI k = -2147483648 := fun z => by
    have := congrArg Int32.toInt z
    rw [nI_toInt (by omega), show (-2147483648 : Int32).toInt = -2147483648 from by decide] at this
    omega
  have h2 : ¬ nI k = -1000 := fun z => by
    have := congrArg Int32.toInt z
    rw [nI_toInt (by omega), show (-1000 : Int32).toInt = -1000 from by decide] at this
    omega
  rw [decide_eq_false h1, decide_eq_true h2, Bool.false_or, Bool.true_and]
  by_cases e : q ≤ k
  · rw [decide_eq_true e, decide_eq_true ((nI_leI (by omega) (by omega)).mpr e)]
  · rw [decide_eq_false e, decide_eq_false (fun z => e ((nI_leI (by omega) (by omega)).mp z))]
theorem goes_le {st : Int32} {k : Nat} (hk : k < 9000) (h : nI k ≤ st) : s_goes st (nI k) = true := by
  unfold s_goes
  have h2 : ¬ st = -1000 := fun z => by
    rw [z] at h
    have := Int32.le_iff_toInt_le.mp h
    rw [nI_toInt (by omega), show (-1000 : Int32).toInt = -1000 from by decide] at this
    omega
  rw [decide_eq_true h2, decide_eq_true h, Bool.true_and, Bool.or_true]
theorem goes_gt {st : Int32} {k : Nat} (h0 : ¬ st = -2147483648) (h : ¬ nI k ≤ st) : s_goes st (nI k) = false := by
  unfold s_goes
  rw [decide_eq_false h0, decide_eq_false h, Bool.and_false, Bool.or_false]
theorem b_0 (e : J_e M) (I : J_I wf M) (hi : i < 3) (hst : ¬ bl_st M (nI i) = -2147483648) (hw : wf → j_W (g_n M) (g_U M (g_n M))) : b_inv wf M i most 0 (g_E M, 0, bl_st M (nI i), 0) := by
  obtain ⟨jA, j6, j5, jB⟩ := I.1 _ (Nat.le_refl _)
  have hU : ∀ c, ¬ c = wS i → b_U i (g_n M + 1) (g_E M, 0, bl_st M (nI i), 0) c = g_U M (g_n M) c := fun c hc => by
    unfold b_U; rw [if_neg hc]; exact val_up e c
  have hg : ∀ y k, y < 3 → j_g (b_U i (g_n M + 1) (g_E M, 0, bl_st M (nI i), 0)) y k = j_g (g_U M (g_n M)) y k := fun y k hy => by
    unfold j_g
    by_cases q : y = i
    · rw [q]
      congr 1
      unfold b_U
      rw [if_pos rfl]
      show bl_st M (nI i) = _
      unfold bl_st
      rw [wS_eq (by omega)]
      rfl
    · rw [hU _ (by unfold wS; omega)]
  refine ⟨fun c _ => val_up e c, ⟨jA_go jA (fun c _ h => hU c (h i hi)) (fun y k hy _ _ => hg y k hy), fun w => jW_go (jW_mono (hw w) (Nat.le_succ _)) (fun c _ h => hU c (h i hi)) (fun y k hy _ _ => hg y k hy), fun c v h1 h2 hv => j6 c v h1 h2 (by rw [← hU c (by unfold wS; omega)]; exact hv)⟩, fun _ k hk => absurd hk (Nat.not_lt_zero k), fun k _ _ => rfl, fun h => absurd h (Nat.lt_irrefl 0), fun x hx => Or.inl hx, Nat.le_refl _, hst⟩
theorem b_step (e : J_e M) (I : J_I wf M) (hi : i < 3) (hst : ¬ bl_st M (nI i) = -2147483648) {s : Nat} {A : b_S} (hs : s < 100) (h : b_inv wf M i most s A) : b_inv wf M i most (s + 1) (bl_step (g_n M + 1) (nI i) (bl_st M (nI i)) most A s) := by
  have n9 := e.2.2.1
  obtain ⟨aR, -⟩ := (I.1 _ (Nat.le_refl _)).1
  obtain ⟨a, ⟨b1, b2, b3⟩, c, d, f, g, l, z0⟩ := id h
  have hrec : r_val (sv_re (nI s)) (g_n M + 1) A.1.2.1 = g_U M (g_n M) (wR s) := by
    rw [wR_eq (by omega)]
    exact a _ (Or.inr (Or.inr (by unfold wR; omega)))
  unfold bl_step
  rw [hrec]
  by_cases q : (decide (¬ nI s ≤ bl_st M (nI i)) && (g_U M (g_n M) (wR s)).isSome) = true
  · rw [if_pos q]
    rw [Bool.and_eq_true, decide_eq_true_eq] at q
    obtain ⟨q1, q2⟩ := q
    have gs : s_goes (bl_st M (nI i)) (nI s) = false := goes_gt hst q1
    by_cases hm : most ≤ nI A.2.1
    · rw [if_pos hm]
      exact ⟨a, ⟨b1, b2, b3⟩, fun z => absurd z (Nat.succ_ne_zero _), fun k hk hk2 => d k (by omega) hk2, fun _ => hm, g, by show A.2.1 ≤ s + 1; omega, z0⟩
    · rw [if_neg hm]
      have r0 : A.2.2.2 = 0 := by
        refine Classical.byContradiction fun z => hm (f (by omega))
      obtain ⟨v, hv⟩ := Option.isSome_iff_exists.mp q2
      obtain ⟨k', j, k1, k2, k3, k4⟩ := aR _ v (by unfold wR; omega) (by unfold wR; omega) hv
      have hks : k' = s := by unfold wR at k3; omega
      subst hks
      have ho : o_told (g_U M (g_n M) (wR k')) = nI j := by rw [hv, k4]; rfl
      rw [ho]
      -- the new state
      have val : ∀ c, r_val c (g_n M + 1) (bl_one (g_n M + 1) (nI i) k' (nI j) A.1).2.1 = if i = 0 ∧ c = wF j k' then some 0 else if i = 1 ∧ c = wN j then some ((r_val c (g_n M + 1) A.1.2.1).getD 0 + 1) else if i = 2 ∧ c = wW (g_n M + 1) k' then some (nI j) else r_val c (g_n M + 1) A.1.2.1 := fun c => by
        unfold bl_one
        have h3 : i = 0 ∨ i = 1 ∨ i = 2 := by omega
        rcases h3 with rfl | rfl | rfl
        · rw [if_neg (by decide), if_pos (by decide), put_val, wF_eq (by omega) (by omega)]
          by_cases z : c = wF j k'
          · rw [if_pos ⟨z.symm, Nat.le_refl _⟩, if_pos ⟨rfl, z⟩]
          · rw [if_neg (fun y => z y.1.symm), if_neg (fun y => z y.2), if_neg (fun y => by omega), if_neg (fun y => by omega)]
        · rw [if_pos (by decide), put_val, wN_eq (by omega)]
          by_cases z : c = wN j
          · rw [if_pos ⟨z.symm, Nat.le_refl _⟩, if_neg (fun y => by omega), if_pos ⟨rfl, z⟩, z]
          · rw [if_neg (fun y => z y.1.symm), if_neg (fun y => by omega), if_neg (fun y => z y.2), if_neg (fun y => by omega)]
        · rw [if_neg (by decide), if_neg (by decide), put_val, wW_eq n9 (by omega)]
          by_cases z : c = wW (g_n M + 1) k'
          · rw [if_pos ⟨z.symm, Nat.le_refl _⟩, if_neg (fun y => by omega), if_neg (fun y => by omega), if_pos ⟨rfl, z⟩]
          · rw [if_neg (fun y => z y.1.symm), if_neg (fun y => by omega), if_neg (fun y => by omega), if_neg (fun y => z y.2)]
      have keep : ∀ c, (¬ jl c ∨ (∃ y, y < 3 ∧ c = wS y) ∨ (120879000000 ≤ c ∧ c < 121000000000)) → r_val c (g_n M + 1) (bl_one (g_n M + 1) (nI i) k' (nI j) A.1).2.1 = r_val c (g_n M + 1) A.1.2.1 := fun c hc => by
        have n0 : ¬ c = wF j k' := fun z => by
          rcases hc with hc | ⟨y, hy, hc⟩ | hc
          · exact hc (by rw [z]; unfold jl wF; omega)
          · rw [hc] at z; unfold wF wS at z; omega
          · rw [z] at hc; unfold wF at hc; omega
        have n1 : ¬ c = wN j := fun z => by
          rcases hc with hc | ⟨y, hy, hc⟩ | hc
          · exact hc (by rw [z]; unfold jl wN; omega)
          · rw [hc] at z; unfold wN wS at z; omega
          · rw [z] at hc; unfold wN at hc; omega
        have n2 : ¬ c = wW (g_n M + 1) k' := fun z => by
          rcases hc with hc | ⟨y, hy, hc⟩ | hc
          · exact hc (by rw [z]; unfold jl wW; omega)
          · rw [hc] at z; unfold wW wS at z; omega
          · rw [z] at hc; unfold wW at hc; omega
        rw [val, if_neg (fun z => n0 z.2), if_neg (fun z => n1 z.2), if_neg (fun z => n2 z.2)]
      have bS : ∀ y, y < 3 → ¬ y = i → b_U i (g_n M + 1) (bl_one (g_n M + 1) (nI i) k' (nI j) A.1, A.2.1 + 1, nI k', A.2.2.2) (wS y) = b_U i (g_n M + 1) A (wS y) := fun y hy hne => by
        unfold b_U
        rw [if_neg (by unfold wS; omega), if_neg (by unfold wS; omega)]
        exact keep _ (Or.inr (Or.inl ⟨y, hy, rfl⟩))
      have bR : ∀ k, k < 9000 → b_U i (g_n M + 1) A (wR k) = g_U M (g_n M) (wR k) := fun k hk => by
        unfold b_U
        rw [if_neg (by unfold wR wS; omega)]
        exact a _ (Or.inr (Or.inr (by unfold wR; omega)))
      have gi' : ∀ k, k < 9000 → j_g (b_U i (g_n M + 1) (bl_one (g_n M + 1) (nI i) k' (nI j) A.1, A.2.1 + 1, nI k', A.2.2.2)) i k = decide (k ≤ k') := fun k hk => by
        unfold j_g b_U
        rw [if_pos rfl]
        exact goes_nI (by omega) hk
      have gi : ∀ k, j_g (b_U i (g_n M + 1) A) i k = s_goes A.2.2.1 (nI k) := fun k => by
        unfold j_g b_U
        rw [if_pos rfl]
        rfl
      have P : j_put (g_n M + 1) i k' j (b_U i (g_n M + 1) A) (b_U i (g_n M + 1) (bl_one (g_n M + 1) (nI i) k' (nI j) A.1, A.2.1 + 1, nI k', A.2.2.2)) := by
        refine ⟨hi, k1, k2, by rw [bR k' (by omega), hv, k4], by rw [gi, d k' (Nat.le_refl _) (by omega)]; exact gs, by rw [gi' k' (by omega)]; exact decide_eq_true (Nat.le_refl _), bS, fun k hk hne hsome => ?_, fun c h1 h2 => ?_⟩
        · rw [gi' k (by omega), gi]
          rw [bR k (by omega)] at hsome
          by_cases lt : k < k'
          · rw [decide_eq_true (by omega), c r0 k lt hsome]
          · rw [decide_eq_false (by omega), d k (by omega) (by omega)]
            refine (goes_gt hst fun z => q1 ?_).symm
            exact Int32.le_trans ((nI_leI (by omega) (by omega)).mpr (by omega)) z
        · unfold b_U
          have nS : ¬ c = wS i := by unfold wS; omega
          rw [if_neg nS, if_neg nS]
          exact val c
      refine ⟨fun c hc => (keep c hc).trans (a c hc), ⟨jA_put P n9 b1, fun w => jW_put P (by omega) n9 (b2 w), fun c v h1 h2 hc => ?_⟩, fun _ k hk hsome => ?_, fun k hk hk2 => ?_, fun z => absurd (show 0 < A.2.2.2 from z) (by omega), fun x hx => ?_, by show A.2.1 + 1 ≤ k' + 1; omega, ?_⟩
      · have nS : ¬ c = wS i := by unfold wS; omega
        unfold b_U at hc
        rw [if_neg nS] at hc
        have hc : r_val c (g_n M + 1) (bl_one (g_n M + 1) (nI i) k' (nI j) A.1).2.1 = some v := hc
        rw [val, if_neg (fun z => by have := z.2; unfold wF at this; omega), if_neg (fun z => by have := z.2; unfold wN at this; omega)] at hc
        by_cases z : i = 2 ∧ c = wW (g_n M + 1) k'
        · exact ⟨_, k', n9, k1, z.2⟩
        · rw [if_neg z] at hc
          exact b3 c v h1 h2 (by unfold b_U; rw [if_neg nS]; exact hc)
      · show s_goes (nI k') (nI k) = true
        rw [goes_nI (by omega) (by omega)]
        exact decide_eq_true (by omega)
      · show s_goes (nI k') (nI k) = _
        rw [goes_nI (by omega) (by omega), decide_eq_false (by omega)]
        refine (goes_gt hst fun z => q1 ?_).symm
        exact Int32.le_trans ((nI_leI (by omega) (by omega)).mpr (by omega)) z
      · have hx : x ∈ (bl_one (g_n M + 1) (nI i) k' (nI j) A.1).2.1 := hx
        have key : ∀ (cd : Nat) (o : Option Int32), x ∈ (e_put (g_n M + 1) cd o A.1).2.1 → ((120516000000 ≤ cd → cd < 120637000000 → i = 2 ∧ ∃ u k, u < 9000 ∧ k < 12 ∧ cd = wW u k)) → x ∈ (g_E M).2.1 ∨ (x.2.2.1 = g_n M + 1 ∧ (120516000000 ≤ x.2.1 → x.2.1 < 120637000000 → i = 2 ∧ ∃ u k, u < 9000 ∧ k < 12 ∧ x.2.1 = wW u k)) := fun cd o hx hcd => by
          rcases List.mem_cons.mp hx with y | y
          · right
            rw [y]
            exact ⟨rfl, hcd⟩
          · exact g x y
        unfold bl_one at hx
        have h3 : i = 0 ∨ i = 1 ∨ i = 2 := by omega
        rcases h3 with rfl | rfl | rfl
        · rw [if_neg (by decide), if_pos (by decide)] at hx
          exact key _ _ hx (fun z1 z2 => by rw [wF_eq (by omega) (by omega)] at z2; unfold wF at z2; omega)
        · rw [if_pos (by decide)] at hx
          exact key _ _ hx (fun z1 z2 => by rw [wN_eq (by omega)] at z2; unfold wN at z2; omega)
        · rw [if_neg (by decide), if_neg (by decide)] at hx
          exact key _ _ hx (fun z1 z2 => ⟨rfl, g_n M + 1, k', n9, k1, wW_eq n9 (by omega)⟩)
      · intro z
        have := congrArg Int32.toInt z
        rw [show ((bl_one (g_n M + 1) (nI i) k' (nI j) A.1, A.2.1 + 1, nI k', A.2.2.2) : b_S).2.2.1 = nI k' from rfl, nI_toInt (by omega), show (-2147483648 : Int32).toInt = -2147483648 from by decide] at this
        omega
  · rw [if_neg q]
    refine ⟨a, ⟨b1, b2, b3⟩, fun r0 k hk hsome => ?_, fun k hk hk2 => d k (by omega) hk2, f, g, by omega, z0⟩
    by_cases lt : k < s
    · exact c r0 k lt hsome
    · have : k = s := by omega
      subst this
      rw [d k (Nat.le_refl _) (by omega)]
      refine goes_le (by omega) ?_
      refine Classical.byContradiction fun z => q ?_
      rw [decide_eq_true z, hsome]
      rfl
theorem b_fold2 (e : J_e M) (I : J_I wf M) (hi : i < 3) (hst : ¬ bl_st M (nI i) = -2147483648) : ∀ (len s : Nat) (A : b_S), s + len ≤ 100 → b_inv wf M i most s A → b_inv wf M i most (s + len) ((List.range' s len).foldl (bl_step (g_n M + 1) (nI i) (bl_st M (nI i)) most) A) := by
  intro len
  induction len with
  | zero => intro s A _ h; exact h
  | succ len ih =>
    intro s A hl h
    have := ih (s + 1) _ (by omega) (b_step e I hi hst (by omega) h)
    rw [show s + 1 + len = s + (len + 1) from by omega] at this
    exact this
theorem JI_build (e : J_e M) (I : J_I wf M) (hi : i < 3) (hst : ¬ bl_st M (nI i) = -2147483648) : J_I wf (g_cm M (bl_E M (nI i) most)) := by
  obtain ⟨jA, j6, j5, jB⟩ := I.1 _ (Nat.le_refl _)
  have n9 := e.2.2.1
  have hW : wf → j_W (g_n M) (g_U M (g_n M)) := fun w => by obtain ⟨bv, hb⟩ := I.2.2.2 w; exact hb.1 _ (Nat.le_refl _)
  obtain ⟨a, ⟨b1, b2, b3⟩, c, d, f, g, l, z0⟩ := b_fold2 (wf := wf) (most := most) e I hi hst 100 0 _ (by omega) (b_0 e I hi hst hW)
  rw [show (List.range' 0 100).foldl (bl_step (g_n M + 1) (nI i) (bl_st M (nI i)) most) (g_E M, 0, bl_st M (nI i), 0) = bl_run M (nI i) most from rfl] at a b1 b2 b3 c d f g l z0
  have val : ∀ c, r_val c (g_n M + 1) (bl_E M (nI i) most).2.1 = if c = wS i then some (if 0 < (bl_run M (nI i) most).2.2.2 then (bl_run M (nI i) most).2.2.1 else 1000) else r_val c (g_n M + 1) (bl_run M (nI i) most).1.2.1 := fun c => by
    unfold bl_E
    rw [put_val, wS_eq (by omega)]
    by_cases q : c = wS i
    · rw [if_pos ⟨q.symm, Nat.le_refl _⟩, if_pos q]
    · rw [if_neg (fun z => q z.1.symm), if_neg q]
  have hU : ∀ c, jl c → (∀ y, y < 3 → ¬ c = wS y) → r_val c (g_n M + 1) (bl_E M (nI i) most).2.1 = b_U i (g_n M + 1) (bl_run M (nI i) most) c := fun c _ hc => by
    rw [val, if_neg (hc i hi)]
    unfold b_U
    rw [if_neg (hc i hi)]
  have hg : ∀ y k, y < 3 → k < 12 → (b_U i (g_n M + 1) (bl_run M (nI i) most) (wR k)).isSome = true → j_g (fun c => r_val c (g_n M + 1) (bl_E M (nI i) most).2.1) y k = j_g (b_U i (g_n M + 1) (bl_run M (nI i) most)) y k := fun y k hy hk hs => by
    unfold j_g
    show s_goes (o_told (r_val (wS y) (g_n M + 1) (bl_E M (nI i) most).2.1)) (nI k) = _
    rw [val]
    by_cases q : y = i
    · subst q
      unfold b_U
      rw [if_pos rfl, if_pos rfl]
      show s_goes (if 0 < (bl_run M (nI y) most).2.2.2 then (bl_run M (nI y) most).2.2.1 else 1000) (nI k) = s_goes (bl_run M (nI y) most).2.2.1 (nI k)
      split
      · rfl
      · rename_i r
        have hs2 : (g_U M (g_n M) (wR k)).isSome = true := by
          unfold b_U at hs
          rw [if_neg (by unfold wR wS; omega), a _ (Or.inr (Or.inr (by unfold wR; omega)))] at hs
          exact hs
        rw [c (by omega) k (by omega) hs2, show (1000 : Int32) = nI 1000 from rfl, goes_nI (by omega) (by omega)]
        exact decide_eq_true (by omega)
    · have nS : ¬ wS y = wS i := by unfold wS; omega
      unfold b_U
      rw [if_neg nS, if_neg nS]
  have z := zE_build (M := M) (x := nI i) (most := most)
  refine JI_cm e I id z ⟨jA_go b1 hU hg, fun c v h1 h2 hv => ?_, fun c v hc hv => ?_, fun c x hc hx => ?_⟩ (fun w bv B => Jv_same B (jW_go (b2 w) hU hg) (L4_grow B.2.1 (fun x hx => zE_sub z hx) (fun x hx => ?_)))
  · have hv : r_val c (g_n M + 1) (bl_E M (nI i) most).2.1 = some v := hv
    rw [hU c (Or.inr (by omega)) (fun y hy => by unfold wS; omega)] at hv
    exact b3 c v h1 h2 hv
  · have hv : r_val c (g_n M + 1) (bl_E M (nI i) most).2.1 = some v := hv
    rw [val, if_neg (by unfold wS; omega), a c (Or.inl (by unfold jl; omega))] at hv
    exact j5 c v hc hv
  · have hx : r_val c (g_n M + 1) (bl_E M (nI i) most).2.1 = some x := hx
    rw [val, if_neg (by unfold wS; rcases hc with hc | hc <;> omega), a c (Or.inl (by unfold jl; rcases hc with hc | hc <;> omega))] at hx
    exact bd_mono (jB c x hc hx) (by omega)
  · rcases List.mem_cons.mp hx with y | y
    · right
      intro p q
      have : x.2.1 = wS i := by rw [y]; exact wS_eq (by omega)
      rw [this] at p
      unfold wS at p; omega
    · rcases g x y with y | ⟨y1, y2⟩
      · exact Or.inl y
      · right
        intro p q
        obtain ⟨i2, u, k, u1, u2, u3⟩ := y2 p q
        subst i2
        exact ⟨u, k, u1, u2, u3, _, List.mem_cons_self, y1.symm, Or.inr (wS_eq (x := 2) (by omega))⟩
end BLD
