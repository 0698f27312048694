/-! AN INDEX IS BUILT -/
def aB (W R : List Nat) (n : Nat) (x st : Int32) (c : Nat) (v : Int32) : Prop := (x = 2 ∧ ∃ k, k < 100 ∧ k ∈ R ∧ c = s_cd (-4) (nI n) (nI k) ∧ ¬ nI k ≤ st) ∨ (¬ x = 2 ∧ c ∈ W ∧ (c / 121000000 = 998 ∨ c / 121000000 = 997)) ∨ (c = sv_co x ∧ (v = 1000 ∨ v = -1000 ∨ ∃ j, j < 100 ∧ v = nI j))
def fB (_ : Nat) : Prop := False
theorem aB_at {W R : List Nat} {n : Nat} {x st : Int32} {c : Nat} {v : Int32} (hx : s_inB x 0 2 = true) (hn : n < 9000) (hW : ∀ c ∈ W, c / 121000000 = 998 ∨ c / 121000000 = 997 → c < 1331000000000) (h : aB W R n x st c v) : c < 1331000000000 ∧ y_K c ∧ y_E W R c (some v) ∧ (c / 121000000 = 996 → s_dig c 1 = n + 1000) := by
  rcases h with ⟨-, k, hk, -, rfl, -⟩ | ⟨-, hw, hl⟩ | ⟨rfl, hv⟩
  · obtain ⟨l1, l2, l3, l4⟩ := m4_ly hn hk
    exact ⟨l4, fun z => by omega, fun f _ => ⟨fun z => by omega, fun z => by omega, fun z => by omega⟩, fun _ => l2⟩
  · exact ⟨hW c hw hl, fun z => by omega, fun f _ => ⟨fun z => by omega, fun z => by omega, fun z => by omega⟩, fun z => by omega⟩
  · obtain ⟨o1, o2, o3, o4, o5, o6⟩ := of_cl hx
    refine ⟨by omega, fun z => by omega, fun f hf => ⟨fun z => by omega, fun _ => ?_, fun z => by omega⟩, fun z => by omega⟩
    injection hf with hf
    rw [← hf]
    exact hv
theorem re_inj {k k' : Nat} (h : k < 100) (h' : k' < 100) (e : sv_re (nI k) = sv_re (nI k')) : k = k' := by
  have h1 := s_cd_inj na_m6.2.2.2.2.2.2.1 (na_100 (by omega)) (Or.inl rfl) na_m6.2.2.2.2.2.2.1 (na_100 (by omega)) (Or.inl rfl) e
  exact (nI_eq (by omega) (by omega)).mp h1.2.1
theorem re_ly {k : Nat} (h : k < 100) : sv_re (nI k) / 121000000 = 999 := by
  unfold sv_re
  rw [s_cd_div (na_100 (by omega)) (Or.inl rfl)]
  rfl
theorem re_rec {W R : List Nat} {L : List k_E4} (h : ∀ x ∈ L, y_E W R x.2.1 x.2.2.2) {k v : Nat} {f : Int32} (hk : k < 100) (e : r_val (sv_re (nI k)) v L = some f) : ∃ j, y_rec W R k j ∧ f = nI j := by
  obtain ⟨x, hx, e1, -, e3⟩ := val_mem e
  have := h x hx
  rw [e1, e3] at this
  obtain ⟨k', j, h1, h2, h3⟩ := (this f rfl).1 (re_ly hk)
  rw [← re_inj hk h1.1 h2] at h1
  exact ⟨j, h1, h3⟩
section BF
variable {W R : List Nat} {n : Nat} {x st most : Int32} {E : e_S}
/-- what stays so from step to step -/
def b_ok (W R : List Nat) (n : Nat) (x st : Int32) (E : e_S) (s0 : Nat) (A : b_S) : Prop := z_P n (aB W R n x st) fB E A.1 (2 * A.2.1) 0 A.2.1 ∧ A.2.1 ≤ 20 ∧ st ≤ A.2.2.1 ∧ (A.2.2.1 = st ∨ ∃ j, j < 100 ∧ A.2.2.1 = nI j) ∧ (∀ k, k < 100 → (r_val (s_cd (-4) (nI n) (nI k)) n A.1.2.1).isSome = true → k < s0 ∧ nI k ≤ A.2.2.1)
theorem b_fold (hx : s_inB x 0 2 = true) (hn : n < 9000) (hW : ∀ c ∈ W, c / 121000000 = 998 ∨ c / 121000000 = 997 → c < 1331000000000) (hE : ∀ y ∈ E.2.1, y_E W R y.2.1 y.2.2.2) (hm : s_inB most 1 20 = true) : ∀ (len s0 : Nat) (A : b_S), s0 + len ≤ 100 → b_ok W R n x st E s0 A → b_ok W R n x st E (s0 + len) ((List.range' s0 len).foldl (bl_step n x st most) A) := by
  intro len
  induction len with
  | zero => intro s0 A _ h; exact h
  | succ len ih =>
    intro s0 A hs h
    rw [show s0 + (len + 1) = s0 + 1 + len by omega]
    refine ih (s0 + 1) _ (by omega) ?_
    obtain ⟨z, h20, hle, hv, hk⟩ := h
    have keep : b_ok W R n x st E (s0 + 1) A := ⟨z, h20, hle, hv, fun k h1 h2 => ⟨Nat.lt_succ_of_lt (hk k h1 h2).1, (hk k h1 h2).2⟩⟩
    unfold bl_step
    by_cases c1 : (decide (¬ nI s0 ≤ st) && (r_val (sv_re (nI s0)) n A.1.2.1).isSome) = true
    · rw [if_pos c1]
      rw [Bool.and_eq_true, decide_eq_true_eq] at c1
      by_cases c2 : most ≤ nI A.2.1
      · rw [if_pos c2]
        exact keep
      · rw [if_neg c2]
        obtain ⟨m1, m2, m3⟩ := s_inA (a := 1) (m := 20) (by decide) (by decide) hm
        have hlt : A.2.1 < 20 := by
          have c2' := Int32.not_le.mp c2
          rw [m1, nI_ltI (by omega) (by omega)] at c2'
          omega
        obtain ⟨f, hf⟩ := Option.isSome_iff_exists.mp c1.2
        have lg := zP_log z (fun c o => y_E W R c o) (fun c v a => (aB_at hx hn hW a).2.2.1) (fun c f h => by cases h) hE
        obtain ⟨j, hj, ej⟩ := re_rec lg (k := s0) (by omega) hf
        rw [hf]
        have eo : o_told (some f) = f := rfl
        rw [eo]
        have nj : s_na (nI j) := na_100 (by have := hj.2.1; omega)
        have ns : s_na (nI s0) := na_100 (by omega)
        have nn : s_na (nI n) := na_100 hn
        have hle2 : st ≤ nI s0 := Int32.le_of_lt (Int32.not_le.mp c1.1)
        have z1 : z_P n (aB W R n x st) fB A.1 (bl_one n x s0 f A.1) 2 0 1 := by
          unfold bl_one
          by_cases e1 : x = 1
          · rw [if_pos e1]
            refine zP_sf (Or.inr (Or.inl ⟨by rw [e1]; decide, ?_, ?_⟩))
            · rw [ej]; exact hj.2.2.2.1
            · rw [ej, s_cd_div nj (Or.inl rfl)]; exact Or.inr rfl
          · rw [if_neg e1]
            by_cases e0 : x = 0
            · rw [if_pos e0]
              refine zP_sf (Or.inr (Or.inl ⟨by rw [e0]; decide, ?_, ?_⟩))
              · rw [ej]; exact hj.2.2.1
              · rw [ej, s_cd_div nj ns]; exact Or.inl rfl
            · rw [if_neg e0]
              refine zP_sf (Or.inl ⟨?_, s0, by omega, hj.2.2.2.2.2, rfl, c1.1⟩)
              rcases s_in3 hx with q | q | q
              · exact absurd q e0
              · exact absurd q e1
              · exact q
        refine ⟨zP_mono (zP_trans z z1) (by show _ ≤ 2 * (A.2.1 + 1); omega) (Nat.le_refl _) (by show _ ≤ A.2.1 + 1; omega), by show A.2.1 + 1 ≤ 20; omega, hle2, Or.inr ⟨s0, by omega, rfl⟩, fun k h1 h2 => ?_⟩
        have old : (r_val (s_cd (-4) (nI n) (nI k)) n A.1.2.1).isSome = true → k < s0 + 1 ∧ nI k ≤ nI s0 := fun q => by
          have := (hk k h1 q).1
          exact ⟨by omega, (nI_leI (by omega) (by omega)).mpr (by omega)⟩
        have l4 := m4_ly (v := n) (k := k) hn h1
        show k < s0 + 1 ∧ nI k ≤ nI s0
        have h2' : (r_val (s_cd (-4) (nI n) (nI k)) n (bl_one n x s0 f A.1).2.1).isSome = true := h2
        unfold bl_one at h2'
        by_cases e1 : x = 1
        · rw [if_pos e1, put_val, if_neg (fun q => ?_)] at h2'
          · exact old h2'
          · have l5 := l4.1
            rw [← q.1, ej, s_cd_div nj (Or.inl rfl)] at l5
            exact absurd l5 (by decide)
        · rw [if_neg e1] at h2'
          by_cases e0 : x = 0
          · rw [if_pos e0, put_val, if_neg (fun q => ?_)] at h2'
            · exact old h2'
            · have l5 := l4.1
              rw [← q.1, ej, s_cd_div nj ns] at l5
              exact absurd l5 (by decide)
          · rw [if_neg e0, put_val] at h2'
            by_cases q : s_cd (-4) (nI n) (nI s0) = s_cd (-4) (nI n) (nI k) ∧ n ≤ n
            · have l6 := (m4_ly (v := n) (k := s0) hn (by omega)).2.2.1
              rw [q.1, l4.2.2.1] at l6
              have : k = s0 := by omega
              rw [this]
              exact ⟨Nat.lt_succ_self _, Int32.le_refl _⟩
            · rw [if_neg q] at h2'
              exact old h2'
    · rw [if_neg c1]
      exact keep
end BF
theorem I_bl {i N w N' : Nat} {M : s_M} {x most : Int32} (I : i_I i M N w) (hi : i < 512) (hx : s_inB x 0 2 = true) (hm : s_inB most 1 20 = true) (hst : ¬ (bl_st M x = -2147483648 ∨ bl_st M x = 1000)) (hN : N' ≤ N + 1 + g_sp M (bl_E M x most)) : i_I (i + 1) (g_cm M (bl_E M x most)) N' w ∧ g_ps M (bl_E M x most) ∧ e_lim (bl_E M x most) := by
  obtain ⟨W, S, R, V, Vs, a, s, b, p, C, D, X, Y, Np, I⟩ := I
  have hn := A_n I hi
  have hS := I.2.1
  have h1 := I.1.1
  obtain ⟨o1, o2, o3, o4, o5, o6⟩ := of_cl hx
  -- the codes of W in these layers that matter are those of records
  let W2 := W.filter (fun c => decide (c < 1331000000000))
  have hW2 : ∀ c ∈ W2, c / 121000000 = 998 ∨ c / 121000000 = 997 → c < 1331000000000 := fun c h _ => by simpa using (List.mem_filter.mp h).2
  have rW : ∀ k j, y_rec W R k j → y_rec W2 R k j := fun k j ⟨r1, r2, r3, r4, r5, r6⟩ => by
    have nj : s_na (nI j) := na_100 (by omega)
    have nk : s_na (nI k) := na_100 (by omega)
    refine ⟨r1, r2, List.mem_filter.mpr ⟨r3, decide_eq_true ?_⟩, List.mem_filter.mpr ⟨r4, decide_eq_true ?_⟩, List.mem_filter.mpr ⟨r5, decide_eq_true ?_⟩, r6⟩
    · exact s_cd_lt na_m6.2.2.2.2.2.1 nj nk
    · exact s_cd_lt na_m6.2.2.2.2.1 nj (Or.inl rfl)
    · exact s_cd_lt na_m6.2.2.2.2.2.2.1 nk (Or.inl rfl)
  have hE : ∀ y ∈ (g_E M).2.1, y_E W2 R y.2.1 y.2.2.2 := fun y hy f hf => by
    obtain ⟨q1, q2, q3⟩ := hS.2.1.1 y hy f hf
    refine ⟨fun z => ?_, q2, q3⟩
    obtain ⟨k, j, r1, r2⟩ := q1 z
    exact ⟨k, j, rW k j r1, r2⟩
  have hWW : ∀ c ∈ W2, c ∈ W := fun c h => (List.mem_filter.mp h).1
  have no4 : ∀ k v, k < 100 → r_val (s_cd (-4) (nI (g_n M + 1)) (nI k)) v (g_E M).2.1 = none := fun k v hk => by
    cases e : r_val (s_cd (-4) (nI (g_n M + 1)) (nI k)) v (g_E M).2.1 with
    | none => rfl
    | some f =>
      obtain ⟨q, hq⟩ := val_in hS.1.2.2.1 (c := s_cd (-4) (nI (g_n M + 1)) (nI k)) (n := v) (by rw [e]; rfl)
      obtain ⟨l1, l2, -⟩ := m4_ly (v := g_n M + 1) (k := k) (by omega) hk
      obtain ⟨u, hu, e2⟩ := hS.2.1.2.2.1 _ hq l1
      have := hS.2.1.2.2.2.1 u hu
      have e2 : s_dig (s_cd (-4) (nI (g_n M + 1)) (nI k)) 1 = u + 1000 := e2
      omega
  have hsv : r_val (sv_co x) (g_n M) (g_E M).2.1 = some (bl_st M x) := by
    unfold bl_st
    cases e : r_val (sv_co x) (g_n M) (g_E M).2.1 with
    | none => exact absurd (Or.inl (by unfold bl_st; rw [e]; rfl)) hst
    | some v => rfl
  have hal : bl_st M x = 1000 ∨ bl_st M x = -1000 ∨ ∃ j, j < 100 ∧ bl_st M x = nI j := by
    obtain ⟨y, hy, e1, -, e3⟩ := val_mem hsv
    have := hS.2.1.1 y hy
    rw [e1, e3] at this
    exact (this _ rfl).2.1 (by omega)
  have bk := b_fold (W := W2) (R := R) (n := g_n M + 1) (x := x) (st := bl_st M x) (most := most) (E := g_E M) hx (by omega) hW2 hE hm 100 0 (g_E M, 0, bl_st M x, 0) (by decide) ⟨zP_refl, Nat.zero_le _, Int32.le_refl _, Or.inl rfl, fun k hk q => by
    have q : (r_val (s_cd (-4) (nI (g_n M + 1)) (nI k)) (g_n M + 1) (g_E M).2.1).isSome = true := q
    rw [no4 k _ hk] at q; cases q⟩
  have er : (List.range' 0 100).foldl (bl_step (g_n M + 1) x (bl_st M x) most) (g_E M, 0, bl_st M x, 0) = bl_run M x most := rfl
  rw [er] at bk
  have eE : bl_E M x most = e_put (g_n M + 1) (sv_co x) (some (if 0 < (bl_run M x most).2.2.2 then (bl_run M x most).2.2.1 else 1000)) (bl_run M x most).1 := rfl
  rw [eE] at hN ⊢
  generalize bl_run M x most = A at bk hN ⊢
  obtain ⟨z, h20, hle, hv, hk⟩ := bk
  have hst' : (if 0 < A.2.2.2 then A.2.2.1 else 1000) = 1000 ∨ (if 0 < A.2.2.2 then A.2.2.1 else 1000) = (-1000 : Int32) ∨ ∃ j, j < 100 ∧ (if 0 < A.2.2.2 then A.2.2.1 else 1000) = nI j := by
    split
    · rcases hv with e | e
      · rw [e]; exact hal
      · exact Or.inr (Or.inr e)
    · exact Or.inl rfl
  have nIk : ∀ k, k < 100 → nI k ≤ (1000 : Int32) := fun k hk => (nI_leI (b := 1000) (by omega) (by omega)).mpr (by omega)
  have hle' : bl_st M x ≤ (if 0 < A.2.2.2 then A.2.2.1 else 1000) := by
    split
    · exact hle
    · rcases hal with e | e | ⟨j, hj, e⟩
      · rw [e]; exact Int32.le_refl _
      · rw [e]; decide
      · rw [e]; exact nIk j hj
  have hk' : ∀ k, k < 100 → (r_val (s_cd (-4) (nI (g_n M + 1)) (nI k)) (g_n M + 1) A.1.2.1).isSome = true → nI k ≤ (if 0 < A.2.2.2 then A.2.2.1 else 1000) := fun k h q => by
    split
    · exact (hk k h q).2
    · exact nIk k h
  generalize (if 0 < A.2.2.2 then A.2.2.1 else 1000) = st' at hN hst' hle' hk' ⊢
  have z2 : z_P (g_n M + 1) (aB W2 R (g_n M + 1) x (bl_st M x)) fB A.1 (e_put (g_n M + 1) (sv_co x) (some st') A.1) 2 0 1 := zP_sf (Or.inr (Or.inr ⟨rfl, hst'⟩))
  have zz := zP_trans z z2
  have hc : z_cd (aB W2 R (g_n M + 1) x (bl_st M x)) fB := ⟨fun c v q => (aB_at hx (by omega) hW2 q).1, fun c q => q.elim⟩
  have hA : ∀ c v, aB W2 R (g_n M + 1) x (bl_st M x) c v → y_K c ∧ y_E W R c (some v) ∧ (c / 121000000 = 996 → s_dig c 1 = g_n M + 1 + 1000) := fun c v q => by
    obtain ⟨-, q2, q3, q4⟩ := aB_at hx (by omega) hW2 q
    exact ⟨q2, yE_mono hWW (fun _ h => h) q3, q4⟩
  by_cases e2 : x = 2
  · subst e2
    refine I_cmt (V' := (g_n M + 1) :: V) (X := [sv_co 2]) I hi ?_ (show 2 * 1 ≤ 11 from by decide) (fun c h => zP_keys zz h) hN
    refine S_cm (e := 0) hS (by omega) I.2.2.2.1.2.2 zz hc hA ?_ (by omega) (by decide) (by omega)
    refine iV_bld (st := bl_st M 2) (st' := st') hS.2.2.1 hS.1.1.2.1 (by omega) h1.2.2.2.2.1 zz no4 rfl (fun q => hst (Or.inl q)) ?_ hle' (fun c v q => ?_) (fun k h q => ?_) (fun c h => List.mem_append.mpr (Or.inl h)) (List.mem_append.mpr (Or.inr List.mem_cons_self))
    · rw [put_val, if_pos ⟨rfl, Nat.le_refl _⟩]; rfl
    · rcases q with ⟨-, k, q1, q2, q3, q4⟩ | ⟨q1, -⟩ | ⟨q1, -⟩
      · exact Or.inr ⟨k, q1, q2, q3, q4⟩
      · exact absurd rfl q1
      · exact Or.inl q1
    · refine hk' k h ?_
      rw [put_val, if_neg (fun q => ?_)] at q
      · exact q
      · have l1 := (m4_ly (v := g_n M + 1) (k := k) (by omega) h).1
        rw [← q.1, co2_ly] at l1
        cases l1
  · refine I_cmt (V' := V) (X := [sv_co x]) I hi ?_ (show 2 * 1 ≤ 11 from by decide) (fun c h => zP_keys zz h) hN
    refine S_cm (e := 0) hS (by omega) I.2.2.2.1.2.2 zz hc hA ?_ (by omega) (by decide) (by omega)
    refine iV_cm hS.2.2.1 hS.1.1.2.1 (by omega) h1.2.2.2.2.1 zz (fun c v q => ⟨?_, (hA c v q).2.2, ?_⟩) (fun c q => q.elim) (fun c h => List.mem_append.mpr (Or.inl h))
    · rcases q with ⟨q1, -⟩ | ⟨-, q1, -⟩ | ⟨rfl, -⟩
      · exact absurd q1 e2
      · exact Or.inl (hWW c q1)
      · exact Or.inr (List.mem_append.mpr (Or.inr List.mem_cons_self))
    · intro e
      rcases q with ⟨q1, -⟩ | ⟨-, -, q1⟩ | ⟨q1, -⟩
      · exact e2 q1
      · have := co2_ly
        rw [← e] at this
        omega
      · rw [q1] at e
        rcases s_in3 hx with rfl | rfl | rfl
        · exact absurd e (by decide +kernel)
        · exact absurd e (by decide +kernel)
        · exact e2 rfl
theorem I_build {i N w : Nat} {M : s_M} {x most : Int32} (I : i_I i M N w) (hi : i < 512) : ∃ k, (s_inB x 0 2 = true → s_inB most 1 20 = true → ¬ (bl_st M x = -2147483648 ∨ bl_st M x = 1000) → g_sp M (bl_E M x most) ≤ k) ∧ i_I (i + 1) (F_build M x most).1 (N + 1 + k) w := by
  unfold F_build
  cases hx : s_inB x 0 2 with
  | false => exact ⟨0, fun z => (by cases z), by rw [if_pos rfl]; exact I_0 I (by omega)⟩
  | true =>
    rw [if_neg (by decide)]
    cases hm : s_inB most 1 20 with
    | false => exact ⟨0, fun _ z => (by cases z), by rw [if_pos rfl]; exact I_0 I (by omega)⟩
    | true =>
      rw [if_neg (by decide)]
      by_cases c : bl_st M x = -2147483648 ∨ bl_st M x = 1000
      · rw [if_pos c]
        exact ⟨0, fun _ _ z => absurd c z, I_0 I (by omega)⟩
      · rw [if_neg c]
        exact ⟨g_sp M (bl_E M x most), fun _ _ _ => Nat.le_refl _, (I_bl I hi hx hm c (Nat.le_refl _)).1⟩
