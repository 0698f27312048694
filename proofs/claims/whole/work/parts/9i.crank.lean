/-! THE CLASS RANKS -/
theorem fold_0 {f : Nat → Int32} : ∀ (X : List Nat) (a : Int32), (∀ k ∈ X, f k = 0) → X.foldl (fun a k => a + f k) a = a := by
  intro X
  induction X with
  | nil => exact fun _ _ => rfl
  | cons x X ih =>
    intro a h
    rw [List.foldl_cons, h x List.mem_cons_self, Int32.add_zero]
    exact ih a (fun k hk => h k (List.mem_cons_of_mem _ hk))
theorem fold_s {f : Nat → Int32} (k : Nat) : (List.range' 0 (k + 1)).foldl (fun a k => a + f k) 0 = (List.range' 0 k).foldl (fun a k => a + f k) 0 + f k := by
  rw [List.range'_concat, List.foldl_append]
  show (List.range' 0 k).foldl (fun a k => a + f k) 0 + f (0 + 1 * k) = _
  rw [Nat.one_mul, Nat.zero_add]
theorem in99 {x : Int32} (h : s_inB x 0 99 = true) : 0 ≤ x ∧ x ≤ 99 := by
  unfold s_inB at h
  simp only [Bool.and_eq_true, decide_eq_true_eq, Int32.not_lt] at h
  exact h
theorem in99_not {x : Int32} (h : s_inB x 0 99 = false) : ¬ (0 ≤ x ∧ x ≤ 99) := fun z => by
  unfold s_inB at h
  rw [decide_eq_true (Int32.not_lt.mpr z.1), decide_eq_true (Int32.not_lt.mpr z.2)] at h
  cases h
theorem in99_n {x : Int32} (h : s_inB x 0 99 = true) : ∃ j, j ≤ 99 ∧ x = nI j := by
  obtain ⟨h1, h2⟩ := s_inN (m := 99) (by decide) h
  exact ⟨_, h2, h1⟩
theorem na_100 {k : Nat} (h : k < 9000) : s_na (nI k) := e_n_na h
section CRK
variable {G : k_G} {l : Launch}
theorem W_entry (ok : k_ok G l) {a N w c : Nat} {B : Nat × Nat} {h : k_H} {M : s_M} (W : c_W a B h M N w) (hc : c < 1331000000000) : k_ctr (tX8_entryIn G l) [vR (some (a + 1)), vJ (lN c), vI (nI (g_n M))] h (fun h' v => h' = h ∧ ((v = none ∧ rk_v M c = none) ∨ (∃ a k w b e, v = some a ∧ h.1 a = some (o_ent k w b e (rk_v M c))))) := by
  obtain ⟨Q, S, PS, s, r, p, co⟩ := W
  have := (sE_n s).1
  exact c_E_entryIn ok s (by omega) (by omega)
theorem W_load (ok : k_ok G l) {a N w : Nat} {B : Nat × Nat} {h : k_H} {M : s_M} {x : Option Nat} {o : Option Int32} (W : c_W a B h M N w) (hx : (x = none ∧ o = none) ∨ (∃ a k v b e, x = some a ∧ h.1 a = some (o_ent k v b e o))) : k_ctv (tX0_load G l) [vR (some (a + 10)), vR x] h (fun h' => c_W a B h' M N w ∧ h'.1 (a + 10) = some (o_cel o false)) := by
  obtain ⟨Q, S, PS, s, r, p, co⟩ := W
  obtain ⟨⟨z0, l1⟩, -⟩ := id r.2.2.2.1
  obtain ⟨h', t, e⟩ := c_X0_load ok l1 hx
  obtain ⟨s1, q1, l11, m1⟩ := cell_rs s r (o, false) e
  exact ⟨h', t, ⟨Q, S, PS, s1, q1, p, co_le (co_mo co m1) (Nat.le_refl _)⟩, l11⟩
theorem W_cel {a N w : Nat} {B : Nat × Nat} {h : k_H} {M : s_M} (W : c_W a B h M N w) : ∃ z : Option Int32 × Bool, h.1 (a + 10) = some (o_cel z.1 z.2) := by
  obtain ⟨Q, S, PS, s, r, p, co⟩ := W
  exact r.2.2.2.1.1
theorem C_rank (ok : k_ok G l) {a N w : Nat} {B : Nat × Nat} {h : k_H} {M : s_M} {x : Int32} (W : c_W a B h M N w) : k_ct (tX11_rank G l) [vR (some a), vI x] h (c_R a B (F_rank M x) x_A (N + 1) w) := by
  refine eX11_rank ok.2 ?_
  cases hin : s_inB x 0 99 with
  | false =>
    refine bX11_rank_0x (x_X11_requireField ok (in99_not hin)) ?_
    rintro _ rfl
    exact R_x (k := 1) (X := x_A) W (by unfold F_rank F_ranked; rw [if_pos hin]) (by decide)
  | true =>
    refine bX11_rank_0 (c_X11_requireField ok (in99 hin)) ?_
    rintro _ hh
    rw [hh]
    obtain ⟨f, hf, rfl⟩ := in99_n hin
    refine bX11_rank_4 ?_
    have key : ∀ (d k : Nat) (hh : k_H), f - k = d → k ≤ f → c_W a B hh M N w → k_X (jX11_rank G l h) hh 8 [(0, vR (some a)), (1, vI (nI f)), (2, vI ((List.range' 0 k).foldl (fun a k => a + rk_1 M (nI f) false k) 0)), (3, vI (nI k))] [] (c_R a B (F_rank M (nI f)) x_A (N + 1) w) := by
      intro d
      induction d with
      | zero =>
        intro k hh hd hk W1
        have e : k = f := by omega
        subst e
        refine bX11_rank_8 (fun _ => bX11_rank_56 (R_ok (W_le W1 (by omega)) ?_)) (fun c => absurd (Int32.le_refl _) c)
        unfold F_rank F_ranked
        rw [if_neg (by rw [hin]; decide)]
        refine congrArg (fun v => (M, 0, v)) ?_
        unfold rk_sum
        have e1 : List.range' 0 100 = List.range' 0 k ++ List.range' k (100 - k) := by
          have := List.range'_append (s := 0) (m := k) (n := 100 - k) (step := 1)
          rw [show k + (100 - k) = 100 by omega, Nat.one_mul, Nat.zero_add] at this
          exact this.symm
        rw [e1, List.foldl_append]
        refine fold_0 _ _ (fun j hj => ?_)
        have hj2 := List.mem_range'_1.mp hj
        unfold rk_1
        rw [if_neg (by decide), if_neg]
        rw [decide_eq_false (show ¬ ¬ nI k ≤ nI j from fun z => z ((nI_leI (by omega) (by omega)).mpr hj2.1)), Bool.and_false]
        decide
      | succ d ih =>
        intro k hh hd hk W1
        refine bX11_rank_8 (fun c => absurd ((nI_leI (by omega) (by omega)).mp c) (by omega)) (fun c => ?_)
        obtain ⟨o14, f0, f1, f2, f3, f4, f5, o11⟩ := W_ob W1
        have hcd := s_cd_lt na_m6.2.2.2.2.1 (na_100 (k := k) (by omega)) na_m6.2.2.2.2.2.2.2
        refine bX11_rank_13 o14 rfl rfl (c_X11_codeOf_ ok na_m6.2.2.2.2.1 (na_100 (by omega))) ?_
        rintro _ _ ⟨hh2, rfl⟩
        rw [hh2]
        refine bX11_rank_27 o14 rfl o11 rfl (k_is_o o11) (W_entry ok W1 hcd) ?_
        rintro _ v ⟨hh2, hv⟩
        rw [hh2]
        obtain ⟨z, oc⟩ := W_cel W1
        refine bX11_rank_37 (k_is_o oc) (W_load ok W1 hv) ?_
        rintro h3 ⟨W3, oc3⟩
        obtain ⟨o14, -⟩ := W_ob W3
        refine bX11_rank_40 o14 rfl oc3 rfl ?_
        rw [nI_1]
        have e1 : (rk_v M (s_cd (-3) (nI k) 10000)).getD 0 = rk_1 M (nI f) false k := by
          unfold rk_1
          rw [if_neg (by decide), decide_eq_true (show ¬ nI f ≤ nI k from c), Bool.and_true]
          cases rk_v M (s_cd (-3) (nI k) 10000) <;> rfl
        rw [e1, ← fold_s]
        exact ih (k + 1) h3 (by omega) (by omega) W3
    exact key f 0 h rfl (Nat.zero_le _) W
theorem C_rankAnew (ok : k_ok G l) {a N w : Nat} {B : Nat × Nat} {h : k_H} {M : s_M} {x : Int32} (W : c_W a B h M N w) : k_ct (tX11_rankAnew G l) [vR (some a), vI x] h (c_R a B (F_rankAnew M x) x_A (N + 1) w) := by
  refine eX11_rankAnew ok.2 ?_
  cases hin : s_inB x 0 99 with
  | false =>
    refine bX11_rankAnew_0x (x_X11_requireField ok (in99_not hin)) ?_
    rintro _ rfl
    exact R_x (k := 1) (X := x_A) W (by unfold F_rankAnew F_ranked; rw [if_pos hin]) (by decide)
  | true =>
    refine bX11_rankAnew_0 (c_X11_requireField ok (in99 hin)) ?_
    rintro _ hh
    rw [hh]
    refine bX11_rankAnew_4 ?_
    have key : ∀ (d k : Nat) (hh : k_H), 100 - k = d → k ≤ 100 → c_W a B hh M N w → k_X (jX11_rankAnew G l h) hh 8 [(0, vR (some a)), (1, vI x), (2, vI ((List.range' 0 k).foldl (fun a k => a + rk_1 M x true k) 0)), (3, vI (nI k))] [] (c_R a B (F_rankAnew M x) x_A (N + 1) w) := by
      intro d
      induction d with
      | zero =>
        intro k hh hd hk W1
        have e : k = 100 := by omega
        subst e
        refine bX11_rankAnew_8 (fun _ => bX11_rankAnew_70 (R_ok (W_le W1 (by omega)) ?_)) (fun c => absurd (by decide) c)
        unfold F_rankAnew F_ranked
        rw [if_neg (by rw [hin]; decide)]
        rfl
      | succ d ih =>
        intro k hh hd hk W1
        refine bX11_rankAnew_8 (fun c => absurd ((nI_ltI (a := 99) (by omega) (by omega)).mp c) (by omega)) (fun c => ?_)
        obtain ⟨o14, f0, f1, f2, f3, f4, f5, o11⟩ := W_ob W1
        have hcd := s_cd_lt na_m6.2.2.2.2.2.2.1 (na_100 (k := k) (by omega)) na_m6.2.2.2.2.2.2.2
        refine bX11_rankAnew_14 o14 rfl rfl (c_X11_codeOf_ ok na_m6.2.2.2.2.2.2.1 (na_100 (by omega))) ?_
        rintro _ _ ⟨hh2, rfl⟩
        rw [hh2]
        refine bX11_rankAnew_27 o14 rfl o11 rfl (k_is_o o11) (W_entry ok W1 hcd) ?_
        rintro _ v ⟨hh2, hv⟩
        rw [hh2]
        obtain ⟨z, oc⟩ := W_cel W1
        refine bX11_rankAnew_37 (k_is_o oc) (W_load ok W1 hv) ?_
        rintro h3 ⟨W3, oc3⟩
        obtain ⟨o14, -⟩ := W_ob W3
        have next : ∀ v, (List.range' 0 k).foldl (fun a k => a + rk_1 M x true k) 0 + rk_1 M x true k = v → k_X (jX11_rankAnew G l h) h3 64 [(0, vR (some a)), (1, vI x), (2, vI v), (3, vI (nI k))] [] (c_R a B (F_rankAnew M x) x_A (N + 1) w) := fun v hv => by
          refine bX11_rankAnew_64 ?_
          rw [nI_1, ← hv, ← fold_s]
          exact ih (k + 1) h3 (by omega) (by omega) W3
        have e1 : rk_1 M x true k = if (rk_v M (s_cd (-1) (nI k) 10000)).isSome && decide (¬ x ≤ o_told (rk_v M (s_cd (-1) (nI k) 10000))) then 1 else 0 := rfl
        rw [e1] at next
        cases ho : rk_v M (s_cd (-1) (nI k) 10000) with
        | none =>
          rw [ho] at oc3 next
          refine bX11_rankAnew_40 o14 rfl oc3 rfl (fun _ => next _ ?_) (fun c => absurd rfl c)
          exact Int32.add_zero _
        | some u =>
          rw [ho] at oc3 next
          refine bX11_rankAnew_40 o14 rfl oc3 rfl (fun c => absurd c (show ¬ (1 : Int32) = 0 by decide)) (fun _ => bX11_rankAnew_50 o14 rfl oc3 rfl (fun c => next _ ?_) (fun c => bX11_rankAnew_61 (next _ ?_)))
          · rw [if_neg]
            · exact Int32.add_zero _
            · rw [decide_eq_false (show ¬ ¬ x ≤ o_told (some u) from fun z => z c), Bool.and_false]; decide
          · rw [if_pos]
            rw [decide_eq_true (show ¬ x ≤ o_told (some u) from c)]; rfl
    exact key 100 0 h rfl (by omega) W
end CRK
