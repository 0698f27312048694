/-! DIRECTORIES -/
theorem I_dset {i N w : Nat} {M : s_M} {D : List s_D × Nat} (I : i_I i M N w) (h : i_D i (g_dset M D)) : i_I i (g_dset M D) N w := by
  obtain ⟨W, S, R, V, Vs, a, s, b, p, C, Dn, X, Y, Np, ⟨⟨g1, g2, g3⟩, hS, gX, gC, gN, g4⟩⟩ := I
  exact ⟨W, S, R, V, Vs, a, s, b, p, C, Dn, X, Y, Np, ⟨⟨i1_ds g1, h, g3⟩, hS, gX, gC, gN, g4⟩⟩
theorem I_D {i N w : Nat} {M : s_M} (I : i_I i M N w) : i_D i M := by
  obtain ⟨W, S, R, V, Vs, a, s, b, p, C, Dn, X, Y, Np, I⟩ := I
  exact I.1.2.1
theorem dfree_at (D : List s_D) : ∀ (k n : Nat), ∃ j, j ≤ k ∧ d_free D k n = n + j ∧ (∀ u, n ≤ u → u < n + j → d_used D u = true) ∧ (j < k → d_used D (n + j) = false) := by
  intro k
  induction k with
  | zero => intro n; exact ⟨0, Nat.le_refl _, rfl, fun u a b => by omega, fun z => by omega⟩
  | succ k ih =>
    intro n
    unfold d_free
    cases e : d_used D n with
    | true =>
      obtain ⟨j, h1, h2, h3, h4⟩ := ih (n + 1)
      refine ⟨j + 1, by omega, ?_, fun u a b => ?_, fun z => ?_⟩
      · rw [if_pos rfl, h2]; omega
      · by_cases q : u = n
        · rw [q]; exact e
        · exact h3 u (by omega) (by omega)
      · have := h4 (by omega)
        rw [show n + (j + 1) = n + 1 + j by omega]
        exact this
    | false =>
      rw [if_neg (by decide)]
      exact ⟨0, Nat.zero_le _, rfl, fun u a b => by omega, fun _ => e⟩
theorem dused_many {D : List s_D} {j : Nat} (h : ∀ u, 1 ≤ u → u < 1 + j → d_used D u = true) : j ≤ d_many D := by
  have := nd_len (l := List.range' 1 j) (m := (D.filter (fun d => !(decide (d.1 = 0)))).map (fun d => d.2.2.2)) (show List.Pairwise (fun x y => ¬ x = y) (List.range' 1 j) from List.nodup_range') (fun u hu => by
    rw [List.mem_range'_1] at hu
    have := h u hu.1 (by omega)
    unfold d_used at this
    obtain ⟨d, hd, hb⟩ := List.any_eq_true.mp this
    rw [Bool.and_eq_true, decide_eq_true_eq] at hb
    exact List.mem_map.mpr ⟨d, List.mem_filter.mpr ⟨hd, hb.1⟩, hb.2⟩)
  rw [List.length_range', List.length_map] at this
  unfold d_many
  rw [List.countP_eq_length_filter]
  exact this
theorem dfree_ok {D : List s_D} (h : d_many D ≤ 9) : d_fok D ∧ d_free D 12 1 ≤ 10 ∧ (d_many D < 9 → d_free D 12 1 ≤ 9) := by
  obtain ⟨j, h1, h2, h3, h4⟩ := dfree_at D 12 1
  have := dused_many h3
  unfold d_fok
  rw [h2]
  exact ⟨h4 (by omega), by omega, fun z => by omega⟩
theorem is_ex {D : List s_D × Nat} {x : Int32} (ok : d_ok D) (h : d_is D x = true) : ∃ d ∈ D.1, d.1 = t_of x ∧ x = nI d.1 := by
  obtain ⟨d, hd, e⟩ := List.any_eq_true.mp h
  have e : nI d.1 = x := by simpa using e
  refine ⟨d, hd, ?_, e.symm⟩
  have := ok.2.2.1 d hd
  have := ok.2.1
  unfold t_of
  rw [← e, nI_toInt (by omega)]
  omega
theorem in9_t {nm : Int32} (h : s_inB nm 0 9 = true) : t_of nm ≤ 9 := (s_inN (m := 9) (by decide) h).2
theorem D_make {i : Nat} {M : s_M} {p nm : Int32} (I : i_D i M) (hi : i < 512) (hp : d_is (g_DS M) p = true) (hnm : s_inB nm 0 9 = true) (h9 : ¬ d_many (g_DS M).1 = 9) : i_D (i + 1) (g_dset M ((g_DS M).1 ++ [((g_DS M).2, some (t_of p), t_of nm, d_free (g_DS M).1 12 1)], (g_DS M).2 + 1)) := by
  obtain ⟨ok, m9, d2, d10⟩ := I
  have hf := dfree_ok m9
  obtain ⟨e, he, ep, -⟩ := is_ex ok hp
  obtain ⟨w, o2, o3, o4⟩ := ok
  obtain ⟨w1, w2, w3, ⟨rk, w4⟩, w5⟩ := id w
  have pos : 0 < (g_DS M).2 := Nat.lt_of_le_of_lt (Nat.zero_le _) (o3 _ w2)
  have many : d_many ((g_DS M).1 ++ [((g_DS M).2, some (t_of p), t_of nm, d_free (g_DS M).1 12 1)]) = d_many (g_DS M).1 + 1 := by
    unfold d_many
    rw [List.countP_append, List.countP_singleton, if_pos]
    simp
    omega
  have hl := d_len w
  refine ⟨⟨⟨?_, ?_, ?_, ⟨fun q => if q = (g_DS M).2 then rk (t_of p) + 1 else rk q, ?_⟩, ?_⟩, ?_, ?_, ?_⟩, ?_, ?_, ?_⟩
  · refine List.pairwise_append.mpr ⟨w1, List.pairwise_singleton _ _, fun x hx y hy => ?_⟩
    have : y = ((g_DS M).2, some (t_of p), t_of nm, d_free (g_DS M).1 12 1) := by simpa using hy
    rw [this]
    exact o3 x hx
  · exact List.mem_append.mpr (Or.inl w2)
  · intro d hd h0
    rcases List.mem_append.mp hd with hd | hd
    · obtain ⟨q, e1, f, hf, e2⟩ := w3 d hd h0
      exact ⟨q, e1, f, List.mem_append.mpr (Or.inl hf), e2⟩
    · have : d = ((g_DS M).2, some (t_of p), t_of nm, d_free (g_DS M).1 12 1) := by simpa using hd
      rw [this]
      exact ⟨t_of p, rfl, e, List.mem_append.mpr (Or.inl he), ep⟩
  · intro d hd q hq
    rcases List.mem_append.mp hd with hd | hd
    · have h1 := o3 d hd
      have h2 : q < (g_DS M).2 := by
        by_cases h0 : d.1 = 0
        · rw [d_root w hd h0] at hq; cases hq
        · obtain ⟨q', e1, f, hf, e2⟩ := w3 d hd h0
          rw [e1] at hq
          injection hq with hq
          rw [← hq, ← e2]
          exact o3 f hf
      show (if q = _ then _ else _) < (if d.1 = _ then _ else _)
      rw [if_neg (by omega), if_neg (by omega)]
      exact w4 d hd q hq
    · have : d = ((g_DS M).2, some (t_of p), t_of nm, d_free (g_DS M).1 12 1) := by simpa using hd
      rw [this] at hq ⊢
      injection hq with hq
      have h2 : t_of p < (g_DS M).2 := by rw [← ep]; exact o3 e he
      show (if q = _ then _ else _) < (if (g_DS M).2 = _ then _ else _)
      rw [if_neg (by omega), if_pos rfl, ← hq]
      exact Nat.lt_succ_self _
  · intro d hd
    rcases List.mem_append.mp hd with hd | hd
    · exact w5 d hd
    · have : d = ((g_DS M).2, some (t_of p), t_of nm, d_free (g_DS M).1 12 1) := by simpa using hd
      rw [this]
      exact ⟨in9_t hnm, hf.2.2 (by omega)⟩
  · show (g_DS M).2 + 1 ≤ 1024
    omega
  · intro d hd
    rcases List.mem_append.mp hd with hd | hd
    · exact Nat.lt_succ_of_lt (o3 d hd)
    · have : d = ((g_DS M).2, some (t_of p), t_of nm, d_free (g_DS M).1 12 1) := by simpa using hd
      rw [this]
      exact Nat.lt_succ_self _
  · show ((g_DS M).1 ++ [_]).length ≤ 1024
    rw [List.length_append]
    show (g_DS M).1.length + 1 ≤ 1024
    omega
  · show d_many ((g_DS M).1 ++ [_]) ≤ 9
    rw [many]; omega
  · show (g_DS M).2 + 1 ≤ i + 1 + 1
    omega
  · show ((g_DS M).1 ++ [_]).length ≤ 10
    rw [List.length_append]
    show (g_DS M).1.length + 1 ≤ 10
    omega
theorem I_directory {i N w : Nat} {M : s_M} {p nm : Int32} (I : i_I i M N w) (hi : i < 512) : i_I (i + 1) (F_directory M p nm).1 (N + 1) w := by
  rcases z_directory (M := M) (p := p) (nm := nm) with e | ⟨h1, h2, -, h4, e⟩
  · rw [e]; exact I_0 I (by omega)
  · rw [e]
    exact I_dset (I_0 I (by omega)) (D_make (I_D I) hi h1 h2 h4)
theorem mv_fst {D : List s_D} {d p nm : Nat} {x : s_D} (h : x ∈ d_mv D d p nm) : ∃ y ∈ D, x.1 = y.1 ∧ x.2.2.2 = y.2.2.2 ∧ ((y.1 = d ∧ x.2.1 = some p ∧ x.2.2.1 = nm) ∨ (¬ y.1 = d ∧ x = y)) := by
  obtain ⟨y, hy, rfl⟩ := List.mem_map.mp h
  by_cases e : y.1 = d
  · rw [if_pos e]; exact ⟨y, hy, rfl, rfl, Or.inl ⟨e, rfl, rfl⟩⟩
  · rw [if_neg e]; exact ⟨y, hy, rfl, rfl, Or.inr ⟨e, rfl⟩⟩
theorem D_move {i : Nat} {M : s_M} {d p nm : Int32} (I : i_D i M) (h : mv_can (g_DS M) d p nm = true) : i_D (i + 1) (g_dset M (d_mv (g_DS M).1 (t_of d) (t_of p) (t_of nm), (g_DS M).2)) := by
  obtain ⟨ok, m9, d2, d10⟩ := I
  unfold mv_can at h
  simp only [Bool.and_eq_true, decide_eq_true_eq, Bool.not_eq_true'] at h
  obtain ⟨⟨⟨⟨hd, hp⟩, hnm⟩, hd0⟩, hb⟩ := h
  obtain ⟨e, he, ep, -⟩ := is_ex ok hp
  obtain ⟨f, hf, ef, ef2⟩ := is_ex ok hd
  have d0 : ¬ t_of d = 0 := fun z => hd0 (by rw [ef2, ef, z]; decide)
  generalize t_of d = dd at *
  generalize t_of p = pp at *
  obtain ⟨w, o2, o3, o4⟩ := ok
  obtain ⟨w1, w2, w3, ⟨rk, w4⟩, w5⟩ := id w
  have inv : ∀ y ∈ (g_DS M).1, ∃ x ∈ d_mv (g_DS M).1 dd pp (t_of nm), x.1 = y.1 := fun y hy => by
    refine ⟨_, List.mem_map.mpr ⟨y, hy, rfl⟩, ?_⟩
    split <;> rfl
  refine ⟨⟨⟨?_, ?_, ?_, ⟨fun q => if d_bel (g_DS M).1 q dd = true then rk q + (rk pp + 1) else rk q, ?_⟩, ?_⟩, o2, ?_, ?_⟩, ?_, ?_, ?_⟩
  · refine List.pairwise_map.mpr (w1.imp (fun {a b} h => ?_))
    have h : a.1 < b.1 := h
    show (if a.1 = dd then _ else a : s_D).1 < (if b.1 = dd then _ else b : s_D).1
    split <;> split <;> exact h
  · exact List.mem_map.mpr ⟨_, w2, if_neg (fun z => d0 z.symm)⟩
  · intro x hx h0
    obtain ⟨y, hy, e1, -, e3⟩ := mv_fst hx
    rcases e3 with ⟨-, e3, -⟩ | ⟨-, rfl⟩
    · obtain ⟨x', hx', ex'⟩ := inv e he
      exact ⟨pp, e3, x', hx', by rw [ex', ep]⟩
    · obtain ⟨q, q1, g, hg, q2⟩ := w3 x hy h0
      obtain ⟨x', hx', ex'⟩ := inv g hg
      exact ⟨q, q1, x', hx', by rw [ex', q2]⟩
  · intro x hx q hq
    obtain ⟨y, hy, e1, -, e3⟩ := mv_fst hx
    show (if d_bel (g_DS M).1 q dd = true then rk q + (rk pp + 1) else rk q) < (if d_bel (g_DS M).1 x.1 dd = true then rk x.1 + (rk pp + 1) else rk x.1)
    rcases e3 with ⟨e3, e4, -⟩ | ⟨e3, rfl⟩
    · rw [e4] at hq
      injection hq with hq
      rw [← hq, e1, e3, if_neg (by rw [hb]; decide), if_pos (d_bel_self _ _)]
      omega
    · have hpa : d_pa (g_DS M).1 x.1 = some q := by rw [d_pa_of w1 hy, hq]
      rw [d_bel_some e3 hpa]
      have := w4 x hy q hq
      split <;> omega
  · intro x hx
    obtain ⟨y, hy, e1, e2, e3⟩ := mv_fst hx
    have h5 := w5 y hy
    rcases e3 with ⟨-, -, e3⟩ | ⟨-, rfl⟩
    · exact ⟨by rw [e3]; exact in9_t hnm, by rw [e2]; exact h5.2⟩
    · exact h5
  · intro x hx
    obtain ⟨y, hy, e1, -⟩ := mv_fst hx
    rw [e1]
    exact o3 y hy
  · show (d_mv (g_DS M).1 dd pp (t_of nm)).length ≤ 1024
    unfold d_mv
    rw [List.length_map]
    exact o4
  · show d_many (d_mv (g_DS M).1 dd pp (t_of nm)) ≤ 9
    have : d_many (d_mv (g_DS M).1 dd pp (t_of nm)) = d_many (g_DS M).1 := by
      unfold d_many d_mv
      rw [List.countP_map]
      refine List.countP_congr (fun x _ => ?_)
      show (!decide ((if x.1 = dd then _ else x : s_D).1 = 0)) = true ↔ _
      split <;> rfl
    omega
  · exact Nat.le_succ_of_le d2
  · show (d_mv (g_DS M).1 dd pp (t_of nm)).length ≤ 10
    unfold d_mv
    rw [List.length_map]
    exact d10
theorem I_move {i N w : Nat} {M : s_M} {d p nm : Int32} (I : i_I i M N w) : i_I (i + 1) (F_move M d p nm).1 (N + 1) w := by
  rcases z_move (M := M) (d := d) (p := p) (nm := nm) with e | ⟨h, e⟩
  · rw [e]; exact I_0 I (by omega)
  · rw [e]
    exact I_dset (I_0 I (by omega)) (D_move (I_D I) h)
/-! .. removing -/
theorem D_rm {i d : Nat} {M M' : s_M} (I : i_D i M) (hd : ¬ d = 0) : i_D (i + 1) (g_dset M' (rm_D M d)) := by
  obtain ⟨ok, m9, d2, d10⟩ := I
  obtain ⟨w, o2, o3, o4⟩ := ok
  obtain ⟨w1, w2, w3, ⟨rk, w4⟩, w5⟩ := id w
  have sub : ((g_DS M).1.filter (fun x => !(d_bel (g_DS M).1 x.1 d))).Sublist (g_DS M).1 := List.filter_sublist
  refine ⟨⟨⟨w1.sublist sub, ?_, ?_, ⟨rk, fun x hx q hq => w4 x (sub.mem hx) q hq⟩, fun x hx => w5 x (sub.mem hx)⟩, o2, fun x hx => o3 x (sub.mem hx), Nat.le_trans sub.length_le o4⟩, ?_, Nat.le_succ_of_le d2, Nat.le_trans sub.length_le d10⟩
  · exact List.mem_filter.mpr ⟨w2, by rw [d_root_bel w hd]; rfl⟩
  · intro x hx h0
    obtain ⟨hx1, hx2⟩ := List.mem_filter.mp hx
    obtain ⟨q, q1, g, hg, q2⟩ := w3 x hx1 h0
    refine ⟨q, q1, g, List.mem_filter.mpr ⟨hg, ?_⟩, q2⟩
    have hne : ¬ x.1 = d := fun z => by rw [z, d_bel_self] at hx2; cases hx2
    have hpa : d_pa (g_DS M).1 x.1 = some q := by rw [d_pa_of w1 hx1, q1]
    rw [d_bel_some hne hpa, ← q2] at hx2
    exact hx2
  · show d_many ((g_DS M).1.filter _) ≤ 9
    exact Nat.le_trans (sub.countP_le) m9
theorem rm_rng {x : s_D} (h : x.2.2.2 ≤ 9) : 121000000000 ≤ rm_lo x ∧ rm_lo x < rm_hi x + 1 ∧ rm_hi x + 1 ≤ 1331000000000 := by
  unfold rm_lo rm_hi
  generalize x.2.2.2 = k at h
  have hc : k = 0 ∨ k = 1 ∨ k = 2 ∨ k = 3 ∨ k = 4 ∨ k = 5 ∨ k = 6 ∨ k = 7 ∨ k = 8 ∨ k = 9 := by omega
  rcases hc with rfl | rfl | rfl | rfl | rfl | rfl | rfl | rfl | rfl | rfl <;> decide +kernel
theorem I_rE {i N w N' d : Nat} {M : s_M} (I : i_I i M N w) (hi : i < 512) (hN : N' ≤ N + 1 + g_sp M (rm_E M d)) : i_I (i + 1) (g_cm M (rm_E M d)) N' w ∧ g_ps M (rm_E M d) ∧ e_lim (rm_E M d) := by
  have hD := I_D I
  obtain ⟨W, S, R, V, Vs, a, s, b, p, C, D, X, Y, Np, I⟩ := I
  have hn := A_n I hi
  have hS := I.2.1
  have h1 := I.1.1
  have hc : z_cd (fun _ _ => False) (fun c => 121000000000 ≤ c ∧ c < 1331000000000) := ⟨fun c v h => h.elim, fun c h => h.2⟩
  have z := zP_fold (n := g_n M + 1) (A := fun _ _ => False) (B := fun c => 121000000000 ≤ c ∧ c < 1331000000000) (g := fun E x => e_clr (g_n M + 1) (rm_lo x) (rm_hi x + 1) E) (k := 0) (m := 1) (f := 0) hc (rm_gone M d) (g_E M) hS.1.2 (fun x hx F K _ => by
    obtain ⟨r1, r2, r3⟩ := rm_rng (hD.1.1.2.2.2.2 x (List.mem_filter.mp hx).1).2
    exact zP_clr K r2 (by omega) (fun c p q => ⟨by omega, by omega⟩))
  have hg : (rm_gone M d).length ≤ 10 := Nat.le_trans (List.length_filter_le _ _) hD.2.2.2
  have eE : (rm_gone M d).foldl (fun E x => e_clr (g_n M + 1) (rm_lo x) (rm_hi x + 1) E) (g_E M) = rm_E M d := rfl
  rw [eE] at z
  refine I_cmt (V' := V) (X := []) I hi ?_ (show 2 * 0 ≤ 11 from by decide) (fun c h => zP_keys z h) hN
  refine S_cm (e := 0) hS (by omega) I.2.2.2.1.2.2 z hc (fun d v h => h.elim) (iV_cm hS.2.2.1 hS.1.1.2.1 (by omega) h1.2.2.2.2.1 z (fun d v h => h.elim) (fun d h e => ?_) (fun d h => List.mem_append.mpr (Or.inl h))) (by omega) (by omega) (by omega)
  have := co2_ly
  rw [← e] at this
  have h := h.1
  omega
theorem rm_small {i N w : Nat} {M : s_M} (I : i_I i M N w) (hi : i ≤ 512) (o : Nat) : rm_many M o < 2 ^ 31 := by
  have hD := I_D I
  obtain ⟨W, S, R, V, Vs, a, s, b, p, C, D, X, Y, Np, I⟩ := I
  have hk := (A_lim I hi).1.1
  have key : ∀ l : List s_D, (l.map (rm_cnt M)).sum ≤ 12000 * l.length := by
    intro l
    induction l with
    | nil => exact Nat.zero_le _
    | cons x l ih =>
      rw [List.map_cons, List.sum_cons, List.length_cons, Nat.mul_add]
      have : rm_cnt M x ≤ 12000 := Nat.le_trans (List.length_filter_le _ _) hk
      omega
  have h1 := key (rm_gone M o)
  have hg : (rm_gone M o).length ≤ 10 := Nat.le_trans (List.length_filter_le _ _) hD.2.2.2
  unfold rm_many
  omega
theorem I_remove {i N w : Nat} {M : s_M} {x : Int32} (I : i_I i M N w) (hi : i < 512) : ∃ k, (d_is (g_DS M) x = true → ¬ x = 0 → 0 < rm_many M (t_of x) → g_sp M (rm_E M (t_of x)) ≤ k) ∧ i_I (i + 1) (F_remove M x).1 (N + 1 + k) w := by
  have hD := I_D I
  rcases z_remove (M := M) (x := x) with e | ⟨h1, h2, e⟩
  · by_cases c : d_is (g_DS M) x = true ∧ ¬ x = 0
    · have c0 : ¬ t_of x = 0 := fun z => by
        obtain ⟨d, hd, q1, q2⟩ := is_ex hD.1 c.1
        exact c.2 (by rw [q2, q1, z]; rfl)
      by_cases c3 : 0 < rm_many M (t_of x)
      · exfalso
        have e2 : (F_remove M x).1 = g_dset (g_cm M (rm_E M (t_of x))) (rm_D M (t_of x)) := by
          unfold F_remove
          rw [if_neg (by rw [c.1]; decide), if_neg c.2]
          show g_dset (if _ then _ else _) _ = _
          rw [if_pos c3]
        rw [e] at e2
        have e3 : g_n M = g_n M + 1 := congrArg g_n e2
        omega
      · exact ⟨0, fun _ _ z => absurd z c3, by rw [e]; exact I_0 I (by omega)⟩
    · exact ⟨0, fun a b => absurd ⟨a, b⟩ c, by rw [e]; exact I_0 I (by omega)⟩
  · have c0 : ¬ t_of x = 0 := fun z => by
      obtain ⟨d, hd, q1, q2⟩ := is_ex hD.1 h1
      exact h2 (by rw [q2, q1, z]; rfl)
    rw [e]
    by_cases c3 : 0 < rm_many M (t_of x)
    · rw [if_pos c3]
      exact ⟨g_sp M (rm_E M (t_of x)), fun _ _ _ => Nat.le_refl _, I_dset (I_rE I hi (Nat.le_refl _)).1 (D_rm hD c0)⟩
    · rw [if_neg c3]
      exact ⟨0, fun _ _ z => absurd z c3, I_dset (I_0 I (by omega)) (D_rm hD c0)⟩
